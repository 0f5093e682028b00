section
-- ===== PART A: goes FIRST, ahead of the names: the tables' words, and 'selects' of the private methods out of them =====
/-- a private method of a class that the tables say can be made, by its rows of tables_1 -/
def lw_okq (q : MethodName × Nat) : Prop := (q.1.cls ≠ "java/lang/invoke/MethodHandle" ∧ q.1.cls ≠ "java/lang/invoke/VarHandle") ∧ Cond.instantiable q.1.cls q.2 ∈ tables_1 ∧ Cond.privateMethod q.1 ∈ tables_1 ∧ Cond.instanceMethod q.1 ∈ tables_1
theorem lw_p0 : lw_okq (⟨"RoadRiver", "isYard", "(I)Z"⟩, 11) := ⟨⟨by decide +kernel, by decide +kernel⟩, List.mem_of_getElem? (i := 15) (by decide +kernel), List.mem_of_getElem? (i := 317) (by decide +kernel), List.mem_of_getElem? (i := 318) (by decide +kernel)⟩
theorem lw_p1 : lw_okq (⟨"RoadRiver$Valley", "fillLowYards", "()V"⟩, 9) := ⟨⟨by decide +kernel, by decide +kernel⟩, List.mem_of_getElem? (i := 46) (by decide +kernel), List.mem_of_getElem? (i := 341) (by decide +kernel), List.mem_of_getElem? (i := 342) (by decide +kernel)⟩
theorem lw_p2 : lw_okq (⟨"RoadRiver$Valley", "fillLevels", "(I)V"⟩, 9) := ⟨⟨by decide +kernel, by decide +kernel⟩, List.mem_of_getElem? (i := 46) (by decide +kernel), List.mem_of_getElem? (i := 354) (by decide +kernel), List.mem_of_getElem? (i := 355) (by decide +kernel)⟩
theorem lw_p3 : lw_okq (⟨"RoadRiver$Valley", "firstThaw", "(I)I"⟩, 9) := ⟨⟨by decide +kernel, by decide +kernel⟩, List.mem_of_getElem? (i := 46) (by decide +kernel), List.mem_of_getElem? (i := 358) (by decide +kernel), List.mem_of_getElem? (i := 359) (by decide +kernel)⟩
theorem lw_p4 : lw_okq (⟨"RoadRiver$Valley", "fillWet", "(I)V"⟩, 9) := ⟨⟨by decide +kernel, by decide +kernel⟩, List.mem_of_getElem? (i := 46) (by decide +kernel), List.mem_of_getElem? (i := 362) (by decide +kernel), List.mem_of_getElem? (i := 363) (by decide +kernel)⟩
theorem lw_p5 : lw_okq (⟨"RoadRiver", "find", "(I)I"⟩, 11) := ⟨⟨by decide +kernel, by decide +kernel⟩, List.mem_of_getElem? (i := 15) (by decide +kernel), List.mem_of_getElem? (i := 409) (by decide +kernel), List.mem_of_getElem? (i := 410) (by decide +kernel)⟩
theorem lw_p6 : lw_okq (⟨"RoadRiver$Waiting", "fillPartings", "()V"⟩, 7) := ⟨⟨by decide +kernel, by decide +kernel⟩, List.mem_of_getElem? (i := 82) (by decide +kernel), List.mem_of_getElem? (i := 500) (by decide +kernel), List.mem_of_getElem? (i := 501) (by decide +kernel)⟩
theorem lw_p7 : lw_okq (⟨"RoadRiver$Waiting", "parting", "(II)I"⟩, 7) := ⟨⟨by decide +kernel, by decide +kernel⟩, List.mem_of_getElem? (i := 82) (by decide +kernel), List.mem_of_getElem? (i := 504) (by decide +kernel), List.mem_of_getElem? (i := 505) (by decide +kernel)⟩
theorem lw_p8 : lw_okq (⟨"RoadRiver$Waiting", "fillNextCases", "(I)V"⟩, 7) := ⟨⟨by decide +kernel, by decide +kernel⟩, List.mem_of_getElem? (i := 82) (by decide +kernel), List.mem_of_getElem? (i := 509) (by decide +kernel), List.mem_of_getElem? (i := 510) (by decide +kernel)⟩
theorem lw_p9 : lw_okq (⟨"RoadRiver$Waiting", "choose", "(IIII)V"⟩, 7) := ⟨⟨by decide +kernel, by decide +kernel⟩, List.mem_of_getElem? (i := 82) (by decide +kernel), List.mem_of_getElem? (i := 513) (by decide +kernel), List.mem_of_getElem? (i := 514) (by decide +kernel)⟩
theorem lw_p10 : lw_okq (⟨"RoadRiver$Waiting", "sumOfAlike", "([III)I"⟩, 7) := ⟨⟨by decide +kernel, by decide +kernel⟩, List.mem_of_getElem? (i := 82) (by decide +kernel), List.mem_of_getElem? (i := 517) (by decide +kernel), List.mem_of_getElem? (i := 518) (by decide +kernel)⟩
theorem lw_p11 : lw_okq (⟨"RoadRiver$Keeping", "dryDays", "(III)I"⟩, 4) := ⟨⟨by decide +kernel, by decide +kernel⟩, List.mem_of_getElem? (i := 112) (by decide +kernel), List.mem_of_getElem? (i := 558) (by decide +kernel), List.mem_of_getElem? (i := 559) (by decide +kernel)⟩
theorem lw_p12 : lw_okq (⟨"RoadRiver$Contracts", "fillBrought", "(I)V"⟩, 10) := ⟨⟨by decide +kernel, by decide +kernel⟩, List.mem_of_getElem? (i := 134) (by decide +kernel), List.mem_of_getElem? (i := 592) (by decide +kernel), List.mem_of_getElem? (i := 593) (by decide +kernel)⟩
theorem lw_p13 : lw_okq (⟨"RoadRiver$Contracts", "amountOf", "(II)I"⟩, 10) := ⟨⟨by decide +kernel, by decide +kernel⟩, List.mem_of_getElem? (i := 134) (by decide +kernel), List.mem_of_getElem? (i := 596) (by decide +kernel), List.mem_of_getElem? (i := 597) (by decide +kernel)⟩
theorem lw_p14 : lw_okq (⟨"RoadRiver$Contracts", "neverLoses", "(I)Z"⟩, 10) := ⟨⟨by decide +kernel, by decide +kernel⟩, List.mem_of_getElem? (i := 134) (by decide +kernel), List.mem_of_getElem? (i := 602) (by decide +kernel), List.mem_of_getElem? (i := 603) (by decide +kernel)⟩
theorem lw_p15 : lw_okq (⟨"RoadRiver$Contracts", "weightedSum", "(I)I"⟩, 10) := ⟨⟨by decide +kernel, by decide +kernel⟩, List.mem_of_getElem? (i := 134) (by decide +kernel), List.mem_of_getElem? (i := 606) (by decide +kernel), List.mem_of_getElem? (i := 607) (by decide +kernel)⟩
def lw_privs_1 : List (MethodName × Nat) := [(⟨"RoadRiver", "isYard", "(I)Z"⟩, 11), (⟨"RoadRiver$Valley", "fillLowYards", "()V"⟩, 9), (⟨"RoadRiver$Valley", "fillLevels", "(I)V"⟩, 9), (⟨"RoadRiver$Valley", "firstThaw", "(I)I"⟩, 9), (⟨"RoadRiver$Valley", "fillWet", "(I)V"⟩, 9), (⟨"RoadRiver", "find", "(I)I"⟩, 11), (⟨"RoadRiver$Waiting", "fillPartings", "()V"⟩, 7), (⟨"RoadRiver$Waiting", "parting", "(II)I"⟩, 7), (⟨"RoadRiver$Waiting", "fillNextCases", "(I)V"⟩, 7), (⟨"RoadRiver$Waiting", "choose", "(IIII)V"⟩, 7), (⟨"RoadRiver$Waiting", "sumOfAlike", "([III)I"⟩, 7), (⟨"RoadRiver$Keeping", "dryDays", "(III)I"⟩, 4), (⟨"RoadRiver$Contracts", "fillBrought", "(I)V"⟩, 10), (⟨"RoadRiver$Contracts", "amountOf", "(II)I"⟩, 10), (⟨"RoadRiver$Contracts", "neverLoses", "(I)Z"⟩, 10), (⟨"RoadRiver$Contracts", "weightedSum", "(I)I"⟩, 10)]
theorem lw_r1 : ∀ q ∈ lw_privs_1, lw_okq q := List.forall_mem_cons.mpr ⟨lw_p0, List.forall_mem_cons.mpr ⟨lw_p1, List.forall_mem_cons.mpr ⟨lw_p2, List.forall_mem_cons.mpr ⟨lw_p3, List.forall_mem_cons.mpr ⟨lw_p4, List.forall_mem_cons.mpr ⟨lw_p5, List.forall_mem_cons.mpr ⟨lw_p6, List.forall_mem_cons.mpr ⟨lw_p7, List.forall_mem_cons.mpr ⟨lw_p8, List.forall_mem_cons.mpr ⟨lw_p9, List.forall_mem_cons.mpr ⟨lw_p10, List.forall_mem_cons.mpr ⟨lw_p11, List.forall_mem_cons.mpr ⟨lw_p12, List.forall_mem_cons.mpr ⟨lw_p13, List.forall_mem_cons.mpr ⟨lw_p14, List.forall_mem_cons.mpr ⟨lw_p15, fun _ h => absurd h List.not_mem_nil⟩⟩⟩⟩⟩⟩⟩⟩⟩⟩⟩⟩⟩⟩⟩⟩
theorem lw_p16 : lw_okq (⟨"RoadRiver", "allChances", "()I"⟩, 11) := ⟨⟨by decide +kernel, by decide +kernel⟩, List.mem_of_getElem? (i := 15) (by decide +kernel), List.mem_of_getElem? (i := 614) (by decide +kernel), List.mem_of_getElem? (i := 615) (by decide +kernel)⟩
theorem lw_p17 : lw_okq (⟨"RoadRiver", "levelKinds", "(I)I"⟩, 11) := ⟨⟨by decide +kernel, by decide +kernel⟩, List.mem_of_getElem? (i := 15) (by decide +kernel), List.mem_of_getElem? (i := 622) (by decide +kernel), List.mem_of_getElem? (i := 623) (by decide +kernel)⟩
theorem lw_p18 : lw_okq (⟨"RoadRiver$Sheet", "cut", "(I)I"⟩, 3) := ⟨⟨by decide +kernel, by decide +kernel⟩, List.mem_of_getElem? (i := 215) (by decide +kernel), List.mem_of_getElem? (i := 687) (by decide +kernel), List.mem_of_getElem? (i := 688) (by decide +kernel)⟩
theorem lw_p19 : lw_okq (⟨"RoadRiver", "digestSpring", "(JI)J"⟩, 11) := ⟨⟨by decide +kernel, by decide +kernel⟩, List.mem_of_getElem? (i := 15) (by decide +kernel), List.mem_of_getElem? (i := 725) (by decide +kernel), List.mem_of_getElem? (i := 726) (by decide +kernel)⟩
theorem lw_p20 : lw_okq (⟨"RoadRiverModel", "met", "(I)I"⟩, 19) := ⟨⟨by decide +kernel, by decide +kernel⟩, List.mem_of_getElem? (i := 741) (by decide +kernel), List.mem_of_getElem? (i := 818) (by decide +kernel), List.mem_of_getElem? (i := 819) (by decide +kernel)⟩
theorem lw_p21 : lw_okq (⟨"RoadRiverModel", "lacks", "(III)I"⟩, 19) := ⟨⟨by decide +kernel, by decide +kernel⟩, List.mem_of_getElem? (i := 741) (by decide +kernel), List.mem_of_getElem? (i := 830) (by decide +kernel), List.mem_of_getElem? (i := 831) (by decide +kernel)⟩
theorem lw_p22 : lw_okq (⟨"RoadRiverModel", "faultOf", "(I)I"⟩, 19) := ⟨⟨by decide +kernel, by decide +kernel⟩, List.mem_of_getElem? (i := 741) (by decide +kernel), List.mem_of_getElem? (i := 866) (by decide +kernel), List.mem_of_getElem? (i := 867) (by decide +kernel)⟩
theorem lw_p23 : lw_okq (⟨"RoadRiverModel", "isYard", "(I)Z"⟩, 19) := ⟨⟨by decide +kernel, by decide +kernel⟩, List.mem_of_getElem? (i := 741) (by decide +kernel), List.mem_of_getElem? (i := 876) (by decide +kernel), List.mem_of_getElem? (i := 877) (by decide +kernel)⟩
theorem lw_p24 : lw_okq (⟨"RoadRiverModel", "yards", "()I"⟩, 19) := ⟨⟨by decide +kernel, by decide +kernel⟩, List.mem_of_getElem? (i := 741) (by decide +kernel), List.mem_of_getElem? (i := 880) (by decide +kernel), List.mem_of_getElem? (i := 881) (by decide +kernel)⟩
theorem lw_p25 : lw_okq (⟨"RoadRiverModel", "figures", "(I)I"⟩, 19) := ⟨⟨by decide +kernel, by decide +kernel⟩, List.mem_of_getElem? (i := 741) (by decide +kernel), List.mem_of_getElem? (i := 884) (by decide +kernel), List.mem_of_getElem? (i := 885) (by decide +kernel)⟩
theorem lw_p26 : lw_okq (⟨"RoadRiverModel", "heightOf", "(I)I"⟩, 19) := ⟨⟨by decide +kernel, by decide +kernel⟩, List.mem_of_getElem? (i := 741) (by decide +kernel), List.mem_of_getElem? (i := 888) (by decide +kernel), List.mem_of_getElem? (i := 889) (by decide +kernel)⟩
theorem lw_p27 : lw_okq (⟨"RoadRiverModel", "levelOf", "(II)I"⟩, 19) := ⟨⟨by decide +kernel, by decide +kernel⟩, List.mem_of_getElem? (i := 741) (by decide +kernel), List.mem_of_getElem? (i := 903) (by decide +kernel), List.mem_of_getElem? (i := 904) (by decide +kernel)⟩
theorem lw_p28 : lw_okq (⟨"RoadRiverModel", "possessionOf", "(I)I"⟩, 19) := ⟨⟨by decide +kernel, by decide +kernel⟩, List.mem_of_getElem? (i := 741) (by decide +kernel), List.mem_of_getElem? (i := 938) (by decide +kernel), List.mem_of_getElem? (i := 939) (by decide +kernel)⟩
theorem lw_p29 : lw_okq (⟨"RoadRiverModel", "isWet", "(III)Z"⟩, 19) := ⟨⟨by decide +kernel, by decide +kernel⟩, List.mem_of_getElem? (i := 741) (by decide +kernel), List.mem_of_getElem? (i := 946) (by decide +kernel), List.mem_of_getElem? (i := 947) (by decide +kernel)⟩
theorem lw_p30 : lw_okq (⟨"RoadRiverModel", "isKept", "(II)Z"⟩, 19) := ⟨⟨by decide +kernel, by decide +kernel⟩, List.mem_of_getElem? (i := 741) (by decide +kernel), List.mem_of_getElem? (i := 950) (by decide +kernel), List.mem_of_getElem? (i := 951) (by decide +kernel)⟩
theorem lw_p31 : lw_okq (⟨"RoadRiverModel", "waterOf", "(III)I"⟩, 19) := ⟨⟨by decide +kernel, by decide +kernel⟩, List.mem_of_getElem? (i := 741) (by decide +kernel), List.mem_of_getElem? (i := 961) (by decide +kernel), List.mem_of_getElem? (i := 962) (by decide +kernel)⟩
def lw_privs_2 : List (MethodName × Nat) := [(⟨"RoadRiver", "allChances", "()I"⟩, 11), (⟨"RoadRiver", "levelKinds", "(I)I"⟩, 11), (⟨"RoadRiver$Sheet", "cut", "(I)I"⟩, 3), (⟨"RoadRiver", "digestSpring", "(JI)J"⟩, 11), (⟨"RoadRiverModel", "met", "(I)I"⟩, 19), (⟨"RoadRiverModel", "lacks", "(III)I"⟩, 19), (⟨"RoadRiverModel", "faultOf", "(I)I"⟩, 19), (⟨"RoadRiverModel", "isYard", "(I)Z"⟩, 19), (⟨"RoadRiverModel", "yards", "()I"⟩, 19), (⟨"RoadRiverModel", "figures", "(I)I"⟩, 19), (⟨"RoadRiverModel", "heightOf", "(I)I"⟩, 19), (⟨"RoadRiverModel", "levelOf", "(II)I"⟩, 19), (⟨"RoadRiverModel", "possessionOf", "(I)I"⟩, 19), (⟨"RoadRiverModel", "isWet", "(III)Z"⟩, 19), (⟨"RoadRiverModel", "isKept", "(II)Z"⟩, 19), (⟨"RoadRiverModel", "waterOf", "(III)I"⟩, 19)]
theorem lw_r2 : ∀ q ∈ lw_privs_2, lw_okq q := List.forall_mem_cons.mpr ⟨lw_p16, List.forall_mem_cons.mpr ⟨lw_p17, List.forall_mem_cons.mpr ⟨lw_p18, List.forall_mem_cons.mpr ⟨lw_p19, List.forall_mem_cons.mpr ⟨lw_p20, List.forall_mem_cons.mpr ⟨lw_p21, List.forall_mem_cons.mpr ⟨lw_p22, List.forall_mem_cons.mpr ⟨lw_p23, List.forall_mem_cons.mpr ⟨lw_p24, List.forall_mem_cons.mpr ⟨lw_p25, List.forall_mem_cons.mpr ⟨lw_p26, List.forall_mem_cons.mpr ⟨lw_p27, List.forall_mem_cons.mpr ⟨lw_p28, List.forall_mem_cons.mpr ⟨lw_p29, List.forall_mem_cons.mpr ⟨lw_p30, List.forall_mem_cons.mpr ⟨lw_p31, fun _ h => absurd h List.not_mem_nil⟩⟩⟩⟩⟩⟩⟩⟩⟩⟩⟩⟩⟩⟩⟩⟩
theorem lw_p32 : lw_okq (⟨"RoadRiverModel", "isWay", "(IIII)Z"⟩, 19) := ⟨⟨by decide +kernel, by decide +kernel⟩, List.mem_of_getElem? (i := 741) (by decide +kernel), List.mem_of_getElem? (i := 972) (by decide +kernel), List.mem_of_getElem? (i := 973) (by decide +kernel)⟩
theorem lw_p33 : lw_okq (⟨"RoadRiverModel", "costOf", "(IIIII)I"⟩, 19) := ⟨⟨by decide +kernel, by decide +kernel⟩, List.mem_of_getElem? (i := 741) (by decide +kernel), List.mem_of_getElem? (i := 976) (by decide +kernel), List.mem_of_getElem? (i := 977) (by decide +kernel)⟩
theorem lw_p34 : lw_okq (⟨"RoadRiverModel", "closedOf", "(II)I"⟩, 19) := ⟨⟨by decide +kernel, by decide +kernel⟩, List.mem_of_getElem? (i := 741) (by decide +kernel), List.mem_of_getElem? (i := 987) (by decide +kernel), List.mem_of_getElem? (i := 988) (by decide +kernel)⟩
theorem lw_p35 : lw_okq (⟨"RoadRiverModel", "deedOf", "(II)I"⟩, 19) := ⟨⟨by decide +kernel, by decide +kernel⟩, List.mem_of_getElem? (i := 741) (by decide +kernel), List.mem_of_getElem? (i := 995) (by decide +kernel), List.mem_of_getElem? (i := 996) (by decide +kernel)⟩
theorem lw_p36 : lw_okq (⟨"RoadRiverModel", "waitsOf", "(IIIII)J"⟩, 19) := ⟨⟨by decide +kernel, by decide +kernel⟩, List.mem_of_getElem? (i := 741) (by decide +kernel), List.mem_of_getElem? (i := 1004) (by decide +kernel), List.mem_of_getElem? (i := 1005) (by decide +kernel)⟩
theorem lw_p37 : lw_okq (⟨"RoadRiverModel", "alike", "(II)I"⟩, 19) := ⟨⟨by decide +kernel, by decide +kernel⟩, List.mem_of_getElem? (i := 741) (by decide +kernel), List.mem_of_getElem? (i := 1008) (by decide +kernel), List.mem_of_getElem? (i := 1009) (by decide +kernel)⟩
theorem lw_p38 : lw_okq (⟨"RoadRiverModel", "weight", "(I)J"⟩, 19) := ⟨⟨by decide +kernel, by decide +kernel⟩, List.mem_of_getElem? (i := 741) (by decide +kernel), List.mem_of_getElem? (i := 1012) (by decide +kernel), List.mem_of_getElem? (i := 1013) (by decide +kernel)⟩
theorem lw_p39 : lw_okq (⟨"RoadRiverModel", "findWorths", "(IIII)V"⟩, 19) := ⟨⟨by decide +kernel, by decide +kernel⟩, List.mem_of_getElem? (i := 741) (by decide +kernel), List.mem_of_getElem? (i := 1020) (by decide +kernel), List.mem_of_getElem? (i := 1021) (by decide +kernel)⟩
theorem lw_p40 : lw_okq (⟨"RoadRiverModel", "waitingFor", "(II)J"⟩, 19) := ⟨⟨by decide +kernel, by decide +kernel⟩, List.mem_of_getElem? (i := 741) (by decide +kernel), List.mem_of_getElem? (i := 1024) (by decide +kernel), List.mem_of_getElem? (i := 1025) (by decide +kernel)⟩
theorem lw_p41 : lw_okq (⟨"RoadRiverModel", "goesOf", "(IIII)I"⟩, 19) := ⟨⟨by decide +kernel, by decide +kernel⟩, List.mem_of_getElem? (i := 741) (by decide +kernel), List.mem_of_getElem? (i := 1035) (by decide +kernel), List.mem_of_getElem? (i := 1036) (by decide +kernel)⟩
theorem lw_p42 : lw_okq (⟨"RoadRiverModel", "keepOf", "(IIIIII)I"⟩, 19) := ⟨⟨by decide +kernel, by decide +kernel⟩, List.mem_of_getElem? (i := 741) (by decide +kernel), List.mem_of_getElem? (i := 1044) (by decide +kernel), List.mem_of_getElem? (i := 1045) (by decide +kernel)⟩
theorem lw_p43 : lw_okq (⟨"RoadRiverModel", "dryDays", "(IIII)I"⟩, 19) := ⟨⟨by decide +kernel, by decide +kernel⟩, List.mem_of_getElem? (i := 741) (by decide +kernel), List.mem_of_getElem? (i := 1048) (by decide +kernel), List.mem_of_getElem? (i := 1049) (by decide +kernel)⟩
theorem lw_p44 : lw_okq (⟨"RoadRiverModel", "neverOf", "(I)I"⟩, 19) := ⟨⟨by decide +kernel, by decide +kernel⟩, List.mem_of_getElem? (i := 741) (by decide +kernel), List.mem_of_getElem? (i := 1065) (by decide +kernel), List.mem_of_getElem? (i := 1066) (by decide +kernel)⟩
theorem lw_p45 : lw_okq (⟨"RoadRiverModel", "findNever", "()V"⟩, 19) := ⟨⟨by decide +kernel, by decide +kernel⟩, List.mem_of_getElem? (i := 741) (by decide +kernel), List.mem_of_getElem? (i := 1069) (by decide +kernel), List.mem_of_getElem? (i := 1070) (by decide +kernel)⟩
theorem lw_p46 : lw_okq (⟨"RoadRiverModel", "areThere", "(I)Z"⟩, 19) := ⟨⟨by decide +kernel, by decide +kernel⟩, List.mem_of_getElem? (i := 741) (by decide +kernel), List.mem_of_getElem? (i := 1073) (by decide +kernel), List.mem_of_getElem? (i := 1074) (by decide +kernel)⟩
theorem lw_p47 : lw_okq (⟨"RoadRiverModel", "brings", "(II)I"⟩, 19) := ⟨⟨by decide +kernel, by decide +kernel⟩, List.mem_of_getElem? (i := 741) (by decide +kernel), List.mem_of_getElem? (i := 1077) (by decide +kernel), List.mem_of_getElem? (i := 1078) (by decide +kernel)⟩
def lw_privs_3 : List (MethodName × Nat) := [(⟨"RoadRiverModel", "isWay", "(IIII)Z"⟩, 19), (⟨"RoadRiverModel", "costOf", "(IIIII)I"⟩, 19), (⟨"RoadRiverModel", "closedOf", "(II)I"⟩, 19), (⟨"RoadRiverModel", "deedOf", "(II)I"⟩, 19), (⟨"RoadRiverModel", "waitsOf", "(IIIII)J"⟩, 19), (⟨"RoadRiverModel", "alike", "(II)I"⟩, 19), (⟨"RoadRiverModel", "weight", "(I)J"⟩, 19), (⟨"RoadRiverModel", "findWorths", "(IIII)V"⟩, 19), (⟨"RoadRiverModel", "waitingFor", "(II)J"⟩, 19), (⟨"RoadRiverModel", "goesOf", "(IIII)I"⟩, 19), (⟨"RoadRiverModel", "keepOf", "(IIIIII)I"⟩, 19), (⟨"RoadRiverModel", "dryDays", "(IIII)I"⟩, 19), (⟨"RoadRiverModel", "neverOf", "(I)I"⟩, 19), (⟨"RoadRiverModel", "findNever", "()V"⟩, 19), (⟨"RoadRiverModel", "areThere", "(I)Z"⟩, 19), (⟨"RoadRiverModel", "brings", "(II)I"⟩, 19)]
theorem lw_r3 : ∀ q ∈ lw_privs_3, lw_okq q := List.forall_mem_cons.mpr ⟨lw_p32, List.forall_mem_cons.mpr ⟨lw_p33, List.forall_mem_cons.mpr ⟨lw_p34, List.forall_mem_cons.mpr ⟨lw_p35, List.forall_mem_cons.mpr ⟨lw_p36, List.forall_mem_cons.mpr ⟨lw_p37, List.forall_mem_cons.mpr ⟨lw_p38, List.forall_mem_cons.mpr ⟨lw_p39, List.forall_mem_cons.mpr ⟨lw_p40, List.forall_mem_cons.mpr ⟨lw_p41, List.forall_mem_cons.mpr ⟨lw_p42, List.forall_mem_cons.mpr ⟨lw_p43, List.forall_mem_cons.mpr ⟨lw_p44, List.forall_mem_cons.mpr ⟨lw_p45, List.forall_mem_cons.mpr ⟨lw_p46, List.forall_mem_cons.mpr ⟨lw_p47, fun _ h => absurd h List.not_mem_nil⟩⟩⟩⟩⟩⟩⟩⟩⟩⟩⟩⟩⟩⟩⟩⟩
theorem lw_p48 : lw_okq (⟨"RoadRiverModel", "gainOf", "(I)J"⟩, 19) := ⟨⟨by decide +kernel, by decide +kernel⟩, List.mem_of_getElem? (i := 741) (by decide +kernel), List.mem_of_getElem? (i := 1085) (by decide +kernel), List.mem_of_getElem? (i := 1086) (by decide +kernel)⟩
theorem lw_p49 : lw_okq (⟨"RoadRiverModel", "watchNow", "()I"⟩, 19) := ⟨⟨by decide +kernel, by decide +kernel⟩, List.mem_of_getElem? (i := 741) (by decide +kernel), List.mem_of_getElem? (i := 1093) (by decide +kernel), List.mem_of_getElem? (i := 1094) (by decide +kernel)⟩
theorem lw_p50 : lw_okq (⟨"RoadRiverModel", "kinds", "(I)I"⟩, 19) := ⟨⟨by decide +kernel, by decide +kernel⟩, List.mem_of_getElem? (i := 741) (by decide +kernel), List.mem_of_getElem? (i := 1097) (by decide +kernel), List.mem_of_getElem? (i := 1098) (by decide +kernel)⟩
theorem lw_p51 : lw_okq (⟨"RoadRiverModel", "fitNow", "()I"⟩, 19) := ⟨⟨by decide +kernel, by decide +kernel⟩, List.mem_of_getElem? (i := 741) (by decide +kernel), List.mem_of_getElem? (i := 1113) (by decide +kernel), List.mem_of_getElem? (i := 1114) (by decide +kernel)⟩
def lw_privs_4 : List (MethodName × Nat) := [(⟨"RoadRiverModel", "gainOf", "(I)J"⟩, 19), (⟨"RoadRiverModel", "watchNow", "()I"⟩, 19), (⟨"RoadRiverModel", "kinds", "(I)I"⟩, 19), (⟨"RoadRiverModel", "fitNow", "()I"⟩, 19)]
theorem lw_r4 : ∀ q ∈ lw_privs_4, lw_okq q := List.forall_mem_cons.mpr ⟨lw_p48, List.forall_mem_cons.mpr ⟨lw_p49, List.forall_mem_cons.mpr ⟨lw_p50, List.forall_mem_cons.mpr ⟨lw_p51, fun _ h => absurd h List.not_mem_nil⟩⟩⟩⟩
def lw_privs : List (MethodName × Nat) := lw_privs_1 ++ (lw_privs_2 ++ (lw_privs_3 ++ (lw_privs_4)))
def lw_tbl : List Cond := k2_sels lw_privs ++ tables_1
theorem lw_privs_ok : ∀ q ∈ lw_privs, lw_okq q := by
  show ∀ q ∈ lw_privs_1 ++ (lw_privs_2 ++ (lw_privs_3 ++ (lw_privs_4))), lw_okq q
  exact List.forall_mem_append.mpr ⟨lw_r1, List.forall_mem_append.mpr ⟨lw_r2, List.forall_mem_append.mpr ⟨lw_r3, lw_r4⟩⟩⟩
end
section
def RX0 : String := "RoadRiver$Contracts"
def TX0 : u_T := fun k => match k with
  | 0 => ("RoadRiver$Contracts", "valley", "LRoadRiver$Valley;", true)
  | 1 => ("RoadRiver$Contracts", "chances", "[I", true)
  | 2 => ("RoadRiver$Contracts", "lastDays", "[I", true)
  | 3 => ("RoadRiver$Contracts", "payments", "[I", true)
  | 4 => ("RoadRiver$Contracts", "prices", "[I", true)
  | 5 => ("RoadRiver$Contracts", "brought", "[[I", true)
  | 6 => ("RoadRiver$Contracts", "present", "I", false)
  | 7 => ("RoadRiver$Contracts", "safeSets", "I", false)
  | 8 => ("RoadRiver$Contracts", "bestSet", "I", false)
  | _ => ("RoadRiver$Contracts", "bestWeighted", "I", false)
def tyX0 : Nat → FieldType := fun k => match k with
  | 0 => .object "RoadRiver$Valley"
  | 1 => .array .int
  | 2 => .array .int
  | 3 => .array .int
  | 4 => .array .int
  | 5 => .array (.array .int)
  | 6 => .int
  | 7 => .int
  | 8 => .int
  | _ => .int
abbrev wsX00 : List Cond := u_ws RX0 TX0 10
theorem nmX0 : ∀ a, a < 10 → ∀ b, b < 10 → a ≠ b → (TX0 a).2.1 ≠ (TX0 b).2.1 := by decide +kernel
theorem tyX0_ok : ∀ k, k < 10 → parseFieldDescriptor (TX0 k).2.2.1 = some (tyX0 k) := by decide +kernel
abbrev cX0_init : ByteArray := prog_2_method_1_code
def yX0_init : MethodName := ⟨RX0, "<init>", "(LRoadRiver$Valley;[I)V"⟩
abbrev cX0_sign : ByteArray := prog_2_method_2_code
def yX0_sign : MethodName := ⟨RX0, "sign", "(IIII)V"⟩
abbrev cX0_isSigned : ByteArray := prog_2_method_3_code
def yX0_isSigned : MethodName := ⟨RX0, "isSigned", "(I)Z"⟩
abbrev cX0_tearUp : ByteArray := prog_2_method_4_code
def yX0_tearUp : MethodName := ⟨RX0, "tearUp", "(I)V"⟩
abbrev cX0_reckon : ByteArray := prog_2_method_5_code
def yX0_reckon : MethodName := ⟨RX0, "reckon", "()V"⟩
abbrev cX0_fillBrought : ByteArray := prog_2_method_6_code
def yX0_fillBrought : MethodName := ⟨RX0, "fillBrought", "(I)V"⟩
abbrev cX0_amountOf : ByteArray := prog_2_method_7_code
def yX0_amountOf : MethodName := ⟨RX0, "amountOf", "(II)I"⟩
abbrev cX0_neverLoses : ByteArray := prog_2_method_8_code
def yX0_neverLoses : MethodName := ⟨RX0, "neverLoses", "(I)Z"⟩
abbrev cX0_weightedSum : ByteArray := prog_2_method_9_code
def yX0_weightedSum : MethodName := ⟨RX0, "weightedSum", "(I)I"⟩
def RX1 : String := "RoadRiver$Dikes"
def TX1 : u_T := fun k => match k with
  | 0 => ("RoadRiver$Dikes", "firsts", "[I", true)
  | 1 => ("RoadRiver$Dikes", "lasts", "[I", true)
  | 2 => ("RoadRiver$Dikes", "starts", "[I", true)
  | _ => ("RoadRiver$Dikes", "size", "I", false)
def tyX1 : Nat → FieldType := fun k => match k with
  | 0 => .array .int
  | 1 => .array .int
  | 2 => .array .int
  | _ => .int
abbrev wsX10 : List Cond := u_ws RX1 TX1 4
theorem nmX1 : ∀ a, a < 4 → ∀ b, b < 4 → a ≠ b → (TX1 a).2.1 ≠ (TX1 b).2.1 := by decide +kernel
theorem tyX1_ok : ∀ k, k < 4 → parseFieldDescriptor (TX1 k).2.2.1 = some (tyX1 k) := by decide +kernel
abbrev cX1_init : ByteArray := prog_3_method_1_code
def yX1_init : MethodName := ⟨RX1, "<init>", "()V"⟩
abbrev cX1_mayBe : ByteArray := prog_3_method_2_code
def yX1_mayBe : MethodName := ⟨RX1, "mayBe", "(III)Z"⟩
abbrev cX1_isFull : ByteArray := prog_3_method_3_code
def yX1_isFull : MethodName := ⟨RX1, "isFull", "()Z"⟩
abbrev cX1_build : ByteArray := prog_3_method_4_code
def yX1_build : MethodName := ⟨RX1, "build", "(III)V"⟩
abbrev cX1_dropLast : ByteArray := prog_3_method_5_code
def yX1_dropLast : MethodName := ⟨RX1, "dropLast", "()V"⟩
abbrev cX1_buildFrom : ByteArray := prog_3_method_6_code
def yX1_buildFrom : MethodName := ⟨RX1, "buildFrom", "(LRoadRiver$Sheet;)I"⟩
abbrev cX1_keptYards : ByteArray := prog_3_method_7_code
def yX1_keptYards : MethodName := ⟨RX1, "keptYards", "(I)I"⟩
def RX2 : String := "RoadRiver$Facts"
def TX2 : u_T := fun k => match k with
  | 0 => ("RoadRiver$Facts", "days", "[I", true)
  | 1 => ("RoadRiver$Facts", "yards", "[I", true)
  | 2 => ("RoadRiver$Facts", "signs", "[I", true)
  | _ => ("RoadRiver$Facts", "size", "I", false)
def tyX2 : Nat → FieldType := fun k => match k with
  | 0 => .array .int
  | 1 => .array .int
  | 2 => .array .int
  | _ => .int
abbrev wsX20 : List Cond := u_ws RX2 TX2 4
theorem nmX2 : ∀ a, a < 4 → ∀ b, b < 4 → a ≠ b → (TX2 a).2.1 ≠ (TX2 b).2.1 := by decide +kernel
theorem tyX2_ok : ∀ k, k < 4 → parseFieldDescriptor (TX2 k).2.2.1 = some (tyX2 k) := by decide +kernel
abbrev cX2_init : ByteArray := prog_4_method_1_code
def yX2_init : MethodName := ⟨RX2, "<init>", "()V"⟩
abbrev cX2_isFull : ByteArray := prog_4_method_2_code
def yX2_isFull : MethodName := ⟨RX2, "isFull", "()Z"⟩
abbrev cX2_learn : ByteArray := prog_4_method_3_code
def yX2_learn : MethodName := ⟨RX2, "learn", "(III)V"⟩
abbrev cX2_clear : ByteArray := prog_4_method_4_code
def yX2_clear : MethodName := ⟨RX2, "clear", "()V"⟩
abbrev cX2_comeOutBy : ByteArray := prog_4_method_5_code
def yX2_comeOutBy : MethodName := ⟨RX2, "comeOutBy", "(LRoadRiver$Valley;II)Z"⟩
def RX3 : String := "RoadRiver$Keeping"
def TX3 : u_T := fun k => match k with
  | 0 => ("RoadRiver$Keeping", "valley", "LRoadRiver$Valley;", true)
  | 1 => ("RoadRiver$Keeping", "bestDays", "I", false)
  | 2 => ("RoadRiver$Keeping", "bestFirst", "I", false)
  | _ => ("RoadRiver$Keeping", "bestYards", "I", false)
def tyX3 : Nat → FieldType := fun k => match k with
  | 0 => .object "RoadRiver$Valley"
  | 1 => .int
  | 2 => .int
  | _ => .int
abbrev wsX30 : List Cond := u_ws RX3 TX3 4
theorem nmX3 : ∀ a, a < 4 → ∀ b, b < 4 → a ≠ b → (TX3 a).2.1 ≠ (TX3 b).2.1 := by decide +kernel
theorem tyX3_ok : ∀ k, k < 4 → parseFieldDescriptor (TX3 k).2.2.1 = some (tyX3 k) := by decide +kernel
abbrev cX3_init : ByteArray := prog_5_method_1_code
def yX3_init : MethodName := ⟨RX3, "<init>", "(LRoadRiver$Valley;)V"⟩
abbrev cX3_reckon : ByteArray := prog_5_method_2_code
def yX3_reckon : MethodName := ⟨RX3, "reckon", "(IIIII)V"⟩
abbrev cX3_dryDays : ByteArray := prog_5_method_3_code
def yX3_dryDays : MethodName := ⟨RX3, "dryDays", "(III)I"⟩
def RX4 : String := "RoadRiver$Sheet"
def TX4 : u_T := fun k => match k with
  | 0 => ("RoadRiver$Sheet", "items", "[I", true)
  | 1 => ("RoadRiver$Sheet", "form", "I", false)
  | _ => ("RoadRiver$Sheet", "size", "I", false)
def tyX4 : Nat → FieldType := fun k => match k with
  | 0 => .array .int
  | 1 => .int
  | _ => .int
abbrev wsX40 : List Cond := u_ws RX4 TX4 3
theorem nmX4 : ∀ a, a < 3 → ∀ b, b < 3 → a ≠ b → (TX4 a).2.1 ≠ (TX4 b).2.1 := by decide +kernel
theorem tyX4_ok : ∀ k, k < 3 → parseFieldDescriptor (TX4 k).2.2.1 = some (tyX4 k) := by decide +kernel
abbrev cX4_init : ByteArray := prog_6_method_1_code
def yX4_init : MethodName := ⟨RX4, "<init>", "()V"⟩
abbrev cX4_isLost : ByteArray := prog_6_method_2_code
def yX4_isLost : MethodName := ⟨RX4, "isLost", "()Z"⟩
abbrev cX4_renew : ByteArray := prog_6_method_3_code
def yX4_renew : MethodName := ⟨RX4, "renew", "(II)V"⟩
abbrev cX4_drop : ByteArray := prog_6_method_4_code
def yX4_drop : MethodName := ⟨RX4, "drop", "()V"⟩
abbrev cX4_trouble : ByteArray := prog_6_method_5_code
def yX4_trouble : MethodName := ⟨RX4, "trouble", "(II)I"⟩
abbrev cX4_item : ByteArray := prog_6_method_6_code
def yX4_item : MethodName := ⟨RX4, "item", "(I)I"⟩
abbrev cX4_put : ByteArray := prog_6_method_7_code
def yX4_put : MethodName := ⟨RX4, "put", "(II)V"⟩
abbrev cX4_hasRun : ByteArray := prog_6_method_8_code
def yX4_hasRun : MethodName := ⟨RX4, "hasRun", "(II)Z"⟩
abbrev cX4_cut : ByteArray := prog_6_method_9_code
def yX4_cut : MethodName := ⟨RX4, "cut", "(I)I"⟩
def RX5 : String := "RoadRiver$Text"
def TX5 : u_T := fun k => match k with
  | 0 => ("RoadRiver$Text", "bytes", "[I", true)
  | _ => ("RoadRiver$Text", "length", "I", false)
def tyX5 : Nat → FieldType := fun k => match k with
  | 0 => .array .int
  | _ => .int
abbrev wsX50 : List Cond := u_ws RX5 TX5 2
theorem nmX5 : ∀ a, a < 2 → ∀ b, b < 2 → a ≠ b → (TX5 a).2.1 ≠ (TX5 b).2.1 := by decide +kernel
theorem tyX5_ok : ∀ k, k < 2 → parseFieldDescriptor (TX5 k).2.2.1 = some (tyX5 k) := by decide +kernel
abbrev cX5_init : ByteArray := prog_7_method_1_code
def yX5_init : MethodName := ⟨RX5, "<init>", "(I)V"⟩
abbrev cX5_isFull : ByteArray := prog_7_method_2_code
def yX5_isFull : MethodName := ⟨RX5, "isFull", "()Z"⟩
abbrev cX5_append : ByteArray := prog_7_method_3_code
def yX5_append : MethodName := ⟨RX5, "append", "(I)V"⟩
abbrev cX5_dropLast : ByteArray := prog_7_method_4_code
def yX5_dropLast : MethodName := ⟨RX5, "dropLast", "()V"⟩
abbrev cX5_clear : ByteArray := prog_7_method_5_code
def yX5_clear : MethodName := ⟨RX5, "clear", "()V"⟩
abbrev cX5_firstFault : ByteArray := prog_7_method_6_code
def yX5_firstFault : MethodName := ⟨RX5, "firstFault", "()I"⟩
abbrev cX5_told : ByteArray := prog_7_method_7_code
def yX5_told : MethodName := ⟨RX5, "told", "()I"⟩
abbrev cX5_figure : ByteArray := prog_7_method_8_code
def yX5_figure : MethodName := ⟨RX5, "figure", "(I)I"⟩
def RX6 : String := "RoadRiver$Valley"
def TX6 : u_T := fun k => match k with
  | 0 => ("RoadRiver$Valley", "texts", "[LRoadRiver$Text;", true)
  | 1 => ("RoadRiver$Valley", "terms", "[I", true)
  | 2 => ("RoadRiver$Valley", "dikes", "LRoadRiver$Dikes;", true)
  | 3 => ("RoadRiver$Valley", "levels", "[[I", true)
  | 4 => ("RoadRiver$Valley", "wetBits", "[[I", true)
  | 5 => ("RoadRiver$Valley", "possessions", "[I", true)
  | 6 => ("RoadRiver$Valley", "lowYards", "[I", true)
  | 7 => ("RoadRiver$Valley", "keptYards", "[I", true)
  | _ => ("RoadRiver$Valley", "isStale", "Z", false)
def tyX6 : Nat → FieldType := fun k => match k with
  | 0 => .array (.object "RoadRiver$Text")
  | 1 => .array .int
  | 2 => .object "RoadRiver$Dikes"
  | 3 => .array (.array .int)
  | 4 => .array (.array .int)
  | 5 => .array .int
  | 6 => .array .int
  | 7 => .array .int
  | _ => .boolean
abbrev wsX60 : List Cond := u_ws RX6 TX6 9
theorem nmX6 : ∀ a, a < 9 → ∀ b, b < 9 → a ≠ b → (TX6 a).2.1 ≠ (TX6 b).2.1 := by decide +kernel
theorem tyX6_ok : ∀ k, k < 9 → parseFieldDescriptor (TX6 k).2.2.1 = some (tyX6 k) := by decide +kernel
abbrev cX6_init : ByteArray := prog_8_method_1_code
def yX6_init : MethodName := ⟨RX6, "<init>", "([LRoadRiver$Text;[ILRoadRiver$Dikes;)V"⟩
abbrev cX6_change : ByteArray := prog_8_method_2_code
def yX6_change : MethodName := ⟨RX6, "change", "()V"⟩
abbrev cX6_refresh : ByteArray := prog_8_method_3_code
def yX6_refresh : MethodName := ⟨RX6, "refresh", "()V"⟩
abbrev cX6_levelOn : ByteArray := prog_8_method_4_code
def yX6_levelOn : MethodName := ⟨RX6, "levelOn", "(II)I"⟩
abbrev cX6_lentFrom : ByteArray := prog_8_method_5_code
def yX6_lentFrom : MethodName := ⟨RX6, "lentFrom", "(I)I"⟩
abbrev cX6_wetYards : ByteArray := prog_8_method_6_code
def yX6_wetYards : MethodName := ⟨RX6, "wetYards", "(II)I"⟩
abbrev cX6_closedDays : ByteArray := prog_8_method_7_code
def yX6_closedDays : MethodName := ⟨RX6, "closedDays", "(II)I"⟩
abbrev cX6_fillLowYards : ByteArray := prog_8_method_8_code
def yX6_fillLowYards : MethodName := ⟨RX6, "fillLowYards", "()V"⟩
abbrev cX6_fillLevels : ByteArray := prog_8_method_9_code
def yX6_fillLevels : MethodName := ⟨RX6, "fillLevels", "(I)V"⟩
abbrev cX6_firstThaw : ByteArray := prog_8_method_10_code
def yX6_firstThaw : MethodName := ⟨RX6, "firstThaw", "(I)I"⟩
abbrev cX6_fillWet : ByteArray := prog_8_method_11_code
def yX6_fillWet : MethodName := ⟨RX6, "fillWet", "(I)V"⟩
def RX7 : String := "RoadRiver$Waiting"
def TX7 : u_T := fun k => match k with
  | 0 => ("RoadRiver$Waiting", "valley", "LRoadRiver$Valley;", true)
  | 1 => ("RoadRiver$Waiting", "terms", "[I", true)
  | 2 => ("RoadRiver$Waiting", "chances", "[I", true)
  | 3 => ("RoadRiver$Waiting", "partings", "[[I", true)
  | 4 => ("RoadRiver$Waiting", "weighted", "[I", true)
  | 5 => ("RoadRiver$Waiting", "nextCases", "[I", true)
  | _ => ("RoadRiver$Waiting", "bestAtOnce", "[Z", true)
def tyX7 : Nat → FieldType := fun k => match k with
  | 0 => .object "RoadRiver$Valley"
  | 1 => .array .int
  | 2 => .array .int
  | 3 => .array (.array .int)
  | 4 => .array .int
  | 5 => .array .int
  | _ => .array .boolean
abbrev wsX70 : List Cond := u_ws RX7 TX7 7
theorem nmX7 : ∀ a, a < 7 → ∀ b, b < 7 → a ≠ b → (TX7 a).2.1 ≠ (TX7 b).2.1 := by decide +kernel
theorem tyX7_ok : ∀ k, k < 7 → parseFieldDescriptor (TX7 k).2.2.1 = some (tyX7 k) := by decide +kernel
abbrev cX7_init : ByteArray := prog_9_method_1_code
def yX7_init : MethodName := ⟨RX7, "<init>", "(LRoadRiver$Valley;[I[I)V"⟩
abbrev cX7_reckon : ByteArray := prog_9_method_2_code
def yX7_reckon : MethodName := ⟨RX7, "reckon", "(III)V"⟩
abbrev cX7_weightedCost : ByteArray := prog_9_method_3_code
def yX7_weightedCost : MethodName := ⟨RX7, "weightedCost", "(I)I"⟩
abbrev cX7_isBestAtOnce : ByteArray := prog_9_method_4_code
def yX7_isBestAtOnce : MethodName := ⟨RX7, "isBestAtOnce", "(I)Z"⟩
abbrev cX7_weightOf : ByteArray := prog_9_method_5_code
def yX7_weightOf : MethodName := ⟨RX7, "weightOf", "(II)I"⟩
abbrev cX7_choose : ByteArray := prog_9_method_6_code
def yX7_choose : MethodName := ⟨RX7, "choose", "(IIII)V"⟩
abbrev cX7_fillNextCases : ByteArray := prog_9_method_7_code
def yX7_fillNextCases : MethodName := ⟨RX7, "fillNextCases", "(I)V"⟩
abbrev cX7_sumOfAlike : ByteArray := prog_9_method_8_code
def yX7_sumOfAlike : MethodName := ⟨RX7, "sumOfAlike", "([III)I"⟩
abbrev cX7_fillPartings : ByteArray := prog_9_method_9_code
def yX7_fillPartings : MethodName := ⟨RX7, "fillPartings", "()V"⟩
abbrev cX7_parting : ByteArray := prog_9_method_10_code
def yX7_parting : MethodName := ⟨RX7, "parting", "(II)I"⟩
def RX8 : String := "RoadRiver"
def TX8 : u_T := fun k => match k with
  | 0 => ("RoadRiver", "texts", "[LRoadRiver$Text;", true)
  | 1 => ("RoadRiver", "terms", "[I", true)
  | 2 => ("RoadRiver", "chances", "[I", true)
  | 3 => ("RoadRiver", "dikes", "LRoadRiver$Dikes;", true)
  | 4 => ("RoadRiver", "valley", "LRoadRiver$Valley;", true)
  | 5 => ("RoadRiver", "waiting", "LRoadRiver$Waiting;", true)
  | 6 => ("RoadRiver", "keeping", "LRoadRiver$Keeping;", true)
  | 7 => ("RoadRiver", "contracts", "LRoadRiver$Contracts;", true)
  | 8 => ("RoadRiver", "facts", "LRoadRiver$Facts;", true)
  | 9 => ("RoadRiver", "sheets", "[LRoadRiver$Sheet;", true)
  | _ => ("RoadRiver", "latestFinding", "I", false)
def tyX8 : Nat → FieldType := fun k => match k with
  | 0 => .array (.object "RoadRiver$Text")
  | 1 => .array .int
  | 2 => .array .int
  | 3 => .object "RoadRiver$Dikes"
  | 4 => .object "RoadRiver$Valley"
  | 5 => .object "RoadRiver$Waiting"
  | 6 => .object "RoadRiver$Keeping"
  | 7 => .object "RoadRiver$Contracts"
  | 8 => .object "RoadRiver$Facts"
  | 9 => .array (.object "RoadRiver$Sheet")
  | _ => .int
abbrev wsX80 : List Cond := u_ws RX8 TX8 11
theorem nmX8 : ∀ a, a < 11 → ∀ b, b < 11 → a ≠ b → (TX8 a).2.1 ≠ (TX8 b).2.1 := by decide +kernel
theorem tyX8_ok : ∀ k, k < 11 → parseFieldDescriptor (TX8 k).2.2.1 = some (tyX8 k) := by decide +kernel
abbrev cX8_init : ByteArray := prog_1_method_1_code
def yX8_init : MethodName := ⟨RX8, "<init>", "()V"⟩
abbrev cX8_type : ByteArray := prog_1_method_2_code
def yX8_type : MethodName := ⟨RX8, "type", "(II)I"⟩
abbrev cX8_undo : ByteArray := prog_1_method_3_code
def yX8_undo : MethodName := ⟨RX8, "undo", "(I)I"⟩
abbrev cX8_wipe : ByteArray := prog_1_method_4_code
def yX8_wipe : MethodName := ⟨RX8, "wipe", "(I)I"⟩
abbrev cX8_fault : ByteArray := prog_1_method_5_code
def yX8_fault : MethodName := ⟨RX8, "fault", "(I)I"⟩
abbrev cX8_height : ByteArray := prog_1_method_6_code
def yX8_height : MethodName := ⟨RX8, "height", "(I)I"⟩
abbrev cX8_level : ByteArray := prog_1_method_7_code
def yX8_level : MethodName := ⟨RX8, "level", "(II)I"⟩
abbrev cX8_set : ByteArray := prog_1_method_8_code
def yX8_set : MethodName := ⟨RX8, "set", "(II)I"⟩
abbrev cX8_odds : ByteArray := prog_1_method_9_code
def yX8_odds : MethodName := ⟨RX8, "odds", "(II)I"⟩
abbrev cX8_dike : ByteArray := prog_1_method_10_code
def yX8_dike : MethodName := ⟨RX8, "dike", "(III)I"⟩
abbrev cX8_read : ByteArray := prog_1_method_11_code
def yX8_read : MethodName := ⟨RX8, "read", "(I)I"⟩
abbrev cX8_breaks : ByteArray := prog_1_method_12_code
def yX8_breaks : MethodName := ⟨RX8, "breaks", "()I"⟩
abbrev cX8_possession : ByteArray := prog_1_method_13_code
def yX8_possession : MethodName := ⟨RX8, "possession", "(I)I"⟩
abbrev cX8_wet : ByteArray := prog_1_method_14_code
def yX8_wet : MethodName := ⟨RX8, "wet", "(III)I"⟩
abbrev cX8_water : ByteArray := prog_1_method_15_code
def yX8_water : MethodName := ⟨RX8, "water", "(III)I"⟩
abbrev cX8_cost : ByteArray := prog_1_method_16_code
def yX8_cost : MethodName := ⟨RX8, "cost", "(IIIII)I"⟩
abbrev cX8_closed : ByteArray := prog_1_method_17_code
def yX8_closed : MethodName := ⟨RX8, "closed", "(II)I"⟩
abbrev cX8_deed : ByteArray := prog_1_method_18_code
def yX8_deed : MethodName := ⟨RX8, "deed", "(II)I"⟩
abbrev cX8_waits : ByteArray := prog_1_method_19_code
def yX8_waits : MethodName := ⟨RX8, "waits", "(IIIII)J"⟩
abbrev cX8_goes : ByteArray := prog_1_method_20_code
def yX8_goes : MethodName := ⟨RX8, "goes", "(IIII)I"⟩
abbrev cX8_keep : ByteArray := prog_1_method_21_code
def yX8_keep : MethodName := ⟨RX8, "keep", "(IIIIII)I"⟩
abbrev cX8_contract : ByteArray := prog_1_method_22_code
def yX8_contract : MethodName := ⟨RX8, "contract", "(IIII)I"⟩
abbrev cX8_tears : ByteArray := prog_1_method_23_code
def yX8_tears : MethodName := ⟨RX8, "tears", "(I)I"⟩
abbrev cX8_never : ByteArray := prog_1_method_24_code
def yX8_never : MethodName := ⟨RX8, "never", "(I)I"⟩
abbrev cX8_gain : ByteArray := prog_1_method_25_code
def yX8_gain : MethodName := ⟨RX8, "gain", "(I)J"⟩
abbrev cX8_watch : ByteArray := prog_1_method_26_code
def yX8_watch : MethodName := ⟨RX8, "watch", "()I"⟩
abbrev cX8_fact : ByteArray := prog_1_method_27_code
def yX8_fact : MethodName := ⟨RX8, "fact", "(III)I"⟩
abbrev cX8_forget : ByteArray := prog_1_method_28_code
def yX8_forget : MethodName := ⟨RX8, "forget", "()I"⟩
abbrev cX8_fit : ByteArray := prog_1_method_29_code
def yX8_fit : MethodName := ⟨RX8, "fit", "()I"⟩
abbrev cX8_sheet : ByteArray := prog_1_method_30_code
def yX8_sheet : MethodName := ⟨RX8, "sheet", "(III)I"⟩
abbrev cX8_lose : ByteArray := prog_1_method_31_code
def yX8_lose : MethodName := ⟨RX8, "lose", "(I)I"⟩
abbrev cX8_lay : ByteArray := prog_1_method_32_code
def yX8_lay : MethodName := ⟨RX8, "lay", "(IIII)I"⟩
abbrev cX8_get : ByteArray := prog_1_method_33_code
def yX8_get : MethodName := ⟨RX8, "get", "(III)I"⟩
abbrev cX8_copy : ByteArray := prog_1_method_34_code
def yX8_copy : MethodName := ⟨RX8, "copy", "(IIIII)I"⟩
abbrev cX8_write : ByteArray := prog_1_method_35_code
def yX8_write : MethodName := ⟨RX8, "write", "(II)I"⟩
abbrev cX8_count : ByteArray := prog_1_method_36_code
def yX8_count : MethodName := ⟨RX8, "count", "(I)I"⟩
abbrev cX8_digest : ByteArray := prog_1_method_37_code
def yX8_digest : MethodName := ⟨RX8, "digest", "()J"⟩
abbrev cX8_digestSpring : ByteArray := prog_1_method_38_code
def yX8_digestSpring : MethodName := ⟨RX8, "digestSpring", "(JI)J"⟩
abbrev cX8_find : ByteArray := prog_1_method_39_code
def yX8_find : MethodName := ⟨RX8, "find", "(I)I"⟩
abbrev cX8_isYard : ByteArray := prog_1_method_40_code
def yX8_isYard : MethodName := ⟨RX8, "isYard", "(I)Z"⟩
abbrev cX8_isSpringDay : ByteArray := prog_1_method_41_code
def yX8_isSpringDay : MethodName := ⟨RX8, "isSpringDay", "(II)Z"⟩
abbrev cX8_allChances : ByteArray := prog_1_method_42_code
def yX8_allChances : MethodName := ⟨RX8, "allChances", "()I"⟩
abbrev cX8_levelKinds : ByteArray := prog_1_method_43_code
def yX8_levelKinds : MethodName := ⟨RX8, "levelKinds", "(I)I"⟩
abbrev cX8_inside : ByteArray := prog_1_method_44_code
def yX8_inside : MethodName := ⟨RX8, "inside", "(II)Z"⟩
abbrev cX8_yardBits : ByteArray := prog_1_method_45_code
def yX8_yardBits : MethodName := ⟨RX8, "yardBits", "(II)I"⟩
abbrev cX8_islands : ByteArray := prog_1_method_46_code
def yX8_islands : MethodName := ⟨RX8, "islands", "(I)I"⟩
abbrev cX8_roadCost : ByteArray := prog_1_method_47_code
def yX8_roadCost : MethodName := ⟨RX8, "roadCost", "(IIII)I"⟩
abbrev cX8_ridgeCost : ByteArray := prog_1_method_48_code
def yX8_ridgeCost : MethodName := ⟨RX8, "ridgeCost", "(III)I"⟩
abbrev cX8_fractionPart : ByteArray := prog_1_method_49_code
def yX8_fractionPart : MethodName := ⟨RX8, "fractionPart", "(III)J"⟩
abbrev cX8_commonDivisor : ByteArray := prog_1_method_50_code
def yX8_commonDivisor : MethodName := ⟨RX8, "commonDivisor", "(II)I"⟩
def RX9 : String := "RoadRiverModel"
def TX9 : u_T := fun k => match k with
  | 0 => ("RoadRiverModel", "forms", "[I", true)
  | 1 => ("RoadRiverModel", "sizes", "[I", true)
  | 2 => ("RoadRiverModel", "items", "[I", true)
  | 3 => ("RoadRiverModel", "moved", "[I", true)
  | 4 => ("RoadRiverModel", "latest", "I", false)
  | 5 => ("RoadRiverModel", "bytes", "[I", true)
  | 6 => ("RoadRiverModel", "typed", "[I", true)
  | 7 => ("RoadRiverModel", "settings", "[I", true)
  | 8 => ("RoadRiverModel", "chances", "[I", true)
  | 9 => ("RoadRiverModel", "dikes", "I", false)
  | 10 => ("RoadRiverModel", "dike", "[I", true)
  | 11 => ("RoadRiverModel", "worths", "[J", true)
  | 12 => ("RoadRiverModel", "goesNow", "Z", false)
  | 13 => ("RoadRiverModel", "contracts", "[I", true)
  | 14 => ("RoadRiverModel", "neverMany", "I", false)
  | 15 => ("RoadRiverModel", "neverBest", "I", false)
  | 16 => ("RoadRiverModel", "neverSum", "J", false)
  | 17 => ("RoadRiverModel", "facts", "I", false)
  | _ => ("RoadRiverModel", "told", "[I", true)
def tyX9 : Nat → FieldType := fun k => match k with
  | 0 => .array .int
  | 1 => .array .int
  | 2 => .array .int
  | 3 => .array .int
  | 4 => .int
  | 5 => .array .int
  | 6 => .array .int
  | 7 => .array .int
  | 8 => .array .int
  | 9 => .int
  | 10 => .array .int
  | 11 => .array .long
  | 12 => .boolean
  | 13 => .array .int
  | 14 => .int
  | 15 => .int
  | 16 => .long
  | 17 => .int
  | _ => .array .int
abbrev wsX90 : List Cond := u_ws RX9 TX9 19
theorem nmX9 : ∀ a, a < 19 → ∀ b, b < 19 → a ≠ b → (TX9 a).2.1 ≠ (TX9 b).2.1 := by decide +kernel
theorem tyX9_ok : ∀ k, k < 19 → parseFieldDescriptor (TX9 k).2.2.1 = some (tyX9 k) := by decide +kernel
abbrev cX9_init : ByteArray := prog_11_method_1_code
def yX9_init : MethodName := ⟨RX9, "<init>", "()V"⟩
abbrev cX9_in : ByteArray := prog_11_method_3_code
def yX9_in : MethodName := ⟨RX9, "in", "(JJJ)Z"⟩
abbrev cX9_no : ByteArray := prog_11_method_4_code
def yX9_no : MethodName := ⟨RX9, "no", "(I)J"⟩
abbrev cX9_isTwo : ByteArray := prog_11_method_5_code
def yX9_isTwo : MethodName := ⟨RX9, "isTwo", "(I)Z"⟩
abbrev cX9_isIn : ByteArray := prog_11_method_6_code
def yX9_isIn : MethodName := ⟨RX9, "isIn", "(II)Z"⟩
abbrev cX9_met : ByteArray := prog_11_method_7_code
def yX9_met : MethodName := ⟨RX9, "met", "(I)I"⟩
abbrev cX9_isSheet : ByteArray := prog_11_method_8_code
def yX9_isSheet : MethodName := ⟨RX9, "isSheet", "(I)Z"⟩
abbrev cX9_sheet : ByteArray := prog_11_method_9_code
def yX9_sheet : MethodName := ⟨RX9, "sheet", "(III)I"⟩
abbrev cX9_lose : ByteArray := prog_11_method_10_code
def yX9_lose : MethodName := ⟨RX9, "lose", "(I)I"⟩
abbrev cX9_lacks : ByteArray := prog_11_method_11_code
def yX9_lacks : MethodName := ⟨RX9, "lacks", "(III)I"⟩
abbrev cX9_cut : ByteArray := prog_11_method_12_code
def yX9_cut : MethodName := ⟨RX9, "cut", "(II)I"⟩
abbrev cX9_lay : ByteArray := prog_11_method_13_code
def yX9_lay : MethodName := ⟨RX9, "lay", "(IIII)I"⟩
abbrev cX9_get : ByteArray := prog_11_method_14_code
def yX9_get : MethodName := ⟨RX9, "get", "(III)I"⟩
abbrev cX9_copy : ByteArray := prog_11_method_15_code
def yX9_copy : MethodName := ⟨RX9, "copy", "(IIIII)I"⟩
abbrev cX9_isText : ByteArray := prog_11_method_16_code
def yX9_isText : MethodName := ⟨RX9, "isText", "(I)Z"⟩
abbrev cX9_isSpring : ByteArray := prog_11_method_17_code
def yX9_isSpring : MethodName := ⟨RX9, "isSpring", "(I)Z"⟩
abbrev cX9_isDay : ByteArray := prog_11_method_18_code
def yX9_isDay : MethodName := ⟨RX9, "isDay", "(I)Z"⟩
abbrev cX9_type : ByteArray := prog_11_method_19_code
def yX9_type : MethodName := ⟨RX9, "type", "(II)I"⟩
abbrev cX9_undo : ByteArray := prog_11_method_20_code
def yX9_undo : MethodName := ⟨RX9, "undo", "(I)I"⟩
abbrev cX9_wipe : ByteArray := prog_11_method_21_code
def yX9_wipe : MethodName := ⟨RX9, "wipe", "(I)I"⟩
abbrev cX9_faultOf : ByteArray := prog_11_method_22_code
def yX9_faultOf : MethodName := ⟨RX9, "faultOf", "(I)I"⟩
abbrev cX9_fault : ByteArray := prog_11_method_23_code
def yX9_fault : MethodName := ⟨RX9, "fault", "(I)I"⟩
abbrev cX9_figures : ByteArray := prog_11_method_24_code
def yX9_figures : MethodName := ⟨RX9, "figures", "(I)I"⟩
abbrev cX9_yards : ByteArray := prog_11_method_25_code
def yX9_yards : MethodName := ⟨RX9, "yards", "()I"⟩
abbrev cX9_isYard : ByteArray := prog_11_method_26_code
def yX9_isYard : MethodName := ⟨RX9, "isYard", "(I)Z"⟩
abbrev cX9_heightOf : ByteArray := prog_11_method_27_code
def yX9_heightOf : MethodName := ⟨RX9, "heightOf", "(I)I"⟩
abbrev cX9_height : ByteArray := prog_11_method_28_code
def yX9_height : MethodName := ⟨RX9, "height", "(I)I"⟩
abbrev cX9_levelOf : ByteArray := prog_11_method_29_code
def yX9_levelOf : MethodName := ⟨RX9, "levelOf", "(II)I"⟩
abbrev cX9_level : ByteArray := prog_11_method_30_code
def yX9_level : MethodName := ⟨RX9, "level", "(II)I"⟩
abbrev cX9_most : ByteArray := prog_11_method_31_code
def yX9_most : MethodName := ⟨RX9, "most", "(I)I"⟩
abbrev cX9_set : ByteArray := prog_11_method_32_code
def yX9_set : MethodName := ⟨RX9, "set", "(II)I"⟩
abbrev cX9_odds : ByteArray := prog_11_method_33_code
def yX9_odds : MethodName := ⟨RX9, "odds", "(II)I"⟩
abbrev cX9_dike : ByteArray := prog_11_method_34_code
def yX9_dike : MethodName := ⟨RX9, "dike", "(III)I"⟩
abbrev cX9_read : ByteArray := prog_11_method_35_code
def yX9_read : MethodName := ⟨RX9, "read", "(I)I"⟩
abbrev cX9_breaks : ByteArray := prog_11_method_36_code
def yX9_breaks : MethodName := ⟨RX9, "breaks", "()I"⟩
abbrev cX9_isKept : ByteArray := prog_11_method_37_code
def yX9_isKept : MethodName := ⟨RX9, "isKept", "(II)Z"⟩
abbrev cX9_possessionOf : ByteArray := prog_11_method_38_code
def yX9_possessionOf : MethodName := ⟨RX9, "possessionOf", "(I)I"⟩
abbrev cX9_possession : ByteArray := prog_11_method_39_code
def yX9_possession : MethodName := ⟨RX9, "possession", "(I)I"⟩
abbrev cX9_isWet : ByteArray := prog_11_method_40_code
def yX9_isWet : MethodName := ⟨RX9, "isWet", "(III)Z"⟩
abbrev cX9_wet : ByteArray := prog_11_method_41_code
def yX9_wet : MethodName := ⟨RX9, "wet", "(III)I"⟩
abbrev cX9_waterOf : ByteArray := prog_11_method_42_code
def yX9_waterOf : MethodName := ⟨RX9, "waterOf", "(III)I"⟩
abbrev cX9_water : ByteArray := prog_11_method_43_code
def yX9_water : MethodName := ⟨RX9, "water", "(III)I"⟩
abbrev cX9_lesser : ByteArray := prog_11_method_44_code
def yX9_lesser : MethodName := ⟨RX9, "lesser", "(II)I"⟩
abbrev cX9_costOf : ByteArray := prog_11_method_45_code
def yX9_costOf : MethodName := ⟨RX9, "costOf", "(IIIII)I"⟩
abbrev cX9_isWay : ByteArray := prog_11_method_46_code
def yX9_isWay : MethodName := ⟨RX9, "isWay", "(IIII)Z"⟩
abbrev cX9_cost : ByteArray := prog_11_method_47_code
def yX9_cost : MethodName := ⟨RX9, "cost", "(IIIII)I"⟩
abbrev cX9_closedOf : ByteArray := prog_11_method_48_code
def yX9_closedOf : MethodName := ⟨RX9, "closedOf", "(II)I"⟩
abbrev cX9_closed : ByteArray := prog_11_method_49_code
def yX9_closed : MethodName := ⟨RX9, "closed", "(II)I"⟩
abbrev cX9_deedOf : ByteArray := prog_11_method_50_code
def yX9_deedOf : MethodName := ⟨RX9, "deedOf", "(II)I"⟩
abbrev cX9_deed : ByteArray := prog_11_method_51_code
def yX9_deed : MethodName := ⟨RX9, "deed", "(II)I"⟩
abbrev cX9_alike : ByteArray := prog_11_method_52_code
def yX9_alike : MethodName := ⟨RX9, "alike", "(II)I"⟩
abbrev cX9_weight : ByteArray := prog_11_method_53_code
def yX9_weight : MethodName := ⟨RX9, "weight", "(I)J"⟩
abbrev cX9_waitingFor : ByteArray := prog_11_method_54_code
def yX9_waitingFor : MethodName := ⟨RX9, "waitingFor", "(II)J"⟩
abbrev cX9_findWorths : ByteArray := prog_11_method_55_code
def yX9_findWorths : MethodName := ⟨RX9, "findWorths", "(IIII)V"⟩
abbrev cX9_part : ByteArray := prog_11_method_56_code
def yX9_part : MethodName := ⟨RX9, "part", "(JJI)J"⟩
abbrev cX9_waitsOf : ByteArray := prog_11_method_57_code
def yX9_waitsOf : MethodName := ⟨RX9, "waitsOf", "(IIIII)J"⟩
abbrev cX9_waits : ByteArray := prog_11_method_58_code
def yX9_waits : MethodName := ⟨RX9, "waits", "(IIIII)J"⟩
abbrev cX9_goesOf : ByteArray := prog_11_method_59_code
def yX9_goesOf : MethodName := ⟨RX9, "goesOf", "(IIII)I"⟩
abbrev cX9_goes : ByteArray := prog_11_method_60_code
def yX9_goes : MethodName := ⟨RX9, "goes", "(IIII)I"⟩
abbrev cX9_dryDays : ByteArray := prog_11_method_61_code
def yX9_dryDays : MethodName := ⟨RX9, "dryDays", "(IIII)I"⟩
abbrev cX9_keepOf : ByteArray := prog_11_method_62_code
def yX9_keepOf : MethodName := ⟨RX9, "keepOf", "(IIIIII)I"⟩
abbrev cX9_keep : ByteArray := prog_11_method_63_code
def yX9_keep : MethodName := ⟨RX9, "keep", "(IIIIII)I"⟩
abbrev cX9_contract : ByteArray := prog_11_method_64_code
def yX9_contract : MethodName := ⟨RX9, "contract", "(IIII)I"⟩
abbrev cX9_tears : ByteArray := prog_11_method_65_code
def yX9_tears : MethodName := ⟨RX9, "tears", "(I)I"⟩
abbrev cX9_brings : ByteArray := prog_11_method_66_code
def yX9_brings : MethodName := ⟨RX9, "brings", "(II)I"⟩
abbrev cX9_areThere : ByteArray := prog_11_method_67_code
def yX9_areThere : MethodName := ⟨RX9, "areThere", "(I)Z"⟩
abbrev cX9_findNever : ByteArray := prog_11_method_68_code
def yX9_findNever : MethodName := ⟨RX9, "findNever", "()V"⟩
abbrev cX9_neverOf : ByteArray := prog_11_method_69_code
def yX9_neverOf : MethodName := ⟨RX9, "neverOf", "(I)I"⟩
abbrev cX9_never : ByteArray := prog_11_method_70_code
def yX9_never : MethodName := ⟨RX9, "never", "(I)I"⟩
abbrev cX9_gainOf : ByteArray := prog_11_method_71_code
def yX9_gainOf : MethodName := ⟨RX9, "gainOf", "(I)J"⟩
abbrev cX9_gain : ByteArray := prog_11_method_72_code
def yX9_gain : MethodName := ⟨RX9, "gain", "(I)J"⟩
abbrev cX9_kinds : ByteArray := prog_11_method_73_code
def yX9_kinds : MethodName := ⟨RX9, "kinds", "(I)I"⟩
abbrev cX9_watchNow : ByteArray := prog_11_method_74_code
def yX9_watchNow : MethodName := ⟨RX9, "watchNow", "()I"⟩
abbrev cX9_watch : ByteArray := prog_11_method_75_code
def yX9_watch : MethodName := ⟨RX9, "watch", "()I"⟩
abbrev cX9_fact : ByteArray := prog_11_method_76_code
def yX9_fact : MethodName := ⟨RX9, "fact", "(III)I"⟩
abbrev cX9_forget : ByteArray := prog_11_method_77_code
def yX9_forget : MethodName := ⟨RX9, "forget", "()I"⟩
abbrev cX9_fitNow : ByteArray := prog_11_method_78_code
def yX9_fitNow : MethodName := ⟨RX9, "fitNow", "()I"⟩
abbrev cX9_fit : ByteArray := prog_11_method_79_code
def yX9_fit : MethodName := ⟨RX9, "fit", "()I"⟩
abbrev cX9_write : ByteArray := prog_11_method_80_code
def yX9_write : MethodName := ⟨RX9, "write", "(II)I"⟩
abbrev cX9_count : ByteArray := prog_11_method_81_code
def yX9_count : MethodName := ⟨RX9, "count", "(I)I"⟩
abbrev cX9_digest : ByteArray := prog_11_method_82_code
def yX9_digest : MethodName := ⟨RX9, "digest", "()J"⟩
def RJ6 : String := "java/lang/Integer"
def TJ6 : u_T := fun k => match k with
  | _ => ("", "", "", false)
def tyJ6 : Nat → FieldType := fun k => match k with
  | _ => .int
abbrev wsJ60 : List Cond := u_ws RJ6 TJ6 0
theorem nmJ6 : ∀ a, a < 0 → ∀ b, b < 0 → a ≠ b → (TJ6 a).2.1 ≠ (TJ6 b).2.1 := by decide +kernel
theorem tyJ6_ok : ∀ k, k < 0 → parseFieldDescriptor (TJ6 k).2.2.1 = some (tyJ6 k) := by decide +kernel
abbrev cJ6_bitCount_0f7a4 : ByteArray := prog_12_method_49_code
def yJ6_bitCount_0f7a4 : MethodName := ⟨RJ6, "bitCount", "(I)I"⟩
def RJ9 : String := "java/lang/Math"
def TJ9 : u_T := fun k => match k with
  | _ => ("", "", "", false)
def tyJ9 : Nat → FieldType := fun k => match k with
  | _ => .int
abbrev wsJ90 : List Cond := u_ws RJ9 TJ9 0
theorem nmJ9 : ∀ a, a < 0 → ∀ b, b < 0 → a ≠ b → (TJ9 a).2.1 ≠ (TJ9 b).2.1 := by decide +kernel
theorem tyJ9_ok : ∀ k, k < 0 → parseFieldDescriptor (TJ9 k).2.2.1 = some (tyJ9 k) := by decide +kernel
abbrev cJ9_max_7cf53 : ByteArray := prog_13_method_65_code
def yJ9_max_7cf53 : MethodName := ⟨RJ9, "max", "(II)I"⟩
abbrev cJ9_min_7cf53 : ByteArray := prog_13_method_69_code
def yJ9_min_7cf53 : MethodName := ⟨RJ9, "min", "(II)I"⟩
def RJ10 : String := "java/lang/System"
def TJ10 : u_T := fun k => match k with
  | _ => ("", "", "", false)
def tyJ10 : Nat → FieldType := fun k => match k with
  | _ => .int
abbrev wsJ100 : List Cond := u_ws RJ10 TJ10 0
theorem nmJ10 : ∀ a, a < 0 → ∀ b, b < 0 → a ≠ b → (TJ10 a).2.1 ≠ (TJ10 b).2.1 := by decide +kernel
theorem tyJ10_ok : ∀ k, k < 0 → parseFieldDescriptor (TJ10 k).2.2.1 = some (tyJ10 k) := by decide +kernel
def RL : String := "RoadRiverLaw"
abbrev cL_law : ByteArray := code
def yL_law : MethodName := ⟨RL, "law", "([I)Z"⟩
abbrev vwCl : List vw_C := [(RX0, TX0, 10), (RX1, TX1, 4), (RX2, TX2, 4), (RX3, TX3, 4), (RX4, TX4, 3), (RX5, TX5, 2), (RX6, TX6, 9), (RX7, TX7, 7), (RX8, TX8, 11), (RX9, TX9, 19)]
end
section
theorem dX0_init_0 : decode cX0_init 0 = .ok (.aload_n 0, 1) := by decide +kernel
theorem dX0_init_1 : decode cX0_init 1 = .ok (.invokespecial 3, 3) := by decide +kernel
theorem dX0_init_4 : decode cX0_init 4 = .ok (.aload_n 0, 1) := by decide +kernel
theorem dX0_init_5 : decode cX0_init 5 = .ok (.bipush 8, 2) := by decide +kernel
theorem dX0_init_7 : decode cX0_init 7 = .ok (.newarray .int, 2) := by decide +kernel
theorem dX0_init_9 : decode cX0_init 9 = .ok (.putfield 9, 3) := by decide +kernel
theorem dX0_init_12 : decode cX0_init 12 = .ok (.aload_n 0, 1) := by decide +kernel
theorem dX0_init_13 : decode cX0_init 13 = .ok (.bipush 8, 2) := by decide +kernel
theorem dX0_init_15 : decode cX0_init 15 = .ok (.newarray .int, 2) := by decide +kernel
theorem dX0_init_17 : decode cX0_init 17 = .ok (.putfield 15, 3) := by decide +kernel
theorem dX0_init_20 : decode cX0_init 20 = .ok (.aload_n 0, 1) := by decide +kernel
theorem dX0_init_21 : decode cX0_init 21 = .ok (.bipush 8, 2) := by decide +kernel
theorem dX0_init_23 : decode cX0_init 23 = .ok (.newarray .int, 2) := by decide +kernel
theorem dX0_init_25 : decode cX0_init 25 = .ok (.putfield 18, 3) := by decide +kernel
theorem dX0_init_28 : decode cX0_init 28 = .ok (.aload_n 0, 1) := by decide +kernel
theorem dX0_init_29 : decode cX0_init 29 = .ok (.iconst 3, 1) := by decide +kernel
theorem dX0_init_30 : decode cX0_init 30 = .ok (.sipush 256, 3) := by decide +kernel
theorem dX0_init_33 : decode cX0_init 33 = .ok (.multianewarray 21 2, 4) := by decide +kernel
theorem dX0_init_37 : decode cX0_init 37 = .ok (.putfield 23, 3) := by decide +kernel
theorem dX0_init_40 : decode cX0_init 40 = .ok (.aload_n 0, 1) := by decide +kernel
theorem dX0_init_41 : decode cX0_init 41 = .ok (.iconst 0, 1) := by decide +kernel
theorem dX0_init_42 : decode cX0_init 42 = .ok (.putfield 26, 3) := by decide +kernel
theorem dX0_init_45 : decode cX0_init 45 = .ok (.aload_n 0, 1) := by decide +kernel
theorem dX0_init_46 : decode cX0_init 46 = .ok (.iconst 0, 1) := by decide +kernel
theorem dX0_init_47 : decode cX0_init 47 = .ok (.putfield 30, 3) := by decide +kernel
theorem dX0_init_50 : decode cX0_init 50 = .ok (.aload_n 0, 1) := by decide +kernel
theorem dX0_init_51 : decode cX0_init 51 = .ok (.iconst 0, 1) := by decide +kernel
theorem dX0_init_52 : decode cX0_init 52 = .ok (.putfield 33, 3) := by decide +kernel
theorem dX0_init_55 : decode cX0_init 55 = .ok (.aload_n 0, 1) := by decide +kernel
theorem dX0_init_56 : decode cX0_init 56 = .ok (.iconst 0, 1) := by decide +kernel
theorem dX0_init_57 : decode cX0_init 57 = .ok (.putfield 36, 3) := by decide +kernel
theorem dX0_init_60 : decode cX0_init 60 = .ok (.aload_n 0, 1) := by decide +kernel
theorem dX0_init_61 : decode cX0_init 61 = .ok (.aload_n 1, 1) := by decide +kernel
theorem dX0_init_62 : decode cX0_init 62 = .ok (.putfield 39, 3) := by decide +kernel
theorem dX0_init_65 : decode cX0_init 65 = .ok (.aload_n 0, 1) := by decide +kernel
theorem dX0_init_66 : decode cX0_init 66 = .ok (.aload_n 2, 1) := by decide +kernel
theorem dX0_init_67 : decode cX0_init 67 = .ok (.putfield 43, 3) := by decide +kernel
theorem dX0_init_70 : decode cX0_init 70 = .ok (.return_, 1) := by decide +kernel
theorem dX0_sign_0 : decode cX0_sign 0 = .ok (.iload_n 1, 1) := by decide +kernel
theorem dX0_sign_1 : decode cX0_sign 1 = .ok (.bipush 8, 2) := by decide +kernel
theorem dX0_sign_3 : decode cX0_sign 3 = .ok (.invokestatic 46, 3) := by decide +kernel
theorem dX0_sign_6 : decode cX0_sign 6 = .ok (.ifCond .eq 37, 3) := by decide +kernel
theorem dX0_sign_9 : decode cX0_sign 9 = .ok (.aload_n 0, 1) := by decide +kernel
theorem dX0_sign_10 : decode cX0_sign 10 = .ok (.getfield 9, 3) := by decide +kernel
theorem dX0_sign_13 : decode cX0_sign 13 = .ok (.iload_n 1, 1) := by decide +kernel
theorem dX0_sign_14 : decode cX0_sign 14 = .ok (.iload_n 2, 1) := by decide +kernel
theorem dX0_sign_15 : decode cX0_sign 15 = .ok (.iastore, 1) := by decide +kernel
theorem dX0_sign_16 : decode cX0_sign 16 = .ok (.aload_n 0, 1) := by decide +kernel
theorem dX0_sign_17 : decode cX0_sign 17 = .ok (.getfield 15, 3) := by decide +kernel
theorem dX0_sign_20 : decode cX0_sign 20 = .ok (.iload_n 1, 1) := by decide +kernel
theorem dX0_sign_21 : decode cX0_sign 21 = .ok (.iload_n 3, 1) := by decide +kernel
theorem dX0_sign_22 : decode cX0_sign 22 = .ok (.iastore, 1) := by decide +kernel
theorem dX0_sign_23 : decode cX0_sign 23 = .ok (.aload_n 0, 1) := by decide +kernel
theorem dX0_sign_24 : decode cX0_sign 24 = .ok (.getfield 18, 3) := by decide +kernel
theorem dX0_sign_27 : decode cX0_sign 27 = .ok (.iload_n 1, 1) := by decide +kernel
theorem dX0_sign_28 : decode cX0_sign 28 = .ok (.iload 4, 2) := by decide +kernel
theorem dX0_sign_30 : decode cX0_sign 30 = .ok (.iastore, 1) := by decide +kernel
theorem dX0_sign_31 : decode cX0_sign 31 = .ok (.aload_n 0, 1) := by decide +kernel
theorem dX0_sign_32 : decode cX0_sign 32 = .ok (.dup, 1) := by decide +kernel
theorem dX0_sign_33 : decode cX0_sign 33 = .ok (.getfield 26, 3) := by decide +kernel
theorem dX0_sign_36 : decode cX0_sign 36 = .ok (.iconst 1, 1) := by decide +kernel
theorem dX0_sign_37 : decode cX0_sign 37 = .ok (.iload_n 1, 1) := by decide +kernel
theorem dX0_sign_38 : decode cX0_sign 38 = .ok (.ishl, 1) := by decide +kernel
theorem dX0_sign_39 : decode cX0_sign 39 = .ok (.ior, 1) := by decide +kernel
theorem dX0_sign_40 : decode cX0_sign 40 = .ok (.putfield 26, 3) := by decide +kernel
theorem dX0_sign_43 : decode cX0_sign 43 = .ok (.return_, 1) := by decide +kernel
theorem dX0_isSigned_0 : decode cX0_isSigned 0 = .ok (.aload_n 0, 1) := by decide +kernel
theorem dX0_isSigned_1 : decode cX0_isSigned 1 = .ok (.getfield 26, 3) := by decide +kernel
theorem dX0_isSigned_4 : decode cX0_isSigned 4 = .ok (.iload_n 1, 1) := by decide +kernel
theorem dX0_isSigned_5 : decode cX0_isSigned 5 = .ok (.ishr, 1) := by decide +kernel
theorem dX0_isSigned_6 : decode cX0_isSigned 6 = .ok (.iconst 1, 1) := by decide +kernel
theorem dX0_isSigned_7 : decode cX0_isSigned 7 = .ok (.iand, 1) := by decide +kernel
theorem dX0_isSigned_8 : decode cX0_isSigned 8 = .ok (.iconst 1, 1) := by decide +kernel
theorem dX0_isSigned_9 : decode cX0_isSigned 9 = .ok (.if_icmp .ne 7, 3) := by decide +kernel
theorem dX0_isSigned_12 : decode cX0_isSigned 12 = .ok (.iconst 1, 1) := by decide +kernel
theorem dX0_isSigned_13 : decode cX0_isSigned 13 = .ok (.goto 4, 3) := by decide +kernel
theorem dX0_isSigned_16 : decode cX0_isSigned 16 = .ok (.iconst 0, 1) := by decide +kernel
theorem dX0_isSigned_17 : decode cX0_isSigned 17 = .ok (.ireturn, 1) := by decide +kernel
theorem dX0_tearUp_0 : decode cX0_tearUp 0 = .ok (.aload_n 0, 1) := by decide +kernel
theorem dX0_tearUp_1 : decode cX0_tearUp 1 = .ok (.dup, 1) := by decide +kernel
theorem dX0_tearUp_2 : decode cX0_tearUp 2 = .ok (.getfield 26, 3) := by decide +kernel
theorem dX0_tearUp_5 : decode cX0_tearUp 5 = .ok (.iconst 1, 1) := by decide +kernel
theorem dX0_tearUp_6 : decode cX0_tearUp 6 = .ok (.iload_n 1, 1) := by decide +kernel
theorem dX0_tearUp_7 : decode cX0_tearUp 7 = .ok (.ishl, 1) := by decide +kernel
theorem dX0_tearUp_8 : decode cX0_tearUp 8 = .ok (.iconst (-1), 1) := by decide +kernel
theorem dX0_tearUp_9 : decode cX0_tearUp 9 = .ok (.ixor, 1) := by decide +kernel
theorem dX0_tearUp_10 : decode cX0_tearUp 10 = .ok (.iand, 1) := by decide +kernel
theorem dX0_tearUp_11 : decode cX0_tearUp 11 = .ok (.putfield 26, 3) := by decide +kernel
theorem dX0_tearUp_14 : decode cX0_tearUp 14 = .ok (.return_, 1) := by decide +kernel
theorem dX0_reckon_0 : decode cX0_reckon 0 = .ok (.iconst 0, 1) := by decide +kernel
theorem dX0_reckon_1 : decode cX0_reckon 1 = .ok (.istore_n 1, 1) := by decide +kernel
theorem dX0_reckon_2 : decode cX0_reckon 2 = .ok (.iload_n 1, 1) := by decide +kernel
theorem dX0_reckon_3 : decode cX0_reckon 3 = .ok (.iconst 3, 1) := by decide +kernel
theorem dX0_reckon_4 : decode cX0_reckon 4 = .ok (.if_icmp .ge 14, 3) := by decide +kernel
theorem dX0_reckon_7 : decode cX0_reckon 7 = .ok (.aload_n 0, 1) := by decide +kernel
theorem dX0_reckon_8 : decode cX0_reckon 8 = .ok (.iload_n 1, 1) := by decide +kernel
theorem dX0_reckon_9 : decode cX0_reckon 9 = .ok (.invokevirtual 50, 3) := by decide +kernel
theorem dX0_reckon_12 : decode cX0_reckon 12 = .ok (.iinc 1 1, 3) := by decide +kernel
theorem dX0_reckon_15 : decode cX0_reckon 15 = .ok (.goto (-13), 3) := by decide +kernel
theorem dX0_reckon_18 : decode cX0_reckon 18 = .ok (.aload_n 0, 1) := by decide +kernel
theorem dX0_reckon_19 : decode cX0_reckon 19 = .ok (.iconst 0, 1) := by decide +kernel
theorem dX0_reckon_20 : decode cX0_reckon 20 = .ok (.putfield 30, 3) := by decide +kernel
theorem dX0_reckon_23 : decode cX0_reckon 23 = .ok (.aload_n 0, 1) := by decide +kernel
theorem dX0_reckon_24 : decode cX0_reckon 24 = .ok (.iconst 0, 1) := by decide +kernel
theorem dX0_reckon_25 : decode cX0_reckon 25 = .ok (.putfield 33, 3) := by decide +kernel
theorem dX0_reckon_28 : decode cX0_reckon 28 = .ok (.aload_n 0, 1) := by decide +kernel
theorem dX0_reckon_29 : decode cX0_reckon 29 = .ok (.iconst 0, 1) := by decide +kernel
theorem dX0_reckon_30 : decode cX0_reckon 30 = .ok (.putfield 36, 3) := by decide +kernel
theorem dX0_reckon_33 : decode cX0_reckon 33 = .ok (.iconst 0, 1) := by decide +kernel
theorem dX0_reckon_34 : decode cX0_reckon 34 = .ok (.istore_n 1, 1) := by decide +kernel
theorem dX0_reckon_35 : decode cX0_reckon 35 = .ok (.iload_n 1, 1) := by decide +kernel
theorem dX0_reckon_36 : decode cX0_reckon 36 = .ok (.sipush 256, 3) := by decide +kernel
theorem dX0_reckon_39 : decode cX0_reckon 39 = .ok (.if_icmp .ge 62, 3) := by decide +kernel
theorem dX0_reckon_42 : decode cX0_reckon 42 = .ok (.iload_n 1, 1) := by decide +kernel
theorem dX0_reckon_43 : decode cX0_reckon 43 = .ok (.aload_n 0, 1) := by decide +kernel
theorem dX0_reckon_44 : decode cX0_reckon 44 = .ok (.getfield 26, 3) := by decide +kernel
theorem dX0_reckon_47 : decode cX0_reckon 47 = .ok (.iconst (-1), 1) := by decide +kernel
theorem dX0_reckon_48 : decode cX0_reckon 48 = .ok (.ixor, 1) := by decide +kernel
theorem dX0_reckon_49 : decode cX0_reckon 49 = .ok (.iand, 1) := by decide +kernel
theorem dX0_reckon_50 : decode cX0_reckon 50 = .ok (.ifCond .ne 45, 3) := by decide +kernel
theorem dX0_reckon_53 : decode cX0_reckon 53 = .ok (.aload_n 0, 1) := by decide +kernel
theorem dX0_reckon_54 : decode cX0_reckon 54 = .ok (.iload_n 1, 1) := by decide +kernel
theorem dX0_reckon_55 : decode cX0_reckon 55 = .ok (.invokevirtual 54, 3) := by decide +kernel
theorem dX0_reckon_58 : decode cX0_reckon 58 = .ok (.ifCond .eq 37, 3) := by decide +kernel
theorem dX0_reckon_61 : decode cX0_reckon 61 = .ok (.aload_n 0, 1) := by decide +kernel
theorem dX0_reckon_62 : decode cX0_reckon 62 = .ok (.dup, 1) := by decide +kernel
theorem dX0_reckon_63 : decode cX0_reckon 63 = .ok (.getfield 30, 3) := by decide +kernel
theorem dX0_reckon_66 : decode cX0_reckon 66 = .ok (.iconst 1, 1) := by decide +kernel
theorem dX0_reckon_67 : decode cX0_reckon 67 = .ok (.iadd, 1) := by decide +kernel
theorem dX0_reckon_68 : decode cX0_reckon 68 = .ok (.putfield 30, 3) := by decide +kernel
theorem dX0_reckon_71 : decode cX0_reckon 71 = .ok (.aload_n 0, 1) := by decide +kernel
theorem dX0_reckon_72 : decode cX0_reckon 72 = .ok (.iload_n 1, 1) := by decide +kernel
theorem dX0_reckon_73 : decode cX0_reckon 73 = .ok (.invokevirtual 58, 3) := by decide +kernel
theorem dX0_reckon_76 : decode cX0_reckon 76 = .ok (.istore_n 2, 1) := by decide +kernel
theorem dX0_reckon_77 : decode cX0_reckon 77 = .ok (.iload_n 2, 1) := by decide +kernel
theorem dX0_reckon_78 : decode cX0_reckon 78 = .ok (.aload_n 0, 1) := by decide +kernel
theorem dX0_reckon_79 : decode cX0_reckon 79 = .ok (.getfield 36, 3) := by decide +kernel
theorem dX0_reckon_82 : decode cX0_reckon 82 = .ok (.if_icmp .le 13, 3) := by decide +kernel
theorem dX0_reckon_85 : decode cX0_reckon 85 = .ok (.aload_n 0, 1) := by decide +kernel
theorem dX0_reckon_86 : decode cX0_reckon 86 = .ok (.iload_n 2, 1) := by decide +kernel
theorem dX0_reckon_87 : decode cX0_reckon 87 = .ok (.putfield 36, 3) := by decide +kernel
theorem dX0_reckon_90 : decode cX0_reckon 90 = .ok (.aload_n 0, 1) := by decide +kernel
theorem dX0_reckon_91 : decode cX0_reckon 91 = .ok (.iload_n 1, 1) := by decide +kernel
theorem dX0_reckon_92 : decode cX0_reckon 92 = .ok (.putfield 33, 3) := by decide +kernel
theorem dX0_reckon_95 : decode cX0_reckon 95 = .ok (.iinc 1 1, 3) := by decide +kernel
theorem dX0_reckon_98 : decode cX0_reckon 98 = .ok (.goto (-63), 3) := by decide +kernel
theorem dX0_reckon_101 : decode cX0_reckon 101 = .ok (.return_, 1) := by decide +kernel
theorem dX0_fillBrought_0 : decode cX0_fillBrought 0 = .ok (.aload_n 0, 1) := by decide +kernel
theorem dX0_fillBrought_1 : decode cX0_fillBrought 1 = .ok (.getfield 23, 3) := by decide +kernel
theorem dX0_fillBrought_4 : decode cX0_fillBrought 4 = .ok (.iload_n 1, 1) := by decide +kernel
theorem dX0_fillBrought_5 : decode cX0_fillBrought 5 = .ok (.aaload, 1) := by decide +kernel
theorem dX0_fillBrought_6 : decode cX0_fillBrought 6 = .ok (.iconst 0, 1) := by decide +kernel
theorem dX0_fillBrought_7 : decode cX0_fillBrought 7 = .ok (.iconst 0, 1) := by decide +kernel
theorem dX0_fillBrought_8 : decode cX0_fillBrought 8 = .ok (.iastore, 1) := by decide +kernel
theorem dX0_fillBrought_9 : decode cX0_fillBrought 9 = .ok (.iconst 0, 1) := by decide +kernel
theorem dX0_fillBrought_10 : decode cX0_fillBrought 10 = .ok (.istore_n 2, 1) := by decide +kernel
theorem dX0_fillBrought_11 : decode cX0_fillBrought 11 = .ok (.iload_n 2, 1) := by decide +kernel
theorem dX0_fillBrought_12 : decode cX0_fillBrought 12 = .ok (.bipush 8, 2) := by decide +kernel
theorem dX0_fillBrought_14 : decode cX0_fillBrought 14 = .ok (.if_icmp .ge 83, 3) := by decide +kernel
theorem dX0_fillBrought_17 : decode cX0_fillBrought 17 = .ok (.aload_n 0, 1) := by decide +kernel
theorem dX0_fillBrought_18 : decode cX0_fillBrought 18 = .ok (.iload_n 2, 1) := by decide +kernel
theorem dX0_fillBrought_19 : decode cX0_fillBrought 19 = .ok (.iload_n 1, 1) := by decide +kernel
theorem dX0_fillBrought_20 : decode cX0_fillBrought 20 = .ok (.invokevirtual 62, 3) := by decide +kernel
theorem dX0_fillBrought_23 : decode cX0_fillBrought 23 = .ok (.istore_n 3, 1) := by decide +kernel
theorem dX0_fillBrought_24 : decode cX0_fillBrought 24 = .ok (.aload_n 0, 1) := by decide +kernel
theorem dX0_fillBrought_25 : decode cX0_fillBrought 25 = .ok (.iload_n 2, 1) := by decide +kernel
theorem dX0_fillBrought_26 : decode cX0_fillBrought 26 = .ok (.invokevirtual 66, 3) := by decide +kernel
theorem dX0_fillBrought_29 : decode cX0_fillBrought 29 = .ok (.ifCond .eq 9, 3) := by decide +kernel
theorem dX0_fillBrought_32 : decode cX0_fillBrought 32 = .ok (.iconst 1, 1) := by decide +kernel
theorem dX0_fillBrought_33 : decode cX0_fillBrought 33 = .ok (.iload_n 2, 1) := by decide +kernel
theorem dX0_fillBrought_34 : decode cX0_fillBrought 34 = .ok (.ishl, 1) := by decide +kernel
theorem dX0_fillBrought_35 : decode cX0_fillBrought 35 = .ok (.goto 4, 3) := by decide +kernel
theorem dX0_fillBrought_38 : decode cX0_fillBrought 38 = .ok (.iconst 0, 1) := by decide +kernel
theorem dX0_fillBrought_39 : decode cX0_fillBrought 39 = .ok (.istore 4, 2) := by decide +kernel
theorem dX0_fillBrought_41 : decode cX0_fillBrought 41 = .ok (.iconst 0, 1) := by decide +kernel
theorem dX0_fillBrought_42 : decode cX0_fillBrought 42 = .ok (.istore 5, 2) := by decide +kernel
theorem dX0_fillBrought_44 : decode cX0_fillBrought 44 = .ok (.iload 5, 2) := by decide +kernel
theorem dX0_fillBrought_46 : decode cX0_fillBrought 46 = .ok (.iload 4, 2) := by decide +kernel
theorem dX0_fillBrought_48 : decode cX0_fillBrought 48 = .ok (.if_icmp .ge 43, 3) := by decide +kernel
theorem dX0_fillBrought_51 : decode cX0_fillBrought 51 = .ok (.iload 4, 2) := by decide +kernel
theorem dX0_fillBrought_53 : decode cX0_fillBrought 53 = .ok (.iload 5, 2) := by decide +kernel
theorem dX0_fillBrought_55 : decode cX0_fillBrought 55 = .ok (.iadd, 1) := by decide +kernel
theorem dX0_fillBrought_56 : decode cX0_fillBrought 56 = .ok (.sipush 256, 3) := by decide +kernel
theorem dX0_fillBrought_59 : decode cX0_fillBrought 59 = .ok (.if_icmp .ge 32, 3) := by decide +kernel
theorem dX0_fillBrought_62 : decode cX0_fillBrought 62 = .ok (.aload_n 0, 1) := by decide +kernel
theorem dX0_fillBrought_63 : decode cX0_fillBrought 63 = .ok (.getfield 23, 3) := by decide +kernel
theorem dX0_fillBrought_66 : decode cX0_fillBrought 66 = .ok (.iload_n 1, 1) := by decide +kernel
theorem dX0_fillBrought_67 : decode cX0_fillBrought 67 = .ok (.aaload, 1) := by decide +kernel
theorem dX0_fillBrought_68 : decode cX0_fillBrought 68 = .ok (.iload 4, 2) := by decide +kernel
theorem dX0_fillBrought_70 : decode cX0_fillBrought 70 = .ok (.iload 5, 2) := by decide +kernel
theorem dX0_fillBrought_72 : decode cX0_fillBrought 72 = .ok (.iadd, 1) := by decide +kernel
theorem dX0_fillBrought_73 : decode cX0_fillBrought 73 = .ok (.aload_n 0, 1) := by decide +kernel
theorem dX0_fillBrought_74 : decode cX0_fillBrought 74 = .ok (.getfield 23, 3) := by decide +kernel
theorem dX0_fillBrought_77 : decode cX0_fillBrought 77 = .ok (.iload_n 1, 1) := by decide +kernel
theorem dX0_fillBrought_78 : decode cX0_fillBrought 78 = .ok (.aaload, 1) := by decide +kernel
theorem dX0_fillBrought_79 : decode cX0_fillBrought 79 = .ok (.iload 5, 2) := by decide +kernel
theorem dX0_fillBrought_81 : decode cX0_fillBrought 81 = .ok (.iaload, 1) := by decide +kernel
theorem dX0_fillBrought_82 : decode cX0_fillBrought 82 = .ok (.iload_n 3, 1) := by decide +kernel
theorem dX0_fillBrought_83 : decode cX0_fillBrought 83 = .ok (.iadd, 1) := by decide +kernel
theorem dX0_fillBrought_84 : decode cX0_fillBrought 84 = .ok (.iastore, 1) := by decide +kernel
theorem dX0_fillBrought_85 : decode cX0_fillBrought 85 = .ok (.iinc 5 1, 3) := by decide +kernel
theorem dX0_fillBrought_88 : decode cX0_fillBrought 88 = .ok (.goto (-44), 3) := by decide +kernel
theorem dX0_fillBrought_91 : decode cX0_fillBrought 91 = .ok (.iinc 2 1, 3) := by decide +kernel
theorem dX0_fillBrought_94 : decode cX0_fillBrought 94 = .ok (.goto (-83), 3) := by decide +kernel
theorem dX0_fillBrought_97 : decode cX0_fillBrought 97 = .ok (.return_, 1) := by decide +kernel
theorem dX0_amountOf_0 : decode cX0_amountOf 0 = .ok (.aload_n 0, 1) := by decide +kernel
theorem dX0_amountOf_1 : decode cX0_amountOf 1 = .ok (.getfield 39, 3) := by decide +kernel
theorem dX0_amountOf_4 : decode cX0_amountOf 4 = .ok (.iload_n 2, 1) := by decide +kernel
theorem dX0_amountOf_5 : decode cX0_amountOf 5 = .ok (.invokevirtual 69, 3) := by decide +kernel
theorem dX0_amountOf_8 : decode cX0_amountOf 8 = .ok (.istore_n 3, 1) := by decide +kernel
theorem dX0_amountOf_9 : decode cX0_amountOf 9 = .ok (.iload_n 3, 1) := by decide +kernel
theorem dX0_amountOf_10 : decode cX0_amountOf 10 = .ok (.iconst (-1), 1) := by decide +kernel
theorem dX0_amountOf_11 : decode cX0_amountOf 11 = .ok (.if_icmp .eq 17, 3) := by decide +kernel
theorem dX0_amountOf_14 : decode cX0_amountOf 14 = .ok (.iload_n 3, 1) := by decide +kernel
theorem dX0_amountOf_15 : decode cX0_amountOf 15 = .ok (.aload_n 0, 1) := by decide +kernel
theorem dX0_amountOf_16 : decode cX0_amountOf 16 = .ok (.getfield 9, 3) := by decide +kernel
theorem dX0_amountOf_19 : decode cX0_amountOf 19 = .ok (.iload_n 1, 1) := by decide +kernel
theorem dX0_amountOf_20 : decode cX0_amountOf 20 = .ok (.iaload, 1) := by decide +kernel
theorem dX0_amountOf_21 : decode cX0_amountOf 21 = .ok (.if_icmp .gt 7, 3) := by decide +kernel
theorem dX0_amountOf_24 : decode cX0_amountOf 24 = .ok (.iconst 1, 1) := by decide +kernel
theorem dX0_amountOf_25 : decode cX0_amountOf 25 = .ok (.goto 4, 3) := by decide +kernel
theorem dX0_amountOf_28 : decode cX0_amountOf 28 = .ok (.iconst 0, 1) := by decide +kernel
theorem dX0_amountOf_29 : decode cX0_amountOf 29 = .ok (.istore 4, 2) := by decide +kernel
theorem dX0_amountOf_31 : decode cX0_amountOf 31 = .ok (.iload 4, 2) := by decide +kernel
theorem dX0_amountOf_33 : decode cX0_amountOf 33 = .ok (.ifCond .eq 12, 3) := by decide +kernel
theorem dX0_amountOf_36 : decode cX0_amountOf 36 = .ok (.aload_n 0, 1) := by decide +kernel
theorem dX0_amountOf_37 : decode cX0_amountOf 37 = .ok (.getfield 15, 3) := by decide +kernel
theorem dX0_amountOf_40 : decode cX0_amountOf 40 = .ok (.iload_n 1, 1) := by decide +kernel
theorem dX0_amountOf_41 : decode cX0_amountOf 41 = .ok (.iaload, 1) := by decide +kernel
theorem dX0_amountOf_42 : decode cX0_amountOf 42 = .ok (.goto 4, 3) := by decide +kernel
theorem dX0_amountOf_45 : decode cX0_amountOf 45 = .ok (.iconst 0, 1) := by decide +kernel
theorem dX0_amountOf_46 : decode cX0_amountOf 46 = .ok (.aload_n 0, 1) := by decide +kernel
theorem dX0_amountOf_47 : decode cX0_amountOf 47 = .ok (.getfield 18, 3) := by decide +kernel
theorem dX0_amountOf_50 : decode cX0_amountOf 50 = .ok (.iload_n 1, 1) := by decide +kernel
theorem dX0_amountOf_51 : decode cX0_amountOf 51 = .ok (.iaload, 1) := by decide +kernel
theorem dX0_amountOf_52 : decode cX0_amountOf 52 = .ok (.isub, 1) := by decide +kernel
theorem dX0_amountOf_53 : decode cX0_amountOf 53 = .ok (.ireturn, 1) := by decide +kernel
theorem dX0_neverLoses_0 : decode cX0_neverLoses 0 = .ok (.iconst 0, 1) := by decide +kernel
theorem dX0_neverLoses_1 : decode cX0_neverLoses 1 = .ok (.istore_n 2, 1) := by decide +kernel
theorem dX0_neverLoses_2 : decode cX0_neverLoses 2 = .ok (.iload_n 2, 1) := by decide +kernel
theorem dX0_neverLoses_3 : decode cX0_neverLoses 3 = .ok (.iconst 3, 1) := by decide +kernel
theorem dX0_neverLoses_4 : decode cX0_neverLoses 4 = .ok (.if_icmp .ge 31, 3) := by decide +kernel
theorem dX0_neverLoses_7 : decode cX0_neverLoses 7 = .ok (.aload_n 0, 1) := by decide +kernel
theorem dX0_neverLoses_8 : decode cX0_neverLoses 8 = .ok (.getfield 43, 3) := by decide +kernel
theorem dX0_neverLoses_11 : decode cX0_neverLoses 11 = .ok (.iload_n 2, 1) := by decide +kernel
theorem dX0_neverLoses_12 : decode cX0_neverLoses 12 = .ok (.iaload, 1) := by decide +kernel
theorem dX0_neverLoses_13 : decode cX0_neverLoses 13 = .ok (.ifCond .le 16, 3) := by decide +kernel
theorem dX0_neverLoses_16 : decode cX0_neverLoses 16 = .ok (.aload_n 0, 1) := by decide +kernel
theorem dX0_neverLoses_17 : decode cX0_neverLoses 17 = .ok (.getfield 23, 3) := by decide +kernel
theorem dX0_neverLoses_20 : decode cX0_neverLoses 20 = .ok (.iload_n 2, 1) := by decide +kernel
theorem dX0_neverLoses_21 : decode cX0_neverLoses 21 = .ok (.aaload, 1) := by decide +kernel
theorem dX0_neverLoses_22 : decode cX0_neverLoses 22 = .ok (.iload_n 1, 1) := by decide +kernel
theorem dX0_neverLoses_23 : decode cX0_neverLoses 23 = .ok (.iaload, 1) := by decide +kernel
theorem dX0_neverLoses_24 : decode cX0_neverLoses 24 = .ok (.ifCond .ge 5, 3) := by decide +kernel
theorem dX0_neverLoses_27 : decode cX0_neverLoses 27 = .ok (.iconst 0, 1) := by decide +kernel
theorem dX0_neverLoses_28 : decode cX0_neverLoses 28 = .ok (.ireturn, 1) := by decide +kernel
theorem dX0_neverLoses_29 : decode cX0_neverLoses 29 = .ok (.iinc 2 1, 3) := by decide +kernel
theorem dX0_neverLoses_32 : decode cX0_neverLoses 32 = .ok (.goto (-30), 3) := by decide +kernel
theorem dX0_neverLoses_35 : decode cX0_neverLoses 35 = .ok (.iconst 1, 1) := by decide +kernel
theorem dX0_neverLoses_36 : decode cX0_neverLoses 36 = .ok (.ireturn, 1) := by decide +kernel
theorem dX0_weightedSum_0 : decode cX0_weightedSum 0 = .ok (.iconst 0, 1) := by decide +kernel
theorem dX0_weightedSum_1 : decode cX0_weightedSum 1 = .ok (.istore_n 2, 1) := by decide +kernel
theorem dX0_weightedSum_2 : decode cX0_weightedSum 2 = .ok (.iconst 0, 1) := by decide +kernel
theorem dX0_weightedSum_3 : decode cX0_weightedSum 3 = .ok (.istore_n 3, 1) := by decide +kernel
theorem dX0_weightedSum_4 : decode cX0_weightedSum 4 = .ok (.iload_n 3, 1) := by decide +kernel
theorem dX0_weightedSum_5 : decode cX0_weightedSum 5 = .ok (.iconst 3, 1) := by decide +kernel
theorem dX0_weightedSum_6 : decode cX0_weightedSum 6 = .ok (.if_icmp .ge 27, 3) := by decide +kernel
theorem dX0_weightedSum_9 : decode cX0_weightedSum 9 = .ok (.iload_n 2, 1) := by decide +kernel
theorem dX0_weightedSum_10 : decode cX0_weightedSum 10 = .ok (.aload_n 0, 1) := by decide +kernel
theorem dX0_weightedSum_11 : decode cX0_weightedSum 11 = .ok (.getfield 43, 3) := by decide +kernel
theorem dX0_weightedSum_14 : decode cX0_weightedSum 14 = .ok (.iload_n 3, 1) := by decide +kernel
theorem dX0_weightedSum_15 : decode cX0_weightedSum 15 = .ok (.iaload, 1) := by decide +kernel
theorem dX0_weightedSum_16 : decode cX0_weightedSum 16 = .ok (.aload_n 0, 1) := by decide +kernel
theorem dX0_weightedSum_17 : decode cX0_weightedSum 17 = .ok (.getfield 23, 3) := by decide +kernel
theorem dX0_weightedSum_20 : decode cX0_weightedSum 20 = .ok (.iload_n 3, 1) := by decide +kernel
theorem dX0_weightedSum_21 : decode cX0_weightedSum 21 = .ok (.aaload, 1) := by decide +kernel
theorem dX0_weightedSum_22 : decode cX0_weightedSum 22 = .ok (.iload_n 1, 1) := by decide +kernel
theorem dX0_weightedSum_23 : decode cX0_weightedSum 23 = .ok (.iaload, 1) := by decide +kernel
theorem dX0_weightedSum_24 : decode cX0_weightedSum 24 = .ok (.imul, 1) := by decide +kernel
theorem dX0_weightedSum_25 : decode cX0_weightedSum 25 = .ok (.iadd, 1) := by decide +kernel
theorem dX0_weightedSum_26 : decode cX0_weightedSum 26 = .ok (.istore_n 2, 1) := by decide +kernel
theorem dX0_weightedSum_27 : decode cX0_weightedSum 27 = .ok (.iinc 3 1, 3) := by decide +kernel
theorem dX0_weightedSum_30 : decode cX0_weightedSum 30 = .ok (.goto (-26), 3) := by decide +kernel
theorem dX0_weightedSum_33 : decode cX0_weightedSum 33 = .ok (.iload_n 2, 1) := by decide +kernel
theorem dX0_weightedSum_34 : decode cX0_weightedSum 34 = .ok (.ireturn, 1) := by decide +kernel
theorem dX1_init_0 : decode cX1_init 0 = .ok (.aload_n 0, 1) := by decide +kernel
theorem dX1_init_1 : decode cX1_init 1 = .ok (.invokespecial 3, 3) := by decide +kernel
theorem dX1_init_4 : decode cX1_init 4 = .ok (.aload_n 0, 1) := by decide +kernel
theorem dX1_init_5 : decode cX1_init 5 = .ok (.bipush 8, 2) := by decide +kernel
theorem dX1_init_7 : decode cX1_init 7 = .ok (.newarray .int, 2) := by decide +kernel
theorem dX1_init_9 : decode cX1_init 9 = .ok (.putfield 9, 3) := by decide +kernel
theorem dX1_init_12 : decode cX1_init 12 = .ok (.aload_n 0, 1) := by decide +kernel
theorem dX1_init_13 : decode cX1_init 13 = .ok (.bipush 8, 2) := by decide +kernel
theorem dX1_init_15 : decode cX1_init 15 = .ok (.newarray .int, 2) := by decide +kernel
theorem dX1_init_17 : decode cX1_init 17 = .ok (.putfield 15, 3) := by decide +kernel
theorem dX1_init_20 : decode cX1_init 20 = .ok (.aload_n 0, 1) := by decide +kernel
theorem dX1_init_21 : decode cX1_init 21 = .ok (.bipush 8, 2) := by decide +kernel
theorem dX1_init_23 : decode cX1_init 23 = .ok (.newarray .int, 2) := by decide +kernel
theorem dX1_init_25 : decode cX1_init 25 = .ok (.putfield 18, 3) := by decide +kernel
theorem dX1_init_28 : decode cX1_init 28 = .ok (.aload_n 0, 1) := by decide +kernel
theorem dX1_init_29 : decode cX1_init 29 = .ok (.iconst 0, 1) := by decide +kernel
theorem dX1_init_30 : decode cX1_init 30 = .ok (.putfield 21, 3) := by decide +kernel
theorem dX1_init_33 : decode cX1_init 33 = .ok (.return_, 1) := by decide +kernel
theorem dX1_mayBe_0 : decode cX1_mayBe 0 = .ok (.iload_n 1, 1) := by decide +kernel
theorem dX1_mayBe_1 : decode cX1_mayBe 1 = .ok (.bipush 12, 2) := by decide +kernel
theorem dX1_mayBe_3 : decode cX1_mayBe 3 = .ok (.invokestatic 25, 3) := by decide +kernel
theorem dX1_mayBe_6 : decode cX1_mayBe 6 = .ok (.ifCond .eq 30, 3) := by decide +kernel
theorem dX1_mayBe_9 : decode cX1_mayBe 9 = .ok (.iload_n 2, 1) := by decide +kernel
theorem dX1_mayBe_10 : decode cX1_mayBe 10 = .ok (.bipush 12, 2) := by decide +kernel
theorem dX1_mayBe_12 : decode cX1_mayBe 12 = .ok (.invokestatic 25, 3) := by decide +kernel
theorem dX1_mayBe_15 : decode cX1_mayBe 15 = .ok (.ifCond .eq 21, 3) := by decide +kernel
theorem dX1_mayBe_18 : decode cX1_mayBe 18 = .ok (.iload_n 3, 1) := by decide +kernel
theorem dX1_mayBe_19 : decode cX1_mayBe 19 = .ok (.bipush 30, 2) := by decide +kernel
theorem dX1_mayBe_21 : decode cX1_mayBe 21 = .ok (.invokestatic 25, 3) := by decide +kernel
theorem dX1_mayBe_24 : decode cX1_mayBe 24 = .ok (.ifCond .eq 12, 3) := by decide +kernel
theorem dX1_mayBe_27 : decode cX1_mayBe 27 = .ok (.iload_n 1, 1) := by decide +kernel
theorem dX1_mayBe_28 : decode cX1_mayBe 28 = .ok (.iload_n 2, 1) := by decide +kernel
theorem dX1_mayBe_29 : decode cX1_mayBe 29 = .ok (.if_icmp .gt 7, 3) := by decide +kernel
theorem dX1_mayBe_32 : decode cX1_mayBe 32 = .ok (.iconst 1, 1) := by decide +kernel
theorem dX1_mayBe_33 : decode cX1_mayBe 33 = .ok (.goto 4, 3) := by decide +kernel
theorem dX1_mayBe_36 : decode cX1_mayBe 36 = .ok (.iconst 0, 1) := by decide +kernel
theorem dX1_mayBe_37 : decode cX1_mayBe 37 = .ok (.ireturn, 1) := by decide +kernel
theorem dX1_isFull_0 : decode cX1_isFull 0 = .ok (.aload_n 0, 1) := by decide +kernel
theorem dX1_isFull_1 : decode cX1_isFull 1 = .ok (.getfield 21, 3) := by decide +kernel
theorem dX1_isFull_4 : decode cX1_isFull 4 = .ok (.bipush 8, 2) := by decide +kernel
theorem dX1_isFull_6 : decode cX1_isFull 6 = .ok (.if_icmp .lt 7, 3) := by decide +kernel
theorem dX1_isFull_9 : decode cX1_isFull 9 = .ok (.iconst 1, 1) := by decide +kernel
theorem dX1_isFull_10 : decode cX1_isFull 10 = .ok (.goto 4, 3) := by decide +kernel
theorem dX1_isFull_13 : decode cX1_isFull 13 = .ok (.iconst 0, 1) := by decide +kernel
theorem dX1_isFull_14 : decode cX1_isFull 14 = .ok (.ireturn, 1) := by decide +kernel
theorem dX1_build_0 : decode cX1_build 0 = .ok (.aload_n 0, 1) := by decide +kernel
theorem dX1_build_1 : decode cX1_build 1 = .ok (.getfield 21, 3) := by decide +kernel
theorem dX1_build_4 : decode cX1_build 4 = .ok (.bipush 8, 2) := by decide +kernel
theorem dX1_build_6 : decode cX1_build 6 = .ok (.invokestatic 25, 3) := by decide +kernel
theorem dX1_build_9 : decode cX1_build 9 = .ok (.ifCond .eq 43, 3) := by decide +kernel
theorem dX1_build_12 : decode cX1_build 12 = .ok (.aload_n 0, 1) := by decide +kernel
theorem dX1_build_13 : decode cX1_build 13 = .ok (.getfield 9, 3) := by decide +kernel
theorem dX1_build_16 : decode cX1_build 16 = .ok (.aload_n 0, 1) := by decide +kernel
theorem dX1_build_17 : decode cX1_build 17 = .ok (.getfield 21, 3) := by decide +kernel
theorem dX1_build_20 : decode cX1_build 20 = .ok (.iload_n 1, 1) := by decide +kernel
theorem dX1_build_21 : decode cX1_build 21 = .ok (.iastore, 1) := by decide +kernel
theorem dX1_build_22 : decode cX1_build 22 = .ok (.aload_n 0, 1) := by decide +kernel
theorem dX1_build_23 : decode cX1_build 23 = .ok (.getfield 15, 3) := by decide +kernel
theorem dX1_build_26 : decode cX1_build 26 = .ok (.aload_n 0, 1) := by decide +kernel
theorem dX1_build_27 : decode cX1_build 27 = .ok (.getfield 21, 3) := by decide +kernel
theorem dX1_build_30 : decode cX1_build 30 = .ok (.iload_n 2, 1) := by decide +kernel
theorem dX1_build_31 : decode cX1_build 31 = .ok (.iastore, 1) := by decide +kernel
theorem dX1_build_32 : decode cX1_build 32 = .ok (.aload_n 0, 1) := by decide +kernel
theorem dX1_build_33 : decode cX1_build 33 = .ok (.getfield 18, 3) := by decide +kernel
theorem dX1_build_36 : decode cX1_build 36 = .ok (.aload_n 0, 1) := by decide +kernel
theorem dX1_build_37 : decode cX1_build 37 = .ok (.getfield 21, 3) := by decide +kernel
theorem dX1_build_40 : decode cX1_build 40 = .ok (.iload_n 3, 1) := by decide +kernel
theorem dX1_build_41 : decode cX1_build 41 = .ok (.iastore, 1) := by decide +kernel
theorem dX1_build_42 : decode cX1_build 42 = .ok (.aload_n 0, 1) := by decide +kernel
theorem dX1_build_43 : decode cX1_build 43 = .ok (.dup, 1) := by decide +kernel
theorem dX1_build_44 : decode cX1_build 44 = .ok (.getfield 21, 3) := by decide +kernel
theorem dX1_build_47 : decode cX1_build 47 = .ok (.iconst 1, 1) := by decide +kernel
theorem dX1_build_48 : decode cX1_build 48 = .ok (.iadd, 1) := by decide +kernel
theorem dX1_build_49 : decode cX1_build 49 = .ok (.putfield 21, 3) := by decide +kernel
theorem dX1_build_52 : decode cX1_build 52 = .ok (.return_, 1) := by decide +kernel
theorem dX1_dropLast_0 : decode cX1_dropLast 0 = .ok (.aload_n 0, 1) := by decide +kernel
theorem dX1_dropLast_1 : decode cX1_dropLast 1 = .ok (.aload_n 0, 1) := by decide +kernel
theorem dX1_dropLast_2 : decode cX1_dropLast 2 = .ok (.getfield 21, 3) := by decide +kernel
theorem dX1_dropLast_5 : decode cX1_dropLast 5 = .ok (.iconst 1, 1) := by decide +kernel
theorem dX1_dropLast_6 : decode cX1_dropLast 6 = .ok (.isub, 1) := by decide +kernel
theorem dX1_dropLast_7 : decode cX1_dropLast 7 = .ok (.iconst 0, 1) := by decide +kernel
theorem dX1_dropLast_8 : decode cX1_dropLast 8 = .ok (.invokestatic 29, 3) := by decide +kernel
theorem dX1_dropLast_11 : decode cX1_dropLast 11 = .ok (.putfield 21, 3) := by decide +kernel
theorem dX1_dropLast_14 : decode cX1_dropLast 14 = .ok (.return_, 1) := by decide +kernel
theorem dX1_buildFrom_0 : decode cX1_buildFrom 0 = .ok (.iconst 0, 1) := by decide +kernel
theorem dX1_buildFrom_1 : decode cX1_buildFrom 1 = .ok (.istore_n 2, 1) := by decide +kernel
theorem dX1_buildFrom_2 : decode cX1_buildFrom 2 = .ok (.iconst 0, 1) := by decide +kernel
theorem dX1_buildFrom_3 : decode cX1_buildFrom 3 = .ok (.istore_n 3, 1) := by decide +kernel
theorem dX1_buildFrom_4 : decode cX1_buildFrom 4 = .ok (.iload_n 3, 1) := by decide +kernel
theorem dX1_buildFrom_5 : decode cX1_buildFrom 5 = .ok (.iconst 2, 1) := by decide +kernel
theorem dX1_buildFrom_6 : decode cX1_buildFrom 6 = .ok (.iadd, 1) := by decide +kernel
theorem dX1_buildFrom_7 : decode cX1_buildFrom 7 = .ok (.aload_n 1, 1) := by decide +kernel
theorem dX1_buildFrom_8 : decode cX1_buildFrom 8 = .ok (.getfield 35, 3) := by decide +kernel
theorem dX1_buildFrom_11 : decode cX1_buildFrom 11 = .ok (.if_icmp .ge 69, 3) := by decide +kernel
theorem dX1_buildFrom_14 : decode cX1_buildFrom 14 = .ok (.aload_n 1, 1) := by decide +kernel
theorem dX1_buildFrom_15 : decode cX1_buildFrom 15 = .ok (.iload_n 3, 1) := by decide +kernel
theorem dX1_buildFrom_16 : decode cX1_buildFrom 16 = .ok (.invokevirtual 38, 3) := by decide +kernel
theorem dX1_buildFrom_19 : decode cX1_buildFrom 19 = .ok (.istore 4, 2) := by decide +kernel
theorem dX1_buildFrom_21 : decode cX1_buildFrom 21 = .ok (.aload_n 1, 1) := by decide +kernel
theorem dX1_buildFrom_22 : decode cX1_buildFrom 22 = .ok (.iload_n 3, 1) := by decide +kernel
theorem dX1_buildFrom_23 : decode cX1_buildFrom 23 = .ok (.iconst 1, 1) := by decide +kernel
theorem dX1_buildFrom_24 : decode cX1_buildFrom 24 = .ok (.iadd, 1) := by decide +kernel
theorem dX1_buildFrom_25 : decode cX1_buildFrom 25 = .ok (.invokevirtual 38, 3) := by decide +kernel
theorem dX1_buildFrom_28 : decode cX1_buildFrom 28 = .ok (.istore 5, 2) := by decide +kernel
theorem dX1_buildFrom_30 : decode cX1_buildFrom 30 = .ok (.aload_n 1, 1) := by decide +kernel
theorem dX1_buildFrom_31 : decode cX1_buildFrom 31 = .ok (.iload_n 3, 1) := by decide +kernel
theorem dX1_buildFrom_32 : decode cX1_buildFrom 32 = .ok (.iconst 2, 1) := by decide +kernel
theorem dX1_buildFrom_33 : decode cX1_buildFrom 33 = .ok (.iadd, 1) := by decide +kernel
theorem dX1_buildFrom_34 : decode cX1_buildFrom 34 = .ok (.invokevirtual 38, 3) := by decide +kernel
theorem dX1_buildFrom_37 : decode cX1_buildFrom 37 = .ok (.istore 6, 2) := by decide +kernel
theorem dX1_buildFrom_39 : decode cX1_buildFrom 39 = .ok (.aload_n 0, 1) := by decide +kernel
theorem dX1_buildFrom_40 : decode cX1_buildFrom 40 = .ok (.invokevirtual 42, 3) := by decide +kernel
theorem dX1_buildFrom_43 : decode cX1_buildFrom 43 = .ok (.ifCond .ne 16, 3) := by decide +kernel
theorem dX1_buildFrom_46 : decode cX1_buildFrom 46 = .ok (.aload_n 0, 1) := by decide +kernel
theorem dX1_buildFrom_47 : decode cX1_buildFrom 47 = .ok (.iload 4, 2) := by decide +kernel
theorem dX1_buildFrom_49 : decode cX1_buildFrom 49 = .ok (.iload 5, 2) := by decide +kernel
theorem dX1_buildFrom_51 : decode cX1_buildFrom 51 = .ok (.iload 6, 2) := by decide +kernel
theorem dX1_buildFrom_53 : decode cX1_buildFrom 53 = .ok (.invokevirtual 46, 3) := by decide +kernel
theorem dX1_buildFrom_56 : decode cX1_buildFrom 56 = .ok (.ifCond .ne 5, 3) := by decide +kernel
theorem dX1_buildFrom_59 : decode cX1_buildFrom 59 = .ok (.iload_n 2, 1) := by decide +kernel
theorem dX1_buildFrom_60 : decode cX1_buildFrom 60 = .ok (.ireturn, 1) := by decide +kernel
theorem dX1_buildFrom_61 : decode cX1_buildFrom 61 = .ok (.aload_n 0, 1) := by decide +kernel
theorem dX1_buildFrom_62 : decode cX1_buildFrom 62 = .ok (.iload 4, 2) := by decide +kernel
theorem dX1_buildFrom_64 : decode cX1_buildFrom 64 = .ok (.iload 5, 2) := by decide +kernel
theorem dX1_buildFrom_66 : decode cX1_buildFrom 66 = .ok (.iload 6, 2) := by decide +kernel
theorem dX1_buildFrom_68 : decode cX1_buildFrom 68 = .ok (.invokevirtual 50, 3) := by decide +kernel
theorem dX1_buildFrom_71 : decode cX1_buildFrom 71 = .ok (.iinc 2 1, 3) := by decide +kernel
theorem dX1_buildFrom_74 : decode cX1_buildFrom 74 = .ok (.iinc 3 3, 3) := by decide +kernel
theorem dX1_buildFrom_77 : decode cX1_buildFrom 77 = .ok (.goto (-73), 3) := by decide +kernel
theorem dX1_buildFrom_80 : decode cX1_buildFrom 80 = .ok (.iload_n 2, 1) := by decide +kernel
theorem dX1_buildFrom_81 : decode cX1_buildFrom 81 = .ok (.ireturn, 1) := by decide +kernel
theorem dX1_keptYards_0 : decode cX1_keptYards 0 = .ok (.iconst 0, 1) := by decide +kernel
theorem dX1_keptYards_1 : decode cX1_keptYards 1 = .ok (.istore_n 2, 1) := by decide +kernel
theorem dX1_keptYards_2 : decode cX1_keptYards 2 = .ok (.iconst 0, 1) := by decide +kernel
theorem dX1_keptYards_3 : decode cX1_keptYards 3 = .ok (.istore_n 3, 1) := by decide +kernel
theorem dX1_keptYards_4 : decode cX1_keptYards 4 = .ok (.iload_n 3, 1) := by decide +kernel
theorem dX1_keptYards_5 : decode cX1_keptYards 5 = .ok (.aload_n 0, 1) := by decide +kernel
theorem dX1_keptYards_6 : decode cX1_keptYards 6 = .ok (.getfield 21, 3) := by decide +kernel
theorem dX1_keptYards_9 : decode cX1_keptYards 9 = .ok (.if_icmp .ge 56, 3) := by decide +kernel
theorem dX1_keptYards_12 : decode cX1_keptYards 12 = .ok (.iload_n 3, 1) := by decide +kernel
theorem dX1_keptYards_13 : decode cX1_keptYards 13 = .ok (.bipush 8, 2) := by decide +kernel
theorem dX1_keptYards_15 : decode cX1_keptYards 15 = .ok (.if_icmp .ge 50, 3) := by decide +kernel
theorem dX1_keptYards_18 : decode cX1_keptYards 18 = .ok (.iload_n 1, 1) := by decide +kernel
theorem dX1_keptYards_19 : decode cX1_keptYards 19 = .ok (.aload_n 0, 1) := by decide +kernel
theorem dX1_keptYards_20 : decode cX1_keptYards 20 = .ok (.getfield 18, 3) := by decide +kernel
theorem dX1_keptYards_23 : decode cX1_keptYards 23 = .ok (.iload_n 3, 1) := by decide +kernel
theorem dX1_keptYards_24 : decode cX1_keptYards 24 = .ok (.iaload, 1) := by decide +kernel
theorem dX1_keptYards_25 : decode cX1_keptYards 25 = .ok (.if_icmp .lt 34, 3) := by decide +kernel
theorem dX1_keptYards_28 : decode cX1_keptYards 28 = .ok (.iload_n 1, 1) := by decide +kernel
theorem dX1_keptYards_29 : decode cX1_keptYards 29 = .ok (.aload_n 0, 1) := by decide +kernel
theorem dX1_keptYards_30 : decode cX1_keptYards 30 = .ok (.getfield 18, 3) := by decide +kernel
theorem dX1_keptYards_33 : decode cX1_keptYards 33 = .ok (.iload_n 3, 1) := by decide +kernel
theorem dX1_keptYards_34 : decode cX1_keptYards 34 = .ok (.iaload, 1) := by decide +kernel
theorem dX1_keptYards_35 : decode cX1_keptYards 35 = .ok (.bipush 7, 2) := by decide +kernel
theorem dX1_keptYards_37 : decode cX1_keptYards 37 = .ok (.iadd, 1) := by decide +kernel
theorem dX1_keptYards_38 : decode cX1_keptYards 38 = .ok (.if_icmp .ge 21, 3) := by decide +kernel
theorem dX1_keptYards_41 : decode cX1_keptYards 41 = .ok (.iload_n 2, 1) := by decide +kernel
theorem dX1_keptYards_42 : decode cX1_keptYards 42 = .ok (.aload_n 0, 1) := by decide +kernel
theorem dX1_keptYards_43 : decode cX1_keptYards 43 = .ok (.getfield 9, 3) := by decide +kernel
theorem dX1_keptYards_46 : decode cX1_keptYards 46 = .ok (.iload_n 3, 1) := by decide +kernel
theorem dX1_keptYards_47 : decode cX1_keptYards 47 = .ok (.iaload, 1) := by decide +kernel
theorem dX1_keptYards_48 : decode cX1_keptYards 48 = .ok (.aload_n 0, 1) := by decide +kernel
theorem dX1_keptYards_49 : decode cX1_keptYards 49 = .ok (.getfield 15, 3) := by decide +kernel
theorem dX1_keptYards_52 : decode cX1_keptYards 52 = .ok (.iload_n 3, 1) := by decide +kernel
theorem dX1_keptYards_53 : decode cX1_keptYards 53 = .ok (.iaload, 1) := by decide +kernel
theorem dX1_keptYards_54 : decode cX1_keptYards 54 = .ok (.invokestatic 54, 3) := by decide +kernel
theorem dX1_keptYards_57 : decode cX1_keptYards 57 = .ok (.ior, 1) := by decide +kernel
theorem dX1_keptYards_58 : decode cX1_keptYards 58 = .ok (.istore_n 2, 1) := by decide +kernel
theorem dX1_keptYards_59 : decode cX1_keptYards 59 = .ok (.iinc 3 1, 3) := by decide +kernel
theorem dX1_keptYards_62 : decode cX1_keptYards 62 = .ok (.goto (-58), 3) := by decide +kernel
theorem dX1_keptYards_65 : decode cX1_keptYards 65 = .ok (.iload_n 2, 1) := by decide +kernel
theorem dX1_keptYards_66 : decode cX1_keptYards 66 = .ok (.ireturn, 1) := by decide +kernel
theorem dX2_init_0 : decode cX2_init 0 = .ok (.aload_n 0, 1) := by decide +kernel
theorem dX2_init_1 : decode cX2_init 1 = .ok (.invokespecial 3, 3) := by decide +kernel
theorem dX2_init_4 : decode cX2_init 4 = .ok (.aload_n 0, 1) := by decide +kernel
theorem dX2_init_5 : decode cX2_init 5 = .ok (.bipush 8, 2) := by decide +kernel
theorem dX2_init_7 : decode cX2_init 7 = .ok (.newarray .int, 2) := by decide +kernel
theorem dX2_init_9 : decode cX2_init 9 = .ok (.putfield 9, 3) := by decide +kernel
theorem dX2_init_12 : decode cX2_init 12 = .ok (.aload_n 0, 1) := by decide +kernel
theorem dX2_init_13 : decode cX2_init 13 = .ok (.bipush 8, 2) := by decide +kernel
theorem dX2_init_15 : decode cX2_init 15 = .ok (.newarray .int, 2) := by decide +kernel
theorem dX2_init_17 : decode cX2_init 17 = .ok (.putfield 15, 3) := by decide +kernel
theorem dX2_init_20 : decode cX2_init 20 = .ok (.aload_n 0, 1) := by decide +kernel
theorem dX2_init_21 : decode cX2_init 21 = .ok (.bipush 8, 2) := by decide +kernel
theorem dX2_init_23 : decode cX2_init 23 = .ok (.newarray .int, 2) := by decide +kernel
theorem dX2_init_25 : decode cX2_init 25 = .ok (.putfield 18, 3) := by decide +kernel
theorem dX2_init_28 : decode cX2_init 28 = .ok (.aload_n 0, 1) := by decide +kernel
theorem dX2_init_29 : decode cX2_init 29 = .ok (.iconst 0, 1) := by decide +kernel
theorem dX2_init_30 : decode cX2_init 30 = .ok (.putfield 21, 3) := by decide +kernel
theorem dX2_init_33 : decode cX2_init 33 = .ok (.return_, 1) := by decide +kernel
theorem dX2_isFull_0 : decode cX2_isFull 0 = .ok (.aload_n 0, 1) := by decide +kernel
theorem dX2_isFull_1 : decode cX2_isFull 1 = .ok (.getfield 21, 3) := by decide +kernel
theorem dX2_isFull_4 : decode cX2_isFull 4 = .ok (.bipush 8, 2) := by decide +kernel
theorem dX2_isFull_6 : decode cX2_isFull 6 = .ok (.if_icmp .lt 7, 3) := by decide +kernel
theorem dX2_isFull_9 : decode cX2_isFull 9 = .ok (.iconst 1, 1) := by decide +kernel
theorem dX2_isFull_10 : decode cX2_isFull 10 = .ok (.goto 4, 3) := by decide +kernel
theorem dX2_isFull_13 : decode cX2_isFull 13 = .ok (.iconst 0, 1) := by decide +kernel
theorem dX2_isFull_14 : decode cX2_isFull 14 = .ok (.ireturn, 1) := by decide +kernel
theorem dX2_learn_0 : decode cX2_learn 0 = .ok (.aload_n 0, 1) := by decide +kernel
theorem dX2_learn_1 : decode cX2_learn 1 = .ok (.getfield 21, 3) := by decide +kernel
theorem dX2_learn_4 : decode cX2_learn 4 = .ok (.bipush 8, 2) := by decide +kernel
theorem dX2_learn_6 : decode cX2_learn 6 = .ok (.invokestatic 25, 3) := by decide +kernel
theorem dX2_learn_9 : decode cX2_learn 9 = .ok (.ifCond .eq 43, 3) := by decide +kernel
theorem dX2_learn_12 : decode cX2_learn 12 = .ok (.aload_n 0, 1) := by decide +kernel
theorem dX2_learn_13 : decode cX2_learn 13 = .ok (.getfield 9, 3) := by decide +kernel
theorem dX2_learn_16 : decode cX2_learn 16 = .ok (.aload_n 0, 1) := by decide +kernel
theorem dX2_learn_17 : decode cX2_learn 17 = .ok (.getfield 21, 3) := by decide +kernel
theorem dX2_learn_20 : decode cX2_learn 20 = .ok (.iload_n 1, 1) := by decide +kernel
theorem dX2_learn_21 : decode cX2_learn 21 = .ok (.iastore, 1) := by decide +kernel
theorem dX2_learn_22 : decode cX2_learn 22 = .ok (.aload_n 0, 1) := by decide +kernel
theorem dX2_learn_23 : decode cX2_learn 23 = .ok (.getfield 15, 3) := by decide +kernel
theorem dX2_learn_26 : decode cX2_learn 26 = .ok (.aload_n 0, 1) := by decide +kernel
theorem dX2_learn_27 : decode cX2_learn 27 = .ok (.getfield 21, 3) := by decide +kernel
theorem dX2_learn_30 : decode cX2_learn 30 = .ok (.iload_n 2, 1) := by decide +kernel
theorem dX2_learn_31 : decode cX2_learn 31 = .ok (.iastore, 1) := by decide +kernel
theorem dX2_learn_32 : decode cX2_learn 32 = .ok (.aload_n 0, 1) := by decide +kernel
theorem dX2_learn_33 : decode cX2_learn 33 = .ok (.getfield 18, 3) := by decide +kernel
theorem dX2_learn_36 : decode cX2_learn 36 = .ok (.aload_n 0, 1) := by decide +kernel
theorem dX2_learn_37 : decode cX2_learn 37 = .ok (.getfield 21, 3) := by decide +kernel
theorem dX2_learn_40 : decode cX2_learn 40 = .ok (.iload_n 3, 1) := by decide +kernel
theorem dX2_learn_41 : decode cX2_learn 41 = .ok (.iastore, 1) := by decide +kernel
theorem dX2_learn_42 : decode cX2_learn 42 = .ok (.aload_n 0, 1) := by decide +kernel
theorem dX2_learn_43 : decode cX2_learn 43 = .ok (.dup, 1) := by decide +kernel
theorem dX2_learn_44 : decode cX2_learn 44 = .ok (.getfield 21, 3) := by decide +kernel
theorem dX2_learn_47 : decode cX2_learn 47 = .ok (.iconst 1, 1) := by decide +kernel
theorem dX2_learn_48 : decode cX2_learn 48 = .ok (.iadd, 1) := by decide +kernel
theorem dX2_learn_49 : decode cX2_learn 49 = .ok (.putfield 21, 3) := by decide +kernel
theorem dX2_learn_52 : decode cX2_learn 52 = .ok (.return_, 1) := by decide +kernel
theorem dX2_clear_0 : decode cX2_clear 0 = .ok (.aload_n 0, 1) := by decide +kernel
theorem dX2_clear_1 : decode cX2_clear 1 = .ok (.iconst 0, 1) := by decide +kernel
theorem dX2_clear_2 : decode cX2_clear 2 = .ok (.putfield 21, 3) := by decide +kernel
theorem dX2_clear_5 : decode cX2_clear 5 = .ok (.return_, 1) := by decide +kernel
theorem dX2_comeOutBy_0 : decode cX2_comeOutBy 0 = .ok (.iconst 0, 1) := by decide +kernel
theorem dX2_comeOutBy_1 : decode cX2_comeOutBy 1 = .ok (.istore 4, 2) := by decide +kernel
theorem dX2_comeOutBy_3 : decode cX2_comeOutBy 3 = .ok (.iload 4, 2) := by decide +kernel
theorem dX2_comeOutBy_5 : decode cX2_comeOutBy 5 = .ok (.aload_n 0, 1) := by decide +kernel
theorem dX2_comeOutBy_6 : decode cX2_comeOutBy 6 = .ok (.getfield 21, 3) := by decide +kernel
theorem dX2_comeOutBy_9 : decode cX2_comeOutBy 9 = .ok (.if_icmp .ge 65, 3) := by decide +kernel
theorem dX2_comeOutBy_12 : decode cX2_comeOutBy 12 = .ok (.iload 4, 2) := by decide +kernel
theorem dX2_comeOutBy_14 : decode cX2_comeOutBy 14 = .ok (.bipush 8, 2) := by decide +kernel
theorem dX2_comeOutBy_16 : decode cX2_comeOutBy 16 = .ok (.if_icmp .ge 58, 3) := by decide +kernel
theorem dX2_comeOutBy_19 : decode cX2_comeOutBy 19 = .ok (.aload_n 1, 1) := by decide +kernel
theorem dX2_comeOutBy_20 : decode cX2_comeOutBy 20 = .ok (.iload_n 2, 1) := by decide +kernel
theorem dX2_comeOutBy_21 : decode cX2_comeOutBy 21 = .ok (.aload_n 0, 1) := by decide +kernel
theorem dX2_comeOutBy_22 : decode cX2_comeOutBy 22 = .ok (.getfield 9, 3) := by decide +kernel
theorem dX2_comeOutBy_25 : decode cX2_comeOutBy 25 = .ok (.iload 4, 2) := by decide +kernel
theorem dX2_comeOutBy_27 : decode cX2_comeOutBy 27 = .ok (.iaload, 1) := by decide +kernel
theorem dX2_comeOutBy_28 : decode cX2_comeOutBy 28 = .ok (.invokevirtual 29, 3) := by decide +kernel
theorem dX2_comeOutBy_31 : decode cX2_comeOutBy 31 = .ok (.aload_n 0, 1) := by decide +kernel
theorem dX2_comeOutBy_32 : decode cX2_comeOutBy 32 = .ok (.getfield 15, 3) := by decide +kernel
theorem dX2_comeOutBy_35 : decode cX2_comeOutBy 35 = .ok (.iload 4, 2) := by decide +kernel
theorem dX2_comeOutBy_37 : decode cX2_comeOutBy 37 = .ok (.iaload, 1) := by decide +kernel
theorem dX2_comeOutBy_38 : decode cX2_comeOutBy 38 = .ok (.ishr, 1) := by decide +kernel
theorem dX2_comeOutBy_39 : decode cX2_comeOutBy 39 = .ok (.iconst 1, 1) := by decide +kernel
theorem dX2_comeOutBy_40 : decode cX2_comeOutBy 40 = .ok (.iand, 1) := by decide +kernel
theorem dX2_comeOutBy_41 : decode cX2_comeOutBy 41 = .ok (.istore 5, 2) := by decide +kernel
theorem dX2_comeOutBy_43 : decode cX2_comeOutBy 43 = .ok (.aload_n 0, 1) := by decide +kernel
theorem dX2_comeOutBy_44 : decode cX2_comeOutBy 44 = .ok (.getfield 15, 3) := by decide +kernel
theorem dX2_comeOutBy_47 : decode cX2_comeOutBy 47 = .ok (.iload 4, 2) := by decide +kernel
theorem dX2_comeOutBy_49 : decode cX2_comeOutBy 49 = .ok (.iaload, 1) := by decide +kernel
theorem dX2_comeOutBy_50 : decode cX2_comeOutBy 50 = .ok (.iload_n 3, 1) := by decide +kernel
theorem dX2_comeOutBy_51 : decode cX2_comeOutBy 51 = .ok (.if_icmp .ge 17, 3) := by decide +kernel
theorem dX2_comeOutBy_54 : decode cX2_comeOutBy 54 = .ok (.iload 5, 2) := by decide +kernel
theorem dX2_comeOutBy_56 : decode cX2_comeOutBy 56 = .ok (.aload_n 0, 1) := by decide +kernel
theorem dX2_comeOutBy_57 : decode cX2_comeOutBy 57 = .ok (.getfield 18, 3) := by decide +kernel
theorem dX2_comeOutBy_60 : decode cX2_comeOutBy 60 = .ok (.iload 4, 2) := by decide +kernel
theorem dX2_comeOutBy_62 : decode cX2_comeOutBy 62 = .ok (.iaload, 1) := by decide +kernel
theorem dX2_comeOutBy_63 : decode cX2_comeOutBy 63 = .ok (.if_icmp .eq 5, 3) := by decide +kernel
theorem dX2_comeOutBy_66 : decode cX2_comeOutBy 66 = .ok (.iconst 0, 1) := by decide +kernel
theorem dX2_comeOutBy_67 : decode cX2_comeOutBy 67 = .ok (.ireturn, 1) := by decide +kernel
theorem dX2_comeOutBy_68 : decode cX2_comeOutBy 68 = .ok (.iinc 4 1, 3) := by decide +kernel
theorem dX2_comeOutBy_71 : decode cX2_comeOutBy 71 = .ok (.goto (-68), 3) := by decide +kernel
theorem dX2_comeOutBy_74 : decode cX2_comeOutBy 74 = .ok (.iconst 1, 1) := by decide +kernel
theorem dX2_comeOutBy_75 : decode cX2_comeOutBy 75 = .ok (.ireturn, 1) := by decide +kernel
theorem dX3_init_0 : decode cX3_init 0 = .ok (.aload_n 0, 1) := by decide +kernel
theorem dX3_init_1 : decode cX3_init 1 = .ok (.invokespecial 3, 3) := by decide +kernel
theorem dX3_init_4 : decode cX3_init 4 = .ok (.aload_n 0, 1) := by decide +kernel
theorem dX3_init_5 : decode cX3_init 5 = .ok (.iconst 0, 1) := by decide +kernel
theorem dX3_init_6 : decode cX3_init 6 = .ok (.putfield 9, 3) := by decide +kernel
theorem dX3_init_9 : decode cX3_init 9 = .ok (.aload_n 0, 1) := by decide +kernel
theorem dX3_init_10 : decode cX3_init 10 = .ok (.iconst 0, 1) := by decide +kernel
theorem dX3_init_11 : decode cX3_init 11 = .ok (.putfield 15, 3) := by decide +kernel
theorem dX3_init_14 : decode cX3_init 14 = .ok (.aload_n 0, 1) := by decide +kernel
theorem dX3_init_15 : decode cX3_init 15 = .ok (.iconst 0, 1) := by decide +kernel
theorem dX3_init_16 : decode cX3_init 16 = .ok (.putfield 18, 3) := by decide +kernel
theorem dX3_init_19 : decode cX3_init 19 = .ok (.aload_n 0, 1) := by decide +kernel
theorem dX3_init_20 : decode cX3_init 20 = .ok (.aload_n 1, 1) := by decide +kernel
theorem dX3_init_21 : decode cX3_init 21 = .ok (.putfield 21, 3) := by decide +kernel
theorem dX3_init_24 : decode cX3_init 24 = .ok (.return_, 1) := by decide +kernel
theorem dX3_reckon_0 : decode cX3_reckon 0 = .ok (.iload_n 3, 1) := by decide +kernel
theorem dX3_reckon_1 : decode cX3_reckon 1 = .ok (.iload 4, 2) := by decide +kernel
theorem dX3_reckon_3 : decode cX3_reckon 3 = .ok (.invokestatic 25, 3) := by decide +kernel
theorem dX3_reckon_6 : decode cX3_reckon 6 = .ok (.istore 6, 2) := by decide +kernel
theorem dX3_reckon_8 : decode cX3_reckon 8 = .ok (.aload_n 0, 1) := by decide +kernel
theorem dX3_reckon_9 : decode cX3_reckon 9 = .ok (.aload_n 0, 1) := by decide +kernel
theorem dX3_reckon_10 : decode cX3_reckon 10 = .ok (.iload_n 1, 1) := by decide +kernel
theorem dX3_reckon_11 : decode cX3_reckon 11 = .ok (.iload_n 2, 1) := by decide +kernel
theorem dX3_reckon_12 : decode cX3_reckon 12 = .ok (.iload 6, 2) := by decide +kernel
theorem dX3_reckon_14 : decode cX3_reckon 14 = .ok (.invokevirtual 29, 3) := by decide +kernel
theorem dX3_reckon_17 : decode cX3_reckon 17 = .ok (.putfield 9, 3) := by decide +kernel
theorem dX3_reckon_20 : decode cX3_reckon 20 = .ok (.aload_n 0, 1) := by decide +kernel
theorem dX3_reckon_21 : decode cX3_reckon 21 = .ok (.iconst 0, 1) := by decide +kernel
theorem dX3_reckon_22 : decode cX3_reckon 22 = .ok (.putfield 15, 3) := by decide +kernel
theorem dX3_reckon_25 : decode cX3_reckon 25 = .ok (.aload_n 0, 1) := by decide +kernel
theorem dX3_reckon_26 : decode cX3_reckon 26 = .ok (.iconst 0, 1) := by decide +kernel
theorem dX3_reckon_27 : decode cX3_reckon 27 = .ok (.putfield 18, 3) := by decide +kernel
theorem dX3_reckon_30 : decode cX3_reckon 30 = .ok (.iconst 1, 1) := by decide +kernel
theorem dX3_reckon_31 : decode cX3_reckon 31 = .ok (.istore 7, 2) := by decide +kernel
theorem dX3_reckon_33 : decode cX3_reckon 33 = .ok (.iload 7, 2) := by decide +kernel
theorem dX3_reckon_35 : decode cX3_reckon 35 = .ok (.iload 5, 2) := by decide +kernel
theorem dX3_reckon_37 : decode cX3_reckon 37 = .ok (.if_icmp .gt 97, 3) := by decide +kernel
theorem dX3_reckon_40 : decode cX3_reckon 40 = .ok (.iload 7, 2) := by decide +kernel
theorem dX3_reckon_42 : decode cX3_reckon 42 = .ok (.iload 4, 2) := by decide +kernel
theorem dX3_reckon_44 : decode cX3_reckon 44 = .ok (.iload_n 3, 1) := by decide +kernel
theorem dX3_reckon_45 : decode cX3_reckon 45 = .ok (.isub, 1) := by decide +kernel
theorem dX3_reckon_46 : decode cX3_reckon 46 = .ok (.iconst 1, 1) := by decide +kernel
theorem dX3_reckon_47 : decode cX3_reckon 47 = .ok (.iadd, 1) := by decide +kernel
theorem dX3_reckon_48 : decode cX3_reckon 48 = .ok (.if_icmp .gt 86, 3) := by decide +kernel
theorem dX3_reckon_51 : decode cX3_reckon 51 = .ok (.iload_n 3, 1) := by decide +kernel
theorem dX3_reckon_52 : decode cX3_reckon 52 = .ok (.istore 8, 2) := by decide +kernel
theorem dX3_reckon_54 : decode cX3_reckon 54 = .ok (.iload 8, 2) := by decide +kernel
theorem dX3_reckon_56 : decode cX3_reckon 56 = .ok (.iload 7, 2) := by decide +kernel
theorem dX3_reckon_58 : decode cX3_reckon 58 = .ok (.iadd, 1) := by decide +kernel
theorem dX3_reckon_59 : decode cX3_reckon 59 = .ok (.iconst 1, 1) := by decide +kernel
theorem dX3_reckon_60 : decode cX3_reckon 60 = .ok (.isub, 1) := by decide +kernel
theorem dX3_reckon_61 : decode cX3_reckon 61 = .ok (.iload 4, 2) := by decide +kernel
theorem dX3_reckon_63 : decode cX3_reckon 63 = .ok (.if_icmp .gt 65, 3) := by decide +kernel
theorem dX3_reckon_66 : decode cX3_reckon 66 = .ok (.iload 6, 2) := by decide +kernel
theorem dX3_reckon_68 : decode cX3_reckon 68 = .ok (.iload 8, 2) := by decide +kernel
theorem dX3_reckon_70 : decode cX3_reckon 70 = .ok (.iload 8, 2) := by decide +kernel
theorem dX3_reckon_72 : decode cX3_reckon 72 = .ok (.iload 7, 2) := by decide +kernel
theorem dX3_reckon_74 : decode cX3_reckon 74 = .ok (.iadd, 1) := by decide +kernel
theorem dX3_reckon_75 : decode cX3_reckon 75 = .ok (.iconst 1, 1) := by decide +kernel
theorem dX3_reckon_76 : decode cX3_reckon 76 = .ok (.isub, 1) := by decide +kernel
theorem dX3_reckon_77 : decode cX3_reckon 77 = .ok (.invokestatic 25, 3) := by decide +kernel
theorem dX3_reckon_80 : decode cX3_reckon 80 = .ok (.iconst (-1), 1) := by decide +kernel
theorem dX3_reckon_81 : decode cX3_reckon 81 = .ok (.ixor, 1) := by decide +kernel
theorem dX3_reckon_82 : decode cX3_reckon 82 = .ok (.iand, 1) := by decide +kernel
theorem dX3_reckon_83 : decode cX3_reckon 83 = .ok (.istore 9, 2) := by decide +kernel
theorem dX3_reckon_85 : decode cX3_reckon 85 = .ok (.aload_n 0, 1) := by decide +kernel
theorem dX3_reckon_86 : decode cX3_reckon 86 = .ok (.iload_n 1, 1) := by decide +kernel
theorem dX3_reckon_87 : decode cX3_reckon 87 = .ok (.iload_n 2, 1) := by decide +kernel
theorem dX3_reckon_88 : decode cX3_reckon 88 = .ok (.iload 9, 2) := by decide +kernel
theorem dX3_reckon_90 : decode cX3_reckon 90 = .ok (.invokevirtual 29, 3) := by decide +kernel
theorem dX3_reckon_93 : decode cX3_reckon 93 = .ok (.istore 10, 2) := by decide +kernel
theorem dX3_reckon_95 : decode cX3_reckon 95 = .ok (.iload 10, 2) := by decide +kernel
theorem dX3_reckon_97 : decode cX3_reckon 97 = .ok (.aload_n 0, 1) := by decide +kernel
theorem dX3_reckon_98 : decode cX3_reckon 98 = .ok (.getfield 9, 3) := by decide +kernel
theorem dX3_reckon_101 : decode cX3_reckon 101 = .ok (.if_icmp .le 21, 3) := by decide +kernel
theorem dX3_reckon_104 : decode cX3_reckon 104 = .ok (.aload_n 0, 1) := by decide +kernel
theorem dX3_reckon_105 : decode cX3_reckon 105 = .ok (.iload 10, 2) := by decide +kernel
theorem dX3_reckon_107 : decode cX3_reckon 107 = .ok (.putfield 9, 3) := by decide +kernel
theorem dX3_reckon_110 : decode cX3_reckon 110 = .ok (.aload_n 0, 1) := by decide +kernel
theorem dX3_reckon_111 : decode cX3_reckon 111 = .ok (.iload 8, 2) := by decide +kernel
theorem dX3_reckon_113 : decode cX3_reckon 113 = .ok (.putfield 15, 3) := by decide +kernel
theorem dX3_reckon_116 : decode cX3_reckon 116 = .ok (.aload_n 0, 1) := by decide +kernel
theorem dX3_reckon_117 : decode cX3_reckon 117 = .ok (.iload 7, 2) := by decide +kernel
theorem dX3_reckon_119 : decode cX3_reckon 119 = .ok (.putfield 18, 3) := by decide +kernel
theorem dX3_reckon_122 : decode cX3_reckon 122 = .ok (.iinc 8 1, 3) := by decide +kernel
theorem dX3_reckon_125 : decode cX3_reckon 125 = .ok (.goto (-71), 3) := by decide +kernel
theorem dX3_reckon_128 : decode cX3_reckon 128 = .ok (.iinc 7 1, 3) := by decide +kernel
theorem dX3_reckon_131 : decode cX3_reckon 131 = .ok (.goto (-98), 3) := by decide +kernel
theorem dX3_reckon_134 : decode cX3_reckon 134 = .ok (.return_, 1) := by decide +kernel
theorem dX3_dryDays_0 : decode cX3_dryDays 0 = .ok (.iconst 0, 1) := by decide +kernel
theorem dX3_dryDays_1 : decode cX3_dryDays 1 = .ok (.istore 4, 2) := by decide +kernel
theorem dX3_dryDays_3 : decode cX3_dryDays 3 = .ok (.iload_n 2, 1) := by decide +kernel
theorem dX3_dryDays_4 : decode cX3_dryDays 4 = .ok (.istore 5, 2) := by decide +kernel
theorem dX3_dryDays_6 : decode cX3_dryDays 6 = .ok (.iload 5, 2) := by decide +kernel
theorem dX3_dryDays_8 : decode cX3_dryDays 8 = .ok (.iload_n 2, 1) := by decide +kernel
theorem dX3_dryDays_9 : decode cX3_dryDays 9 = .ok (.bipush 7, 2) := by decide +kernel
theorem dX3_dryDays_11 : decode cX3_dryDays 11 = .ok (.iadd, 1) := by decide +kernel
theorem dX3_dryDays_12 : decode cX3_dryDays 12 = .ok (.if_icmp .ge 34, 3) := by decide +kernel
theorem dX3_dryDays_15 : decode cX3_dryDays 15 = .ok (.iload 5, 2) := by decide +kernel
theorem dX3_dryDays_17 : decode cX3_dryDays 17 = .ok (.bipush 30, 2) := by decide +kernel
theorem dX3_dryDays_19 : decode cX3_dryDays 19 = .ok (.if_icmp .ge 27, 3) := by decide +kernel
theorem dX3_dryDays_22 : decode cX3_dryDays 22 = .ok (.aload_n 0, 1) := by decide +kernel
theorem dX3_dryDays_23 : decode cX3_dryDays 23 = .ok (.getfield 21, 3) := by decide +kernel
theorem dX3_dryDays_26 : decode cX3_dryDays 26 = .ok (.iload_n 1, 1) := by decide +kernel
theorem dX3_dryDays_27 : decode cX3_dryDays 27 = .ok (.iload 5, 2) := by decide +kernel
theorem dX3_dryDays_29 : decode cX3_dryDays 29 = .ok (.invokevirtual 33, 3) := by decide +kernel
theorem dX3_dryDays_32 : decode cX3_dryDays 32 = .ok (.iload_n 3, 1) := by decide +kernel
theorem dX3_dryDays_33 : decode cX3_dryDays 33 = .ok (.iand, 1) := by decide +kernel
theorem dX3_dryDays_34 : decode cX3_dryDays 34 = .ok (.ifCond .ne 6, 3) := by decide +kernel
theorem dX3_dryDays_37 : decode cX3_dryDays 37 = .ok (.iinc 4 1, 3) := by decide +kernel
theorem dX3_dryDays_40 : decode cX3_dryDays 40 = .ok (.iinc 5 1, 3) := by decide +kernel
theorem dX3_dryDays_43 : decode cX3_dryDays 43 = .ok (.goto (-37), 3) := by decide +kernel
theorem dX3_dryDays_46 : decode cX3_dryDays 46 = .ok (.iload 4, 2) := by decide +kernel
theorem dX3_dryDays_48 : decode cX3_dryDays 48 = .ok (.ireturn, 1) := by decide +kernel
theorem dX4_init_0 : decode cX4_init 0 = .ok (.aload_n 0, 1) := by decide +kernel
theorem dX4_init_1 : decode cX4_init 1 = .ok (.invokespecial 3, 3) := by decide +kernel
theorem dX4_init_4 : decode cX4_init 4 = .ok (.aload_n 0, 1) := by decide +kernel
theorem dX4_init_5 : decode cX4_init 5 = .ok (.bipush 60, 2) := by decide +kernel
theorem dX4_init_7 : decode cX4_init 7 = .ok (.newarray .int, 2) := by decide +kernel
theorem dX4_init_9 : decode cX4_init 9 = .ok (.putfield 9, 3) := by decide +kernel
theorem dX4_init_12 : decode cX4_init 12 = .ok (.aload_n 0, 1) := by decide +kernel
theorem dX4_init_13 : decode cX4_init 13 = .ok (.iconst (-1), 1) := by decide +kernel
theorem dX4_init_14 : decode cX4_init 14 = .ok (.putfield 15, 3) := by decide +kernel
theorem dX4_init_17 : decode cX4_init 17 = .ok (.aload_n 0, 1) := by decide +kernel
theorem dX4_init_18 : decode cX4_init 18 = .ok (.iconst 0, 1) := by decide +kernel
theorem dX4_init_19 : decode cX4_init 19 = .ok (.putfield 19, 3) := by decide +kernel
theorem dX4_init_22 : decode cX4_init 22 = .ok (.return_, 1) := by decide +kernel
theorem dX4_isLost_0 : decode cX4_isLost 0 = .ok (.aload_n 0, 1) := by decide +kernel
theorem dX4_isLost_1 : decode cX4_isLost 1 = .ok (.getfield 15, 3) := by decide +kernel
theorem dX4_isLost_4 : decode cX4_isLost 4 = .ok (.iconst (-1), 1) := by decide +kernel
theorem dX4_isLost_5 : decode cX4_isLost 5 = .ok (.if_icmp .ne 7, 3) := by decide +kernel
theorem dX4_isLost_8 : decode cX4_isLost 8 = .ok (.iconst 1, 1) := by decide +kernel
theorem dX4_isLost_9 : decode cX4_isLost 9 = .ok (.goto 4, 3) := by decide +kernel
theorem dX4_isLost_12 : decode cX4_isLost 12 = .ok (.iconst 0, 1) := by decide +kernel
theorem dX4_isLost_13 : decode cX4_isLost 13 = .ok (.ireturn, 1) := by decide +kernel
theorem dX4_renew_0 : decode cX4_renew 0 = .ok (.aload_n 0, 1) := by decide +kernel
theorem dX4_renew_1 : decode cX4_renew 1 = .ok (.iload_n 1, 1) := by decide +kernel
theorem dX4_renew_2 : decode cX4_renew 2 = .ok (.putfield 15, 3) := by decide +kernel
theorem dX4_renew_5 : decode cX4_renew 5 = .ok (.aload_n 0, 1) := by decide +kernel
theorem dX4_renew_6 : decode cX4_renew 6 = .ok (.iconst 0, 1) := by decide +kernel
theorem dX4_renew_7 : decode cX4_renew 7 = .ok (.iload_n 2, 1) := by decide +kernel
theorem dX4_renew_8 : decode cX4_renew 8 = .ok (.bipush 60, 2) := by decide +kernel
theorem dX4_renew_10 : decode cX4_renew 10 = .ok (.invokestatic 22, 3) := by decide +kernel
theorem dX4_renew_13 : decode cX4_renew 13 = .ok (.invokestatic 28, 3) := by decide +kernel
theorem dX4_renew_16 : decode cX4_renew 16 = .ok (.putfield 19, 3) := by decide +kernel
theorem dX4_renew_19 : decode cX4_renew 19 = .ok (.iconst 0, 1) := by decide +kernel
theorem dX4_renew_20 : decode cX4_renew 20 = .ok (.istore_n 3, 1) := by decide +kernel
theorem dX4_renew_21 : decode cX4_renew 21 = .ok (.iload_n 3, 1) := by decide +kernel
theorem dX4_renew_22 : decode cX4_renew 22 = .ok (.bipush 60, 2) := by decide +kernel
theorem dX4_renew_24 : decode cX4_renew 24 = .ok (.if_icmp .ge 16, 3) := by decide +kernel
theorem dX4_renew_27 : decode cX4_renew 27 = .ok (.aload_n 0, 1) := by decide +kernel
theorem dX4_renew_28 : decode cX4_renew 28 = .ok (.getfield 9, 3) := by decide +kernel
theorem dX4_renew_31 : decode cX4_renew 31 = .ok (.iload_n 3, 1) := by decide +kernel
theorem dX4_renew_32 : decode cX4_renew 32 = .ok (.iconst 0, 1) := by decide +kernel
theorem dX4_renew_33 : decode cX4_renew 33 = .ok (.iastore, 1) := by decide +kernel
theorem dX4_renew_34 : decode cX4_renew 34 = .ok (.iinc 3 1, 3) := by decide +kernel
theorem dX4_renew_37 : decode cX4_renew 37 = .ok (.goto (-16), 3) := by decide +kernel
theorem dX4_renew_40 : decode cX4_renew 40 = .ok (.return_, 1) := by decide +kernel
theorem dX4_drop_0 : decode cX4_drop 0 = .ok (.aload_n 0, 1) := by decide +kernel
theorem dX4_drop_1 : decode cX4_drop 1 = .ok (.iconst (-1), 1) := by decide +kernel
theorem dX4_drop_2 : decode cX4_drop 2 = .ok (.putfield 15, 3) := by decide +kernel
theorem dX4_drop_5 : decode cX4_drop 5 = .ok (.aload_n 0, 1) := by decide +kernel
theorem dX4_drop_6 : decode cX4_drop 6 = .ok (.iconst 0, 1) := by decide +kernel
theorem dX4_drop_7 : decode cX4_drop 7 = .ok (.putfield 19, 3) := by decide +kernel
theorem dX4_drop_10 : decode cX4_drop 10 = .ok (.return_, 1) := by decide +kernel
theorem dX4_trouble_0 : decode cX4_trouble 0 = .ok (.aload_n 0, 1) := by decide +kernel
theorem dX4_trouble_1 : decode cX4_trouble 1 = .ok (.invokevirtual 31, 3) := by decide +kernel
theorem dX4_trouble_4 : decode cX4_trouble 4 = .ok (.ifCond .eq 5, 3) := by decide +kernel
theorem dX4_trouble_7 : decode cX4_trouble 7 = .ok (.iconst 1, 1) := by decide +kernel
theorem dX4_trouble_8 : decode cX4_trouble 8 = .ok (.ireturn, 1) := by decide +kernel
theorem dX4_trouble_9 : decode cX4_trouble 9 = .ok (.aload_n 0, 1) := by decide +kernel
theorem dX4_trouble_10 : decode cX4_trouble 10 = .ok (.getfield 15, 3) := by decide +kernel
theorem dX4_trouble_13 : decode cX4_trouble 13 = .ok (.iload_n 1, 1) := by decide +kernel
theorem dX4_trouble_14 : decode cX4_trouble 14 = .ok (.if_icmp .eq 5, 3) := by decide +kernel
theorem dX4_trouble_17 : decode cX4_trouble 17 = .ok (.iconst 3, 1) := by decide +kernel
theorem dX4_trouble_18 : decode cX4_trouble 18 = .ok (.ireturn, 1) := by decide +kernel
theorem dX4_trouble_19 : decode cX4_trouble 19 = .ok (.iload_n 2, 1) := by decide +kernel
theorem dX4_trouble_20 : decode cX4_trouble 20 = .ok (.aload_n 0, 1) := by decide +kernel
theorem dX4_trouble_21 : decode cX4_trouble 21 = .ok (.getfield 19, 3) := by decide +kernel
theorem dX4_trouble_24 : decode cX4_trouble 24 = .ok (.invokestatic 35, 3) := by decide +kernel
theorem dX4_trouble_27 : decode cX4_trouble 27 = .ok (.ifCond .eq 7, 3) := by decide +kernel
theorem dX4_trouble_30 : decode cX4_trouble 30 = .ok (.iconst 0, 1) := by decide +kernel
theorem dX4_trouble_31 : decode cX4_trouble 31 = .ok (.goto 4, 3) := by decide +kernel
theorem dX4_trouble_34 : decode cX4_trouble 34 = .ok (.iconst 2, 1) := by decide +kernel
theorem dX4_trouble_35 : decode cX4_trouble 35 = .ok (.ireturn, 1) := by decide +kernel
theorem dX4_item_0 : decode cX4_item 0 = .ok (.iload_n 1, 1) := by decide +kernel
theorem dX4_item_1 : decode cX4_item 1 = .ok (.aload_n 0, 1) := by decide +kernel
theorem dX4_item_2 : decode cX4_item 2 = .ok (.getfield 19, 3) := by decide +kernel
theorem dX4_item_5 : decode cX4_item 5 = .ok (.invokestatic 35, 3) := by decide +kernel
theorem dX4_item_8 : decode cX4_item 8 = .ok (.ifCond .eq 21, 3) := by decide +kernel
theorem dX4_item_11 : decode cX4_item 11 = .ok (.iload_n 1, 1) := by decide +kernel
theorem dX4_item_12 : decode cX4_item 12 = .ok (.bipush 60, 2) := by decide +kernel
theorem dX4_item_14 : decode cX4_item 14 = .ok (.invokestatic 35, 3) := by decide +kernel
theorem dX4_item_17 : decode cX4_item 17 = .ok (.ifCond .eq 12, 3) := by decide +kernel
theorem dX4_item_20 : decode cX4_item 20 = .ok (.aload_n 0, 1) := by decide +kernel
theorem dX4_item_21 : decode cX4_item 21 = .ok (.getfield 9, 3) := by decide +kernel
theorem dX4_item_24 : decode cX4_item 24 = .ok (.iload_n 1, 1) := by decide +kernel
theorem dX4_item_25 : decode cX4_item 25 = .ok (.iaload, 1) := by decide +kernel
theorem dX4_item_26 : decode cX4_item 26 = .ok (.goto 4, 3) := by decide +kernel
theorem dX4_item_29 : decode cX4_item 29 = .ok (.iconst 0, 1) := by decide +kernel
theorem dX4_item_30 : decode cX4_item 30 = .ok (.ireturn, 1) := by decide +kernel
theorem dX4_put_0 : decode cX4_put 0 = .ok (.iload_n 1, 1) := by decide +kernel
theorem dX4_put_1 : decode cX4_put 1 = .ok (.aload_n 0, 1) := by decide +kernel
theorem dX4_put_2 : decode cX4_put 2 = .ok (.getfield 19, 3) := by decide +kernel
theorem dX4_put_5 : decode cX4_put 5 = .ok (.invokestatic 35, 3) := by decide +kernel
theorem dX4_put_8 : decode cX4_put 8 = .ok (.ifCond .eq 23, 3) := by decide +kernel
theorem dX4_put_11 : decode cX4_put 11 = .ok (.iload_n 1, 1) := by decide +kernel
theorem dX4_put_12 : decode cX4_put 12 = .ok (.bipush 60, 2) := by decide +kernel
theorem dX4_put_14 : decode cX4_put 14 = .ok (.invokestatic 35, 3) := by decide +kernel
theorem dX4_put_17 : decode cX4_put 17 = .ok (.ifCond .eq 14, 3) := by decide +kernel
theorem dX4_put_20 : decode cX4_put 20 = .ok (.aload_n 0, 1) := by decide +kernel
theorem dX4_put_21 : decode cX4_put 21 = .ok (.getfield 9, 3) := by decide +kernel
theorem dX4_put_24 : decode cX4_put 24 = .ok (.iload_n 1, 1) := by decide +kernel
theorem dX4_put_25 : decode cX4_put 25 = .ok (.aload_n 0, 1) := by decide +kernel
theorem dX4_put_26 : decode cX4_put 26 = .ok (.iload_n 2, 1) := by decide +kernel
theorem dX4_put_27 : decode cX4_put 27 = .ok (.invokevirtual 39, 3) := by decide +kernel
theorem dX4_put_30 : decode cX4_put 30 = .ok (.iastore, 1) := by decide +kernel
theorem dX4_put_31 : decode cX4_put 31 = .ok (.return_, 1) := by decide +kernel
theorem dX4_hasRun_0 : decode cX4_hasRun 0 = .ok (.iload_n 1, 1) := by decide +kernel
theorem dX4_hasRun_1 : decode cX4_hasRun 1 = .ok (.ifCond .lt 29, 3) := by decide +kernel
theorem dX4_hasRun_4 : decode cX4_hasRun 4 = .ok (.iload_n 2, 1) := by decide +kernel
theorem dX4_hasRun_5 : decode cX4_hasRun 5 = .ok (.ifCond .lt 25, 3) := by decide +kernel
theorem dX4_hasRun_8 : decode cX4_hasRun 8 = .ok (.iload_n 1, 1) := by decide +kernel
theorem dX4_hasRun_9 : decode cX4_hasRun 9 = .ok (.aload_n 0, 1) := by decide +kernel
theorem dX4_hasRun_10 : decode cX4_hasRun 10 = .ok (.getfield 19, 3) := by decide +kernel
theorem dX4_hasRun_13 : decode cX4_hasRun 13 = .ok (.if_icmp .gt 17, 3) := by decide +kernel
theorem dX4_hasRun_16 : decode cX4_hasRun 16 = .ok (.iload_n 2, 1) := by decide +kernel
theorem dX4_hasRun_17 : decode cX4_hasRun 17 = .ok (.aload_n 0, 1) := by decide +kernel
theorem dX4_hasRun_18 : decode cX4_hasRun 18 = .ok (.getfield 19, 3) := by decide +kernel
theorem dX4_hasRun_21 : decode cX4_hasRun 21 = .ok (.iload_n 1, 1) := by decide +kernel
theorem dX4_hasRun_22 : decode cX4_hasRun 22 = .ok (.isub, 1) := by decide +kernel
theorem dX4_hasRun_23 : decode cX4_hasRun 23 = .ok (.if_icmp .gt 7, 3) := by decide +kernel
theorem dX4_hasRun_26 : decode cX4_hasRun 26 = .ok (.iconst 1, 1) := by decide +kernel
theorem dX4_hasRun_27 : decode cX4_hasRun 27 = .ok (.goto 4, 3) := by decide +kernel
theorem dX4_hasRun_30 : decode cX4_hasRun 30 = .ok (.iconst 0, 1) := by decide +kernel
theorem dX4_hasRun_31 : decode cX4_hasRun 31 = .ok (.ireturn, 1) := by decide +kernel
theorem dX4_cut_0 : decode cX4_cut 0 = .ok (.aload_n 0, 1) := by decide +kernel
theorem dX4_cut_1 : decode cX4_cut 1 = .ok (.getfield 15, 3) := by decide +kernel
theorem dX4_cut_4 : decode cX4_cut 4 = .ok (.ifCond .ne 6, 3) := by decide +kernel
theorem dX4_cut_7 : decode cX4_cut 7 = .ok (.iload_n 1, 1) := by decide +kernel
theorem dX4_cut_8 : decode cX4_cut 8 = .ok (.i2b, 1) := by decide +kernel
theorem dX4_cut_9 : decode cX4_cut 9 = .ok (.ireturn, 1) := by decide +kernel
theorem dX4_cut_10 : decode cX4_cut 10 = .ok (.aload_n 0, 1) := by decide +kernel
theorem dX4_cut_11 : decode cX4_cut 11 = .ok (.getfield 15, 3) := by decide +kernel
theorem dX4_cut_14 : decode cX4_cut 14 = .ok (.iconst 1, 1) := by decide +kernel
theorem dX4_cut_15 : decode cX4_cut 15 = .ok (.if_icmp .ne 8, 3) := by decide +kernel
theorem dX4_cut_18 : decode cX4_cut 18 = .ok (.iload_n 1, 1) := by decide +kernel
theorem dX4_cut_19 : decode cX4_cut 19 = .ok (.i2s, 1) := by decide +kernel
theorem dX4_cut_20 : decode cX4_cut 20 = .ok (.goto 4, 3) := by decide +kernel
theorem dX4_cut_23 : decode cX4_cut 23 = .ok (.iload_n 1, 1) := by decide +kernel
theorem dX4_cut_24 : decode cX4_cut 24 = .ok (.ireturn, 1) := by decide +kernel
theorem dX5_init_0 : decode cX5_init 0 = .ok (.aload_n 0, 1) := by decide +kernel
theorem dX5_init_1 : decode cX5_init 1 = .ok (.invokespecial 3, 3) := by decide +kernel
theorem dX5_init_4 : decode cX5_init 4 = .ok (.aload_n 0, 1) := by decide +kernel
theorem dX5_init_5 : decode cX5_init 5 = .ok (.iconst 0, 1) := by decide +kernel
theorem dX5_init_6 : decode cX5_init 6 = .ok (.putfield 9, 3) := by decide +kernel
theorem dX5_init_9 : decode cX5_init 9 = .ok (.aload_n 0, 1) := by decide +kernel
theorem dX5_init_10 : decode cX5_init 10 = .ok (.iload_n 1, 1) := by decide +kernel
theorem dX5_init_11 : decode cX5_init 11 = .ok (.iconst 0, 1) := by decide +kernel
theorem dX5_init_12 : decode cX5_init 12 = .ok (.invokestatic 15, 3) := by decide +kernel
theorem dX5_init_15 : decode cX5_init 15 = .ok (.newarray .int, 2) := by decide +kernel
theorem dX5_init_17 : decode cX5_init 17 = .ok (.putfield 21, 3) := by decide +kernel
theorem dX5_init_20 : decode cX5_init 20 = .ok (.return_, 1) := by decide +kernel
theorem dX5_isFull_0 : decode cX5_isFull 0 = .ok (.aload_n 0, 1) := by decide +kernel
theorem dX5_isFull_1 : decode cX5_isFull 1 = .ok (.getfield 9, 3) := by decide +kernel
theorem dX5_isFull_4 : decode cX5_isFull 4 = .ok (.aload_n 0, 1) := by decide +kernel
theorem dX5_isFull_5 : decode cX5_isFull 5 = .ok (.getfield 21, 3) := by decide +kernel
theorem dX5_isFull_8 : decode cX5_isFull 8 = .ok (.arraylength, 1) := by decide +kernel
theorem dX5_isFull_9 : decode cX5_isFull 9 = .ok (.if_icmp .lt 7, 3) := by decide +kernel
theorem dX5_isFull_12 : decode cX5_isFull 12 = .ok (.iconst 1, 1) := by decide +kernel
theorem dX5_isFull_13 : decode cX5_isFull 13 = .ok (.goto 4, 3) := by decide +kernel
theorem dX5_isFull_16 : decode cX5_isFull 16 = .ok (.iconst 0, 1) := by decide +kernel
theorem dX5_isFull_17 : decode cX5_isFull 17 = .ok (.ireturn, 1) := by decide +kernel
theorem dX5_append_0 : decode cX5_append 0 = .ok (.aload_n 0, 1) := by decide +kernel
theorem dX5_append_1 : decode cX5_append 1 = .ok (.getfield 9, 3) := by decide +kernel
theorem dX5_append_4 : decode cX5_append 4 = .ok (.aload_n 0, 1) := by decide +kernel
theorem dX5_append_5 : decode cX5_append 5 = .ok (.getfield 21, 3) := by decide +kernel
theorem dX5_append_8 : decode cX5_append 8 = .ok (.arraylength, 1) := by decide +kernel
theorem dX5_append_9 : decode cX5_append 9 = .ok (.invokestatic 25, 3) := by decide +kernel
theorem dX5_append_12 : decode cX5_append 12 = .ok (.ifCond .eq 23, 3) := by decide +kernel
theorem dX5_append_15 : decode cX5_append 15 = .ok (.aload_n 0, 1) := by decide +kernel
theorem dX5_append_16 : decode cX5_append 16 = .ok (.getfield 21, 3) := by decide +kernel
theorem dX5_append_19 : decode cX5_append 19 = .ok (.aload_n 0, 1) := by decide +kernel
theorem dX5_append_20 : decode cX5_append 20 = .ok (.getfield 9, 3) := by decide +kernel
theorem dX5_append_23 : decode cX5_append 23 = .ok (.iload_n 1, 1) := by decide +kernel
theorem dX5_append_24 : decode cX5_append 24 = .ok (.iastore, 1) := by decide +kernel
theorem dX5_append_25 : decode cX5_append 25 = .ok (.aload_n 0, 1) := by decide +kernel
theorem dX5_append_26 : decode cX5_append 26 = .ok (.dup, 1) := by decide +kernel
theorem dX5_append_27 : decode cX5_append 27 = .ok (.getfield 9, 3) := by decide +kernel
theorem dX5_append_30 : decode cX5_append 30 = .ok (.iconst 1, 1) := by decide +kernel
theorem dX5_append_31 : decode cX5_append 31 = .ok (.iadd, 1) := by decide +kernel
theorem dX5_append_32 : decode cX5_append 32 = .ok (.putfield 9, 3) := by decide +kernel
theorem dX5_append_35 : decode cX5_append 35 = .ok (.return_, 1) := by decide +kernel
theorem dX5_dropLast_0 : decode cX5_dropLast 0 = .ok (.aload_n 0, 1) := by decide +kernel
theorem dX5_dropLast_1 : decode cX5_dropLast 1 = .ok (.aload_n 0, 1) := by decide +kernel
theorem dX5_dropLast_2 : decode cX5_dropLast 2 = .ok (.getfield 9, 3) := by decide +kernel
theorem dX5_dropLast_5 : decode cX5_dropLast 5 = .ok (.iconst 1, 1) := by decide +kernel
theorem dX5_dropLast_6 : decode cX5_dropLast 6 = .ok (.isub, 1) := by decide +kernel
theorem dX5_dropLast_7 : decode cX5_dropLast 7 = .ok (.iconst 0, 1) := by decide +kernel
theorem dX5_dropLast_8 : decode cX5_dropLast 8 = .ok (.invokestatic 15, 3) := by decide +kernel
theorem dX5_dropLast_11 : decode cX5_dropLast 11 = .ok (.putfield 9, 3) := by decide +kernel
theorem dX5_dropLast_14 : decode cX5_dropLast 14 = .ok (.return_, 1) := by decide +kernel
theorem dX5_clear_0 : decode cX5_clear 0 = .ok (.aload_n 0, 1) := by decide +kernel
theorem dX5_clear_1 : decode cX5_clear 1 = .ok (.iconst 0, 1) := by decide +kernel
theorem dX5_clear_2 : decode cX5_clear 2 = .ok (.putfield 9, 3) := by decide +kernel
theorem dX5_clear_5 : decode cX5_clear 5 = .ok (.return_, 1) := by decide +kernel
theorem dX5_firstFault_0 : decode cX5_firstFault 0 = .ok (.iconst 0, 1) := by decide +kernel
theorem dX5_firstFault_1 : decode cX5_firstFault 1 = .ok (.istore_n 1, 1) := by decide +kernel
theorem dX5_firstFault_2 : decode cX5_firstFault 2 = .ok (.iload_n 1, 1) := by decide +kernel
theorem dX5_firstFault_3 : decode cX5_firstFault 3 = .ok (.aload_n 0, 1) := by decide +kernel
theorem dX5_firstFault_4 : decode cX5_firstFault 4 = .ok (.getfield 9, 3) := by decide +kernel
theorem dX5_firstFault_7 : decode cX5_firstFault 7 = .ok (.if_icmp .ge 42, 3) := by decide +kernel
theorem dX5_firstFault_10 : decode cX5_firstFault 10 = .ok (.iload_n 1, 1) := by decide +kernel
theorem dX5_firstFault_11 : decode cX5_firstFault 11 = .ok (.aload_n 0, 1) := by decide +kernel
theorem dX5_firstFault_12 : decode cX5_firstFault 12 = .ok (.getfield 21, 3) := by decide +kernel
theorem dX5_firstFault_15 : decode cX5_firstFault 15 = .ok (.arraylength, 1) := by decide +kernel
theorem dX5_firstFault_16 : decode cX5_firstFault 16 = .ok (.if_icmp .ge 33, 3) := by decide +kernel
theorem dX5_firstFault_19 : decode cX5_firstFault 19 = .ok (.aload_n 0, 1) := by decide +kernel
theorem dX5_firstFault_20 : decode cX5_firstFault 20 = .ok (.getfield 21, 3) := by decide +kernel
theorem dX5_firstFault_23 : decode cX5_firstFault 23 = .ok (.iload_n 1, 1) := by decide +kernel
theorem dX5_firstFault_24 : decode cX5_firstFault 24 = .ok (.iaload, 1) := by decide +kernel
theorem dX5_firstFault_25 : decode cX5_firstFault 25 = .ok (.bipush 48, 2) := by decide +kernel
theorem dX5_firstFault_27 : decode cX5_firstFault 27 = .ok (.if_icmp .lt 14, 3) := by decide +kernel
theorem dX5_firstFault_30 : decode cX5_firstFault 30 = .ok (.aload_n 0, 1) := by decide +kernel
theorem dX5_firstFault_31 : decode cX5_firstFault 31 = .ok (.getfield 21, 3) := by decide +kernel
theorem dX5_firstFault_34 : decode cX5_firstFault 34 = .ok (.iload_n 1, 1) := by decide +kernel
theorem dX5_firstFault_35 : decode cX5_firstFault 35 = .ok (.iaload, 1) := by decide +kernel
theorem dX5_firstFault_36 : decode cX5_firstFault 36 = .ok (.bipush 57, 2) := by decide +kernel
theorem dX5_firstFault_38 : decode cX5_firstFault 38 = .ok (.if_icmp .le 5, 3) := by decide +kernel
theorem dX5_firstFault_41 : decode cX5_firstFault 41 = .ok (.iload_n 1, 1) := by decide +kernel
theorem dX5_firstFault_42 : decode cX5_firstFault 42 = .ok (.ireturn, 1) := by decide +kernel
theorem dX5_firstFault_43 : decode cX5_firstFault 43 = .ok (.iinc 1 1, 3) := by decide +kernel
theorem dX5_firstFault_46 : decode cX5_firstFault 46 = .ok (.goto (-44), 3) := by decide +kernel
theorem dX5_firstFault_49 : decode cX5_firstFault 49 = .ok (.iconst (-1), 1) := by decide +kernel
theorem dX5_firstFault_50 : decode cX5_firstFault 50 = .ok (.ireturn, 1) := by decide +kernel
theorem dX5_told_0 : decode cX5_told 0 = .ok (.aload_n 0, 1) := by decide +kernel
theorem dX5_told_1 : decode cX5_told 1 = .ok (.invokevirtual 29, 3) := by decide +kernel
theorem dX5_told_4 : decode cX5_told 4 = .ok (.iconst (-1), 1) := by decide +kernel
theorem dX5_told_5 : decode cX5_told 5 = .ok (.if_icmp .ne 10, 3) := by decide +kernel
theorem dX5_told_8 : decode cX5_told 8 = .ok (.aload_n 0, 1) := by decide +kernel
theorem dX5_told_9 : decode cX5_told 9 = .ok (.getfield 9, 3) := by decide +kernel
theorem dX5_told_12 : decode cX5_told 12 = .ok (.goto 4, 3) := by decide +kernel
theorem dX5_told_15 : decode cX5_told 15 = .ok (.iconst 0, 1) := by decide +kernel
theorem dX5_told_16 : decode cX5_told 16 = .ok (.ireturn, 1) := by decide +kernel
theorem dX5_figure_0 : decode cX5_figure 0 = .ok (.iload_n 1, 1) := by decide +kernel
theorem dX5_figure_1 : decode cX5_figure 1 = .ok (.aload_n 0, 1) := by decide +kernel
theorem dX5_figure_2 : decode cX5_figure 2 = .ok (.getfield 9, 3) := by decide +kernel
theorem dX5_figure_5 : decode cX5_figure 5 = .ok (.invokestatic 25, 3) := by decide +kernel
theorem dX5_figure_8 : decode cX5_figure 8 = .ok (.ifCond .eq 27, 3) := by decide +kernel
theorem dX5_figure_11 : decode cX5_figure 11 = .ok (.iload_n 1, 1) := by decide +kernel
theorem dX5_figure_12 : decode cX5_figure 12 = .ok (.aload_n 0, 1) := by decide +kernel
theorem dX5_figure_13 : decode cX5_figure 13 = .ok (.getfield 21, 3) := by decide +kernel
theorem dX5_figure_16 : decode cX5_figure 16 = .ok (.arraylength, 1) := by decide +kernel
theorem dX5_figure_17 : decode cX5_figure 17 = .ok (.invokestatic 25, 3) := by decide +kernel
theorem dX5_figure_20 : decode cX5_figure 20 = .ok (.ifCond .eq 15, 3) := by decide +kernel
theorem dX5_figure_23 : decode cX5_figure 23 = .ok (.aload_n 0, 1) := by decide +kernel
theorem dX5_figure_24 : decode cX5_figure 24 = .ok (.getfield 21, 3) := by decide +kernel
theorem dX5_figure_27 : decode cX5_figure 27 = .ok (.iload_n 1, 1) := by decide +kernel
theorem dX5_figure_28 : decode cX5_figure 28 = .ok (.iaload, 1) := by decide +kernel
theorem dX5_figure_29 : decode cX5_figure 29 = .ok (.bipush 48, 2) := by decide +kernel
theorem dX5_figure_31 : decode cX5_figure 31 = .ok (.isub, 1) := by decide +kernel
theorem dX5_figure_32 : decode cX5_figure 32 = .ok (.goto 4, 3) := by decide +kernel
theorem dX5_figure_35 : decode cX5_figure 35 = .ok (.iconst 0, 1) := by decide +kernel
theorem dX5_figure_36 : decode cX5_figure 36 = .ok (.ireturn, 1) := by decide +kernel
end
section
theorem dX6_init_0 : decode cX6_init 0 = .ok (.aload_n 0, 1) := by decide +kernel
theorem dX6_init_1 : decode cX6_init 1 = .ok (.invokespecial 3, 3) := by decide +kernel
theorem dX6_init_4 : decode cX6_init 4 = .ok (.aload_n 0, 1) := by decide +kernel
theorem dX6_init_5 : decode cX6_init 5 = .ok (.iconst 3, 1) := by decide +kernel
theorem dX6_init_6 : decode cX6_init 6 = .ok (.bipush 30, 2) := by decide +kernel
theorem dX6_init_8 : decode cX6_init 8 = .ok (.multianewarray 9 2, 4) := by decide +kernel
theorem dX6_init_12 : decode cX6_init 12 = .ok (.putfield 11, 3) := by decide +kernel
theorem dX6_init_15 : decode cX6_init 15 = .ok (.aload_n 0, 1) := by decide +kernel
theorem dX6_init_16 : decode cX6_init 16 = .ok (.iconst 3, 1) := by decide +kernel
theorem dX6_init_17 : decode cX6_init 17 = .ok (.bipush 30, 2) := by decide +kernel
theorem dX6_init_19 : decode cX6_init 19 = .ok (.multianewarray 9 2, 4) := by decide +kernel
theorem dX6_init_23 : decode cX6_init 23 = .ok (.putfield 16, 3) := by decide +kernel
theorem dX6_init_26 : decode cX6_init 26 = .ok (.aload_n 0, 1) := by decide +kernel
theorem dX6_init_27 : decode cX6_init 27 = .ok (.iconst 3, 1) := by decide +kernel
theorem dX6_init_28 : decode cX6_init 28 = .ok (.newarray .int, 2) := by decide +kernel
theorem dX6_init_30 : decode cX6_init 30 = .ok (.putfield 19, 3) := by decide +kernel
theorem dX6_init_33 : decode cX6_init 33 = .ok (.aload_n 0, 1) := by decide +kernel
theorem dX6_init_34 : decode cX6_init 34 = .ok (.bipush 10, 2) := by decide +kernel
theorem dX6_init_36 : decode cX6_init 36 = .ok (.newarray .int, 2) := by decide +kernel
theorem dX6_init_38 : decode cX6_init 38 = .ok (.putfield 23, 3) := by decide +kernel
theorem dX6_init_41 : decode cX6_init 41 = .ok (.aload_n 0, 1) := by decide +kernel
theorem dX6_init_42 : decode cX6_init 42 = .ok (.bipush 30, 2) := by decide +kernel
theorem dX6_init_44 : decode cX6_init 44 = .ok (.newarray .int, 2) := by decide +kernel
theorem dX6_init_46 : decode cX6_init 46 = .ok (.putfield 26, 3) := by decide +kernel
theorem dX6_init_49 : decode cX6_init 49 = .ok (.aload_n 0, 1) := by decide +kernel
theorem dX6_init_50 : decode cX6_init 50 = .ok (.iconst 1, 1) := by decide +kernel
theorem dX6_init_51 : decode cX6_init 51 = .ok (.putfield 29, 3) := by decide +kernel
theorem dX6_init_54 : decode cX6_init 54 = .ok (.aload_n 0, 1) := by decide +kernel
theorem dX6_init_55 : decode cX6_init 55 = .ok (.aload_n 1, 1) := by decide +kernel
theorem dX6_init_56 : decode cX6_init 56 = .ok (.putfield 33, 3) := by decide +kernel
theorem dX6_init_59 : decode cX6_init 59 = .ok (.aload_n 0, 1) := by decide +kernel
theorem dX6_init_60 : decode cX6_init 60 = .ok (.aload_n 2, 1) := by decide +kernel
theorem dX6_init_61 : decode cX6_init 61 = .ok (.putfield 37, 3) := by decide +kernel
theorem dX6_init_64 : decode cX6_init 64 = .ok (.aload_n 0, 1) := by decide +kernel
theorem dX6_init_65 : decode cX6_init 65 = .ok (.aload_n 3, 1) := by decide +kernel
theorem dX6_init_66 : decode cX6_init 66 = .ok (.putfield 40, 3) := by decide +kernel
theorem dX6_init_69 : decode cX6_init 69 = .ok (.return_, 1) := by decide +kernel
theorem dX6_change_0 : decode cX6_change 0 = .ok (.aload_n 0, 1) := by decide +kernel
theorem dX6_change_1 : decode cX6_change 1 = .ok (.iconst 1, 1) := by decide +kernel
theorem dX6_change_2 : decode cX6_change 2 = .ok (.putfield 29, 3) := by decide +kernel
theorem dX6_change_5 : decode cX6_change 5 = .ok (.return_, 1) := by decide +kernel
theorem dX6_refresh_0 : decode cX6_refresh 0 = .ok (.aload_n 0, 1) := by decide +kernel
theorem dX6_refresh_1 : decode cX6_refresh 1 = .ok (.getfield 29, 3) := by decide +kernel
theorem dX6_refresh_4 : decode cX6_refresh 4 = .ok (.ifCond .ne 4, 3) := by decide +kernel
theorem dX6_refresh_7 : decode cX6_refresh 7 = .ok (.return_, 1) := by decide +kernel
theorem dX6_refresh_8 : decode cX6_refresh 8 = .ok (.aload_n 0, 1) := by decide +kernel
theorem dX6_refresh_9 : decode cX6_refresh 9 = .ok (.invokevirtual 44, 3) := by decide +kernel
theorem dX6_refresh_12 : decode cX6_refresh 12 = .ok (.iconst 0, 1) := by decide +kernel
theorem dX6_refresh_13 : decode cX6_refresh 13 = .ok (.istore_n 1, 1) := by decide +kernel
theorem dX6_refresh_14 : decode cX6_refresh 14 = .ok (.iload_n 1, 1) := by decide +kernel
theorem dX6_refresh_15 : decode cX6_refresh 15 = .ok (.bipush 30, 2) := by decide +kernel
theorem dX6_refresh_17 : decode cX6_refresh 17 = .ok (.if_icmp .ge 23, 3) := by decide +kernel
theorem dX6_refresh_20 : decode cX6_refresh 20 = .ok (.aload_n 0, 1) := by decide +kernel
theorem dX6_refresh_21 : decode cX6_refresh 21 = .ok (.getfield 26, 3) := by decide +kernel
theorem dX6_refresh_24 : decode cX6_refresh 24 = .ok (.iload_n 1, 1) := by decide +kernel
theorem dX6_refresh_25 : decode cX6_refresh 25 = .ok (.aload_n 0, 1) := by decide +kernel
theorem dX6_refresh_26 : decode cX6_refresh 26 = .ok (.getfield 40, 3) := by decide +kernel
theorem dX6_refresh_29 : decode cX6_refresh 29 = .ok (.iload_n 1, 1) := by decide +kernel
theorem dX6_refresh_30 : decode cX6_refresh 30 = .ok (.invokevirtual 47, 3) := by decide +kernel
theorem dX6_refresh_33 : decode cX6_refresh 33 = .ok (.iastore, 1) := by decide +kernel
theorem dX6_refresh_34 : decode cX6_refresh 34 = .ok (.iinc 1 1, 3) := by decide +kernel
theorem dX6_refresh_37 : decode cX6_refresh 37 = .ok (.goto (-23), 3) := by decide +kernel
theorem dX6_refresh_40 : decode cX6_refresh 40 = .ok (.iconst 0, 1) := by decide +kernel
theorem dX6_refresh_41 : decode cX6_refresh 41 = .ok (.istore_n 1, 1) := by decide +kernel
theorem dX6_refresh_42 : decode cX6_refresh 42 = .ok (.iload_n 1, 1) := by decide +kernel
theorem dX6_refresh_43 : decode cX6_refresh 43 = .ok (.iconst 3, 1) := by decide +kernel
theorem dX6_refresh_44 : decode cX6_refresh 44 = .ok (.if_icmp .ge 30, 3) := by decide +kernel
theorem dX6_refresh_47 : decode cX6_refresh 47 = .ok (.aload_n 0, 1) := by decide +kernel
theorem dX6_refresh_48 : decode cX6_refresh 48 = .ok (.iload_n 1, 1) := by decide +kernel
theorem dX6_refresh_49 : decode cX6_refresh 49 = .ok (.invokevirtual 52, 3) := by decide +kernel
theorem dX6_refresh_52 : decode cX6_refresh 52 = .ok (.aload_n 0, 1) := by decide +kernel
theorem dX6_refresh_53 : decode cX6_refresh 53 = .ok (.getfield 19, 3) := by decide +kernel
theorem dX6_refresh_56 : decode cX6_refresh 56 = .ok (.iload_n 1, 1) := by decide +kernel
theorem dX6_refresh_57 : decode cX6_refresh 57 = .ok (.aload_n 0, 1) := by decide +kernel
theorem dX6_refresh_58 : decode cX6_refresh 58 = .ok (.iload_n 1, 1) := by decide +kernel
theorem dX6_refresh_59 : decode cX6_refresh 59 = .ok (.invokevirtual 56, 3) := by decide +kernel
theorem dX6_refresh_62 : decode cX6_refresh 62 = .ok (.iastore, 1) := by decide +kernel
theorem dX6_refresh_63 : decode cX6_refresh 63 = .ok (.aload_n 0, 1) := by decide +kernel
theorem dX6_refresh_64 : decode cX6_refresh 64 = .ok (.iload_n 1, 1) := by decide +kernel
theorem dX6_refresh_65 : decode cX6_refresh 65 = .ok (.invokevirtual 59, 3) := by decide +kernel
theorem dX6_refresh_68 : decode cX6_refresh 68 = .ok (.iinc 1 1, 3) := by decide +kernel
theorem dX6_refresh_71 : decode cX6_refresh 71 = .ok (.goto (-29), 3) := by decide +kernel
theorem dX6_refresh_74 : decode cX6_refresh 74 = .ok (.aload_n 0, 1) := by decide +kernel
theorem dX6_refresh_75 : decode cX6_refresh 75 = .ok (.iconst 0, 1) := by decide +kernel
theorem dX6_refresh_76 : decode cX6_refresh 76 = .ok (.putfield 29, 3) := by decide +kernel
theorem dX6_refresh_79 : decode cX6_refresh 79 = .ok (.return_, 1) := by decide +kernel
theorem dX6_levelOn_0 : decode cX6_levelOn 0 = .ok (.iload_n 1, 1) := by decide +kernel
theorem dX6_levelOn_1 : decode cX6_levelOn 1 = .ok (.iload_n 2, 1) := by decide +kernel
theorem dX6_levelOn_2 : decode cX6_levelOn 2 = .ok (.invokestatic 62, 3) := by decide +kernel
theorem dX6_levelOn_5 : decode cX6_levelOn 5 = .ok (.ifCond .eq 14, 3) := by decide +kernel
theorem dX6_levelOn_8 : decode cX6_levelOn 8 = .ok (.aload_n 0, 1) := by decide +kernel
theorem dX6_levelOn_9 : decode cX6_levelOn 9 = .ok (.getfield 11, 3) := by decide +kernel
theorem dX6_levelOn_12 : decode cX6_levelOn 12 = .ok (.iload_n 1, 1) := by decide +kernel
theorem dX6_levelOn_13 : decode cX6_levelOn 13 = .ok (.aaload, 1) := by decide +kernel
theorem dX6_levelOn_14 : decode cX6_levelOn 14 = .ok (.iload_n 2, 1) := by decide +kernel
theorem dX6_levelOn_15 : decode cX6_levelOn 15 = .ok (.iaload, 1) := by decide +kernel
theorem dX6_levelOn_16 : decode cX6_levelOn 16 = .ok (.goto 4, 3) := by decide +kernel
theorem dX6_levelOn_19 : decode cX6_levelOn 19 = .ok (.iconst 0, 1) := by decide +kernel
theorem dX6_levelOn_20 : decode cX6_levelOn 20 = .ok (.ireturn, 1) := by decide +kernel
theorem dX6_lentFrom_0 : decode cX6_lentFrom 0 = .ok (.iload_n 1, 1) := by decide +kernel
theorem dX6_lentFrom_1 : decode cX6_lentFrom 1 = .ok (.iconst 3, 1) := by decide +kernel
theorem dX6_lentFrom_2 : decode cX6_lentFrom 2 = .ok (.invokestatic 66, 3) := by decide +kernel
theorem dX6_lentFrom_5 : decode cX6_lentFrom 5 = .ok (.ifCond .eq 12, 3) := by decide +kernel
theorem dX6_lentFrom_8 : decode cX6_lentFrom 8 = .ok (.aload_n 0, 1) := by decide +kernel
theorem dX6_lentFrom_9 : decode cX6_lentFrom 9 = .ok (.getfield 19, 3) := by decide +kernel
theorem dX6_lentFrom_12 : decode cX6_lentFrom 12 = .ok (.iload_n 1, 1) := by decide +kernel
theorem dX6_lentFrom_13 : decode cX6_lentFrom 13 = .ok (.iaload, 1) := by decide +kernel
theorem dX6_lentFrom_14 : decode cX6_lentFrom 14 = .ok (.goto 4, 3) := by decide +kernel
theorem dX6_lentFrom_17 : decode cX6_lentFrom 17 = .ok (.iconst (-1), 1) := by decide +kernel
theorem dX6_lentFrom_18 : decode cX6_lentFrom 18 = .ok (.ireturn, 1) := by decide +kernel
theorem dX6_wetYards_0 : decode cX6_wetYards 0 = .ok (.iload_n 1, 1) := by decide +kernel
theorem dX6_wetYards_1 : decode cX6_wetYards 1 = .ok (.iload_n 2, 1) := by decide +kernel
theorem dX6_wetYards_2 : decode cX6_wetYards 2 = .ok (.invokestatic 62, 3) := by decide +kernel
theorem dX6_wetYards_5 : decode cX6_wetYards 5 = .ok (.ifCond .eq 14, 3) := by decide +kernel
theorem dX6_wetYards_8 : decode cX6_wetYards 8 = .ok (.aload_n 0, 1) := by decide +kernel
theorem dX6_wetYards_9 : decode cX6_wetYards 9 = .ok (.getfield 16, 3) := by decide +kernel
theorem dX6_wetYards_12 : decode cX6_wetYards 12 = .ok (.iload_n 1, 1) := by decide +kernel
theorem dX6_wetYards_13 : decode cX6_wetYards 13 = .ok (.aaload, 1) := by decide +kernel
theorem dX6_wetYards_14 : decode cX6_wetYards 14 = .ok (.iload_n 2, 1) := by decide +kernel
theorem dX6_wetYards_15 : decode cX6_wetYards 15 = .ok (.iaload, 1) := by decide +kernel
theorem dX6_wetYards_16 : decode cX6_wetYards 16 = .ok (.goto 4, 3) := by decide +kernel
theorem dX6_wetYards_19 : decode cX6_wetYards 19 = .ok (.iconst 0, 1) := by decide +kernel
theorem dX6_wetYards_20 : decode cX6_wetYards 20 = .ok (.ireturn, 1) := by decide +kernel
theorem dX6_closedDays_0 : decode cX6_closedDays 0 = .ok (.iconst 0, 1) := by decide +kernel
theorem dX6_closedDays_1 : decode cX6_closedDays 1 = .ok (.istore_n 3, 1) := by decide +kernel
theorem dX6_closedDays_2 : decode cX6_closedDays 2 = .ok (.iconst 0, 1) := by decide +kernel
theorem dX6_closedDays_3 : decode cX6_closedDays 3 = .ok (.istore 4, 2) := by decide +kernel
theorem dX6_closedDays_5 : decode cX6_closedDays 5 = .ok (.iload 4, 2) := by decide +kernel
theorem dX6_closedDays_7 : decode cX6_closedDays 7 = .ok (.bipush 30, 2) := by decide +kernel
theorem dX6_closedDays_9 : decode cX6_closedDays 9 = .ok (.if_icmp .ge 23, 3) := by decide +kernel
theorem dX6_closedDays_12 : decode cX6_closedDays 12 = .ok (.iload_n 3, 1) := by decide +kernel
theorem dX6_closedDays_13 : decode cX6_closedDays 13 = .ok (.aload_n 0, 1) := by decide +kernel
theorem dX6_closedDays_14 : decode cX6_closedDays 14 = .ok (.iload_n 1, 1) := by decide +kernel
theorem dX6_closedDays_15 : decode cX6_closedDays 15 = .ok (.iload 4, 2) := by decide +kernel
theorem dX6_closedDays_17 : decode cX6_closedDays 17 = .ok (.invokevirtual 69, 3) := by decide +kernel
theorem dX6_closedDays_20 : decode cX6_closedDays 20 = .ok (.iload_n 2, 1) := by decide +kernel
theorem dX6_closedDays_21 : decode cX6_closedDays 21 = .ok (.ishr, 1) := by decide +kernel
theorem dX6_closedDays_22 : decode cX6_closedDays 22 = .ok (.iconst 1, 1) := by decide +kernel
theorem dX6_closedDays_23 : decode cX6_closedDays 23 = .ok (.iand, 1) := by decide +kernel
theorem dX6_closedDays_24 : decode cX6_closedDays 24 = .ok (.iadd, 1) := by decide +kernel
theorem dX6_closedDays_25 : decode cX6_closedDays 25 = .ok (.istore_n 3, 1) := by decide +kernel
theorem dX6_closedDays_26 : decode cX6_closedDays 26 = .ok (.iinc 4 1, 3) := by decide +kernel
theorem dX6_closedDays_29 : decode cX6_closedDays 29 = .ok (.goto (-24), 3) := by decide +kernel
theorem dX6_closedDays_32 : decode cX6_closedDays 32 = .ok (.iload_n 3, 1) := by decide +kernel
theorem dX6_closedDays_33 : decode cX6_closedDays 33 = .ok (.ireturn, 1) := by decide +kernel
theorem dX6_fillLowYards_0 : decode cX6_fillLowYards 0 = .ok (.aload_n 0, 1) := by decide +kernel
theorem dX6_fillLowYards_1 : decode cX6_fillLowYards 1 = .ok (.getfield 33, 3) := by decide +kernel
theorem dX6_fillLowYards_4 : decode cX6_fillLowYards 4 = .ok (.iconst 3, 1) := by decide +kernel
theorem dX6_fillLowYards_5 : decode cX6_fillLowYards 5 = .ok (.aaload, 1) := by decide +kernel
theorem dX6_fillLowYards_6 : decode cX6_fillLowYards 6 = .ok (.invokevirtual 73, 3) := by decide +kernel
theorem dX6_fillLowYards_9 : decode cX6_fillLowYards 9 = .ok (.istore_n 1, 1) := by decide +kernel
theorem dX6_fillLowYards_10 : decode cX6_fillLowYards 10 = .ok (.iconst 0, 1) := by decide +kernel
theorem dX6_fillLowYards_11 : decode cX6_fillLowYards 11 = .ok (.istore_n 2, 1) := by decide +kernel
theorem dX6_fillLowYards_12 : decode cX6_fillLowYards 12 = .ok (.iload_n 2, 1) := by decide +kernel
theorem dX6_fillLowYards_13 : decode cX6_fillLowYards 13 = .ok (.bipush 10, 2) := by decide +kernel
theorem dX6_fillLowYards_15 : decode cX6_fillLowYards 15 = .ok (.if_icmp .ge 55, 3) := by decide +kernel
theorem dX6_fillLowYards_18 : decode cX6_fillLowYards 18 = .ok (.iconst 0, 1) := by decide +kernel
theorem dX6_fillLowYards_19 : decode cX6_fillLowYards 19 = .ok (.istore_n 3, 1) := by decide +kernel
theorem dX6_fillLowYards_20 : decode cX6_fillLowYards 20 = .ok (.iconst 0, 1) := by decide +kernel
theorem dX6_fillLowYards_21 : decode cX6_fillLowYards 21 = .ok (.istore 4, 2) := by decide +kernel
theorem dX6_fillLowYards_23 : decode cX6_fillLowYards 23 = .ok (.iload 4, 2) := by decide +kernel
theorem dX6_fillLowYards_25 : decode cX6_fillLowYards 25 = .ok (.iload_n 1, 1) := by decide +kernel
theorem dX6_fillLowYards_26 : decode cX6_fillLowYards 26 = .ok (.if_icmp .ge 31, 3) := by decide +kernel
theorem dX6_fillLowYards_29 : decode cX6_fillLowYards 29 = .ok (.iload_n 2, 1) := by decide +kernel
theorem dX6_fillLowYards_30 : decode cX6_fillLowYards 30 = .ok (.aload_n 0, 1) := by decide +kernel
theorem dX6_fillLowYards_31 : decode cX6_fillLowYards 31 = .ok (.getfield 33, 3) := by decide +kernel
theorem dX6_fillLowYards_34 : decode cX6_fillLowYards 34 = .ok (.iconst 3, 1) := by decide +kernel
theorem dX6_fillLowYards_35 : decode cX6_fillLowYards 35 = .ok (.aaload, 1) := by decide +kernel
theorem dX6_fillLowYards_36 : decode cX6_fillLowYards 36 = .ok (.iload 4, 2) := by decide +kernel
theorem dX6_fillLowYards_38 : decode cX6_fillLowYards 38 = .ok (.invokevirtual 79, 3) := by decide +kernel
theorem dX6_fillLowYards_41 : decode cX6_fillLowYards 41 = .ok (.if_icmp .le 10, 3) := by decide +kernel
theorem dX6_fillLowYards_44 : decode cX6_fillLowYards 44 = .ok (.iload_n 3, 1) := by decide +kernel
theorem dX6_fillLowYards_45 : decode cX6_fillLowYards 45 = .ok (.iconst 1, 1) := by decide +kernel
theorem dX6_fillLowYards_46 : decode cX6_fillLowYards 46 = .ok (.iload 4, 2) := by decide +kernel
theorem dX6_fillLowYards_48 : decode cX6_fillLowYards 48 = .ok (.ishl, 1) := by decide +kernel
theorem dX6_fillLowYards_49 : decode cX6_fillLowYards 49 = .ok (.ior, 1) := by decide +kernel
theorem dX6_fillLowYards_50 : decode cX6_fillLowYards 50 = .ok (.istore_n 3, 1) := by decide +kernel
theorem dX6_fillLowYards_51 : decode cX6_fillLowYards 51 = .ok (.iinc 4 1, 3) := by decide +kernel
theorem dX6_fillLowYards_54 : decode cX6_fillLowYards 54 = .ok (.goto (-31), 3) := by decide +kernel
theorem dX6_fillLowYards_57 : decode cX6_fillLowYards 57 = .ok (.aload_n 0, 1) := by decide +kernel
theorem dX6_fillLowYards_58 : decode cX6_fillLowYards 58 = .ok (.getfield 23, 3) := by decide +kernel
theorem dX6_fillLowYards_61 : decode cX6_fillLowYards 61 = .ok (.iload_n 2, 1) := by decide +kernel
theorem dX6_fillLowYards_62 : decode cX6_fillLowYards 62 = .ok (.iload_n 3, 1) := by decide +kernel
theorem dX6_fillLowYards_63 : decode cX6_fillLowYards 63 = .ok (.iastore, 1) := by decide +kernel
theorem dX6_fillLowYards_64 : decode cX6_fillLowYards 64 = .ok (.iinc 2 1, 3) := by decide +kernel
theorem dX6_fillLowYards_67 : decode cX6_fillLowYards 67 = .ok (.goto (-55), 3) := by decide +kernel
theorem dX6_fillLowYards_70 : decode cX6_fillLowYards 70 = .ok (.return_, 1) := by decide +kernel
theorem dX6_fillLevels_0 : decode cX6_fillLevels 0 = .ok (.aload_n 0, 1) := by decide +kernel
theorem dX6_fillLevels_1 : decode cX6_fillLevels 1 = .ok (.getfield 33, 3) := by decide +kernel
theorem dX6_fillLevels_4 : decode cX6_fillLevels 4 = .ok (.iload_n 1, 1) := by decide +kernel
theorem dX6_fillLevels_5 : decode cX6_fillLevels 5 = .ok (.aaload, 1) := by decide +kernel
theorem dX6_fillLevels_6 : decode cX6_fillLevels 6 = .ok (.invokevirtual 73, 3) := by decide +kernel
theorem dX6_fillLevels_9 : decode cX6_fillLevels 9 = .ok (.istore_n 2, 1) := by decide +kernel
theorem dX6_fillLevels_10 : decode cX6_fillLevels 10 = .ok (.iconst 0, 1) := by decide +kernel
theorem dX6_fillLevels_11 : decode cX6_fillLevels 11 = .ok (.istore_n 3, 1) := by decide +kernel
theorem dX6_fillLevels_12 : decode cX6_fillLevels 12 = .ok (.iload_n 3, 1) := by decide +kernel
theorem dX6_fillLevels_13 : decode cX6_fillLevels 13 = .ok (.bipush 30, 2) := by decide +kernel
theorem dX6_fillLevels_15 : decode cX6_fillLevels 15 = .ok (.if_icmp .ge 36, 3) := by decide +kernel
theorem dX6_fillLevels_18 : decode cX6_fillLevels 18 = .ok (.aload_n 0, 1) := by decide +kernel
theorem dX6_fillLevels_19 : decode cX6_fillLevels 19 = .ok (.getfield 11, 3) := by decide +kernel
theorem dX6_fillLevels_22 : decode cX6_fillLevels 22 = .ok (.iload_n 1, 1) := by decide +kernel
theorem dX6_fillLevels_23 : decode cX6_fillLevels 23 = .ok (.aaload, 1) := by decide +kernel
theorem dX6_fillLevels_24 : decode cX6_fillLevels 24 = .ok (.iload_n 3, 1) := by decide +kernel
theorem dX6_fillLevels_25 : decode cX6_fillLevels 25 = .ok (.iload_n 3, 1) := by decide +kernel
theorem dX6_fillLevels_26 : decode cX6_fillLevels 26 = .ok (.iload_n 2, 1) := by decide +kernel
theorem dX6_fillLevels_27 : decode cX6_fillLevels 27 = .ok (.if_icmp .ge 16, 3) := by decide +kernel
theorem dX6_fillLevels_30 : decode cX6_fillLevels 30 = .ok (.aload_n 0, 1) := by decide +kernel
theorem dX6_fillLevels_31 : decode cX6_fillLevels 31 = .ok (.getfield 33, 3) := by decide +kernel
theorem dX6_fillLevels_34 : decode cX6_fillLevels 34 = .ok (.iload_n 1, 1) := by decide +kernel
theorem dX6_fillLevels_35 : decode cX6_fillLevels 35 = .ok (.aaload, 1) := by decide +kernel
theorem dX6_fillLevels_36 : decode cX6_fillLevels 36 = .ok (.iload_n 3, 1) := by decide +kernel
theorem dX6_fillLevels_37 : decode cX6_fillLevels 37 = .ok (.invokevirtual 79, 3) := by decide +kernel
theorem dX6_fillLevels_40 : decode cX6_fillLevels 40 = .ok (.goto 4, 3) := by decide +kernel
theorem dX6_fillLevels_43 : decode cX6_fillLevels 43 = .ok (.iconst 0, 1) := by decide +kernel
theorem dX6_fillLevels_44 : decode cX6_fillLevels 44 = .ok (.iastore, 1) := by decide +kernel
theorem dX6_fillLevels_45 : decode cX6_fillLevels 45 = .ok (.iinc 3 1, 3) := by decide +kernel
theorem dX6_fillLevels_48 : decode cX6_fillLevels 48 = .ok (.goto (-36), 3) := by decide +kernel
theorem dX6_fillLevels_51 : decode cX6_fillLevels 51 = .ok (.return_, 1) := by decide +kernel
theorem dX6_firstThaw_0 : decode cX6_firstThaw 0 = .ok (.iconst 0, 1) := by decide +kernel
theorem dX6_firstThaw_1 : decode cX6_firstThaw 1 = .ok (.istore_n 2, 1) := by decide +kernel
theorem dX6_firstThaw_2 : decode cX6_firstThaw 2 = .ok (.iload_n 2, 1) := by decide +kernel
theorem dX6_firstThaw_3 : decode cX6_firstThaw 3 = .ok (.aload_n 0, 1) := by decide +kernel
theorem dX6_firstThaw_4 : decode cX6_firstThaw 4 = .ok (.getfield 37, 3) := by decide +kernel
theorem dX6_firstThaw_7 : decode cX6_firstThaw 7 = .ok (.iconst 1, 1) := by decide +kernel
theorem dX6_firstThaw_8 : decode cX6_firstThaw 8 = .ok (.iaload, 1) := by decide +kernel
theorem dX6_firstThaw_9 : decode cX6_firstThaw 9 = .ok (.if_icmp .gt 34, 3) := by decide +kernel
theorem dX6_firstThaw_12 : decode cX6_firstThaw 12 = .ok (.iload_n 2, 1) := by decide +kernel
theorem dX6_firstThaw_13 : decode cX6_firstThaw 13 = .ok (.bipush 30, 2) := by decide +kernel
theorem dX6_firstThaw_15 : decode cX6_firstThaw 15 = .ok (.if_icmp .ge 28, 3) := by decide +kernel
theorem dX6_firstThaw_18 : decode cX6_firstThaw 18 = .ok (.aload_n 0, 1) := by decide +kernel
theorem dX6_firstThaw_19 : decode cX6_firstThaw 19 = .ok (.getfield 11, 3) := by decide +kernel
theorem dX6_firstThaw_22 : decode cX6_firstThaw 22 = .ok (.iload_n 1, 1) := by decide +kernel
theorem dX6_firstThaw_23 : decode cX6_firstThaw 23 = .ok (.aaload, 1) := by decide +kernel
theorem dX6_firstThaw_24 : decode cX6_firstThaw 24 = .ok (.iload_n 2, 1) := by decide +kernel
theorem dX6_firstThaw_25 : decode cX6_firstThaw 25 = .ok (.iaload, 1) := by decide +kernel
theorem dX6_firstThaw_26 : decode cX6_firstThaw 26 = .ok (.aload_n 0, 1) := by decide +kernel
theorem dX6_firstThaw_27 : decode cX6_firstThaw 27 = .ok (.getfield 37, 3) := by decide +kernel
theorem dX6_firstThaw_30 : decode cX6_firstThaw 30 = .ok (.iconst 0, 1) := by decide +kernel
theorem dX6_firstThaw_31 : decode cX6_firstThaw 31 = .ok (.iaload, 1) := by decide +kernel
theorem dX6_firstThaw_32 : decode cX6_firstThaw 32 = .ok (.if_icmp .lt 5, 3) := by decide +kernel
theorem dX6_firstThaw_35 : decode cX6_firstThaw 35 = .ok (.iload_n 2, 1) := by decide +kernel
theorem dX6_firstThaw_36 : decode cX6_firstThaw 36 = .ok (.ireturn, 1) := by decide +kernel
theorem dX6_firstThaw_37 : decode cX6_firstThaw 37 = .ok (.iinc 2 1, 3) := by decide +kernel
theorem dX6_firstThaw_40 : decode cX6_firstThaw 40 = .ok (.goto (-38), 3) := by decide +kernel
theorem dX6_firstThaw_43 : decode cX6_firstThaw 43 = .ok (.iconst (-1), 1) := by decide +kernel
theorem dX6_firstThaw_44 : decode cX6_firstThaw 44 = .ok (.ireturn, 1) := by decide +kernel
theorem dX6_fillWet_0 : decode cX6_fillWet 0 = .ok (.aload_n 0, 1) := by decide +kernel
theorem dX6_fillWet_1 : decode cX6_fillWet 1 = .ok (.getfield 19, 3) := by decide +kernel
theorem dX6_fillWet_4 : decode cX6_fillWet 4 = .ok (.iload_n 1, 1) := by decide +kernel
theorem dX6_fillWet_5 : decode cX6_fillWet 5 = .ok (.iaload, 1) := by decide +kernel
theorem dX6_fillWet_6 : decode cX6_fillWet 6 = .ok (.istore_n 2, 1) := by decide +kernel
theorem dX6_fillWet_7 : decode cX6_fillWet 7 = .ok (.iconst 0, 1) := by decide +kernel
theorem dX6_fillWet_8 : decode cX6_fillWet 8 = .ok (.istore_n 3, 1) := by decide +kernel
theorem dX6_fillWet_9 : decode cX6_fillWet 9 = .ok (.iload_n 3, 1) := by decide +kernel
theorem dX6_fillWet_10 : decode cX6_fillWet 10 = .ok (.bipush 30, 2) := by decide +kernel
theorem dX6_fillWet_12 : decode cX6_fillWet 12 = .ok (.if_icmp .ge 89, 3) := by decide +kernel
theorem dX6_fillWet_15 : decode cX6_fillWet 15 = .ok (.iload_n 2, 1) := by decide +kernel
theorem dX6_fillWet_16 : decode cX6_fillWet 16 = .ok (.iconst (-1), 1) := by decide +kernel
theorem dX6_fillWet_17 : decode cX6_fillWet 17 = .ok (.if_icmp .eq 22, 3) := by decide +kernel
theorem dX6_fillWet_20 : decode cX6_fillWet 20 = .ok (.iload_n 3, 1) := by decide +kernel
theorem dX6_fillWet_21 : decode cX6_fillWet 21 = .ok (.iload_n 2, 1) := by decide +kernel
theorem dX6_fillWet_22 : decode cX6_fillWet 22 = .ok (.if_icmp .lt 17, 3) := by decide +kernel
theorem dX6_fillWet_25 : decode cX6_fillWet 25 = .ok (.iload_n 3, 1) := by decide +kernel
theorem dX6_fillWet_26 : decode cX6_fillWet 26 = .ok (.aload_n 0, 1) := by decide +kernel
theorem dX6_fillWet_27 : decode cX6_fillWet 27 = .ok (.getfield 37, 3) := by decide +kernel
theorem dX6_fillWet_30 : decode cX6_fillWet 30 = .ok (.iconst 1, 1) := by decide +kernel
theorem dX6_fillWet_31 : decode cX6_fillWet 31 = .ok (.iaload, 1) := by decide +kernel
theorem dX6_fillWet_32 : decode cX6_fillWet 32 = .ok (.if_icmp .gt 7, 3) := by decide +kernel
theorem dX6_fillWet_35 : decode cX6_fillWet 35 = .ok (.iconst 1, 1) := by decide +kernel
theorem dX6_fillWet_36 : decode cX6_fillWet 36 = .ok (.goto 4, 3) := by decide +kernel
theorem dX6_fillWet_39 : decode cX6_fillWet 39 = .ok (.iconst 0, 1) := by decide +kernel
theorem dX6_fillWet_40 : decode cX6_fillWet 40 = .ok (.istore 4, 2) := by decide +kernel
theorem dX6_fillWet_42 : decode cX6_fillWet 42 = .ok (.aload_n 0, 1) := by decide +kernel
theorem dX6_fillWet_43 : decode cX6_fillWet 43 = .ok (.getfield 11, 3) := by decide +kernel
theorem dX6_fillWet_46 : decode cX6_fillWet 46 = .ok (.iload_n 1, 1) := by decide +kernel
theorem dX6_fillWet_47 : decode cX6_fillWet 47 = .ok (.aaload, 1) := by decide +kernel
theorem dX6_fillWet_48 : decode cX6_fillWet 48 = .ok (.iload_n 3, 1) := by decide +kernel
theorem dX6_fillWet_49 : decode cX6_fillWet 49 = .ok (.iaload, 1) := by decide +kernel
theorem dX6_fillWet_50 : decode cX6_fillWet 50 = .ok (.istore 5, 2) := by decide +kernel
theorem dX6_fillWet_52 : decode cX6_fillWet 52 = .ok (.aload_n 0, 1) := by decide +kernel
theorem dX6_fillWet_53 : decode cX6_fillWet 53 = .ok (.getfield 16, 3) := by decide +kernel
theorem dX6_fillWet_56 : decode cX6_fillWet 56 = .ok (.iload_n 1, 1) := by decide +kernel
theorem dX6_fillWet_57 : decode cX6_fillWet 57 = .ok (.aaload, 1) := by decide +kernel
theorem dX6_fillWet_58 : decode cX6_fillWet 58 = .ok (.iload_n 3, 1) := by decide +kernel
theorem dX6_fillWet_59 : decode cX6_fillWet 59 = .ok (.iload 4, 2) := by decide +kernel
theorem dX6_fillWet_61 : decode cX6_fillWet 61 = .ok (.ifCond .eq 32, 3) := by decide +kernel
theorem dX6_fillWet_64 : decode cX6_fillWet 64 = .ok (.iload 5, 2) := by decide +kernel
theorem dX6_fillWet_66 : decode cX6_fillWet 66 = .ok (.bipush 10, 2) := by decide +kernel
theorem dX6_fillWet_68 : decode cX6_fillWet 68 = .ok (.invokestatic 66, 3) := by decide +kernel
theorem dX6_fillWet_71 : decode cX6_fillWet 71 = .ok (.ifCond .eq 22, 3) := by decide +kernel
theorem dX6_fillWet_74 : decode cX6_fillWet 74 = .ok (.aload_n 0, 1) := by decide +kernel
theorem dX6_fillWet_75 : decode cX6_fillWet 75 = .ok (.getfield 23, 3) := by decide +kernel
theorem dX6_fillWet_78 : decode cX6_fillWet 78 = .ok (.iload 5, 2) := by decide +kernel
theorem dX6_fillWet_80 : decode cX6_fillWet 80 = .ok (.iaload, 1) := by decide +kernel
theorem dX6_fillWet_81 : decode cX6_fillWet 81 = .ok (.aload_n 0, 1) := by decide +kernel
theorem dX6_fillWet_82 : decode cX6_fillWet 82 = .ok (.getfield 26, 3) := by decide +kernel
theorem dX6_fillWet_85 : decode cX6_fillWet 85 = .ok (.iload_n 3, 1) := by decide +kernel
theorem dX6_fillWet_86 : decode cX6_fillWet 86 = .ok (.iaload, 1) := by decide +kernel
theorem dX6_fillWet_87 : decode cX6_fillWet 87 = .ok (.iconst (-1), 1) := by decide +kernel
theorem dX6_fillWet_88 : decode cX6_fillWet 88 = .ok (.ixor, 1) := by decide +kernel
theorem dX6_fillWet_89 : decode cX6_fillWet 89 = .ok (.iand, 1) := by decide +kernel
theorem dX6_fillWet_90 : decode cX6_fillWet 90 = .ok (.goto 4, 3) := by decide +kernel
theorem dX6_fillWet_93 : decode cX6_fillWet 93 = .ok (.iconst 0, 1) := by decide +kernel
theorem dX6_fillWet_94 : decode cX6_fillWet 94 = .ok (.iastore, 1) := by decide +kernel
theorem dX6_fillWet_95 : decode cX6_fillWet 95 = .ok (.iinc 3 1, 3) := by decide +kernel
theorem dX6_fillWet_98 : decode cX6_fillWet 98 = .ok (.goto (-89), 3) := by decide +kernel
theorem dX6_fillWet_101 : decode cX6_fillWet 101 = .ok (.return_, 1) := by decide +kernel
theorem dX7_init_0 : decode cX7_init 0 = .ok (.aload_n 0, 1) := by decide +kernel
theorem dX7_init_1 : decode cX7_init 1 = .ok (.invokespecial 3, 3) := by decide +kernel
theorem dX7_init_4 : decode cX7_init 4 = .ok (.aload_n 0, 1) := by decide +kernel
theorem dX7_init_5 : decode cX7_init 5 = .ok (.iconst 3, 1) := by decide +kernel
theorem dX7_init_6 : decode cX7_init 6 = .ok (.iconst 3, 1) := by decide +kernel
theorem dX7_init_7 : decode cX7_init 7 = .ok (.multianewarray 9 2, 4) := by decide +kernel
theorem dX7_init_11 : decode cX7_init 11 = .ok (.putfield 11, 3) := by decide +kernel
theorem dX7_init_14 : decode cX7_init 14 = .ok (.aload_n 0, 1) := by decide +kernel
theorem dX7_init_15 : decode cX7_init 15 = .ok (.iconst 3, 1) := by decide +kernel
theorem dX7_init_16 : decode cX7_init 16 = .ok (.newarray .int, 2) := by decide +kernel
theorem dX7_init_18 : decode cX7_init 18 = .ok (.putfield 16, 3) := by decide +kernel
theorem dX7_init_21 : decode cX7_init 21 = .ok (.aload_n 0, 1) := by decide +kernel
theorem dX7_init_22 : decode cX7_init 22 = .ok (.iconst 3, 1) := by decide +kernel
theorem dX7_init_23 : decode cX7_init 23 = .ok (.newarray .int, 2) := by decide +kernel
theorem dX7_init_25 : decode cX7_init 25 = .ok (.putfield 20, 3) := by decide +kernel
theorem dX7_init_28 : decode cX7_init 28 = .ok (.aload_n 0, 1) := by decide +kernel
theorem dX7_init_29 : decode cX7_init 29 = .ok (.iconst 3, 1) := by decide +kernel
theorem dX7_init_30 : decode cX7_init 30 = .ok (.newarray .boolean, 2) := by decide +kernel
theorem dX7_init_32 : decode cX7_init 32 = .ok (.putfield 23, 3) := by decide +kernel
theorem dX7_init_35 : decode cX7_init 35 = .ok (.aload_n 0, 1) := by decide +kernel
theorem dX7_init_36 : decode cX7_init 36 = .ok (.aload_n 1, 1) := by decide +kernel
theorem dX7_init_37 : decode cX7_init 37 = .ok (.putfield 27, 3) := by decide +kernel
theorem dX7_init_40 : decode cX7_init 40 = .ok (.aload_n 0, 1) := by decide +kernel
theorem dX7_init_41 : decode cX7_init 41 = .ok (.aload_n 2, 1) := by decide +kernel
theorem dX7_init_42 : decode cX7_init 42 = .ok (.putfield 31, 3) := by decide +kernel
theorem dX7_init_45 : decode cX7_init 45 = .ok (.aload_n 0, 1) := by decide +kernel
theorem dX7_init_46 : decode cX7_init 46 = .ok (.aload_n 3, 1) := by decide +kernel
theorem dX7_init_47 : decode cX7_init 47 = .ok (.putfield 34, 3) := by decide +kernel
theorem dX7_init_50 : decode cX7_init 50 = .ok (.return_, 1) := by decide +kernel
theorem dX7_reckon_0 : decode cX7_reckon 0 = .ok (.aload_n 0, 1) := by decide +kernel
theorem dX7_reckon_1 : decode cX7_reckon 1 = .ok (.invokevirtual 37, 3) := by decide +kernel
theorem dX7_reckon_4 : decode cX7_reckon 4 = .ok (.bipush 29, 2) := by decide +kernel
theorem dX7_reckon_6 : decode cX7_reckon 6 = .ok (.istore 4, 2) := by decide +kernel
theorem dX7_reckon_8 : decode cX7_reckon 8 = .ok (.iload 4, 2) := by decide +kernel
theorem dX7_reckon_10 : decode cX7_reckon 10 = .ok (.iload_n 1, 1) := by decide +kernel
theorem dX7_reckon_11 : decode cX7_reckon 11 = .ok (.if_icmp .lt 47, 3) := by decide +kernel
theorem dX7_reckon_14 : decode cX7_reckon 14 = .ok (.iload 4, 2) := by decide +kernel
theorem dX7_reckon_16 : decode cX7_reckon 16 = .ok (.ifCond .lt 42, 3) := by decide +kernel
theorem dX7_reckon_19 : decode cX7_reckon 19 = .ok (.aload_n 0, 1) := by decide +kernel
theorem dX7_reckon_20 : decode cX7_reckon 20 = .ok (.iload 4, 2) := by decide +kernel
theorem dX7_reckon_22 : decode cX7_reckon 22 = .ok (.iconst 1, 1) := by decide +kernel
theorem dX7_reckon_23 : decode cX7_reckon 23 = .ok (.iadd, 1) := by decide +kernel
theorem dX7_reckon_24 : decode cX7_reckon 24 = .ok (.invokevirtual 40, 3) := by decide +kernel
theorem dX7_reckon_27 : decode cX7_reckon 27 = .ok (.iconst 0, 1) := by decide +kernel
theorem dX7_reckon_28 : decode cX7_reckon 28 = .ok (.istore 5, 2) := by decide +kernel
theorem dX7_reckon_30 : decode cX7_reckon 30 = .ok (.iload 5, 2) := by decide +kernel
theorem dX7_reckon_32 : decode cX7_reckon 32 = .ok (.iconst 3, 1) := by decide +kernel
theorem dX7_reckon_33 : decode cX7_reckon 33 = .ok (.if_icmp .ge 19, 3) := by decide +kernel
theorem dX7_reckon_36 : decode cX7_reckon 36 = .ok (.aload_n 0, 1) := by decide +kernel
theorem dX7_reckon_37 : decode cX7_reckon 37 = .ok (.iload 5, 2) := by decide +kernel
theorem dX7_reckon_39 : decode cX7_reckon 39 = .ok (.iload 4, 2) := by decide +kernel
theorem dX7_reckon_41 : decode cX7_reckon 41 = .ok (.iload_n 2, 1) := by decide +kernel
theorem dX7_reckon_42 : decode cX7_reckon 42 = .ok (.iload_n 3, 1) := by decide +kernel
theorem dX7_reckon_43 : decode cX7_reckon 43 = .ok (.invokevirtual 44, 3) := by decide +kernel
theorem dX7_reckon_46 : decode cX7_reckon 46 = .ok (.iinc 5 1, 3) := by decide +kernel
theorem dX7_reckon_49 : decode cX7_reckon 49 = .ok (.goto (-19), 3) := by decide +kernel
theorem dX7_reckon_52 : decode cX7_reckon 52 = .ok (.iinc 4 (-1), 3) := by decide +kernel
theorem dX7_reckon_55 : decode cX7_reckon 55 = .ok (.goto (-47), 3) := by decide +kernel
theorem dX7_reckon_58 : decode cX7_reckon 58 = .ok (.return_, 1) := by decide +kernel
theorem dX7_weightedCost_0 : decode cX7_weightedCost 0 = .ok (.iload_n 1, 1) := by decide +kernel
theorem dX7_weightedCost_1 : decode cX7_weightedCost 1 = .ok (.iconst 3, 1) := by decide +kernel
theorem dX7_weightedCost_2 : decode cX7_weightedCost 2 = .ok (.invokestatic 48, 3) := by decide +kernel
theorem dX7_weightedCost_5 : decode cX7_weightedCost 5 = .ok (.ifCond .eq 12, 3) := by decide +kernel
theorem dX7_weightedCost_8 : decode cX7_weightedCost 8 = .ok (.aload_n 0, 1) := by decide +kernel
theorem dX7_weightedCost_9 : decode cX7_weightedCost 9 = .ok (.getfield 16, 3) := by decide +kernel
theorem dX7_weightedCost_12 : decode cX7_weightedCost 12 = .ok (.iload_n 1, 1) := by decide +kernel
theorem dX7_weightedCost_13 : decode cX7_weightedCost 13 = .ok (.iaload, 1) := by decide +kernel
theorem dX7_weightedCost_14 : decode cX7_weightedCost 14 = .ok (.goto 4, 3) := by decide +kernel
theorem dX7_weightedCost_17 : decode cX7_weightedCost 17 = .ok (.iconst 0, 1) := by decide +kernel
theorem dX7_weightedCost_18 : decode cX7_weightedCost 18 = .ok (.ireturn, 1) := by decide +kernel
theorem dX7_isBestAtOnce_0 : decode cX7_isBestAtOnce 0 = .ok (.iload_n 1, 1) := by decide +kernel
theorem dX7_isBestAtOnce_1 : decode cX7_isBestAtOnce 1 = .ok (.iconst 3, 1) := by decide +kernel
theorem dX7_isBestAtOnce_2 : decode cX7_isBestAtOnce 2 = .ok (.invokestatic 48, 3) := by decide +kernel
theorem dX7_isBestAtOnce_5 : decode cX7_isBestAtOnce 5 = .ok (.ifCond .eq 16, 3) := by decide +kernel
theorem dX7_isBestAtOnce_8 : decode cX7_isBestAtOnce 8 = .ok (.aload_n 0, 1) := by decide +kernel
theorem dX7_isBestAtOnce_9 : decode cX7_isBestAtOnce 9 = .ok (.getfield 23, 3) := by decide +kernel
theorem dX7_isBestAtOnce_12 : decode cX7_isBestAtOnce 12 = .ok (.iload_n 1, 1) := by decide +kernel
theorem dX7_isBestAtOnce_13 : decode cX7_isBestAtOnce 13 = .ok (.baload, 1) := by decide +kernel
theorem dX7_isBestAtOnce_14 : decode cX7_isBestAtOnce 14 = .ok (.ifCond .eq 7, 3) := by decide +kernel
theorem dX7_isBestAtOnce_17 : decode cX7_isBestAtOnce 17 = .ok (.iconst 1, 1) := by decide +kernel
theorem dX7_isBestAtOnce_18 : decode cX7_isBestAtOnce 18 = .ok (.goto 4, 3) := by decide +kernel
theorem dX7_isBestAtOnce_21 : decode cX7_isBestAtOnce 21 = .ok (.iconst 0, 1) := by decide +kernel
theorem dX7_isBestAtOnce_22 : decode cX7_isBestAtOnce 22 = .ok (.ireturn, 1) := by decide +kernel
theorem dX7_weightOf_0 : decode cX7_weightOf 0 = .ok (.iload_n 1, 1) := by decide +kernel
theorem dX7_weightOf_1 : decode cX7_weightOf 1 = .ok (.iconst 3, 1) := by decide +kernel
theorem dX7_weightOf_2 : decode cX7_weightOf 2 = .ok (.invokestatic 48, 3) := by decide +kernel
theorem dX7_weightOf_5 : decode cX7_weightOf 5 = .ok (.ifCond .eq 16, 3) := by decide +kernel
theorem dX7_weightOf_8 : decode cX7_weightOf 8 = .ok (.aload_n 0, 1) := by decide +kernel
theorem dX7_weightOf_9 : decode cX7_weightOf 9 = .ok (.aload_n 0, 1) := by decide +kernel
theorem dX7_weightOf_10 : decode cX7_weightOf 10 = .ok (.getfield 34, 3) := by decide +kernel
theorem dX7_weightOf_13 : decode cX7_weightOf 13 = .ok (.iload_n 1, 1) := by decide +kernel
theorem dX7_weightOf_14 : decode cX7_weightOf 14 = .ok (.iload_n 2, 1) := by decide +kernel
theorem dX7_weightOf_15 : decode cX7_weightOf 15 = .ok (.invokevirtual 52, 3) := by decide +kernel
theorem dX7_weightOf_18 : decode cX7_weightOf 18 = .ok (.goto 4, 3) := by decide +kernel
theorem dX7_weightOf_21 : decode cX7_weightOf 21 = .ok (.iconst 0, 1) := by decide +kernel
theorem dX7_weightOf_22 : decode cX7_weightOf 22 = .ok (.ireturn, 1) := by decide +kernel
theorem dX7_choose_0 : decode cX7_choose 0 = .ok (.aload_n 0, 1) := by decide +kernel
theorem dX7_choose_1 : decode cX7_choose 1 = .ok (.aload_n 0, 1) := by decide +kernel
theorem dX7_choose_2 : decode cX7_choose 2 = .ok (.getfield 34, 3) := by decide +kernel
theorem dX7_choose_5 : decode cX7_choose 5 = .ok (.iload_n 1, 1) := by decide +kernel
theorem dX7_choose_6 : decode cX7_choose 6 = .ok (.iload_n 2, 1) := by decide +kernel
theorem dX7_choose_7 : decode cX7_choose 7 = .ok (.invokevirtual 52, 3) := by decide +kernel
theorem dX7_choose_10 : decode cX7_choose 10 = .ok (.istore 5, 2) := by decide +kernel
theorem dX7_choose_12 : decode cX7_choose 12 = .ok (.aload_n 0, 1) := by decide +kernel
theorem dX7_choose_13 : decode cX7_choose 13 = .ok (.getfield 27, 3) := by decide +kernel
theorem dX7_choose_16 : decode cX7_choose 16 = .ok (.iload_n 1, 1) := by decide +kernel
theorem dX7_choose_17 : decode cX7_choose 17 = .ok (.iload_n 2, 1) := by decide +kernel
theorem dX7_choose_18 : decode cX7_choose 18 = .ok (.invokevirtual 56, 3) := by decide +kernel
theorem dX7_choose_21 : decode cX7_choose 21 = .ok (.iload_n 3, 1) := by decide +kernel
theorem dX7_choose_22 : decode cX7_choose 22 = .ok (.iload 4, 2) := by decide +kernel
theorem dX7_choose_24 : decode cX7_choose 24 = .ok (.aload_n 0, 1) := by decide +kernel
theorem dX7_choose_25 : decode cX7_choose 25 = .ok (.getfield 31, 3) := by decide +kernel
theorem dX7_choose_28 : decode cX7_choose 28 = .ok (.iconst 2, 1) := by decide +kernel
theorem dX7_choose_29 : decode cX7_choose 29 = .ok (.iaload, 1) := by decide +kernel
theorem dX7_choose_30 : decode cX7_choose 30 = .ok (.invokestatic 62, 3) := by decide +kernel
theorem dX7_choose_33 : decode cX7_choose 33 = .ok (.istore 6, 2) := by decide +kernel
theorem dX7_choose_35 : decode cX7_choose 35 = .ok (.iload 5, 2) := by decide +kernel
theorem dX7_choose_37 : decode cX7_choose 37 = .ok (.iload 6, 2) := by decide +kernel
theorem dX7_choose_39 : decode cX7_choose 39 = .ok (.iload_n 3, 1) := by decide +kernel
theorem dX7_choose_40 : decode cX7_choose 40 = .ok (.iload 4, 2) := by decide +kernel
theorem dX7_choose_42 : decode cX7_choose 42 = .ok (.aload_n 0, 1) := by decide +kernel
theorem dX7_choose_43 : decode cX7_choose 43 = .ok (.getfield 31, 3) := by decide +kernel
theorem dX7_choose_46 : decode cX7_choose 46 = .ok (.iconst 3, 1) := by decide +kernel
theorem dX7_choose_47 : decode cX7_choose 47 = .ok (.iaload, 1) := by decide +kernel
theorem dX7_choose_48 : decode cX7_choose 48 = .ok (.invokestatic 66, 3) := by decide +kernel
theorem dX7_choose_51 : decode cX7_choose 51 = .ok (.invokestatic 70, 3) := by decide +kernel
theorem dX7_choose_54 : decode cX7_choose 54 = .ok (.imul, 1) := by decide +kernel
theorem dX7_choose_55 : decode cX7_choose 55 = .ok (.istore 7, 2) := by decide +kernel
theorem dX7_choose_57 : decode cX7_choose 57 = .ok (.iload 5, 2) := by decide +kernel
theorem dX7_choose_59 : decode cX7_choose 59 = .ok (.aload_n 0, 1) := by decide +kernel
theorem dX7_choose_60 : decode cX7_choose 60 = .ok (.getfield 31, 3) := by decide +kernel
theorem dX7_choose_63 : decode cX7_choose 63 = .ok (.bipush 6, 2) := by decide +kernel
theorem dX7_choose_65 : decode cX7_choose 65 = .ok (.iaload, 1) := by decide +kernel
theorem dX7_choose_66 : decode cX7_choose 66 = .ok (.imul, 1) := by decide +kernel
theorem dX7_choose_67 : decode cX7_choose 67 = .ok (.aload_n 0, 1) := by decide +kernel
theorem dX7_choose_68 : decode cX7_choose 68 = .ok (.aload_n 0, 1) := by decide +kernel
theorem dX7_choose_69 : decode cX7_choose 69 = .ok (.getfield 20, 3) := by decide +kernel
theorem dX7_choose_72 : decode cX7_choose 72 = .ok (.iload_n 1, 1) := by decide +kernel
theorem dX7_choose_73 : decode cX7_choose 73 = .ok (.iload_n 2, 1) := by decide +kernel
theorem dX7_choose_74 : decode cX7_choose 74 = .ok (.invokevirtual 52, 3) := by decide +kernel
theorem dX7_choose_77 : decode cX7_choose 77 = .ok (.iadd, 1) := by decide +kernel
theorem dX7_choose_78 : decode cX7_choose 78 = .ok (.istore 8, 2) := by decide +kernel
theorem dX7_choose_80 : decode cX7_choose 80 = .ok (.aload_n 0, 1) := by decide +kernel
theorem dX7_choose_81 : decode cX7_choose 81 = .ok (.getfield 23, 3) := by decide +kernel
theorem dX7_choose_84 : decode cX7_choose 84 = .ok (.iload_n 1, 1) := by decide +kernel
theorem dX7_choose_85 : decode cX7_choose 85 = .ok (.iload_n 2, 1) := by decide +kernel
theorem dX7_choose_86 : decode cX7_choose 86 = .ok (.bipush 29, 2) := by decide +kernel
theorem dX7_choose_88 : decode cX7_choose 88 = .ok (.if_icmp .eq 10, 3) := by decide +kernel
theorem dX7_choose_91 : decode cX7_choose 91 = .ok (.iload 7, 2) := by decide +kernel
theorem dX7_choose_93 : decode cX7_choose 93 = .ok (.iload 8, 2) := by decide +kernel
theorem dX7_choose_95 : decode cX7_choose 95 = .ok (.if_icmp .gt 7, 3) := by decide +kernel
theorem dX7_choose_98 : decode cX7_choose 98 = .ok (.iconst 1, 1) := by decide +kernel
theorem dX7_choose_99 : decode cX7_choose 99 = .ok (.goto 4, 3) := by decide +kernel
theorem dX7_choose_102 : decode cX7_choose 102 = .ok (.iconst 0, 1) := by decide +kernel
theorem dX7_choose_103 : decode cX7_choose 103 = .ok (.bastore, 1) := by decide +kernel
theorem dX7_choose_104 : decode cX7_choose 104 = .ok (.aload_n 0, 1) := by decide +kernel
theorem dX7_choose_105 : decode cX7_choose 105 = .ok (.getfield 16, 3) := by decide +kernel
theorem dX7_choose_108 : decode cX7_choose 108 = .ok (.iload_n 1, 1) := by decide +kernel
theorem dX7_choose_109 : decode cX7_choose 109 = .ok (.aload_n 0, 1) := by decide +kernel
theorem dX7_choose_110 : decode cX7_choose 110 = .ok (.getfield 23, 3) := by decide +kernel
theorem dX7_choose_113 : decode cX7_choose 113 = .ok (.iload_n 1, 1) := by decide +kernel
theorem dX7_choose_114 : decode cX7_choose 114 = .ok (.baload, 1) := by decide +kernel
theorem dX7_choose_115 : decode cX7_choose 115 = .ok (.ifCond .eq 8, 3) := by decide +kernel
theorem dX7_choose_118 : decode cX7_choose 118 = .ok (.iload 7, 2) := by decide +kernel
theorem dX7_choose_120 : decode cX7_choose 120 = .ok (.goto 5, 3) := by decide +kernel
theorem dX7_choose_123 : decode cX7_choose 123 = .ok (.iload 8, 2) := by decide +kernel
theorem dX7_choose_125 : decode cX7_choose 125 = .ok (.iastore, 1) := by decide +kernel
theorem dX7_choose_126 : decode cX7_choose 126 = .ok (.return_, 1) := by decide +kernel
theorem dX7_fillNextCases_0 : decode cX7_fillNextCases 0 = .ok (.iconst 0, 1) := by decide +kernel
theorem dX7_fillNextCases_1 : decode cX7_fillNextCases 1 = .ok (.istore_n 2, 1) := by decide +kernel
theorem dX7_fillNextCases_2 : decode cX7_fillNextCases 2 = .ok (.iload_n 2, 1) := by decide +kernel
theorem dX7_fillNextCases_3 : decode cX7_fillNextCases 3 = .ok (.iconst 3, 1) := by decide +kernel
theorem dX7_fillNextCases_4 : decode cX7_fillNextCases 4 = .ok (.if_icmp .ge 69, 3) := by decide +kernel
theorem dX7_fillNextCases_7 : decode cX7_fillNextCases 7 = .ok (.iconst 1, 1) := by decide +kernel
theorem dX7_fillNextCases_8 : decode cX7_fillNextCases 8 = .ok (.istore_n 3, 1) := by decide +kernel
theorem dX7_fillNextCases_9 : decode cX7_fillNextCases 9 = .ok (.iconst 0, 1) := by decide +kernel
theorem dX7_fillNextCases_10 : decode cX7_fillNextCases 10 = .ok (.istore 4, 2) := by decide +kernel
theorem dX7_fillNextCases_12 : decode cX7_fillNextCases 12 = .ok (.iload 4, 2) := by decide +kernel
theorem dX7_fillNextCases_14 : decode cX7_fillNextCases 14 = .ok (.iload_n 2, 1) := by decide +kernel
theorem dX7_fillNextCases_15 : decode cX7_fillNextCases 15 = .ok (.if_icmp .ge 32, 3) := by decide +kernel
theorem dX7_fillNextCases_18 : decode cX7_fillNextCases 18 = .ok (.iload_n 3, 1) := by decide +kernel
theorem dX7_fillNextCases_19 : decode cX7_fillNextCases 19 = .ok (.ifCond .eq 20, 3) := by decide +kernel
theorem dX7_fillNextCases_22 : decode cX7_fillNextCases 22 = .ok (.iload_n 1, 1) := by decide +kernel
theorem dX7_fillNextCases_23 : decode cX7_fillNextCases 23 = .ok (.aload_n 0, 1) := by decide +kernel
theorem dX7_fillNextCases_24 : decode cX7_fillNextCases 24 = .ok (.getfield 11, 3) := by decide +kernel
theorem dX7_fillNextCases_27 : decode cX7_fillNextCases 27 = .ok (.iload_n 2, 1) := by decide +kernel
theorem dX7_fillNextCases_28 : decode cX7_fillNextCases 28 = .ok (.aaload, 1) := by decide +kernel
theorem dX7_fillNextCases_29 : decode cX7_fillNextCases 29 = .ok (.iload 4, 2) := by decide +kernel
theorem dX7_fillNextCases_31 : decode cX7_fillNextCases 31 = .ok (.iaload, 1) := by decide +kernel
theorem dX7_fillNextCases_32 : decode cX7_fillNextCases 32 = .ok (.if_icmp .lt 7, 3) := by decide +kernel
theorem dX7_fillNextCases_35 : decode cX7_fillNextCases 35 = .ok (.iconst 1, 1) := by decide +kernel
theorem dX7_fillNextCases_36 : decode cX7_fillNextCases 36 = .ok (.goto 4, 3) := by decide +kernel
theorem dX7_fillNextCases_39 : decode cX7_fillNextCases 39 = .ok (.iconst 0, 1) := by decide +kernel
theorem dX7_fillNextCases_40 : decode cX7_fillNextCases 40 = .ok (.istore_n 3, 1) := by decide +kernel
theorem dX7_fillNextCases_41 : decode cX7_fillNextCases 41 = .ok (.iinc 4 1, 3) := by decide +kernel
theorem dX7_fillNextCases_44 : decode cX7_fillNextCases 44 = .ok (.goto (-32), 3) := by decide +kernel
theorem dX7_fillNextCases_47 : decode cX7_fillNextCases 47 = .ok (.aload_n 0, 1) := by decide +kernel
theorem dX7_fillNextCases_48 : decode cX7_fillNextCases 48 = .ok (.getfield 20, 3) := by decide +kernel
theorem dX7_fillNextCases_51 : decode cX7_fillNextCases 51 = .ok (.iload_n 2, 1) := by decide +kernel
theorem dX7_fillNextCases_52 : decode cX7_fillNextCases 52 = .ok (.iload_n 3, 1) := by decide +kernel
theorem dX7_fillNextCases_53 : decode cX7_fillNextCases 53 = .ok (.ifCond .eq 12, 3) := by decide +kernel
theorem dX7_fillNextCases_56 : decode cX7_fillNextCases 56 = .ok (.aload_n 0, 1) := by decide +kernel
theorem dX7_fillNextCases_57 : decode cX7_fillNextCases 57 = .ok (.getfield 16, 3) := by decide +kernel
theorem dX7_fillNextCases_60 : decode cX7_fillNextCases 60 = .ok (.iload_n 2, 1) := by decide +kernel
theorem dX7_fillNextCases_61 : decode cX7_fillNextCases 61 = .ok (.iaload, 1) := by decide +kernel
theorem dX7_fillNextCases_62 : decode cX7_fillNextCases 62 = .ok (.goto 4, 3) := by decide +kernel
theorem dX7_fillNextCases_65 : decode cX7_fillNextCases 65 = .ok (.iconst 0, 1) := by decide +kernel
theorem dX7_fillNextCases_66 : decode cX7_fillNextCases 66 = .ok (.iastore, 1) := by decide +kernel
theorem dX7_fillNextCases_67 : decode cX7_fillNextCases 67 = .ok (.iinc 2 1, 3) := by decide +kernel
theorem dX7_fillNextCases_70 : decode cX7_fillNextCases 70 = .ok (.goto (-68), 3) := by decide +kernel
theorem dX7_fillNextCases_73 : decode cX7_fillNextCases 73 = .ok (.return_, 1) := by decide +kernel
theorem dX7_sumOfAlike_0 : decode cX7_sumOfAlike 0 = .ok (.iconst 0, 1) := by decide +kernel
theorem dX7_sumOfAlike_1 : decode cX7_sumOfAlike 1 = .ok (.istore 4, 2) := by decide +kernel
theorem dX7_sumOfAlike_3 : decode cX7_sumOfAlike 3 = .ok (.iconst 0, 1) := by decide +kernel
theorem dX7_sumOfAlike_4 : decode cX7_sumOfAlike 4 = .ok (.istore 5, 2) := by decide +kernel
theorem dX7_sumOfAlike_6 : decode cX7_sumOfAlike 6 = .ok (.iload 5, 2) := by decide +kernel
theorem dX7_sumOfAlike_8 : decode cX7_sumOfAlike 8 = .ok (.iconst 3, 1) := by decide +kernel
theorem dX7_sumOfAlike_9 : decode cX7_sumOfAlike 9 = .ok (.if_icmp .ge 35, 3) := by decide +kernel
theorem dX7_sumOfAlike_12 : decode cX7_sumOfAlike 12 = .ok (.iload 4, 2) := by decide +kernel
theorem dX7_sumOfAlike_14 : decode cX7_sumOfAlike 14 = .ok (.iload_n 3, 1) := by decide +kernel
theorem dX7_sumOfAlike_15 : decode cX7_sumOfAlike 15 = .ok (.aload_n 0, 1) := by decide +kernel
theorem dX7_sumOfAlike_16 : decode cX7_sumOfAlike 16 = .ok (.getfield 11, 3) := by decide +kernel
theorem dX7_sumOfAlike_19 : decode cX7_sumOfAlike 19 = .ok (.iload_n 2, 1) := by decide +kernel
theorem dX7_sumOfAlike_20 : decode cX7_sumOfAlike 20 = .ok (.aaload, 1) := by decide +kernel
theorem dX7_sumOfAlike_21 : decode cX7_sumOfAlike 21 = .ok (.iload 5, 2) := by decide +kernel
theorem dX7_sumOfAlike_23 : decode cX7_sumOfAlike 23 = .ok (.iaload, 1) := by decide +kernel
theorem dX7_sumOfAlike_24 : decode cX7_sumOfAlike 24 = .ok (.if_icmp .ge 10, 3) := by decide +kernel
theorem dX7_sumOfAlike_27 : decode cX7_sumOfAlike 27 = .ok (.aload_n 1, 1) := by decide +kernel
theorem dX7_sumOfAlike_28 : decode cX7_sumOfAlike 28 = .ok (.iload 5, 2) := by decide +kernel
theorem dX7_sumOfAlike_30 : decode cX7_sumOfAlike 30 = .ok (.iaload, 1) := by decide +kernel
theorem dX7_sumOfAlike_31 : decode cX7_sumOfAlike 31 = .ok (.goto 4, 3) := by decide +kernel
theorem dX7_sumOfAlike_34 : decode cX7_sumOfAlike 34 = .ok (.iconst 0, 1) := by decide +kernel
theorem dX7_sumOfAlike_35 : decode cX7_sumOfAlike 35 = .ok (.iadd, 1) := by decide +kernel
theorem dX7_sumOfAlike_36 : decode cX7_sumOfAlike 36 = .ok (.istore 4, 2) := by decide +kernel
theorem dX7_sumOfAlike_38 : decode cX7_sumOfAlike 38 = .ok (.iinc 5 1, 3) := by decide +kernel
theorem dX7_sumOfAlike_41 : decode cX7_sumOfAlike 41 = .ok (.goto (-35), 3) := by decide +kernel
theorem dX7_sumOfAlike_44 : decode cX7_sumOfAlike 44 = .ok (.iload 4, 2) := by decide +kernel
theorem dX7_sumOfAlike_46 : decode cX7_sumOfAlike 46 = .ok (.ireturn, 1) := by decide +kernel
theorem dX7_fillPartings_0 : decode cX7_fillPartings 0 = .ok (.iconst 0, 1) := by decide +kernel
theorem dX7_fillPartings_1 : decode cX7_fillPartings 1 = .ok (.istore_n 1, 1) := by decide +kernel
theorem dX7_fillPartings_2 : decode cX7_fillPartings 2 = .ok (.iload_n 1, 1) := by decide +kernel
theorem dX7_fillPartings_3 : decode cX7_fillPartings 3 = .ok (.iconst 3, 1) := by decide +kernel
theorem dX7_fillPartings_4 : decode cX7_fillPartings 4 = .ok (.if_icmp .ge 57, 3) := by decide +kernel
theorem dX7_fillPartings_7 : decode cX7_fillPartings 7 = .ok (.aload_n 0, 1) := by decide +kernel
theorem dX7_fillPartings_8 : decode cX7_fillPartings 8 = .ok (.getfield 11, 3) := by decide +kernel
theorem dX7_fillPartings_11 : decode cX7_fillPartings 11 = .ok (.iload_n 1, 1) := by decide +kernel
theorem dX7_fillPartings_12 : decode cX7_fillPartings 12 = .ok (.aaload, 1) := by decide +kernel
theorem dX7_fillPartings_13 : decode cX7_fillPartings 13 = .ok (.iload_n 1, 1) := by decide +kernel
theorem dX7_fillPartings_14 : decode cX7_fillPartings 14 = .ok (.bipush 30, 2) := by decide +kernel
theorem dX7_fillPartings_16 : decode cX7_fillPartings 16 = .ok (.iastore, 1) := by decide +kernel
theorem dX7_fillPartings_17 : decode cX7_fillPartings 17 = .ok (.iconst 0, 1) := by decide +kernel
theorem dX7_fillPartings_18 : decode cX7_fillPartings 18 = .ok (.istore_n 2, 1) := by decide +kernel
theorem dX7_fillPartings_19 : decode cX7_fillPartings 19 = .ok (.iload_n 2, 1) := by decide +kernel
theorem dX7_fillPartings_20 : decode cX7_fillPartings 20 = .ok (.iload_n 1, 1) := by decide +kernel
theorem dX7_fillPartings_21 : decode cX7_fillPartings 21 = .ok (.if_icmp .ge 34, 3) := by decide +kernel
theorem dX7_fillPartings_24 : decode cX7_fillPartings 24 = .ok (.aload_n 0, 1) := by decide +kernel
theorem dX7_fillPartings_25 : decode cX7_fillPartings 25 = .ok (.iload_n 1, 1) := by decide +kernel
theorem dX7_fillPartings_26 : decode cX7_fillPartings 26 = .ok (.iload_n 2, 1) := by decide +kernel
theorem dX7_fillPartings_27 : decode cX7_fillPartings 27 = .ok (.invokevirtual 75, 3) := by decide +kernel
theorem dX7_fillPartings_30 : decode cX7_fillPartings 30 = .ok (.istore_n 3, 1) := by decide +kernel
theorem dX7_fillPartings_31 : decode cX7_fillPartings 31 = .ok (.aload_n 0, 1) := by decide +kernel
theorem dX7_fillPartings_32 : decode cX7_fillPartings 32 = .ok (.getfield 11, 3) := by decide +kernel
theorem dX7_fillPartings_35 : decode cX7_fillPartings 35 = .ok (.iload_n 1, 1) := by decide +kernel
theorem dX7_fillPartings_36 : decode cX7_fillPartings 36 = .ok (.aaload, 1) := by decide +kernel
theorem dX7_fillPartings_37 : decode cX7_fillPartings 37 = .ok (.iload_n 2, 1) := by decide +kernel
theorem dX7_fillPartings_38 : decode cX7_fillPartings 38 = .ok (.iload_n 3, 1) := by decide +kernel
theorem dX7_fillPartings_39 : decode cX7_fillPartings 39 = .ok (.iastore, 1) := by decide +kernel
theorem dX7_fillPartings_40 : decode cX7_fillPartings 40 = .ok (.aload_n 0, 1) := by decide +kernel
theorem dX7_fillPartings_41 : decode cX7_fillPartings 41 = .ok (.getfield 11, 3) := by decide +kernel
theorem dX7_fillPartings_44 : decode cX7_fillPartings 44 = .ok (.iload_n 2, 1) := by decide +kernel
theorem dX7_fillPartings_45 : decode cX7_fillPartings 45 = .ok (.aaload, 1) := by decide +kernel
theorem dX7_fillPartings_46 : decode cX7_fillPartings 46 = .ok (.iload_n 1, 1) := by decide +kernel
theorem dX7_fillPartings_47 : decode cX7_fillPartings 47 = .ok (.iload_n 3, 1) := by decide +kernel
theorem dX7_fillPartings_48 : decode cX7_fillPartings 48 = .ok (.iastore, 1) := by decide +kernel
theorem dX7_fillPartings_49 : decode cX7_fillPartings 49 = .ok (.iinc 2 1, 3) := by decide +kernel
theorem dX7_fillPartings_52 : decode cX7_fillPartings 52 = .ok (.goto (-33), 3) := by decide +kernel
theorem dX7_fillPartings_55 : decode cX7_fillPartings 55 = .ok (.iinc 1 1, 3) := by decide +kernel
theorem dX7_fillPartings_58 : decode cX7_fillPartings 58 = .ok (.goto (-56), 3) := by decide +kernel
theorem dX7_fillPartings_61 : decode cX7_fillPartings 61 = .ok (.return_, 1) := by decide +kernel
theorem dX7_parting_0 : decode cX7_parting 0 = .ok (.iconst 0, 1) := by decide +kernel
theorem dX7_parting_1 : decode cX7_parting 1 = .ok (.istore_n 3, 1) := by decide +kernel
theorem dX7_parting_2 : decode cX7_parting 2 = .ok (.iload_n 3, 1) := by decide +kernel
theorem dX7_parting_3 : decode cX7_parting 3 = .ok (.bipush 30, 2) := by decide +kernel
theorem dX7_parting_5 : decode cX7_parting 5 = .ok (.if_icmp .ge 32, 3) := by decide +kernel
theorem dX7_parting_8 : decode cX7_parting 8 = .ok (.aload_n 0, 1) := by decide +kernel
theorem dX7_parting_9 : decode cX7_parting 9 = .ok (.getfield 27, 3) := by decide +kernel
theorem dX7_parting_12 : decode cX7_parting 12 = .ok (.iload_n 1, 1) := by decide +kernel
theorem dX7_parting_13 : decode cX7_parting 13 = .ok (.iload_n 3, 1) := by decide +kernel
theorem dX7_parting_14 : decode cX7_parting 14 = .ok (.invokevirtual 78, 3) := by decide +kernel
theorem dX7_parting_17 : decode cX7_parting 17 = .ok (.aload_n 0, 1) := by decide +kernel
theorem dX7_parting_18 : decode cX7_parting 18 = .ok (.getfield 27, 3) := by decide +kernel
theorem dX7_parting_21 : decode cX7_parting 21 = .ok (.iload_n 2, 1) := by decide +kernel
theorem dX7_parting_22 : decode cX7_parting 22 = .ok (.iload_n 3, 1) := by decide +kernel
theorem dX7_parting_23 : decode cX7_parting 23 = .ok (.invokevirtual 78, 3) := by decide +kernel
theorem dX7_parting_26 : decode cX7_parting 26 = .ok (.if_icmp .eq 5, 3) := by decide +kernel
theorem dX7_parting_29 : decode cX7_parting 29 = .ok (.iload_n 3, 1) := by decide +kernel
theorem dX7_parting_30 : decode cX7_parting 30 = .ok (.ireturn, 1) := by decide +kernel
theorem dX7_parting_31 : decode cX7_parting 31 = .ok (.iinc 3 1, 3) := by decide +kernel
theorem dX7_parting_34 : decode cX7_parting 34 = .ok (.goto (-32), 3) := by decide +kernel
theorem dX7_parting_37 : decode cX7_parting 37 = .ok (.bipush 30, 2) := by decide +kernel
theorem dX7_parting_39 : decode cX7_parting 39 = .ok (.ireturn, 1) := by decide +kernel
theorem dJ6_bitCount_0f7a4_0 : decode cJ6_bitCount_0f7a4 0 = .ok (.iload_n 0, 1) := by decide +kernel
theorem dJ6_bitCount_0f7a4_1 : decode cJ6_bitCount_0f7a4 1 = .ok (.iload_n 0, 1) := by decide +kernel
theorem dJ6_bitCount_0f7a4_2 : decode cJ6_bitCount_0f7a4 2 = .ok (.iconst 1, 1) := by decide +kernel
theorem dJ6_bitCount_0f7a4_3 : decode cJ6_bitCount_0f7a4 3 = .ok (.iushr, 1) := by decide +kernel
theorem dJ6_bitCount_0f7a4_4 : decode cJ6_bitCount_0f7a4 4 = .ok (.ldc_w 265, 3) := by decide +kernel
theorem dJ6_bitCount_0f7a4_7 : decode cJ6_bitCount_0f7a4 7 = .ok (.iand, 1) := by decide +kernel
theorem dJ6_bitCount_0f7a4_8 : decode cJ6_bitCount_0f7a4 8 = .ok (.isub, 1) := by decide +kernel
theorem dJ6_bitCount_0f7a4_9 : decode cJ6_bitCount_0f7a4 9 = .ok (.istore_n 0, 1) := by decide +kernel
theorem dJ6_bitCount_0f7a4_10 : decode cJ6_bitCount_0f7a4 10 = .ok (.iload_n 0, 1) := by decide +kernel
theorem dJ6_bitCount_0f7a4_11 : decode cJ6_bitCount_0f7a4 11 = .ok (.ldc_w 266, 3) := by decide +kernel
theorem dJ6_bitCount_0f7a4_14 : decode cJ6_bitCount_0f7a4 14 = .ok (.iand, 1) := by decide +kernel
theorem dJ6_bitCount_0f7a4_15 : decode cJ6_bitCount_0f7a4 15 = .ok (.iload_n 0, 1) := by decide +kernel
theorem dJ6_bitCount_0f7a4_16 : decode cJ6_bitCount_0f7a4 16 = .ok (.iconst 2, 1) := by decide +kernel
theorem dJ6_bitCount_0f7a4_17 : decode cJ6_bitCount_0f7a4 17 = .ok (.iushr, 1) := by decide +kernel
theorem dJ6_bitCount_0f7a4_18 : decode cJ6_bitCount_0f7a4 18 = .ok (.ldc_w 266, 3) := by decide +kernel
theorem dJ6_bitCount_0f7a4_21 : decode cJ6_bitCount_0f7a4 21 = .ok (.iand, 1) := by decide +kernel
theorem dJ6_bitCount_0f7a4_22 : decode cJ6_bitCount_0f7a4 22 = .ok (.iadd, 1) := by decide +kernel
theorem dJ6_bitCount_0f7a4_23 : decode cJ6_bitCount_0f7a4 23 = .ok (.istore_n 0, 1) := by decide +kernel
theorem dJ6_bitCount_0f7a4_24 : decode cJ6_bitCount_0f7a4 24 = .ok (.iload_n 0, 1) := by decide +kernel
theorem dJ6_bitCount_0f7a4_25 : decode cJ6_bitCount_0f7a4 25 = .ok (.iload_n 0, 1) := by decide +kernel
theorem dJ6_bitCount_0f7a4_26 : decode cJ6_bitCount_0f7a4 26 = .ok (.iconst 4, 1) := by decide +kernel
theorem dJ6_bitCount_0f7a4_27 : decode cJ6_bitCount_0f7a4 27 = .ok (.iushr, 1) := by decide +kernel
theorem dJ6_bitCount_0f7a4_28 : decode cJ6_bitCount_0f7a4 28 = .ok (.iadd, 1) := by decide +kernel
theorem dJ6_bitCount_0f7a4_29 : decode cJ6_bitCount_0f7a4 29 = .ok (.ldc_w 267, 3) := by decide +kernel
theorem dJ6_bitCount_0f7a4_32 : decode cJ6_bitCount_0f7a4 32 = .ok (.iand, 1) := by decide +kernel
theorem dJ6_bitCount_0f7a4_33 : decode cJ6_bitCount_0f7a4 33 = .ok (.istore_n 0, 1) := by decide +kernel
theorem dJ6_bitCount_0f7a4_34 : decode cJ6_bitCount_0f7a4 34 = .ok (.iload_n 0, 1) := by decide +kernel
theorem dJ6_bitCount_0f7a4_35 : decode cJ6_bitCount_0f7a4 35 = .ok (.iload_n 0, 1) := by decide +kernel
theorem dJ6_bitCount_0f7a4_36 : decode cJ6_bitCount_0f7a4 36 = .ok (.bipush 8, 2) := by decide +kernel
theorem dJ6_bitCount_0f7a4_38 : decode cJ6_bitCount_0f7a4 38 = .ok (.iushr, 1) := by decide +kernel
theorem dJ6_bitCount_0f7a4_39 : decode cJ6_bitCount_0f7a4 39 = .ok (.iadd, 1) := by decide +kernel
theorem dJ6_bitCount_0f7a4_40 : decode cJ6_bitCount_0f7a4 40 = .ok (.istore_n 0, 1) := by decide +kernel
theorem dJ6_bitCount_0f7a4_41 : decode cJ6_bitCount_0f7a4 41 = .ok (.iload_n 0, 1) := by decide +kernel
theorem dJ6_bitCount_0f7a4_42 : decode cJ6_bitCount_0f7a4 42 = .ok (.iload_n 0, 1) := by decide +kernel
theorem dJ6_bitCount_0f7a4_43 : decode cJ6_bitCount_0f7a4 43 = .ok (.bipush 16, 2) := by decide +kernel
theorem dJ6_bitCount_0f7a4_45 : decode cJ6_bitCount_0f7a4 45 = .ok (.iushr, 1) := by decide +kernel
theorem dJ6_bitCount_0f7a4_46 : decode cJ6_bitCount_0f7a4 46 = .ok (.iadd, 1) := by decide +kernel
theorem dJ6_bitCount_0f7a4_47 : decode cJ6_bitCount_0f7a4 47 = .ok (.istore_n 0, 1) := by decide +kernel
theorem dJ6_bitCount_0f7a4_48 : decode cJ6_bitCount_0f7a4 48 = .ok (.iload_n 0, 1) := by decide +kernel
theorem dJ6_bitCount_0f7a4_49 : decode cJ6_bitCount_0f7a4 49 = .ok (.bipush 63, 2) := by decide +kernel
theorem dJ6_bitCount_0f7a4_51 : decode cJ6_bitCount_0f7a4 51 = .ok (.iand, 1) := by decide +kernel
theorem dJ6_bitCount_0f7a4_52 : decode cJ6_bitCount_0f7a4 52 = .ok (.ireturn, 1) := by decide +kernel
theorem dJ9_max_7cf53_0 : decode cJ9_max_7cf53 0 = .ok (.iload_n 0, 1) := by decide +kernel
theorem dJ9_max_7cf53_1 : decode cJ9_max_7cf53 1 = .ok (.iload_n 1, 1) := by decide +kernel
theorem dJ9_max_7cf53_2 : decode cJ9_max_7cf53 2 = .ok (.if_icmp .lt 7, 3) := by decide +kernel
theorem dJ9_max_7cf53_5 : decode cJ9_max_7cf53 5 = .ok (.iload_n 0, 1) := by decide +kernel
theorem dJ9_max_7cf53_6 : decode cJ9_max_7cf53 6 = .ok (.goto 4, 3) := by decide +kernel
theorem dJ9_max_7cf53_9 : decode cJ9_max_7cf53 9 = .ok (.iload_n 1, 1) := by decide +kernel
theorem dJ9_max_7cf53_10 : decode cJ9_max_7cf53 10 = .ok (.ireturn, 1) := by decide +kernel
theorem dJ9_min_7cf53_0 : decode cJ9_min_7cf53 0 = .ok (.iload_n 0, 1) := by decide +kernel
theorem dJ9_min_7cf53_1 : decode cJ9_min_7cf53 1 = .ok (.iload_n 1, 1) := by decide +kernel
theorem dJ9_min_7cf53_2 : decode cJ9_min_7cf53 2 = .ok (.if_icmp .gt 7, 3) := by decide +kernel
theorem dJ9_min_7cf53_5 : decode cJ9_min_7cf53 5 = .ok (.iload_n 0, 1) := by decide +kernel
theorem dJ9_min_7cf53_6 : decode cJ9_min_7cf53 6 = .ok (.goto 4, 3) := by decide +kernel
theorem dJ9_min_7cf53_9 : decode cJ9_min_7cf53 9 = .ok (.iload_n 1, 1) := by decide +kernel
theorem dJ9_min_7cf53_10 : decode cJ9_min_7cf53 10 = .ok (.ireturn, 1) := by decide +kernel
end
section
theorem dX8_init_0 : decode cX8_init 0 = .ok (.aload_n 0, 1) := by decide +kernel
theorem dX8_init_1 : decode cX8_init 1 = .ok (.invokespecial 7, 3) := by decide +kernel
theorem dX8_init_4 : decode cX8_init 4 = .ok (.aload_n 0, 1) := by decide +kernel
theorem dX8_init_5 : decode cX8_init 5 = .ok (.iconst 4, 1) := by decide +kernel
theorem dX8_init_6 : decode cX8_init 6 = .ok (.anewarray 13, 3) := by decide +kernel
theorem dX8_init_9 : decode cX8_init 9 = .ok (.putfield 15, 3) := by decide +kernel
theorem dX8_init_12 : decode cX8_init 12 = .ok (.aload_n 0, 1) := by decide +kernel
theorem dX8_init_13 : decode cX8_init 13 = .ok (.bipush 7, 2) := by decide +kernel
theorem dX8_init_15 : decode cX8_init 15 = .ok (.newarray .int, 2) := by decide +kernel
theorem dX8_init_17 : decode cX8_init 17 = .ok (.putfield 19, 3) := by decide +kernel
theorem dX8_init_20 : decode cX8_init 20 = .ok (.aload_n 0, 1) := by decide +kernel
theorem dX8_init_21 : decode cX8_init 21 = .ok (.iconst 3, 1) := by decide +kernel
theorem dX8_init_22 : decode cX8_init 22 = .ok (.newarray .int, 2) := by decide +kernel
theorem dX8_init_24 : decode cX8_init 24 = .ok (.putfield 23, 3) := by decide +kernel
theorem dX8_init_27 : decode cX8_init 27 = .ok (.aload_n 0, 1) := by decide +kernel
theorem dX8_init_28 : decode cX8_init 28 = .ok (.new 26, 3) := by decide +kernel
theorem dX8_init_31 : decode cX8_init 31 = .ok (.dup, 1) := by decide +kernel
theorem dX8_init_32 : decode cX8_init 32 = .ok (.invokespecial 28, 3) := by decide +kernel
theorem dX8_init_35 : decode cX8_init 35 = .ok (.putfield 29, 3) := by decide +kernel
theorem dX8_init_38 : decode cX8_init 38 = .ok (.aload_n 0, 1) := by decide +kernel
theorem dX8_init_39 : decode cX8_init 39 = .ok (.new 33, 3) := by decide +kernel
theorem dX8_init_42 : decode cX8_init 42 = .ok (.dup, 1) := by decide +kernel
theorem dX8_init_43 : decode cX8_init 43 = .ok (.aload_n 0, 1) := by decide +kernel
theorem dX8_init_44 : decode cX8_init 44 = .ok (.getfield 15, 3) := by decide +kernel
theorem dX8_init_47 : decode cX8_init 47 = .ok (.aload_n 0, 1) := by decide +kernel
theorem dX8_init_48 : decode cX8_init 48 = .ok (.getfield 19, 3) := by decide +kernel
theorem dX8_init_51 : decode cX8_init 51 = .ok (.aload_n 0, 1) := by decide +kernel
theorem dX8_init_52 : decode cX8_init 52 = .ok (.getfield 29, 3) := by decide +kernel
theorem dX8_init_55 : decode cX8_init 55 = .ok (.invokespecial 35, 3) := by decide +kernel
theorem dX8_init_58 : decode cX8_init 58 = .ok (.putfield 38, 3) := by decide +kernel
theorem dX8_init_61 : decode cX8_init 61 = .ok (.aload_n 0, 1) := by decide +kernel
theorem dX8_init_62 : decode cX8_init 62 = .ok (.new 42, 3) := by decide +kernel
theorem dX8_init_65 : decode cX8_init 65 = .ok (.dup, 1) := by decide +kernel
theorem dX8_init_66 : decode cX8_init 66 = .ok (.aload_n 0, 1) := by decide +kernel
theorem dX8_init_67 : decode cX8_init 67 = .ok (.getfield 38, 3) := by decide +kernel
theorem dX8_init_70 : decode cX8_init 70 = .ok (.aload_n 0, 1) := by decide +kernel
theorem dX8_init_71 : decode cX8_init 71 = .ok (.getfield 19, 3) := by decide +kernel
theorem dX8_init_74 : decode cX8_init 74 = .ok (.aload_n 0, 1) := by decide +kernel
theorem dX8_init_75 : decode cX8_init 75 = .ok (.getfield 23, 3) := by decide +kernel
theorem dX8_init_78 : decode cX8_init 78 = .ok (.invokespecial 44, 3) := by decide +kernel
theorem dX8_init_81 : decode cX8_init 81 = .ok (.putfield 47, 3) := by decide +kernel
theorem dX8_init_84 : decode cX8_init 84 = .ok (.aload_n 0, 1) := by decide +kernel
theorem dX8_init_85 : decode cX8_init 85 = .ok (.new 51, 3) := by decide +kernel
theorem dX8_init_88 : decode cX8_init 88 = .ok (.dup, 1) := by decide +kernel
theorem dX8_init_89 : decode cX8_init 89 = .ok (.aload_n 0, 1) := by decide +kernel
theorem dX8_init_90 : decode cX8_init 90 = .ok (.getfield 38, 3) := by decide +kernel
theorem dX8_init_93 : decode cX8_init 93 = .ok (.invokespecial 53, 3) := by decide +kernel
theorem dX8_init_96 : decode cX8_init 96 = .ok (.putfield 56, 3) := by decide +kernel
theorem dX8_init_99 : decode cX8_init 99 = .ok (.aload_n 0, 1) := by decide +kernel
theorem dX8_init_100 : decode cX8_init 100 = .ok (.new 60, 3) := by decide +kernel
theorem dX8_init_103 : decode cX8_init 103 = .ok (.dup, 1) := by decide +kernel
theorem dX8_init_104 : decode cX8_init 104 = .ok (.aload_n 0, 1) := by decide +kernel
theorem dX8_init_105 : decode cX8_init 105 = .ok (.getfield 38, 3) := by decide +kernel
theorem dX8_init_108 : decode cX8_init 108 = .ok (.aload_n 0, 1) := by decide +kernel
theorem dX8_init_109 : decode cX8_init 109 = .ok (.getfield 23, 3) := by decide +kernel
theorem dX8_init_112 : decode cX8_init 112 = .ok (.invokespecial 62, 3) := by decide +kernel
theorem dX8_init_115 : decode cX8_init 115 = .ok (.putfield 65, 3) := by decide +kernel
theorem dX8_init_118 : decode cX8_init 118 = .ok (.aload_n 0, 1) := by decide +kernel
theorem dX8_init_119 : decode cX8_init 119 = .ok (.new 69, 3) := by decide +kernel
theorem dX8_init_122 : decode cX8_init 122 = .ok (.dup, 1) := by decide +kernel
theorem dX8_init_123 : decode cX8_init 123 = .ok (.invokespecial 71, 3) := by decide +kernel
theorem dX8_init_126 : decode cX8_init 126 = .ok (.putfield 72, 3) := by decide +kernel
theorem dX8_init_129 : decode cX8_init 129 = .ok (.aload_n 0, 1) := by decide +kernel
theorem dX8_init_130 : decode cX8_init 130 = .ok (.iconst 4, 1) := by decide +kernel
theorem dX8_init_131 : decode cX8_init 131 = .ok (.anewarray 76, 3) := by decide +kernel
theorem dX8_init_134 : decode cX8_init 134 = .ok (.putfield 78, 3) := by decide +kernel
theorem dX8_init_137 : decode cX8_init 137 = .ok (.aload_n 0, 1) := by decide +kernel
theorem dX8_init_138 : decode cX8_init 138 = .ok (.iconst 0, 1) := by decide +kernel
theorem dX8_init_139 : decode cX8_init 139 = .ok (.putfield 82, 3) := by decide +kernel
theorem dX8_init_142 : decode cX8_init 142 = .ok (.iconst 0, 1) := by decide +kernel
theorem dX8_init_143 : decode cX8_init 143 = .ok (.istore_n 1, 1) := by decide +kernel
theorem dX8_init_144 : decode cX8_init 144 = .ok (.iload_n 1, 1) := by decide +kernel
theorem dX8_init_145 : decode cX8_init 145 = .ok (.iconst 4, 1) := by decide +kernel
theorem dX8_init_146 : decode cX8_init 146 = .ok (.if_icmp .ge 34, 3) := by decide +kernel
theorem dX8_init_149 : decode cX8_init 149 = .ok (.aload_n 0, 1) := by decide +kernel
theorem dX8_init_150 : decode cX8_init 150 = .ok (.getfield 15, 3) := by decide +kernel
theorem dX8_init_153 : decode cX8_init 153 = .ok (.iload_n 1, 1) := by decide +kernel
theorem dX8_init_154 : decode cX8_init 154 = .ok (.new 13, 3) := by decide +kernel
theorem dX8_init_157 : decode cX8_init 157 = .ok (.dup, 1) := by decide +kernel
theorem dX8_init_158 : decode cX8_init 158 = .ok (.iload_n 1, 1) := by decide +kernel
theorem dX8_init_159 : decode cX8_init 159 = .ok (.iconst 3, 1) := by decide +kernel
theorem dX8_init_160 : decode cX8_init 160 = .ok (.if_icmp .ne 8, 3) := by decide +kernel
theorem dX8_init_163 : decode cX8_init 163 = .ok (.bipush 12, 2) := by decide +kernel
theorem dX8_init_165 : decode cX8_init 165 = .ok (.goto 5, 3) := by decide +kernel
theorem dX8_init_168 : decode cX8_init 168 = .ok (.bipush 30, 2) := by decide +kernel
theorem dX8_init_170 : decode cX8_init 170 = .ok (.invokespecial 86, 3) := by decide +kernel
theorem dX8_init_173 : decode cX8_init 173 = .ok (.aastore, 1) := by decide +kernel
theorem dX8_init_174 : decode cX8_init 174 = .ok (.iinc 1 1, 3) := by decide +kernel
theorem dX8_init_177 : decode cX8_init 177 = .ok (.goto (-33), 3) := by decide +kernel
theorem dX8_init_180 : decode cX8_init 180 = .ok (.iconst 0, 1) := by decide +kernel
theorem dX8_init_181 : decode cX8_init 181 = .ok (.istore_n 1, 1) := by decide +kernel
theorem dX8_init_182 : decode cX8_init 182 = .ok (.iload_n 1, 1) := by decide +kernel
theorem dX8_init_183 : decode cX8_init 183 = .ok (.bipush 7, 2) := by decide +kernel
theorem dX8_init_185 : decode cX8_init 185 = .ok (.if_icmp .ge 20, 3) := by decide +kernel
theorem dX8_init_188 : decode cX8_init 188 = .ok (.aload_n 0, 1) := by decide +kernel
theorem dX8_init_189 : decode cX8_init 189 = .ok (.getfield 19, 3) := by decide +kernel
theorem dX8_init_192 : decode cX8_init 192 = .ok (.iload_n 1, 1) := by decide +kernel
theorem dX8_init_193 : decode cX8_init 193 = .ok (.getstatic 89, 3) := by decide +kernel
theorem dX8_init_196 : decode cX8_init 196 = .ok (.iload_n 1, 1) := by decide +kernel
theorem dX8_init_197 : decode cX8_init 197 = .ok (.iaload, 1) := by decide +kernel
theorem dX8_init_198 : decode cX8_init 198 = .ok (.iastore, 1) := by decide +kernel
theorem dX8_init_199 : decode cX8_init 199 = .ok (.iinc 1 1, 3) := by decide +kernel
theorem dX8_init_202 : decode cX8_init 202 = .ok (.goto (-20), 3) := by decide +kernel
theorem dX8_init_205 : decode cX8_init 205 = .ok (.iconst 0, 1) := by decide +kernel
theorem dX8_init_206 : decode cX8_init 206 = .ok (.istore_n 1, 1) := by decide +kernel
theorem dX8_init_207 : decode cX8_init 207 = .ok (.iload_n 1, 1) := by decide +kernel
theorem dX8_init_208 : decode cX8_init 208 = .ok (.iconst 3, 1) := by decide +kernel
theorem dX8_init_209 : decode cX8_init 209 = .ok (.if_icmp .ge 16, 3) := by decide +kernel
theorem dX8_init_212 : decode cX8_init 212 = .ok (.aload_n 0, 1) := by decide +kernel
theorem dX8_init_213 : decode cX8_init 213 = .ok (.getfield 23, 3) := by decide +kernel
theorem dX8_init_216 : decode cX8_init 216 = .ok (.iload_n 1, 1) := by decide +kernel
theorem dX8_init_217 : decode cX8_init 217 = .ok (.iconst 1, 1) := by decide +kernel
theorem dX8_init_218 : decode cX8_init 218 = .ok (.iastore, 1) := by decide +kernel
theorem dX8_init_219 : decode cX8_init 219 = .ok (.iinc 1 1, 3) := by decide +kernel
theorem dX8_init_222 : decode cX8_init 222 = .ok (.goto (-15), 3) := by decide +kernel
theorem dX8_init_225 : decode cX8_init 225 = .ok (.iconst 0, 1) := by decide +kernel
theorem dX8_init_226 : decode cX8_init 226 = .ok (.istore_n 1, 1) := by decide +kernel
theorem dX8_init_227 : decode cX8_init 227 = .ok (.iload_n 1, 1) := by decide +kernel
theorem dX8_init_228 : decode cX8_init 228 = .ok (.iconst 4, 1) := by decide +kernel
theorem dX8_init_229 : decode cX8_init 229 = .ok (.if_icmp .ge 22, 3) := by decide +kernel
theorem dX8_init_232 : decode cX8_init 232 = .ok (.aload_n 0, 1) := by decide +kernel
theorem dX8_init_233 : decode cX8_init 233 = .ok (.getfield 78, 3) := by decide +kernel
theorem dX8_init_236 : decode cX8_init 236 = .ok (.iload_n 1, 1) := by decide +kernel
theorem dX8_init_237 : decode cX8_init 237 = .ok (.new 76, 3) := by decide +kernel
theorem dX8_init_240 : decode cX8_init 240 = .ok (.dup, 1) := by decide +kernel
theorem dX8_init_241 : decode cX8_init 241 = .ok (.invokespecial 92, 3) := by decide +kernel
theorem dX8_init_244 : decode cX8_init 244 = .ok (.aastore, 1) := by decide +kernel
theorem dX8_init_245 : decode cX8_init 245 = .ok (.iinc 1 1, 3) := by decide +kernel
theorem dX8_init_248 : decode cX8_init 248 = .ok (.goto (-21), 3) := by decide +kernel
theorem dX8_init_251 : decode cX8_init 251 = .ok (.return_, 1) := by decide +kernel
theorem dX8_type_0 : decode cX8_type 0 = .ok (.iload_n 1, 1) := by decide +kernel
theorem dX8_type_1 : decode cX8_type 1 = .ok (.iconst 4, 1) := by decide +kernel
theorem dX8_type_2 : decode cX8_type 2 = .ok (.invokestatic 93, 3) := by decide +kernel
theorem dX8_type_5 : decode cX8_type 5 = .ok (.ifCond .eq 13, 3) := by decide +kernel
theorem dX8_type_8 : decode cX8_type 8 = .ok (.iload_n 2, 1) := by decide +kernel
theorem dX8_type_9 : decode cX8_type 9 = .ok (.sipush 256, 3) := by decide +kernel
theorem dX8_type_12 : decode cX8_type 12 = .ok (.invokestatic 93, 3) := by decide +kernel
theorem dX8_type_15 : decode cX8_type 15 = .ok (.ifCond .ne 6, 3) := by decide +kernel
theorem dX8_type_18 : decode cX8_type 18 = .ok (.bipush (-2), 2) := by decide +kernel
theorem dX8_type_20 : decode cX8_type 20 = .ok (.ireturn, 1) := by decide +kernel
theorem dX8_type_21 : decode cX8_type 21 = .ok (.aload_n 0, 1) := by decide +kernel
theorem dX8_type_22 : decode cX8_type 22 = .ok (.getfield 15, 3) := by decide +kernel
theorem dX8_type_25 : decode cX8_type 25 = .ok (.iload_n 1, 1) := by decide +kernel
theorem dX8_type_26 : decode cX8_type 26 = .ok (.aaload, 1) := by decide +kernel
theorem dX8_type_27 : decode cX8_type 27 = .ok (.invokevirtual 97, 3) := by decide +kernel
theorem dX8_type_30 : decode cX8_type 30 = .ok (.ifCond .eq 6, 3) := by decide +kernel
theorem dX8_type_33 : decode cX8_type 33 = .ok (.bipush (-4), 2) := by decide +kernel
theorem dX8_type_35 : decode cX8_type 35 = .ok (.ireturn, 1) := by decide +kernel
theorem dX8_type_36 : decode cX8_type 36 = .ok (.aload_n 0, 1) := by decide +kernel
theorem dX8_type_37 : decode cX8_type 37 = .ok (.getfield 15, 3) := by decide +kernel
theorem dX8_type_40 : decode cX8_type 40 = .ok (.iload_n 1, 1) := by decide +kernel
theorem dX8_type_41 : decode cX8_type 41 = .ok (.aaload, 1) := by decide +kernel
theorem dX8_type_42 : decode cX8_type 42 = .ok (.iload_n 2, 1) := by decide +kernel
theorem dX8_type_43 : decode cX8_type 43 = .ok (.invokevirtual 101, 3) := by decide +kernel
theorem dX8_type_46 : decode cX8_type 46 = .ok (.aload_n 0, 1) := by decide +kernel
theorem dX8_type_47 : decode cX8_type 47 = .ok (.getfield 38, 3) := by decide +kernel
theorem dX8_type_50 : decode cX8_type 50 = .ok (.invokevirtual 104, 3) := by decide +kernel
theorem dX8_type_53 : decode cX8_type 53 = .ok (.aload_n 0, 1) := by decide +kernel
theorem dX8_type_54 : decode cX8_type 54 = .ok (.getfield 15, 3) := by decide +kernel
theorem dX8_type_57 : decode cX8_type 57 = .ok (.iload_n 1, 1) := by decide +kernel
theorem dX8_type_58 : decode cX8_type 58 = .ok (.aaload, 1) := by decide +kernel
theorem dX8_type_59 : decode cX8_type 59 = .ok (.getfield 107, 3) := by decide +kernel
theorem dX8_type_62 : decode cX8_type 62 = .ok (.ireturn, 1) := by decide +kernel
theorem dX8_undo_0 : decode cX8_undo 0 = .ok (.iload_n 1, 1) := by decide +kernel
theorem dX8_undo_1 : decode cX8_undo 1 = .ok (.iconst 4, 1) := by decide +kernel
theorem dX8_undo_2 : decode cX8_undo 2 = .ok (.invokestatic 93, 3) := by decide +kernel
theorem dX8_undo_5 : decode cX8_undo 5 = .ok (.ifCond .ne 6, 3) := by decide +kernel
theorem dX8_undo_8 : decode cX8_undo 8 = .ok (.bipush (-2), 2) := by decide +kernel
theorem dX8_undo_10 : decode cX8_undo 10 = .ok (.ireturn, 1) := by decide +kernel
theorem dX8_undo_11 : decode cX8_undo 11 = .ok (.aload_n 0, 1) := by decide +kernel
theorem dX8_undo_12 : decode cX8_undo 12 = .ok (.getfield 15, 3) := by decide +kernel
theorem dX8_undo_15 : decode cX8_undo 15 = .ok (.iload_n 1, 1) := by decide +kernel
theorem dX8_undo_16 : decode cX8_undo 16 = .ok (.aaload, 1) := by decide +kernel
theorem dX8_undo_17 : decode cX8_undo 17 = .ok (.getfield 107, 3) := by decide +kernel
theorem dX8_undo_20 : decode cX8_undo 20 = .ok (.ifCond .ne 6, 3) := by decide +kernel
theorem dX8_undo_23 : decode cX8_undo 23 = .ok (.bipush (-3), 2) := by decide +kernel
theorem dX8_undo_25 : decode cX8_undo 25 = .ok (.ireturn, 1) := by decide +kernel
theorem dX8_undo_26 : decode cX8_undo 26 = .ok (.aload_n 0, 1) := by decide +kernel
theorem dX8_undo_27 : decode cX8_undo 27 = .ok (.getfield 15, 3) := by decide +kernel
theorem dX8_undo_30 : decode cX8_undo 30 = .ok (.iload_n 1, 1) := by decide +kernel
theorem dX8_undo_31 : decode cX8_undo 31 = .ok (.aaload, 1) := by decide +kernel
theorem dX8_undo_32 : decode cX8_undo 32 = .ok (.invokevirtual 110, 3) := by decide +kernel
theorem dX8_undo_35 : decode cX8_undo 35 = .ok (.aload_n 0, 1) := by decide +kernel
theorem dX8_undo_36 : decode cX8_undo 36 = .ok (.getfield 38, 3) := by decide +kernel
theorem dX8_undo_39 : decode cX8_undo 39 = .ok (.invokevirtual 104, 3) := by decide +kernel
theorem dX8_undo_42 : decode cX8_undo 42 = .ok (.aload_n 0, 1) := by decide +kernel
theorem dX8_undo_43 : decode cX8_undo 43 = .ok (.getfield 15, 3) := by decide +kernel
theorem dX8_undo_46 : decode cX8_undo 46 = .ok (.iload_n 1, 1) := by decide +kernel
theorem dX8_undo_47 : decode cX8_undo 47 = .ok (.aaload, 1) := by decide +kernel
theorem dX8_undo_48 : decode cX8_undo 48 = .ok (.getfield 107, 3) := by decide +kernel
theorem dX8_undo_51 : decode cX8_undo 51 = .ok (.ireturn, 1) := by decide +kernel
theorem dX8_wipe_0 : decode cX8_wipe 0 = .ok (.iload_n 1, 1) := by decide +kernel
theorem dX8_wipe_1 : decode cX8_wipe 1 = .ok (.iconst 4, 1) := by decide +kernel
theorem dX8_wipe_2 : decode cX8_wipe 2 = .ok (.invokestatic 93, 3) := by decide +kernel
theorem dX8_wipe_5 : decode cX8_wipe 5 = .ok (.ifCond .ne 6, 3) := by decide +kernel
theorem dX8_wipe_8 : decode cX8_wipe 8 = .ok (.bipush (-2), 2) := by decide +kernel
theorem dX8_wipe_10 : decode cX8_wipe 10 = .ok (.ireturn, 1) := by decide +kernel
theorem dX8_wipe_11 : decode cX8_wipe 11 = .ok (.aload_n 0, 1) := by decide +kernel
theorem dX8_wipe_12 : decode cX8_wipe 12 = .ok (.getfield 15, 3) := by decide +kernel
theorem dX8_wipe_15 : decode cX8_wipe 15 = .ok (.iload_n 1, 1) := by decide +kernel
theorem dX8_wipe_16 : decode cX8_wipe 16 = .ok (.aaload, 1) := by decide +kernel
theorem dX8_wipe_17 : decode cX8_wipe 17 = .ok (.getfield 107, 3) := by decide +kernel
theorem dX8_wipe_20 : decode cX8_wipe 20 = .ok (.istore_n 2, 1) := by decide +kernel
theorem dX8_wipe_21 : decode cX8_wipe 21 = .ok (.aload_n 0, 1) := by decide +kernel
theorem dX8_wipe_22 : decode cX8_wipe 22 = .ok (.getfield 15, 3) := by decide +kernel
theorem dX8_wipe_25 : decode cX8_wipe 25 = .ok (.iload_n 1, 1) := by decide +kernel
theorem dX8_wipe_26 : decode cX8_wipe 26 = .ok (.aaload, 1) := by decide +kernel
theorem dX8_wipe_27 : decode cX8_wipe 27 = .ok (.invokevirtual 113, 3) := by decide +kernel
theorem dX8_wipe_30 : decode cX8_wipe 30 = .ok (.aload_n 0, 1) := by decide +kernel
theorem dX8_wipe_31 : decode cX8_wipe 31 = .ok (.getfield 38, 3) := by decide +kernel
theorem dX8_wipe_34 : decode cX8_wipe 34 = .ok (.invokevirtual 104, 3) := by decide +kernel
theorem dX8_wipe_37 : decode cX8_wipe 37 = .ok (.iload_n 2, 1) := by decide +kernel
theorem dX8_wipe_38 : decode cX8_wipe 38 = .ok (.ireturn, 1) := by decide +kernel
theorem dX8_fault_0 : decode cX8_fault 0 = .ok (.iload_n 1, 1) := by decide +kernel
theorem dX8_fault_1 : decode cX8_fault 1 = .ok (.iconst 4, 1) := by decide +kernel
theorem dX8_fault_2 : decode cX8_fault 2 = .ok (.invokestatic 93, 3) := by decide +kernel
theorem dX8_fault_5 : decode cX8_fault 5 = .ok (.ifCond .eq 15, 3) := by decide +kernel
theorem dX8_fault_8 : decode cX8_fault 8 = .ok (.aload_n 0, 1) := by decide +kernel
theorem dX8_fault_9 : decode cX8_fault 9 = .ok (.getfield 15, 3) := by decide +kernel
theorem dX8_fault_12 : decode cX8_fault 12 = .ok (.iload_n 1, 1) := by decide +kernel
theorem dX8_fault_13 : decode cX8_fault 13 = .ok (.aaload, 1) := by decide +kernel
theorem dX8_fault_14 : decode cX8_fault 14 = .ok (.invokevirtual 116, 3) := by decide +kernel
theorem dX8_fault_17 : decode cX8_fault 17 = .ok (.goto 5, 3) := by decide +kernel
theorem dX8_fault_20 : decode cX8_fault 20 = .ok (.bipush (-2), 2) := by decide +kernel
theorem dX8_fault_22 : decode cX8_fault 22 = .ok (.ireturn, 1) := by decide +kernel
theorem dX8_height_0 : decode cX8_height 0 = .ok (.aload_n 0, 1) := by decide +kernel
theorem dX8_height_1 : decode cX8_height 1 = .ok (.iload_n 1, 1) := by decide +kernel
theorem dX8_height_2 : decode cX8_height 2 = .ok (.invokevirtual 120, 3) := by decide +kernel
theorem dX8_height_5 : decode cX8_height 5 = .ok (.ifCond .eq 16, 3) := by decide +kernel
theorem dX8_height_8 : decode cX8_height 8 = .ok (.aload_n 0, 1) := by decide +kernel
theorem dX8_height_9 : decode cX8_height 9 = .ok (.getfield 15, 3) := by decide +kernel
theorem dX8_height_12 : decode cX8_height 12 = .ok (.iconst 3, 1) := by decide +kernel
theorem dX8_height_13 : decode cX8_height 13 = .ok (.aaload, 1) := by decide +kernel
theorem dX8_height_14 : decode cX8_height 14 = .ok (.iload_n 1, 1) := by decide +kernel
theorem dX8_height_15 : decode cX8_height 15 = .ok (.invokevirtual 124, 3) := by decide +kernel
theorem dX8_height_18 : decode cX8_height 18 = .ok (.goto 5, 3) := by decide +kernel
theorem dX8_height_21 : decode cX8_height 21 = .ok (.bipush (-2), 2) := by decide +kernel
theorem dX8_height_23 : decode cX8_height 23 = .ok (.ireturn, 1) := by decide +kernel
theorem dX8_level_0 : decode cX8_level 0 = .ok (.iload_n 1, 1) := by decide +kernel
theorem dX8_level_1 : decode cX8_level 1 = .ok (.iload_n 2, 1) := by decide +kernel
theorem dX8_level_2 : decode cX8_level 2 = .ok (.invokestatic 128, 3) := by decide +kernel
theorem dX8_level_5 : decode cX8_level 5 = .ok (.ifCond .ne 6, 3) := by decide +kernel
theorem dX8_level_8 : decode cX8_level 8 = .ok (.bipush (-2), 2) := by decide +kernel
theorem dX8_level_10 : decode cX8_level 10 = .ok (.ireturn, 1) := by decide +kernel
theorem dX8_level_11 : decode cX8_level 11 = .ok (.aload_n 0, 1) := by decide +kernel
theorem dX8_level_12 : decode cX8_level 12 = .ok (.getfield 38, 3) := by decide +kernel
theorem dX8_level_15 : decode cX8_level 15 = .ok (.invokevirtual 131, 3) := by decide +kernel
theorem dX8_level_18 : decode cX8_level 18 = .ok (.aload_n 0, 1) := by decide +kernel
theorem dX8_level_19 : decode cX8_level 19 = .ok (.getfield 38, 3) := by decide +kernel
theorem dX8_level_22 : decode cX8_level 22 = .ok (.iload_n 1, 1) := by decide +kernel
theorem dX8_level_23 : decode cX8_level 23 = .ok (.iload_n 2, 1) := by decide +kernel
theorem dX8_level_24 : decode cX8_level 24 = .ok (.invokevirtual 134, 3) := by decide +kernel
theorem dX8_level_27 : decode cX8_level 27 = .ok (.ireturn, 1) := by decide +kernel
theorem dX8_set_0 : decode cX8_set 0 = .ok (.iload_n 1, 1) := by decide +kernel
theorem dX8_set_1 : decode cX8_set 1 = .ok (.bipush 7, 2) := by decide +kernel
theorem dX8_set_3 : decode cX8_set 3 = .ok (.invokestatic 93, 3) := by decide +kernel
theorem dX8_set_6 : decode cX8_set 6 = .ok (.ifCond .eq 21, 3) := by decide +kernel
theorem dX8_set_9 : decode cX8_set 9 = .ok (.iload_n 2, 1) := by decide +kernel
theorem dX8_set_10 : decode cX8_set 10 = .ok (.getstatic 138, 3) := by decide +kernel
theorem dX8_set_13 : decode cX8_set 13 = .ok (.iload_n 1, 1) := by decide +kernel
theorem dX8_set_14 : decode cX8_set 14 = .ok (.iaload, 1) := by decide +kernel
theorem dX8_set_15 : decode cX8_set 15 = .ok (.if_icmp .lt 12, 3) := by decide +kernel
theorem dX8_set_18 : decode cX8_set 18 = .ok (.iload_n 2, 1) := by decide +kernel
theorem dX8_set_19 : decode cX8_set 19 = .ok (.getstatic 141, 3) := by decide +kernel
theorem dX8_set_22 : decode cX8_set 22 = .ok (.iload_n 1, 1) := by decide +kernel
theorem dX8_set_23 : decode cX8_set 23 = .ok (.iaload, 1) := by decide +kernel
theorem dX8_set_24 : decode cX8_set 24 = .ok (.if_icmp .le 6, 3) := by decide +kernel
theorem dX8_set_27 : decode cX8_set 27 = .ok (.bipush (-2), 2) := by decide +kernel
theorem dX8_set_29 : decode cX8_set 29 = .ok (.ireturn, 1) := by decide +kernel
theorem dX8_set_30 : decode cX8_set 30 = .ok (.aload_n 0, 1) := by decide +kernel
theorem dX8_set_31 : decode cX8_set 31 = .ok (.getfield 19, 3) := by decide +kernel
theorem dX8_set_34 : decode cX8_set 34 = .ok (.iload_n 1, 1) := by decide +kernel
theorem dX8_set_35 : decode cX8_set 35 = .ok (.iaload, 1) := by decide +kernel
theorem dX8_set_36 : decode cX8_set 36 = .ok (.istore_n 3, 1) := by decide +kernel
theorem dX8_set_37 : decode cX8_set 37 = .ok (.aload_n 0, 1) := by decide +kernel
theorem dX8_set_38 : decode cX8_set 38 = .ok (.getfield 19, 3) := by decide +kernel
theorem dX8_set_41 : decode cX8_set 41 = .ok (.iload_n 1, 1) := by decide +kernel
theorem dX8_set_42 : decode cX8_set 42 = .ok (.iload_n 2, 1) := by decide +kernel
theorem dX8_set_43 : decode cX8_set 43 = .ok (.iastore, 1) := by decide +kernel
theorem dX8_set_44 : decode cX8_set 44 = .ok (.aload_n 0, 1) := by decide +kernel
theorem dX8_set_45 : decode cX8_set 45 = .ok (.getfield 38, 3) := by decide +kernel
theorem dX8_set_48 : decode cX8_set 48 = .ok (.invokevirtual 104, 3) := by decide +kernel
theorem dX8_set_51 : decode cX8_set 51 = .ok (.iload_n 3, 1) := by decide +kernel
theorem dX8_set_52 : decode cX8_set 52 = .ok (.ireturn, 1) := by decide +kernel
theorem dX8_odds_0 : decode cX8_odds 0 = .ok (.iload_n 1, 1) := by decide +kernel
theorem dX8_odds_1 : decode cX8_odds 1 = .ok (.iconst 3, 1) := by decide +kernel
theorem dX8_odds_2 : decode cX8_odds 2 = .ok (.invokestatic 93, 3) := by decide +kernel
theorem dX8_odds_5 : decode cX8_odds 5 = .ok (.ifCond .eq 12, 3) := by decide +kernel
theorem dX8_odds_8 : decode cX8_odds 8 = .ok (.iload_n 2, 1) := by decide +kernel
theorem dX8_odds_9 : decode cX8_odds 9 = .ok (.bipush 100, 2) := by decide +kernel
theorem dX8_odds_11 : decode cX8_odds 11 = .ok (.invokestatic 93, 3) := by decide +kernel
theorem dX8_odds_14 : decode cX8_odds 14 = .ok (.ifCond .ne 6, 3) := by decide +kernel
theorem dX8_odds_17 : decode cX8_odds 17 = .ok (.bipush (-2), 2) := by decide +kernel
theorem dX8_odds_19 : decode cX8_odds 19 = .ok (.ireturn, 1) := by decide +kernel
theorem dX8_odds_20 : decode cX8_odds 20 = .ok (.aload_n 0, 1) := by decide +kernel
theorem dX8_odds_21 : decode cX8_odds 21 = .ok (.getfield 23, 3) := by decide +kernel
theorem dX8_odds_24 : decode cX8_odds 24 = .ok (.iload_n 1, 1) := by decide +kernel
theorem dX8_odds_25 : decode cX8_odds 25 = .ok (.iaload, 1) := by decide +kernel
theorem dX8_odds_26 : decode cX8_odds 26 = .ok (.istore_n 3, 1) := by decide +kernel
theorem dX8_odds_27 : decode cX8_odds 27 = .ok (.aload_n 0, 1) := by decide +kernel
theorem dX8_odds_28 : decode cX8_odds 28 = .ok (.getfield 23, 3) := by decide +kernel
theorem dX8_odds_31 : decode cX8_odds 31 = .ok (.iload_n 1, 1) := by decide +kernel
theorem dX8_odds_32 : decode cX8_odds 32 = .ok (.iload_n 2, 1) := by decide +kernel
theorem dX8_odds_33 : decode cX8_odds 33 = .ok (.iastore, 1) := by decide +kernel
theorem dX8_odds_34 : decode cX8_odds 34 = .ok (.iload_n 3, 1) := by decide +kernel
theorem dX8_odds_35 : decode cX8_odds 35 = .ok (.ireturn, 1) := by decide +kernel
theorem dX8_dike_0 : decode cX8_dike 0 = .ok (.aload_n 0, 1) := by decide +kernel
theorem dX8_dike_1 : decode cX8_dike 1 = .ok (.getfield 29, 3) := by decide +kernel
theorem dX8_dike_4 : decode cX8_dike 4 = .ok (.iload_n 1, 1) := by decide +kernel
theorem dX8_dike_5 : decode cX8_dike 5 = .ok (.iload_n 2, 1) := by decide +kernel
theorem dX8_dike_6 : decode cX8_dike 6 = .ok (.iload_n 3, 1) := by decide +kernel
theorem dX8_dike_7 : decode cX8_dike 7 = .ok (.invokevirtual 144, 3) := by decide +kernel
theorem dX8_dike_10 : decode cX8_dike 10 = .ok (.ifCond .ne 6, 3) := by decide +kernel
theorem dX8_dike_13 : decode cX8_dike 13 = .ok (.bipush (-2), 2) := by decide +kernel
theorem dX8_dike_15 : decode cX8_dike 15 = .ok (.ireturn, 1) := by decide +kernel
theorem dX8_dike_16 : decode cX8_dike 16 = .ok (.aload_n 0, 1) := by decide +kernel
theorem dX8_dike_17 : decode cX8_dike 17 = .ok (.getfield 29, 3) := by decide +kernel
theorem dX8_dike_20 : decode cX8_dike 20 = .ok (.invokevirtual 148, 3) := by decide +kernel
theorem dX8_dike_23 : decode cX8_dike 23 = .ok (.ifCond .eq 6, 3) := by decide +kernel
theorem dX8_dike_26 : decode cX8_dike 26 = .ok (.bipush (-4), 2) := by decide +kernel
theorem dX8_dike_28 : decode cX8_dike 28 = .ok (.ireturn, 1) := by decide +kernel
theorem dX8_dike_29 : decode cX8_dike 29 = .ok (.aload_n 0, 1) := by decide +kernel
theorem dX8_dike_30 : decode cX8_dike 30 = .ok (.getfield 29, 3) := by decide +kernel
theorem dX8_dike_33 : decode cX8_dike 33 = .ok (.iload_n 1, 1) := by decide +kernel
theorem dX8_dike_34 : decode cX8_dike 34 = .ok (.iload_n 2, 1) := by decide +kernel
theorem dX8_dike_35 : decode cX8_dike 35 = .ok (.iload_n 3, 1) := by decide +kernel
theorem dX8_dike_36 : decode cX8_dike 36 = .ok (.invokevirtual 149, 3) := by decide +kernel
theorem dX8_dike_39 : decode cX8_dike 39 = .ok (.aload_n 0, 1) := by decide +kernel
theorem dX8_dike_40 : decode cX8_dike 40 = .ok (.getfield 38, 3) := by decide +kernel
theorem dX8_dike_43 : decode cX8_dike 43 = .ok (.invokevirtual 104, 3) := by decide +kernel
theorem dX8_dike_46 : decode cX8_dike 46 = .ok (.aload_n 0, 1) := by decide +kernel
theorem dX8_dike_47 : decode cX8_dike 47 = .ok (.getfield 29, 3) := by decide +kernel
theorem dX8_dike_50 : decode cX8_dike 50 = .ok (.getfield 153, 3) := by decide +kernel
theorem dX8_dike_53 : decode cX8_dike 53 = .ok (.ireturn, 1) := by decide +kernel
theorem dX8_read_0 : decode cX8_read 0 = .ok (.iload_n 1, 1) := by decide +kernel
theorem dX8_read_1 : decode cX8_read 1 = .ok (.iconst 4, 1) := by decide +kernel
theorem dX8_read_2 : decode cX8_read 2 = .ok (.invokestatic 93, 3) := by decide +kernel
theorem dX8_read_5 : decode cX8_read 5 = .ok (.ifCond .ne 6, 3) := by decide +kernel
theorem dX8_read_8 : decode cX8_read 8 = .ok (.bipush (-2), 2) := by decide +kernel
theorem dX8_read_10 : decode cX8_read 10 = .ok (.ireturn, 1) := by decide +kernel
theorem dX8_read_11 : decode cX8_read 11 = .ok (.aload_n 0, 1) := by decide +kernel
theorem dX8_read_12 : decode cX8_read 12 = .ok (.getfield 78, 3) := by decide +kernel
theorem dX8_read_15 : decode cX8_read 15 = .ok (.iload_n 1, 1) := by decide +kernel
theorem dX8_read_16 : decode cX8_read 16 = .ok (.aaload, 1) := by decide +kernel
theorem dX8_read_17 : decode cX8_read 17 = .ok (.invokevirtual 156, 3) := by decide +kernel
theorem dX8_read_20 : decode cX8_read 20 = .ok (.ifCond .eq 9, 3) := by decide +kernel
theorem dX8_read_23 : decode cX8_read 23 = .ok (.aload_n 0, 1) := by decide +kernel
theorem dX8_read_24 : decode cX8_read 24 = .ok (.iconst 1, 1) := by decide +kernel
theorem dX8_read_25 : decode cX8_read 25 = .ok (.invokevirtual 159, 3) := by decide +kernel
theorem dX8_read_28 : decode cX8_read 28 = .ok (.ireturn, 1) := by decide +kernel
theorem dX8_read_29 : decode cX8_read 29 = .ok (.aload_n 0, 1) := by decide +kernel
theorem dX8_read_30 : decode cX8_read 30 = .ok (.getfield 29, 3) := by decide +kernel
theorem dX8_read_33 : decode cX8_read 33 = .ok (.aload_n 0, 1) := by decide +kernel
theorem dX8_read_34 : decode cX8_read 34 = .ok (.getfield 78, 3) := by decide +kernel
theorem dX8_read_37 : decode cX8_read 37 = .ok (.iload_n 1, 1) := by decide +kernel
theorem dX8_read_38 : decode cX8_read 38 = .ok (.aaload, 1) := by decide +kernel
theorem dX8_read_39 : decode cX8_read 39 = .ok (.invokevirtual 162, 3) := by decide +kernel
theorem dX8_read_42 : decode cX8_read 42 = .ok (.istore_n 2, 1) := by decide +kernel
theorem dX8_read_43 : decode cX8_read 43 = .ok (.aload_n 0, 1) := by decide +kernel
theorem dX8_read_44 : decode cX8_read 44 = .ok (.getfield 38, 3) := by decide +kernel
theorem dX8_read_47 : decode cX8_read 47 = .ok (.invokevirtual 104, 3) := by decide +kernel
theorem dX8_read_50 : decode cX8_read 50 = .ok (.iload_n 2, 1) := by decide +kernel
theorem dX8_read_51 : decode cX8_read 51 = .ok (.ireturn, 1) := by decide +kernel
theorem dX8_breaks_0 : decode cX8_breaks 0 = .ok (.aload_n 0, 1) := by decide +kernel
theorem dX8_breaks_1 : decode cX8_breaks 1 = .ok (.getfield 29, 3) := by decide +kernel
theorem dX8_breaks_4 : decode cX8_breaks 4 = .ok (.getfield 153, 3) := by decide +kernel
theorem dX8_breaks_7 : decode cX8_breaks 7 = .ok (.ifCond .ne 6, 3) := by decide +kernel
theorem dX8_breaks_10 : decode cX8_breaks 10 = .ok (.bipush (-3), 2) := by decide +kernel
theorem dX8_breaks_12 : decode cX8_breaks 12 = .ok (.ireturn, 1) := by decide +kernel
theorem dX8_breaks_13 : decode cX8_breaks 13 = .ok (.aload_n 0, 1) := by decide +kernel
theorem dX8_breaks_14 : decode cX8_breaks 14 = .ok (.getfield 29, 3) := by decide +kernel
theorem dX8_breaks_17 : decode cX8_breaks 17 = .ok (.invokevirtual 166, 3) := by decide +kernel
theorem dX8_breaks_20 : decode cX8_breaks 20 = .ok (.aload_n 0, 1) := by decide +kernel
theorem dX8_breaks_21 : decode cX8_breaks 21 = .ok (.getfield 38, 3) := by decide +kernel
theorem dX8_breaks_24 : decode cX8_breaks 24 = .ok (.invokevirtual 104, 3) := by decide +kernel
theorem dX8_breaks_27 : decode cX8_breaks 27 = .ok (.aload_n 0, 1) := by decide +kernel
theorem dX8_breaks_28 : decode cX8_breaks 28 = .ok (.getfield 29, 3) := by decide +kernel
theorem dX8_breaks_31 : decode cX8_breaks 31 = .ok (.getfield 153, 3) := by decide +kernel
theorem dX8_breaks_34 : decode cX8_breaks 34 = .ok (.ireturn, 1) := by decide +kernel
theorem dX8_possession_0 : decode cX8_possession 0 = .ok (.iload_n 1, 1) := by decide +kernel
theorem dX8_possession_1 : decode cX8_possession 1 = .ok (.iconst 3, 1) := by decide +kernel
theorem dX8_possession_2 : decode cX8_possession 2 = .ok (.invokestatic 93, 3) := by decide +kernel
theorem dX8_possession_5 : decode cX8_possession 5 = .ok (.ifCond .ne 6, 3) := by decide +kernel
theorem dX8_possession_8 : decode cX8_possession 8 = .ok (.bipush (-2), 2) := by decide +kernel
theorem dX8_possession_10 : decode cX8_possession 10 = .ok (.ireturn, 1) := by decide +kernel
theorem dX8_possession_11 : decode cX8_possession 11 = .ok (.aload_n 0, 1) := by decide +kernel
theorem dX8_possession_12 : decode cX8_possession 12 = .ok (.getfield 38, 3) := by decide +kernel
theorem dX8_possession_15 : decode cX8_possession 15 = .ok (.invokevirtual 131, 3) := by decide +kernel
theorem dX8_possession_18 : decode cX8_possession 18 = .ok (.aload_n 0, 1) := by decide +kernel
theorem dX8_possession_19 : decode cX8_possession 19 = .ok (.getfield 38, 3) := by decide +kernel
theorem dX8_possession_22 : decode cX8_possession 22 = .ok (.iload_n 1, 1) := by decide +kernel
theorem dX8_possession_23 : decode cX8_possession 23 = .ok (.invokevirtual 167, 3) := by decide +kernel
theorem dX8_possession_26 : decode cX8_possession 26 = .ok (.ireturn, 1) := by decide +kernel
theorem dX8_wet_0 : decode cX8_wet 0 = .ok (.iload_n 1, 1) := by decide +kernel
theorem dX8_wet_1 : decode cX8_wet 1 = .ok (.iload_n 2, 1) := by decide +kernel
theorem dX8_wet_2 : decode cX8_wet 2 = .ok (.invokestatic 128, 3) := by decide +kernel
theorem dX8_wet_5 : decode cX8_wet 5 = .ok (.ifCond .eq 11, 3) := by decide +kernel
theorem dX8_wet_8 : decode cX8_wet 8 = .ok (.aload_n 0, 1) := by decide +kernel
theorem dX8_wet_9 : decode cX8_wet 9 = .ok (.iload_n 3, 1) := by decide +kernel
theorem dX8_wet_10 : decode cX8_wet 10 = .ok (.invokevirtual 120, 3) := by decide +kernel
theorem dX8_wet_13 : decode cX8_wet 13 = .ok (.ifCond .ne 6, 3) := by decide +kernel
theorem dX8_wet_16 : decode cX8_wet 16 = .ok (.bipush (-2), 2) := by decide +kernel
theorem dX8_wet_18 : decode cX8_wet 18 = .ok (.ireturn, 1) := by decide +kernel
theorem dX8_wet_19 : decode cX8_wet 19 = .ok (.aload_n 0, 1) := by decide +kernel
theorem dX8_wet_20 : decode cX8_wet 20 = .ok (.getfield 38, 3) := by decide +kernel
theorem dX8_wet_23 : decode cX8_wet 23 = .ok (.invokevirtual 131, 3) := by decide +kernel
theorem dX8_wet_26 : decode cX8_wet 26 = .ok (.aload_n 0, 1) := by decide +kernel
theorem dX8_wet_27 : decode cX8_wet 27 = .ok (.getfield 38, 3) := by decide +kernel
theorem dX8_wet_30 : decode cX8_wet 30 = .ok (.iload_n 1, 1) := by decide +kernel
theorem dX8_wet_31 : decode cX8_wet 31 = .ok (.iload_n 2, 1) := by decide +kernel
theorem dX8_wet_32 : decode cX8_wet 32 = .ok (.invokevirtual 170, 3) := by decide +kernel
theorem dX8_wet_35 : decode cX8_wet 35 = .ok (.iload_n 3, 1) := by decide +kernel
theorem dX8_wet_36 : decode cX8_wet 36 = .ok (.ishr, 1) := by decide +kernel
theorem dX8_wet_37 : decode cX8_wet 37 = .ok (.iconst 1, 1) := by decide +kernel
theorem dX8_wet_38 : decode cX8_wet 38 = .ok (.iand, 1) := by decide +kernel
theorem dX8_wet_39 : decode cX8_wet 39 = .ok (.ireturn, 1) := by decide +kernel
theorem dX8_water_0 : decode cX8_water 0 = .ok (.iload_n 1, 1) := by decide +kernel
theorem dX8_water_1 : decode cX8_water 1 = .ok (.iload_n 2, 1) := by decide +kernel
theorem dX8_water_2 : decode cX8_water 2 = .ok (.invokestatic 128, 3) := by decide +kernel
theorem dX8_water_5 : decode cX8_water 5 = .ok (.ifCond .eq 11, 3) := by decide +kernel
theorem dX8_water_8 : decode cX8_water 8 = .ok (.iload_n 3, 1) := by decide +kernel
theorem dX8_water_9 : decode cX8_water 9 = .ok (.iconst 2, 1) := by decide +kernel
theorem dX8_water_10 : decode cX8_water 10 = .ok (.invokestatic 93, 3) := by decide +kernel
theorem dX8_water_13 : decode cX8_water 13 = .ok (.ifCond .ne 6, 3) := by decide +kernel
theorem dX8_water_16 : decode cX8_water 16 = .ok (.bipush (-2), 2) := by decide +kernel
theorem dX8_water_18 : decode cX8_water 18 = .ok (.ireturn, 1) := by decide +kernel
theorem dX8_water_19 : decode cX8_water 19 = .ok (.aload_n 0, 1) := by decide +kernel
theorem dX8_water_20 : decode cX8_water 20 = .ok (.getfield 38, 3) := by decide +kernel
theorem dX8_water_23 : decode cX8_water 23 = .ok (.invokevirtual 131, 3) := by decide +kernel
theorem dX8_water_26 : decode cX8_water 26 = .ok (.aload_n 0, 1) := by decide +kernel
theorem dX8_water_27 : decode cX8_water 27 = .ok (.getfield 38, 3) := by decide +kernel
theorem dX8_water_30 : decode cX8_water 30 = .ok (.iload_n 1, 1) := by decide +kernel
theorem dX8_water_31 : decode cX8_water 31 = .ok (.iload_n 2, 1) := by decide +kernel
theorem dX8_water_32 : decode cX8_water 32 = .ok (.invokevirtual 170, 3) := by decide +kernel
theorem dX8_water_35 : decode cX8_water 35 = .ok (.istore 4, 2) := by decide +kernel
theorem dX8_water_37 : decode cX8_water 37 = .ok (.iload_n 3, 1) := by decide +kernel
theorem dX8_water_38 : decode cX8_water 38 = .ok (.ifCond .ne 8, 3) := by decide +kernel
theorem dX8_water_41 : decode cX8_water 41 = .ok (.iload 4, 2) := by decide +kernel
theorem dX8_water_43 : decode cX8_water 43 = .ok (.goto 8, 3) := by decide +kernel
theorem dX8_water_46 : decode cX8_water 46 = .ok (.iload 4, 2) := by decide +kernel
theorem dX8_water_48 : decode cX8_water 48 = .ok (.invokestatic 173, 3) := by decide +kernel
theorem dX8_water_51 : decode cX8_water 51 = .ok (.ireturn, 1) := by decide +kernel
theorem dX8_cost_0 : decode cX8_cost 0 = .ok (.iload_n 1, 1) := by decide +kernel
theorem dX8_cost_1 : decode cX8_cost 1 = .ok (.iload_n 2, 1) := by decide +kernel
theorem dX8_cost_2 : decode cX8_cost 2 = .ok (.invokestatic 128, 3) := by decide +kernel
theorem dX8_cost_5 : decode cX8_cost 5 = .ok (.ifCond .eq 29, 3) := by decide +kernel
theorem dX8_cost_8 : decode cX8_cost 8 = .ok (.aload_n 0, 1) := by decide +kernel
theorem dX8_cost_9 : decode cX8_cost 9 = .ok (.iload_n 3, 1) := by decide +kernel
theorem dX8_cost_10 : decode cX8_cost 10 = .ok (.invokevirtual 120, 3) := by decide +kernel
theorem dX8_cost_13 : decode cX8_cost 13 = .ok (.ifCond .eq 21, 3) := by decide +kernel
theorem dX8_cost_16 : decode cX8_cost 16 = .ok (.aload_n 0, 1) := by decide +kernel
theorem dX8_cost_17 : decode cX8_cost 17 = .ok (.iload 4, 2) := by decide +kernel
theorem dX8_cost_19 : decode cX8_cost 19 = .ok (.invokevirtual 120, 3) := by decide +kernel
theorem dX8_cost_22 : decode cX8_cost 22 = .ok (.ifCond .eq 12, 3) := by decide +kernel
theorem dX8_cost_25 : decode cX8_cost 25 = .ok (.iload 5, 2) := by decide +kernel
theorem dX8_cost_27 : decode cX8_cost 27 = .ok (.iconst 3, 1) := by decide +kernel
theorem dX8_cost_28 : decode cX8_cost 28 = .ok (.invokestatic 93, 3) := by decide +kernel
theorem dX8_cost_31 : decode cX8_cost 31 = .ok (.ifCond .ne 6, 3) := by decide +kernel
theorem dX8_cost_34 : decode cX8_cost 34 = .ok (.bipush (-2), 2) := by decide +kernel
theorem dX8_cost_36 : decode cX8_cost 36 = .ok (.ireturn, 1) := by decide +kernel
theorem dX8_cost_37 : decode cX8_cost 37 = .ok (.aload_n 0, 1) := by decide +kernel
theorem dX8_cost_38 : decode cX8_cost 38 = .ok (.getfield 38, 3) := by decide +kernel
theorem dX8_cost_41 : decode cX8_cost 41 = .ok (.invokevirtual 131, 3) := by decide +kernel
theorem dX8_cost_44 : decode cX8_cost 44 = .ok (.iload_n 3, 1) := by decide +kernel
theorem dX8_cost_45 : decode cX8_cost 45 = .ok (.iload 4, 2) := by decide +kernel
theorem dX8_cost_47 : decode cX8_cost 47 = .ok (.invokestatic 176, 3) := by decide +kernel
theorem dX8_cost_50 : decode cX8_cost 50 = .ok (.istore 6, 2) := by decide +kernel
theorem dX8_cost_52 : decode cX8_cost 52 = .ok (.iload_n 3, 1) := by decide +kernel
theorem dX8_cost_53 : decode cX8_cost 53 = .ok (.iload 4, 2) := by decide +kernel
theorem dX8_cost_55 : decode cX8_cost 55 = .ok (.invokestatic 181, 3) := by decide +kernel
theorem dX8_cost_58 : decode cX8_cost 58 = .ok (.istore 7, 2) := by decide +kernel
theorem dX8_cost_60 : decode cX8_cost 60 = .ok (.aload_n 0, 1) := by decide +kernel
theorem dX8_cost_61 : decode cX8_cost 61 = .ok (.getfield 38, 3) := by decide +kernel
theorem dX8_cost_64 : decode cX8_cost 64 = .ok (.iload_n 1, 1) := by decide +kernel
theorem dX8_cost_65 : decode cX8_cost 65 = .ok (.iload_n 2, 1) := by decide +kernel
theorem dX8_cost_66 : decode cX8_cost 66 = .ok (.invokevirtual 170, 3) := by decide +kernel
theorem dX8_cost_69 : decode cX8_cost 69 = .ok (.iload 6, 2) := by decide +kernel
theorem dX8_cost_71 : decode cX8_cost 71 = .ok (.iload 7, 2) := by decide +kernel
theorem dX8_cost_73 : decode cX8_cost 73 = .ok (.aload_n 0, 1) := by decide +kernel
theorem dX8_cost_74 : decode cX8_cost 74 = .ok (.getfield 19, 3) := by decide +kernel
theorem dX8_cost_77 : decode cX8_cost 77 = .ok (.iconst 2, 1) := by decide +kernel
theorem dX8_cost_78 : decode cX8_cost 78 = .ok (.iaload, 1) := by decide +kernel
theorem dX8_cost_79 : decode cX8_cost 79 = .ok (.invokestatic 184, 3) := by decide +kernel
theorem dX8_cost_82 : decode cX8_cost 82 = .ok (.istore 8, 2) := by decide +kernel
theorem dX8_cost_84 : decode cX8_cost 84 = .ok (.iload 6, 2) := by decide +kernel
theorem dX8_cost_86 : decode cX8_cost 86 = .ok (.iload 7, 2) := by decide +kernel
theorem dX8_cost_88 : decode cX8_cost 88 = .ok (.aload_n 0, 1) := by decide +kernel
theorem dX8_cost_89 : decode cX8_cost 89 = .ok (.getfield 19, 3) := by decide +kernel
theorem dX8_cost_92 : decode cX8_cost 92 = .ok (.iconst 3, 1) := by decide +kernel
theorem dX8_cost_93 : decode cX8_cost 93 = .ok (.iaload, 1) := by decide +kernel
theorem dX8_cost_94 : decode cX8_cost 94 = .ok (.invokestatic 188, 3) := by decide +kernel
theorem dX8_cost_97 : decode cX8_cost 97 = .ok (.istore 9, 2) := by decide +kernel
theorem dX8_cost_99 : decode cX8_cost 99 = .ok (.iload 5, 2) := by decide +kernel
theorem dX8_cost_101 : decode cX8_cost 101 = .ok (.ifCond .ne 11, 3) := by decide +kernel
theorem dX8_cost_104 : decode cX8_cost 104 = .ok (.iload 8, 2) := by decide +kernel
theorem dX8_cost_106 : decode cX8_cost 106 = .ok (.iload 9, 2) := by decide +kernel
theorem dX8_cost_108 : decode cX8_cost 108 = .ok (.invokestatic 176, 3) := by decide +kernel
theorem dX8_cost_111 : decode cX8_cost 111 = .ok (.ireturn, 1) := by decide +kernel
theorem dX8_cost_112 : decode cX8_cost 112 = .ok (.iload 5, 2) := by decide +kernel
theorem dX8_cost_114 : decode cX8_cost 114 = .ok (.iconst 1, 1) := by decide +kernel
theorem dX8_cost_115 : decode cX8_cost 115 = .ok (.if_icmp .ne 8, 3) := by decide +kernel
theorem dX8_cost_118 : decode cX8_cost 118 = .ok (.iload 8, 2) := by decide +kernel
theorem dX8_cost_120 : decode cX8_cost 120 = .ok (.goto 5, 3) := by decide +kernel
theorem dX8_cost_123 : decode cX8_cost 123 = .ok (.iload 9, 2) := by decide +kernel
theorem dX8_cost_125 : decode cX8_cost 125 = .ok (.ireturn, 1) := by decide +kernel
theorem dX8_closed_0 : decode cX8_closed 0 = .ok (.iload_n 1, 1) := by decide +kernel
theorem dX8_closed_1 : decode cX8_closed 1 = .ok (.iconst 3, 1) := by decide +kernel
theorem dX8_closed_2 : decode cX8_closed 2 = .ok (.invokestatic 93, 3) := by decide +kernel
theorem dX8_closed_5 : decode cX8_closed 5 = .ok (.ifCond .eq 11, 3) := by decide +kernel
theorem dX8_closed_8 : decode cX8_closed 8 = .ok (.aload_n 0, 1) := by decide +kernel
theorem dX8_closed_9 : decode cX8_closed 9 = .ok (.iload_n 2, 1) := by decide +kernel
theorem dX8_closed_10 : decode cX8_closed 10 = .ok (.invokevirtual 120, 3) := by decide +kernel
theorem dX8_closed_13 : decode cX8_closed 13 = .ok (.ifCond .ne 6, 3) := by decide +kernel
theorem dX8_closed_16 : decode cX8_closed 16 = .ok (.bipush (-2), 2) := by decide +kernel
theorem dX8_closed_18 : decode cX8_closed 18 = .ok (.ireturn, 1) := by decide +kernel
theorem dX8_closed_19 : decode cX8_closed 19 = .ok (.aload_n 0, 1) := by decide +kernel
theorem dX8_closed_20 : decode cX8_closed 20 = .ok (.getfield 38, 3) := by decide +kernel
theorem dX8_closed_23 : decode cX8_closed 23 = .ok (.invokevirtual 131, 3) := by decide +kernel
theorem dX8_closed_26 : decode cX8_closed 26 = .ok (.aload_n 0, 1) := by decide +kernel
theorem dX8_closed_27 : decode cX8_closed 27 = .ok (.getfield 38, 3) := by decide +kernel
theorem dX8_closed_30 : decode cX8_closed 30 = .ok (.iload_n 1, 1) := by decide +kernel
theorem dX8_closed_31 : decode cX8_closed 31 = .ok (.iload_n 2, 1) := by decide +kernel
theorem dX8_closed_32 : decode cX8_closed 32 = .ok (.invokevirtual 192, 3) := by decide +kernel
theorem dX8_closed_35 : decode cX8_closed 35 = .ok (.ireturn, 1) := by decide +kernel
theorem dX8_deed_0 : decode cX8_deed 0 = .ok (.iload_n 1, 1) := by decide +kernel
theorem dX8_deed_1 : decode cX8_deed 1 = .ok (.iconst 3, 1) := by decide +kernel
theorem dX8_deed_2 : decode cX8_deed 2 = .ok (.invokestatic 93, 3) := by decide +kernel
theorem dX8_deed_5 : decode cX8_deed 5 = .ok (.ifCond .eq 11, 3) := by decide +kernel
theorem dX8_deed_8 : decode cX8_deed 8 = .ok (.iload_n 2, 1) := by decide +kernel
theorem dX8_deed_9 : decode cX8_deed 9 = .ok (.iconst 3, 1) := by decide +kernel
theorem dX8_deed_10 : decode cX8_deed 10 = .ok (.invokestatic 93, 3) := by decide +kernel
theorem dX8_deed_13 : decode cX8_deed 13 = .ok (.ifCond .ne 6, 3) := by decide +kernel
theorem dX8_deed_16 : decode cX8_deed 16 = .ok (.ldc 195, 2) := by decide +kernel
theorem dX8_deed_18 : decode cX8_deed 18 = .ok (.ireturn, 1) := by decide +kernel
theorem dX8_deed_19 : decode cX8_deed 19 = .ok (.aload_n 0, 1) := by decide +kernel
theorem dX8_deed_20 : decode cX8_deed 20 = .ok (.getfield 38, 3) := by decide +kernel
theorem dX8_deed_23 : decode cX8_deed 23 = .ok (.invokevirtual 131, 3) := by decide +kernel
theorem dX8_deed_26 : decode cX8_deed 26 = .ok (.iconst 0, 1) := by decide +kernel
theorem dX8_deed_27 : decode cX8_deed 27 = .ok (.istore_n 3, 1) := by decide +kernel
theorem dX8_deed_28 : decode cX8_deed 28 = .ok (.iconst 0, 1) := by decide +kernel
theorem dX8_deed_29 : decode cX8_deed 29 = .ok (.istore 4, 2) := by decide +kernel
theorem dX8_deed_31 : decode cX8_deed 31 = .ok (.iconst 0, 1) := by decide +kernel
theorem dX8_deed_32 : decode cX8_deed 32 = .ok (.istore 5, 2) := by decide +kernel
theorem dX8_deed_34 : decode cX8_deed 34 = .ok (.iload 5, 2) := by decide +kernel
theorem dX8_deed_36 : decode cX8_deed 36 = .ok (.bipush 30, 2) := by decide +kernel
theorem dX8_deed_38 : decode cX8_deed 38 = .ok (.if_icmp .ge 44, 3) := by decide +kernel
theorem dX8_deed_41 : decode cX8_deed 41 = .ok (.aload_n 0, 1) := by decide +kernel
theorem dX8_deed_42 : decode cX8_deed 42 = .ok (.getfield 38, 3) := by decide +kernel
theorem dX8_deed_45 : decode cX8_deed 45 = .ok (.iload_n 1, 1) := by decide +kernel
theorem dX8_deed_46 : decode cX8_deed 46 = .ok (.iload 5, 2) := by decide +kernel
theorem dX8_deed_48 : decode cX8_deed 48 = .ok (.invokevirtual 170, 3) := by decide +kernel
theorem dX8_deed_51 : decode cX8_deed 51 = .ok (.istore 6, 2) := by decide +kernel
theorem dX8_deed_53 : decode cX8_deed 53 = .ok (.iload_n 3, 1) := by decide +kernel
theorem dX8_deed_54 : decode cX8_deed 54 = .ok (.iload 6, 2) := by decide +kernel
theorem dX8_deed_56 : decode cX8_deed 56 = .ok (.invokestatic 196, 3) := by decide +kernel
theorem dX8_deed_59 : decode cX8_deed 59 = .ok (.iadd, 1) := by decide +kernel
theorem dX8_deed_60 : decode cX8_deed 60 = .ok (.istore_n 3, 1) := by decide +kernel
theorem dX8_deed_61 : decode cX8_deed 61 = .ok (.iload 4, 2) := by decide +kernel
theorem dX8_deed_63 : decode cX8_deed 63 = .ok (.iload 6, 2) := by decide +kernel
theorem dX8_deed_65 : decode cX8_deed 65 = .ok (.ifCond .ne 7, 3) := by decide +kernel
theorem dX8_deed_68 : decode cX8_deed 68 = .ok (.iconst 0, 1) := by decide +kernel
theorem dX8_deed_69 : decode cX8_deed 69 = .ok (.goto 4, 3) := by decide +kernel
theorem dX8_deed_72 : decode cX8_deed 72 = .ok (.iconst 1, 1) := by decide +kernel
theorem dX8_deed_73 : decode cX8_deed 73 = .ok (.iadd, 1) := by decide +kernel
theorem dX8_deed_74 : decode cX8_deed 74 = .ok (.istore 4, 2) := by decide +kernel
theorem dX8_deed_76 : decode cX8_deed 76 = .ok (.iinc 5 1, 3) := by decide +kernel
theorem dX8_deed_79 : decode cX8_deed 79 = .ok (.goto (-45), 3) := by decide +kernel
theorem dX8_deed_82 : decode cX8_deed 82 = .ok (.iload_n 2, 1) := by decide +kernel
theorem dX8_deed_83 : decode cX8_deed 83 = .ok (.ifCond .ne 5, 3) := by decide +kernel
theorem dX8_deed_86 : decode cX8_deed 86 = .ok (.iload_n 3, 1) := by decide +kernel
theorem dX8_deed_87 : decode cX8_deed 87 = .ok (.ireturn, 1) := by decide +kernel
theorem dX8_deed_88 : decode cX8_deed 88 = .ok (.iload_n 2, 1) := by decide +kernel
theorem dX8_deed_89 : decode cX8_deed 89 = .ok (.iconst 1, 1) := by decide +kernel
theorem dX8_deed_90 : decode cX8_deed 90 = .ok (.if_icmp .ne 8, 3) := by decide +kernel
theorem dX8_deed_93 : decode cX8_deed 93 = .ok (.iload 4, 2) := by decide +kernel
theorem dX8_deed_95 : decode cX8_deed 95 = .ok (.goto 21, 3) := by decide +kernel
theorem dX8_deed_98 : decode cX8_deed 98 = .ok (.aload_n 0, 1) := by decide +kernel
theorem dX8_deed_99 : decode cX8_deed 99 = .ok (.getfield 19, 3) := by decide +kernel
theorem dX8_deed_102 : decode cX8_deed 102 = .ok (.iconst 4, 1) := by decide +kernel
theorem dX8_deed_103 : decode cX8_deed 103 = .ok (.iaload, 1) := by decide +kernel
theorem dX8_deed_104 : decode cX8_deed 104 = .ok (.iload_n 3, 1) := by decide +kernel
theorem dX8_deed_105 : decode cX8_deed 105 = .ok (.imul, 1) := by decide +kernel
theorem dX8_deed_106 : decode cX8_deed 106 = .ok (.aload_n 0, 1) := by decide +kernel
theorem dX8_deed_107 : decode cX8_deed 107 = .ok (.getfield 19, 3) := by decide +kernel
theorem dX8_deed_110 : decode cX8_deed 110 = .ok (.iconst 5, 1) := by decide +kernel
theorem dX8_deed_111 : decode cX8_deed 111 = .ok (.iaload, 1) := by decide +kernel
theorem dX8_deed_112 : decode cX8_deed 112 = .ok (.iload 4, 2) := by decide +kernel
theorem dX8_deed_114 : decode cX8_deed 114 = .ok (.imul, 1) := by decide +kernel
theorem dX8_deed_115 : decode cX8_deed 115 = .ok (.isub, 1) := by decide +kernel
theorem dX8_deed_116 : decode cX8_deed 116 = .ok (.ireturn, 1) := by decide +kernel
theorem dX8_waits_0 : decode cX8_waits 0 = .ok (.iload_n 1, 1) := by decide +kernel
theorem dX8_waits_1 : decode cX8_waits 1 = .ok (.iload_n 2, 1) := by decide +kernel
theorem dX8_waits_2 : decode cX8_waits 2 = .ok (.invokestatic 128, 3) := by decide +kernel
theorem dX8_waits_5 : decode cX8_waits 5 = .ok (.ifCond .eq 29, 3) := by decide +kernel
theorem dX8_waits_8 : decode cX8_waits 8 = .ok (.aload_n 0, 1) := by decide +kernel
theorem dX8_waits_9 : decode cX8_waits 9 = .ok (.iload_n 3, 1) := by decide +kernel
theorem dX8_waits_10 : decode cX8_waits 10 = .ok (.invokevirtual 120, 3) := by decide +kernel
theorem dX8_waits_13 : decode cX8_waits 13 = .ok (.ifCond .eq 21, 3) := by decide +kernel
theorem dX8_waits_16 : decode cX8_waits 16 = .ok (.aload_n 0, 1) := by decide +kernel
theorem dX8_waits_17 : decode cX8_waits 17 = .ok (.iload 4, 2) := by decide +kernel
theorem dX8_waits_19 : decode cX8_waits 19 = .ok (.invokevirtual 120, 3) := by decide +kernel
theorem dX8_waits_22 : decode cX8_waits 22 = .ok (.ifCond .eq 12, 3) := by decide +kernel
theorem dX8_waits_25 : decode cX8_waits 25 = .ok (.iload 5, 2) := by decide +kernel
theorem dX8_waits_27 : decode cX8_waits 27 = .ok (.iconst 2, 1) := by decide +kernel
theorem dX8_waits_28 : decode cX8_waits 28 = .ok (.invokestatic 93, 3) := by decide +kernel
theorem dX8_waits_31 : decode cX8_waits 31 = .ok (.ifCond .ne 7, 3) := by decide +kernel
theorem dX8_waits_34 : decode cX8_waits 34 = .ok (.ldc2_w 199, 3) := by decide +kernel
theorem dX8_waits_37 : decode cX8_waits 37 = .ok (.lreturn, 1) := by decide +kernel
theorem dX8_waits_38 : decode cX8_waits 38 = .ok (.aload_n 0, 1) := by decide +kernel
theorem dX8_waits_39 : decode cX8_waits 39 = .ok (.getfield 38, 3) := by decide +kernel
theorem dX8_waits_42 : decode cX8_waits 42 = .ok (.invokevirtual 131, 3) := by decide +kernel
theorem dX8_waits_45 : decode cX8_waits 45 = .ok (.aload_n 0, 1) := by decide +kernel
theorem dX8_waits_46 : decode cX8_waits 46 = .ok (.getfield 47, 3) := by decide +kernel
theorem dX8_waits_49 : decode cX8_waits 49 = .ok (.iload_n 2, 1) := by decide +kernel
theorem dX8_waits_50 : decode cX8_waits 50 = .ok (.iload_n 3, 1) := by decide +kernel
theorem dX8_waits_51 : decode cX8_waits 51 = .ok (.iload 4, 2) := by decide +kernel
theorem dX8_waits_53 : decode cX8_waits 53 = .ok (.invokestatic 176, 3) := by decide +kernel
theorem dX8_waits_56 : decode cX8_waits 56 = .ok (.iload_n 3, 1) := by decide +kernel
theorem dX8_waits_57 : decode cX8_waits 57 = .ok (.iload 4, 2) := by decide +kernel
theorem dX8_waits_59 : decode cX8_waits 59 = .ok (.invokestatic 181, 3) := by decide +kernel
theorem dX8_waits_62 : decode cX8_waits 62 = .ok (.invokevirtual 201, 3) := by decide +kernel
theorem dX8_waits_65 : decode cX8_waits 65 = .ok (.aload_n 0, 1) := by decide +kernel
theorem dX8_waits_66 : decode cX8_waits 66 = .ok (.getfield 47, 3) := by decide +kernel
theorem dX8_waits_69 : decode cX8_waits 69 = .ok (.iload_n 1, 1) := by decide +kernel
theorem dX8_waits_70 : decode cX8_waits 70 = .ok (.iload_n 2, 1) := by decide +kernel
theorem dX8_waits_71 : decode cX8_waits 71 = .ok (.invokevirtual 204, 3) := by decide +kernel
theorem dX8_waits_74 : decode cX8_waits 74 = .ok (.istore 6, 2) := by decide +kernel
theorem dX8_waits_76 : decode cX8_waits 76 = .ok (.iload 6, 2) := by decide +kernel
theorem dX8_waits_78 : decode cX8_waits 78 = .ok (.ifCond .ne 7, 3) := by decide +kernel
theorem dX8_waits_81 : decode cX8_waits 81 = .ok (.ldc2_w 207, 3) := by decide +kernel
theorem dX8_waits_84 : decode cX8_waits 84 = .ok (.lreturn, 1) := by decide +kernel
theorem dX8_waits_85 : decode cX8_waits 85 = .ok (.aload_n 0, 1) := by decide +kernel
theorem dX8_waits_86 : decode cX8_waits 86 = .ok (.getfield 47, 3) := by decide +kernel
theorem dX8_waits_89 : decode cX8_waits 89 = .ok (.iload_n 1, 1) := by decide +kernel
theorem dX8_waits_90 : decode cX8_waits 90 = .ok (.invokevirtual 209, 3) := by decide +kernel
theorem dX8_waits_93 : decode cX8_waits 93 = .ok (.iload 6, 2) := by decide +kernel
theorem dX8_waits_95 : decode cX8_waits 95 = .ok (.iload 5, 2) := by decide +kernel
theorem dX8_waits_97 : decode cX8_waits 97 = .ok (.invokestatic 212, 3) := by decide +kernel
theorem dX8_waits_100 : decode cX8_waits 100 = .ok (.lreturn, 1) := by decide +kernel
theorem dX8_goes_0 : decode cX8_goes 0 = .ok (.iload_n 1, 1) := by decide +kernel
theorem dX8_goes_1 : decode cX8_goes 1 = .ok (.iload_n 2, 1) := by decide +kernel
theorem dX8_goes_2 : decode cX8_goes 2 = .ok (.invokestatic 128, 3) := by decide +kernel
theorem dX8_goes_5 : decode cX8_goes 5 = .ok (.ifCond .eq 20, 3) := by decide +kernel
theorem dX8_goes_8 : decode cX8_goes 8 = .ok (.aload_n 0, 1) := by decide +kernel
theorem dX8_goes_9 : decode cX8_goes 9 = .ok (.iload_n 3, 1) := by decide +kernel
theorem dX8_goes_10 : decode cX8_goes 10 = .ok (.invokevirtual 120, 3) := by decide +kernel
theorem dX8_goes_13 : decode cX8_goes 13 = .ok (.ifCond .eq 12, 3) := by decide +kernel
theorem dX8_goes_16 : decode cX8_goes 16 = .ok (.aload_n 0, 1) := by decide +kernel
theorem dX8_goes_17 : decode cX8_goes 17 = .ok (.iload 4, 2) := by decide +kernel
theorem dX8_goes_19 : decode cX8_goes 19 = .ok (.invokevirtual 120, 3) := by decide +kernel
theorem dX8_goes_22 : decode cX8_goes 22 = .ok (.ifCond .ne 6, 3) := by decide +kernel
theorem dX8_goes_25 : decode cX8_goes 25 = .ok (.bipush (-2), 2) := by decide +kernel
theorem dX8_goes_27 : decode cX8_goes 27 = .ok (.ireturn, 1) := by decide +kernel
theorem dX8_goes_28 : decode cX8_goes 28 = .ok (.aload_n 0, 1) := by decide +kernel
theorem dX8_goes_29 : decode cX8_goes 29 = .ok (.getfield 38, 3) := by decide +kernel
theorem dX8_goes_32 : decode cX8_goes 32 = .ok (.invokevirtual 131, 3) := by decide +kernel
theorem dX8_goes_35 : decode cX8_goes 35 = .ok (.aload_n 0, 1) := by decide +kernel
theorem dX8_goes_36 : decode cX8_goes 36 = .ok (.getfield 47, 3) := by decide +kernel
theorem dX8_goes_39 : decode cX8_goes 39 = .ok (.iload_n 2, 1) := by decide +kernel
theorem dX8_goes_40 : decode cX8_goes 40 = .ok (.iload_n 3, 1) := by decide +kernel
theorem dX8_goes_41 : decode cX8_goes 41 = .ok (.iload 4, 2) := by decide +kernel
theorem dX8_goes_43 : decode cX8_goes 43 = .ok (.invokestatic 176, 3) := by decide +kernel
theorem dX8_goes_46 : decode cX8_goes 46 = .ok (.iload_n 3, 1) := by decide +kernel
theorem dX8_goes_47 : decode cX8_goes 47 = .ok (.iload 4, 2) := by decide +kernel
theorem dX8_goes_49 : decode cX8_goes 49 = .ok (.invokestatic 181, 3) := by decide +kernel
theorem dX8_goes_52 : decode cX8_goes 52 = .ok (.invokevirtual 201, 3) := by decide +kernel
theorem dX8_goes_55 : decode cX8_goes 55 = .ok (.aload_n 0, 1) := by decide +kernel
theorem dX8_goes_56 : decode cX8_goes 56 = .ok (.getfield 47, 3) := by decide +kernel
theorem dX8_goes_59 : decode cX8_goes 59 = .ok (.iload_n 1, 1) := by decide +kernel
theorem dX8_goes_60 : decode cX8_goes 60 = .ok (.iload_n 2, 1) := by decide +kernel
theorem dX8_goes_61 : decode cX8_goes 61 = .ok (.invokevirtual 204, 3) := by decide +kernel
theorem dX8_goes_64 : decode cX8_goes 64 = .ok (.ifCond .ne 6, 3) := by decide +kernel
theorem dX8_goes_67 : decode cX8_goes 67 = .ok (.bipush (-3), 2) := by decide +kernel
theorem dX8_goes_69 : decode cX8_goes 69 = .ok (.ireturn, 1) := by decide +kernel
theorem dX8_goes_70 : decode cX8_goes 70 = .ok (.aload_n 0, 1) := by decide +kernel
theorem dX8_goes_71 : decode cX8_goes 71 = .ok (.getfield 47, 3) := by decide +kernel
theorem dX8_goes_74 : decode cX8_goes 74 = .ok (.iload_n 1, 1) := by decide +kernel
theorem dX8_goes_75 : decode cX8_goes 75 = .ok (.invokevirtual 216, 3) := by decide +kernel
theorem dX8_goes_78 : decode cX8_goes 78 = .ok (.ifCond .eq 7, 3) := by decide +kernel
theorem dX8_goes_81 : decode cX8_goes 81 = .ok (.iconst 1, 1) := by decide +kernel
theorem dX8_goes_82 : decode cX8_goes 82 = .ok (.goto 4, 3) := by decide +kernel
theorem dX8_goes_85 : decode cX8_goes 85 = .ok (.iconst 0, 1) := by decide +kernel
theorem dX8_goes_86 : decode cX8_goes 86 = .ok (.ireturn, 1) := by decide +kernel
theorem dX8_keep_0 : decode cX8_keep 0 = .ok (.iload_n 1, 1) := by decide +kernel
theorem dX8_keep_1 : decode cX8_keep 1 = .ok (.iload_n 2, 1) := by decide +kernel
theorem dX8_keep_2 : decode cX8_keep 2 = .ok (.invokestatic 128, 3) := by decide +kernel
theorem dX8_keep_5 : decode cX8_keep 5 = .ok (.ifCond .eq 42, 3) := by decide +kernel
theorem dX8_keep_8 : decode cX8_keep 8 = .ok (.aload_n 0, 1) := by decide +kernel
theorem dX8_keep_9 : decode cX8_keep 9 = .ok (.iload_n 3, 1) := by decide +kernel
theorem dX8_keep_10 : decode cX8_keep 10 = .ok (.invokevirtual 120, 3) := by decide +kernel
theorem dX8_keep_13 : decode cX8_keep 13 = .ok (.ifCond .eq 34, 3) := by decide +kernel
theorem dX8_keep_16 : decode cX8_keep 16 = .ok (.aload_n 0, 1) := by decide +kernel
theorem dX8_keep_17 : decode cX8_keep 17 = .ok (.iload 4, 2) := by decide +kernel
theorem dX8_keep_19 : decode cX8_keep 19 = .ok (.invokevirtual 120, 3) := by decide +kernel
theorem dX8_keep_22 : decode cX8_keep 22 = .ok (.ifCond .eq 25, 3) := by decide +kernel
theorem dX8_keep_25 : decode cX8_keep 25 = .ok (.iload 5, 2) := by decide +kernel
theorem dX8_keep_27 : decode cX8_keep 27 = .ok (.iconst 1, 1) := by decide +kernel
theorem dX8_keep_28 : decode cX8_keep 28 = .ok (.if_icmp .lt 19, 3) := by decide +kernel
theorem dX8_keep_31 : decode cX8_keep 31 = .ok (.iload 5, 2) := by decide +kernel
theorem dX8_keep_33 : decode cX8_keep 33 = .ok (.bipush 12, 2) := by decide +kernel
theorem dX8_keep_35 : decode cX8_keep 35 = .ok (.if_icmp .gt 12, 3) := by decide +kernel
theorem dX8_keep_38 : decode cX8_keep 38 = .ok (.iload 6, 2) := by decide +kernel
theorem dX8_keep_40 : decode cX8_keep 40 = .ok (.iconst 3, 1) := by decide +kernel
theorem dX8_keep_41 : decode cX8_keep 41 = .ok (.invokestatic 93, 3) := by decide +kernel
theorem dX8_keep_44 : decode cX8_keep 44 = .ok (.ifCond .ne 6, 3) := by decide +kernel
theorem dX8_keep_47 : decode cX8_keep 47 = .ok (.bipush (-2), 2) := by decide +kernel
theorem dX8_keep_49 : decode cX8_keep 49 = .ok (.ireturn, 1) := by decide +kernel
theorem dX8_keep_50 : decode cX8_keep 50 = .ok (.aload_n 0, 1) := by decide +kernel
theorem dX8_keep_51 : decode cX8_keep 51 = .ok (.getfield 38, 3) := by decide +kernel
theorem dX8_keep_54 : decode cX8_keep 54 = .ok (.invokevirtual 131, 3) := by decide +kernel
theorem dX8_keep_57 : decode cX8_keep 57 = .ok (.aload_n 0, 1) := by decide +kernel
theorem dX8_keep_58 : decode cX8_keep 58 = .ok (.getfield 56, 3) := by decide +kernel
theorem dX8_keep_61 : decode cX8_keep 61 = .ok (.iload_n 1, 1) := by decide +kernel
theorem dX8_keep_62 : decode cX8_keep 62 = .ok (.iload_n 2, 1) := by decide +kernel
theorem dX8_keep_63 : decode cX8_keep 63 = .ok (.iload_n 3, 1) := by decide +kernel
theorem dX8_keep_64 : decode cX8_keep 64 = .ok (.iload 4, 2) := by decide +kernel
theorem dX8_keep_66 : decode cX8_keep 66 = .ok (.invokestatic 176, 3) := by decide +kernel
theorem dX8_keep_69 : decode cX8_keep 69 = .ok (.iload_n 3, 1) := by decide +kernel
theorem dX8_keep_70 : decode cX8_keep 70 = .ok (.iload 4, 2) := by decide +kernel
theorem dX8_keep_72 : decode cX8_keep 72 = .ok (.invokestatic 181, 3) := by decide +kernel
theorem dX8_keep_75 : decode cX8_keep 75 = .ok (.iload 5, 2) := by decide +kernel
theorem dX8_keep_77 : decode cX8_keep 77 = .ok (.invokevirtual 219, 3) := by decide +kernel
theorem dX8_keep_80 : decode cX8_keep 80 = .ok (.iload 6, 2) := by decide +kernel
theorem dX8_keep_82 : decode cX8_keep 82 = .ok (.ifCond .ne 11, 3) := by decide +kernel
theorem dX8_keep_85 : decode cX8_keep 85 = .ok (.aload_n 0, 1) := by decide +kernel
theorem dX8_keep_86 : decode cX8_keep 86 = .ok (.getfield 56, 3) := by decide +kernel
theorem dX8_keep_89 : decode cX8_keep 89 = .ok (.getfield 222, 3) := by decide +kernel
theorem dX8_keep_92 : decode cX8_keep 92 = .ok (.ireturn, 1) := by decide +kernel
theorem dX8_keep_93 : decode cX8_keep 93 = .ok (.iload 6, 2) := by decide +kernel
theorem dX8_keep_95 : decode cX8_keep 95 = .ok (.iconst 1, 1) := by decide +kernel
theorem dX8_keep_96 : decode cX8_keep 96 = .ok (.if_icmp .ne 13, 3) := by decide +kernel
theorem dX8_keep_99 : decode cX8_keep 99 = .ok (.aload_n 0, 1) := by decide +kernel
theorem dX8_keep_100 : decode cX8_keep 100 = .ok (.getfield 56, 3) := by decide +kernel
theorem dX8_keep_103 : decode cX8_keep 103 = .ok (.getfield 225, 3) := by decide +kernel
theorem dX8_keep_106 : decode cX8_keep 106 = .ok (.goto 10, 3) := by decide +kernel
theorem dX8_keep_109 : decode cX8_keep 109 = .ok (.aload_n 0, 1) := by decide +kernel
theorem dX8_keep_110 : decode cX8_keep 110 = .ok (.getfield 56, 3) := by decide +kernel
theorem dX8_keep_113 : decode cX8_keep 113 = .ok (.getfield 228, 3) := by decide +kernel
theorem dX8_keep_116 : decode cX8_keep 116 = .ok (.ireturn, 1) := by decide +kernel
theorem dX8_contract_0 : decode cX8_contract 0 = .ok (.iload_n 1, 1) := by decide +kernel
theorem dX8_contract_1 : decode cX8_contract 1 = .ok (.bipush 8, 2) := by decide +kernel
theorem dX8_contract_3 : decode cX8_contract 3 = .ok (.invokestatic 93, 3) := by decide +kernel
theorem dX8_contract_6 : decode cX8_contract 6 = .ok (.ifCond .eq 31, 3) := by decide +kernel
theorem dX8_contract_9 : decode cX8_contract 9 = .ok (.iload_n 2, 1) := by decide +kernel
theorem dX8_contract_10 : decode cX8_contract 10 = .ok (.bipush 30, 2) := by decide +kernel
theorem dX8_contract_12 : decode cX8_contract 12 = .ok (.invokestatic 93, 3) := by decide +kernel
theorem dX8_contract_15 : decode cX8_contract 15 = .ok (.ifCond .eq 22, 3) := by decide +kernel
theorem dX8_contract_18 : decode cX8_contract 18 = .ok (.iload_n 3, 1) := by decide +kernel
theorem dX8_contract_19 : decode cX8_contract 19 = .ok (.bipush 100, 2) := by decide +kernel
theorem dX8_contract_21 : decode cX8_contract 21 = .ok (.invokestatic 93, 3) := by decide +kernel
theorem dX8_contract_24 : decode cX8_contract 24 = .ok (.ifCond .eq 13, 3) := by decide +kernel
theorem dX8_contract_27 : decode cX8_contract 27 = .ok (.iload 4, 2) := by decide +kernel
theorem dX8_contract_29 : decode cX8_contract 29 = .ok (.bipush 100, 2) := by decide +kernel
theorem dX8_contract_31 : decode cX8_contract 31 = .ok (.invokestatic 93, 3) := by decide +kernel
theorem dX8_contract_34 : decode cX8_contract 34 = .ok (.ifCond .ne 6, 3) := by decide +kernel
theorem dX8_contract_37 : decode cX8_contract 37 = .ok (.bipush (-2), 2) := by decide +kernel
theorem dX8_contract_39 : decode cX8_contract 39 = .ok (.ireturn, 1) := by decide +kernel
theorem dX8_contract_40 : decode cX8_contract 40 = .ok (.aload_n 0, 1) := by decide +kernel
theorem dX8_contract_41 : decode cX8_contract 41 = .ok (.getfield 65, 3) := by decide +kernel
theorem dX8_contract_44 : decode cX8_contract 44 = .ok (.iload_n 1, 1) := by decide +kernel
theorem dX8_contract_45 : decode cX8_contract 45 = .ok (.invokevirtual 231, 3) := by decide +kernel
theorem dX8_contract_48 : decode cX8_contract 48 = .ok (.ifCond .eq 7, 3) := by decide +kernel
theorem dX8_contract_51 : decode cX8_contract 51 = .ok (.iconst 1, 1) := by decide +kernel
theorem dX8_contract_52 : decode cX8_contract 52 = .ok (.goto 4, 3) := by decide +kernel
theorem dX8_contract_55 : decode cX8_contract 55 = .ok (.iconst 0, 1) := by decide +kernel
theorem dX8_contract_56 : decode cX8_contract 56 = .ok (.istore 5, 2) := by decide +kernel
theorem dX8_contract_58 : decode cX8_contract 58 = .ok (.aload_n 0, 1) := by decide +kernel
theorem dX8_contract_59 : decode cX8_contract 59 = .ok (.getfield 65, 3) := by decide +kernel
theorem dX8_contract_62 : decode cX8_contract 62 = .ok (.iload_n 1, 1) := by decide +kernel
theorem dX8_contract_63 : decode cX8_contract 63 = .ok (.iload_n 2, 1) := by decide +kernel
theorem dX8_contract_64 : decode cX8_contract 64 = .ok (.iload_n 3, 1) := by decide +kernel
theorem dX8_contract_65 : decode cX8_contract 65 = .ok (.iload 4, 2) := by decide +kernel
theorem dX8_contract_67 : decode cX8_contract 67 = .ok (.invokevirtual 234, 3) := by decide +kernel
theorem dX8_contract_70 : decode cX8_contract 70 = .ok (.iload 5, 2) := by decide +kernel
theorem dX8_contract_72 : decode cX8_contract 72 = .ok (.ireturn, 1) := by decide +kernel
theorem dX8_tears_0 : decode cX8_tears 0 = .ok (.iload_n 1, 1) := by decide +kernel
theorem dX8_tears_1 : decode cX8_tears 1 = .ok (.bipush 8, 2) := by decide +kernel
theorem dX8_tears_3 : decode cX8_tears 3 = .ok (.invokestatic 93, 3) := by decide +kernel
theorem dX8_tears_6 : decode cX8_tears 6 = .ok (.ifCond .ne 6, 3) := by decide +kernel
theorem dX8_tears_9 : decode cX8_tears 9 = .ok (.bipush (-2), 2) := by decide +kernel
theorem dX8_tears_11 : decode cX8_tears 11 = .ok (.ireturn, 1) := by decide +kernel
theorem dX8_tears_12 : decode cX8_tears 12 = .ok (.aload_n 0, 1) := by decide +kernel
theorem dX8_tears_13 : decode cX8_tears 13 = .ok (.getfield 65, 3) := by decide +kernel
theorem dX8_tears_16 : decode cX8_tears 16 = .ok (.iload_n 1, 1) := by decide +kernel
theorem dX8_tears_17 : decode cX8_tears 17 = .ok (.invokevirtual 231, 3) := by decide +kernel
theorem dX8_tears_20 : decode cX8_tears 20 = .ok (.ifCond .eq 7, 3) := by decide +kernel
theorem dX8_tears_23 : decode cX8_tears 23 = .ok (.iconst 1, 1) := by decide +kernel
theorem dX8_tears_24 : decode cX8_tears 24 = .ok (.goto 4, 3) := by decide +kernel
theorem dX8_tears_27 : decode cX8_tears 27 = .ok (.iconst 0, 1) := by decide +kernel
theorem dX8_tears_28 : decode cX8_tears 28 = .ok (.istore_n 2, 1) := by decide +kernel
theorem dX8_tears_29 : decode cX8_tears 29 = .ok (.aload_n 0, 1) := by decide +kernel
theorem dX8_tears_30 : decode cX8_tears 30 = .ok (.getfield 65, 3) := by decide +kernel
theorem dX8_tears_33 : decode cX8_tears 33 = .ok (.iload_n 1, 1) := by decide +kernel
theorem dX8_tears_34 : decode cX8_tears 34 = .ok (.invokevirtual 238, 3) := by decide +kernel
theorem dX8_tears_37 : decode cX8_tears 37 = .ok (.iload_n 2, 1) := by decide +kernel
theorem dX8_tears_38 : decode cX8_tears 38 = .ok (.ireturn, 1) := by decide +kernel
theorem dX8_never_0 : decode cX8_never 0 = .ok (.iload_n 1, 1) := by decide +kernel
theorem dX8_never_1 : decode cX8_never 1 = .ok (.iconst 2, 1) := by decide +kernel
theorem dX8_never_2 : decode cX8_never 2 = .ok (.invokestatic 93, 3) := by decide +kernel
theorem dX8_never_5 : decode cX8_never 5 = .ok (.ifCond .ne 6, 3) := by decide +kernel
theorem dX8_never_8 : decode cX8_never 8 = .ok (.bipush (-2), 2) := by decide +kernel
theorem dX8_never_10 : decode cX8_never 10 = .ok (.ireturn, 1) := by decide +kernel
theorem dX8_never_11 : decode cX8_never 11 = .ok (.aload_n 0, 1) := by decide +kernel
theorem dX8_never_12 : decode cX8_never 12 = .ok (.getfield 38, 3) := by decide +kernel
theorem dX8_never_15 : decode cX8_never 15 = .ok (.invokevirtual 131, 3) := by decide +kernel
theorem dX8_never_18 : decode cX8_never 18 = .ok (.aload_n 0, 1) := by decide +kernel
theorem dX8_never_19 : decode cX8_never 19 = .ok (.getfield 65, 3) := by decide +kernel
theorem dX8_never_22 : decode cX8_never 22 = .ok (.invokevirtual 241, 3) := by decide +kernel
theorem dX8_never_25 : decode cX8_never 25 = .ok (.iload_n 1, 1) := by decide +kernel
theorem dX8_never_26 : decode cX8_never 26 = .ok (.ifCond .ne 13, 3) := by decide +kernel
theorem dX8_never_29 : decode cX8_never 29 = .ok (.aload_n 0, 1) := by decide +kernel
theorem dX8_never_30 : decode cX8_never 30 = .ok (.getfield 65, 3) := by decide +kernel
theorem dX8_never_33 : decode cX8_never 33 = .ok (.getfield 243, 3) := by decide +kernel
theorem dX8_never_36 : decode cX8_never 36 = .ok (.goto 10, 3) := by decide +kernel
theorem dX8_never_39 : decode cX8_never 39 = .ok (.aload_n 0, 1) := by decide +kernel
theorem dX8_never_40 : decode cX8_never 40 = .ok (.getfield 65, 3) := by decide +kernel
theorem dX8_never_43 : decode cX8_never 43 = .ok (.getfield 246, 3) := by decide +kernel
theorem dX8_never_46 : decode cX8_never 46 = .ok (.ireturn, 1) := by decide +kernel
theorem dX8_gain_0 : decode cX8_gain 0 = .ok (.iload_n 1, 1) := by decide +kernel
theorem dX8_gain_1 : decode cX8_gain 1 = .ok (.iconst 2, 1) := by decide +kernel
theorem dX8_gain_2 : decode cX8_gain 2 = .ok (.invokestatic 93, 3) := by decide +kernel
theorem dX8_gain_5 : decode cX8_gain 5 = .ok (.ifCond .ne 7, 3) := by decide +kernel
theorem dX8_gain_8 : decode cX8_gain 8 = .ok (.ldc2_w 199, 3) := by decide +kernel
theorem dX8_gain_11 : decode cX8_gain 11 = .ok (.lreturn, 1) := by decide +kernel
theorem dX8_gain_12 : decode cX8_gain 12 = .ok (.aload_n 0, 1) := by decide +kernel
theorem dX8_gain_13 : decode cX8_gain 13 = .ok (.getfield 38, 3) := by decide +kernel
theorem dX8_gain_16 : decode cX8_gain 16 = .ok (.invokevirtual 131, 3) := by decide +kernel
theorem dX8_gain_19 : decode cX8_gain 19 = .ok (.aload_n 0, 1) := by decide +kernel
theorem dX8_gain_20 : decode cX8_gain 20 = .ok (.getfield 65, 3) := by decide +kernel
theorem dX8_gain_23 : decode cX8_gain 23 = .ok (.invokevirtual 241, 3) := by decide +kernel
theorem dX8_gain_26 : decode cX8_gain 26 = .ok (.aload_n 0, 1) := by decide +kernel
theorem dX8_gain_27 : decode cX8_gain 27 = .ok (.getfield 65, 3) := by decide +kernel
theorem dX8_gain_30 : decode cX8_gain 30 = .ok (.getfield 249, 3) := by decide +kernel
theorem dX8_gain_33 : decode cX8_gain 33 = .ok (.aload_n 0, 1) := by decide +kernel
theorem dX8_gain_34 : decode cX8_gain 34 = .ok (.invokevirtual 252, 3) := by decide +kernel
theorem dX8_gain_37 : decode cX8_gain 37 = .ok (.iload_n 1, 1) := by decide +kernel
theorem dX8_gain_38 : decode cX8_gain 38 = .ok (.invokestatic 212, 3) := by decide +kernel
theorem dX8_gain_41 : decode cX8_gain 41 = .ok (.lreturn, 1) := by decide +kernel
theorem dX8_watch_0 : decode cX8_watch 0 = .ok (.aload_n 0, 1) := by decide +kernel
theorem dX8_watch_1 : decode cX8_watch 1 = .ok (.getfield 38, 3) := by decide +kernel
theorem dX8_watch_4 : decode cX8_watch 4 = .ok (.invokevirtual 131, 3) := by decide +kernel
theorem dX8_watch_7 : decode cX8_watch 7 = .ok (.iconst 0, 1) := by decide +kernel
end
section
theorem dX8_watch_8 : decode cX8_watch 8 = .ok (.istore_n 1, 1) := by decide +kernel
theorem dX8_watch_9 : decode cX8_watch 9 = .ok (.iconst 0, 1) := by decide +kernel
theorem dX8_watch_10 : decode cX8_watch 10 = .ok (.istore_n 2, 1) := by decide +kernel
theorem dX8_watch_11 : decode cX8_watch 11 = .ok (.iconst 0, 1) := by decide +kernel
theorem dX8_watch_12 : decode cX8_watch 12 = .ok (.istore_n 3, 1) := by decide +kernel
theorem dX8_watch_13 : decode cX8_watch 13 = .ok (.iload_n 3, 1) := by decide +kernel
theorem dX8_watch_14 : decode cX8_watch 14 = .ok (.bipush 30, 2) := by decide +kernel
theorem dX8_watch_16 : decode cX8_watch 16 = .ok (.if_icmp .ge 27, 3) := by decide +kernel
theorem dX8_watch_19 : decode cX8_watch 19 = .ok (.aload_n 0, 1) := by decide +kernel
theorem dX8_watch_20 : decode cX8_watch 20 = .ok (.iload_n 3, 1) := by decide +kernel
theorem dX8_watch_21 : decode cX8_watch 21 = .ok (.invokevirtual 255, 3) := by decide +kernel
theorem dX8_watch_24 : decode cX8_watch 24 = .ok (.istore 4, 2) := by decide +kernel
theorem dX8_watch_26 : decode cX8_watch 26 = .ok (.iload 4, 2) := by decide +kernel
theorem dX8_watch_28 : decode cX8_watch 28 = .ok (.iload_n 2, 1) := by decide +kernel
theorem dX8_watch_29 : decode cX8_watch 29 = .ok (.if_icmp .le 8, 3) := by decide +kernel
theorem dX8_watch_32 : decode cX8_watch 32 = .ok (.iload 4, 2) := by decide +kernel
theorem dX8_watch_34 : decode cX8_watch 34 = .ok (.istore_n 2, 1) := by decide +kernel
theorem dX8_watch_35 : decode cX8_watch 35 = .ok (.iload_n 3, 1) := by decide +kernel
theorem dX8_watch_36 : decode cX8_watch 36 = .ok (.istore_n 1, 1) := by decide +kernel
theorem dX8_watch_37 : decode cX8_watch 37 = .ok (.iinc 3 1, 3) := by decide +kernel
theorem dX8_watch_40 : decode cX8_watch 40 = .ok (.goto (-27), 3) := by decide +kernel
theorem dX8_watch_43 : decode cX8_watch 43 = .ok (.iload_n 1, 1) := by decide +kernel
theorem dX8_watch_44 : decode cX8_watch 44 = .ok (.ireturn, 1) := by decide +kernel
theorem dX8_fact_0 : decode cX8_fact 0 = .ok (.iload_n 1, 1) := by decide +kernel
theorem dX8_fact_1 : decode cX8_fact 1 = .ok (.bipush 30, 2) := by decide +kernel
theorem dX8_fact_3 : decode cX8_fact 3 = .ok (.invokestatic 93, 3) := by decide +kernel
theorem dX8_fact_6 : decode cX8_fact 6 = .ok (.ifCond .eq 20, 3) := by decide +kernel
theorem dX8_fact_9 : decode cX8_fact 9 = .ok (.iload_n 2, 1) := by decide +kernel
theorem dX8_fact_10 : decode cX8_fact 10 = .ok (.bipush 12, 2) := by decide +kernel
theorem dX8_fact_12 : decode cX8_fact 12 = .ok (.invokestatic 93, 3) := by decide +kernel
theorem dX8_fact_15 : decode cX8_fact 15 = .ok (.ifCond .eq 11, 3) := by decide +kernel
theorem dX8_fact_18 : decode cX8_fact 18 = .ok (.iload_n 3, 1) := by decide +kernel
theorem dX8_fact_19 : decode cX8_fact 19 = .ok (.iconst 2, 1) := by decide +kernel
theorem dX8_fact_20 : decode cX8_fact 20 = .ok (.invokestatic 93, 3) := by decide +kernel
theorem dX8_fact_23 : decode cX8_fact 23 = .ok (.ifCond .ne 6, 3) := by decide +kernel
theorem dX8_fact_26 : decode cX8_fact 26 = .ok (.bipush (-2), 2) := by decide +kernel
theorem dX8_fact_28 : decode cX8_fact 28 = .ok (.ireturn, 1) := by decide +kernel
theorem dX8_fact_29 : decode cX8_fact 29 = .ok (.aload_n 0, 1) := by decide +kernel
theorem dX8_fact_30 : decode cX8_fact 30 = .ok (.getfield 72, 3) := by decide +kernel
theorem dX8_fact_33 : decode cX8_fact 33 = .ok (.invokevirtual 258, 3) := by decide +kernel
theorem dX8_fact_36 : decode cX8_fact 36 = .ok (.ifCond .eq 6, 3) := by decide +kernel
theorem dX8_fact_39 : decode cX8_fact 39 = .ok (.bipush (-4), 2) := by decide +kernel
theorem dX8_fact_41 : decode cX8_fact 41 = .ok (.ireturn, 1) := by decide +kernel
theorem dX8_fact_42 : decode cX8_fact 42 = .ok (.aload_n 0, 1) := by decide +kernel
theorem dX8_fact_43 : decode cX8_fact 43 = .ok (.getfield 72, 3) := by decide +kernel
theorem dX8_fact_46 : decode cX8_fact 46 = .ok (.iload_n 1, 1) := by decide +kernel
theorem dX8_fact_47 : decode cX8_fact 47 = .ok (.iload_n 2, 1) := by decide +kernel
theorem dX8_fact_48 : decode cX8_fact 48 = .ok (.iload_n 3, 1) := by decide +kernel
theorem dX8_fact_49 : decode cX8_fact 49 = .ok (.invokevirtual 259, 3) := by decide +kernel
theorem dX8_fact_52 : decode cX8_fact 52 = .ok (.aload_n 0, 1) := by decide +kernel
theorem dX8_fact_53 : decode cX8_fact 53 = .ok (.getfield 72, 3) := by decide +kernel
theorem dX8_fact_56 : decode cX8_fact 56 = .ok (.getfield 262, 3) := by decide +kernel
theorem dX8_fact_59 : decode cX8_fact 59 = .ok (.ireturn, 1) := by decide +kernel
theorem dX8_forget_0 : decode cX8_forget 0 = .ok (.aload_n 0, 1) := by decide +kernel
theorem dX8_forget_1 : decode cX8_forget 1 = .ok (.getfield 72, 3) := by decide +kernel
theorem dX8_forget_4 : decode cX8_forget 4 = .ok (.getfield 262, 3) := by decide +kernel
theorem dX8_forget_7 : decode cX8_forget 7 = .ok (.istore_n 1, 1) := by decide +kernel
theorem dX8_forget_8 : decode cX8_forget 8 = .ok (.aload_n 0, 1) := by decide +kernel
theorem dX8_forget_9 : decode cX8_forget 9 = .ok (.getfield 72, 3) := by decide +kernel
theorem dX8_forget_12 : decode cX8_forget 12 = .ok (.invokevirtual 263, 3) := by decide +kernel
theorem dX8_forget_15 : decode cX8_forget 15 = .ok (.iload_n 1, 1) := by decide +kernel
theorem dX8_forget_16 : decode cX8_forget 16 = .ok (.ireturn, 1) := by decide +kernel
theorem dX8_fit_0 : decode cX8_fit 0 = .ok (.aload_n 0, 1) := by decide +kernel
theorem dX8_fit_1 : decode cX8_fit 1 = .ok (.getfield 38, 3) := by decide +kernel
theorem dX8_fit_4 : decode cX8_fit 4 = .ok (.invokevirtual 131, 3) := by decide +kernel
theorem dX8_fit_7 : decode cX8_fit 7 = .ok (.aload_n 0, 1) := by decide +kernel
theorem dX8_fit_8 : decode cX8_fit 8 = .ok (.getfield 15, 3) := by decide +kernel
theorem dX8_fit_11 : decode cX8_fit 11 = .ok (.iconst 3, 1) := by decide +kernel
theorem dX8_fit_12 : decode cX8_fit 12 = .ok (.aaload, 1) := by decide +kernel
theorem dX8_fit_13 : decode cX8_fit 13 = .ok (.invokevirtual 264, 3) := by decide +kernel
theorem dX8_fit_16 : decode cX8_fit 16 = .ok (.istore_n 1, 1) := by decide +kernel
theorem dX8_fit_17 : decode cX8_fit 17 = .ok (.iconst 0, 1) := by decide +kernel
theorem dX8_fit_18 : decode cX8_fit 18 = .ok (.istore_n 2, 1) := by decide +kernel
theorem dX8_fit_19 : decode cX8_fit 19 = .ok (.iconst 0, 1) := by decide +kernel
theorem dX8_fit_20 : decode cX8_fit 20 = .ok (.istore_n 3, 1) := by decide +kernel
theorem dX8_fit_21 : decode cX8_fit 21 = .ok (.iload_n 3, 1) := by decide +kernel
theorem dX8_fit_22 : decode cX8_fit 22 = .ok (.iconst 3, 1) := by decide +kernel
theorem dX8_fit_23 : decode cX8_fit 23 = .ok (.if_icmp .ge 31, 3) := by decide +kernel
theorem dX8_fit_26 : decode cX8_fit 26 = .ok (.aload_n 0, 1) := by decide +kernel
theorem dX8_fit_27 : decode cX8_fit 27 = .ok (.getfield 72, 3) := by decide +kernel
theorem dX8_fit_30 : decode cX8_fit 30 = .ok (.aload_n 0, 1) := by decide +kernel
theorem dX8_fit_31 : decode cX8_fit 31 = .ok (.getfield 38, 3) := by decide +kernel
theorem dX8_fit_34 : decode cX8_fit 34 = .ok (.iload_n 3, 1) := by decide +kernel
theorem dX8_fit_35 : decode cX8_fit 35 = .ok (.iload_n 1, 1) := by decide +kernel
theorem dX8_fit_36 : decode cX8_fit 36 = .ok (.invokevirtual 267, 3) := by decide +kernel
theorem dX8_fit_39 : decode cX8_fit 39 = .ok (.ifCond .eq 9, 3) := by decide +kernel
theorem dX8_fit_42 : decode cX8_fit 42 = .ok (.iload_n 2, 1) := by decide +kernel
theorem dX8_fit_43 : decode cX8_fit 43 = .ok (.iconst 1, 1) := by decide +kernel
theorem dX8_fit_44 : decode cX8_fit 44 = .ok (.iload_n 3, 1) := by decide +kernel
theorem dX8_fit_45 : decode cX8_fit 45 = .ok (.ishl, 1) := by decide +kernel
theorem dX8_fit_46 : decode cX8_fit 46 = .ok (.ior, 1) := by decide +kernel
theorem dX8_fit_47 : decode cX8_fit 47 = .ok (.istore_n 2, 1) := by decide +kernel
theorem dX8_fit_48 : decode cX8_fit 48 = .ok (.iinc 3 1, 3) := by decide +kernel
theorem dX8_fit_51 : decode cX8_fit 51 = .ok (.goto (-30), 3) := by decide +kernel
theorem dX8_fit_54 : decode cX8_fit 54 = .ok (.iload_n 2, 1) := by decide +kernel
theorem dX8_fit_55 : decode cX8_fit 55 = .ok (.ireturn, 1) := by decide +kernel
theorem dX8_sheet_0 : decode cX8_sheet 0 = .ok (.iload_n 1, 1) := by decide +kernel
theorem dX8_sheet_1 : decode cX8_sheet 1 = .ok (.iconst 4, 1) := by decide +kernel
theorem dX8_sheet_2 : decode cX8_sheet 2 = .ok (.invokestatic 93, 3) := by decide +kernel
theorem dX8_sheet_5 : decode cX8_sheet 5 = .ok (.ifCond .eq 17, 3) := by decide +kernel
theorem dX8_sheet_8 : decode cX8_sheet 8 = .ok (.iload_n 2, 1) := by decide +kernel
theorem dX8_sheet_9 : decode cX8_sheet 9 = .ok (.iconst 3, 1) := by decide +kernel
theorem dX8_sheet_10 : decode cX8_sheet 10 = .ok (.invokestatic 93, 3) := by decide +kernel
theorem dX8_sheet_13 : decode cX8_sheet 13 = .ok (.ifCond .eq 9, 3) := by decide +kernel
theorem dX8_sheet_16 : decode cX8_sheet 16 = .ok (.iload_n 3, 1) := by decide +kernel
theorem dX8_sheet_17 : decode cX8_sheet 17 = .ok (.bipush 60, 2) := by decide +kernel
theorem dX8_sheet_19 : decode cX8_sheet 19 = .ok (.if_icmp .le 6, 3) := by decide +kernel
theorem dX8_sheet_22 : decode cX8_sheet 22 = .ok (.bipush (-2), 2) := by decide +kernel
theorem dX8_sheet_24 : decode cX8_sheet 24 = .ok (.ireturn, 1) := by decide +kernel
theorem dX8_sheet_25 : decode cX8_sheet 25 = .ok (.iload_n 3, 1) := by decide +kernel
theorem dX8_sheet_26 : decode cX8_sheet 26 = .ok (.ifCond .ge 9, 3) := by decide +kernel
theorem dX8_sheet_29 : decode cX8_sheet 29 = .ok (.aload_n 0, 1) := by decide +kernel
theorem dX8_sheet_30 : decode cX8_sheet 30 = .ok (.iconst 5, 1) := by decide +kernel
theorem dX8_sheet_31 : decode cX8_sheet 31 = .ok (.invokevirtual 159, 3) := by decide +kernel
theorem dX8_sheet_34 : decode cX8_sheet 34 = .ok (.ireturn, 1) := by decide +kernel
theorem dX8_sheet_35 : decode cX8_sheet 35 = .ok (.aload_n 0, 1) := by decide +kernel
theorem dX8_sheet_36 : decode cX8_sheet 36 = .ok (.getfield 78, 3) := by decide +kernel
theorem dX8_sheet_39 : decode cX8_sheet 39 = .ok (.iload_n 1, 1) := by decide +kernel
theorem dX8_sheet_40 : decode cX8_sheet 40 = .ok (.aaload, 1) := by decide +kernel
theorem dX8_sheet_41 : decode cX8_sheet 41 = .ok (.iload_n 2, 1) := by decide +kernel
theorem dX8_sheet_42 : decode cX8_sheet 42 = .ok (.iload_n 3, 1) := by decide +kernel
theorem dX8_sheet_43 : decode cX8_sheet 43 = .ok (.invokevirtual 271, 3) := by decide +kernel
theorem dX8_sheet_46 : decode cX8_sheet 46 = .ok (.iload_n 3, 1) := by decide +kernel
theorem dX8_sheet_47 : decode cX8_sheet 47 = .ok (.ireturn, 1) := by decide +kernel
theorem dX8_lose_0 : decode cX8_lose 0 = .ok (.iload_n 1, 1) := by decide +kernel
theorem dX8_lose_1 : decode cX8_lose 1 = .ok (.iconst 4, 1) := by decide +kernel
theorem dX8_lose_2 : decode cX8_lose 2 = .ok (.invokestatic 93, 3) := by decide +kernel
theorem dX8_lose_5 : decode cX8_lose 5 = .ok (.ifCond .ne 6, 3) := by decide +kernel
theorem dX8_lose_8 : decode cX8_lose 8 = .ok (.bipush (-2), 2) := by decide +kernel
theorem dX8_lose_10 : decode cX8_lose 10 = .ok (.ireturn, 1) := by decide +kernel
theorem dX8_lose_11 : decode cX8_lose 11 = .ok (.aload_n 0, 1) := by decide +kernel
theorem dX8_lose_12 : decode cX8_lose 12 = .ok (.getfield 78, 3) := by decide +kernel
theorem dX8_lose_15 : decode cX8_lose 15 = .ok (.iload_n 1, 1) := by decide +kernel
theorem dX8_lose_16 : decode cX8_lose 16 = .ok (.aaload, 1) := by decide +kernel
theorem dX8_lose_17 : decode cX8_lose 17 = .ok (.invokevirtual 156, 3) := by decide +kernel
theorem dX8_lose_20 : decode cX8_lose 20 = .ok (.ifCond .eq 9, 3) := by decide +kernel
theorem dX8_lose_23 : decode cX8_lose 23 = .ok (.aload_n 0, 1) := by decide +kernel
theorem dX8_lose_24 : decode cX8_lose 24 = .ok (.iconst 1, 1) := by decide +kernel
theorem dX8_lose_25 : decode cX8_lose 25 = .ok (.invokevirtual 159, 3) := by decide +kernel
theorem dX8_lose_28 : decode cX8_lose 28 = .ok (.ireturn, 1) := by decide +kernel
theorem dX8_lose_29 : decode cX8_lose 29 = .ok (.aload_n 0, 1) := by decide +kernel
theorem dX8_lose_30 : decode cX8_lose 30 = .ok (.getfield 78, 3) := by decide +kernel
theorem dX8_lose_33 : decode cX8_lose 33 = .ok (.iload_n 1, 1) := by decide +kernel
theorem dX8_lose_34 : decode cX8_lose 34 = .ok (.aaload, 1) := by decide +kernel
theorem dX8_lose_35 : decode cX8_lose 35 = .ok (.getfield 275, 3) := by decide +kernel
theorem dX8_lose_38 : decode cX8_lose 38 = .ok (.istore_n 2, 1) := by decide +kernel
theorem dX8_lose_39 : decode cX8_lose 39 = .ok (.aload_n 0, 1) := by decide +kernel
theorem dX8_lose_40 : decode cX8_lose 40 = .ok (.getfield 78, 3) := by decide +kernel
theorem dX8_lose_43 : decode cX8_lose 43 = .ok (.iload_n 1, 1) := by decide +kernel
theorem dX8_lose_44 : decode cX8_lose 44 = .ok (.aaload, 1) := by decide +kernel
theorem dX8_lose_45 : decode cX8_lose 45 = .ok (.invokevirtual 276, 3) := by decide +kernel
theorem dX8_lose_48 : decode cX8_lose 48 = .ok (.iload_n 2, 1) := by decide +kernel
theorem dX8_lose_49 : decode cX8_lose 49 = .ok (.ireturn, 1) := by decide +kernel
theorem dX8_lay_0 : decode cX8_lay 0 = .ok (.iload_n 1, 1) := by decide +kernel
theorem dX8_lay_1 : decode cX8_lay 1 = .ok (.iconst 4, 1) := by decide +kernel
theorem dX8_lay_2 : decode cX8_lay 2 = .ok (.invokestatic 93, 3) := by decide +kernel
theorem dX8_lay_5 : decode cX8_lay 5 = .ok (.ifCond .eq 11, 3) := by decide +kernel
theorem dX8_lay_8 : decode cX8_lay 8 = .ok (.iload_n 2, 1) := by decide +kernel
theorem dX8_lay_9 : decode cX8_lay 9 = .ok (.iconst 3, 1) := by decide +kernel
theorem dX8_lay_10 : decode cX8_lay 10 = .ok (.invokestatic 93, 3) := by decide +kernel
theorem dX8_lay_13 : decode cX8_lay 13 = .ok (.ifCond .ne 6, 3) := by decide +kernel
theorem dX8_lay_16 : decode cX8_lay 16 = .ok (.bipush (-2), 2) := by decide +kernel
theorem dX8_lay_18 : decode cX8_lay 18 = .ok (.ireturn, 1) := by decide +kernel
theorem dX8_lay_19 : decode cX8_lay 19 = .ok (.aload_n 0, 1) := by decide +kernel
theorem dX8_lay_20 : decode cX8_lay 20 = .ok (.getfield 78, 3) := by decide +kernel
theorem dX8_lay_23 : decode cX8_lay 23 = .ok (.iload_n 1, 1) := by decide +kernel
theorem dX8_lay_24 : decode cX8_lay 24 = .ok (.aaload, 1) := by decide +kernel
theorem dX8_lay_25 : decode cX8_lay 25 = .ok (.iload_n 2, 1) := by decide +kernel
theorem dX8_lay_26 : decode cX8_lay 26 = .ok (.iload_n 3, 1) := by decide +kernel
theorem dX8_lay_27 : decode cX8_lay 27 = .ok (.invokevirtual 279, 3) := by decide +kernel
theorem dX8_lay_30 : decode cX8_lay 30 = .ok (.istore 5, 2) := by decide +kernel
theorem dX8_lay_32 : decode cX8_lay 32 = .ok (.iload 5, 2) := by decide +kernel
theorem dX8_lay_34 : decode cX8_lay 34 = .ok (.ifCond .eq 10, 3) := by decide +kernel
theorem dX8_lay_37 : decode cX8_lay 37 = .ok (.aload_n 0, 1) := by decide +kernel
theorem dX8_lay_38 : decode cX8_lay 38 = .ok (.iload 5, 2) := by decide +kernel
theorem dX8_lay_40 : decode cX8_lay 40 = .ok (.invokevirtual 159, 3) := by decide +kernel
theorem dX8_lay_43 : decode cX8_lay 43 = .ok (.ireturn, 1) := by decide +kernel
theorem dX8_lay_44 : decode cX8_lay 44 = .ok (.aload_n 0, 1) := by decide +kernel
theorem dX8_lay_45 : decode cX8_lay 45 = .ok (.getfield 78, 3) := by decide +kernel
theorem dX8_lay_48 : decode cX8_lay 48 = .ok (.iload_n 1, 1) := by decide +kernel
theorem dX8_lay_49 : decode cX8_lay 49 = .ok (.aaload, 1) := by decide +kernel
theorem dX8_lay_50 : decode cX8_lay 50 = .ok (.iload_n 3, 1) := by decide +kernel
theorem dX8_lay_51 : decode cX8_lay 51 = .ok (.iload 4, 2) := by decide +kernel
theorem dX8_lay_53 : decode cX8_lay 53 = .ok (.invokevirtual 282, 3) := by decide +kernel
theorem dX8_lay_56 : decode cX8_lay 56 = .ok (.iconst 1, 1) := by decide +kernel
theorem dX8_lay_57 : decode cX8_lay 57 = .ok (.ireturn, 1) := by decide +kernel
theorem dX8_get_0 : decode cX8_get 0 = .ok (.iload_n 1, 1) := by decide +kernel
theorem dX8_get_1 : decode cX8_get 1 = .ok (.iconst 4, 1) := by decide +kernel
theorem dX8_get_2 : decode cX8_get 2 = .ok (.invokestatic 93, 3) := by decide +kernel
theorem dX8_get_5 : decode cX8_get 5 = .ok (.ifCond .eq 11, 3) := by decide +kernel
theorem dX8_get_8 : decode cX8_get 8 = .ok (.iload_n 2, 1) := by decide +kernel
theorem dX8_get_9 : decode cX8_get 9 = .ok (.iconst 3, 1) := by decide +kernel
theorem dX8_get_10 : decode cX8_get 10 = .ok (.invokestatic 93, 3) := by decide +kernel
theorem dX8_get_13 : decode cX8_get 13 = .ok (.ifCond .ne 7, 3) := by decide +kernel
theorem dX8_get_16 : decode cX8_get 16 = .ok (.ldc_w 285, 3) := by decide +kernel
theorem dX8_get_19 : decode cX8_get 19 = .ok (.ireturn, 1) := by decide +kernel
theorem dX8_get_20 : decode cX8_get 20 = .ok (.aload_n 0, 1) := by decide +kernel
theorem dX8_get_21 : decode cX8_get 21 = .ok (.getfield 78, 3) := by decide +kernel
theorem dX8_get_24 : decode cX8_get 24 = .ok (.iload_n 1, 1) := by decide +kernel
theorem dX8_get_25 : decode cX8_get 25 = .ok (.aaload, 1) := by decide +kernel
theorem dX8_get_26 : decode cX8_get 26 = .ok (.iload_n 2, 1) := by decide +kernel
theorem dX8_get_27 : decode cX8_get 27 = .ok (.iload_n 3, 1) := by decide +kernel
theorem dX8_get_28 : decode cX8_get 28 = .ok (.invokevirtual 279, 3) := by decide +kernel
theorem dX8_get_31 : decode cX8_get 31 = .ok (.istore 4, 2) := by decide +kernel
theorem dX8_get_33 : decode cX8_get 33 = .ok (.iload 4, 2) := by decide +kernel
theorem dX8_get_35 : decode cX8_get 35 = .ok (.ifCond .eq 14, 3) := by decide +kernel
theorem dX8_get_38 : decode cX8_get 38 = .ok (.aload_n 0, 1) := by decide +kernel
theorem dX8_get_39 : decode cX8_get 39 = .ok (.iload 4, 2) := by decide +kernel
theorem dX8_get_41 : decode cX8_get 41 = .ok (.invokevirtual 159, 3) := by decide +kernel
theorem dX8_get_44 : decode cX8_get 44 = .ok (.pop, 1) := by decide +kernel
theorem dX8_get_45 : decode cX8_get 45 = .ok (.ldc_w 285, 3) := by decide +kernel
theorem dX8_get_48 : decode cX8_get 48 = .ok (.ireturn, 1) := by decide +kernel
theorem dX8_get_49 : decode cX8_get 49 = .ok (.aload_n 0, 1) := by decide +kernel
theorem dX8_get_50 : decode cX8_get 50 = .ok (.getfield 78, 3) := by decide +kernel
theorem dX8_get_53 : decode cX8_get 53 = .ok (.iload_n 1, 1) := by decide +kernel
theorem dX8_get_54 : decode cX8_get 54 = .ok (.aaload, 1) := by decide +kernel
theorem dX8_get_55 : decode cX8_get 55 = .ok (.iload_n 3, 1) := by decide +kernel
theorem dX8_get_56 : decode cX8_get 56 = .ok (.invokevirtual 286, 3) := by decide +kernel
theorem dX8_get_59 : decode cX8_get 59 = .ok (.ireturn, 1) := by decide +kernel
theorem dX8_copy_0 : decode cX8_copy 0 = .ok (.iload_n 1, 1) := by decide +kernel
theorem dX8_copy_1 : decode cX8_copy 1 = .ok (.iconst 4, 1) := by decide +kernel
theorem dX8_copy_2 : decode cX8_copy 2 = .ok (.invokestatic 93, 3) := by decide +kernel
theorem dX8_copy_5 : decode cX8_copy 5 = .ok (.ifCond .eq 11, 3) := by decide +kernel
theorem dX8_copy_8 : decode cX8_copy 8 = .ok (.iload_n 3, 1) := by decide +kernel
theorem dX8_copy_9 : decode cX8_copy 9 = .ok (.iconst 4, 1) := by decide +kernel
theorem dX8_copy_10 : decode cX8_copy 10 = .ok (.invokestatic 93, 3) := by decide +kernel
theorem dX8_copy_13 : decode cX8_copy 13 = .ok (.ifCond .ne 6, 3) := by decide +kernel
theorem dX8_copy_16 : decode cX8_copy 16 = .ok (.bipush (-2), 2) := by decide +kernel
theorem dX8_copy_18 : decode cX8_copy 18 = .ok (.ireturn, 1) := by decide +kernel
theorem dX8_copy_19 : decode cX8_copy 19 = .ok (.aload_n 0, 1) := by decide +kernel
theorem dX8_copy_20 : decode cX8_copy 20 = .ok (.getfield 78, 3) := by decide +kernel
theorem dX8_copy_23 : decode cX8_copy 23 = .ok (.iload_n 1, 1) := by decide +kernel
theorem dX8_copy_24 : decode cX8_copy 24 = .ok (.aaload, 1) := by decide +kernel
theorem dX8_copy_25 : decode cX8_copy 25 = .ok (.invokevirtual 156, 3) := by decide +kernel
theorem dX8_copy_28 : decode cX8_copy 28 = .ok (.ifCond .ne 15, 3) := by decide +kernel
theorem dX8_copy_31 : decode cX8_copy 31 = .ok (.aload_n 0, 1) := by decide +kernel
theorem dX8_copy_32 : decode cX8_copy 32 = .ok (.getfield 78, 3) := by decide +kernel
theorem dX8_copy_35 : decode cX8_copy 35 = .ok (.iload_n 3, 1) := by decide +kernel
theorem dX8_copy_36 : decode cX8_copy 36 = .ok (.aaload, 1) := by decide +kernel
theorem dX8_copy_37 : decode cX8_copy 37 = .ok (.invokevirtual 156, 3) := by decide +kernel
theorem dX8_copy_40 : decode cX8_copy 40 = .ok (.ifCond .eq 9, 3) := by decide +kernel
theorem dX8_copy_43 : decode cX8_copy 43 = .ok (.aload_n 0, 1) := by decide +kernel
theorem dX8_copy_44 : decode cX8_copy 44 = .ok (.iconst 1, 1) := by decide +kernel
theorem dX8_copy_45 : decode cX8_copy 45 = .ok (.invokevirtual 159, 3) := by decide +kernel
theorem dX8_copy_48 : decode cX8_copy 48 = .ok (.ireturn, 1) := by decide +kernel
theorem dX8_copy_49 : decode cX8_copy 49 = .ok (.aload_n 0, 1) := by decide +kernel
theorem dX8_copy_50 : decode cX8_copy 50 = .ok (.getfield 78, 3) := by decide +kernel
theorem dX8_copy_53 : decode cX8_copy 53 = .ok (.iload_n 1, 1) := by decide +kernel
theorem dX8_copy_54 : decode cX8_copy 54 = .ok (.aaload, 1) := by decide +kernel
theorem dX8_copy_55 : decode cX8_copy 55 = .ok (.getfield 289, 3) := by decide +kernel
theorem dX8_copy_58 : decode cX8_copy 58 = .ok (.aload_n 0, 1) := by decide +kernel
theorem dX8_copy_59 : decode cX8_copy 59 = .ok (.getfield 78, 3) := by decide +kernel
theorem dX8_copy_62 : decode cX8_copy 62 = .ok (.iload_n 3, 1) := by decide +kernel
theorem dX8_copy_63 : decode cX8_copy 63 = .ok (.aaload, 1) := by decide +kernel
theorem dX8_copy_64 : decode cX8_copy 64 = .ok (.getfield 289, 3) := by decide +kernel
theorem dX8_copy_67 : decode cX8_copy 67 = .ok (.if_icmp .eq 9, 3) := by decide +kernel
theorem dX8_copy_70 : decode cX8_copy 70 = .ok (.aload_n 0, 1) := by decide +kernel
theorem dX8_copy_71 : decode cX8_copy 71 = .ok (.iconst 4, 1) := by decide +kernel
theorem dX8_copy_72 : decode cX8_copy 72 = .ok (.invokevirtual 159, 3) := by decide +kernel
theorem dX8_copy_75 : decode cX8_copy 75 = .ok (.ireturn, 1) := by decide +kernel
theorem dX8_copy_76 : decode cX8_copy 76 = .ok (.aload_n 0, 1) := by decide +kernel
theorem dX8_copy_77 : decode cX8_copy 77 = .ok (.getfield 78, 3) := by decide +kernel
theorem dX8_copy_80 : decode cX8_copy 80 = .ok (.iload_n 1, 1) := by decide +kernel
theorem dX8_copy_81 : decode cX8_copy 81 = .ok (.aaload, 1) := by decide +kernel
theorem dX8_copy_82 : decode cX8_copy 82 = .ok (.iload_n 2, 1) := by decide +kernel
theorem dX8_copy_83 : decode cX8_copy 83 = .ok (.iload 5, 2) := by decide +kernel
theorem dX8_copy_85 : decode cX8_copy 85 = .ok (.invokevirtual 292, 3) := by decide +kernel
theorem dX8_copy_88 : decode cX8_copy 88 = .ok (.ifCond .eq 19, 3) := by decide +kernel
theorem dX8_copy_91 : decode cX8_copy 91 = .ok (.aload_n 0, 1) := by decide +kernel
theorem dX8_copy_92 : decode cX8_copy 92 = .ok (.getfield 78, 3) := by decide +kernel
theorem dX8_copy_95 : decode cX8_copy 95 = .ok (.iload_n 3, 1) := by decide +kernel
theorem dX8_copy_96 : decode cX8_copy 96 = .ok (.aaload, 1) := by decide +kernel
theorem dX8_copy_97 : decode cX8_copy 97 = .ok (.iload 4, 2) := by decide +kernel
theorem dX8_copy_99 : decode cX8_copy 99 = .ok (.iload 5, 2) := by decide +kernel
theorem dX8_copy_101 : decode cX8_copy 101 = .ok (.invokevirtual 292, 3) := by decide +kernel
theorem dX8_copy_104 : decode cX8_copy 104 = .ok (.ifCond .ne 9, 3) := by decide +kernel
theorem dX8_copy_107 : decode cX8_copy 107 = .ok (.aload_n 0, 1) := by decide +kernel
theorem dX8_copy_108 : decode cX8_copy 108 = .ok (.iconst 2, 1) := by decide +kernel
theorem dX8_copy_109 : decode cX8_copy 109 = .ok (.invokevirtual 159, 3) := by decide +kernel
theorem dX8_copy_112 : decode cX8_copy 112 = .ok (.ireturn, 1) := by decide +kernel
theorem dX8_copy_113 : decode cX8_copy 113 = .ok (.aload_n 0, 1) := by decide +kernel
theorem dX8_copy_114 : decode cX8_copy 114 = .ok (.getfield 78, 3) := by decide +kernel
theorem dX8_copy_117 : decode cX8_copy 117 = .ok (.iload_n 1, 1) := by decide +kernel
theorem dX8_copy_118 : decode cX8_copy 118 = .ok (.aaload, 1) := by decide +kernel
theorem dX8_copy_119 : decode cX8_copy 119 = .ok (.getfield 295, 3) := by decide +kernel
theorem dX8_copy_122 : decode cX8_copy 122 = .ok (.iload_n 2, 1) := by decide +kernel
theorem dX8_copy_123 : decode cX8_copy 123 = .ok (.aload_n 0, 1) := by decide +kernel
theorem dX8_copy_124 : decode cX8_copy 124 = .ok (.getfield 78, 3) := by decide +kernel
theorem dX8_copy_127 : decode cX8_copy 127 = .ok (.iload_n 3, 1) := by decide +kernel
theorem dX8_copy_128 : decode cX8_copy 128 = .ok (.aaload, 1) := by decide +kernel
theorem dX8_copy_129 : decode cX8_copy 129 = .ok (.getfield 295, 3) := by decide +kernel
theorem dX8_copy_132 : decode cX8_copy 132 = .ok (.iload 4, 2) := by decide +kernel
theorem dX8_copy_134 : decode cX8_copy 134 = .ok (.iload 5, 2) := by decide +kernel
theorem dX8_copy_136 : decode cX8_copy 136 = .ok (.invokestatic 298, 3) := by decide +kernel
theorem dX8_copy_139 : decode cX8_copy 139 = .ok (.iconst 1, 1) := by decide +kernel
theorem dX8_copy_140 : decode cX8_copy 140 = .ok (.ireturn, 1) := by decide +kernel
theorem dX8_write_0 : decode cX8_write 0 = .ok (.iload_n 1, 1) := by decide +kernel
theorem dX8_write_1 : decode cX8_write 1 = .ok (.iconst 3, 1) := by decide +kernel
theorem dX8_write_2 : decode cX8_write 2 = .ok (.invokestatic 93, 3) := by decide +kernel
theorem dX8_write_5 : decode cX8_write 5 = .ok (.ifCond .eq 11, 3) := by decide +kernel
theorem dX8_write_8 : decode cX8_write 8 = .ok (.iload_n 2, 1) := by decide +kernel
theorem dX8_write_9 : decode cX8_write 9 = .ok (.iconst 4, 1) := by decide +kernel
theorem dX8_write_10 : decode cX8_write 10 = .ok (.invokestatic 93, 3) := by decide +kernel
theorem dX8_write_13 : decode cX8_write 13 = .ok (.ifCond .ne 6, 3) := by decide +kernel
theorem dX8_write_16 : decode cX8_write 16 = .ok (.bipush (-2), 2) := by decide +kernel
theorem dX8_write_18 : decode cX8_write 18 = .ok (.ireturn, 1) := by decide +kernel
theorem dX8_write_19 : decode cX8_write 19 = .ok (.aload_n 0, 1) := by decide +kernel
theorem dX8_write_20 : decode cX8_write 20 = .ok (.getfield 78, 3) := by decide +kernel
theorem dX8_write_23 : decode cX8_write 23 = .ok (.iload_n 2, 1) := by decide +kernel
theorem dX8_write_24 : decode cX8_write 24 = .ok (.aaload, 1) := by decide +kernel
theorem dX8_write_25 : decode cX8_write 25 = .ok (.invokevirtual 156, 3) := by decide +kernel
theorem dX8_write_28 : decode cX8_write 28 = .ok (.ifCond .eq 9, 3) := by decide +kernel
theorem dX8_write_31 : decode cX8_write 31 = .ok (.aload_n 0, 1) := by decide +kernel
theorem dX8_write_32 : decode cX8_write 32 = .ok (.iconst 1, 1) := by decide +kernel
theorem dX8_write_33 : decode cX8_write 33 = .ok (.invokevirtual 159, 3) := by decide +kernel
theorem dX8_write_36 : decode cX8_write 36 = .ok (.ireturn, 1) := by decide +kernel
theorem dX8_write_37 : decode cX8_write 37 = .ok (.aload_n 0, 1) := by decide +kernel
theorem dX8_write_38 : decode cX8_write 38 = .ok (.getfield 38, 3) := by decide +kernel
theorem dX8_write_41 : decode cX8_write 41 = .ok (.invokevirtual 131, 3) := by decide +kernel
theorem dX8_write_44 : decode cX8_write 44 = .ok (.aload_n 0, 1) := by decide +kernel
theorem dX8_write_45 : decode cX8_write 45 = .ok (.getfield 78, 3) := by decide +kernel
theorem dX8_write_48 : decode cX8_write 48 = .ok (.iload_n 2, 1) := by decide +kernel
theorem dX8_write_49 : decode cX8_write 49 = .ok (.aaload, 1) := by decide +kernel
theorem dX8_write_50 : decode cX8_write 50 = .ok (.getfield 275, 3) := by decide +kernel
theorem dX8_write_53 : decode cX8_write 53 = .ok (.aload_n 0, 1) := by decide +kernel
theorem dX8_write_54 : decode cX8_write 54 = .ok (.getfield 15, 3) := by decide +kernel
theorem dX8_write_57 : decode cX8_write 57 = .ok (.iconst 3, 1) := by decide +kernel
theorem dX8_write_58 : decode cX8_write 58 = .ok (.aaload, 1) := by decide +kernel
theorem dX8_write_59 : decode cX8_write 59 = .ok (.invokevirtual 264, 3) := by decide +kernel
theorem dX8_write_62 : decode cX8_write 62 = .ok (.invokestatic 176, 3) := by decide +kernel
theorem dX8_write_65 : decode cX8_write 65 = .ok (.istore_n 3, 1) := by decide +kernel
theorem dX8_write_66 : decode cX8_write 66 = .ok (.iconst 0, 1) := by decide +kernel
theorem dX8_write_67 : decode cX8_write 67 = .ok (.istore 4, 2) := by decide +kernel
theorem dX8_write_69 : decode cX8_write 69 = .ok (.iload 4, 2) := by decide +kernel
theorem dX8_write_71 : decode cX8_write 71 = .ok (.iload_n 3, 1) := by decide +kernel
theorem dX8_write_72 : decode cX8_write 72 = .ok (.if_icmp .ge 30, 3) := by decide +kernel
theorem dX8_write_75 : decode cX8_write 75 = .ok (.aload_n 0, 1) := by decide +kernel
theorem dX8_write_76 : decode cX8_write 76 = .ok (.getfield 78, 3) := by decide +kernel
theorem dX8_write_79 : decode cX8_write 79 = .ok (.iload_n 2, 1) := by decide +kernel
theorem dX8_write_80 : decode cX8_write 80 = .ok (.aaload, 1) := by decide +kernel
theorem dX8_write_81 : decode cX8_write 81 = .ok (.iload 4, 2) := by decide +kernel
theorem dX8_write_83 : decode cX8_write 83 = .ok (.aload_n 0, 1) := by decide +kernel
theorem dX8_write_84 : decode cX8_write 84 = .ok (.getfield 38, 3) := by decide +kernel
theorem dX8_write_87 : decode cX8_write 87 = .ok (.iload_n 1, 1) := by decide +kernel
theorem dX8_write_88 : decode cX8_write 88 = .ok (.iload 4, 2) := by decide +kernel
theorem dX8_write_90 : decode cX8_write 90 = .ok (.invokevirtual 192, 3) := by decide +kernel
theorem dX8_write_93 : decode cX8_write 93 = .ok (.invokevirtual 282, 3) := by decide +kernel
theorem dX8_write_96 : decode cX8_write 96 = .ok (.iinc 4 1, 3) := by decide +kernel
theorem dX8_write_99 : decode cX8_write 99 = .ok (.goto (-30), 3) := by decide +kernel
theorem dX8_write_102 : decode cX8_write 102 = .ok (.iload_n 3, 1) := by decide +kernel
theorem dX8_write_103 : decode cX8_write 103 = .ok (.ireturn, 1) := by decide +kernel
theorem dX8_count_0 : decode cX8_count 0 = .ok (.iload_n 1, 1) := by decide +kernel
theorem dX8_count_1 : decode cX8_count 1 = .ok (.tableswitch 110 0 8 #[51, 61, 61, 61, 73, 81, 92, 100, 105], 51) := by decide +kernel
theorem dX8_count_52 : decode cX8_count 52 = .ok (.aload_n 0, 1) := by decide +kernel
theorem dX8_count_53 : decode cX8_count 53 = .ok (.getfield 15, 3) := by decide +kernel
theorem dX8_count_56 : decode cX8_count 56 = .ok (.iconst 3, 1) := by decide +kernel
theorem dX8_count_57 : decode cX8_count 57 = .ok (.aaload, 1) := by decide +kernel
theorem dX8_count_58 : decode cX8_count 58 = .ok (.invokevirtual 264, 3) := by decide +kernel
theorem dX8_count_61 : decode cX8_count 61 = .ok (.ireturn, 1) := by decide +kernel
theorem dX8_count_62 : decode cX8_count 62 = .ok (.aload_n 0, 1) := by decide +kernel
theorem dX8_count_63 : decode cX8_count 63 = .ok (.getfield 15, 3) := by decide +kernel
theorem dX8_count_66 : decode cX8_count 66 = .ok (.iload_n 1, 1) := by decide +kernel
theorem dX8_count_67 : decode cX8_count 67 = .ok (.iconst 1, 1) := by decide +kernel
theorem dX8_count_68 : decode cX8_count 68 = .ok (.isub, 1) := by decide +kernel
theorem dX8_count_69 : decode cX8_count 69 = .ok (.aaload, 1) := by decide +kernel
theorem dX8_count_70 : decode cX8_count 70 = .ok (.invokevirtual 264, 3) := by decide +kernel
theorem dX8_count_73 : decode cX8_count 73 = .ok (.ireturn, 1) := by decide +kernel
theorem dX8_count_74 : decode cX8_count 74 = .ok (.aload_n 0, 1) := by decide +kernel
theorem dX8_count_75 : decode cX8_count 75 = .ok (.getfield 29, 3) := by decide +kernel
theorem dX8_count_78 : decode cX8_count 78 = .ok (.getfield 153, 3) := by decide +kernel
theorem dX8_count_81 : decode cX8_count 81 = .ok (.ireturn, 1) := by decide +kernel
theorem dX8_count_82 : decode cX8_count 82 = .ok (.aload_n 0, 1) := by decide +kernel
theorem dX8_count_83 : decode cX8_count 83 = .ok (.getfield 65, 3) := by decide +kernel
theorem dX8_count_86 : decode cX8_count 86 = .ok (.getfield 304, 3) := by decide +kernel
theorem dX8_count_89 : decode cX8_count 89 = .ok (.invokestatic 196, 3) := by decide +kernel
theorem dX8_count_92 : decode cX8_count 92 = .ok (.ireturn, 1) := by decide +kernel
theorem dX8_count_93 : decode cX8_count 93 = .ok (.aload_n 0, 1) := by decide +kernel
theorem dX8_count_94 : decode cX8_count 94 = .ok (.getfield 72, 3) := by decide +kernel
theorem dX8_count_97 : decode cX8_count 97 = .ok (.getfield 262, 3) := by decide +kernel
theorem dX8_count_100 : decode cX8_count 100 = .ok (.ireturn, 1) := by decide +kernel
theorem dX8_count_101 : decode cX8_count 101 = .ok (.aload_n 0, 1) := by decide +kernel
theorem dX8_count_102 : decode cX8_count 102 = .ok (.invokevirtual 252, 3) := by decide +kernel
theorem dX8_count_105 : decode cX8_count 105 = .ok (.ireturn, 1) := by decide +kernel
theorem dX8_count_106 : decode cX8_count 106 = .ok (.aload_n 0, 1) := by decide +kernel
theorem dX8_count_107 : decode cX8_count 107 = .ok (.getfield 82, 3) := by decide +kernel
theorem dX8_count_110 : decode cX8_count 110 = .ok (.ireturn, 1) := by decide +kernel
theorem dX8_count_111 : decode cX8_count 111 = .ok (.bipush (-2), 2) := by decide +kernel
theorem dX8_count_113 : decode cX8_count 113 = .ok (.ireturn, 1) := by decide +kernel
theorem dX8_digest_0 : decode cX8_digest 0 = .ok (.ldc2_w 307, 3) := by decide +kernel
theorem dX8_digest_3 : decode cX8_digest 3 = .ok (.lstore_n 1, 1) := by decide +kernel
theorem dX8_digest_4 : decode cX8_digest 4 = .ok (.iconst 0, 1) := by decide +kernel
theorem dX8_digest_5 : decode cX8_digest 5 = .ok (.istore_n 3, 1) := by decide +kernel
theorem dX8_digest_6 : decode cX8_digest 6 = .ok (.iload_n 3, 1) := by decide +kernel
theorem dX8_digest_7 : decode cX8_digest 7 = .ok (.bipush 7, 2) := by decide +kernel
theorem dX8_digest_9 : decode cX8_digest 9 = .ok (.if_icmp .gt 22, 3) := by decide +kernel
theorem dX8_digest_12 : decode cX8_digest 12 = .ok (.ldc2_w 309, 3) := by decide +kernel
theorem dX8_digest_15 : decode cX8_digest 15 = .ok (.lload_n 1, 1) := by decide +kernel
theorem dX8_digest_16 : decode cX8_digest 16 = .ok (.lmul, 1) := by decide +kernel
theorem dX8_digest_17 : decode cX8_digest 17 = .ok (.aload_n 0, 1) := by decide +kernel
theorem dX8_digest_18 : decode cX8_digest 18 = .ok (.iload_n 3, 1) := by decide +kernel
theorem dX8_digest_19 : decode cX8_digest 19 = .ok (.invokevirtual 311, 3) := by decide +kernel
theorem dX8_digest_22 : decode cX8_digest 22 = .ok (.i2l, 1) := by decide +kernel
theorem dX8_digest_23 : decode cX8_digest 23 = .ok (.ladd, 1) := by decide +kernel
theorem dX8_digest_24 : decode cX8_digest 24 = .ok (.lstore_n 1, 1) := by decide +kernel
theorem dX8_digest_25 : decode cX8_digest 25 = .ok (.iinc 3 1, 3) := by decide +kernel
theorem dX8_digest_28 : decode cX8_digest 28 = .ok (.goto (-22), 3) := by decide +kernel
theorem dX8_digest_31 : decode cX8_digest 31 = .ok (.iconst 0, 1) := by decide +kernel
theorem dX8_digest_32 : decode cX8_digest 32 = .ok (.istore_n 3, 1) := by decide +kernel
theorem dX8_digest_33 : decode cX8_digest 33 = .ok (.iload_n 3, 1) := by decide +kernel
theorem dX8_digest_34 : decode cX8_digest 34 = .ok (.iconst 4, 1) := by decide +kernel
theorem dX8_digest_35 : decode cX8_digest 35 = .ok (.if_icmp .ge 22, 3) := by decide +kernel
theorem dX8_digest_38 : decode cX8_digest 38 = .ok (.ldc2_w 309, 3) := by decide +kernel
theorem dX8_digest_41 : decode cX8_digest 41 = .ok (.lload_n 1, 1) := by decide +kernel
theorem dX8_digest_42 : decode cX8_digest 42 = .ok (.lmul, 1) := by decide +kernel
theorem dX8_digest_43 : decode cX8_digest 43 = .ok (.aload_n 0, 1) := by decide +kernel
theorem dX8_digest_44 : decode cX8_digest 44 = .ok (.iload_n 3, 1) := by decide +kernel
theorem dX8_digest_45 : decode cX8_digest 45 = .ok (.invokevirtual 314, 3) := by decide +kernel
theorem dX8_digest_48 : decode cX8_digest 48 = .ok (.i2l, 1) := by decide +kernel
theorem dX8_digest_49 : decode cX8_digest 49 = .ok (.ladd, 1) := by decide +kernel
theorem dX8_digest_50 : decode cX8_digest 50 = .ok (.lstore_n 1, 1) := by decide +kernel
theorem dX8_digest_51 : decode cX8_digest 51 = .ok (.iinc 3 1, 3) := by decide +kernel
theorem dX8_digest_54 : decode cX8_digest 54 = .ok (.goto (-21), 3) := by decide +kernel
theorem dX8_digest_57 : decode cX8_digest 57 = .ok (.aload_n 0, 1) := by decide +kernel
theorem dX8_digest_58 : decode cX8_digest 58 = .ok (.getfield 15, 3) := by decide +kernel
theorem dX8_digest_61 : decode cX8_digest 61 = .ok (.iconst 3, 1) := by decide +kernel
theorem dX8_digest_62 : decode cX8_digest 62 = .ok (.aaload, 1) := by decide +kernel
theorem dX8_digest_63 : decode cX8_digest 63 = .ok (.invokevirtual 264, 3) := by decide +kernel
theorem dX8_digest_66 : decode cX8_digest 66 = .ok (.istore_n 3, 1) := by decide +kernel
theorem dX8_digest_67 : decode cX8_digest 67 = .ok (.iconst 0, 1) := by decide +kernel
theorem dX8_digest_68 : decode cX8_digest 68 = .ok (.istore 4, 2) := by decide +kernel
theorem dX8_digest_70 : decode cX8_digest 70 = .ok (.iload 4, 2) := by decide +kernel
theorem dX8_digest_72 : decode cX8_digest 72 = .ok (.iload_n 3, 1) := by decide +kernel
theorem dX8_digest_73 : decode cX8_digest 73 = .ok (.if_icmp .ge 23, 3) := by decide +kernel
theorem dX8_digest_76 : decode cX8_digest 76 = .ok (.ldc2_w 309, 3) := by decide +kernel
theorem dX8_digest_79 : decode cX8_digest 79 = .ok (.lload_n 1, 1) := by decide +kernel
theorem dX8_digest_80 : decode cX8_digest 80 = .ok (.lmul, 1) := by decide +kernel
theorem dX8_digest_81 : decode cX8_digest 81 = .ok (.aload_n 0, 1) := by decide +kernel
theorem dX8_digest_82 : decode cX8_digest 82 = .ok (.iload 4, 2) := by decide +kernel
theorem dX8_digest_84 : decode cX8_digest 84 = .ok (.invokevirtual 317, 3) := by decide +kernel
theorem dX8_digest_87 : decode cX8_digest 87 = .ok (.i2l, 1) := by decide +kernel
theorem dX8_digest_88 : decode cX8_digest 88 = .ok (.ladd, 1) := by decide +kernel
theorem dX8_digest_89 : decode cX8_digest 89 = .ok (.lstore_n 1, 1) := by decide +kernel
theorem dX8_digest_90 : decode cX8_digest 90 = .ok (.iinc 4 1, 3) := by decide +kernel
theorem dX8_digest_93 : decode cX8_digest 93 = .ok (.goto (-23), 3) := by decide +kernel
theorem dX8_digest_96 : decode cX8_digest 96 = .ok (.iconst 0, 1) := by decide +kernel
theorem dX8_digest_97 : decode cX8_digest 97 = .ok (.istore 4, 2) := by decide +kernel
theorem dX8_digest_99 : decode cX8_digest 99 = .ok (.iload 4, 2) := by decide +kernel
theorem dX8_digest_101 : decode cX8_digest 101 = .ok (.iconst 3, 1) := by decide +kernel
theorem dX8_digest_102 : decode cX8_digest 102 = .ok (.if_icmp .ge 17, 3) := by decide +kernel
theorem dX8_digest_105 : decode cX8_digest 105 = .ok (.aload_n 0, 1) := by decide +kernel
theorem dX8_digest_106 : decode cX8_digest 106 = .ok (.lload_n 1, 1) := by decide +kernel
theorem dX8_digest_107 : decode cX8_digest 107 = .ok (.iload 4, 2) := by decide +kernel
theorem dX8_digest_109 : decode cX8_digest 109 = .ok (.invokevirtual 320, 3) := by decide +kernel
theorem dX8_digest_112 : decode cX8_digest 112 = .ok (.lstore_n 1, 1) := by decide +kernel
theorem dX8_digest_113 : decode cX8_digest 113 = .ok (.iinc 4 1, 3) := by decide +kernel
theorem dX8_digest_116 : decode cX8_digest 116 = .ok (.goto (-17), 3) := by decide +kernel
theorem dX8_digest_119 : decode cX8_digest 119 = .ok (.ldc2_w 309, 3) := by decide +kernel
theorem dX8_digest_122 : decode cX8_digest 122 = .ok (.lload_n 1, 1) := by decide +kernel
theorem dX8_digest_123 : decode cX8_digest 123 = .ok (.lmul, 1) := by decide +kernel
theorem dX8_digest_124 : decode cX8_digest 124 = .ok (.aload_n 0, 1) := by decide +kernel
theorem dX8_digest_125 : decode cX8_digest 125 = .ok (.iconst 0, 1) := by decide +kernel
theorem dX8_digest_126 : decode cX8_digest 126 = .ok (.invokevirtual 324, 3) := by decide +kernel
theorem dX8_digest_129 : decode cX8_digest 129 = .ok (.i2l, 1) := by decide +kernel
theorem dX8_digest_130 : decode cX8_digest 130 = .ok (.ladd, 1) := by decide +kernel
theorem dX8_digest_131 : decode cX8_digest 131 = .ok (.lstore_n 1, 1) := by decide +kernel
theorem dX8_digest_132 : decode cX8_digest 132 = .ok (.ldc2_w 309, 3) := by decide +kernel
theorem dX8_digest_135 : decode cX8_digest 135 = .ok (.lload_n 1, 1) := by decide +kernel
theorem dX8_digest_136 : decode cX8_digest 136 = .ok (.lmul, 1) := by decide +kernel
theorem dX8_digest_137 : decode cX8_digest 137 = .ok (.aload_n 0, 1) := by decide +kernel
theorem dX8_digest_138 : decode cX8_digest 138 = .ok (.iconst 1, 1) := by decide +kernel
theorem dX8_digest_139 : decode cX8_digest 139 = .ok (.invokevirtual 324, 3) := by decide +kernel
theorem dX8_digest_142 : decode cX8_digest 142 = .ok (.i2l, 1) := by decide +kernel
theorem dX8_digest_143 : decode cX8_digest 143 = .ok (.ladd, 1) := by decide +kernel
theorem dX8_digest_144 : decode cX8_digest 144 = .ok (.lstore_n 1, 1) := by decide +kernel
theorem dX8_digest_145 : decode cX8_digest 145 = .ok (.ldc2_w 309, 3) := by decide +kernel
theorem dX8_digest_148 : decode cX8_digest 148 = .ok (.lload_n 1, 1) := by decide +kernel
theorem dX8_digest_149 : decode cX8_digest 149 = .ok (.lmul, 1) := by decide +kernel
theorem dX8_digest_150 : decode cX8_digest 150 = .ok (.aload_n 0, 1) := by decide +kernel
theorem dX8_digest_151 : decode cX8_digest 151 = .ok (.iconst 0, 1) := by decide +kernel
theorem dX8_digest_152 : decode cX8_digest 152 = .ok (.invokevirtual 327, 3) := by decide +kernel
theorem dX8_digest_155 : decode cX8_digest 155 = .ok (.ladd, 1) := by decide +kernel
theorem dX8_digest_156 : decode cX8_digest 156 = .ok (.lstore_n 1, 1) := by decide +kernel
theorem dX8_digest_157 : decode cX8_digest 157 = .ok (.ldc2_w 309, 3) := by decide +kernel
theorem dX8_digest_160 : decode cX8_digest 160 = .ok (.lload_n 1, 1) := by decide +kernel
theorem dX8_digest_161 : decode cX8_digest 161 = .ok (.lmul, 1) := by decide +kernel
theorem dX8_digest_162 : decode cX8_digest 162 = .ok (.aload_n 0, 1) := by decide +kernel
theorem dX8_digest_163 : decode cX8_digest 163 = .ok (.iconst 1, 1) := by decide +kernel
theorem dX8_digest_164 : decode cX8_digest 164 = .ok (.invokevirtual 327, 3) := by decide +kernel
theorem dX8_digest_167 : decode cX8_digest 167 = .ok (.ladd, 1) := by decide +kernel
theorem dX8_digest_168 : decode cX8_digest 168 = .ok (.lstore_n 1, 1) := by decide +kernel
theorem dX8_digest_169 : decode cX8_digest 169 = .ok (.ldc2_w 309, 3) := by decide +kernel
theorem dX8_digest_172 : decode cX8_digest 172 = .ok (.lload_n 1, 1) := by decide +kernel
theorem dX8_digest_173 : decode cX8_digest 173 = .ok (.lmul, 1) := by decide +kernel
theorem dX8_digest_174 : decode cX8_digest 174 = .ok (.aload_n 0, 1) := by decide +kernel
theorem dX8_digest_175 : decode cX8_digest 175 = .ok (.invokevirtual 331, 3) := by decide +kernel
theorem dX8_digest_178 : decode cX8_digest 178 = .ok (.i2l, 1) := by decide +kernel
theorem dX8_digest_179 : decode cX8_digest 179 = .ok (.ladd, 1) := by decide +kernel
theorem dX8_digest_180 : decode cX8_digest 180 = .ok (.lstore_n 1, 1) := by decide +kernel
theorem dX8_digest_181 : decode cX8_digest 181 = .ok (.ldc2_w 309, 3) := by decide +kernel
theorem dX8_digest_184 : decode cX8_digest 184 = .ok (.lload_n 1, 1) := by decide +kernel
theorem dX8_digest_185 : decode cX8_digest 185 = .ok (.lmul, 1) := by decide +kernel
theorem dX8_digest_186 : decode cX8_digest 186 = .ok (.aload_n 0, 1) := by decide +kernel
theorem dX8_digest_187 : decode cX8_digest 187 = .ok (.invokevirtual 334, 3) := by decide +kernel
theorem dX8_digest_190 : decode cX8_digest 190 = .ok (.i2l, 1) := by decide +kernel
theorem dX8_digest_191 : decode cX8_digest 191 = .ok (.ladd, 1) := by decide +kernel
theorem dX8_digest_192 : decode cX8_digest 192 = .ok (.lreturn, 1) := by decide +kernel
theorem dX8_digestSpring_0 : decode cX8_digestSpring 0 = .ok (.ldc2_w 309, 3) := by decide +kernel
theorem dX8_digestSpring_3 : decode cX8_digestSpring 3 = .ok (.lload_n 1, 1) := by decide +kernel
theorem dX8_digestSpring_4 : decode cX8_digestSpring 4 = .ok (.lmul, 1) := by decide +kernel
theorem dX8_digestSpring_5 : decode cX8_digestSpring 5 = .ok (.aload_n 0, 1) := by decide +kernel
theorem dX8_digestSpring_6 : decode cX8_digestSpring 6 = .ok (.iload_n 3, 1) := by decide +kernel
theorem dX8_digestSpring_7 : decode cX8_digestSpring 7 = .ok (.invokevirtual 337, 3) := by decide +kernel
theorem dX8_digestSpring_10 : decode cX8_digestSpring 10 = .ok (.i2l, 1) := by decide +kernel
theorem dX8_digestSpring_11 : decode cX8_digestSpring 11 = .ok (.ladd, 1) := by decide +kernel
theorem dX8_digestSpring_12 : decode cX8_digestSpring 12 = .ok (.lstore 4, 2) := by decide +kernel
theorem dX8_digestSpring_14 : decode cX8_digestSpring 14 = .ok (.ldc2_w 309, 3) := by decide +kernel
theorem dX8_digestSpring_17 : decode cX8_digestSpring 17 = .ok (.lload 4, 2) := by decide +kernel
theorem dX8_digestSpring_19 : decode cX8_digestSpring 19 = .ok (.lmul, 1) := by decide +kernel
theorem dX8_digestSpring_20 : decode cX8_digestSpring 20 = .ok (.aload_n 0, 1) := by decide +kernel
theorem dX8_digestSpring_21 : decode cX8_digestSpring 21 = .ok (.iload_n 3, 1) := by decide +kernel
theorem dX8_digestSpring_22 : decode cX8_digestSpring 22 = .ok (.iconst 5, 1) := by decide +kernel
theorem dX8_digestSpring_23 : decode cX8_digestSpring 23 = .ok (.iconst 0, 1) := by decide +kernel
theorem dX8_digestSpring_24 : decode cX8_digestSpring 24 = .ok (.invokevirtual 340, 3) := by decide +kernel
theorem dX8_digestSpring_27 : decode cX8_digestSpring 27 = .ok (.i2l, 1) := by decide +kernel
theorem dX8_digestSpring_28 : decode cX8_digestSpring 28 = .ok (.ladd, 1) := by decide +kernel
theorem dX8_digestSpring_29 : decode cX8_digestSpring 29 = .ok (.lstore 4, 2) := by decide +kernel
theorem dX8_digestSpring_31 : decode cX8_digestSpring 31 = .ok (.ldc2_w 309, 3) := by decide +kernel
theorem dX8_digestSpring_34 : decode cX8_digestSpring 34 = .ok (.lload 4, 2) := by decide +kernel
theorem dX8_digestSpring_36 : decode cX8_digestSpring 36 = .ok (.lmul, 1) := by decide +kernel
theorem dX8_digestSpring_37 : decode cX8_digestSpring 37 = .ok (.aload_n 0, 1) := by decide +kernel
theorem dX8_digestSpring_38 : decode cX8_digestSpring 38 = .ok (.iload_n 3, 1) := by decide +kernel
theorem dX8_digestSpring_39 : decode cX8_digestSpring 39 = .ok (.iconst 5, 1) := by decide +kernel
theorem dX8_digestSpring_40 : decode cX8_digestSpring 40 = .ok (.iconst 1, 1) := by decide +kernel
theorem dX8_digestSpring_41 : decode cX8_digestSpring 41 = .ok (.invokevirtual 340, 3) := by decide +kernel
theorem dX8_digestSpring_44 : decode cX8_digestSpring 44 = .ok (.i2l, 1) := by decide +kernel
theorem dX8_digestSpring_45 : decode cX8_digestSpring 45 = .ok (.ladd, 1) := by decide +kernel
theorem dX8_digestSpring_46 : decode cX8_digestSpring 46 = .ok (.lstore 4, 2) := by decide +kernel
theorem dX8_digestSpring_48 : decode cX8_digestSpring 48 = .ok (.iconst 0, 1) := by decide +kernel
theorem dX8_digestSpring_49 : decode cX8_digestSpring 49 = .ok (.istore 6, 2) := by decide +kernel
theorem dX8_digestSpring_51 : decode cX8_digestSpring 51 = .ok (.iload 6, 2) := by decide +kernel
theorem dX8_digestSpring_53 : decode cX8_digestSpring 53 = .ok (.iconst 3, 1) := by decide +kernel
theorem dX8_digestSpring_54 : decode cX8_digestSpring 54 = .ok (.if_icmp .ge 29, 3) := by decide +kernel
theorem dX8_digestSpring_57 : decode cX8_digestSpring 57 = .ok (.ldc2_w 309, 3) := by decide +kernel
theorem dX8_digestSpring_60 : decode cX8_digestSpring 60 = .ok (.lload 4, 2) := by decide +kernel
theorem dX8_digestSpring_62 : decode cX8_digestSpring 62 = .ok (.lmul, 1) := by decide +kernel
theorem dX8_digestSpring_63 : decode cX8_digestSpring 63 = .ok (.aload_n 0, 1) := by decide +kernel
theorem dX8_digestSpring_64 : decode cX8_digestSpring 64 = .ok (.iload_n 3, 1) := by decide +kernel
theorem dX8_digestSpring_65 : decode cX8_digestSpring 65 = .ok (.iconst 5, 1) := by decide +kernel
theorem dX8_digestSpring_66 : decode cX8_digestSpring 66 = .ok (.iconst 0, 1) := by decide +kernel
theorem dX8_digestSpring_67 : decode cX8_digestSpring 67 = .ok (.iconst 3, 1) := by decide +kernel
theorem dX8_digestSpring_68 : decode cX8_digestSpring 68 = .ok (.iload 6, 2) := by decide +kernel
theorem dX8_digestSpring_70 : decode cX8_digestSpring 70 = .ok (.invokevirtual 343, 3) := by decide +kernel
theorem dX8_digestSpring_73 : decode cX8_digestSpring 73 = .ok (.i2l, 1) := by decide +kernel
theorem dX8_digestSpring_74 : decode cX8_digestSpring 74 = .ok (.ladd, 1) := by decide +kernel
theorem dX8_digestSpring_75 : decode cX8_digestSpring 75 = .ok (.lstore 4, 2) := by decide +kernel
theorem dX8_digestSpring_77 : decode cX8_digestSpring 77 = .ok (.iinc 6 1, 3) := by decide +kernel
theorem dX8_digestSpring_80 : decode cX8_digestSpring 80 = .ok (.goto (-29), 3) := by decide +kernel
theorem dX8_digestSpring_83 : decode cX8_digestSpring 83 = .ok (.iconst 0, 1) := by decide +kernel
theorem dX8_digestSpring_84 : decode cX8_digestSpring 84 = .ok (.istore 6, 2) := by decide +kernel
theorem dX8_digestSpring_86 : decode cX8_digestSpring 86 = .ok (.iload 6, 2) := by decide +kernel
theorem dX8_digestSpring_88 : decode cX8_digestSpring 88 = .ok (.iconst 3, 1) := by decide +kernel
theorem dX8_digestSpring_89 : decode cX8_digestSpring 89 = .ok (.if_icmp .ge 26, 3) := by decide +kernel
theorem dX8_digestSpring_92 : decode cX8_digestSpring 92 = .ok (.ldc2_w 309, 3) := by decide +kernel
theorem dX8_digestSpring_95 : decode cX8_digestSpring 95 = .ok (.lload 4, 2) := by decide +kernel
theorem dX8_digestSpring_97 : decode cX8_digestSpring 97 = .ok (.lmul, 1) := by decide +kernel
theorem dX8_digestSpring_98 : decode cX8_digestSpring 98 = .ok (.aload_n 0, 1) := by decide +kernel
theorem dX8_digestSpring_99 : decode cX8_digestSpring 99 = .ok (.iload_n 3, 1) := by decide +kernel
theorem dX8_digestSpring_100 : decode cX8_digestSpring 100 = .ok (.iload 6, 2) := by decide +kernel
theorem dX8_digestSpring_102 : decode cX8_digestSpring 102 = .ok (.invokevirtual 347, 3) := by decide +kernel
theorem dX8_digestSpring_105 : decode cX8_digestSpring 105 = .ok (.i2l, 1) := by decide +kernel
theorem dX8_digestSpring_106 : decode cX8_digestSpring 106 = .ok (.ladd, 1) := by decide +kernel
theorem dX8_digestSpring_107 : decode cX8_digestSpring 107 = .ok (.lstore 4, 2) := by decide +kernel
theorem dX8_digestSpring_109 : decode cX8_digestSpring 109 = .ok (.iinc 6 1, 3) := by decide +kernel
theorem dX8_digestSpring_112 : decode cX8_digestSpring 112 = .ok (.goto (-26), 3) := by decide +kernel
theorem dX8_digestSpring_115 : decode cX8_digestSpring 115 = .ok (.ldc2_w 309, 3) := by decide +kernel
theorem dX8_digestSpring_118 : decode cX8_digestSpring 118 = .ok (.lload 4, 2) := by decide +kernel
theorem dX8_digestSpring_120 : decode cX8_digestSpring 120 = .ok (.lmul, 1) := by decide +kernel
theorem dX8_digestSpring_121 : decode cX8_digestSpring 121 = .ok (.aload_n 0, 1) := by decide +kernel
theorem dX8_digestSpring_122 : decode cX8_digestSpring 122 = .ok (.iload_n 3, 1) := by decide +kernel
theorem dX8_digestSpring_123 : decode cX8_digestSpring 123 = .ok (.iconst 4, 1) := by decide +kernel
theorem dX8_digestSpring_124 : decode cX8_digestSpring 124 = .ok (.iconst 0, 1) := by decide +kernel
theorem dX8_digestSpring_125 : decode cX8_digestSpring 125 = .ok (.iconst 2, 1) := by decide +kernel
theorem dX8_digestSpring_126 : decode cX8_digestSpring 126 = .ok (.iconst 0, 1) := by decide +kernel
theorem dX8_digestSpring_127 : decode cX8_digestSpring 127 = .ok (.invokevirtual 350, 3) := by decide +kernel
theorem dX8_digestSpring_130 : decode cX8_digestSpring 130 = .ok (.ladd, 1) := by decide +kernel
theorem dX8_digestSpring_131 : decode cX8_digestSpring 131 = .ok (.lstore 4, 2) := by decide +kernel
theorem dX8_digestSpring_133 : decode cX8_digestSpring 133 = .ok (.ldc2_w 309, 3) := by decide +kernel
theorem dX8_digestSpring_136 : decode cX8_digestSpring 136 = .ok (.lload 4, 2) := by decide +kernel
theorem dX8_digestSpring_138 : decode cX8_digestSpring 138 = .ok (.lmul, 1) := by decide +kernel
theorem dX8_digestSpring_139 : decode cX8_digestSpring 139 = .ok (.aload_n 0, 1) := by decide +kernel
theorem dX8_digestSpring_140 : decode cX8_digestSpring 140 = .ok (.iload_n 3, 1) := by decide +kernel
theorem dX8_digestSpring_141 : decode cX8_digestSpring 141 = .ok (.iconst 4, 1) := by decide +kernel
theorem dX8_digestSpring_142 : decode cX8_digestSpring 142 = .ok (.iconst 0, 1) := by decide +kernel
theorem dX8_digestSpring_143 : decode cX8_digestSpring 143 = .ok (.iconst 2, 1) := by decide +kernel
theorem dX8_digestSpring_144 : decode cX8_digestSpring 144 = .ok (.iconst 1, 1) := by decide +kernel
theorem dX8_digestSpring_145 : decode cX8_digestSpring 145 = .ok (.invokevirtual 350, 3) := by decide +kernel
theorem dX8_digestSpring_148 : decode cX8_digestSpring 148 = .ok (.ladd, 1) := by decide +kernel
theorem dX8_digestSpring_149 : decode cX8_digestSpring 149 = .ok (.lstore 4, 2) := by decide +kernel
theorem dX8_digestSpring_151 : decode cX8_digestSpring 151 = .ok (.ldc2_w 309, 3) := by decide +kernel
theorem dX8_digestSpring_154 : decode cX8_digestSpring 154 = .ok (.lload 4, 2) := by decide +kernel
theorem dX8_digestSpring_156 : decode cX8_digestSpring 156 = .ok (.lmul, 1) := by decide +kernel
theorem dX8_digestSpring_157 : decode cX8_digestSpring 157 = .ok (.aload_n 0, 1) := by decide +kernel
theorem dX8_digestSpring_158 : decode cX8_digestSpring 158 = .ok (.iload_n 3, 1) := by decide +kernel
theorem dX8_digestSpring_159 : decode cX8_digestSpring 159 = .ok (.iconst 4, 1) := by decide +kernel
theorem dX8_digestSpring_160 : decode cX8_digestSpring 160 = .ok (.iconst 0, 1) := by decide +kernel
theorem dX8_digestSpring_161 : decode cX8_digestSpring 161 = .ok (.iconst 2, 1) := by decide +kernel
theorem dX8_digestSpring_162 : decode cX8_digestSpring 162 = .ok (.invokevirtual 354, 3) := by decide +kernel
theorem dX8_digestSpring_165 : decode cX8_digestSpring 165 = .ok (.i2l, 1) := by decide +kernel
theorem dX8_digestSpring_166 : decode cX8_digestSpring 166 = .ok (.ladd, 1) := by decide +kernel
theorem dX8_digestSpring_167 : decode cX8_digestSpring 167 = .ok (.lstore 4, 2) := by decide +kernel
theorem dX8_digestSpring_169 : decode cX8_digestSpring 169 = .ok (.iconst 0, 1) := by decide +kernel
theorem dX8_digestSpring_170 : decode cX8_digestSpring 170 = .ok (.istore 6, 2) := by decide +kernel
theorem dX8_digestSpring_172 : decode cX8_digestSpring 172 = .ok (.iload 6, 2) := by decide +kernel
theorem dX8_digestSpring_174 : decode cX8_digestSpring 174 = .ok (.iconst 3, 1) := by decide +kernel
theorem dX8_digestSpring_175 : decode cX8_digestSpring 175 = .ok (.if_icmp .ge 30, 3) := by decide +kernel
theorem dX8_digestSpring_178 : decode cX8_digestSpring 178 = .ok (.ldc2_w 309, 3) := by decide +kernel
theorem dX8_digestSpring_181 : decode cX8_digestSpring 181 = .ok (.lload 4, 2) := by decide +kernel
theorem dX8_digestSpring_183 : decode cX8_digestSpring 183 = .ok (.lmul, 1) := by decide +kernel
theorem dX8_digestSpring_184 : decode cX8_digestSpring 184 = .ok (.aload_n 0, 1) := by decide +kernel
theorem dX8_digestSpring_185 : decode cX8_digestSpring 185 = .ok (.iload_n 3, 1) := by decide +kernel
theorem dX8_digestSpring_186 : decode cX8_digestSpring 186 = .ok (.iconst 5, 1) := by decide +kernel
theorem dX8_digestSpring_187 : decode cX8_digestSpring 187 = .ok (.iconst 0, 1) := by decide +kernel
theorem dX8_digestSpring_188 : decode cX8_digestSpring 188 = .ok (.iconst 4, 1) := by decide +kernel
theorem dX8_digestSpring_189 : decode cX8_digestSpring 189 = .ok (.iconst 2, 1) := by decide +kernel
theorem dX8_digestSpring_190 : decode cX8_digestSpring 190 = .ok (.iload 6, 2) := by decide +kernel
theorem dX8_digestSpring_192 : decode cX8_digestSpring 192 = .ok (.invokevirtual 357, 3) := by decide +kernel
theorem dX8_digestSpring_195 : decode cX8_digestSpring 195 = .ok (.i2l, 1) := by decide +kernel
theorem dX8_digestSpring_196 : decode cX8_digestSpring 196 = .ok (.ladd, 1) := by decide +kernel
theorem dX8_digestSpring_197 : decode cX8_digestSpring 197 = .ok (.lstore 4, 2) := by decide +kernel
theorem dX8_digestSpring_199 : decode cX8_digestSpring 199 = .ok (.iinc 6 1, 3) := by decide +kernel
theorem dX8_digestSpring_202 : decode cX8_digestSpring 202 = .ok (.goto (-30), 3) := by decide +kernel
theorem dX8_digestSpring_205 : decode cX8_digestSpring 205 = .ok (.ldc2_w 309, 3) := by decide +kernel
theorem dX8_digestSpring_208 : decode cX8_digestSpring 208 = .ok (.lload 4, 2) := by decide +kernel
theorem dX8_digestSpring_210 : decode cX8_digestSpring 210 = .ok (.lmul, 1) := by decide +kernel
theorem dX8_digestSpring_211 : decode cX8_digestSpring 211 = .ok (.aload_n 0, 1) := by decide +kernel
theorem dX8_digestSpring_212 : decode cX8_digestSpring 212 = .ok (.iload_n 3, 1) := by decide +kernel
theorem dX8_digestSpring_213 : decode cX8_digestSpring 213 = .ok (.iconst 0, 1) := by decide +kernel
theorem dX8_digestSpring_214 : decode cX8_digestSpring 214 = .ok (.invokevirtual 361, 3) := by decide +kernel
theorem dX8_digestSpring_217 : decode cX8_digestSpring 217 = .ok (.i2l, 1) := by decide +kernel
theorem dX8_digestSpring_218 : decode cX8_digestSpring 218 = .ok (.ladd, 1) := by decide +kernel
theorem dX8_digestSpring_219 : decode cX8_digestSpring 219 = .ok (.lreturn, 1) := by decide +kernel
theorem dX8_find_0 : decode cX8_find 0 = .ok (.aload_n 0, 1) := by decide +kernel
theorem dX8_find_1 : decode cX8_find 1 = .ok (.iload_n 1, 1) := by decide +kernel
theorem dX8_find_2 : decode cX8_find 2 = .ok (.putfield 82, 3) := by decide +kernel
theorem dX8_find_5 : decode cX8_find 5 = .ok (.bipush (-10), 2) := by decide +kernel
theorem dX8_find_7 : decode cX8_find 7 = .ok (.iload_n 1, 1) := by decide +kernel
theorem dX8_find_8 : decode cX8_find 8 = .ok (.isub, 1) := by decide +kernel
theorem dX8_find_9 : decode cX8_find 9 = .ok (.ireturn, 1) := by decide +kernel
theorem dX8_isYard_0 : decode cX8_isYard 0 = .ok (.iload_n 1, 1) := by decide +kernel
theorem dX8_isYard_1 : decode cX8_isYard 1 = .ok (.aload_n 0, 1) := by decide +kernel
theorem dX8_isYard_2 : decode cX8_isYard 2 = .ok (.getfield 15, 3) := by decide +kernel
theorem dX8_isYard_5 : decode cX8_isYard 5 = .ok (.iconst 3, 1) := by decide +kernel
theorem dX8_isYard_6 : decode cX8_isYard 6 = .ok (.aaload, 1) := by decide +kernel
theorem dX8_isYard_7 : decode cX8_isYard 7 = .ok (.invokevirtual 264, 3) := by decide +kernel
theorem dX8_isYard_10 : decode cX8_isYard 10 = .ok (.invokestatic 93, 3) := by decide +kernel
theorem dX8_isYard_13 : decode cX8_isYard 13 = .ok (.ireturn, 1) := by decide +kernel
theorem dX8_isSpringDay_0 : decode cX8_isSpringDay 0 = .ok (.iload_n 0, 1) := by decide +kernel
theorem dX8_isSpringDay_1 : decode cX8_isSpringDay 1 = .ok (.ifCond .lt 22, 3) := by decide +kernel
theorem dX8_isSpringDay_4 : decode cX8_isSpringDay 4 = .ok (.iload_n 0, 1) := by decide +kernel
theorem dX8_isSpringDay_5 : decode cX8_isSpringDay 5 = .ok (.iconst 3, 1) := by decide +kernel
theorem dX8_isSpringDay_6 : decode cX8_isSpringDay 6 = .ok (.if_icmp .ge 17, 3) := by decide +kernel
theorem dX8_isSpringDay_9 : decode cX8_isSpringDay 9 = .ok (.iload_n 1, 1) := by decide +kernel
theorem dX8_isSpringDay_10 : decode cX8_isSpringDay 10 = .ok (.ifCond .lt 13, 3) := by decide +kernel
theorem dX8_isSpringDay_13 : decode cX8_isSpringDay 13 = .ok (.iload_n 1, 1) := by decide +kernel
theorem dX8_isSpringDay_14 : decode cX8_isSpringDay 14 = .ok (.bipush 30, 2) := by decide +kernel
theorem dX8_isSpringDay_16 : decode cX8_isSpringDay 16 = .ok (.if_icmp .ge 7, 3) := by decide +kernel
theorem dX8_isSpringDay_19 : decode cX8_isSpringDay 19 = .ok (.iconst 1, 1) := by decide +kernel
theorem dX8_isSpringDay_20 : decode cX8_isSpringDay 20 = .ok (.goto 4, 3) := by decide +kernel
theorem dX8_isSpringDay_23 : decode cX8_isSpringDay 23 = .ok (.iconst 0, 1) := by decide +kernel
theorem dX8_isSpringDay_24 : decode cX8_isSpringDay 24 = .ok (.ireturn, 1) := by decide +kernel
theorem dX8_allChances_0 : decode cX8_allChances 0 = .ok (.iconst 0, 1) := by decide +kernel
theorem dX8_allChances_1 : decode cX8_allChances 1 = .ok (.istore_n 1, 1) := by decide +kernel
theorem dX8_allChances_2 : decode cX8_allChances 2 = .ok (.iconst 0, 1) := by decide +kernel
theorem dX8_allChances_3 : decode cX8_allChances 3 = .ok (.istore_n 2, 1) := by decide +kernel
theorem dX8_allChances_4 : decode cX8_allChances 4 = .ok (.iload_n 2, 1) := by decide +kernel
theorem dX8_allChances_5 : decode cX8_allChances 5 = .ok (.iconst 3, 1) := by decide +kernel
theorem dX8_allChances_6 : decode cX8_allChances 6 = .ok (.if_icmp .ge 18, 3) := by decide +kernel
theorem dX8_allChances_9 : decode cX8_allChances 9 = .ok (.iload_n 1, 1) := by decide +kernel
theorem dX8_allChances_10 : decode cX8_allChances 10 = .ok (.aload_n 0, 1) := by decide +kernel
theorem dX8_allChances_11 : decode cX8_allChances 11 = .ok (.getfield 23, 3) := by decide +kernel
theorem dX8_allChances_14 : decode cX8_allChances 14 = .ok (.iload_n 2, 1) := by decide +kernel
theorem dX8_allChances_15 : decode cX8_allChances 15 = .ok (.iaload, 1) := by decide +kernel
theorem dX8_allChances_16 : decode cX8_allChances 16 = .ok (.iadd, 1) := by decide +kernel
theorem dX8_allChances_17 : decode cX8_allChances 17 = .ok (.istore_n 1, 1) := by decide +kernel
theorem dX8_allChances_18 : decode cX8_allChances 18 = .ok (.iinc 2 1, 3) := by decide +kernel
theorem dX8_allChances_21 : decode cX8_allChances 21 = .ok (.goto (-17), 3) := by decide +kernel
theorem dX8_allChances_24 : decode cX8_allChances 24 = .ok (.iload_n 1, 1) := by decide +kernel
theorem dX8_allChances_25 : decode cX8_allChances 25 = .ok (.ireturn, 1) := by decide +kernel
theorem dX8_levelKinds_0 : decode cX8_levelKinds 0 = .ok (.iconst 0, 1) := by decide +kernel
theorem dX8_levelKinds_1 : decode cX8_levelKinds 1 = .ok (.istore_n 2, 1) := by decide +kernel
theorem dX8_levelKinds_2 : decode cX8_levelKinds 2 = .ok (.iconst 0, 1) := by decide +kernel
theorem dX8_levelKinds_3 : decode cX8_levelKinds 3 = .ok (.istore_n 3, 1) := by decide +kernel
theorem dX8_levelKinds_4 : decode cX8_levelKinds 4 = .ok (.iload_n 3, 1) := by decide +kernel
theorem dX8_levelKinds_5 : decode cX8_levelKinds 5 = .ok (.iconst 3, 1) := by decide +kernel
theorem dX8_levelKinds_6 : decode cX8_levelKinds 6 = .ok (.if_icmp .ge 32, 3) := by decide +kernel
theorem dX8_levelKinds_9 : decode cX8_levelKinds 9 = .ok (.aload_n 0, 1) := by decide +kernel
theorem dX8_levelKinds_10 : decode cX8_levelKinds 10 = .ok (.getfield 23, 3) := by decide +kernel
theorem dX8_levelKinds_13 : decode cX8_levelKinds 13 = .ok (.iload_n 3, 1) := by decide +kernel
theorem dX8_levelKinds_14 : decode cX8_levelKinds 14 = .ok (.iaload, 1) := by decide +kernel
theorem dX8_levelKinds_15 : decode cX8_levelKinds 15 = .ok (.ifCond .le 17, 3) := by decide +kernel
theorem dX8_levelKinds_18 : decode cX8_levelKinds 18 = .ok (.iload_n 2, 1) := by decide +kernel
theorem dX8_levelKinds_19 : decode cX8_levelKinds 19 = .ok (.iconst 1, 1) := by decide +kernel
theorem dX8_levelKinds_20 : decode cX8_levelKinds 20 = .ok (.aload_n 0, 1) := by decide +kernel
theorem dX8_levelKinds_21 : decode cX8_levelKinds 21 = .ok (.getfield 38, 3) := by decide +kernel
theorem dX8_levelKinds_24 : decode cX8_levelKinds 24 = .ok (.iload_n 3, 1) := by decide +kernel
theorem dX8_levelKinds_25 : decode cX8_levelKinds 25 = .ok (.iload_n 1, 1) := by decide +kernel
theorem dX8_levelKinds_26 : decode cX8_levelKinds 26 = .ok (.invokevirtual 134, 3) := by decide +kernel
theorem dX8_levelKinds_29 : decode cX8_levelKinds 29 = .ok (.ishl, 1) := by decide +kernel
theorem dX8_levelKinds_30 : decode cX8_levelKinds 30 = .ok (.ior, 1) := by decide +kernel
theorem dX8_levelKinds_31 : decode cX8_levelKinds 31 = .ok (.istore_n 2, 1) := by decide +kernel
theorem dX8_levelKinds_32 : decode cX8_levelKinds 32 = .ok (.iinc 3 1, 3) := by decide +kernel
theorem dX8_levelKinds_35 : decode cX8_levelKinds 35 = .ok (.goto (-31), 3) := by decide +kernel
theorem dX8_levelKinds_38 : decode cX8_levelKinds 38 = .ok (.iload_n 2, 1) := by decide +kernel
theorem dX8_levelKinds_39 : decode cX8_levelKinds 39 = .ok (.invokestatic 196, 3) := by decide +kernel
theorem dX8_levelKinds_42 : decode cX8_levelKinds 42 = .ok (.ireturn, 1) := by decide +kernel
theorem dX8_inside_0 : decode cX8_inside 0 = .ok (.iload_n 0, 1) := by decide +kernel
theorem dX8_inside_1 : decode cX8_inside 1 = .ok (.ifCond .lt 12, 3) := by decide +kernel
theorem dX8_inside_4 : decode cX8_inside 4 = .ok (.iload_n 0, 1) := by decide +kernel
theorem dX8_inside_5 : decode cX8_inside 5 = .ok (.iload_n 1, 1) := by decide +kernel
theorem dX8_inside_6 : decode cX8_inside 6 = .ok (.if_icmp .ge 7, 3) := by decide +kernel
theorem dX8_inside_9 : decode cX8_inside 9 = .ok (.iconst 1, 1) := by decide +kernel
theorem dX8_inside_10 : decode cX8_inside 10 = .ok (.goto 4, 3) := by decide +kernel
theorem dX8_inside_13 : decode cX8_inside 13 = .ok (.iconst 0, 1) := by decide +kernel
theorem dX8_inside_14 : decode cX8_inside 14 = .ok (.ireturn, 1) := by decide +kernel
theorem dX8_yardBits_0 : decode cX8_yardBits 0 = .ok (.iload_n 1, 1) := by decide +kernel
theorem dX8_yardBits_1 : decode cX8_yardBits 1 = .ok (.iload_n 0, 1) := by decide +kernel
theorem dX8_yardBits_2 : decode cX8_yardBits 2 = .ok (.if_icmp .ge 7, 3) := by decide +kernel
theorem dX8_yardBits_5 : decode cX8_yardBits 5 = .ok (.iconst 0, 1) := by decide +kernel
theorem dX8_yardBits_6 : decode cX8_yardBits 6 = .ok (.goto 12, 3) := by decide +kernel
theorem dX8_yardBits_9 : decode cX8_yardBits 9 = .ok (.iconst 1, 1) := by decide +kernel
theorem dX8_yardBits_10 : decode cX8_yardBits 10 = .ok (.iload_n 1, 1) := by decide +kernel
theorem dX8_yardBits_11 : decode cX8_yardBits 11 = .ok (.iconst 1, 1) := by decide +kernel
theorem dX8_yardBits_12 : decode cX8_yardBits 12 = .ok (.iadd, 1) := by decide +kernel
theorem dX8_yardBits_13 : decode cX8_yardBits 13 = .ok (.ishl, 1) := by decide +kernel
theorem dX8_yardBits_14 : decode cX8_yardBits 14 = .ok (.iconst 1, 1) := by decide +kernel
theorem dX8_yardBits_15 : decode cX8_yardBits 15 = .ok (.iload_n 0, 1) := by decide +kernel
theorem dX8_yardBits_16 : decode cX8_yardBits 16 = .ok (.ishl, 1) := by decide +kernel
theorem dX8_yardBits_17 : decode cX8_yardBits 17 = .ok (.isub, 1) := by decide +kernel
theorem dX8_yardBits_18 : decode cX8_yardBits 18 = .ok (.ireturn, 1) := by decide +kernel
theorem dX8_islands_0 : decode cX8_islands 0 = .ok (.iload_n 0, 1) := by decide +kernel
theorem dX8_islands_1 : decode cX8_islands 1 = .ok (.iconst 1, 1) := by decide +kernel
theorem dX8_islands_2 : decode cX8_islands 2 = .ok (.ishl, 1) := by decide +kernel
theorem dX8_islands_3 : decode cX8_islands 3 = .ok (.iload_n 0, 1) := by decide +kernel
theorem dX8_islands_4 : decode cX8_islands 4 = .ok (.iconst 1, 1) := by decide +kernel
theorem dX8_islands_5 : decode cX8_islands 5 = .ok (.ishr, 1) := by decide +kernel
theorem dX8_islands_6 : decode cX8_islands 6 = .ok (.iand, 1) := by decide +kernel
theorem dX8_islands_7 : decode cX8_islands 7 = .ok (.iload_n 0, 1) := by decide +kernel
theorem dX8_islands_8 : decode cX8_islands 8 = .ok (.iconst (-1), 1) := by decide +kernel
theorem dX8_islands_9 : decode cX8_islands 9 = .ok (.ixor, 1) := by decide +kernel
theorem dX8_islands_10 : decode cX8_islands 10 = .ok (.iand, 1) := by decide +kernel
theorem dX8_islands_11 : decode cX8_islands 11 = .ok (.ireturn, 1) := by decide +kernel
theorem dX8_roadCost_0 : decode cX8_roadCost 0 = .ok (.iconst 0, 1) := by decide +kernel
theorem dX8_roadCost_1 : decode cX8_roadCost 1 = .ok (.istore 4, 2) := by decide +kernel
theorem dX8_roadCost_3 : decode cX8_roadCost 3 = .ok (.iconst 0, 1) := by decide +kernel
theorem dX8_roadCost_4 : decode cX8_roadCost 4 = .ok (.istore 5, 2) := by decide +kernel
theorem dX8_roadCost_6 : decode cX8_roadCost 6 = .ok (.iload_n 1, 1) := by decide +kernel
theorem dX8_roadCost_7 : decode cX8_roadCost 7 = .ok (.istore 6, 2) := by decide +kernel
theorem dX8_roadCost_9 : decode cX8_roadCost 9 = .ok (.iload 6, 2) := by decide +kernel
theorem dX8_roadCost_11 : decode cX8_roadCost 11 = .ok (.iload_n 2, 1) := by decide +kernel
theorem dX8_roadCost_12 : decode cX8_roadCost 12 = .ok (.if_icmp .gt 52, 3) := by decide +kernel
theorem dX8_roadCost_15 : decode cX8_roadCost 15 = .ok (.iload_n 0, 1) := by decide +kernel
theorem dX8_roadCost_16 : decode cX8_roadCost 16 = .ok (.iload 6, 2) := by decide +kernel
theorem dX8_roadCost_18 : decode cX8_roadCost 18 = .ok (.ishr, 1) := by decide +kernel
theorem dX8_roadCost_19 : decode cX8_roadCost 19 = .ok (.iconst 1, 1) := by decide +kernel
theorem dX8_roadCost_20 : decode cX8_roadCost 20 = .ok (.iand, 1) := by decide +kernel
theorem dX8_roadCost_21 : decode cX8_roadCost 21 = .ok (.iconst 1, 1) := by decide +kernel
theorem dX8_roadCost_22 : decode cX8_roadCost 22 = .ok (.if_icmp .ne 7, 3) := by decide +kernel
theorem dX8_roadCost_25 : decode cX8_roadCost 25 = .ok (.iconst 1, 1) := by decide +kernel
theorem dX8_roadCost_26 : decode cX8_roadCost 26 = .ok (.goto 4, 3) := by decide +kernel
theorem dX8_roadCost_29 : decode cX8_roadCost 29 = .ok (.iconst 0, 1) := by decide +kernel
theorem dX8_roadCost_30 : decode cX8_roadCost 30 = .ok (.istore 7, 2) := by decide +kernel
theorem dX8_roadCost_32 : decode cX8_roadCost 32 = .ok (.iload 7, 2) := by decide +kernel
theorem dX8_roadCost_34 : decode cX8_roadCost 34 = .ok (.ifCond .ne 9, 3) := by decide +kernel
theorem dX8_roadCost_37 : decode cX8_roadCost 37 = .ok (.iinc 4 1, 3) := by decide +kernel
theorem dX8_roadCost_40 : decode cX8_roadCost 40 = .ok (.goto 14, 3) := by decide +kernel
theorem dX8_roadCost_43 : decode cX8_roadCost 43 = .ok (.iload 5, 2) := by decide +kernel
theorem dX8_roadCost_45 : decode cX8_roadCost 45 = .ok (.ifCond .ne 9, 3) := by decide +kernel
theorem dX8_roadCost_48 : decode cX8_roadCost 48 = .ok (.iload 4, 2) := by decide +kernel
theorem dX8_roadCost_50 : decode cX8_roadCost 50 = .ok (.iload_n 3, 1) := by decide +kernel
theorem dX8_roadCost_51 : decode cX8_roadCost 51 = .ok (.iadd, 1) := by decide +kernel
theorem dX8_roadCost_52 : decode cX8_roadCost 52 = .ok (.istore 4, 2) := by decide +kernel
theorem dX8_roadCost_54 : decode cX8_roadCost 54 = .ok (.iload 7, 2) := by decide +kernel
theorem dX8_roadCost_56 : decode cX8_roadCost 56 = .ok (.istore 5, 2) := by decide +kernel
theorem dX8_roadCost_58 : decode cX8_roadCost 58 = .ok (.iinc 6 1, 3) := by decide +kernel
theorem dX8_roadCost_61 : decode cX8_roadCost 61 = .ok (.goto (-52), 3) := by decide +kernel
theorem dX8_roadCost_64 : decode cX8_roadCost 64 = .ok (.iload 4, 2) := by decide +kernel
theorem dX8_roadCost_66 : decode cX8_roadCost 66 = .ok (.ireturn, 1) := by decide +kernel
theorem dX8_ridgeCost_0 : decode cX8_ridgeCost 0 = .ok (.iload_n 2, 1) := by decide +kernel
theorem dX8_ridgeCost_1 : decode cX8_ridgeCost 1 = .ok (.iload_n 1, 1) := by decide +kernel
theorem dX8_ridgeCost_2 : decode cX8_ridgeCost 2 = .ok (.iload_n 0, 1) := by decide +kernel
theorem dX8_ridgeCost_3 : decode cX8_ridgeCost 3 = .ok (.isub, 1) := by decide +kernel
theorem dX8_ridgeCost_4 : decode cX8_ridgeCost 4 = .ok (.iconst 1, 1) := by decide +kernel
theorem dX8_ridgeCost_5 : decode cX8_ridgeCost 5 = .ok (.iadd, 1) := by decide +kernel
theorem dX8_ridgeCost_6 : decode cX8_ridgeCost 6 = .ok (.imul, 1) := by decide +kernel
theorem dX8_ridgeCost_7 : decode cX8_ridgeCost 7 = .ok (.ireturn, 1) := by decide +kernel
theorem dX8_fractionPart_0 : decode cX8_fractionPart 0 = .ok (.iload_n 0, 1) := by decide +kernel
theorem dX8_fractionPart_1 : decode cX8_fractionPart 1 = .ok (.iload_n 1, 1) := by decide +kernel
theorem dX8_fractionPart_2 : decode cX8_fractionPart 2 = .ok (.invokestatic 364, 3) := by decide +kernel
theorem dX8_fractionPart_5 : decode cX8_fractionPart 5 = .ok (.istore_n 3, 1) := by decide +kernel
theorem dX8_fractionPart_6 : decode cX8_fractionPart 6 = .ok (.iload_n 3, 1) := by decide +kernel
theorem dX8_fractionPart_7 : decode cX8_fractionPart 7 = .ok (.ifCond .ne 13, 3) := by decide +kernel
theorem dX8_fractionPart_10 : decode cX8_fractionPart 10 = .ok (.iload_n 2, 1) := by decide +kernel
theorem dX8_fractionPart_11 : decode cX8_fractionPart 11 = .ok (.ifCond .ne 7, 3) := by decide +kernel
theorem dX8_fractionPart_14 : decode cX8_fractionPart 14 = .ok (.lconst 0, 1) := by decide +kernel
theorem dX8_fractionPart_15 : decode cX8_fractionPart 15 = .ok (.goto 4, 3) := by decide +kernel
theorem dX8_fractionPart_18 : decode cX8_fractionPart 18 = .ok (.lconst 1, 1) := by decide +kernel
theorem dX8_fractionPart_19 : decode cX8_fractionPart 19 = .ok (.lreturn, 1) := by decide +kernel
theorem dX8_fractionPart_20 : decode cX8_fractionPart 20 = .ok (.iload_n 2, 1) := by decide +kernel
theorem dX8_fractionPart_21 : decode cX8_fractionPart 21 = .ok (.ifCond .ne 10, 3) := by decide +kernel
theorem dX8_fractionPart_24 : decode cX8_fractionPart 24 = .ok (.iload_n 0, 1) := by decide +kernel
theorem dX8_fractionPart_25 : decode cX8_fractionPart 25 = .ok (.iload_n 3, 1) := by decide +kernel
theorem dX8_fractionPart_26 : decode cX8_fractionPart 26 = .ok (.idiv, 1) := by decide +kernel
theorem dX8_fractionPart_27 : decode cX8_fractionPart 27 = .ok (.i2l, 1) := by decide +kernel
theorem dX8_fractionPart_28 : decode cX8_fractionPart 28 = .ok (.goto 7, 3) := by decide +kernel
theorem dX8_fractionPart_31 : decode cX8_fractionPart 31 = .ok (.iload_n 1, 1) := by decide +kernel
theorem dX8_fractionPart_32 : decode cX8_fractionPart 32 = .ok (.iload_n 3, 1) := by decide +kernel
theorem dX8_fractionPart_33 : decode cX8_fractionPart 33 = .ok (.idiv, 1) := by decide +kernel
theorem dX8_fractionPart_34 : decode cX8_fractionPart 34 = .ok (.i2l, 1) := by decide +kernel
theorem dX8_fractionPart_35 : decode cX8_fractionPart 35 = .ok (.lreturn, 1) := by decide +kernel
theorem dX8_commonDivisor_0 : decode cX8_commonDivisor 0 = .ok (.iload_n 0, 1) := by decide +kernel
theorem dX8_commonDivisor_1 : decode cX8_commonDivisor 1 = .ok (.istore_n 2, 1) := by decide +kernel
theorem dX8_commonDivisor_2 : decode cX8_commonDivisor 2 = .ok (.iload_n 1, 1) := by decide +kernel
theorem dX8_commonDivisor_3 : decode cX8_commonDivisor 3 = .ok (.istore_n 3, 1) := by decide +kernel
theorem dX8_commonDivisor_4 : decode cX8_commonDivisor 4 = .ok (.iconst 0, 1) := by decide +kernel
theorem dX8_commonDivisor_5 : decode cX8_commonDivisor 5 = .ok (.istore 4, 2) := by decide +kernel
theorem dX8_commonDivisor_7 : decode cX8_commonDivisor 7 = .ok (.iload 4, 2) := by decide +kernel
theorem dX8_commonDivisor_9 : decode cX8_commonDivisor 9 = .ok (.bipush 100, 2) := by decide +kernel
theorem dX8_commonDivisor_11 : decode cX8_commonDivisor 11 = .ok (.if_icmp .ge 23, 3) := by decide +kernel
theorem dX8_commonDivisor_14 : decode cX8_commonDivisor 14 = .ok (.iload_n 3, 1) := by decide +kernel
theorem dX8_commonDivisor_15 : decode cX8_commonDivisor 15 = .ok (.ifCond .eq 19, 3) := by decide +kernel
theorem dX8_commonDivisor_18 : decode cX8_commonDivisor 18 = .ok (.iload_n 2, 1) := by decide +kernel
theorem dX8_commonDivisor_19 : decode cX8_commonDivisor 19 = .ok (.iload_n 3, 1) := by decide +kernel
theorem dX8_commonDivisor_20 : decode cX8_commonDivisor 20 = .ok (.irem, 1) := by decide +kernel
theorem dX8_commonDivisor_21 : decode cX8_commonDivisor 21 = .ok (.istore 5, 2) := by decide +kernel
theorem dX8_commonDivisor_23 : decode cX8_commonDivisor 23 = .ok (.iload_n 3, 1) := by decide +kernel
theorem dX8_commonDivisor_24 : decode cX8_commonDivisor 24 = .ok (.istore_n 2, 1) := by decide +kernel
theorem dX8_commonDivisor_25 : decode cX8_commonDivisor 25 = .ok (.iload 5, 2) := by decide +kernel
theorem dX8_commonDivisor_27 : decode cX8_commonDivisor 27 = .ok (.istore_n 3, 1) := by decide +kernel
theorem dX8_commonDivisor_28 : decode cX8_commonDivisor 28 = .ok (.iinc 4 1, 3) := by decide +kernel
theorem dX8_commonDivisor_31 : decode cX8_commonDivisor 31 = .ok (.goto (-24), 3) := by decide +kernel
theorem dX8_commonDivisor_34 : decode cX8_commonDivisor 34 = .ok (.iload_n 2, 1) := by decide +kernel
theorem dX8_commonDivisor_35 : decode cX8_commonDivisor 35 = .ok (.ireturn, 1) := by decide +kernel
end
section
theorem dX9_init_0 : decode cX9_init 0 = .ok (.aload_n 0, 1) := by decide +kernel
theorem dX9_init_1 : decode cX9_init 1 = .ok (.invokespecial 1, 3) := by decide +kernel
theorem dX9_init_4 : decode cX9_init 4 = .ok (.aload_n 0, 1) := by decide +kernel
theorem dX9_init_5 : decode cX9_init 5 = .ok (.iconst 4, 1) := by decide +kernel
theorem dX9_init_6 : decode cX9_init 6 = .ok (.newarray .int, 2) := by decide +kernel
theorem dX9_init_8 : decode cX9_init 8 = .ok (.putfield 7, 3) := by decide +kernel
theorem dX9_init_11 : decode cX9_init 11 = .ok (.aload_n 0, 1) := by decide +kernel
theorem dX9_init_12 : decode cX9_init 12 = .ok (.iconst 4, 1) := by decide +kernel
theorem dX9_init_13 : decode cX9_init 13 = .ok (.newarray .int, 2) := by decide +kernel
theorem dX9_init_15 : decode cX9_init 15 = .ok (.putfield 13, 3) := by decide +kernel
theorem dX9_init_18 : decode cX9_init 18 = .ok (.aload_n 0, 1) := by decide +kernel
theorem dX9_init_19 : decode cX9_init 19 = .ok (.sipush 240, 3) := by decide +kernel
theorem dX9_init_22 : decode cX9_init 22 = .ok (.newarray .int, 2) := by decide +kernel
theorem dX9_init_24 : decode cX9_init 24 = .ok (.putfield 16, 3) := by decide +kernel
theorem dX9_init_27 : decode cX9_init 27 = .ok (.aload_n 0, 1) := by decide +kernel
theorem dX9_init_28 : decode cX9_init 28 = .ok (.bipush 60, 2) := by decide +kernel
theorem dX9_init_30 : decode cX9_init 30 = .ok (.newarray .int, 2) := by decide +kernel
theorem dX9_init_32 : decode cX9_init 32 = .ok (.putfield 19, 3) := by decide +kernel
theorem dX9_init_35 : decode cX9_init 35 = .ok (.aload_n 0, 1) := by decide +kernel
theorem dX9_init_36 : decode cX9_init 36 = .ok (.bipush 120, 2) := by decide +kernel
theorem dX9_init_38 : decode cX9_init 38 = .ok (.newarray .int, 2) := by decide +kernel
theorem dX9_init_40 : decode cX9_init 40 = .ok (.putfield 22, 3) := by decide +kernel
theorem dX9_init_43 : decode cX9_init 43 = .ok (.aload_n 0, 1) := by decide +kernel
theorem dX9_init_44 : decode cX9_init 44 = .ok (.iconst 4, 1) := by decide +kernel
theorem dX9_init_45 : decode cX9_init 45 = .ok (.newarray .int, 2) := by decide +kernel
theorem dX9_init_47 : decode cX9_init 47 = .ok (.putfield 25, 3) := by decide +kernel
theorem dX9_init_50 : decode cX9_init 50 = .ok (.aload_n 0, 1) := by decide +kernel
theorem dX9_init_51 : decode cX9_init 51 = .ok (.bipush 7, 2) := by decide +kernel
theorem dX9_init_53 : decode cX9_init 53 = .ok (.newarray .int, 2) := by decide +kernel
theorem dX9_init_55 : decode cX9_init 55 = .ok (.putfield 28, 3) := by decide +kernel
theorem dX9_init_58 : decode cX9_init 58 = .ok (.aload_n 0, 1) := by decide +kernel
theorem dX9_init_59 : decode cX9_init 59 = .ok (.iconst 3, 1) := by decide +kernel
theorem dX9_init_60 : decode cX9_init 60 = .ok (.newarray .int, 2) := by decide +kernel
theorem dX9_init_62 : decode cX9_init 62 = .ok (.putfield 31, 3) := by decide +kernel
theorem dX9_init_65 : decode cX9_init 65 = .ok (.aload_n 0, 1) := by decide +kernel
theorem dX9_init_66 : decode cX9_init 66 = .ok (.bipush 27, 2) := by decide +kernel
theorem dX9_init_68 : decode cX9_init 68 = .ok (.newarray .int, 2) := by decide +kernel
theorem dX9_init_70 : decode cX9_init 70 = .ok (.putfield 34, 3) := by decide +kernel
theorem dX9_init_73 : decode cX9_init 73 = .ok (.aload_n 0, 1) := by decide +kernel
theorem dX9_init_74 : decode cX9_init 74 = .ok (.bipush 93, 2) := by decide +kernel
theorem dX9_init_76 : decode cX9_init 76 = .ok (.newarray .long, 2) := by decide +kernel
theorem dX9_init_78 : decode cX9_init 78 = .ok (.putfield 37, 3) := by decide +kernel
theorem dX9_init_81 : decode cX9_init 81 = .ok (.aload_n 0, 1) := by decide +kernel
theorem dX9_init_82 : decode cX9_init 82 = .ok (.bipush 32, 2) := by decide +kernel
theorem dX9_init_84 : decode cX9_init 84 = .ok (.newarray .int, 2) := by decide +kernel
theorem dX9_init_86 : decode cX9_init 86 = .ok (.putfield 41, 3) := by decide +kernel
theorem dX9_init_89 : decode cX9_init 89 = .ok (.aload_n 0, 1) := by decide +kernel
theorem dX9_init_90 : decode cX9_init 90 = .ok (.bipush 24, 2) := by decide +kernel
theorem dX9_init_92 : decode cX9_init 92 = .ok (.newarray .int, 2) := by decide +kernel
theorem dX9_init_94 : decode cX9_init 94 = .ok (.putfield 44, 3) := by decide +kernel
theorem dX9_init_97 : decode cX9_init 97 = .ok (.iconst 0, 1) := by decide +kernel
theorem dX9_init_98 : decode cX9_init 98 = .ok (.istore_n 1, 1) := by decide +kernel
theorem dX9_init_99 : decode cX9_init 99 = .ok (.iload_n 1, 1) := by decide +kernel
theorem dX9_init_100 : decode cX9_init 100 = .ok (.iconst 4, 1) := by decide +kernel
theorem dX9_init_101 : decode cX9_init 101 = .ok (.if_icmp .ge 16, 3) := by decide +kernel
theorem dX9_init_104 : decode cX9_init 104 = .ok (.aload_n 0, 1) := by decide +kernel
theorem dX9_init_105 : decode cX9_init 105 = .ok (.getfield 7, 3) := by decide +kernel
theorem dX9_init_108 : decode cX9_init 108 = .ok (.iload_n 1, 1) := by decide +kernel
theorem dX9_init_109 : decode cX9_init 109 = .ok (.iconst (-1), 1) := by decide +kernel
theorem dX9_init_110 : decode cX9_init 110 = .ok (.iastore, 1) := by decide +kernel
theorem dX9_init_111 : decode cX9_init 111 = .ok (.iinc 1 1, 3) := by decide +kernel
theorem dX9_init_114 : decode cX9_init 114 = .ok (.goto (-15), 3) := by decide +kernel
theorem dX9_init_117 : decode cX9_init 117 = .ok (.iconst 0, 1) := by decide +kernel
theorem dX9_init_118 : decode cX9_init 118 = .ok (.istore_n 1, 1) := by decide +kernel
theorem dX9_init_119 : decode cX9_init 119 = .ok (.iload_n 1, 1) := by decide +kernel
theorem dX9_init_120 : decode cX9_init 120 = .ok (.iconst 3, 1) := by decide +kernel
theorem dX9_init_121 : decode cX9_init 121 = .ok (.if_icmp .ge 16, 3) := by decide +kernel
theorem dX9_init_124 : decode cX9_init 124 = .ok (.aload_n 0, 1) := by decide +kernel
theorem dX9_init_125 : decode cX9_init 125 = .ok (.getfield 31, 3) := by decide +kernel
theorem dX9_init_128 : decode cX9_init 128 = .ok (.iload_n 1, 1) := by decide +kernel
theorem dX9_init_129 : decode cX9_init 129 = .ok (.iconst 1, 1) := by decide +kernel
theorem dX9_init_130 : decode cX9_init 130 = .ok (.iastore, 1) := by decide +kernel
theorem dX9_init_131 : decode cX9_init 131 = .ok (.iinc 1 1, 3) := by decide +kernel
theorem dX9_init_134 : decode cX9_init 134 = .ok (.goto (-15), 3) := by decide +kernel
theorem dX9_init_137 : decode cX9_init 137 = .ok (.aload_n 0, 1) := by decide +kernel
theorem dX9_init_138 : decode cX9_init 138 = .ok (.getfield 28, 3) := by decide +kernel
theorem dX9_init_141 : decode cX9_init 141 = .ok (.iconst 0, 1) := by decide +kernel
theorem dX9_init_142 : decode cX9_init 142 = .ok (.iconst 3, 1) := by decide +kernel
theorem dX9_init_143 : decode cX9_init 143 = .ok (.iastore, 1) := by decide +kernel
theorem dX9_init_144 : decode cX9_init 144 = .ok (.aload_n 0, 1) := by decide +kernel
theorem dX9_init_145 : decode cX9_init 145 = .ok (.getfield 28, 3) := by decide +kernel
theorem dX9_init_148 : decode cX9_init 148 = .ok (.iconst 1, 1) := by decide +kernel
theorem dX9_init_149 : decode cX9_init 149 = .ok (.bipush 29, 2) := by decide +kernel
theorem dX9_init_151 : decode cX9_init 151 = .ok (.iastore, 1) := by decide +kernel
theorem dX9_init_152 : decode cX9_init 152 = .ok (.aload_n 0, 1) := by decide +kernel
theorem dX9_init_153 : decode cX9_init 153 = .ok (.getfield 28, 3) := by decide +kernel
theorem dX9_init_156 : decode cX9_init 156 = .ok (.iconst 2, 1) := by decide +kernel
theorem dX9_init_157 : decode cX9_init 157 = .ok (.iconst 5, 1) := by decide +kernel
theorem dX9_init_158 : decode cX9_init 158 = .ok (.iastore, 1) := by decide +kernel
theorem dX9_init_159 : decode cX9_init 159 = .ok (.aload_n 0, 1) := by decide +kernel
theorem dX9_init_160 : decode cX9_init 160 = .ok (.getfield 28, 3) := by decide +kernel
theorem dX9_init_163 : decode cX9_init 163 = .ok (.iconst 3, 1) := by decide +kernel
theorem dX9_init_164 : decode cX9_init 164 = .ok (.iconst 3, 1) := by decide +kernel
theorem dX9_init_165 : decode cX9_init 165 = .ok (.iastore, 1) := by decide +kernel
theorem dX9_init_166 : decode cX9_init 166 = .ok (.aload_n 0, 1) := by decide +kernel
theorem dX9_init_167 : decode cX9_init 167 = .ok (.getfield 28, 3) := by decide +kernel
theorem dX9_init_170 : decode cX9_init 170 = .ok (.iconst 4, 1) := by decide +kernel
theorem dX9_init_171 : decode cX9_init 171 = .ok (.iconst 1, 1) := by decide +kernel
theorem dX9_init_172 : decode cX9_init 172 = .ok (.iastore, 1) := by decide +kernel
theorem dX9_init_173 : decode cX9_init 173 = .ok (.aload_n 0, 1) := by decide +kernel
theorem dX9_init_174 : decode cX9_init 174 = .ok (.getfield 28, 3) := by decide +kernel
theorem dX9_init_177 : decode cX9_init 177 = .ok (.iconst 5, 1) := by decide +kernel
theorem dX9_init_178 : decode cX9_init 178 = .ok (.iconst 4, 1) := by decide +kernel
theorem dX9_init_179 : decode cX9_init 179 = .ok (.iastore, 1) := by decide +kernel
theorem dX9_init_180 : decode cX9_init 180 = .ok (.aload_n 0, 1) := by decide +kernel
theorem dX9_init_181 : decode cX9_init 181 = .ok (.getfield 28, 3) := by decide +kernel
theorem dX9_init_184 : decode cX9_init 184 = .ok (.bipush 6, 2) := by decide +kernel
theorem dX9_init_186 : decode cX9_init 186 = .ok (.iconst 1, 1) := by decide +kernel
theorem dX9_init_187 : decode cX9_init 187 = .ok (.iastore, 1) := by decide +kernel
theorem dX9_init_188 : decode cX9_init 188 = .ok (.return_, 1) := by decide +kernel
theorem dX9_in_0 : decode cX9_in 0 = .ok (.lload_n 0, 1) := by decide +kernel
theorem dX9_in_1 : decode cX9_in 1 = .ok (.lload_n 2, 1) := by decide +kernel
theorem dX9_in_2 : decode cX9_in 2 = .ok (.lcmp, 1) := by decide +kernel
theorem dX9_in_3 : decode cX9_in 3 = .ok (.ifCond .lt 14, 3) := by decide +kernel
theorem dX9_in_6 : decode cX9_in 6 = .ok (.lload_n 0, 1) := by decide +kernel
theorem dX9_in_7 : decode cX9_in 7 = .ok (.lload 4, 2) := by decide +kernel
theorem dX9_in_9 : decode cX9_in 9 = .ok (.lcmp, 1) := by decide +kernel
theorem dX9_in_10 : decode cX9_in 10 = .ok (.ifCond .gt 7, 3) := by decide +kernel
theorem dX9_in_13 : decode cX9_in 13 = .ok (.iconst 1, 1) := by decide +kernel
theorem dX9_in_14 : decode cX9_in 14 = .ok (.goto 4, 3) := by decide +kernel
theorem dX9_in_17 : decode cX9_in 17 = .ok (.iconst 0, 1) := by decide +kernel
theorem dX9_in_18 : decode cX9_in 18 = .ok (.ireturn, 1) := by decide +kernel
theorem dX9_no_0 : decode cX9_no 0 = .ok (.ldc2_w 47, 3) := by decide +kernel
theorem dX9_no_3 : decode cX9_no 3 = .ok (.iload_n 0, 1) := by decide +kernel
theorem dX9_no_4 : decode cX9_no 4 = .ok (.i2l, 1) := by decide +kernel
theorem dX9_no_5 : decode cX9_no 5 = .ok (.lsub, 1) := by decide +kernel
theorem dX9_no_6 : decode cX9_no 6 = .ok (.lreturn, 1) := by decide +kernel
theorem dX9_isTwo_0 : decode cX9_isTwo 0 = .ok (.iload_n 0, 1) := by decide +kernel
theorem dX9_isTwo_1 : decode cX9_isTwo 1 = .ok (.i2l, 1) := by decide +kernel
theorem dX9_isTwo_2 : decode cX9_isTwo 2 = .ok (.lconst 0, 1) := by decide +kernel
theorem dX9_isTwo_3 : decode cX9_isTwo 3 = .ok (.lconst 1, 1) := by decide +kernel
theorem dX9_isTwo_4 : decode cX9_isTwo 4 = .ok (.invokestatic 49, 3) := by decide +kernel
theorem dX9_isTwo_7 : decode cX9_isTwo 7 = .ok (.ireturn, 1) := by decide +kernel
theorem dX9_isIn_0 : decode cX9_isIn 0 = .ok (.iload_n 0, 1) := by decide +kernel
theorem dX9_isIn_1 : decode cX9_isIn 1 = .ok (.iload_n 1, 1) := by decide +kernel
theorem dX9_isIn_2 : decode cX9_isIn 2 = .ok (.ishr, 1) := by decide +kernel
theorem dX9_isIn_3 : decode cX9_isIn 3 = .ok (.iconst 1, 1) := by decide +kernel
theorem dX9_isIn_4 : decode cX9_isIn 4 = .ok (.iand, 1) := by decide +kernel
theorem dX9_isIn_5 : decode cX9_isIn 5 = .ok (.iconst 1, 1) := by decide +kernel
theorem dX9_isIn_6 : decode cX9_isIn 6 = .ok (.if_icmp .ne 7, 3) := by decide +kernel
theorem dX9_isIn_9 : decode cX9_isIn 9 = .ok (.iconst 1, 1) := by decide +kernel
theorem dX9_isIn_10 : decode cX9_isIn 10 = .ok (.goto 4, 3) := by decide +kernel
theorem dX9_isIn_13 : decode cX9_isIn 13 = .ok (.iconst 0, 1) := by decide +kernel
theorem dX9_isIn_14 : decode cX9_isIn 14 = .ok (.ireturn, 1) := by decide +kernel
theorem dX9_met_0 : decode cX9_met 0 = .ok (.aload_n 0, 1) := by decide +kernel
theorem dX9_met_1 : decode cX9_met 1 = .ok (.iload_n 1, 1) := by decide +kernel
theorem dX9_met_2 : decode cX9_met 2 = .ok (.putfield 53, 3) := by decide +kernel
theorem dX9_met_5 : decode cX9_met 5 = .ok (.bipush (-10), 2) := by decide +kernel
theorem dX9_met_7 : decode cX9_met 7 = .ok (.iload_n 1, 1) := by decide +kernel
theorem dX9_met_8 : decode cX9_met 8 = .ok (.isub, 1) := by decide +kernel
theorem dX9_met_9 : decode cX9_met 9 = .ok (.ireturn, 1) := by decide +kernel
theorem dX9_isSheet_0 : decode cX9_isSheet 0 = .ok (.iload_n 0, 1) := by decide +kernel
theorem dX9_isSheet_1 : decode cX9_isSheet 1 = .ok (.i2l, 1) := by decide +kernel
theorem dX9_isSheet_2 : decode cX9_isSheet 2 = .ok (.lconst 0, 1) := by decide +kernel
theorem dX9_isSheet_3 : decode cX9_isSheet 3 = .ok (.ldc2_w 57, 3) := by decide +kernel
theorem dX9_isSheet_6 : decode cX9_isSheet 6 = .ok (.invokestatic 49, 3) := by decide +kernel
theorem dX9_isSheet_9 : decode cX9_isSheet 9 = .ok (.ireturn, 1) := by decide +kernel
theorem dX9_sheet_0 : decode cX9_sheet 0 = .ok (.iload_n 1, 1) := by decide +kernel
theorem dX9_sheet_1 : decode cX9_sheet 1 = .ok (.invokestatic 59, 3) := by decide +kernel
theorem dX9_sheet_4 : decode cX9_sheet 4 = .ok (.ifCond .eq 21, 3) := by decide +kernel
theorem dX9_sheet_7 : decode cX9_sheet 7 = .ok (.iload_n 2, 1) := by decide +kernel
theorem dX9_sheet_8 : decode cX9_sheet 8 = .ok (.i2l, 1) := by decide +kernel
theorem dX9_sheet_9 : decode cX9_sheet 9 = .ok (.lconst 0, 1) := by decide +kernel
theorem dX9_sheet_10 : decode cX9_sheet 10 = .ok (.ldc2_w 63, 3) := by decide +kernel
theorem dX9_sheet_13 : decode cX9_sheet 13 = .ok (.invokestatic 49, 3) := by decide +kernel
theorem dX9_sheet_16 : decode cX9_sheet 16 = .ok (.ifCond .eq 9, 3) := by decide +kernel
theorem dX9_sheet_19 : decode cX9_sheet 19 = .ok (.iload_n 3, 1) := by decide +kernel
theorem dX9_sheet_20 : decode cX9_sheet 20 = .ok (.bipush 60, 2) := by decide +kernel
theorem dX9_sheet_22 : decode cX9_sheet 22 = .ok (.if_icmp .le 6, 3) := by decide +kernel
theorem dX9_sheet_25 : decode cX9_sheet 25 = .ok (.bipush (-2), 2) := by decide +kernel
theorem dX9_sheet_27 : decode cX9_sheet 27 = .ok (.ireturn, 1) := by decide +kernel
theorem dX9_sheet_28 : decode cX9_sheet 28 = .ok (.iload_n 3, 1) := by decide +kernel
theorem dX9_sheet_29 : decode cX9_sheet 29 = .ok (.ifCond .ge 9, 3) := by decide +kernel
theorem dX9_sheet_32 : decode cX9_sheet 32 = .ok (.aload_n 0, 1) := by decide +kernel
theorem dX9_sheet_33 : decode cX9_sheet 33 = .ok (.iconst 5, 1) := by decide +kernel
theorem dX9_sheet_34 : decode cX9_sheet 34 = .ok (.invokevirtual 65, 3) := by decide +kernel
theorem dX9_sheet_37 : decode cX9_sheet 37 = .ok (.ireturn, 1) := by decide +kernel
theorem dX9_sheet_38 : decode cX9_sheet 38 = .ok (.aload_n 0, 1) := by decide +kernel
theorem dX9_sheet_39 : decode cX9_sheet 39 = .ok (.getfield 7, 3) := by decide +kernel
theorem dX9_sheet_42 : decode cX9_sheet 42 = .ok (.iload_n 1, 1) := by decide +kernel
theorem dX9_sheet_43 : decode cX9_sheet 43 = .ok (.iload_n 2, 1) := by decide +kernel
theorem dX9_sheet_44 : decode cX9_sheet 44 = .ok (.iastore, 1) := by decide +kernel
theorem dX9_sheet_45 : decode cX9_sheet 45 = .ok (.aload_n 0, 1) := by decide +kernel
theorem dX9_sheet_46 : decode cX9_sheet 46 = .ok (.getfield 13, 3) := by decide +kernel
theorem dX9_sheet_49 : decode cX9_sheet 49 = .ok (.iload_n 1, 1) := by decide +kernel
theorem dX9_sheet_50 : decode cX9_sheet 50 = .ok (.iload_n 3, 1) := by decide +kernel
theorem dX9_sheet_51 : decode cX9_sheet 51 = .ok (.iastore, 1) := by decide +kernel
theorem dX9_sheet_52 : decode cX9_sheet 52 = .ok (.iconst 0, 1) := by decide +kernel
theorem dX9_sheet_53 : decode cX9_sheet 53 = .ok (.istore 4, 2) := by decide +kernel
theorem dX9_sheet_55 : decode cX9_sheet 55 = .ok (.iload 4, 2) := by decide +kernel
theorem dX9_sheet_57 : decode cX9_sheet 57 = .ok (.iload_n 3, 1) := by decide +kernel
theorem dX9_sheet_58 : decode cX9_sheet 58 = .ok (.if_icmp .ge 22, 3) := by decide +kernel
theorem dX9_sheet_61 : decode cX9_sheet 61 = .ok (.aload_n 0, 1) := by decide +kernel
theorem dX9_sheet_62 : decode cX9_sheet 62 = .ok (.getfield 16, 3) := by decide +kernel
theorem dX9_sheet_65 : decode cX9_sheet 65 = .ok (.bipush 60, 2) := by decide +kernel
theorem dX9_sheet_67 : decode cX9_sheet 67 = .ok (.iload_n 1, 1) := by decide +kernel
theorem dX9_sheet_68 : decode cX9_sheet 68 = .ok (.imul, 1) := by decide +kernel
theorem dX9_sheet_69 : decode cX9_sheet 69 = .ok (.iload 4, 2) := by decide +kernel
theorem dX9_sheet_71 : decode cX9_sheet 71 = .ok (.iadd, 1) := by decide +kernel
theorem dX9_sheet_72 : decode cX9_sheet 72 = .ok (.iconst 0, 1) := by decide +kernel
theorem dX9_sheet_73 : decode cX9_sheet 73 = .ok (.iastore, 1) := by decide +kernel
theorem dX9_sheet_74 : decode cX9_sheet 74 = .ok (.iinc 4 1, 3) := by decide +kernel
theorem dX9_sheet_77 : decode cX9_sheet 77 = .ok (.goto (-22), 3) := by decide +kernel
theorem dX9_sheet_80 : decode cX9_sheet 80 = .ok (.iload_n 3, 1) := by decide +kernel
theorem dX9_sheet_81 : decode cX9_sheet 81 = .ok (.ireturn, 1) := by decide +kernel
theorem dX9_lose_0 : decode cX9_lose 0 = .ok (.iload_n 1, 1) := by decide +kernel
theorem dX9_lose_1 : decode cX9_lose 1 = .ok (.invokestatic 59, 3) := by decide +kernel
theorem dX9_lose_4 : decode cX9_lose 4 = .ok (.ifCond .ne 6, 3) := by decide +kernel
theorem dX9_lose_7 : decode cX9_lose 7 = .ok (.bipush (-2), 2) := by decide +kernel
theorem dX9_lose_9 : decode cX9_lose 9 = .ok (.ireturn, 1) := by decide +kernel
theorem dX9_lose_10 : decode cX9_lose 10 = .ok (.aload_n 0, 1) := by decide +kernel
theorem dX9_lose_11 : decode cX9_lose 11 = .ok (.getfield 7, 3) := by decide +kernel
theorem dX9_lose_14 : decode cX9_lose 14 = .ok (.iload_n 1, 1) := by decide +kernel
theorem dX9_lose_15 : decode cX9_lose 15 = .ok (.iaload, 1) := by decide +kernel
theorem dX9_lose_16 : decode cX9_lose 16 = .ok (.ifCond .ge 9, 3) := by decide +kernel
theorem dX9_lose_19 : decode cX9_lose 19 = .ok (.aload_n 0, 1) := by decide +kernel
theorem dX9_lose_20 : decode cX9_lose 20 = .ok (.iconst 1, 1) := by decide +kernel
theorem dX9_lose_21 : decode cX9_lose 21 = .ok (.invokevirtual 65, 3) := by decide +kernel
theorem dX9_lose_24 : decode cX9_lose 24 = .ok (.ireturn, 1) := by decide +kernel
theorem dX9_lose_25 : decode cX9_lose 25 = .ok (.aload_n 0, 1) := by decide +kernel
theorem dX9_lose_26 : decode cX9_lose 26 = .ok (.getfield 7, 3) := by decide +kernel
theorem dX9_lose_29 : decode cX9_lose 29 = .ok (.iload_n 1, 1) := by decide +kernel
theorem dX9_lose_30 : decode cX9_lose 30 = .ok (.iconst (-1), 1) := by decide +kernel
theorem dX9_lose_31 : decode cX9_lose 31 = .ok (.iastore, 1) := by decide +kernel
theorem dX9_lose_32 : decode cX9_lose 32 = .ok (.aload_n 0, 1) := by decide +kernel
theorem dX9_lose_33 : decode cX9_lose 33 = .ok (.getfield 13, 3) := by decide +kernel
theorem dX9_lose_36 : decode cX9_lose 36 = .ok (.iload_n 1, 1) := by decide +kernel
theorem dX9_lose_37 : decode cX9_lose 37 = .ok (.iaload, 1) := by decide +kernel
theorem dX9_lose_38 : decode cX9_lose 38 = .ok (.ireturn, 1) := by decide +kernel
theorem dX9_lacks_0 : decode cX9_lacks 0 = .ok (.aload_n 0, 1) := by decide +kernel
theorem dX9_lacks_1 : decode cX9_lacks 1 = .ok (.getfield 7, 3) := by decide +kernel
theorem dX9_lacks_4 : decode cX9_lacks 4 = .ok (.iload_n 1, 1) := by decide +kernel
theorem dX9_lacks_5 : decode cX9_lacks 5 = .ok (.iaload, 1) := by decide +kernel
theorem dX9_lacks_6 : decode cX9_lacks 6 = .ok (.ifCond .ge 9, 3) := by decide +kernel
theorem dX9_lacks_9 : decode cX9_lacks 9 = .ok (.aload_n 0, 1) := by decide +kernel
theorem dX9_lacks_10 : decode cX9_lacks 10 = .ok (.iconst 1, 1) := by decide +kernel
theorem dX9_lacks_11 : decode cX9_lacks 11 = .ok (.invokevirtual 65, 3) := by decide +kernel
theorem dX9_lacks_14 : decode cX9_lacks 14 = .ok (.ireturn, 1) := by decide +kernel
theorem dX9_lacks_15 : decode cX9_lacks 15 = .ok (.aload_n 0, 1) := by decide +kernel
theorem dX9_lacks_16 : decode cX9_lacks 16 = .ok (.getfield 7, 3) := by decide +kernel
theorem dX9_lacks_19 : decode cX9_lacks 19 = .ok (.iload_n 1, 1) := by decide +kernel
theorem dX9_lacks_20 : decode cX9_lacks 20 = .ok (.iaload, 1) := by decide +kernel
theorem dX9_lacks_21 : decode cX9_lacks 21 = .ok (.iload_n 2, 1) := by decide +kernel
theorem dX9_lacks_22 : decode cX9_lacks 22 = .ok (.if_icmp .eq 9, 3) := by decide +kernel
theorem dX9_lacks_25 : decode cX9_lacks 25 = .ok (.aload_n 0, 1) := by decide +kernel
theorem dX9_lacks_26 : decode cX9_lacks 26 = .ok (.iconst 3, 1) := by decide +kernel
theorem dX9_lacks_27 : decode cX9_lacks 27 = .ok (.invokevirtual 65, 3) := by decide +kernel
theorem dX9_lacks_30 : decode cX9_lacks 30 = .ok (.ireturn, 1) := by decide +kernel
theorem dX9_lacks_31 : decode cX9_lacks 31 = .ok (.iload_n 3, 1) := by decide +kernel
theorem dX9_lacks_32 : decode cX9_lacks 32 = .ok (.i2l, 1) := by decide +kernel
theorem dX9_lacks_33 : decode cX9_lacks 33 = .ok (.lconst 0, 1) := by decide +kernel
theorem dX9_lacks_34 : decode cX9_lacks 34 = .ok (.aload_n 0, 1) := by decide +kernel
theorem dX9_lacks_35 : decode cX9_lacks 35 = .ok (.getfield 13, 3) := by decide +kernel
theorem dX9_lacks_38 : decode cX9_lacks 38 = .ok (.iload_n 1, 1) := by decide +kernel
theorem dX9_lacks_39 : decode cX9_lacks 39 = .ok (.iaload, 1) := by decide +kernel
theorem dX9_lacks_40 : decode cX9_lacks 40 = .ok (.iconst 1, 1) := by decide +kernel
theorem dX9_lacks_41 : decode cX9_lacks 41 = .ok (.isub, 1) := by decide +kernel
theorem dX9_lacks_42 : decode cX9_lacks 42 = .ok (.i2l, 1) := by decide +kernel
theorem dX9_lacks_43 : decode cX9_lacks 43 = .ok (.invokestatic 49, 3) := by decide +kernel
theorem dX9_lacks_46 : decode cX9_lacks 46 = .ok (.ifCond .eq 7, 3) := by decide +kernel
theorem dX9_lacks_49 : decode cX9_lacks 49 = .ok (.iconst 0, 1) := by decide +kernel
theorem dX9_lacks_50 : decode cX9_lacks 50 = .ok (.goto 8, 3) := by decide +kernel
theorem dX9_lacks_53 : decode cX9_lacks 53 = .ok (.aload_n 0, 1) := by decide +kernel
theorem dX9_lacks_54 : decode cX9_lacks 54 = .ok (.iconst 2, 1) := by decide +kernel
theorem dX9_lacks_55 : decode cX9_lacks 55 = .ok (.invokevirtual 65, 3) := by decide +kernel
theorem dX9_lacks_58 : decode cX9_lacks 58 = .ok (.ireturn, 1) := by decide +kernel
theorem dX9_cut_0 : decode cX9_cut 0 = .ok (.iload_n 0, 1) := by decide +kernel
theorem dX9_cut_1 : decode cX9_cut 1 = .ok (.ifCond .ne 8, 3) := by decide +kernel
theorem dX9_cut_4 : decode cX9_cut 4 = .ok (.iload_n 1, 1) := by decide +kernel
theorem dX9_cut_5 : decode cX9_cut 5 = .ok (.i2b, 1) := by decide +kernel
theorem dX9_cut_6 : decode cX9_cut 6 = .ok (.goto 14, 3) := by decide +kernel
theorem dX9_cut_9 : decode cX9_cut 9 = .ok (.iload_n 0, 1) := by decide +kernel
theorem dX9_cut_10 : decode cX9_cut 10 = .ok (.iconst 1, 1) := by decide +kernel
theorem dX9_cut_11 : decode cX9_cut 11 = .ok (.if_icmp .ne 8, 3) := by decide +kernel
theorem dX9_cut_14 : decode cX9_cut 14 = .ok (.iload_n 1, 1) := by decide +kernel
theorem dX9_cut_15 : decode cX9_cut 15 = .ok (.i2s, 1) := by decide +kernel
theorem dX9_cut_16 : decode cX9_cut 16 = .ok (.goto 4, 3) := by decide +kernel
theorem dX9_cut_19 : decode cX9_cut 19 = .ok (.iload_n 1, 1) := by decide +kernel
theorem dX9_cut_20 : decode cX9_cut 20 = .ok (.ireturn, 1) := by decide +kernel
theorem dX9_lay_0 : decode cX9_lay 0 = .ok (.iload_n 1, 1) := by decide +kernel
theorem dX9_lay_1 : decode cX9_lay 1 = .ok (.invokestatic 59, 3) := by decide +kernel
theorem dX9_lay_4 : decode cX9_lay 4 = .ok (.ifCond .eq 15, 3) := by decide +kernel
theorem dX9_lay_7 : decode cX9_lay 7 = .ok (.iload_n 2, 1) := by decide +kernel
theorem dX9_lay_8 : decode cX9_lay 8 = .ok (.i2l, 1) := by decide +kernel
theorem dX9_lay_9 : decode cX9_lay 9 = .ok (.lconst 0, 1) := by decide +kernel
theorem dX9_lay_10 : decode cX9_lay 10 = .ok (.ldc2_w 63, 3) := by decide +kernel
theorem dX9_lay_13 : decode cX9_lay 13 = .ok (.invokestatic 49, 3) := by decide +kernel
theorem dX9_lay_16 : decode cX9_lay 16 = .ok (.ifCond .ne 6, 3) := by decide +kernel
theorem dX9_lay_19 : decode cX9_lay 19 = .ok (.bipush (-2), 2) := by decide +kernel
theorem dX9_lay_21 : decode cX9_lay 21 = .ok (.ireturn, 1) := by decide +kernel
theorem dX9_lay_22 : decode cX9_lay 22 = .ok (.aload_n 0, 1) := by decide +kernel
theorem dX9_lay_23 : decode cX9_lay 23 = .ok (.iload_n 1, 1) := by decide +kernel
theorem dX9_lay_24 : decode cX9_lay 24 = .ok (.iload_n 2, 1) := by decide +kernel
theorem dX9_lay_25 : decode cX9_lay 25 = .ok (.iload_n 3, 1) := by decide +kernel
theorem dX9_lay_26 : decode cX9_lay 26 = .ok (.invokevirtual 69, 3) := by decide +kernel
theorem dX9_lay_29 : decode cX9_lay 29 = .ok (.istore 5, 2) := by decide +kernel
theorem dX9_lay_31 : decode cX9_lay 31 = .ok (.iload 5, 2) := by decide +kernel
theorem dX9_lay_33 : decode cX9_lay 33 = .ok (.ifCond .eq 6, 3) := by decide +kernel
theorem dX9_lay_36 : decode cX9_lay 36 = .ok (.iload 5, 2) := by decide +kernel
theorem dX9_lay_38 : decode cX9_lay 38 = .ok (.ireturn, 1) := by decide +kernel
theorem dX9_lay_39 : decode cX9_lay 39 = .ok (.aload_n 0, 1) := by decide +kernel
theorem dX9_lay_40 : decode cX9_lay 40 = .ok (.getfield 16, 3) := by decide +kernel
theorem dX9_lay_43 : decode cX9_lay 43 = .ok (.bipush 60, 2) := by decide +kernel
theorem dX9_lay_45 : decode cX9_lay 45 = .ok (.iload_n 1, 1) := by decide +kernel
theorem dX9_lay_46 : decode cX9_lay 46 = .ok (.imul, 1) := by decide +kernel
theorem dX9_lay_47 : decode cX9_lay 47 = .ok (.iload_n 3, 1) := by decide +kernel
theorem dX9_lay_48 : decode cX9_lay 48 = .ok (.iadd, 1) := by decide +kernel
theorem dX9_lay_49 : decode cX9_lay 49 = .ok (.iload_n 2, 1) := by decide +kernel
theorem dX9_lay_50 : decode cX9_lay 50 = .ok (.iload 4, 2) := by decide +kernel
theorem dX9_lay_52 : decode cX9_lay 52 = .ok (.invokestatic 73, 3) := by decide +kernel
theorem dX9_lay_55 : decode cX9_lay 55 = .ok (.iastore, 1) := by decide +kernel
theorem dX9_lay_56 : decode cX9_lay 56 = .ok (.iconst 1, 1) := by decide +kernel
theorem dX9_lay_57 : decode cX9_lay 57 = .ok (.ireturn, 1) := by decide +kernel
theorem dX9_get_0 : decode cX9_get 0 = .ok (.iload_n 1, 1) := by decide +kernel
theorem dX9_get_1 : decode cX9_get 1 = .ok (.invokestatic 59, 3) := by decide +kernel
theorem dX9_get_4 : decode cX9_get 4 = .ok (.ifCond .eq 25, 3) := by decide +kernel
theorem dX9_get_7 : decode cX9_get 7 = .ok (.iload_n 2, 1) := by decide +kernel
theorem dX9_get_8 : decode cX9_get 8 = .ok (.i2l, 1) := by decide +kernel
theorem dX9_get_9 : decode cX9_get 9 = .ok (.lconst 0, 1) := by decide +kernel
theorem dX9_get_10 : decode cX9_get 10 = .ok (.ldc2_w 63, 3) := by decide +kernel
theorem dX9_get_13 : decode cX9_get 13 = .ok (.invokestatic 49, 3) := by decide +kernel
theorem dX9_get_16 : decode cX9_get 16 = .ok (.ifCond .eq 13, 3) := by decide +kernel
theorem dX9_get_19 : decode cX9_get 19 = .ok (.aload_n 0, 1) := by decide +kernel
theorem dX9_get_20 : decode cX9_get 20 = .ok (.iload_n 1, 1) := by decide +kernel
theorem dX9_get_21 : decode cX9_get 21 = .ok (.iload_n 2, 1) := by decide +kernel
theorem dX9_get_22 : decode cX9_get 22 = .ok (.iload_n 3, 1) := by decide +kernel
theorem dX9_get_23 : decode cX9_get 23 = .ok (.invokevirtual 69, 3) := by decide +kernel
theorem dX9_get_26 : decode cX9_get 26 = .ok (.ifCond .eq 6, 3) := by decide +kernel
theorem dX9_get_29 : decode cX9_get 29 = .ok (.ldc 77, 2) := by decide +kernel
theorem dX9_get_31 : decode cX9_get 31 = .ok (.ireturn, 1) := by decide +kernel
theorem dX9_get_32 : decode cX9_get 32 = .ok (.aload_n 0, 1) := by decide +kernel
theorem dX9_get_33 : decode cX9_get 33 = .ok (.getfield 16, 3) := by decide +kernel
theorem dX9_get_36 : decode cX9_get 36 = .ok (.bipush 60, 2) := by decide +kernel
theorem dX9_get_38 : decode cX9_get 38 = .ok (.iload_n 1, 1) := by decide +kernel
theorem dX9_get_39 : decode cX9_get 39 = .ok (.imul, 1) := by decide +kernel
theorem dX9_get_40 : decode cX9_get 40 = .ok (.iload_n 3, 1) := by decide +kernel
theorem dX9_get_41 : decode cX9_get 41 = .ok (.iadd, 1) := by decide +kernel
theorem dX9_get_42 : decode cX9_get 42 = .ok (.iaload, 1) := by decide +kernel
theorem dX9_get_43 : decode cX9_get 43 = .ok (.ireturn, 1) := by decide +kernel
theorem dX9_copy_0 : decode cX9_copy 0 = .ok (.iload_n 1, 1) := by decide +kernel
theorem dX9_copy_1 : decode cX9_copy 1 = .ok (.invokestatic 59, 3) := by decide +kernel
theorem dX9_copy_4 : decode cX9_copy 4 = .ok (.ifCond .eq 10, 3) := by decide +kernel
theorem dX9_copy_7 : decode cX9_copy 7 = .ok (.iload_n 3, 1) := by decide +kernel
theorem dX9_copy_8 : decode cX9_copy 8 = .ok (.invokestatic 59, 3) := by decide +kernel
theorem dX9_copy_11 : decode cX9_copy 11 = .ok (.ifCond .ne 6, 3) := by decide +kernel
theorem dX9_copy_14 : decode cX9_copy 14 = .ok (.bipush (-2), 2) := by decide +kernel
theorem dX9_copy_16 : decode cX9_copy 16 = .ok (.ireturn, 1) := by decide +kernel
theorem dX9_copy_17 : decode cX9_copy 17 = .ok (.aload_n 0, 1) := by decide +kernel
theorem dX9_copy_18 : decode cX9_copy 18 = .ok (.getfield 7, 3) := by decide +kernel
theorem dX9_copy_21 : decode cX9_copy 21 = .ok (.iload_n 1, 1) := by decide +kernel
theorem dX9_copy_22 : decode cX9_copy 22 = .ok (.iaload, 1) := by decide +kernel
theorem dX9_copy_23 : decode cX9_copy 23 = .ok (.ifCond .lt 12, 3) := by decide +kernel
theorem dX9_copy_26 : decode cX9_copy 26 = .ok (.aload_n 0, 1) := by decide +kernel
theorem dX9_copy_27 : decode cX9_copy 27 = .ok (.getfield 7, 3) := by decide +kernel
theorem dX9_copy_30 : decode cX9_copy 30 = .ok (.iload_n 3, 1) := by decide +kernel
theorem dX9_copy_31 : decode cX9_copy 31 = .ok (.iaload, 1) := by decide +kernel
theorem dX9_copy_32 : decode cX9_copy 32 = .ok (.ifCond .ge 9, 3) := by decide +kernel
theorem dX9_copy_35 : decode cX9_copy 35 = .ok (.aload_n 0, 1) := by decide +kernel
theorem dX9_copy_36 : decode cX9_copy 36 = .ok (.iconst 1, 1) := by decide +kernel
theorem dX9_copy_37 : decode cX9_copy 37 = .ok (.invokevirtual 65, 3) := by decide +kernel
theorem dX9_copy_40 : decode cX9_copy 40 = .ok (.ireturn, 1) := by decide +kernel
theorem dX9_copy_41 : decode cX9_copy 41 = .ok (.aload_n 0, 1) := by decide +kernel
theorem dX9_copy_42 : decode cX9_copy 42 = .ok (.getfield 7, 3) := by decide +kernel
theorem dX9_copy_45 : decode cX9_copy 45 = .ok (.iload_n 1, 1) := by decide +kernel
theorem dX9_copy_46 : decode cX9_copy 46 = .ok (.iaload, 1) := by decide +kernel
theorem dX9_copy_47 : decode cX9_copy 47 = .ok (.aload_n 0, 1) := by decide +kernel
theorem dX9_copy_48 : decode cX9_copy 48 = .ok (.getfield 7, 3) := by decide +kernel
theorem dX9_copy_51 : decode cX9_copy 51 = .ok (.iload_n 3, 1) := by decide +kernel
theorem dX9_copy_52 : decode cX9_copy 52 = .ok (.iaload, 1) := by decide +kernel
theorem dX9_copy_53 : decode cX9_copy 53 = .ok (.if_icmp .eq 9, 3) := by decide +kernel
theorem dX9_copy_56 : decode cX9_copy 56 = .ok (.aload_n 0, 1) := by decide +kernel
theorem dX9_copy_57 : decode cX9_copy 57 = .ok (.iconst 4, 1) := by decide +kernel
theorem dX9_copy_58 : decode cX9_copy 58 = .ok (.invokevirtual 65, 3) := by decide +kernel
theorem dX9_copy_61 : decode cX9_copy 61 = .ok (.ireturn, 1) := by decide +kernel
theorem dX9_copy_62 : decode cX9_copy 62 = .ok (.iload_n 2, 1) := by decide +kernel
theorem dX9_copy_63 : decode cX9_copy 63 = .ok (.ifCond .lt 48, 3) := by decide +kernel
theorem dX9_copy_66 : decode cX9_copy 66 = .ok (.iload 4, 2) := by decide +kernel
theorem dX9_copy_68 : decode cX9_copy 68 = .ok (.ifCond .lt 43, 3) := by decide +kernel
theorem dX9_copy_71 : decode cX9_copy 71 = .ok (.iload 5, 2) := by decide +kernel
theorem dX9_copy_73 : decode cX9_copy 73 = .ok (.ifCond .lt 38, 3) := by decide +kernel
theorem dX9_copy_76 : decode cX9_copy 76 = .ok (.iload_n 2, 1) := by decide +kernel
theorem dX9_copy_77 : decode cX9_copy 77 = .ok (.i2l, 1) := by decide +kernel
theorem dX9_copy_78 : decode cX9_copy 78 = .ok (.iload 5, 2) := by decide +kernel
theorem dX9_copy_80 : decode cX9_copy 80 = .ok (.i2l, 1) := by decide +kernel
theorem dX9_copy_81 : decode cX9_copy 81 = .ok (.ladd, 1) := by decide +kernel
theorem dX9_copy_82 : decode cX9_copy 82 = .ok (.aload_n 0, 1) := by decide +kernel
theorem dX9_copy_83 : decode cX9_copy 83 = .ok (.getfield 13, 3) := by decide +kernel
theorem dX9_copy_86 : decode cX9_copy 86 = .ok (.iload_n 1, 1) := by decide +kernel
theorem dX9_copy_87 : decode cX9_copy 87 = .ok (.iaload, 1) := by decide +kernel
theorem dX9_copy_88 : decode cX9_copy 88 = .ok (.i2l, 1) := by decide +kernel
theorem dX9_copy_89 : decode cX9_copy 89 = .ok (.lcmp, 1) := by decide +kernel
theorem dX9_copy_90 : decode cX9_copy 90 = .ok (.ifCond .gt 21, 3) := by decide +kernel
theorem dX9_copy_93 : decode cX9_copy 93 = .ok (.iload 4, 2) := by decide +kernel
theorem dX9_copy_95 : decode cX9_copy 95 = .ok (.i2l, 1) := by decide +kernel
theorem dX9_copy_96 : decode cX9_copy 96 = .ok (.iload 5, 2) := by decide +kernel
theorem dX9_copy_98 : decode cX9_copy 98 = .ok (.i2l, 1) := by decide +kernel
theorem dX9_copy_99 : decode cX9_copy 99 = .ok (.ladd, 1) := by decide +kernel
theorem dX9_copy_100 : decode cX9_copy 100 = .ok (.aload_n 0, 1) := by decide +kernel
theorem dX9_copy_101 : decode cX9_copy 101 = .ok (.getfield 13, 3) := by decide +kernel
theorem dX9_copy_104 : decode cX9_copy 104 = .ok (.iload_n 3, 1) := by decide +kernel
theorem dX9_copy_105 : decode cX9_copy 105 = .ok (.iaload, 1) := by decide +kernel
theorem dX9_copy_106 : decode cX9_copy 106 = .ok (.i2l, 1) := by decide +kernel
theorem dX9_copy_107 : decode cX9_copy 107 = .ok (.lcmp, 1) := by decide +kernel
theorem dX9_copy_108 : decode cX9_copy 108 = .ok (.ifCond .le 9, 3) := by decide +kernel
theorem dX9_copy_111 : decode cX9_copy 111 = .ok (.aload_n 0, 1) := by decide +kernel
theorem dX9_copy_112 : decode cX9_copy 112 = .ok (.iconst 2, 1) := by decide +kernel
theorem dX9_copy_113 : decode cX9_copy 113 = .ok (.invokevirtual 65, 3) := by decide +kernel
theorem dX9_copy_116 : decode cX9_copy 116 = .ok (.ireturn, 1) := by decide +kernel
theorem dX9_copy_117 : decode cX9_copy 117 = .ok (.iconst 0, 1) := by decide +kernel
theorem dX9_copy_118 : decode cX9_copy 118 = .ok (.istore 6, 2) := by decide +kernel
theorem dX9_copy_120 : decode cX9_copy 120 = .ok (.iload 6, 2) := by decide +kernel
theorem dX9_copy_122 : decode cX9_copy 122 = .ok (.iload 5, 2) := by decide +kernel
theorem dX9_copy_124 : decode cX9_copy 124 = .ok (.if_icmp .ge 30, 3) := by decide +kernel
theorem dX9_copy_127 : decode cX9_copy 127 = .ok (.aload_n 0, 1) := by decide +kernel
theorem dX9_copy_128 : decode cX9_copy 128 = .ok (.getfield 19, 3) := by decide +kernel
theorem dX9_copy_131 : decode cX9_copy 131 = .ok (.iload 6, 2) := by decide +kernel
theorem dX9_copy_133 : decode cX9_copy 133 = .ok (.aload_n 0, 1) := by decide +kernel
theorem dX9_copy_134 : decode cX9_copy 134 = .ok (.getfield 16, 3) := by decide +kernel
theorem dX9_copy_137 : decode cX9_copy 137 = .ok (.bipush 60, 2) := by decide +kernel
theorem dX9_copy_139 : decode cX9_copy 139 = .ok (.iload_n 1, 1) := by decide +kernel
theorem dX9_copy_140 : decode cX9_copy 140 = .ok (.imul, 1) := by decide +kernel
theorem dX9_copy_141 : decode cX9_copy 141 = .ok (.iload_n 2, 1) := by decide +kernel
theorem dX9_copy_142 : decode cX9_copy 142 = .ok (.iadd, 1) := by decide +kernel
theorem dX9_copy_143 : decode cX9_copy 143 = .ok (.iload 6, 2) := by decide +kernel
theorem dX9_copy_145 : decode cX9_copy 145 = .ok (.iadd, 1) := by decide +kernel
theorem dX9_copy_146 : decode cX9_copy 146 = .ok (.iaload, 1) := by decide +kernel
theorem dX9_copy_147 : decode cX9_copy 147 = .ok (.iastore, 1) := by decide +kernel
theorem dX9_copy_148 : decode cX9_copy 148 = .ok (.iinc 6 1, 3) := by decide +kernel
theorem dX9_copy_151 : decode cX9_copy 151 = .ok (.goto (-31), 3) := by decide +kernel
theorem dX9_copy_154 : decode cX9_copy 154 = .ok (.iconst 0, 1) := by decide +kernel
theorem dX9_copy_155 : decode cX9_copy 155 = .ok (.istore 6, 2) := by decide +kernel
theorem dX9_copy_157 : decode cX9_copy 157 = .ok (.iload 6, 2) := by decide +kernel
theorem dX9_copy_159 : decode cX9_copy 159 = .ok (.iload 5, 2) := by decide +kernel
theorem dX9_copy_161 : decode cX9_copy 161 = .ok (.if_icmp .ge 31, 3) := by decide +kernel
theorem dX9_copy_164 : decode cX9_copy 164 = .ok (.aload_n 0, 1) := by decide +kernel
theorem dX9_copy_165 : decode cX9_copy 165 = .ok (.getfield 16, 3) := by decide +kernel
theorem dX9_copy_168 : decode cX9_copy 168 = .ok (.bipush 60, 2) := by decide +kernel
theorem dX9_copy_170 : decode cX9_copy 170 = .ok (.iload_n 3, 1) := by decide +kernel
theorem dX9_copy_171 : decode cX9_copy 171 = .ok (.imul, 1) := by decide +kernel
theorem dX9_copy_172 : decode cX9_copy 172 = .ok (.iload 4, 2) := by decide +kernel
theorem dX9_copy_174 : decode cX9_copy 174 = .ok (.iadd, 1) := by decide +kernel
theorem dX9_copy_175 : decode cX9_copy 175 = .ok (.iload 6, 2) := by decide +kernel
theorem dX9_copy_177 : decode cX9_copy 177 = .ok (.iadd, 1) := by decide +kernel
theorem dX9_copy_178 : decode cX9_copy 178 = .ok (.aload_n 0, 1) := by decide +kernel
theorem dX9_copy_179 : decode cX9_copy 179 = .ok (.getfield 19, 3) := by decide +kernel
theorem dX9_copy_182 : decode cX9_copy 182 = .ok (.iload 6, 2) := by decide +kernel
theorem dX9_copy_184 : decode cX9_copy 184 = .ok (.iaload, 1) := by decide +kernel
theorem dX9_copy_185 : decode cX9_copy 185 = .ok (.iastore, 1) := by decide +kernel
theorem dX9_copy_186 : decode cX9_copy 186 = .ok (.iinc 6 1, 3) := by decide +kernel
theorem dX9_copy_189 : decode cX9_copy 189 = .ok (.goto (-32), 3) := by decide +kernel
theorem dX9_copy_192 : decode cX9_copy 192 = .ok (.iconst 1, 1) := by decide +kernel
theorem dX9_copy_193 : decode cX9_copy 193 = .ok (.ireturn, 1) := by decide +kernel
theorem dX9_isText_0 : decode cX9_isText 0 = .ok (.iload_n 0, 1) := by decide +kernel
theorem dX9_isText_1 : decode cX9_isText 1 = .ok (.i2l, 1) := by decide +kernel
theorem dX9_isText_2 : decode cX9_isText 2 = .ok (.lconst 0, 1) := by decide +kernel
theorem dX9_isText_3 : decode cX9_isText 3 = .ok (.ldc2_w 57, 3) := by decide +kernel
theorem dX9_isText_6 : decode cX9_isText 6 = .ok (.invokestatic 49, 3) := by decide +kernel
theorem dX9_isText_9 : decode cX9_isText 9 = .ok (.ireturn, 1) := by decide +kernel
theorem dX9_isSpring_0 : decode cX9_isSpring 0 = .ok (.iload_n 0, 1) := by decide +kernel
theorem dX9_isSpring_1 : decode cX9_isSpring 1 = .ok (.i2l, 1) := by decide +kernel
theorem dX9_isSpring_2 : decode cX9_isSpring 2 = .ok (.lconst 0, 1) := by decide +kernel
theorem dX9_isSpring_3 : decode cX9_isSpring 3 = .ok (.ldc2_w 63, 3) := by decide +kernel
theorem dX9_isSpring_6 : decode cX9_isSpring 6 = .ok (.invokestatic 49, 3) := by decide +kernel
theorem dX9_isSpring_9 : decode cX9_isSpring 9 = .ok (.ireturn, 1) := by decide +kernel
theorem dX9_isDay_0 : decode cX9_isDay 0 = .ok (.iload_n 0, 1) := by decide +kernel
theorem dX9_isDay_1 : decode cX9_isDay 1 = .ok (.i2l, 1) := by decide +kernel
theorem dX9_isDay_2 : decode cX9_isDay 2 = .ok (.lconst 0, 1) := by decide +kernel
theorem dX9_isDay_3 : decode cX9_isDay 3 = .ok (.ldc2_w 78, 3) := by decide +kernel
theorem dX9_isDay_6 : decode cX9_isDay 6 = .ok (.invokestatic 49, 3) := by decide +kernel
theorem dX9_isDay_9 : decode cX9_isDay 9 = .ok (.ireturn, 1) := by decide +kernel
theorem dX9_type_0 : decode cX9_type 0 = .ok (.iload_n 1, 1) := by decide +kernel
theorem dX9_type_1 : decode cX9_type 1 = .ok (.invokestatic 80, 3) := by decide +kernel
theorem dX9_type_4 : decode cX9_type 4 = .ok (.ifCond .eq 15, 3) := by decide +kernel
theorem dX9_type_7 : decode cX9_type 7 = .ok (.iload_n 2, 1) := by decide +kernel
theorem dX9_type_8 : decode cX9_type 8 = .ok (.i2l, 1) := by decide +kernel
theorem dX9_type_9 : decode cX9_type 9 = .ok (.lconst 0, 1) := by decide +kernel
theorem dX9_type_10 : decode cX9_type 10 = .ok (.ldc2_w 83, 3) := by decide +kernel
theorem dX9_type_13 : decode cX9_type 13 = .ok (.invokestatic 49, 3) := by decide +kernel
theorem dX9_type_16 : decode cX9_type 16 = .ok (.ifCond .ne 6, 3) := by decide +kernel
theorem dX9_type_19 : decode cX9_type 19 = .ok (.bipush (-2), 2) := by decide +kernel
theorem dX9_type_21 : decode cX9_type 21 = .ok (.ireturn, 1) := by decide +kernel
theorem dX9_type_22 : decode cX9_type 22 = .ok (.aload_n 0, 1) := by decide +kernel
theorem dX9_type_23 : decode cX9_type 23 = .ok (.getfield 25, 3) := by decide +kernel
theorem dX9_type_26 : decode cX9_type 26 = .ok (.iload_n 1, 1) := by decide +kernel
theorem dX9_type_27 : decode cX9_type 27 = .ok (.iaload, 1) := by decide +kernel
theorem dX9_type_28 : decode cX9_type 28 = .ok (.iload_n 1, 1) := by decide +kernel
theorem dX9_type_29 : decode cX9_type 29 = .ok (.iconst 3, 1) := by decide +kernel
theorem dX9_type_30 : decode cX9_type 30 = .ok (.if_icmp .ne 8, 3) := by decide +kernel
theorem dX9_type_33 : decode cX9_type 33 = .ok (.bipush 12, 2) := by decide +kernel
theorem dX9_type_35 : decode cX9_type 35 = .ok (.goto 5, 3) := by decide +kernel
theorem dX9_type_38 : decode cX9_type 38 = .ok (.bipush 30, 2) := by decide +kernel
theorem dX9_type_40 : decode cX9_type 40 = .ok (.if_icmp .ne 6, 3) := by decide +kernel
theorem dX9_type_43 : decode cX9_type 43 = .ok (.bipush (-4), 2) := by decide +kernel
theorem dX9_type_45 : decode cX9_type 45 = .ok (.ireturn, 1) := by decide +kernel
theorem dX9_type_46 : decode cX9_type 46 = .ok (.aload_n 0, 1) := by decide +kernel
theorem dX9_type_47 : decode cX9_type 47 = .ok (.getfield 22, 3) := by decide +kernel
theorem dX9_type_50 : decode cX9_type 50 = .ok (.bipush 30, 2) := by decide +kernel
theorem dX9_type_52 : decode cX9_type 52 = .ok (.iload_n 1, 1) := by decide +kernel
theorem dX9_type_53 : decode cX9_type 53 = .ok (.imul, 1) := by decide +kernel
theorem dX9_type_54 : decode cX9_type 54 = .ok (.aload_n 0, 1) := by decide +kernel
theorem dX9_type_55 : decode cX9_type 55 = .ok (.getfield 25, 3) := by decide +kernel
theorem dX9_type_58 : decode cX9_type 58 = .ok (.iload_n 1, 1) := by decide +kernel
theorem dX9_type_59 : decode cX9_type 59 = .ok (.iaload, 1) := by decide +kernel
theorem dX9_type_60 : decode cX9_type 60 = .ok (.iadd, 1) := by decide +kernel
theorem dX9_type_61 : decode cX9_type 61 = .ok (.iload_n 2, 1) := by decide +kernel
theorem dX9_type_62 : decode cX9_type 62 = .ok (.iastore, 1) := by decide +kernel
theorem dX9_type_63 : decode cX9_type 63 = .ok (.aload_n 0, 1) := by decide +kernel
theorem dX9_type_64 : decode cX9_type 64 = .ok (.getfield 25, 3) := by decide +kernel
theorem dX9_type_67 : decode cX9_type 67 = .ok (.iload_n 1, 1) := by decide +kernel
theorem dX9_type_68 : decode cX9_type 68 = .ok (.dup2, 1) := by decide +kernel
theorem dX9_type_69 : decode cX9_type 69 = .ok (.iaload, 1) := by decide +kernel
theorem dX9_type_70 : decode cX9_type 70 = .ok (.iconst 1, 1) := by decide +kernel
theorem dX9_type_71 : decode cX9_type 71 = .ok (.iadd, 1) := by decide +kernel
theorem dX9_type_72 : decode cX9_type 72 = .ok (.iastore, 1) := by decide +kernel
theorem dX9_type_73 : decode cX9_type 73 = .ok (.aload_n 0, 1) := by decide +kernel
theorem dX9_type_74 : decode cX9_type 74 = .ok (.getfield 25, 3) := by decide +kernel
theorem dX9_type_77 : decode cX9_type 77 = .ok (.iload_n 1, 1) := by decide +kernel
theorem dX9_type_78 : decode cX9_type 78 = .ok (.iaload, 1) := by decide +kernel
theorem dX9_type_79 : decode cX9_type 79 = .ok (.ireturn, 1) := by decide +kernel
theorem dX9_undo_0 : decode cX9_undo 0 = .ok (.iload_n 1, 1) := by decide +kernel
theorem dX9_undo_1 : decode cX9_undo 1 = .ok (.invokestatic 80, 3) := by decide +kernel
theorem dX9_undo_4 : decode cX9_undo 4 = .ok (.ifCond .ne 6, 3) := by decide +kernel
theorem dX9_undo_7 : decode cX9_undo 7 = .ok (.bipush (-2), 2) := by decide +kernel
theorem dX9_undo_9 : decode cX9_undo 9 = .ok (.ireturn, 1) := by decide +kernel
theorem dX9_undo_10 : decode cX9_undo 10 = .ok (.aload_n 0, 1) := by decide +kernel
theorem dX9_undo_11 : decode cX9_undo 11 = .ok (.getfield 25, 3) := by decide +kernel
theorem dX9_undo_14 : decode cX9_undo 14 = .ok (.iload_n 1, 1) := by decide +kernel
theorem dX9_undo_15 : decode cX9_undo 15 = .ok (.iaload, 1) := by decide +kernel
theorem dX9_undo_16 : decode cX9_undo 16 = .ok (.ifCond .ne 6, 3) := by decide +kernel
theorem dX9_undo_19 : decode cX9_undo 19 = .ok (.bipush (-3), 2) := by decide +kernel
theorem dX9_undo_21 : decode cX9_undo 21 = .ok (.ireturn, 1) := by decide +kernel
theorem dX9_undo_22 : decode cX9_undo 22 = .ok (.aload_n 0, 1) := by decide +kernel
theorem dX9_undo_23 : decode cX9_undo 23 = .ok (.getfield 25, 3) := by decide +kernel
theorem dX9_undo_26 : decode cX9_undo 26 = .ok (.iload_n 1, 1) := by decide +kernel
theorem dX9_undo_27 : decode cX9_undo 27 = .ok (.dup2, 1) := by decide +kernel
theorem dX9_undo_28 : decode cX9_undo 28 = .ok (.iaload, 1) := by decide +kernel
theorem dX9_undo_29 : decode cX9_undo 29 = .ok (.iconst 1, 1) := by decide +kernel
theorem dX9_undo_30 : decode cX9_undo 30 = .ok (.isub, 1) := by decide +kernel
theorem dX9_undo_31 : decode cX9_undo 31 = .ok (.iastore, 1) := by decide +kernel
theorem dX9_undo_32 : decode cX9_undo 32 = .ok (.aload_n 0, 1) := by decide +kernel
theorem dX9_undo_33 : decode cX9_undo 33 = .ok (.getfield 25, 3) := by decide +kernel
theorem dX9_undo_36 : decode cX9_undo 36 = .ok (.iload_n 1, 1) := by decide +kernel
theorem dX9_undo_37 : decode cX9_undo 37 = .ok (.iaload, 1) := by decide +kernel
theorem dX9_undo_38 : decode cX9_undo 38 = .ok (.ireturn, 1) := by decide +kernel
theorem dX9_wipe_0 : decode cX9_wipe 0 = .ok (.iload_n 1, 1) := by decide +kernel
theorem dX9_wipe_1 : decode cX9_wipe 1 = .ok (.invokestatic 80, 3) := by decide +kernel
theorem dX9_wipe_4 : decode cX9_wipe 4 = .ok (.ifCond .ne 6, 3) := by decide +kernel
theorem dX9_wipe_7 : decode cX9_wipe 7 = .ok (.bipush (-2), 2) := by decide +kernel
theorem dX9_wipe_9 : decode cX9_wipe 9 = .ok (.ireturn, 1) := by decide +kernel
theorem dX9_wipe_10 : decode cX9_wipe 10 = .ok (.aload_n 0, 1) := by decide +kernel
theorem dX9_wipe_11 : decode cX9_wipe 11 = .ok (.getfield 25, 3) := by decide +kernel
theorem dX9_wipe_14 : decode cX9_wipe 14 = .ok (.iload_n 1, 1) := by decide +kernel
theorem dX9_wipe_15 : decode cX9_wipe 15 = .ok (.iaload, 1) := by decide +kernel
theorem dX9_wipe_16 : decode cX9_wipe 16 = .ok (.istore_n 2, 1) := by decide +kernel
theorem dX9_wipe_17 : decode cX9_wipe 17 = .ok (.aload_n 0, 1) := by decide +kernel
theorem dX9_wipe_18 : decode cX9_wipe 18 = .ok (.getfield 25, 3) := by decide +kernel
theorem dX9_wipe_21 : decode cX9_wipe 21 = .ok (.iload_n 1, 1) := by decide +kernel
theorem dX9_wipe_22 : decode cX9_wipe 22 = .ok (.iconst 0, 1) := by decide +kernel
theorem dX9_wipe_23 : decode cX9_wipe 23 = .ok (.iastore, 1) := by decide +kernel
theorem dX9_wipe_24 : decode cX9_wipe 24 = .ok (.iload_n 2, 1) := by decide +kernel
theorem dX9_wipe_25 : decode cX9_wipe 25 = .ok (.ireturn, 1) := by decide +kernel
theorem dX9_faultOf_0 : decode cX9_faultOf 0 = .ok (.iconst 0, 1) := by decide +kernel
theorem dX9_faultOf_1 : decode cX9_faultOf 1 = .ok (.istore_n 2, 1) := by decide +kernel
theorem dX9_faultOf_2 : decode cX9_faultOf 2 = .ok (.iload_n 2, 1) := by decide +kernel
theorem dX9_faultOf_3 : decode cX9_faultOf 3 = .ok (.aload_n 0, 1) := by decide +kernel
theorem dX9_faultOf_4 : decode cX9_faultOf 4 = .ok (.getfield 25, 3) := by decide +kernel
theorem dX9_faultOf_7 : decode cX9_faultOf 7 = .ok (.iload_n 1, 1) := by decide +kernel
theorem dX9_faultOf_8 : decode cX9_faultOf 8 = .ok (.iaload, 1) := by decide +kernel
theorem dX9_faultOf_9 : decode cX9_faultOf 9 = .ok (.if_icmp .ge 35, 3) := by decide +kernel
theorem dX9_faultOf_12 : decode cX9_faultOf 12 = .ok (.aload_n 0, 1) := by decide +kernel
theorem dX9_faultOf_13 : decode cX9_faultOf 13 = .ok (.getfield 22, 3) := by decide +kernel
theorem dX9_faultOf_16 : decode cX9_faultOf 16 = .ok (.bipush 30, 2) := by decide +kernel
theorem dX9_faultOf_18 : decode cX9_faultOf 18 = .ok (.iload_n 1, 1) := by decide +kernel
theorem dX9_faultOf_19 : decode cX9_faultOf 19 = .ok (.imul, 1) := by decide +kernel
theorem dX9_faultOf_20 : decode cX9_faultOf 20 = .ok (.iload_n 2, 1) := by decide +kernel
theorem dX9_faultOf_21 : decode cX9_faultOf 21 = .ok (.iadd, 1) := by decide +kernel
theorem dX9_faultOf_22 : decode cX9_faultOf 22 = .ok (.iaload, 1) := by decide +kernel
theorem dX9_faultOf_23 : decode cX9_faultOf 23 = .ok (.i2l, 1) := by decide +kernel
theorem dX9_faultOf_24 : decode cX9_faultOf 24 = .ok (.ldc2_w 85, 3) := by decide +kernel
theorem dX9_faultOf_27 : decode cX9_faultOf 27 = .ok (.ldc2_w 87, 3) := by decide +kernel
theorem dX9_faultOf_30 : decode cX9_faultOf 30 = .ok (.invokestatic 49, 3) := by decide +kernel
theorem dX9_faultOf_33 : decode cX9_faultOf 33 = .ok (.ifCond .ne 5, 3) := by decide +kernel
theorem dX9_faultOf_36 : decode cX9_faultOf 36 = .ok (.iload_n 2, 1) := by decide +kernel
theorem dX9_faultOf_37 : decode cX9_faultOf 37 = .ok (.ireturn, 1) := by decide +kernel
theorem dX9_faultOf_38 : decode cX9_faultOf 38 = .ok (.iinc 2 1, 3) := by decide +kernel
theorem dX9_faultOf_41 : decode cX9_faultOf 41 = .ok (.goto (-39), 3) := by decide +kernel
theorem dX9_faultOf_44 : decode cX9_faultOf 44 = .ok (.iconst (-1), 1) := by decide +kernel
theorem dX9_faultOf_45 : decode cX9_faultOf 45 = .ok (.ireturn, 1) := by decide +kernel
theorem dX9_fault_0 : decode cX9_fault 0 = .ok (.iload_n 1, 1) := by decide +kernel
theorem dX9_fault_1 : decode cX9_fault 1 = .ok (.invokestatic 80, 3) := by decide +kernel
theorem dX9_fault_4 : decode cX9_fault 4 = .ok (.ifCond .eq 11, 3) := by decide +kernel
theorem dX9_fault_7 : decode cX9_fault 7 = .ok (.aload_n 0, 1) := by decide +kernel
theorem dX9_fault_8 : decode cX9_fault 8 = .ok (.iload_n 1, 1) := by decide +kernel
theorem dX9_fault_9 : decode cX9_fault 9 = .ok (.invokevirtual 89, 3) := by decide +kernel
theorem dX9_fault_12 : decode cX9_fault 12 = .ok (.goto 5, 3) := by decide +kernel
theorem dX9_fault_15 : decode cX9_fault 15 = .ok (.bipush (-2), 2) := by decide +kernel
theorem dX9_fault_17 : decode cX9_fault 17 = .ok (.ireturn, 1) := by decide +kernel
theorem dX9_figures_0 : decode cX9_figures 0 = .ok (.aload_n 0, 1) := by decide +kernel
theorem dX9_figures_1 : decode cX9_figures 1 = .ok (.iload_n 1, 1) := by decide +kernel
theorem dX9_figures_2 : decode cX9_figures 2 = .ok (.invokevirtual 89, 3) := by decide +kernel
theorem dX9_figures_5 : decode cX9_figures 5 = .ok (.iconst (-1), 1) := by decide +kernel
theorem dX9_figures_6 : decode cX9_figures 6 = .ok (.if_icmp .ne 12, 3) := by decide +kernel
theorem dX9_figures_9 : decode cX9_figures 9 = .ok (.aload_n 0, 1) := by decide +kernel
theorem dX9_figures_10 : decode cX9_figures 10 = .ok (.getfield 25, 3) := by decide +kernel
theorem dX9_figures_13 : decode cX9_figures 13 = .ok (.iload_n 1, 1) := by decide +kernel
theorem dX9_figures_14 : decode cX9_figures 14 = .ok (.iaload, 1) := by decide +kernel
theorem dX9_figures_15 : decode cX9_figures 15 = .ok (.goto 4, 3) := by decide +kernel
theorem dX9_figures_18 : decode cX9_figures 18 = .ok (.iconst 0, 1) := by decide +kernel
theorem dX9_figures_19 : decode cX9_figures 19 = .ok (.ireturn, 1) := by decide +kernel
theorem dX9_yards_0 : decode cX9_yards 0 = .ok (.aload_n 0, 1) := by decide +kernel
theorem dX9_yards_1 : decode cX9_yards 1 = .ok (.iconst 3, 1) := by decide +kernel
theorem dX9_yards_2 : decode cX9_yards 2 = .ok (.invokevirtual 92, 3) := by decide +kernel
theorem dX9_yards_5 : decode cX9_yards 5 = .ok (.ireturn, 1) := by decide +kernel
theorem dX9_isYard_0 : decode cX9_isYard 0 = .ok (.iload_n 1, 1) := by decide +kernel
theorem dX9_isYard_1 : decode cX9_isYard 1 = .ok (.i2l, 1) := by decide +kernel
theorem dX9_isYard_2 : decode cX9_isYard 2 = .ok (.lconst 0, 1) := by decide +kernel
theorem dX9_isYard_3 : decode cX9_isYard 3 = .ok (.aload_n 0, 1) := by decide +kernel
theorem dX9_isYard_4 : decode cX9_isYard 4 = .ok (.invokevirtual 95, 3) := by decide +kernel
theorem dX9_isYard_7 : decode cX9_isYard 7 = .ok (.iconst 1, 1) := by decide +kernel
theorem dX9_isYard_8 : decode cX9_isYard 8 = .ok (.isub, 1) := by decide +kernel
theorem dX9_isYard_9 : decode cX9_isYard 9 = .ok (.i2l, 1) := by decide +kernel
theorem dX9_isYard_10 : decode cX9_isYard 10 = .ok (.invokestatic 49, 3) := by decide +kernel
theorem dX9_isYard_13 : decode cX9_isYard 13 = .ok (.ireturn, 1) := by decide +kernel
theorem dX9_heightOf_0 : decode cX9_heightOf 0 = .ok (.aload_n 0, 1) := by decide +kernel
theorem dX9_heightOf_1 : decode cX9_heightOf 1 = .ok (.getfield 22, 3) := by decide +kernel
theorem dX9_heightOf_4 : decode cX9_heightOf 4 = .ok (.bipush 90, 2) := by decide +kernel
theorem dX9_heightOf_6 : decode cX9_heightOf 6 = .ok (.iload_n 1, 1) := by decide +kernel
theorem dX9_heightOf_7 : decode cX9_heightOf 7 = .ok (.iadd, 1) := by decide +kernel
theorem dX9_heightOf_8 : decode cX9_heightOf 8 = .ok (.iaload, 1) := by decide +kernel
theorem dX9_heightOf_9 : decode cX9_heightOf 9 = .ok (.bipush 48, 2) := by decide +kernel
theorem dX9_heightOf_11 : decode cX9_heightOf 11 = .ok (.isub, 1) := by decide +kernel
theorem dX9_heightOf_12 : decode cX9_heightOf 12 = .ok (.ireturn, 1) := by decide +kernel
theorem dX9_height_0 : decode cX9_height 0 = .ok (.aload_n 0, 1) := by decide +kernel
theorem dX9_height_1 : decode cX9_height 1 = .ok (.iload_n 1, 1) := by decide +kernel
theorem dX9_height_2 : decode cX9_height 2 = .ok (.invokevirtual 99, 3) := by decide +kernel
theorem dX9_height_5 : decode cX9_height 5 = .ok (.ifCond .eq 11, 3) := by decide +kernel
theorem dX9_height_8 : decode cX9_height 8 = .ok (.aload_n 0, 1) := by decide +kernel
theorem dX9_height_9 : decode cX9_height 9 = .ok (.iload_n 1, 1) := by decide +kernel
theorem dX9_height_10 : decode cX9_height 10 = .ok (.invokevirtual 102, 3) := by decide +kernel
theorem dX9_height_13 : decode cX9_height 13 = .ok (.goto 5, 3) := by decide +kernel
theorem dX9_height_16 : decode cX9_height 16 = .ok (.bipush (-2), 2) := by decide +kernel
theorem dX9_height_18 : decode cX9_height 18 = .ok (.ireturn, 1) := by decide +kernel
theorem dX9_levelOf_0 : decode cX9_levelOf 0 = .ok (.iload_n 2, 1) := by decide +kernel
theorem dX9_levelOf_1 : decode cX9_levelOf 1 = .ok (.aload_n 0, 1) := by decide +kernel
theorem dX9_levelOf_2 : decode cX9_levelOf 2 = .ok (.iload_n 1, 1) := by decide +kernel
theorem dX9_levelOf_3 : decode cX9_levelOf 3 = .ok (.invokevirtual 92, 3) := by decide +kernel
theorem dX9_levelOf_6 : decode cX9_levelOf 6 = .ok (.if_icmp .ge 20, 3) := by decide +kernel
theorem dX9_levelOf_9 : decode cX9_levelOf 9 = .ok (.aload_n 0, 1) := by decide +kernel
theorem dX9_levelOf_10 : decode cX9_levelOf 10 = .ok (.getfield 22, 3) := by decide +kernel
theorem dX9_levelOf_13 : decode cX9_levelOf 13 = .ok (.bipush 30, 2) := by decide +kernel
theorem dX9_levelOf_15 : decode cX9_levelOf 15 = .ok (.iload_n 1, 1) := by decide +kernel
theorem dX9_levelOf_16 : decode cX9_levelOf 16 = .ok (.imul, 1) := by decide +kernel
theorem dX9_levelOf_17 : decode cX9_levelOf 17 = .ok (.iload_n 2, 1) := by decide +kernel
theorem dX9_levelOf_18 : decode cX9_levelOf 18 = .ok (.iadd, 1) := by decide +kernel
theorem dX9_levelOf_19 : decode cX9_levelOf 19 = .ok (.iaload, 1) := by decide +kernel
theorem dX9_levelOf_20 : decode cX9_levelOf 20 = .ok (.bipush 48, 2) := by decide +kernel
theorem dX9_levelOf_22 : decode cX9_levelOf 22 = .ok (.isub, 1) := by decide +kernel
theorem dX9_levelOf_23 : decode cX9_levelOf 23 = .ok (.goto 4, 3) := by decide +kernel
theorem dX9_levelOf_26 : decode cX9_levelOf 26 = .ok (.iconst 0, 1) := by decide +kernel
theorem dX9_levelOf_27 : decode cX9_levelOf 27 = .ok (.ireturn, 1) := by decide +kernel
theorem dX9_level_0 : decode cX9_level 0 = .ok (.iload_n 1, 1) := by decide +kernel
theorem dX9_level_1 : decode cX9_level 1 = .ok (.invokestatic 105, 3) := by decide +kernel
theorem dX9_level_4 : decode cX9_level 4 = .ok (.ifCond .eq 19, 3) := by decide +kernel
theorem dX9_level_7 : decode cX9_level 7 = .ok (.iload_n 2, 1) := by decide +kernel
theorem dX9_level_8 : decode cX9_level 8 = .ok (.invokestatic 108, 3) := by decide +kernel
theorem dX9_level_11 : decode cX9_level 11 = .ok (.ifCond .eq 12, 3) := by decide +kernel
theorem dX9_level_14 : decode cX9_level 14 = .ok (.aload_n 0, 1) := by decide +kernel
theorem dX9_level_15 : decode cX9_level 15 = .ok (.iload_n 1, 1) := by decide +kernel
theorem dX9_level_16 : decode cX9_level 16 = .ok (.iload_n 2, 1) := by decide +kernel
theorem dX9_level_17 : decode cX9_level 17 = .ok (.invokevirtual 111, 3) := by decide +kernel
theorem dX9_level_20 : decode cX9_level 20 = .ok (.goto 5, 3) := by decide +kernel
theorem dX9_level_23 : decode cX9_level 23 = .ok (.bipush (-2), 2) := by decide +kernel
theorem dX9_level_25 : decode cX9_level 25 = .ok (.ireturn, 1) := by decide +kernel
theorem dX9_most_0 : decode cX9_most 0 = .ok (.iload_n 0, 1) := by decide +kernel
theorem dX9_most_1 : decode cX9_most 1 = .ok (.ifCond .eq 14, 3) := by decide +kernel
theorem dX9_most_4 : decode cX9_most 4 = .ok (.iload_n 0, 1) := by decide +kernel
theorem dX9_most_5 : decode cX9_most 5 = .ok (.iconst 3, 1) := by decide +kernel
theorem dX9_most_6 : decode cX9_most 6 = .ok (.if_icmp .eq 9, 3) := by decide +kernel
theorem dX9_most_9 : decode cX9_most 9 = .ok (.iload_n 0, 1) := by decide +kernel
theorem dX9_most_10 : decode cX9_most 10 = .ok (.bipush 6, 2) := by decide +kernel
theorem dX9_most_12 : decode cX9_most 12 = .ok (.if_icmp .ne 8, 3) := by decide +kernel
theorem dX9_most_15 : decode cX9_most 15 = .ok (.bipush 9, 2) := by decide +kernel
theorem dX9_most_17 : decode cX9_most 17 = .ok (.goto 15, 3) := by decide +kernel
theorem dX9_most_20 : decode cX9_most 20 = .ok (.iload_n 0, 1) := by decide +kernel
theorem dX9_most_21 : decode cX9_most 21 = .ok (.iconst 1, 1) := by decide +kernel
theorem dX9_most_22 : decode cX9_most 22 = .ok (.if_icmp .ne 8, 3) := by decide +kernel
theorem dX9_most_25 : decode cX9_most 25 = .ok (.bipush 29, 2) := by decide +kernel
theorem dX9_most_27 : decode cX9_most 27 = .ok (.goto 5, 3) := by decide +kernel
theorem dX9_most_30 : decode cX9_most 30 = .ok (.bipush 99, 2) := by decide +kernel
theorem dX9_most_32 : decode cX9_most 32 = .ok (.ireturn, 1) := by decide +kernel
theorem dX9_set_0 : decode cX9_set 0 = .ok (.iload_n 1, 1) := by decide +kernel
theorem dX9_set_1 : decode cX9_set 1 = .ok (.i2l, 1) := by decide +kernel
theorem dX9_set_2 : decode cX9_set 2 = .ok (.lconst 0, 1) := by decide +kernel
theorem dX9_set_3 : decode cX9_set 3 = .ok (.ldc2_w 114, 3) := by decide +kernel
theorem dX9_set_6 : decode cX9_set 6 = .ok (.invokestatic 49, 3) := by decide +kernel
theorem dX9_set_9 : decode cX9_set 9 = .ok (.ifCond .eq 26, 3) := by decide +kernel
theorem dX9_set_12 : decode cX9_set 12 = .ok (.iload_n 2, 1) := by decide +kernel
theorem dX9_set_13 : decode cX9_set 13 = .ok (.i2l, 1) := by decide +kernel
theorem dX9_set_14 : decode cX9_set 14 = .ok (.iload_n 1, 1) := by decide +kernel
theorem dX9_set_15 : decode cX9_set 15 = .ok (.iconst 3, 1) := by decide +kernel
theorem dX9_set_16 : decode cX9_set 16 = .ok (.if_icmp .ne 7, 3) := by decide +kernel
theorem dX9_set_19 : decode cX9_set 19 = .ok (.lconst 1, 1) := by decide +kernel
theorem dX9_set_20 : decode cX9_set 20 = .ok (.goto 4, 3) := by decide +kernel
theorem dX9_set_23 : decode cX9_set 23 = .ok (.lconst 0, 1) := by decide +kernel
theorem dX9_set_24 : decode cX9_set 24 = .ok (.iload_n 1, 1) := by decide +kernel
theorem dX9_set_25 : decode cX9_set 25 = .ok (.invokestatic 116, 3) := by decide +kernel
theorem dX9_set_28 : decode cX9_set 28 = .ok (.i2l, 1) := by decide +kernel
theorem dX9_set_29 : decode cX9_set 29 = .ok (.invokestatic 49, 3) := by decide +kernel
theorem dX9_set_32 : decode cX9_set 32 = .ok (.ifCond .ne 6, 3) := by decide +kernel
theorem dX9_set_35 : decode cX9_set 35 = .ok (.bipush (-2), 2) := by decide +kernel
theorem dX9_set_37 : decode cX9_set 37 = .ok (.ireturn, 1) := by decide +kernel
theorem dX9_set_38 : decode cX9_set 38 = .ok (.aload_n 0, 1) := by decide +kernel
theorem dX9_set_39 : decode cX9_set 39 = .ok (.getfield 28, 3) := by decide +kernel
theorem dX9_set_42 : decode cX9_set 42 = .ok (.iload_n 1, 1) := by decide +kernel
theorem dX9_set_43 : decode cX9_set 43 = .ok (.iaload, 1) := by decide +kernel
theorem dX9_set_44 : decode cX9_set 44 = .ok (.istore_n 3, 1) := by decide +kernel
theorem dX9_set_45 : decode cX9_set 45 = .ok (.aload_n 0, 1) := by decide +kernel
theorem dX9_set_46 : decode cX9_set 46 = .ok (.getfield 28, 3) := by decide +kernel
theorem dX9_set_49 : decode cX9_set 49 = .ok (.iload_n 1, 1) := by decide +kernel
theorem dX9_set_50 : decode cX9_set 50 = .ok (.iload_n 2, 1) := by decide +kernel
theorem dX9_set_51 : decode cX9_set 51 = .ok (.iastore, 1) := by decide +kernel
theorem dX9_set_52 : decode cX9_set 52 = .ok (.iload_n 3, 1) := by decide +kernel
theorem dX9_set_53 : decode cX9_set 53 = .ok (.ireturn, 1) := by decide +kernel
theorem dX9_odds_0 : decode cX9_odds 0 = .ok (.iload_n 1, 1) := by decide +kernel
theorem dX9_odds_1 : decode cX9_odds 1 = .ok (.invokestatic 105, 3) := by decide +kernel
theorem dX9_odds_4 : decode cX9_odds 4 = .ok (.ifCond .eq 15, 3) := by decide +kernel
theorem dX9_odds_7 : decode cX9_odds 7 = .ok (.iload_n 2, 1) := by decide +kernel
theorem dX9_odds_8 : decode cX9_odds 8 = .ok (.i2l, 1) := by decide +kernel
theorem dX9_odds_9 : decode cX9_odds 9 = .ok (.lconst 0, 1) := by decide +kernel
theorem dX9_odds_10 : decode cX9_odds 10 = .ok (.ldc2_w 119, 3) := by decide +kernel
theorem dX9_odds_13 : decode cX9_odds 13 = .ok (.invokestatic 49, 3) := by decide +kernel
theorem dX9_odds_16 : decode cX9_odds 16 = .ok (.ifCond .ne 6, 3) := by decide +kernel
theorem dX9_odds_19 : decode cX9_odds 19 = .ok (.bipush (-2), 2) := by decide +kernel
theorem dX9_odds_21 : decode cX9_odds 21 = .ok (.ireturn, 1) := by decide +kernel
theorem dX9_odds_22 : decode cX9_odds 22 = .ok (.aload_n 0, 1) := by decide +kernel
theorem dX9_odds_23 : decode cX9_odds 23 = .ok (.getfield 31, 3) := by decide +kernel
theorem dX9_odds_26 : decode cX9_odds 26 = .ok (.iload_n 1, 1) := by decide +kernel
theorem dX9_odds_27 : decode cX9_odds 27 = .ok (.iaload, 1) := by decide +kernel
theorem dX9_odds_28 : decode cX9_odds 28 = .ok (.istore_n 3, 1) := by decide +kernel
theorem dX9_odds_29 : decode cX9_odds 29 = .ok (.aload_n 0, 1) := by decide +kernel
theorem dX9_odds_30 : decode cX9_odds 30 = .ok (.getfield 31, 3) := by decide +kernel
theorem dX9_odds_33 : decode cX9_odds 33 = .ok (.iload_n 1, 1) := by decide +kernel
theorem dX9_odds_34 : decode cX9_odds 34 = .ok (.iload_n 2, 1) := by decide +kernel
theorem dX9_odds_35 : decode cX9_odds 35 = .ok (.iastore, 1) := by decide +kernel
theorem dX9_odds_36 : decode cX9_odds 36 = .ok (.iload_n 3, 1) := by decide +kernel
theorem dX9_odds_37 : decode cX9_odds 37 = .ok (.ireturn, 1) := by decide +kernel
theorem dX9_dike_0 : decode cX9_dike 0 = .ok (.iload_n 1, 1) := by decide +kernel
theorem dX9_dike_1 : decode cX9_dike 1 = .ok (.i2l, 1) := by decide +kernel
theorem dX9_dike_2 : decode cX9_dike 2 = .ok (.lconst 0, 1) := by decide +kernel
theorem dX9_dike_3 : decode cX9_dike 3 = .ok (.ldc2_w 121, 3) := by decide +kernel
theorem dX9_dike_6 : decode cX9_dike 6 = .ok (.invokestatic 49, 3) := by decide +kernel
theorem dX9_dike_9 : decode cX9_dike 9 = .ok (.ifCond .eq 23, 3) := by decide +kernel
theorem dX9_dike_12 : decode cX9_dike 12 = .ok (.iload_n 2, 1) := by decide +kernel
theorem dX9_dike_13 : decode cX9_dike 13 = .ok (.i2l, 1) := by decide +kernel
theorem dX9_dike_14 : decode cX9_dike 14 = .ok (.iload_n 1, 1) := by decide +kernel
theorem dX9_dike_15 : decode cX9_dike 15 = .ok (.i2l, 1) := by decide +kernel
theorem dX9_dike_16 : decode cX9_dike 16 = .ok (.ldc2_w 121, 3) := by decide +kernel
theorem dX9_dike_19 : decode cX9_dike 19 = .ok (.invokestatic 49, 3) := by decide +kernel
theorem dX9_dike_22 : decode cX9_dike 22 = .ok (.ifCond .eq 10, 3) := by decide +kernel
theorem dX9_dike_25 : decode cX9_dike 25 = .ok (.iload_n 3, 1) := by decide +kernel
theorem dX9_dike_26 : decode cX9_dike 26 = .ok (.invokestatic 108, 3) := by decide +kernel
theorem dX9_dike_29 : decode cX9_dike 29 = .ok (.ifCond .ne 6, 3) := by decide +kernel
theorem dX9_dike_32 : decode cX9_dike 32 = .ok (.bipush (-2), 2) := by decide +kernel
theorem dX9_dike_34 : decode cX9_dike 34 = .ok (.ireturn, 1) := by decide +kernel
theorem dX9_dike_35 : decode cX9_dike 35 = .ok (.aload_n 0, 1) := by decide +kernel
theorem dX9_dike_36 : decode cX9_dike 36 = .ok (.getfield 123, 3) := by decide +kernel
theorem dX9_dike_39 : decode cX9_dike 39 = .ok (.bipush 8, 2) := by decide +kernel
theorem dX9_dike_41 : decode cX9_dike 41 = .ok (.if_icmp .ne 6, 3) := by decide +kernel
theorem dX9_dike_44 : decode cX9_dike 44 = .ok (.bipush (-4), 2) := by decide +kernel
theorem dX9_dike_46 : decode cX9_dike 46 = .ok (.ireturn, 1) := by decide +kernel
theorem dX9_dike_47 : decode cX9_dike 47 = .ok (.aload_n 0, 1) := by decide +kernel
theorem dX9_dike_48 : decode cX9_dike 48 = .ok (.getfield 34, 3) := by decide +kernel
theorem dX9_dike_51 : decode cX9_dike 51 = .ok (.iconst 3, 1) := by decide +kernel
theorem dX9_dike_52 : decode cX9_dike 52 = .ok (.aload_n 0, 1) := by decide +kernel
theorem dX9_dike_53 : decode cX9_dike 53 = .ok (.getfield 123, 3) := by decide +kernel
theorem dX9_dike_56 : decode cX9_dike 56 = .ok (.imul, 1) := by decide +kernel
theorem dX9_dike_57 : decode cX9_dike 57 = .ok (.iload_n 1, 1) := by decide +kernel
theorem dX9_dike_58 : decode cX9_dike 58 = .ok (.iastore, 1) := by decide +kernel
theorem dX9_dike_59 : decode cX9_dike 59 = .ok (.aload_n 0, 1) := by decide +kernel
theorem dX9_dike_60 : decode cX9_dike 60 = .ok (.getfield 34, 3) := by decide +kernel
theorem dX9_dike_63 : decode cX9_dike 63 = .ok (.iconst 3, 1) := by decide +kernel
theorem dX9_dike_64 : decode cX9_dike 64 = .ok (.aload_n 0, 1) := by decide +kernel
theorem dX9_dike_65 : decode cX9_dike 65 = .ok (.getfield 123, 3) := by decide +kernel
theorem dX9_dike_68 : decode cX9_dike 68 = .ok (.imul, 1) := by decide +kernel
theorem dX9_dike_69 : decode cX9_dike 69 = .ok (.iconst 1, 1) := by decide +kernel
theorem dX9_dike_70 : decode cX9_dike 70 = .ok (.iadd, 1) := by decide +kernel
theorem dX9_dike_71 : decode cX9_dike 71 = .ok (.iload_n 2, 1) := by decide +kernel
theorem dX9_dike_72 : decode cX9_dike 72 = .ok (.iastore, 1) := by decide +kernel
theorem dX9_dike_73 : decode cX9_dike 73 = .ok (.aload_n 0, 1) := by decide +kernel
theorem dX9_dike_74 : decode cX9_dike 74 = .ok (.getfield 34, 3) := by decide +kernel
theorem dX9_dike_77 : decode cX9_dike 77 = .ok (.iconst 3, 1) := by decide +kernel
theorem dX9_dike_78 : decode cX9_dike 78 = .ok (.aload_n 0, 1) := by decide +kernel
theorem dX9_dike_79 : decode cX9_dike 79 = .ok (.getfield 123, 3) := by decide +kernel
theorem dX9_dike_82 : decode cX9_dike 82 = .ok (.imul, 1) := by decide +kernel
theorem dX9_dike_83 : decode cX9_dike 83 = .ok (.iconst 2, 1) := by decide +kernel
theorem dX9_dike_84 : decode cX9_dike 84 = .ok (.iadd, 1) := by decide +kernel
theorem dX9_dike_85 : decode cX9_dike 85 = .ok (.iload_n 3, 1) := by decide +kernel
theorem dX9_dike_86 : decode cX9_dike 86 = .ok (.iastore, 1) := by decide +kernel
theorem dX9_dike_87 : decode cX9_dike 87 = .ok (.aload_n 0, 1) := by decide +kernel
theorem dX9_dike_88 : decode cX9_dike 88 = .ok (.dup, 1) := by decide +kernel
theorem dX9_dike_89 : decode cX9_dike 89 = .ok (.getfield 123, 3) := by decide +kernel
theorem dX9_dike_92 : decode cX9_dike 92 = .ok (.iconst 1, 1) := by decide +kernel
theorem dX9_dike_93 : decode cX9_dike 93 = .ok (.iadd, 1) := by decide +kernel
theorem dX9_dike_94 : decode cX9_dike 94 = .ok (.putfield 123, 3) := by decide +kernel
theorem dX9_dike_97 : decode cX9_dike 97 = .ok (.aload_n 0, 1) := by decide +kernel
theorem dX9_dike_98 : decode cX9_dike 98 = .ok (.getfield 123, 3) := by decide +kernel
theorem dX9_dike_101 : decode cX9_dike 101 = .ok (.ireturn, 1) := by decide +kernel
theorem dX9_read_0 : decode cX9_read 0 = .ok (.iload_n 1, 1) := by decide +kernel
theorem dX9_read_1 : decode cX9_read 1 = .ok (.invokestatic 59, 3) := by decide +kernel
theorem dX9_read_4 : decode cX9_read 4 = .ok (.ifCond .ne 6, 3) := by decide +kernel
theorem dX9_read_7 : decode cX9_read 7 = .ok (.bipush (-2), 2) := by decide +kernel
theorem dX9_read_9 : decode cX9_read 9 = .ok (.ireturn, 1) := by decide +kernel
theorem dX9_read_10 : decode cX9_read 10 = .ok (.aload_n 0, 1) := by decide +kernel
theorem dX9_read_11 : decode cX9_read 11 = .ok (.getfield 7, 3) := by decide +kernel
theorem dX9_read_14 : decode cX9_read 14 = .ok (.iload_n 1, 1) := by decide +kernel
theorem dX9_read_15 : decode cX9_read 15 = .ok (.iaload, 1) := by decide +kernel
theorem dX9_read_16 : decode cX9_read 16 = .ok (.ifCond .ge 9, 3) := by decide +kernel
theorem dX9_read_19 : decode cX9_read 19 = .ok (.aload_n 0, 1) := by decide +kernel
theorem dX9_read_20 : decode cX9_read 20 = .ok (.iconst 1, 1) := by decide +kernel
theorem dX9_read_21 : decode cX9_read 21 = .ok (.invokevirtual 65, 3) := by decide +kernel
theorem dX9_read_24 : decode cX9_read 24 = .ok (.ireturn, 1) := by decide +kernel
theorem dX9_read_25 : decode cX9_read 25 = .ok (.iconst 0, 1) := by decide +kernel
theorem dX9_read_26 : decode cX9_read 26 = .ok (.istore_n 2, 1) := by decide +kernel
theorem dX9_read_27 : decode cX9_read 27 = .ok (.iconst 1, 1) := by decide +kernel
theorem dX9_read_28 : decode cX9_read 28 = .ok (.istore_n 3, 1) := by decide +kernel
theorem dX9_read_29 : decode cX9_read 29 = .ok (.iload_n 3, 1) := by decide +kernel
theorem dX9_read_30 : decode cX9_read 30 = .ok (.ifCond .eq 80, 3) := by decide +kernel
theorem dX9_read_33 : decode cX9_read 33 = .ok (.iconst 3, 1) := by decide +kernel
theorem dX9_read_34 : decode cX9_read 34 = .ok (.iload_n 2, 1) := by decide +kernel
theorem dX9_read_35 : decode cX9_read 35 = .ok (.imul, 1) := by decide +kernel
theorem dX9_read_36 : decode cX9_read 36 = .ok (.iconst 3, 1) := by decide +kernel
theorem dX9_read_37 : decode cX9_read 37 = .ok (.iadd, 1) := by decide +kernel
theorem dX9_read_38 : decode cX9_read 38 = .ok (.aload_n 0, 1) := by decide +kernel
theorem dX9_read_39 : decode cX9_read 39 = .ok (.getfield 13, 3) := by decide +kernel
theorem dX9_read_42 : decode cX9_read 42 = .ok (.iload_n 1, 1) := by decide +kernel
theorem dX9_read_43 : decode cX9_read 43 = .ok (.iaload, 1) := by decide +kernel
theorem dX9_read_44 : decode cX9_read 44 = .ok (.if_icmp .gt 66, 3) := by decide +kernel
theorem dX9_read_47 : decode cX9_read 47 = .ok (.bipush 60, 2) := by decide +kernel
theorem dX9_read_49 : decode cX9_read 49 = .ok (.iload_n 1, 1) := by decide +kernel
theorem dX9_read_50 : decode cX9_read 50 = .ok (.imul, 1) := by decide +kernel
theorem dX9_read_51 : decode cX9_read 51 = .ok (.iconst 3, 1) := by decide +kernel
theorem dX9_read_52 : decode cX9_read 52 = .ok (.iload_n 2, 1) := by decide +kernel
theorem dX9_read_53 : decode cX9_read 53 = .ok (.imul, 1) := by decide +kernel
theorem dX9_read_54 : decode cX9_read 54 = .ok (.iadd, 1) := by decide +kernel
theorem dX9_read_55 : decode cX9_read 55 = .ok (.istore 4, 2) := by decide +kernel
theorem dX9_read_57 : decode cX9_read 57 = .ok (.aload_n 0, 1) := by decide +kernel
theorem dX9_read_58 : decode cX9_read 58 = .ok (.aload_n 0, 1) := by decide +kernel
theorem dX9_read_59 : decode cX9_read 59 = .ok (.getfield 16, 3) := by decide +kernel
theorem dX9_read_62 : decode cX9_read 62 = .ok (.iload 4, 2) := by decide +kernel
theorem dX9_read_64 : decode cX9_read 64 = .ok (.iaload, 1) := by decide +kernel
theorem dX9_read_65 : decode cX9_read 65 = .ok (.aload_n 0, 1) := by decide +kernel
theorem dX9_read_66 : decode cX9_read 66 = .ok (.getfield 16, 3) := by decide +kernel
theorem dX9_read_69 : decode cX9_read 69 = .ok (.iload 4, 2) := by decide +kernel
theorem dX9_read_71 : decode cX9_read 71 = .ok (.iconst 1, 1) := by decide +kernel
theorem dX9_read_72 : decode cX9_read 72 = .ok (.iadd, 1) := by decide +kernel
theorem dX9_read_73 : decode cX9_read 73 = .ok (.iaload, 1) := by decide +kernel
theorem dX9_read_74 : decode cX9_read 74 = .ok (.aload_n 0, 1) := by decide +kernel
theorem dX9_read_75 : decode cX9_read 75 = .ok (.getfield 16, 3) := by decide +kernel
theorem dX9_read_78 : decode cX9_read 78 = .ok (.iload 4, 2) := by decide +kernel
theorem dX9_read_80 : decode cX9_read 80 = .ok (.iconst 2, 1) := by decide +kernel
theorem dX9_read_81 : decode cX9_read 81 = .ok (.iadd, 1) := by decide +kernel
theorem dX9_read_82 : decode cX9_read 82 = .ok (.iaload, 1) := by decide +kernel
theorem dX9_read_83 : decode cX9_read 83 = .ok (.invokevirtual 126, 3) := by decide +kernel
theorem dX9_read_86 : decode cX9_read 86 = .ok (.ifCond .lt 7, 3) := by decide +kernel
theorem dX9_read_89 : decode cX9_read 89 = .ok (.iconst 1, 1) := by decide +kernel
theorem dX9_read_90 : decode cX9_read 90 = .ok (.goto 4, 3) := by decide +kernel
theorem dX9_read_93 : decode cX9_read 93 = .ok (.iconst 0, 1) := by decide +kernel
theorem dX9_read_94 : decode cX9_read 94 = .ok (.istore_n 3, 1) := by decide +kernel
theorem dX9_read_95 : decode cX9_read 95 = .ok (.iload_n 2, 1) := by decide +kernel
theorem dX9_read_96 : decode cX9_read 96 = .ok (.iload_n 3, 1) := by decide +kernel
theorem dX9_read_97 : decode cX9_read 97 = .ok (.ifCond .eq 7, 3) := by decide +kernel
theorem dX9_read_100 : decode cX9_read 100 = .ok (.iconst 1, 1) := by decide +kernel
theorem dX9_read_101 : decode cX9_read 101 = .ok (.goto 4, 3) := by decide +kernel
theorem dX9_read_104 : decode cX9_read 104 = .ok (.iconst 0, 1) := by decide +kernel
theorem dX9_read_105 : decode cX9_read 105 = .ok (.iadd, 1) := by decide +kernel
theorem dX9_read_106 : decode cX9_read 106 = .ok (.istore_n 2, 1) := by decide +kernel
theorem dX9_read_107 : decode cX9_read 107 = .ok (.goto (-78), 3) := by decide +kernel
theorem dX9_read_110 : decode cX9_read 110 = .ok (.iload_n 2, 1) := by decide +kernel
theorem dX9_read_111 : decode cX9_read 111 = .ok (.ireturn, 1) := by decide +kernel
theorem dX9_breaks_0 : decode cX9_breaks 0 = .ok (.aload_n 0, 1) := by decide +kernel
theorem dX9_breaks_1 : decode cX9_breaks 1 = .ok (.getfield 123, 3) := by decide +kernel
theorem dX9_breaks_4 : decode cX9_breaks 4 = .ok (.ifCond .ne 6, 3) := by decide +kernel
theorem dX9_breaks_7 : decode cX9_breaks 7 = .ok (.bipush (-3), 2) := by decide +kernel
theorem dX9_breaks_9 : decode cX9_breaks 9 = .ok (.ireturn, 1) := by decide +kernel
theorem dX9_breaks_10 : decode cX9_breaks 10 = .ok (.aload_n 0, 1) := by decide +kernel
theorem dX9_breaks_11 : decode cX9_breaks 11 = .ok (.dup, 1) := by decide +kernel
theorem dX9_breaks_12 : decode cX9_breaks 12 = .ok (.getfield 123, 3) := by decide +kernel
theorem dX9_breaks_15 : decode cX9_breaks 15 = .ok (.iconst 1, 1) := by decide +kernel
theorem dX9_breaks_16 : decode cX9_breaks 16 = .ok (.isub, 1) := by decide +kernel
theorem dX9_breaks_17 : decode cX9_breaks 17 = .ok (.putfield 123, 3) := by decide +kernel
theorem dX9_breaks_20 : decode cX9_breaks 20 = .ok (.aload_n 0, 1) := by decide +kernel
theorem dX9_breaks_21 : decode cX9_breaks 21 = .ok (.getfield 123, 3) := by decide +kernel
theorem dX9_breaks_24 : decode cX9_breaks 24 = .ok (.ireturn, 1) := by decide +kernel
theorem dX9_isKept_0 : decode cX9_isKept 0 = .ok (.iconst 0, 1) := by decide +kernel
theorem dX9_isKept_1 : decode cX9_isKept 1 = .ok (.istore_n 3, 1) := by decide +kernel
theorem dX9_isKept_2 : decode cX9_isKept 2 = .ok (.iconst 0, 1) := by decide +kernel
theorem dX9_isKept_3 : decode cX9_isKept 3 = .ok (.istore 4, 2) := by decide +kernel
theorem dX9_isKept_5 : decode cX9_isKept 5 = .ok (.iload 4, 2) := by decide +kernel
theorem dX9_isKept_7 : decode cX9_isKept 7 = .ok (.aload_n 0, 1) := by decide +kernel
theorem dX9_isKept_8 : decode cX9_isKept 8 = .ok (.getfield 123, 3) := by decide +kernel
theorem dX9_isKept_11 : decode cX9_isKept 11 = .ok (.if_icmp .ge 84, 3) := by decide +kernel
theorem dX9_isKept_14 : decode cX9_isKept 14 = .ok (.iload_n 3, 1) := by decide +kernel
theorem dX9_isKept_15 : decode cX9_isKept 15 = .ok (.ifCond .ne 68, 3) := by decide +kernel
theorem dX9_isKept_18 : decode cX9_isKept 18 = .ok (.iload_n 2, 1) := by decide +kernel
theorem dX9_isKept_19 : decode cX9_isKept 19 = .ok (.i2l, 1) := by decide +kernel
theorem dX9_isKept_20 : decode cX9_isKept 20 = .ok (.aload_n 0, 1) := by decide +kernel
theorem dX9_isKept_21 : decode cX9_isKept 21 = .ok (.getfield 34, 3) := by decide +kernel
theorem dX9_isKept_24 : decode cX9_isKept 24 = .ok (.iconst 3, 1) := by decide +kernel
theorem dX9_isKept_25 : decode cX9_isKept 25 = .ok (.iload 4, 2) := by decide +kernel
theorem dX9_isKept_27 : decode cX9_isKept 27 = .ok (.imul, 1) := by decide +kernel
theorem dX9_isKept_28 : decode cX9_isKept 28 = .ok (.iaload, 1) := by decide +kernel
theorem dX9_isKept_29 : decode cX9_isKept 29 = .ok (.i2l, 1) := by decide +kernel
theorem dX9_isKept_30 : decode cX9_isKept 30 = .ok (.aload_n 0, 1) := by decide +kernel
theorem dX9_isKept_31 : decode cX9_isKept 31 = .ok (.getfield 34, 3) := by decide +kernel
theorem dX9_isKept_34 : decode cX9_isKept 34 = .ok (.iconst 3, 1) := by decide +kernel
theorem dX9_isKept_35 : decode cX9_isKept 35 = .ok (.iload 4, 2) := by decide +kernel
theorem dX9_isKept_37 : decode cX9_isKept 37 = .ok (.imul, 1) := by decide +kernel
theorem dX9_isKept_38 : decode cX9_isKept 38 = .ok (.iconst 1, 1) := by decide +kernel
theorem dX9_isKept_39 : decode cX9_isKept 39 = .ok (.iadd, 1) := by decide +kernel
theorem dX9_isKept_40 : decode cX9_isKept 40 = .ok (.iaload, 1) := by decide +kernel
theorem dX9_isKept_41 : decode cX9_isKept 41 = .ok (.i2l, 1) := by decide +kernel
theorem dX9_isKept_42 : decode cX9_isKept 42 = .ok (.invokestatic 49, 3) := by decide +kernel
theorem dX9_isKept_45 : decode cX9_isKept 45 = .ok (.ifCond .eq 42, 3) := by decide +kernel
theorem dX9_isKept_48 : decode cX9_isKept 48 = .ok (.iload_n 1, 1) := by decide +kernel
theorem dX9_isKept_49 : decode cX9_isKept 49 = .ok (.i2l, 1) := by decide +kernel
theorem dX9_isKept_50 : decode cX9_isKept 50 = .ok (.aload_n 0, 1) := by decide +kernel
theorem dX9_isKept_51 : decode cX9_isKept 51 = .ok (.getfield 34, 3) := by decide +kernel
theorem dX9_isKept_54 : decode cX9_isKept 54 = .ok (.iconst 3, 1) := by decide +kernel
theorem dX9_isKept_55 : decode cX9_isKept 55 = .ok (.iload 4, 2) := by decide +kernel
theorem dX9_isKept_57 : decode cX9_isKept 57 = .ok (.imul, 1) := by decide +kernel
theorem dX9_isKept_58 : decode cX9_isKept 58 = .ok (.iconst 2, 1) := by decide +kernel
theorem dX9_isKept_59 : decode cX9_isKept 59 = .ok (.iadd, 1) := by decide +kernel
theorem dX9_isKept_60 : decode cX9_isKept 60 = .ok (.iaload, 1) := by decide +kernel
theorem dX9_isKept_61 : decode cX9_isKept 61 = .ok (.i2l, 1) := by decide +kernel
theorem dX9_isKept_62 : decode cX9_isKept 62 = .ok (.aload_n 0, 1) := by decide +kernel
theorem dX9_isKept_63 : decode cX9_isKept 63 = .ok (.getfield 34, 3) := by decide +kernel
theorem dX9_isKept_66 : decode cX9_isKept 66 = .ok (.iconst 3, 1) := by decide +kernel
theorem dX9_isKept_67 : decode cX9_isKept 67 = .ok (.iload 4, 2) := by decide +kernel
theorem dX9_isKept_69 : decode cX9_isKept 69 = .ok (.imul, 1) := by decide +kernel
theorem dX9_isKept_70 : decode cX9_isKept 70 = .ok (.iconst 2, 1) := by decide +kernel
theorem dX9_isKept_71 : decode cX9_isKept 71 = .ok (.iadd, 1) := by decide +kernel
theorem dX9_isKept_72 : decode cX9_isKept 72 = .ok (.iaload, 1) := by decide +kernel
theorem dX9_isKept_73 : decode cX9_isKept 73 = .ok (.bipush 6, 2) := by decide +kernel
theorem dX9_isKept_75 : decode cX9_isKept 75 = .ok (.iadd, 1) := by decide +kernel
theorem dX9_isKept_76 : decode cX9_isKept 76 = .ok (.i2l, 1) := by decide +kernel
theorem dX9_isKept_77 : decode cX9_isKept 77 = .ok (.invokestatic 49, 3) := by decide +kernel
theorem dX9_isKept_80 : decode cX9_isKept 80 = .ok (.ifCond .eq 7, 3) := by decide +kernel
theorem dX9_isKept_83 : decode cX9_isKept 83 = .ok (.iconst 1, 1) := by decide +kernel
theorem dX9_isKept_84 : decode cX9_isKept 84 = .ok (.goto 4, 3) := by decide +kernel
theorem dX9_isKept_87 : decode cX9_isKept 87 = .ok (.iconst 0, 1) := by decide +kernel
theorem dX9_isKept_88 : decode cX9_isKept 88 = .ok (.istore_n 3, 1) := by decide +kernel
theorem dX9_isKept_89 : decode cX9_isKept 89 = .ok (.iinc 4 1, 3) := by decide +kernel
theorem dX9_isKept_92 : decode cX9_isKept 92 = .ok (.goto (-87), 3) := by decide +kernel
theorem dX9_isKept_95 : decode cX9_isKept 95 = .ok (.iload_n 3, 1) := by decide +kernel
theorem dX9_isKept_96 : decode cX9_isKept 96 = .ok (.ireturn, 1) := by decide +kernel
theorem dX9_possessionOf_0 : decode cX9_possessionOf 0 = .ok (.iconst 0, 1) := by decide +kernel
theorem dX9_possessionOf_1 : decode cX9_possessionOf 1 = .ok (.istore_n 2, 1) := by decide +kernel
theorem dX9_possessionOf_2 : decode cX9_possessionOf 2 = .ok (.iload_n 2, 1) := by decide +kernel
theorem dX9_possessionOf_3 : decode cX9_possessionOf 3 = .ok (.aload_n 0, 1) := by decide +kernel
theorem dX9_possessionOf_4 : decode cX9_possessionOf 4 = .ok (.getfield 28, 3) := by decide +kernel
theorem dX9_possessionOf_7 : decode cX9_possessionOf 7 = .ok (.iconst 1, 1) := by decide +kernel
theorem dX9_possessionOf_8 : decode cX9_possessionOf 8 = .ok (.iaload, 1) := by decide +kernel
theorem dX9_possessionOf_9 : decode cX9_possessionOf 9 = .ok (.if_icmp .gt 26, 3) := by decide +kernel
theorem dX9_possessionOf_12 : decode cX9_possessionOf 12 = .ok (.aload_n 0, 1) := by decide +kernel
theorem dX9_possessionOf_13 : decode cX9_possessionOf 13 = .ok (.iload_n 1, 1) := by decide +kernel
theorem dX9_possessionOf_14 : decode cX9_possessionOf 14 = .ok (.iload_n 2, 1) := by decide +kernel
theorem dX9_possessionOf_15 : decode cX9_possessionOf 15 = .ok (.invokevirtual 111, 3) := by decide +kernel
theorem dX9_possessionOf_18 : decode cX9_possessionOf 18 = .ok (.aload_n 0, 1) := by decide +kernel
theorem dX9_possessionOf_19 : decode cX9_possessionOf 19 = .ok (.getfield 28, 3) := by decide +kernel
theorem dX9_possessionOf_22 : decode cX9_possessionOf 22 = .ok (.iconst 0, 1) := by decide +kernel
theorem dX9_possessionOf_23 : decode cX9_possessionOf 23 = .ok (.iaload, 1) := by decide +kernel
theorem dX9_possessionOf_24 : decode cX9_possessionOf 24 = .ok (.if_icmp .lt 5, 3) := by decide +kernel
theorem dX9_possessionOf_27 : decode cX9_possessionOf 27 = .ok (.iload_n 2, 1) := by decide +kernel
theorem dX9_possessionOf_28 : decode cX9_possessionOf 28 = .ok (.ireturn, 1) := by decide +kernel
theorem dX9_possessionOf_29 : decode cX9_possessionOf 29 = .ok (.iinc 2 1, 3) := by decide +kernel
theorem dX9_possessionOf_32 : decode cX9_possessionOf 32 = .ok (.goto (-30), 3) := by decide +kernel
theorem dX9_possessionOf_35 : decode cX9_possessionOf 35 = .ok (.iconst (-1), 1) := by decide +kernel
theorem dX9_possessionOf_36 : decode cX9_possessionOf 36 = .ok (.ireturn, 1) := by decide +kernel
theorem dX9_possession_0 : decode cX9_possession 0 = .ok (.iload_n 1, 1) := by decide +kernel
theorem dX9_possession_1 : decode cX9_possession 1 = .ok (.invokestatic 105, 3) := by decide +kernel
theorem dX9_possession_4 : decode cX9_possession 4 = .ok (.ifCond .eq 11, 3) := by decide +kernel
theorem dX9_possession_7 : decode cX9_possession 7 = .ok (.aload_n 0, 1) := by decide +kernel
theorem dX9_possession_8 : decode cX9_possession 8 = .ok (.iload_n 1, 1) := by decide +kernel
theorem dX9_possession_9 : decode cX9_possession 9 = .ok (.invokevirtual 128, 3) := by decide +kernel
theorem dX9_possession_12 : decode cX9_possession 12 = .ok (.goto 5, 3) := by decide +kernel
theorem dX9_possession_15 : decode cX9_possession 15 = .ok (.bipush (-2), 2) := by decide +kernel
theorem dX9_possession_17 : decode cX9_possession 17 = .ok (.ireturn, 1) := by decide +kernel
theorem dX9_isWet_0 : decode cX9_isWet 0 = .ok (.aload_n 0, 1) := by decide +kernel
theorem dX9_isWet_1 : decode cX9_isWet 1 = .ok (.iload_n 1, 1) := by decide +kernel
theorem dX9_isWet_2 : decode cX9_isWet 2 = .ok (.invokevirtual 128, 3) := by decide +kernel
theorem dX9_isWet_5 : decode cX9_isWet 5 = .ok (.istore 4, 2) := by decide +kernel
theorem dX9_isWet_7 : decode cX9_isWet 7 = .ok (.iload 4, 2) := by decide +kernel
theorem dX9_isWet_9 : decode cX9_isWet 9 = .ok (.iconst (-1), 1) := by decide +kernel
theorem dX9_isWet_10 : decode cX9_isWet 10 = .ok (.if_icmp .eq 48, 3) := by decide +kernel
theorem dX9_isWet_13 : decode cX9_isWet 13 = .ok (.iload_n 2, 1) := by decide +kernel
theorem dX9_isWet_14 : decode cX9_isWet 14 = .ok (.i2l, 1) := by decide +kernel
theorem dX9_isWet_15 : decode cX9_isWet 15 = .ok (.iload 4, 2) := by decide +kernel
theorem dX9_isWet_17 : decode cX9_isWet 17 = .ok (.i2l, 1) := by decide +kernel
theorem dX9_isWet_18 : decode cX9_isWet 18 = .ok (.aload_n 0, 1) := by decide +kernel
theorem dX9_isWet_19 : decode cX9_isWet 19 = .ok (.getfield 28, 3) := by decide +kernel
theorem dX9_isWet_22 : decode cX9_isWet 22 = .ok (.iconst 1, 1) := by decide +kernel
theorem dX9_isWet_23 : decode cX9_isWet 23 = .ok (.iaload, 1) := by decide +kernel
theorem dX9_isWet_24 : decode cX9_isWet 24 = .ok (.i2l, 1) := by decide +kernel
theorem dX9_isWet_25 : decode cX9_isWet 25 = .ok (.invokestatic 49, 3) := by decide +kernel
theorem dX9_isWet_28 : decode cX9_isWet 28 = .ok (.ifCond .eq 30, 3) := by decide +kernel
theorem dX9_isWet_31 : decode cX9_isWet 31 = .ok (.aload_n 0, 1) := by decide +kernel
theorem dX9_isWet_32 : decode cX9_isWet 32 = .ok (.iload_n 1, 1) := by decide +kernel
theorem dX9_isWet_33 : decode cX9_isWet 33 = .ok (.iload_n 2, 1) := by decide +kernel
theorem dX9_isWet_34 : decode cX9_isWet 34 = .ok (.invokevirtual 111, 3) := by decide +kernel
theorem dX9_isWet_37 : decode cX9_isWet 37 = .ok (.aload_n 0, 1) := by decide +kernel
theorem dX9_isWet_38 : decode cX9_isWet 38 = .ok (.iload_n 3, 1) := by decide +kernel
theorem dX9_isWet_39 : decode cX9_isWet 39 = .ok (.invokevirtual 102, 3) := by decide +kernel
theorem dX9_isWet_42 : decode cX9_isWet 42 = .ok (.if_icmp .le 16, 3) := by decide +kernel
theorem dX9_isWet_45 : decode cX9_isWet 45 = .ok (.aload_n 0, 1) := by decide +kernel
theorem dX9_isWet_46 : decode cX9_isWet 46 = .ok (.iload_n 2, 1) := by decide +kernel
theorem dX9_isWet_47 : decode cX9_isWet 47 = .ok (.iload_n 3, 1) := by decide +kernel
theorem dX9_isWet_48 : decode cX9_isWet 48 = .ok (.invokevirtual 131, 3) := by decide +kernel
theorem dX9_isWet_51 : decode cX9_isWet 51 = .ok (.ifCond .ne 7, 3) := by decide +kernel
theorem dX9_isWet_54 : decode cX9_isWet 54 = .ok (.iconst 1, 1) := by decide +kernel
theorem dX9_isWet_55 : decode cX9_isWet 55 = .ok (.goto 4, 3) := by decide +kernel
theorem dX9_isWet_58 : decode cX9_isWet 58 = .ok (.iconst 0, 1) := by decide +kernel
theorem dX9_isWet_59 : decode cX9_isWet 59 = .ok (.ireturn, 1) := by decide +kernel
theorem dX9_wet_0 : decode cX9_wet 0 = .ok (.iload_n 1, 1) := by decide +kernel
theorem dX9_wet_1 : decode cX9_wet 1 = .ok (.invokestatic 105, 3) := by decide +kernel
theorem dX9_wet_4 : decode cX9_wet 4 = .ok (.ifCond .eq 36, 3) := by decide +kernel
theorem dX9_wet_7 : decode cX9_wet 7 = .ok (.iload_n 2, 1) := by decide +kernel
theorem dX9_wet_8 : decode cX9_wet 8 = .ok (.invokestatic 108, 3) := by decide +kernel
theorem dX9_wet_11 : decode cX9_wet 11 = .ok (.ifCond .eq 29, 3) := by decide +kernel
theorem dX9_wet_14 : decode cX9_wet 14 = .ok (.aload_n 0, 1) := by decide +kernel
theorem dX9_wet_15 : decode cX9_wet 15 = .ok (.iload_n 3, 1) := by decide +kernel
theorem dX9_wet_16 : decode cX9_wet 16 = .ok (.invokevirtual 99, 3) := by decide +kernel
theorem dX9_wet_19 : decode cX9_wet 19 = .ok (.ifCond .eq 21, 3) := by decide +kernel
theorem dX9_wet_22 : decode cX9_wet 22 = .ok (.aload_n 0, 1) := by decide +kernel
theorem dX9_wet_23 : decode cX9_wet 23 = .ok (.iload_n 1, 1) := by decide +kernel
theorem dX9_wet_24 : decode cX9_wet 24 = .ok (.iload_n 2, 1) := by decide +kernel
theorem dX9_wet_25 : decode cX9_wet 25 = .ok (.iload_n 3, 1) := by decide +kernel
theorem dX9_wet_26 : decode cX9_wet 26 = .ok (.invokevirtual 135, 3) := by decide +kernel
theorem dX9_wet_29 : decode cX9_wet 29 = .ok (.ifCond .eq 7, 3) := by decide +kernel
theorem dX9_wet_32 : decode cX9_wet 32 = .ok (.iconst 1, 1) := by decide +kernel
theorem dX9_wet_33 : decode cX9_wet 33 = .ok (.goto 9, 3) := by decide +kernel
theorem dX9_wet_36 : decode cX9_wet 36 = .ok (.iconst 0, 1) := by decide +kernel
theorem dX9_wet_37 : decode cX9_wet 37 = .ok (.goto 5, 3) := by decide +kernel
theorem dX9_wet_40 : decode cX9_wet 40 = .ok (.bipush (-2), 2) := by decide +kernel
theorem dX9_wet_42 : decode cX9_wet 42 = .ok (.ireturn, 1) := by decide +kernel
theorem dX9_waterOf_0 : decode cX9_waterOf 0 = .ok (.iconst 0, 1) := by decide +kernel
theorem dX9_waterOf_1 : decode cX9_waterOf 1 = .ok (.istore 4, 2) := by decide +kernel
theorem dX9_waterOf_3 : decode cX9_waterOf 3 = .ok (.iconst 0, 1) := by decide +kernel
theorem dX9_waterOf_4 : decode cX9_waterOf 4 = .ok (.istore 5, 2) := by decide +kernel
theorem dX9_waterOf_6 : decode cX9_waterOf 6 = .ok (.iload 5, 2) := by decide +kernel
theorem dX9_waterOf_8 : decode cX9_waterOf 8 = .ok (.aload_n 0, 1) := by decide +kernel
theorem dX9_waterOf_9 : decode cX9_waterOf 9 = .ok (.invokevirtual 95, 3) := by decide +kernel
theorem dX9_waterOf_12 : decode cX9_waterOf 12 = .ok (.if_icmp .ge 33, 3) := by decide +kernel
theorem dX9_waterOf_15 : decode cX9_waterOf 15 = .ok (.iload 4, 2) := by decide +kernel
theorem dX9_waterOf_17 : decode cX9_waterOf 17 = .ok (.aload_n 0, 1) := by decide +kernel
theorem dX9_waterOf_18 : decode cX9_waterOf 18 = .ok (.iload_n 1, 1) := by decide +kernel
theorem dX9_waterOf_19 : decode cX9_waterOf 19 = .ok (.iload_n 2, 1) := by decide +kernel
theorem dX9_waterOf_20 : decode cX9_waterOf 20 = .ok (.iload 5, 2) := by decide +kernel
theorem dX9_waterOf_22 : decode cX9_waterOf 22 = .ok (.invokevirtual 135, 3) := by decide +kernel
theorem dX9_waterOf_25 : decode cX9_waterOf 25 = .ok (.ifCond .eq 10, 3) := by decide +kernel
theorem dX9_waterOf_28 : decode cX9_waterOf 28 = .ok (.iconst 1, 1) := by decide +kernel
theorem dX9_waterOf_29 : decode cX9_waterOf 29 = .ok (.iload 5, 2) := by decide +kernel
theorem dX9_waterOf_31 : decode cX9_waterOf 31 = .ok (.ishl, 1) := by decide +kernel
theorem dX9_waterOf_32 : decode cX9_waterOf 32 = .ok (.goto 4, 3) := by decide +kernel
theorem dX9_waterOf_35 : decode cX9_waterOf 35 = .ok (.iconst 0, 1) := by decide +kernel
theorem dX9_waterOf_36 : decode cX9_waterOf 36 = .ok (.ior, 1) := by decide +kernel
theorem dX9_waterOf_37 : decode cX9_waterOf 37 = .ok (.istore 4, 2) := by decide +kernel
theorem dX9_waterOf_39 : decode cX9_waterOf 39 = .ok (.iinc 5 1, 3) := by decide +kernel
theorem dX9_waterOf_42 : decode cX9_waterOf 42 = .ok (.goto (-36), 3) := by decide +kernel
theorem dX9_waterOf_45 : decode cX9_waterOf 45 = .ok (.iload_n 3, 1) := by decide +kernel
theorem dX9_waterOf_46 : decode cX9_waterOf 46 = .ok (.ifCond .ne 6, 3) := by decide +kernel
theorem dX9_waterOf_49 : decode cX9_waterOf 49 = .ok (.iload 4, 2) := by decide +kernel
theorem dX9_waterOf_51 : decode cX9_waterOf 51 = .ok (.ireturn, 1) := by decide +kernel
theorem dX9_waterOf_52 : decode cX9_waterOf 52 = .ok (.iconst 0, 1) := by decide +kernel
theorem dX9_waterOf_53 : decode cX9_waterOf 53 = .ok (.istore 5, 2) := by decide +kernel
theorem dX9_waterOf_55 : decode cX9_waterOf 55 = .ok (.iconst 1, 1) := by decide +kernel
theorem dX9_waterOf_56 : decode cX9_waterOf 56 = .ok (.istore 6, 2) := by decide +kernel
theorem dX9_waterOf_58 : decode cX9_waterOf 58 = .ok (.iload 6, 2) := by decide +kernel
theorem dX9_waterOf_60 : decode cX9_waterOf 60 = .ok (.aload_n 0, 1) := by decide +kernel
theorem dX9_waterOf_61 : decode cX9_waterOf 61 = .ok (.invokevirtual 95, 3) := by decide +kernel
theorem dX9_waterOf_64 : decode cX9_waterOf 64 = .ok (.iconst 1, 1) := by decide +kernel
theorem dX9_waterOf_65 : decode cX9_waterOf 65 = .ok (.isub, 1) := by decide +kernel
theorem dX9_waterOf_66 : decode cX9_waterOf 66 = .ok (.if_icmp .ge 56, 3) := by decide +kernel
theorem dX9_waterOf_69 : decode cX9_waterOf 69 = .ok (.iload 5, 2) := by decide +kernel
theorem dX9_waterOf_71 : decode cX9_waterOf 71 = .ok (.iload 4, 2) := by decide +kernel
theorem dX9_waterOf_73 : decode cX9_waterOf 73 = .ok (.iload 6, 2) := by decide +kernel
theorem dX9_waterOf_75 : decode cX9_waterOf 75 = .ok (.invokestatic 139, 3) := by decide +kernel
theorem dX9_waterOf_78 : decode cX9_waterOf 78 = .ok (.ifCond .ne 34, 3) := by decide +kernel
theorem dX9_waterOf_81 : decode cX9_waterOf 81 = .ok (.iload 4, 2) := by decide +kernel
theorem dX9_waterOf_83 : decode cX9_waterOf 83 = .ok (.iload 6, 2) := by decide +kernel
theorem dX9_waterOf_85 : decode cX9_waterOf 85 = .ok (.iconst 1, 1) := by decide +kernel
theorem dX9_waterOf_86 : decode cX9_waterOf 86 = .ok (.isub, 1) := by decide +kernel
theorem dX9_waterOf_87 : decode cX9_waterOf 87 = .ok (.invokestatic 139, 3) := by decide +kernel
theorem dX9_waterOf_90 : decode cX9_waterOf 90 = .ok (.ifCond .eq 22, 3) := by decide +kernel
theorem dX9_waterOf_93 : decode cX9_waterOf 93 = .ok (.iload 4, 2) := by decide +kernel
theorem dX9_waterOf_95 : decode cX9_waterOf 95 = .ok (.iload 6, 2) := by decide +kernel
theorem dX9_waterOf_97 : decode cX9_waterOf 97 = .ok (.iconst 1, 1) := by decide +kernel
theorem dX9_waterOf_98 : decode cX9_waterOf 98 = .ok (.iadd, 1) := by decide +kernel
theorem dX9_waterOf_99 : decode cX9_waterOf 99 = .ok (.invokestatic 139, 3) := by decide +kernel
theorem dX9_waterOf_102 : decode cX9_waterOf 102 = .ok (.ifCond .eq 10, 3) := by decide +kernel
theorem dX9_waterOf_105 : decode cX9_waterOf 105 = .ok (.iconst 1, 1) := by decide +kernel
theorem dX9_waterOf_106 : decode cX9_waterOf 106 = .ok (.iload 6, 2) := by decide +kernel
theorem dX9_waterOf_108 : decode cX9_waterOf 108 = .ok (.ishl, 1) := by decide +kernel
theorem dX9_waterOf_109 : decode cX9_waterOf 109 = .ok (.goto 4, 3) := by decide +kernel
theorem dX9_waterOf_112 : decode cX9_waterOf 112 = .ok (.iconst 0, 1) := by decide +kernel
theorem dX9_waterOf_113 : decode cX9_waterOf 113 = .ok (.ior, 1) := by decide +kernel
theorem dX9_waterOf_114 : decode cX9_waterOf 114 = .ok (.istore 5, 2) := by decide +kernel
theorem dX9_waterOf_116 : decode cX9_waterOf 116 = .ok (.iinc 6 1, 3) := by decide +kernel
theorem dX9_waterOf_119 : decode cX9_waterOf 119 = .ok (.goto (-61), 3) := by decide +kernel
theorem dX9_waterOf_122 : decode cX9_waterOf 122 = .ok (.iload 5, 2) := by decide +kernel
theorem dX9_waterOf_124 : decode cX9_waterOf 124 = .ok (.ireturn, 1) := by decide +kernel
theorem dX9_water_0 : decode cX9_water 0 = .ok (.iload_n 1, 1) := by decide +kernel
theorem dX9_water_1 : decode cX9_water 1 = .ok (.invokestatic 105, 3) := by decide +kernel
theorem dX9_water_4 : decode cX9_water 4 = .ok (.ifCond .eq 27, 3) := by decide +kernel
theorem dX9_water_7 : decode cX9_water 7 = .ok (.iload_n 2, 1) := by decide +kernel
theorem dX9_water_8 : decode cX9_water 8 = .ok (.invokestatic 108, 3) := by decide +kernel
theorem dX9_water_11 : decode cX9_water 11 = .ok (.ifCond .eq 20, 3) := by decide +kernel
theorem dX9_water_14 : decode cX9_water 14 = .ok (.iload_n 3, 1) := by decide +kernel
theorem dX9_water_15 : decode cX9_water 15 = .ok (.invokestatic 142, 3) := by decide +kernel
theorem dX9_water_18 : decode cX9_water 18 = .ok (.ifCond .eq 13, 3) := by decide +kernel
theorem dX9_water_21 : decode cX9_water 21 = .ok (.aload_n 0, 1) := by decide +kernel
theorem dX9_water_22 : decode cX9_water 22 = .ok (.iload_n 1, 1) := by decide +kernel
theorem dX9_water_23 : decode cX9_water 23 = .ok (.iload_n 2, 1) := by decide +kernel
theorem dX9_water_24 : decode cX9_water 24 = .ok (.iload_n 3, 1) := by decide +kernel
theorem dX9_water_25 : decode cX9_water 25 = .ok (.invokevirtual 145, 3) := by decide +kernel
theorem dX9_water_28 : decode cX9_water 28 = .ok (.goto 5, 3) := by decide +kernel
theorem dX9_water_31 : decode cX9_water 31 = .ok (.bipush (-2), 2) := by decide +kernel
theorem dX9_water_33 : decode cX9_water 33 = .ok (.ireturn, 1) := by decide +kernel
theorem dX9_lesser_0 : decode cX9_lesser 0 = .ok (.iload_n 0, 1) := by decide +kernel
theorem dX9_lesser_1 : decode cX9_lesser 1 = .ok (.iload_n 1, 1) := by decide +kernel
theorem dX9_lesser_2 : decode cX9_lesser 2 = .ok (.if_icmp .ge 7, 3) := by decide +kernel
theorem dX9_lesser_5 : decode cX9_lesser 5 = .ok (.iload_n 0, 1) := by decide +kernel
theorem dX9_lesser_6 : decode cX9_lesser 6 = .ok (.goto 4, 3) := by decide +kernel
theorem dX9_lesser_9 : decode cX9_lesser 9 = .ok (.iload_n 1, 1) := by decide +kernel
theorem dX9_lesser_10 : decode cX9_lesser 10 = .ok (.ireturn, 1) := by decide +kernel
theorem dX9_costOf_0 : decode cX9_costOf 0 = .ok (.iload_n 3, 1) := by decide +kernel
theorem dX9_costOf_1 : decode cX9_costOf 1 = .ok (.iload 4, 2) := by decide +kernel
theorem dX9_costOf_3 : decode cX9_costOf 3 = .ok (.invokestatic 148, 3) := by decide +kernel
theorem dX9_costOf_6 : decode cX9_costOf 6 = .ok (.istore 6, 2) := by decide +kernel
theorem dX9_costOf_8 : decode cX9_costOf 8 = .ok (.iload_n 3, 1) := by decide +kernel
theorem dX9_costOf_9 : decode cX9_costOf 9 = .ok (.iload 4, 2) := by decide +kernel
theorem dX9_costOf_11 : decode cX9_costOf 11 = .ok (.iadd, 1) := by decide +kernel
theorem dX9_costOf_12 : decode cX9_costOf 12 = .ok (.iload 6, 2) := by decide +kernel
theorem dX9_costOf_14 : decode cX9_costOf 14 = .ok (.isub, 1) := by decide +kernel
theorem dX9_costOf_15 : decode cX9_costOf 15 = .ok (.istore 7, 2) := by decide +kernel
theorem dX9_costOf_17 : decode cX9_costOf 17 = .ok (.aload_n 0, 1) := by decide +kernel
theorem dX9_costOf_18 : decode cX9_costOf 18 = .ok (.iload_n 1, 1) := by decide +kernel
theorem dX9_costOf_19 : decode cX9_costOf 19 = .ok (.iload_n 2, 1) := by decide +kernel
theorem dX9_costOf_20 : decode cX9_costOf 20 = .ok (.iconst 0, 1) := by decide +kernel
theorem dX9_costOf_21 : decode cX9_costOf 21 = .ok (.invokevirtual 145, 3) := by decide +kernel
theorem dX9_costOf_24 : decode cX9_costOf 24 = .ok (.istore 8, 2) := by decide +kernel
theorem dX9_costOf_26 : decode cX9_costOf 26 = .ok (.iconst 0, 1) := by decide +kernel
theorem dX9_costOf_27 : decode cX9_costOf 27 = .ok (.istore 9, 2) := by decide +kernel
theorem dX9_costOf_29 : decode cX9_costOf 29 = .ok (.iload 6, 2) := by decide +kernel
theorem dX9_costOf_31 : decode cX9_costOf 31 = .ok (.istore 10, 2) := by decide +kernel
theorem dX9_costOf_33 : decode cX9_costOf 33 = .ok (.iload 10, 2) := by decide +kernel
theorem dX9_costOf_35 : decode cX9_costOf 35 = .ok (.iload 7, 2) := by decide +kernel
theorem dX9_costOf_37 : decode cX9_costOf 37 = .ok (.if_icmp .gt 79, 3) := by decide +kernel
theorem dX9_costOf_40 : decode cX9_costOf 40 = .ok (.iload 8, 2) := by decide +kernel
theorem dX9_costOf_42 : decode cX9_costOf 42 = .ok (.iload 10, 2) := by decide +kernel
theorem dX9_costOf_44 : decode cX9_costOf 44 = .ok (.invokestatic 139, 3) := by decide +kernel
theorem dX9_costOf_47 : decode cX9_costOf 47 = .ok (.ifCond .eq 26, 3) := by decide +kernel
theorem dX9_costOf_50 : decode cX9_costOf 50 = .ok (.iload 10, 2) := by decide +kernel
theorem dX9_costOf_52 : decode cX9_costOf 52 = .ok (.iload 6, 2) := by decide +kernel
theorem dX9_costOf_54 : decode cX9_costOf 54 = .ok (.if_icmp .eq 15, 3) := by decide +kernel
theorem dX9_costOf_57 : decode cX9_costOf 57 = .ok (.iload 8, 2) := by decide +kernel
theorem dX9_costOf_59 : decode cX9_costOf 59 = .ok (.iload 10, 2) := by decide +kernel
theorem dX9_costOf_61 : decode cX9_costOf 61 = .ok (.iconst 1, 1) := by decide +kernel
theorem dX9_costOf_62 : decode cX9_costOf 62 = .ok (.isub, 1) := by decide +kernel
theorem dX9_costOf_63 : decode cX9_costOf 63 = .ok (.invokestatic 139, 3) := by decide +kernel
theorem dX9_costOf_66 : decode cX9_costOf 66 = .ok (.ifCond .ne 7, 3) := by decide +kernel
theorem dX9_costOf_69 : decode cX9_costOf 69 = .ok (.iconst 1, 1) := by decide +kernel
theorem dX9_costOf_70 : decode cX9_costOf 70 = .ok (.goto 4, 3) := by decide +kernel
theorem dX9_costOf_73 : decode cX9_costOf 73 = .ok (.iconst 0, 1) := by decide +kernel
theorem dX9_costOf_74 : decode cX9_costOf 74 = .ok (.istore 11, 2) := by decide +kernel
theorem dX9_costOf_76 : decode cX9_costOf 76 = .ok (.iload 9, 2) := by decide +kernel
theorem dX9_costOf_78 : decode cX9_costOf 78 = .ok (.iload 8, 2) := by decide +kernel
theorem dX9_costOf_80 : decode cX9_costOf 80 = .ok (.iload 10, 2) := by decide +kernel
theorem dX9_costOf_82 : decode cX9_costOf 82 = .ok (.invokestatic 139, 3) := by decide +kernel
theorem dX9_costOf_85 : decode cX9_costOf 85 = .ok (.ifCond .ne 7, 3) := by decide +kernel
theorem dX9_costOf_88 : decode cX9_costOf 88 = .ok (.iconst 1, 1) := by decide +kernel
theorem dX9_costOf_89 : decode cX9_costOf 89 = .ok (.goto 18, 3) := by decide +kernel
theorem dX9_costOf_92 : decode cX9_costOf 92 = .ok (.iload 11, 2) := by decide +kernel
theorem dX9_costOf_94 : decode cX9_costOf 94 = .ok (.ifCond .eq 12, 3) := by decide +kernel
theorem dX9_costOf_97 : decode cX9_costOf 97 = .ok (.aload_n 0, 1) := by decide +kernel
theorem dX9_costOf_98 : decode cX9_costOf 98 = .ok (.getfield 28, 3) := by decide +kernel
theorem dX9_costOf_101 : decode cX9_costOf 101 = .ok (.iconst 2, 1) := by decide +kernel
theorem dX9_costOf_102 : decode cX9_costOf 102 = .ok (.iaload, 1) := by decide +kernel
theorem dX9_costOf_103 : decode cX9_costOf 103 = .ok (.goto 4, 3) := by decide +kernel
theorem dX9_costOf_106 : decode cX9_costOf 106 = .ok (.iconst 0, 1) := by decide +kernel
theorem dX9_costOf_107 : decode cX9_costOf 107 = .ok (.iadd, 1) := by decide +kernel
theorem dX9_costOf_108 : decode cX9_costOf 108 = .ok (.istore 9, 2) := by decide +kernel
theorem dX9_costOf_110 : decode cX9_costOf 110 = .ok (.iinc 10 1, 3) := by decide +kernel
theorem dX9_costOf_113 : decode cX9_costOf 113 = .ok (.goto (-80), 3) := by decide +kernel
theorem dX9_costOf_116 : decode cX9_costOf 116 = .ok (.aload_n 0, 1) := by decide +kernel
theorem dX9_costOf_117 : decode cX9_costOf 117 = .ok (.getfield 28, 3) := by decide +kernel
theorem dX9_costOf_120 : decode cX9_costOf 120 = .ok (.iconst 3, 1) := by decide +kernel
theorem dX9_costOf_121 : decode cX9_costOf 121 = .ok (.iaload, 1) := by decide +kernel
theorem dX9_costOf_122 : decode cX9_costOf 122 = .ok (.iload 7, 2) := by decide +kernel
theorem dX9_costOf_124 : decode cX9_costOf 124 = .ok (.iload 6, 2) := by decide +kernel
theorem dX9_costOf_126 : decode cX9_costOf 126 = .ok (.isub, 1) := by decide +kernel
theorem dX9_costOf_127 : decode cX9_costOf 127 = .ok (.iconst 1, 1) := by decide +kernel
theorem dX9_costOf_128 : decode cX9_costOf 128 = .ok (.iadd, 1) := by decide +kernel
theorem dX9_costOf_129 : decode cX9_costOf 129 = .ok (.imul, 1) := by decide +kernel
theorem dX9_costOf_130 : decode cX9_costOf 130 = .ok (.istore 10, 2) := by decide +kernel
theorem dX9_costOf_132 : decode cX9_costOf 132 = .ok (.iload 5, 2) := by decide +kernel
theorem dX9_costOf_134 : decode cX9_costOf 134 = .ok (.ifCond .ne 13, 3) := by decide +kernel
theorem dX9_costOf_137 : decode cX9_costOf 137 = .ok (.iload 9, 2) := by decide +kernel
theorem dX9_costOf_139 : decode cX9_costOf 139 = .ok (.iload 10, 2) := by decide +kernel
theorem dX9_costOf_141 : decode cX9_costOf 141 = .ok (.invokestatic 148, 3) := by decide +kernel
theorem dX9_costOf_144 : decode cX9_costOf 144 = .ok (.goto 16, 3) := by decide +kernel
theorem dX9_costOf_147 : decode cX9_costOf 147 = .ok (.iload 5, 2) := by decide +kernel
theorem dX9_costOf_149 : decode cX9_costOf 149 = .ok (.iconst 1, 1) := by decide +kernel
theorem dX9_costOf_150 : decode cX9_costOf 150 = .ok (.if_icmp .ne 8, 3) := by decide +kernel
theorem dX9_costOf_153 : decode cX9_costOf 153 = .ok (.iload 9, 2) := by decide +kernel
theorem dX9_costOf_155 : decode cX9_costOf 155 = .ok (.goto 5, 3) := by decide +kernel
theorem dX9_costOf_158 : decode cX9_costOf 158 = .ok (.iload 10, 2) := by decide +kernel
theorem dX9_costOf_160 : decode cX9_costOf 160 = .ok (.ireturn, 1) := by decide +kernel
theorem dX9_isWay_0 : decode cX9_isWay 0 = .ok (.iload_n 1, 1) := by decide +kernel
theorem dX9_isWay_1 : decode cX9_isWay 1 = .ok (.invokestatic 105, 3) := by decide +kernel
theorem dX9_isWay_4 : decode cX9_isWay 4 = .ok (.ifCond .eq 31, 3) := by decide +kernel
theorem dX9_isWay_7 : decode cX9_isWay 7 = .ok (.iload_n 2, 1) := by decide +kernel
theorem dX9_isWay_8 : decode cX9_isWay 8 = .ok (.invokestatic 108, 3) := by decide +kernel
theorem dX9_isWay_11 : decode cX9_isWay 11 = .ok (.ifCond .eq 24, 3) := by decide +kernel
theorem dX9_isWay_14 : decode cX9_isWay 14 = .ok (.aload_n 0, 1) := by decide +kernel
theorem dX9_isWay_15 : decode cX9_isWay 15 = .ok (.iload_n 3, 1) := by decide +kernel
theorem dX9_isWay_16 : decode cX9_isWay 16 = .ok (.invokevirtual 99, 3) := by decide +kernel
theorem dX9_isWay_19 : decode cX9_isWay 19 = .ok (.ifCond .eq 16, 3) := by decide +kernel
theorem dX9_isWay_22 : decode cX9_isWay 22 = .ok (.aload_n 0, 1) := by decide +kernel
theorem dX9_isWay_23 : decode cX9_isWay 23 = .ok (.iload 4, 2) := by decide +kernel
theorem dX9_isWay_25 : decode cX9_isWay 25 = .ok (.invokevirtual 99, 3) := by decide +kernel
theorem dX9_isWay_28 : decode cX9_isWay 28 = .ok (.ifCond .eq 7, 3) := by decide +kernel
theorem dX9_isWay_31 : decode cX9_isWay 31 = .ok (.iconst 1, 1) := by decide +kernel
theorem dX9_isWay_32 : decode cX9_isWay 32 = .ok (.goto 4, 3) := by decide +kernel
theorem dX9_isWay_35 : decode cX9_isWay 35 = .ok (.iconst 0, 1) := by decide +kernel
theorem dX9_isWay_36 : decode cX9_isWay 36 = .ok (.ireturn, 1) := by decide +kernel
theorem dX9_cost_0 : decode cX9_cost 0 = .ok (.aload_n 0, 1) := by decide +kernel
theorem dX9_cost_1 : decode cX9_cost 1 = .ok (.iload_n 1, 1) := by decide +kernel
theorem dX9_cost_2 : decode cX9_cost 2 = .ok (.iload_n 2, 1) := by decide +kernel
theorem dX9_cost_3 : decode cX9_cost 3 = .ok (.iload_n 3, 1) := by decide +kernel
theorem dX9_cost_4 : decode cX9_cost 4 = .ok (.iload 4, 2) := by decide +kernel
theorem dX9_cost_6 : decode cX9_cost 6 = .ok (.invokevirtual 151, 3) := by decide +kernel
theorem dX9_cost_9 : decode cX9_cost 9 = .ok (.ifCond .eq 30, 3) := by decide +kernel
theorem dX9_cost_12 : decode cX9_cost 12 = .ok (.iload 5, 2) := by decide +kernel
theorem dX9_cost_14 : decode cX9_cost 14 = .ok (.i2l, 1) := by decide +kernel
theorem dX9_cost_15 : decode cX9_cost 15 = .ok (.lconst 0, 1) := by decide +kernel
theorem dX9_cost_16 : decode cX9_cost 16 = .ok (.ldc2_w 63, 3) := by decide +kernel
theorem dX9_cost_19 : decode cX9_cost 19 = .ok (.invokestatic 49, 3) := by decide +kernel
theorem dX9_cost_22 : decode cX9_cost 22 = .ok (.ifCond .eq 17, 3) := by decide +kernel
theorem dX9_cost_25 : decode cX9_cost 25 = .ok (.aload_n 0, 1) := by decide +kernel
theorem dX9_cost_26 : decode cX9_cost 26 = .ok (.iload_n 1, 1) := by decide +kernel
theorem dX9_cost_27 : decode cX9_cost 27 = .ok (.iload_n 2, 1) := by decide +kernel
theorem dX9_cost_28 : decode cX9_cost 28 = .ok (.iload_n 3, 1) := by decide +kernel
theorem dX9_cost_29 : decode cX9_cost 29 = .ok (.iload 4, 2) := by decide +kernel
theorem dX9_cost_31 : decode cX9_cost 31 = .ok (.iload 5, 2) := by decide +kernel
theorem dX9_cost_33 : decode cX9_cost 33 = .ok (.invokevirtual 155, 3) := by decide +kernel
theorem dX9_cost_36 : decode cX9_cost 36 = .ok (.goto 5, 3) := by decide +kernel
theorem dX9_cost_39 : decode cX9_cost 39 = .ok (.bipush (-2), 2) := by decide +kernel
theorem dX9_cost_41 : decode cX9_cost 41 = .ok (.ireturn, 1) := by decide +kernel
theorem dX9_closedOf_0 : decode cX9_closedOf 0 = .ok (.iconst 0, 1) := by decide +kernel
theorem dX9_closedOf_1 : decode cX9_closedOf 1 = .ok (.istore_n 3, 1) := by decide +kernel
theorem dX9_closedOf_2 : decode cX9_closedOf 2 = .ok (.iconst 0, 1) := by decide +kernel
theorem dX9_closedOf_3 : decode cX9_closedOf 3 = .ok (.istore 4, 2) := by decide +kernel
theorem dX9_closedOf_5 : decode cX9_closedOf 5 = .ok (.iload 4, 2) := by decide +kernel
theorem dX9_closedOf_7 : decode cX9_closedOf 7 = .ok (.bipush 30, 2) := by decide +kernel
theorem dX9_closedOf_9 : decode cX9_closedOf 9 = .ok (.if_icmp .ge 28, 3) := by decide +kernel
theorem dX9_closedOf_12 : decode cX9_closedOf 12 = .ok (.iload_n 3, 1) := by decide +kernel
theorem dX9_closedOf_13 : decode cX9_closedOf 13 = .ok (.aload_n 0, 1) := by decide +kernel
theorem dX9_closedOf_14 : decode cX9_closedOf 14 = .ok (.iload_n 1, 1) := by decide +kernel
theorem dX9_closedOf_15 : decode cX9_closedOf 15 = .ok (.iload 4, 2) := by decide +kernel
theorem dX9_closedOf_17 : decode cX9_closedOf 17 = .ok (.iload_n 2, 1) := by decide +kernel
theorem dX9_closedOf_18 : decode cX9_closedOf 18 = .ok (.invokevirtual 135, 3) := by decide +kernel
theorem dX9_closedOf_21 : decode cX9_closedOf 21 = .ok (.ifCond .eq 7, 3) := by decide +kernel
theorem dX9_closedOf_24 : decode cX9_closedOf 24 = .ok (.iconst 1, 1) := by decide +kernel
theorem dX9_closedOf_25 : decode cX9_closedOf 25 = .ok (.goto 4, 3) := by decide +kernel
theorem dX9_closedOf_28 : decode cX9_closedOf 28 = .ok (.iconst 0, 1) := by decide +kernel
theorem dX9_closedOf_29 : decode cX9_closedOf 29 = .ok (.iadd, 1) := by decide +kernel
theorem dX9_closedOf_30 : decode cX9_closedOf 30 = .ok (.istore_n 3, 1) := by decide +kernel
theorem dX9_closedOf_31 : decode cX9_closedOf 31 = .ok (.iinc 4 1, 3) := by decide +kernel
theorem dX9_closedOf_34 : decode cX9_closedOf 34 = .ok (.goto (-29), 3) := by decide +kernel
theorem dX9_closedOf_37 : decode cX9_closedOf 37 = .ok (.iload_n 3, 1) := by decide +kernel
theorem dX9_closedOf_38 : decode cX9_closedOf 38 = .ok (.ireturn, 1) := by decide +kernel
theorem dX9_closed_0 : decode cX9_closed 0 = .ok (.iload_n 1, 1) := by decide +kernel
theorem dX9_closed_1 : decode cX9_closed 1 = .ok (.invokestatic 105, 3) := by decide +kernel
theorem dX9_closed_4 : decode cX9_closed 4 = .ok (.ifCond .eq 20, 3) := by decide +kernel
theorem dX9_closed_7 : decode cX9_closed 7 = .ok (.aload_n 0, 1) := by decide +kernel
theorem dX9_closed_8 : decode cX9_closed 8 = .ok (.iload_n 2, 1) := by decide +kernel
theorem dX9_closed_9 : decode cX9_closed 9 = .ok (.invokevirtual 99, 3) := by decide +kernel
theorem dX9_closed_12 : decode cX9_closed 12 = .ok (.ifCond .eq 12, 3) := by decide +kernel
theorem dX9_closed_15 : decode cX9_closed 15 = .ok (.aload_n 0, 1) := by decide +kernel
theorem dX9_closed_16 : decode cX9_closed 16 = .ok (.iload_n 1, 1) := by decide +kernel
theorem dX9_closed_17 : decode cX9_closed 17 = .ok (.iload_n 2, 1) := by decide +kernel
theorem dX9_closed_18 : decode cX9_closed 18 = .ok (.invokevirtual 159, 3) := by decide +kernel
theorem dX9_closed_21 : decode cX9_closed 21 = .ok (.goto 5, 3) := by decide +kernel
theorem dX9_closed_24 : decode cX9_closed 24 = .ok (.bipush (-2), 2) := by decide +kernel
theorem dX9_closed_26 : decode cX9_closed 26 = .ok (.ireturn, 1) := by decide +kernel
theorem dX9_deedOf_0 : decode cX9_deedOf 0 = .ok (.iconst 0, 1) := by decide +kernel
theorem dX9_deedOf_1 : decode cX9_deedOf 1 = .ok (.istore_n 3, 1) := by decide +kernel
theorem dX9_deedOf_2 : decode cX9_deedOf 2 = .ok (.iconst 0, 1) := by decide +kernel
theorem dX9_deedOf_3 : decode cX9_deedOf 3 = .ok (.istore 4, 2) := by decide +kernel
theorem dX9_deedOf_5 : decode cX9_deedOf 5 = .ok (.iconst 0, 1) := by decide +kernel
theorem dX9_deedOf_6 : decode cX9_deedOf 6 = .ok (.istore 5, 2) := by decide +kernel
theorem dX9_deedOf_8 : decode cX9_deedOf 8 = .ok (.iload 5, 2) := by decide +kernel
theorem dX9_deedOf_10 : decode cX9_deedOf 10 = .ok (.bipush 30, 2) := by decide +kernel
theorem dX9_deedOf_12 : decode cX9_deedOf 12 = .ok (.if_icmp .ge 62, 3) := by decide +kernel
theorem dX9_deedOf_15 : decode cX9_deedOf 15 = .ok (.aload_n 0, 1) := by decide +kernel
theorem dX9_deedOf_16 : decode cX9_deedOf 16 = .ok (.iload_n 1, 1) := by decide +kernel
theorem dX9_deedOf_17 : decode cX9_deedOf 17 = .ok (.iload 5, 2) := by decide +kernel
theorem dX9_deedOf_19 : decode cX9_deedOf 19 = .ok (.iconst 0, 1) := by decide +kernel
theorem dX9_deedOf_20 : decode cX9_deedOf 20 = .ok (.invokevirtual 145, 3) := by decide +kernel
theorem dX9_deedOf_23 : decode cX9_deedOf 23 = .ok (.istore 6, 2) := by decide +kernel
theorem dX9_deedOf_25 : decode cX9_deedOf 25 = .ok (.iconst 0, 1) := by decide +kernel
theorem dX9_deedOf_26 : decode cX9_deedOf 26 = .ok (.istore 7, 2) := by decide +kernel
theorem dX9_deedOf_28 : decode cX9_deedOf 28 = .ok (.iload 7, 2) := by decide +kernel
theorem dX9_deedOf_30 : decode cX9_deedOf 30 = .ok (.aload_n 0, 1) := by decide +kernel
theorem dX9_deedOf_31 : decode cX9_deedOf 31 = .ok (.invokevirtual 95, 3) := by decide +kernel
theorem dX9_deedOf_34 : decode cX9_deedOf 34 = .ok (.if_icmp .ge 19, 3) := by decide +kernel
theorem dX9_deedOf_37 : decode cX9_deedOf 37 = .ok (.iload_n 3, 1) := by decide +kernel
theorem dX9_deedOf_38 : decode cX9_deedOf 38 = .ok (.iload 6, 2) := by decide +kernel
theorem dX9_deedOf_40 : decode cX9_deedOf 40 = .ok (.iload 7, 2) := by decide +kernel
theorem dX9_deedOf_42 : decode cX9_deedOf 42 = .ok (.ishr, 1) := by decide +kernel
theorem dX9_deedOf_43 : decode cX9_deedOf 43 = .ok (.iconst 1, 1) := by decide +kernel
theorem dX9_deedOf_44 : decode cX9_deedOf 44 = .ok (.iand, 1) := by decide +kernel
theorem dX9_deedOf_45 : decode cX9_deedOf 45 = .ok (.iadd, 1) := by decide +kernel
theorem dX9_deedOf_46 : decode cX9_deedOf 46 = .ok (.istore_n 3, 1) := by decide +kernel
theorem dX9_deedOf_47 : decode cX9_deedOf 47 = .ok (.iinc 7 1, 3) := by decide +kernel
theorem dX9_deedOf_50 : decode cX9_deedOf 50 = .ok (.goto (-22), 3) := by decide +kernel
theorem dX9_deedOf_53 : decode cX9_deedOf 53 = .ok (.iload 4, 2) := by decide +kernel
theorem dX9_deedOf_55 : decode cX9_deedOf 55 = .ok (.iload 6, 2) := by decide +kernel
theorem dX9_deedOf_57 : decode cX9_deedOf 57 = .ok (.ifCond .ne 7, 3) := by decide +kernel
theorem dX9_deedOf_60 : decode cX9_deedOf 60 = .ok (.iconst 0, 1) := by decide +kernel
theorem dX9_deedOf_61 : decode cX9_deedOf 61 = .ok (.goto 4, 3) := by decide +kernel
theorem dX9_deedOf_64 : decode cX9_deedOf 64 = .ok (.iconst 1, 1) := by decide +kernel
theorem dX9_deedOf_65 : decode cX9_deedOf 65 = .ok (.iadd, 1) := by decide +kernel
theorem dX9_deedOf_66 : decode cX9_deedOf 66 = .ok (.istore 4, 2) := by decide +kernel
theorem dX9_deedOf_68 : decode cX9_deedOf 68 = .ok (.iinc 5 1, 3) := by decide +kernel
theorem dX9_deedOf_71 : decode cX9_deedOf 71 = .ok (.goto (-63), 3) := by decide +kernel
theorem dX9_deedOf_74 : decode cX9_deedOf 74 = .ok (.iload_n 2, 1) := by decide +kernel
theorem dX9_deedOf_75 : decode cX9_deedOf 75 = .ok (.ifCond .ne 7, 3) := by decide +kernel
theorem dX9_deedOf_78 : decode cX9_deedOf 78 = .ok (.iload_n 3, 1) := by decide +kernel
theorem dX9_deedOf_79 : decode cX9_deedOf 79 = .ok (.goto 31, 3) := by decide +kernel
theorem dX9_deedOf_82 : decode cX9_deedOf 82 = .ok (.iload_n 2, 1) := by decide +kernel
theorem dX9_deedOf_83 : decode cX9_deedOf 83 = .ok (.iconst 1, 1) := by decide +kernel
theorem dX9_deedOf_84 : decode cX9_deedOf 84 = .ok (.if_icmp .ne 8, 3) := by decide +kernel
theorem dX9_deedOf_87 : decode cX9_deedOf 87 = .ok (.iload 4, 2) := by decide +kernel
theorem dX9_deedOf_89 : decode cX9_deedOf 89 = .ok (.goto 21, 3) := by decide +kernel
theorem dX9_deedOf_92 : decode cX9_deedOf 92 = .ok (.aload_n 0, 1) := by decide +kernel
theorem dX9_deedOf_93 : decode cX9_deedOf 93 = .ok (.getfield 28, 3) := by decide +kernel
theorem dX9_deedOf_96 : decode cX9_deedOf 96 = .ok (.iconst 4, 1) := by decide +kernel
theorem dX9_deedOf_97 : decode cX9_deedOf 97 = .ok (.iaload, 1) := by decide +kernel
theorem dX9_deedOf_98 : decode cX9_deedOf 98 = .ok (.iload_n 3, 1) := by decide +kernel
theorem dX9_deedOf_99 : decode cX9_deedOf 99 = .ok (.imul, 1) := by decide +kernel
theorem dX9_deedOf_100 : decode cX9_deedOf 100 = .ok (.aload_n 0, 1) := by decide +kernel
theorem dX9_deedOf_101 : decode cX9_deedOf 101 = .ok (.getfield 28, 3) := by decide +kernel
theorem dX9_deedOf_104 : decode cX9_deedOf 104 = .ok (.iconst 5, 1) := by decide +kernel
theorem dX9_deedOf_105 : decode cX9_deedOf 105 = .ok (.iaload, 1) := by decide +kernel
theorem dX9_deedOf_106 : decode cX9_deedOf 106 = .ok (.iload 4, 2) := by decide +kernel
theorem dX9_deedOf_108 : decode cX9_deedOf 108 = .ok (.imul, 1) := by decide +kernel
theorem dX9_deedOf_109 : decode cX9_deedOf 109 = .ok (.isub, 1) := by decide +kernel
theorem dX9_deedOf_110 : decode cX9_deedOf 110 = .ok (.ireturn, 1) := by decide +kernel
theorem dX9_deed_0 : decode cX9_deed 0 = .ok (.iload_n 1, 1) := by decide +kernel
theorem dX9_deed_1 : decode cX9_deed 1 = .ok (.invokestatic 105, 3) := by decide +kernel
theorem dX9_deed_4 : decode cX9_deed 4 = .ok (.ifCond .eq 24, 3) := by decide +kernel
theorem dX9_deed_7 : decode cX9_deed 7 = .ok (.iload_n 2, 1) := by decide +kernel
theorem dX9_deed_8 : decode cX9_deed 8 = .ok (.i2l, 1) := by decide +kernel
end
section
theorem dX9_deed_9 : decode cX9_deed 9 = .ok (.lconst 0, 1) := by decide +kernel
theorem dX9_deed_10 : decode cX9_deed 10 = .ok (.ldc2_w 63, 3) := by decide +kernel
theorem dX9_deed_13 : decode cX9_deed 13 = .ok (.invokestatic 49, 3) := by decide +kernel
theorem dX9_deed_16 : decode cX9_deed 16 = .ok (.ifCond .eq 12, 3) := by decide +kernel
theorem dX9_deed_19 : decode cX9_deed 19 = .ok (.aload_n 0, 1) := by decide +kernel
theorem dX9_deed_20 : decode cX9_deed 20 = .ok (.iload_n 1, 1) := by decide +kernel
theorem dX9_deed_21 : decode cX9_deed 21 = .ok (.iload_n 2, 1) := by decide +kernel
theorem dX9_deed_22 : decode cX9_deed 22 = .ok (.invokevirtual 162, 3) := by decide +kernel
theorem dX9_deed_25 : decode cX9_deed 25 = .ok (.goto 5, 3) := by decide +kernel
theorem dX9_deed_28 : decode cX9_deed 28 = .ok (.ldc 165, 2) := by decide +kernel
theorem dX9_deed_30 : decode cX9_deed 30 = .ok (.ireturn, 1) := by decide +kernel
theorem dX9_alike_0 : decode cX9_alike 0 = .ok (.iconst 0, 1) := by decide +kernel
theorem dX9_alike_1 : decode cX9_alike 1 = .ok (.istore_n 3, 1) := by decide +kernel
theorem dX9_alike_2 : decode cX9_alike 2 = .ok (.iconst 0, 1) := by decide +kernel
theorem dX9_alike_3 : decode cX9_alike 3 = .ok (.istore 4, 2) := by decide +kernel
theorem dX9_alike_5 : decode cX9_alike 5 = .ok (.iload 4, 2) := by decide +kernel
theorem dX9_alike_7 : decode cX9_alike 7 = .ok (.iconst 3, 1) := by decide +kernel
theorem dX9_alike_8 : decode cX9_alike 8 = .ok (.if_icmp .ge 73, 3) := by decide +kernel
theorem dX9_alike_11 : decode cX9_alike 11 = .ok (.iconst 1, 1) := by decide +kernel
theorem dX9_alike_12 : decode cX9_alike 12 = .ok (.istore 5, 2) := by decide +kernel
theorem dX9_alike_14 : decode cX9_alike 14 = .ok (.iconst 0, 1) := by decide +kernel
theorem dX9_alike_15 : decode cX9_alike 15 = .ok (.istore 6, 2) := by decide +kernel
theorem dX9_alike_17 : decode cX9_alike 17 = .ok (.iload 6, 2) := by decide +kernel
theorem dX9_alike_19 : decode cX9_alike 19 = .ok (.iload_n 2, 1) := by decide +kernel
theorem dX9_alike_20 : decode cX9_alike 20 = .ok (.if_icmp .gt 39, 3) := by decide +kernel
theorem dX9_alike_23 : decode cX9_alike 23 = .ok (.iload 5, 2) := by decide +kernel
theorem dX9_alike_25 : decode cX9_alike 25 = .ok (.ifCond .eq 25, 3) := by decide +kernel
theorem dX9_alike_28 : decode cX9_alike 28 = .ok (.aload_n 0, 1) := by decide +kernel
theorem dX9_alike_29 : decode cX9_alike 29 = .ok (.iload_n 1, 1) := by decide +kernel
theorem dX9_alike_30 : decode cX9_alike 30 = .ok (.iload 6, 2) := by decide +kernel
theorem dX9_alike_32 : decode cX9_alike 32 = .ok (.invokevirtual 111, 3) := by decide +kernel
theorem dX9_alike_35 : decode cX9_alike 35 = .ok (.aload_n 0, 1) := by decide +kernel
theorem dX9_alike_36 : decode cX9_alike 36 = .ok (.iload 4, 2) := by decide +kernel
theorem dX9_alike_38 : decode cX9_alike 38 = .ok (.iload 6, 2) := by decide +kernel
theorem dX9_alike_40 : decode cX9_alike 40 = .ok (.invokevirtual 111, 3) := by decide +kernel
theorem dX9_alike_43 : decode cX9_alike 43 = .ok (.if_icmp .ne 7, 3) := by decide +kernel
theorem dX9_alike_46 : decode cX9_alike 46 = .ok (.iconst 1, 1) := by decide +kernel
theorem dX9_alike_47 : decode cX9_alike 47 = .ok (.goto 4, 3) := by decide +kernel
theorem dX9_alike_50 : decode cX9_alike 50 = .ok (.iconst 0, 1) := by decide +kernel
theorem dX9_alike_51 : decode cX9_alike 51 = .ok (.istore 5, 2) := by decide +kernel
theorem dX9_alike_53 : decode cX9_alike 53 = .ok (.iinc 6 1, 3) := by decide +kernel
theorem dX9_alike_56 : decode cX9_alike 56 = .ok (.goto (-39), 3) := by decide +kernel
theorem dX9_alike_59 : decode cX9_alike 59 = .ok (.iload_n 3, 1) := by decide +kernel
theorem dX9_alike_60 : decode cX9_alike 60 = .ok (.iload 5, 2) := by decide +kernel
theorem dX9_alike_62 : decode cX9_alike 62 = .ok (.ifCond .eq 10, 3) := by decide +kernel
theorem dX9_alike_65 : decode cX9_alike 65 = .ok (.iconst 1, 1) := by decide +kernel
theorem dX9_alike_66 : decode cX9_alike 66 = .ok (.iload 4, 2) := by decide +kernel
theorem dX9_alike_68 : decode cX9_alike 68 = .ok (.ishl, 1) := by decide +kernel
theorem dX9_alike_69 : decode cX9_alike 69 = .ok (.goto 4, 3) := by decide +kernel
theorem dX9_alike_72 : decode cX9_alike 72 = .ok (.iconst 0, 1) := by decide +kernel
theorem dX9_alike_73 : decode cX9_alike 73 = .ok (.ior, 1) := by decide +kernel
theorem dX9_alike_74 : decode cX9_alike 74 = .ok (.istore_n 3, 1) := by decide +kernel
theorem dX9_alike_75 : decode cX9_alike 75 = .ok (.iinc 4 1, 3) := by decide +kernel
theorem dX9_alike_78 : decode cX9_alike 78 = .ok (.goto (-73), 3) := by decide +kernel
theorem dX9_alike_81 : decode cX9_alike 81 = .ok (.iload_n 3, 1) := by decide +kernel
theorem dX9_alike_82 : decode cX9_alike 82 = .ok (.ireturn, 1) := by decide +kernel
theorem dX9_weight_0 : decode cX9_weight 0 = .ok (.lconst 0, 1) := by decide +kernel
theorem dX9_weight_1 : decode cX9_weight 1 = .ok (.lstore_n 2, 1) := by decide +kernel
theorem dX9_weight_2 : decode cX9_weight 2 = .ok (.iconst 0, 1) := by decide +kernel
theorem dX9_weight_3 : decode cX9_weight 3 = .ok (.istore 4, 2) := by decide +kernel
theorem dX9_weight_5 : decode cX9_weight 5 = .ok (.iload 4, 2) := by decide +kernel
theorem dX9_weight_7 : decode cX9_weight 7 = .ok (.iconst 3, 1) := by decide +kernel
theorem dX9_weight_8 : decode cX9_weight 8 = .ok (.if_icmp .ge 33, 3) := by decide +kernel
theorem dX9_weight_11 : decode cX9_weight 11 = .ok (.lload_n 2, 1) := by decide +kernel
theorem dX9_weight_12 : decode cX9_weight 12 = .ok (.iload_n 1, 1) := by decide +kernel
theorem dX9_weight_13 : decode cX9_weight 13 = .ok (.iload 4, 2) := by decide +kernel
theorem dX9_weight_15 : decode cX9_weight 15 = .ok (.invokestatic 139, 3) := by decide +kernel
theorem dX9_weight_18 : decode cX9_weight 18 = .ok (.ifCond .eq 14, 3) := by decide +kernel
theorem dX9_weight_21 : decode cX9_weight 21 = .ok (.aload_n 0, 1) := by decide +kernel
theorem dX9_weight_22 : decode cX9_weight 22 = .ok (.getfield 31, 3) := by decide +kernel
theorem dX9_weight_25 : decode cX9_weight 25 = .ok (.iload 4, 2) := by decide +kernel
theorem dX9_weight_27 : decode cX9_weight 27 = .ok (.iaload, 1) := by decide +kernel
theorem dX9_weight_28 : decode cX9_weight 28 = .ok (.i2l, 1) := by decide +kernel
theorem dX9_weight_29 : decode cX9_weight 29 = .ok (.goto 4, 3) := by decide +kernel
theorem dX9_weight_32 : decode cX9_weight 32 = .ok (.lconst 0, 1) := by decide +kernel
theorem dX9_weight_33 : decode cX9_weight 33 = .ok (.ladd, 1) := by decide +kernel
theorem dX9_weight_34 : decode cX9_weight 34 = .ok (.lstore_n 2, 1) := by decide +kernel
theorem dX9_weight_35 : decode cX9_weight 35 = .ok (.iinc 4 1, 3) := by decide +kernel
theorem dX9_weight_38 : decode cX9_weight 38 = .ok (.goto (-33), 3) := by decide +kernel
theorem dX9_weight_41 : decode cX9_weight 41 = .ok (.lload_n 2, 1) := by decide +kernel
theorem dX9_weight_42 : decode cX9_weight 42 = .ok (.lreturn, 1) := by decide +kernel
theorem dX9_waitingFor_0 : decode cX9_waitingFor 0 = .ok (.aload_n 0, 1) := by decide +kernel
theorem dX9_waitingFor_1 : decode cX9_waitingFor 1 = .ok (.getfield 28, 3) := by decide +kernel
theorem dX9_waitingFor_4 : decode cX9_waitingFor 4 = .ok (.bipush 6, 2) := by decide +kernel
theorem dX9_waitingFor_6 : decode cX9_waitingFor 6 = .ok (.iaload, 1) := by decide +kernel
theorem dX9_waitingFor_7 : decode cX9_waitingFor 7 = .ok (.i2l, 1) := by decide +kernel
theorem dX9_waitingFor_8 : decode cX9_waitingFor 8 = .ok (.aload_n 0, 1) := by decide +kernel
theorem dX9_waitingFor_9 : decode cX9_waitingFor 9 = .ok (.iload_n 1, 1) := by decide +kernel
theorem dX9_waitingFor_10 : decode cX9_waitingFor 10 = .ok (.invokevirtual 166, 3) := by decide +kernel
theorem dX9_waitingFor_13 : decode cX9_waitingFor 13 = .ok (.lmul, 1) := by decide +kernel
theorem dX9_waitingFor_14 : decode cX9_waitingFor 14 = .ok (.lstore_n 3, 1) := by decide +kernel
theorem dX9_waitingFor_15 : decode cX9_waitingFor 15 = .ok (.iconst 0, 1) := by decide +kernel
theorem dX9_waitingFor_16 : decode cX9_waitingFor 16 = .ok (.istore 5, 2) := by decide +kernel
theorem dX9_waitingFor_18 : decode cX9_waitingFor 18 = .ok (.iconst 0, 1) := by decide +kernel
theorem dX9_waitingFor_19 : decode cX9_waitingFor 19 = .ok (.istore 6, 2) := by decide +kernel
theorem dX9_waitingFor_21 : decode cX9_waitingFor 21 = .ok (.iload 6, 2) := by decide +kernel
theorem dX9_waitingFor_23 : decode cX9_waitingFor 23 = .ok (.iconst 3, 1) := by decide +kernel
theorem dX9_waitingFor_24 : decode cX9_waitingFor 24 = .ok (.if_icmp .ge 58, 3) := by decide +kernel
theorem dX9_waitingFor_27 : decode cX9_waitingFor 27 = .ok (.iload_n 1, 1) := by decide +kernel
theorem dX9_waitingFor_28 : decode cX9_waitingFor 28 = .ok (.iload 6, 2) := by decide +kernel
theorem dX9_waitingFor_30 : decode cX9_waitingFor 30 = .ok (.invokestatic 139, 3) := by decide +kernel
theorem dX9_waitingFor_33 : decode cX9_waitingFor 33 = .ok (.ifCond .eq 43, 3) := by decide +kernel
theorem dX9_waitingFor_36 : decode cX9_waitingFor 36 = .ok (.iload 5, 2) := by decide +kernel
theorem dX9_waitingFor_38 : decode cX9_waitingFor 38 = .ok (.iload 6, 2) := by decide +kernel
theorem dX9_waitingFor_40 : decode cX9_waitingFor 40 = .ok (.invokestatic 139, 3) := by decide +kernel
theorem dX9_waitingFor_43 : decode cX9_waitingFor 43 = .ok (.ifCond .ne 33, 3) := by decide +kernel
theorem dX9_waitingFor_46 : decode cX9_waitingFor 46 = .ok (.lload_n 3, 1) := by decide +kernel
theorem dX9_waitingFor_47 : decode cX9_waitingFor 47 = .ok (.aload_n 0, 1) := by decide +kernel
theorem dX9_waitingFor_48 : decode cX9_waitingFor 48 = .ok (.getfield 37, 3) := by decide +kernel
theorem dX9_waitingFor_51 : decode cX9_waitingFor 51 = .ok (.iconst 3, 1) := by decide +kernel
theorem dX9_waitingFor_52 : decode cX9_waitingFor 52 = .ok (.iload_n 2, 1) := by decide +kernel
theorem dX9_waitingFor_53 : decode cX9_waitingFor 53 = .ok (.iconst 1, 1) := by decide +kernel
theorem dX9_waitingFor_54 : decode cX9_waitingFor 54 = .ok (.iadd, 1) := by decide +kernel
theorem dX9_waitingFor_55 : decode cX9_waitingFor 55 = .ok (.imul, 1) := by decide +kernel
theorem dX9_waitingFor_56 : decode cX9_waitingFor 56 = .ok (.iload 6, 2) := by decide +kernel
theorem dX9_waitingFor_58 : decode cX9_waitingFor 58 = .ok (.iadd, 1) := by decide +kernel
theorem dX9_waitingFor_59 : decode cX9_waitingFor 59 = .ok (.laload, 1) := by decide +kernel
theorem dX9_waitingFor_60 : decode cX9_waitingFor 60 = .ok (.ladd, 1) := by decide +kernel
theorem dX9_waitingFor_61 : decode cX9_waitingFor 61 = .ok (.lstore_n 3, 1) := by decide +kernel
theorem dX9_waitingFor_62 : decode cX9_waitingFor 62 = .ok (.iload 5, 2) := by decide +kernel
theorem dX9_waitingFor_64 : decode cX9_waitingFor 64 = .ok (.aload_n 0, 1) := by decide +kernel
theorem dX9_waitingFor_65 : decode cX9_waitingFor 65 = .ok (.iload 6, 2) := by decide +kernel
theorem dX9_waitingFor_67 : decode cX9_waitingFor 67 = .ok (.iload_n 2, 1) := by decide +kernel
theorem dX9_waitingFor_68 : decode cX9_waitingFor 68 = .ok (.iconst 1, 1) := by decide +kernel
theorem dX9_waitingFor_69 : decode cX9_waitingFor 69 = .ok (.iadd, 1) := by decide +kernel
theorem dX9_waitingFor_70 : decode cX9_waitingFor 70 = .ok (.invokevirtual 170, 3) := by decide +kernel
theorem dX9_waitingFor_73 : decode cX9_waitingFor 73 = .ok (.ior, 1) := by decide +kernel
theorem dX9_waitingFor_74 : decode cX9_waitingFor 74 = .ok (.istore 5, 2) := by decide +kernel
theorem dX9_waitingFor_76 : decode cX9_waitingFor 76 = .ok (.iinc 6 1, 3) := by decide +kernel
theorem dX9_waitingFor_79 : decode cX9_waitingFor 79 = .ok (.goto (-58), 3) := by decide +kernel
theorem dX9_waitingFor_82 : decode cX9_waitingFor 82 = .ok (.lload_n 3, 1) := by decide +kernel
theorem dX9_waitingFor_83 : decode cX9_waitingFor 83 = .ok (.lreturn, 1) := by decide +kernel
theorem dX9_findWorths_0 : decode cX9_findWorths 0 = .ok (.bipush 29, 2) := by decide +kernel
theorem dX9_findWorths_2 : decode cX9_findWorths 2 = .ok (.istore 5, 2) := by decide +kernel
theorem dX9_findWorths_4 : decode cX9_findWorths 4 = .ok (.iload 5, 2) := by decide +kernel
theorem dX9_findWorths_6 : decode cX9_findWorths 6 = .ok (.iload_n 2, 1) := by decide +kernel
theorem dX9_findWorths_7 : decode cX9_findWorths 7 = .ok (.if_icmp .lt 141, 3) := by decide +kernel
theorem dX9_findWorths_10 : decode cX9_findWorths 10 = .ok (.iconst 0, 1) := by decide +kernel
theorem dX9_findWorths_11 : decode cX9_findWorths 11 = .ok (.istore 6, 2) := by decide +kernel
theorem dX9_findWorths_13 : decode cX9_findWorths 13 = .ok (.iload 6, 2) := by decide +kernel
theorem dX9_findWorths_15 : decode cX9_findWorths 15 = .ok (.iconst 3, 1) := by decide +kernel
theorem dX9_findWorths_16 : decode cX9_findWorths 16 = .ok (.if_icmp .ge 126, 3) := by decide +kernel
theorem dX9_findWorths_19 : decode cX9_findWorths 19 = .ok (.aload_n 0, 1) := by decide +kernel
theorem dX9_findWorths_20 : decode cX9_findWorths 20 = .ok (.iload 6, 2) := by decide +kernel
theorem dX9_findWorths_22 : decode cX9_findWorths 22 = .ok (.iload 5, 2) := by decide +kernel
theorem dX9_findWorths_24 : decode cX9_findWorths 24 = .ok (.invokevirtual 170, 3) := by decide +kernel
theorem dX9_findWorths_27 : decode cX9_findWorths 27 = .ok (.istore 7, 2) := by decide +kernel
theorem dX9_findWorths_29 : decode cX9_findWorths 29 = .ok (.aload_n 0, 1) := by decide +kernel
theorem dX9_findWorths_30 : decode cX9_findWorths 30 = .ok (.iload 7, 2) := by decide +kernel
theorem dX9_findWorths_32 : decode cX9_findWorths 32 = .ok (.invokevirtual 166, 3) := by decide +kernel
theorem dX9_findWorths_35 : decode cX9_findWorths 35 = .ok (.aload_n 0, 1) := by decide +kernel
theorem dX9_findWorths_36 : decode cX9_findWorths 36 = .ok (.iload 6, 2) := by decide +kernel
theorem dX9_findWorths_38 : decode cX9_findWorths 38 = .ok (.iload 5, 2) := by decide +kernel
theorem dX9_findWorths_40 : decode cX9_findWorths 40 = .ok (.iload_n 3, 1) := by decide +kernel
theorem dX9_findWorths_41 : decode cX9_findWorths 41 = .ok (.iload 4, 2) := by decide +kernel
theorem dX9_findWorths_43 : decode cX9_findWorths 43 = .ok (.iconst 0, 1) := by decide +kernel
theorem dX9_findWorths_44 : decode cX9_findWorths 44 = .ok (.invokevirtual 155, 3) := by decide +kernel
theorem dX9_findWorths_47 : decode cX9_findWorths 47 = .ok (.i2l, 1) := by decide +kernel
theorem dX9_findWorths_48 : decode cX9_findWorths 48 = .ok (.lmul, 1) := by decide +kernel
theorem dX9_findWorths_49 : decode cX9_findWorths 49 = .ok (.lstore 8, 2) := by decide +kernel
theorem dX9_findWorths_51 : decode cX9_findWorths 51 = .ok (.iload 5, 2) := by decide +kernel
theorem dX9_findWorths_53 : decode cX9_findWorths 53 = .ok (.bipush 29, 2) := by decide +kernel
theorem dX9_findWorths_55 : decode cX9_findWorths 55 = .ok (.if_icmp .ne 8, 3) := by decide +kernel
theorem dX9_findWorths_58 : decode cX9_findWorths 58 = .ok (.lload 8, 2) := by decide +kernel
theorem dX9_findWorths_60 : decode cX9_findWorths 60 = .ok (.goto 11, 3) := by decide +kernel
theorem dX9_findWorths_63 : decode cX9_findWorths 63 = .ok (.aload_n 0, 1) := by decide +kernel
theorem dX9_findWorths_64 : decode cX9_findWorths 64 = .ok (.iload 7, 2) := by decide +kernel
theorem dX9_findWorths_66 : decode cX9_findWorths 66 = .ok (.iload 5, 2) := by decide +kernel
theorem dX9_findWorths_68 : decode cX9_findWorths 68 = .ok (.invokevirtual 173, 3) := by decide +kernel
theorem dX9_findWorths_71 : decode cX9_findWorths 71 = .ok (.lstore 10, 2) := by decide +kernel
theorem dX9_findWorths_73 : decode cX9_findWorths 73 = .ok (.aload_n 0, 1) := by decide +kernel
theorem dX9_findWorths_74 : decode cX9_findWorths 74 = .ok (.getfield 37, 3) := by decide +kernel
theorem dX9_findWorths_77 : decode cX9_findWorths 77 = .ok (.iconst 3, 1) := by decide +kernel
theorem dX9_findWorths_78 : decode cX9_findWorths 78 = .ok (.iload 5, 2) := by decide +kernel
theorem dX9_findWorths_80 : decode cX9_findWorths 80 = .ok (.imul, 1) := by decide +kernel
theorem dX9_findWorths_81 : decode cX9_findWorths 81 = .ok (.iload 6, 2) := by decide +kernel
theorem dX9_findWorths_83 : decode cX9_findWorths 83 = .ok (.iadd, 1) := by decide +kernel
theorem dX9_findWorths_84 : decode cX9_findWorths 84 = .ok (.lload 8, 2) := by decide +kernel
theorem dX9_findWorths_86 : decode cX9_findWorths 86 = .ok (.lload 10, 2) := by decide +kernel
theorem dX9_findWorths_88 : decode cX9_findWorths 88 = .ok (.lcmp, 1) := by decide +kernel
theorem dX9_findWorths_89 : decode cX9_findWorths 89 = .ok (.ifCond .ge 8, 3) := by decide +kernel
theorem dX9_findWorths_92 : decode cX9_findWorths 92 = .ok (.lload 8, 2) := by decide +kernel
theorem dX9_findWorths_94 : decode cX9_findWorths 94 = .ok (.goto 5, 3) := by decide +kernel
theorem dX9_findWorths_97 : decode cX9_findWorths 97 = .ok (.lload 10, 2) := by decide +kernel
theorem dX9_findWorths_99 : decode cX9_findWorths 99 = .ok (.lastore, 1) := by decide +kernel
theorem dX9_findWorths_100 : decode cX9_findWorths 100 = .ok (.aload_n 0, 1) := by decide +kernel
theorem dX9_findWorths_101 : decode cX9_findWorths 101 = .ok (.iload 5, 2) := by decide +kernel
theorem dX9_findWorths_103 : decode cX9_findWorths 103 = .ok (.iload_n 2, 1) := by decide +kernel
theorem dX9_findWorths_104 : decode cX9_findWorths 104 = .ok (.if_icmp .ne 25, 3) := by decide +kernel
theorem dX9_findWorths_107 : decode cX9_findWorths 107 = .ok (.iload 6, 2) := by decide +kernel
theorem dX9_findWorths_109 : decode cX9_findWorths 109 = .ok (.iload_n 1, 1) := by decide +kernel
theorem dX9_findWorths_110 : decode cX9_findWorths 110 = .ok (.if_icmp .ne 19, 3) := by decide +kernel
theorem dX9_findWorths_113 : decode cX9_findWorths 113 = .ok (.lload 8, 2) := by decide +kernel
theorem dX9_findWorths_115 : decode cX9_findWorths 115 = .ok (.lload 10, 2) := by decide +kernel
theorem dX9_findWorths_117 : decode cX9_findWorths 117 = .ok (.lcmp, 1) := by decide +kernel
theorem dX9_findWorths_118 : decode cX9_findWorths 118 = .ok (.ifCond .gt 7, 3) := by decide +kernel
theorem dX9_findWorths_121 : decode cX9_findWorths 121 = .ok (.iconst 1, 1) := by decide +kernel
theorem dX9_findWorths_122 : decode cX9_findWorths 122 = .ok (.goto 11, 3) := by decide +kernel
theorem dX9_findWorths_125 : decode cX9_findWorths 125 = .ok (.iconst 0, 1) := by decide +kernel
theorem dX9_findWorths_126 : decode cX9_findWorths 126 = .ok (.goto 7, 3) := by decide +kernel
theorem dX9_findWorths_129 : decode cX9_findWorths 129 = .ok (.aload_n 0, 1) := by decide +kernel
theorem dX9_findWorths_130 : decode cX9_findWorths 130 = .ok (.getfield 177, 3) := by decide +kernel
theorem dX9_findWorths_133 : decode cX9_findWorths 133 = .ok (.putfield 177, 3) := by decide +kernel
theorem dX9_findWorths_136 : decode cX9_findWorths 136 = .ok (.iinc 6 1, 3) := by decide +kernel
theorem dX9_findWorths_139 : decode cX9_findWorths 139 = .ok (.goto (-126), 3) := by decide +kernel
theorem dX9_findWorths_142 : decode cX9_findWorths 142 = .ok (.iinc 5 (-1), 3) := by decide +kernel
theorem dX9_findWorths_145 : decode cX9_findWorths 145 = .ok (.goto (-141), 3) := by decide +kernel
theorem dX9_findWorths_148 : decode cX9_findWorths 148 = .ok (.return_, 1) := by decide +kernel
theorem dX9_part_0 : decode cX9_part 0 = .ok (.lload_n 0, 1) := by decide +kernel
theorem dX9_part_1 : decode cX9_part 1 = .ok (.lconst 0, 1) := by decide +kernel
theorem dX9_part_2 : decode cX9_part 2 = .ok (.lcmp, 1) := by decide +kernel
theorem dX9_part_3 : decode cX9_part 3 = .ok (.ifCond .ge 8, 3) := by decide +kernel
theorem dX9_part_6 : decode cX9_part 6 = .ok (.lload_n 0, 1) := by decide +kernel
theorem dX9_part_7 : decode cX9_part 7 = .ok (.lneg, 1) := by decide +kernel
theorem dX9_part_8 : decode cX9_part 8 = .ok (.goto 4, 3) := by decide +kernel
theorem dX9_part_11 : decode cX9_part 11 = .ok (.lload_n 0, 1) := by decide +kernel
theorem dX9_part_12 : decode cX9_part 12 = .ok (.lstore 5, 2) := by decide +kernel
theorem dX9_part_14 : decode cX9_part 14 = .ok (.lload_n 2, 1) := by decide +kernel
theorem dX9_part_15 : decode cX9_part 15 = .ok (.lstore 7, 2) := by decide +kernel
theorem dX9_part_17 : decode cX9_part 17 = .ok (.lload 7, 2) := by decide +kernel
theorem dX9_part_19 : decode cX9_part 19 = .ok (.lconst 0, 1) := by decide +kernel
theorem dX9_part_20 : decode cX9_part 20 = .ok (.lcmp, 1) := by decide +kernel
theorem dX9_part_21 : decode cX9_part 21 = .ok (.ifCond .eq 21, 3) := by decide +kernel
theorem dX9_part_24 : decode cX9_part 24 = .ok (.lload 5, 2) := by decide +kernel
theorem dX9_part_26 : decode cX9_part 26 = .ok (.lload 7, 2) := by decide +kernel
theorem dX9_part_28 : decode cX9_part 28 = .ok (.lrem, 1) := by decide +kernel
theorem dX9_part_29 : decode cX9_part 29 = .ok (.lstore 9, 2) := by decide +kernel
theorem dX9_part_31 : decode cX9_part 31 = .ok (.lload 7, 2) := by decide +kernel
theorem dX9_part_33 : decode cX9_part 33 = .ok (.lstore 5, 2) := by decide +kernel
theorem dX9_part_35 : decode cX9_part 35 = .ok (.lload 9, 2) := by decide +kernel
theorem dX9_part_37 : decode cX9_part 37 = .ok (.lstore 7, 2) := by decide +kernel
theorem dX9_part_39 : decode cX9_part 39 = .ok (.goto (-22), 3) := by decide +kernel
theorem dX9_part_42 : decode cX9_part 42 = .ok (.iload 4, 2) := by decide +kernel
theorem dX9_part_44 : decode cX9_part 44 = .ok (.ifCond .ne 7, 3) := by decide +kernel
theorem dX9_part_47 : decode cX9_part 47 = .ok (.lload_n 0, 1) := by decide +kernel
theorem dX9_part_48 : decode cX9_part 48 = .ok (.goto 4, 3) := by decide +kernel
theorem dX9_part_51 : decode cX9_part 51 = .ok (.lload_n 2, 1) := by decide +kernel
theorem dX9_part_52 : decode cX9_part 52 = .ok (.lload 5, 2) := by decide +kernel
theorem dX9_part_54 : decode cX9_part 54 = .ok (.ldiv, 1) := by decide +kernel
theorem dX9_part_55 : decode cX9_part 55 = .ok (.lreturn, 1) := by decide +kernel
theorem dX9_waitsOf_0 : decode cX9_waitsOf 0 = .ok (.aload_n 0, 1) := by decide +kernel
theorem dX9_waitsOf_1 : decode cX9_waitsOf 1 = .ok (.aload_n 0, 1) := by decide +kernel
theorem dX9_waitsOf_2 : decode cX9_waitsOf 2 = .ok (.iload_n 1, 1) := by decide +kernel
theorem dX9_waitsOf_3 : decode cX9_waitsOf 3 = .ok (.iload_n 2, 1) := by decide +kernel
theorem dX9_waitsOf_4 : decode cX9_waitsOf 4 = .ok (.invokevirtual 170, 3) := by decide +kernel
theorem dX9_waitsOf_7 : decode cX9_waitsOf 7 = .ok (.invokevirtual 166, 3) := by decide +kernel
theorem dX9_waitsOf_10 : decode cX9_waitsOf 10 = .ok (.lstore 6, 2) := by decide +kernel
theorem dX9_waitsOf_12 : decode cX9_waitsOf 12 = .ok (.lload 6, 2) := by decide +kernel
theorem dX9_waitsOf_14 : decode cX9_waitsOf 14 = .ok (.lconst 0, 1) := by decide +kernel
theorem dX9_waitsOf_15 : decode cX9_waitsOf 15 = .ok (.lcmp, 1) := by decide +kernel
theorem dX9_waitsOf_16 : decode cX9_waitsOf 16 = .ok (.ifCond .ne 9, 3) := by decide +kernel
theorem dX9_waitsOf_19 : decode cX9_waitsOf 19 = .ok (.bipush (-3), 2) := by decide +kernel
theorem dX9_waitsOf_21 : decode cX9_waitsOf 21 = .ok (.invokestatic 181, 3) := by decide +kernel
theorem dX9_waitsOf_24 : decode cX9_waitsOf 24 = .ok (.lreturn, 1) := by decide +kernel
theorem dX9_waitsOf_25 : decode cX9_waitsOf 25 = .ok (.aload_n 0, 1) := by decide +kernel
theorem dX9_waitsOf_26 : decode cX9_waitsOf 26 = .ok (.iload_n 1, 1) := by decide +kernel
theorem dX9_waitsOf_27 : decode cX9_waitsOf 27 = .ok (.iload_n 2, 1) := by decide +kernel
theorem dX9_waitsOf_28 : decode cX9_waitsOf 28 = .ok (.iload_n 3, 1) := by decide +kernel
theorem dX9_waitsOf_29 : decode cX9_waitsOf 29 = .ok (.iload 4, 2) := by decide +kernel
theorem dX9_waitsOf_31 : decode cX9_waitsOf 31 = .ok (.invokevirtual 184, 3) := by decide +kernel
theorem dX9_waitsOf_34 : decode cX9_waitsOf 34 = .ok (.aload_n 0, 1) := by decide +kernel
theorem dX9_waitsOf_35 : decode cX9_waitsOf 35 = .ok (.getfield 37, 3) := by decide +kernel
theorem dX9_waitsOf_38 : decode cX9_waitsOf 38 = .ok (.iconst 3, 1) := by decide +kernel
theorem dX9_waitsOf_39 : decode cX9_waitsOf 39 = .ok (.iload_n 2, 1) := by decide +kernel
theorem dX9_waitsOf_40 : decode cX9_waitsOf 40 = .ok (.imul, 1) := by decide +kernel
theorem dX9_waitsOf_41 : decode cX9_waitsOf 41 = .ok (.iload_n 1, 1) := by decide +kernel
theorem dX9_waitsOf_42 : decode cX9_waitsOf 42 = .ok (.iadd, 1) := by decide +kernel
theorem dX9_waitsOf_43 : decode cX9_waitsOf 43 = .ok (.laload, 1) := by decide +kernel
theorem dX9_waitsOf_44 : decode cX9_waitsOf 44 = .ok (.lload 6, 2) := by decide +kernel
theorem dX9_waitsOf_46 : decode cX9_waitsOf 46 = .ok (.iload 5, 2) := by decide +kernel
theorem dX9_waitsOf_48 : decode cX9_waitsOf 48 = .ok (.invokestatic 188, 3) := by decide +kernel
theorem dX9_waitsOf_51 : decode cX9_waitsOf 51 = .ok (.lreturn, 1) := by decide +kernel
theorem dX9_waits_0 : decode cX9_waits 0 = .ok (.aload_n 0, 1) := by decide +kernel
theorem dX9_waits_1 : decode cX9_waits 1 = .ok (.iload_n 1, 1) := by decide +kernel
theorem dX9_waits_2 : decode cX9_waits 2 = .ok (.iload_n 2, 1) := by decide +kernel
theorem dX9_waits_3 : decode cX9_waits 3 = .ok (.iload_n 3, 1) := by decide +kernel
theorem dX9_waits_4 : decode cX9_waits 4 = .ok (.iload 4, 2) := by decide +kernel
theorem dX9_waits_6 : decode cX9_waits 6 = .ok (.invokevirtual 151, 3) := by decide +kernel
theorem dX9_waits_9 : decode cX9_waits 9 = .ok (.ifCond .eq 25, 3) := by decide +kernel
theorem dX9_waits_12 : decode cX9_waits 12 = .ok (.iload 5, 2) := by decide +kernel
theorem dX9_waits_14 : decode cX9_waits 14 = .ok (.invokestatic 142, 3) := by decide +kernel
theorem dX9_waits_17 : decode cX9_waits 17 = .ok (.ifCond .eq 17, 3) := by decide +kernel
theorem dX9_waits_20 : decode cX9_waits 20 = .ok (.aload_n 0, 1) := by decide +kernel
theorem dX9_waits_21 : decode cX9_waits 21 = .ok (.iload_n 1, 1) := by decide +kernel
theorem dX9_waits_22 : decode cX9_waits 22 = .ok (.iload_n 2, 1) := by decide +kernel
theorem dX9_waits_23 : decode cX9_waits 23 = .ok (.iload_n 3, 1) := by decide +kernel
theorem dX9_waits_24 : decode cX9_waits 24 = .ok (.iload 4, 2) := by decide +kernel
theorem dX9_waits_26 : decode cX9_waits 26 = .ok (.iload 5, 2) := by decide +kernel
theorem dX9_waits_28 : decode cX9_waits 28 = .ok (.invokevirtual 192, 3) := by decide +kernel
theorem dX9_waits_31 : decode cX9_waits 31 = .ok (.goto 8, 3) := by decide +kernel
theorem dX9_waits_34 : decode cX9_waits 34 = .ok (.bipush (-2), 2) := by decide +kernel
theorem dX9_waits_36 : decode cX9_waits 36 = .ok (.invokestatic 181, 3) := by decide +kernel
theorem dX9_waits_39 : decode cX9_waits 39 = .ok (.lreturn, 1) := by decide +kernel
theorem dX9_goesOf_0 : decode cX9_goesOf 0 = .ok (.aload_n 0, 1) := by decide +kernel
theorem dX9_goesOf_1 : decode cX9_goesOf 1 = .ok (.aload_n 0, 1) := by decide +kernel
theorem dX9_goesOf_2 : decode cX9_goesOf 2 = .ok (.iload_n 1, 1) := by decide +kernel
theorem dX9_goesOf_3 : decode cX9_goesOf 3 = .ok (.iload_n 2, 1) := by decide +kernel
theorem dX9_goesOf_4 : decode cX9_goesOf 4 = .ok (.invokevirtual 170, 3) := by decide +kernel
theorem dX9_goesOf_7 : decode cX9_goesOf 7 = .ok (.invokevirtual 166, 3) := by decide +kernel
theorem dX9_goesOf_10 : decode cX9_goesOf 10 = .ok (.lconst 0, 1) := by decide +kernel
theorem dX9_goesOf_11 : decode cX9_goesOf 11 = .ok (.lcmp, 1) := by decide +kernel
theorem dX9_goesOf_12 : decode cX9_goesOf 12 = .ok (.ifCond .ne 6, 3) := by decide +kernel
theorem dX9_goesOf_15 : decode cX9_goesOf 15 = .ok (.bipush (-3), 2) := by decide +kernel
theorem dX9_goesOf_17 : decode cX9_goesOf 17 = .ok (.ireturn, 1) := by decide +kernel
theorem dX9_goesOf_18 : decode cX9_goesOf 18 = .ok (.aload_n 0, 1) := by decide +kernel
theorem dX9_goesOf_19 : decode cX9_goesOf 19 = .ok (.iload_n 1, 1) := by decide +kernel
theorem dX9_goesOf_20 : decode cX9_goesOf 20 = .ok (.iload_n 2, 1) := by decide +kernel
theorem dX9_goesOf_21 : decode cX9_goesOf 21 = .ok (.iload_n 3, 1) := by decide +kernel
theorem dX9_goesOf_22 : decode cX9_goesOf 22 = .ok (.iload 4, 2) := by decide +kernel
theorem dX9_goesOf_24 : decode cX9_goesOf 24 = .ok (.invokevirtual 184, 3) := by decide +kernel
theorem dX9_goesOf_27 : decode cX9_goesOf 27 = .ok (.aload_n 0, 1) := by decide +kernel
theorem dX9_goesOf_28 : decode cX9_goesOf 28 = .ok (.getfield 177, 3) := by decide +kernel
theorem dX9_goesOf_31 : decode cX9_goesOf 31 = .ok (.ifCond .eq 7, 3) := by decide +kernel
theorem dX9_goesOf_34 : decode cX9_goesOf 34 = .ok (.iconst 1, 1) := by decide +kernel
theorem dX9_goesOf_35 : decode cX9_goesOf 35 = .ok (.goto 4, 3) := by decide +kernel
theorem dX9_goesOf_38 : decode cX9_goesOf 38 = .ok (.iconst 0, 1) := by decide +kernel
theorem dX9_goesOf_39 : decode cX9_goesOf 39 = .ok (.ireturn, 1) := by decide +kernel
theorem dX9_goes_0 : decode cX9_goes 0 = .ok (.aload_n 0, 1) := by decide +kernel
theorem dX9_goes_1 : decode cX9_goes 1 = .ok (.iload_n 1, 1) := by decide +kernel
theorem dX9_goes_2 : decode cX9_goes 2 = .ok (.iload_n 2, 1) := by decide +kernel
theorem dX9_goes_3 : decode cX9_goes 3 = .ok (.iload_n 3, 1) := by decide +kernel
theorem dX9_goes_4 : decode cX9_goes 4 = .ok (.iload 4, 2) := by decide +kernel
theorem dX9_goes_6 : decode cX9_goes 6 = .ok (.invokevirtual 151, 3) := by decide +kernel
theorem dX9_goes_9 : decode cX9_goes 9 = .ok (.ifCond .eq 15, 3) := by decide +kernel
theorem dX9_goes_12 : decode cX9_goes 12 = .ok (.aload_n 0, 1) := by decide +kernel
theorem dX9_goes_13 : decode cX9_goes 13 = .ok (.iload_n 1, 1) := by decide +kernel
theorem dX9_goes_14 : decode cX9_goes 14 = .ok (.iload_n 2, 1) := by decide +kernel
theorem dX9_goes_15 : decode cX9_goes 15 = .ok (.iload_n 3, 1) := by decide +kernel
theorem dX9_goes_16 : decode cX9_goes 16 = .ok (.iload 4, 2) := by decide +kernel
theorem dX9_goes_18 : decode cX9_goes 18 = .ok (.invokevirtual 196, 3) := by decide +kernel
theorem dX9_goes_21 : decode cX9_goes 21 = .ok (.goto 5, 3) := by decide +kernel
theorem dX9_goes_24 : decode cX9_goes 24 = .ok (.bipush (-2), 2) := by decide +kernel
theorem dX9_goes_26 : decode cX9_goes 26 = .ok (.ireturn, 1) := by decide +kernel
theorem dX9_dryDays_0 : decode cX9_dryDays 0 = .ok (.iconst 0, 1) := by decide +kernel
theorem dX9_dryDays_1 : decode cX9_dryDays 1 = .ok (.istore 5, 2) := by decide +kernel
theorem dX9_dryDays_3 : decode cX9_dryDays 3 = .ok (.iload_n 2, 1) := by decide +kernel
theorem dX9_dryDays_4 : decode cX9_dryDays 4 = .ok (.istore 6, 2) := by decide +kernel
theorem dX9_dryDays_6 : decode cX9_dryDays 6 = .ok (.iload 6, 2) := by decide +kernel
theorem dX9_dryDays_8 : decode cX9_dryDays 8 = .ok (.bipush 30, 2) := by decide +kernel
theorem dX9_dryDays_10 : decode cX9_dryDays 10 = .ok (.if_icmp .ge 76, 3) := by decide +kernel
theorem dX9_dryDays_13 : decode cX9_dryDays 13 = .ok (.iload 6, 2) := by decide +kernel
theorem dX9_dryDays_15 : decode cX9_dryDays 15 = .ok (.iload_n 2, 1) := by decide +kernel
theorem dX9_dryDays_16 : decode cX9_dryDays 16 = .ok (.bipush 7, 2) := by decide +kernel
theorem dX9_dryDays_18 : decode cX9_dryDays 18 = .ok (.iadd, 1) := by decide +kernel
theorem dX9_dryDays_19 : decode cX9_dryDays 19 = .ok (.if_icmp .ge 67, 3) := by decide +kernel
theorem dX9_dryDays_22 : decode cX9_dryDays 22 = .ok (.iconst 1, 1) := by decide +kernel
theorem dX9_dryDays_23 : decode cX9_dryDays 23 = .ok (.istore 7, 2) := by decide +kernel
theorem dX9_dryDays_25 : decode cX9_dryDays 25 = .ok (.iload_n 3, 1) := by decide +kernel
theorem dX9_dryDays_26 : decode cX9_dryDays 26 = .ok (.istore 8, 2) := by decide +kernel
theorem dX9_dryDays_28 : decode cX9_dryDays 28 = .ok (.iload 8, 2) := by decide +kernel
theorem dX9_dryDays_30 : decode cX9_dryDays 30 = .ok (.iload 4, 2) := by decide +kernel
theorem dX9_dryDays_32 : decode cX9_dryDays 32 = .ok (.if_icmp .gt 33, 3) := by decide +kernel
theorem dX9_dryDays_35 : decode cX9_dryDays 35 = .ok (.iload 7, 2) := by decide +kernel
theorem dX9_dryDays_37 : decode cX9_dryDays 37 = .ok (.ifCond .eq 19, 3) := by decide +kernel
theorem dX9_dryDays_40 : decode cX9_dryDays 40 = .ok (.aload_n 0, 1) := by decide +kernel
theorem dX9_dryDays_41 : decode cX9_dryDays 41 = .ok (.iload_n 1, 1) := by decide +kernel
theorem dX9_dryDays_42 : decode cX9_dryDays 42 = .ok (.iload 6, 2) := by decide +kernel
theorem dX9_dryDays_44 : decode cX9_dryDays 44 = .ok (.iload 8, 2) := by decide +kernel
theorem dX9_dryDays_46 : decode cX9_dryDays 46 = .ok (.invokevirtual 135, 3) := by decide +kernel
theorem dX9_dryDays_49 : decode cX9_dryDays 49 = .ok (.ifCond .ne 7, 3) := by decide +kernel
theorem dX9_dryDays_52 : decode cX9_dryDays 52 = .ok (.iconst 1, 1) := by decide +kernel
theorem dX9_dryDays_53 : decode cX9_dryDays 53 = .ok (.goto 4, 3) := by decide +kernel
theorem dX9_dryDays_56 : decode cX9_dryDays 56 = .ok (.iconst 0, 1) := by decide +kernel
theorem dX9_dryDays_57 : decode cX9_dryDays 57 = .ok (.istore 7, 2) := by decide +kernel
theorem dX9_dryDays_59 : decode cX9_dryDays 59 = .ok (.iinc 8 1, 3) := by decide +kernel
theorem dX9_dryDays_62 : decode cX9_dryDays 62 = .ok (.goto (-34), 3) := by decide +kernel
theorem dX9_dryDays_65 : decode cX9_dryDays 65 = .ok (.iload 5, 2) := by decide +kernel
theorem dX9_dryDays_67 : decode cX9_dryDays 67 = .ok (.iload 7, 2) := by decide +kernel
theorem dX9_dryDays_69 : decode cX9_dryDays 69 = .ok (.ifCond .eq 7, 3) := by decide +kernel
theorem dX9_dryDays_72 : decode cX9_dryDays 72 = .ok (.iconst 1, 1) := by decide +kernel
theorem dX9_dryDays_73 : decode cX9_dryDays 73 = .ok (.goto 4, 3) := by decide +kernel
theorem dX9_dryDays_76 : decode cX9_dryDays 76 = .ok (.iconst 0, 1) := by decide +kernel
theorem dX9_dryDays_77 : decode cX9_dryDays 77 = .ok (.iadd, 1) := by decide +kernel
theorem dX9_dryDays_78 : decode cX9_dryDays 78 = .ok (.istore 5, 2) := by decide +kernel
theorem dX9_dryDays_80 : decode cX9_dryDays 80 = .ok (.iinc 6 1, 3) := by decide +kernel
theorem dX9_dryDays_83 : decode cX9_dryDays 83 = .ok (.goto (-77), 3) := by decide +kernel
theorem dX9_dryDays_86 : decode cX9_dryDays 86 = .ok (.iload 5, 2) := by decide +kernel
theorem dX9_dryDays_88 : decode cX9_dryDays 88 = .ok (.ireturn, 1) := by decide +kernel
theorem dX9_keepOf_0 : decode cX9_keepOf 0 = .ok (.iload_n 3, 1) := by decide +kernel
theorem dX9_keepOf_1 : decode cX9_keepOf 1 = .ok (.iload 4, 2) := by decide +kernel
theorem dX9_keepOf_3 : decode cX9_keepOf 3 = .ok (.invokestatic 148, 3) := by decide +kernel
theorem dX9_keepOf_6 : decode cX9_keepOf 6 = .ok (.istore 7, 2) := by decide +kernel
theorem dX9_keepOf_8 : decode cX9_keepOf 8 = .ok (.iload_n 3, 1) := by decide +kernel
theorem dX9_keepOf_9 : decode cX9_keepOf 9 = .ok (.iload 4, 2) := by decide +kernel
theorem dX9_keepOf_11 : decode cX9_keepOf 11 = .ok (.iadd, 1) := by decide +kernel
theorem dX9_keepOf_12 : decode cX9_keepOf 12 = .ok (.iload 7, 2) := by decide +kernel
theorem dX9_keepOf_14 : decode cX9_keepOf 14 = .ok (.isub, 1) := by decide +kernel
theorem dX9_keepOf_15 : decode cX9_keepOf 15 = .ok (.istore 8, 2) := by decide +kernel
theorem dX9_keepOf_17 : decode cX9_keepOf 17 = .ok (.aload_n 0, 1) := by decide +kernel
theorem dX9_keepOf_18 : decode cX9_keepOf 18 = .ok (.iload_n 1, 1) := by decide +kernel
theorem dX9_keepOf_19 : decode cX9_keepOf 19 = .ok (.iload_n 2, 1) := by decide +kernel
theorem dX9_keepOf_20 : decode cX9_keepOf 20 = .ok (.iload 7, 2) := by decide +kernel
theorem dX9_keepOf_22 : decode cX9_keepOf 22 = .ok (.iload 8, 2) := by decide +kernel
theorem dX9_keepOf_24 : decode cX9_keepOf 24 = .ok (.invokevirtual 200, 3) := by decide +kernel
theorem dX9_keepOf_27 : decode cX9_keepOf 27 = .ok (.istore 9, 2) := by decide +kernel
theorem dX9_keepOf_29 : decode cX9_keepOf 29 = .ok (.iconst 0, 1) := by decide +kernel
theorem dX9_keepOf_30 : decode cX9_keepOf 30 = .ok (.istore 10, 2) := by decide +kernel
theorem dX9_keepOf_32 : decode cX9_keepOf 32 = .ok (.iconst 0, 1) := by decide +kernel
theorem dX9_keepOf_33 : decode cX9_keepOf 33 = .ok (.istore 11, 2) := by decide +kernel
theorem dX9_keepOf_35 : decode cX9_keepOf 35 = .ok (.aload_n 0, 1) := by decide +kernel
theorem dX9_keepOf_36 : decode cX9_keepOf 36 = .ok (.getfield 123, 3) := by decide +kernel
theorem dX9_keepOf_39 : decode cX9_keepOf 39 = .ok (.istore 12, 2) := by decide +kernel
theorem dX9_keepOf_41 : decode cX9_keepOf 41 = .ok (.iconst 1, 1) := by decide +kernel
theorem dX9_keepOf_42 : decode cX9_keepOf 42 = .ok (.istore 13, 2) := by decide +kernel
theorem dX9_keepOf_44 : decode cX9_keepOf 44 = .ok (.iload 13, 2) := by decide +kernel
theorem dX9_keepOf_46 : decode cX9_keepOf 46 = .ok (.iload 5, 2) := by decide +kernel
theorem dX9_keepOf_48 : decode cX9_keepOf 48 = .ok (.if_icmp .gt 111, 3) := by decide +kernel
theorem dX9_keepOf_51 : decode cX9_keepOf 51 = .ok (.iload 7, 2) := by decide +kernel
theorem dX9_keepOf_53 : decode cX9_keepOf 53 = .ok (.istore 14, 2) := by decide +kernel
theorem dX9_keepOf_55 : decode cX9_keepOf 55 = .ok (.iload 14, 2) := by decide +kernel
theorem dX9_keepOf_57 : decode cX9_keepOf 57 = .ok (.iload 13, 2) := by decide +kernel
theorem dX9_keepOf_59 : decode cX9_keepOf 59 = .ok (.iadd, 1) := by decide +kernel
theorem dX9_keepOf_60 : decode cX9_keepOf 60 = .ok (.iconst 1, 1) := by decide +kernel
theorem dX9_keepOf_61 : decode cX9_keepOf 61 = .ok (.isub, 1) := by decide +kernel
theorem dX9_keepOf_62 : decode cX9_keepOf 62 = .ok (.iload 8, 2) := by decide +kernel
theorem dX9_keepOf_64 : decode cX9_keepOf 64 = .ok (.if_icmp .gt 89, 3) := by decide +kernel
theorem dX9_keepOf_67 : decode cX9_keepOf 67 = .ok (.aload_n 0, 1) := by decide +kernel
theorem dX9_keepOf_68 : decode cX9_keepOf 68 = .ok (.getfield 34, 3) := by decide +kernel
theorem dX9_keepOf_71 : decode cX9_keepOf 71 = .ok (.iconst 3, 1) := by decide +kernel
theorem dX9_keepOf_72 : decode cX9_keepOf 72 = .ok (.iload 12, 2) := by decide +kernel
theorem dX9_keepOf_74 : decode cX9_keepOf 74 = .ok (.imul, 1) := by decide +kernel
theorem dX9_keepOf_75 : decode cX9_keepOf 75 = .ok (.iload 14, 2) := by decide +kernel
theorem dX9_keepOf_77 : decode cX9_keepOf 77 = .ok (.iastore, 1) := by decide +kernel
theorem dX9_keepOf_78 : decode cX9_keepOf 78 = .ok (.aload_n 0, 1) := by decide +kernel
theorem dX9_keepOf_79 : decode cX9_keepOf 79 = .ok (.getfield 34, 3) := by decide +kernel
theorem dX9_keepOf_82 : decode cX9_keepOf 82 = .ok (.iconst 3, 1) := by decide +kernel
theorem dX9_keepOf_83 : decode cX9_keepOf 83 = .ok (.iload 12, 2) := by decide +kernel
theorem dX9_keepOf_85 : decode cX9_keepOf 85 = .ok (.imul, 1) := by decide +kernel
theorem dX9_keepOf_86 : decode cX9_keepOf 86 = .ok (.iconst 1, 1) := by decide +kernel
theorem dX9_keepOf_87 : decode cX9_keepOf 87 = .ok (.iadd, 1) := by decide +kernel
theorem dX9_keepOf_88 : decode cX9_keepOf 88 = .ok (.iload 14, 2) := by decide +kernel
theorem dX9_keepOf_90 : decode cX9_keepOf 90 = .ok (.iload 13, 2) := by decide +kernel
theorem dX9_keepOf_92 : decode cX9_keepOf 92 = .ok (.iadd, 1) := by decide +kernel
theorem dX9_keepOf_93 : decode cX9_keepOf 93 = .ok (.iconst 1, 1) := by decide +kernel
theorem dX9_keepOf_94 : decode cX9_keepOf 94 = .ok (.isub, 1) := by decide +kernel
theorem dX9_keepOf_95 : decode cX9_keepOf 95 = .ok (.iastore, 1) := by decide +kernel
theorem dX9_keepOf_96 : decode cX9_keepOf 96 = .ok (.aload_n 0, 1) := by decide +kernel
theorem dX9_keepOf_97 : decode cX9_keepOf 97 = .ok (.getfield 34, 3) := by decide +kernel
theorem dX9_keepOf_100 : decode cX9_keepOf 100 = .ok (.iconst 3, 1) := by decide +kernel
theorem dX9_keepOf_101 : decode cX9_keepOf 101 = .ok (.iload 12, 2) := by decide +kernel
theorem dX9_keepOf_103 : decode cX9_keepOf 103 = .ok (.imul, 1) := by decide +kernel
theorem dX9_keepOf_104 : decode cX9_keepOf 104 = .ok (.iconst 2, 1) := by decide +kernel
theorem dX9_keepOf_105 : decode cX9_keepOf 105 = .ok (.iadd, 1) := by decide +kernel
theorem dX9_keepOf_106 : decode cX9_keepOf 106 = .ok (.iload_n 2, 1) := by decide +kernel
theorem dX9_keepOf_107 : decode cX9_keepOf 107 = .ok (.iastore, 1) := by decide +kernel
theorem dX9_keepOf_108 : decode cX9_keepOf 108 = .ok (.aload_n 0, 1) := by decide +kernel
theorem dX9_keepOf_109 : decode cX9_keepOf 109 = .ok (.iload 12, 2) := by decide +kernel
theorem dX9_keepOf_111 : decode cX9_keepOf 111 = .ok (.iconst 1, 1) := by decide +kernel
theorem dX9_keepOf_112 : decode cX9_keepOf 112 = .ok (.iadd, 1) := by decide +kernel
theorem dX9_keepOf_113 : decode cX9_keepOf 113 = .ok (.putfield 123, 3) := by decide +kernel
theorem dX9_keepOf_116 : decode cX9_keepOf 116 = .ok (.aload_n 0, 1) := by decide +kernel
theorem dX9_keepOf_117 : decode cX9_keepOf 117 = .ok (.iload_n 1, 1) := by decide +kernel
theorem dX9_keepOf_118 : decode cX9_keepOf 118 = .ok (.iload_n 2, 1) := by decide +kernel
theorem dX9_keepOf_119 : decode cX9_keepOf 119 = .ok (.iload 7, 2) := by decide +kernel
theorem dX9_keepOf_121 : decode cX9_keepOf 121 = .ok (.iload 8, 2) := by decide +kernel
theorem dX9_keepOf_123 : decode cX9_keepOf 123 = .ok (.invokevirtual 200, 3) := by decide +kernel
theorem dX9_keepOf_126 : decode cX9_keepOf 126 = .ok (.istore 15, 2) := by decide +kernel
theorem dX9_keepOf_128 : decode cX9_keepOf 128 = .ok (.iload 15, 2) := by decide +kernel
theorem dX9_keepOf_130 : decode cX9_keepOf 130 = .ok (.iload 9, 2) := by decide +kernel
theorem dX9_keepOf_132 : decode cX9_keepOf 132 = .ok (.if_icmp .le 15, 3) := by decide +kernel
theorem dX9_keepOf_135 : decode cX9_keepOf 135 = .ok (.iload 15, 2) := by decide +kernel
theorem dX9_keepOf_137 : decode cX9_keepOf 137 = .ok (.istore 9, 2) := by decide +kernel
theorem dX9_keepOf_139 : decode cX9_keepOf 139 = .ok (.iload 14, 2) := by decide +kernel
theorem dX9_keepOf_141 : decode cX9_keepOf 141 = .ok (.istore 10, 2) := by decide +kernel
theorem dX9_keepOf_143 : decode cX9_keepOf 143 = .ok (.iload 13, 2) := by decide +kernel
theorem dX9_keepOf_145 : decode cX9_keepOf 145 = .ok (.istore 11, 2) := by decide +kernel
theorem dX9_keepOf_147 : decode cX9_keepOf 147 = .ok (.iinc 14 1, 3) := by decide +kernel
theorem dX9_keepOf_150 : decode cX9_keepOf 150 = .ok (.goto (-95), 3) := by decide +kernel
theorem dX9_keepOf_153 : decode cX9_keepOf 153 = .ok (.iinc 13 1, 3) := by decide +kernel
theorem dX9_keepOf_156 : decode cX9_keepOf 156 = .ok (.goto (-112), 3) := by decide +kernel
theorem dX9_keepOf_159 : decode cX9_keepOf 159 = .ok (.aload_n 0, 1) := by decide +kernel
theorem dX9_keepOf_160 : decode cX9_keepOf 160 = .ok (.iload 12, 2) := by decide +kernel
theorem dX9_keepOf_162 : decode cX9_keepOf 162 = .ok (.putfield 123, 3) := by decide +kernel
theorem dX9_keepOf_165 : decode cX9_keepOf 165 = .ok (.iload 6, 2) := by decide +kernel
theorem dX9_keepOf_167 : decode cX9_keepOf 167 = .ok (.ifCond .ne 8, 3) := by decide +kernel
theorem dX9_keepOf_170 : decode cX9_keepOf 170 = .ok (.iload 9, 2) := by decide +kernel
theorem dX9_keepOf_172 : decode cX9_keepOf 172 = .ok (.goto 16, 3) := by decide +kernel
theorem dX9_keepOf_175 : decode cX9_keepOf 175 = .ok (.iload 6, 2) := by decide +kernel
theorem dX9_keepOf_177 : decode cX9_keepOf 177 = .ok (.iconst 1, 1) := by decide +kernel
theorem dX9_keepOf_178 : decode cX9_keepOf 178 = .ok (.if_icmp .ne 8, 3) := by decide +kernel
theorem dX9_keepOf_181 : decode cX9_keepOf 181 = .ok (.iload 10, 2) := by decide +kernel
theorem dX9_keepOf_183 : decode cX9_keepOf 183 = .ok (.goto 5, 3) := by decide +kernel
theorem dX9_keepOf_186 : decode cX9_keepOf 186 = .ok (.iload 11, 2) := by decide +kernel
theorem dX9_keepOf_188 : decode cX9_keepOf 188 = .ok (.ireturn, 1) := by decide +kernel
theorem dX9_keep_0 : decode cX9_keep 0 = .ok (.aload_n 0, 1) := by decide +kernel
theorem dX9_keep_1 : decode cX9_keep 1 = .ok (.iload_n 1, 1) := by decide +kernel
theorem dX9_keep_2 : decode cX9_keep 2 = .ok (.iload_n 2, 1) := by decide +kernel
theorem dX9_keep_3 : decode cX9_keep 3 = .ok (.iload_n 3, 1) := by decide +kernel
theorem dX9_keep_4 : decode cX9_keep 4 = .ok (.iload 4, 2) := by decide +kernel
theorem dX9_keep_6 : decode cX9_keep 6 = .ok (.invokevirtual 151, 3) := by decide +kernel
theorem dX9_keep_9 : decode cX9_keep 9 = .ok (.ifCond .eq 45, 3) := by decide +kernel
theorem dX9_keep_12 : decode cX9_keep 12 = .ok (.iload 5, 2) := by decide +kernel
theorem dX9_keep_14 : decode cX9_keep 14 = .ok (.i2l, 1) := by decide +kernel
theorem dX9_keep_15 : decode cX9_keep 15 = .ok (.lconst 1, 1) := by decide +kernel
theorem dX9_keep_16 : decode cX9_keep 16 = .ok (.ldc2_w 203, 3) := by decide +kernel
theorem dX9_keep_19 : decode cX9_keep 19 = .ok (.invokestatic 49, 3) := by decide +kernel
theorem dX9_keep_22 : decode cX9_keep 22 = .ok (.ifCond .eq 32, 3) := by decide +kernel
theorem dX9_keep_25 : decode cX9_keep 25 = .ok (.iload 6, 2) := by decide +kernel
theorem dX9_keep_27 : decode cX9_keep 27 = .ok (.i2l, 1) := by decide +kernel
theorem dX9_keep_28 : decode cX9_keep 28 = .ok (.lconst 0, 1) := by decide +kernel
theorem dX9_keep_29 : decode cX9_keep 29 = .ok (.ldc2_w 63, 3) := by decide +kernel
theorem dX9_keep_32 : decode cX9_keep 32 = .ok (.invokestatic 49, 3) := by decide +kernel
theorem dX9_keep_35 : decode cX9_keep 35 = .ok (.ifCond .eq 19, 3) := by decide +kernel
theorem dX9_keep_38 : decode cX9_keep 38 = .ok (.aload_n 0, 1) := by decide +kernel
theorem dX9_keep_39 : decode cX9_keep 39 = .ok (.iload_n 1, 1) := by decide +kernel
theorem dX9_keep_40 : decode cX9_keep 40 = .ok (.iload_n 2, 1) := by decide +kernel
theorem dX9_keep_41 : decode cX9_keep 41 = .ok (.iload_n 3, 1) := by decide +kernel
theorem dX9_keep_42 : decode cX9_keep 42 = .ok (.iload 4, 2) := by decide +kernel
theorem dX9_keep_44 : decode cX9_keep 44 = .ok (.iload 5, 2) := by decide +kernel
theorem dX9_keep_46 : decode cX9_keep 46 = .ok (.iload 6, 2) := by decide +kernel
theorem dX9_keep_48 : decode cX9_keep 48 = .ok (.invokevirtual 205, 3) := by decide +kernel
theorem dX9_keep_51 : decode cX9_keep 51 = .ok (.goto 5, 3) := by decide +kernel
theorem dX9_keep_54 : decode cX9_keep 54 = .ok (.bipush (-2), 2) := by decide +kernel
theorem dX9_keep_56 : decode cX9_keep 56 = .ok (.ireturn, 1) := by decide +kernel
theorem dX9_contract_0 : decode cX9_contract 0 = .ok (.iload_n 1, 1) := by decide +kernel
theorem dX9_contract_1 : decode cX9_contract 1 = .ok (.i2l, 1) := by decide +kernel
theorem dX9_contract_2 : decode cX9_contract 2 = .ok (.lconst 0, 1) := by decide +kernel
theorem dX9_contract_3 : decode cX9_contract 3 = .ok (.ldc2_w 209, 3) := by decide +kernel
theorem dX9_contract_6 : decode cX9_contract 6 = .ok (.invokestatic 49, 3) := by decide +kernel
theorem dX9_contract_9 : decode cX9_contract 9 = .ok (.ifCond .eq 35, 3) := by decide +kernel
theorem dX9_contract_12 : decode cX9_contract 12 = .ok (.iload_n 2, 1) := by decide +kernel
theorem dX9_contract_13 : decode cX9_contract 13 = .ok (.invokestatic 108, 3) := by decide +kernel
theorem dX9_contract_16 : decode cX9_contract 16 = .ok (.ifCond .eq 28, 3) := by decide +kernel
theorem dX9_contract_19 : decode cX9_contract 19 = .ok (.iload_n 3, 1) := by decide +kernel
theorem dX9_contract_20 : decode cX9_contract 20 = .ok (.i2l, 1) := by decide +kernel
theorem dX9_contract_21 : decode cX9_contract 21 = .ok (.lconst 0, 1) := by decide +kernel
theorem dX9_contract_22 : decode cX9_contract 22 = .ok (.ldc2_w 119, 3) := by decide +kernel
theorem dX9_contract_25 : decode cX9_contract 25 = .ok (.invokestatic 49, 3) := by decide +kernel
theorem dX9_contract_28 : decode cX9_contract 28 = .ok (.ifCond .eq 16, 3) := by decide +kernel
theorem dX9_contract_31 : decode cX9_contract 31 = .ok (.iload 4, 2) := by decide +kernel
theorem dX9_contract_33 : decode cX9_contract 33 = .ok (.i2l, 1) := by decide +kernel
theorem dX9_contract_34 : decode cX9_contract 34 = .ok (.lconst 0, 1) := by decide +kernel
theorem dX9_contract_35 : decode cX9_contract 35 = .ok (.ldc2_w 119, 3) := by decide +kernel
theorem dX9_contract_38 : decode cX9_contract 38 = .ok (.invokestatic 49, 3) := by decide +kernel
theorem dX9_contract_41 : decode cX9_contract 41 = .ok (.ifCond .ne 6, 3) := by decide +kernel
theorem dX9_contract_44 : decode cX9_contract 44 = .ok (.bipush (-2), 2) := by decide +kernel
theorem dX9_contract_46 : decode cX9_contract 46 = .ok (.ireturn, 1) := by decide +kernel
theorem dX9_contract_47 : decode cX9_contract 47 = .ok (.aload_n 0, 1) := by decide +kernel
theorem dX9_contract_48 : decode cX9_contract 48 = .ok (.getfield 41, 3) := by decide +kernel
theorem dX9_contract_51 : decode cX9_contract 51 = .ok (.iconst 4, 1) := by decide +kernel
theorem dX9_contract_52 : decode cX9_contract 52 = .ok (.iload_n 1, 1) := by decide +kernel
theorem dX9_contract_53 : decode cX9_contract 53 = .ok (.imul, 1) := by decide +kernel
theorem dX9_contract_54 : decode cX9_contract 54 = .ok (.iaload, 1) := by decide +kernel
theorem dX9_contract_55 : decode cX9_contract 55 = .ok (.istore 5, 2) := by decide +kernel
theorem dX9_contract_57 : decode cX9_contract 57 = .ok (.aload_n 0, 1) := by decide +kernel
theorem dX9_contract_58 : decode cX9_contract 58 = .ok (.getfield 41, 3) := by decide +kernel
theorem dX9_contract_61 : decode cX9_contract 61 = .ok (.iconst 4, 1) := by decide +kernel
theorem dX9_contract_62 : decode cX9_contract 62 = .ok (.iload_n 1, 1) := by decide +kernel
theorem dX9_contract_63 : decode cX9_contract 63 = .ok (.imul, 1) := by decide +kernel
theorem dX9_contract_64 : decode cX9_contract 64 = .ok (.iconst 1, 1) := by decide +kernel
theorem dX9_contract_65 : decode cX9_contract 65 = .ok (.iastore, 1) := by decide +kernel
theorem dX9_contract_66 : decode cX9_contract 66 = .ok (.aload_n 0, 1) := by decide +kernel
theorem dX9_contract_67 : decode cX9_contract 67 = .ok (.getfield 41, 3) := by decide +kernel
theorem dX9_contract_70 : decode cX9_contract 70 = .ok (.iconst 4, 1) := by decide +kernel
theorem dX9_contract_71 : decode cX9_contract 71 = .ok (.iload_n 1, 1) := by decide +kernel
theorem dX9_contract_72 : decode cX9_contract 72 = .ok (.imul, 1) := by decide +kernel
theorem dX9_contract_73 : decode cX9_contract 73 = .ok (.iconst 1, 1) := by decide +kernel
theorem dX9_contract_74 : decode cX9_contract 74 = .ok (.iadd, 1) := by decide +kernel
theorem dX9_contract_75 : decode cX9_contract 75 = .ok (.iload_n 2, 1) := by decide +kernel
theorem dX9_contract_76 : decode cX9_contract 76 = .ok (.iastore, 1) := by decide +kernel
theorem dX9_contract_77 : decode cX9_contract 77 = .ok (.aload_n 0, 1) := by decide +kernel
theorem dX9_contract_78 : decode cX9_contract 78 = .ok (.getfield 41, 3) := by decide +kernel
theorem dX9_contract_81 : decode cX9_contract 81 = .ok (.iconst 4, 1) := by decide +kernel
theorem dX9_contract_82 : decode cX9_contract 82 = .ok (.iload_n 1, 1) := by decide +kernel
theorem dX9_contract_83 : decode cX9_contract 83 = .ok (.imul, 1) := by decide +kernel
theorem dX9_contract_84 : decode cX9_contract 84 = .ok (.iconst 2, 1) := by decide +kernel
theorem dX9_contract_85 : decode cX9_contract 85 = .ok (.iadd, 1) := by decide +kernel
theorem dX9_contract_86 : decode cX9_contract 86 = .ok (.iload_n 3, 1) := by decide +kernel
theorem dX9_contract_87 : decode cX9_contract 87 = .ok (.iastore, 1) := by decide +kernel
theorem dX9_contract_88 : decode cX9_contract 88 = .ok (.aload_n 0, 1) := by decide +kernel
theorem dX9_contract_89 : decode cX9_contract 89 = .ok (.getfield 41, 3) := by decide +kernel
theorem dX9_contract_92 : decode cX9_contract 92 = .ok (.iconst 4, 1) := by decide +kernel
theorem dX9_contract_93 : decode cX9_contract 93 = .ok (.iload_n 1, 1) := by decide +kernel
theorem dX9_contract_94 : decode cX9_contract 94 = .ok (.imul, 1) := by decide +kernel
theorem dX9_contract_95 : decode cX9_contract 95 = .ok (.iconst 3, 1) := by decide +kernel
theorem dX9_contract_96 : decode cX9_contract 96 = .ok (.iadd, 1) := by decide +kernel
theorem dX9_contract_97 : decode cX9_contract 97 = .ok (.iload 4, 2) := by decide +kernel
theorem dX9_contract_99 : decode cX9_contract 99 = .ok (.iastore, 1) := by decide +kernel
theorem dX9_contract_100 : decode cX9_contract 100 = .ok (.iload 5, 2) := by decide +kernel
theorem dX9_contract_102 : decode cX9_contract 102 = .ok (.ireturn, 1) := by decide +kernel
theorem dX9_tears_0 : decode cX9_tears 0 = .ok (.iload_n 1, 1) := by decide +kernel
theorem dX9_tears_1 : decode cX9_tears 1 = .ok (.i2l, 1) := by decide +kernel
theorem dX9_tears_2 : decode cX9_tears 2 = .ok (.lconst 0, 1) := by decide +kernel
theorem dX9_tears_3 : decode cX9_tears 3 = .ok (.ldc2_w 209, 3) := by decide +kernel
theorem dX9_tears_6 : decode cX9_tears 6 = .ok (.invokestatic 49, 3) := by decide +kernel
theorem dX9_tears_9 : decode cX9_tears 9 = .ok (.ifCond .ne 6, 3) := by decide +kernel
theorem dX9_tears_12 : decode cX9_tears 12 = .ok (.bipush (-2), 2) := by decide +kernel
theorem dX9_tears_14 : decode cX9_tears 14 = .ok (.ireturn, 1) := by decide +kernel
theorem dX9_tears_15 : decode cX9_tears 15 = .ok (.aload_n 0, 1) := by decide +kernel
theorem dX9_tears_16 : decode cX9_tears 16 = .ok (.getfield 41, 3) := by decide +kernel
theorem dX9_tears_19 : decode cX9_tears 19 = .ok (.iconst 4, 1) := by decide +kernel
theorem dX9_tears_20 : decode cX9_tears 20 = .ok (.iload_n 1, 1) := by decide +kernel
theorem dX9_tears_21 : decode cX9_tears 21 = .ok (.imul, 1) := by decide +kernel
theorem dX9_tears_22 : decode cX9_tears 22 = .ok (.iaload, 1) := by decide +kernel
theorem dX9_tears_23 : decode cX9_tears 23 = .ok (.istore_n 2, 1) := by decide +kernel
theorem dX9_tears_24 : decode cX9_tears 24 = .ok (.aload_n 0, 1) := by decide +kernel
theorem dX9_tears_25 : decode cX9_tears 25 = .ok (.getfield 41, 3) := by decide +kernel
theorem dX9_tears_28 : decode cX9_tears 28 = .ok (.iconst 4, 1) := by decide +kernel
theorem dX9_tears_29 : decode cX9_tears 29 = .ok (.iload_n 1, 1) := by decide +kernel
theorem dX9_tears_30 : decode cX9_tears 30 = .ok (.imul, 1) := by decide +kernel
theorem dX9_tears_31 : decode cX9_tears 31 = .ok (.iconst 0, 1) := by decide +kernel
theorem dX9_tears_32 : decode cX9_tears 32 = .ok (.iastore, 1) := by decide +kernel
theorem dX9_tears_33 : decode cX9_tears 33 = .ok (.iload_n 2, 1) := by decide +kernel
theorem dX9_tears_34 : decode cX9_tears 34 = .ok (.ireturn, 1) := by decide +kernel
theorem dX9_brings_0 : decode cX9_brings 0 = .ok (.aload_n 0, 1) := by decide +kernel
theorem dX9_brings_1 : decode cX9_brings 1 = .ok (.iload_n 2, 1) := by decide +kernel
theorem dX9_brings_2 : decode cX9_brings 2 = .ok (.invokevirtual 128, 3) := by decide +kernel
theorem dX9_brings_5 : decode cX9_brings 5 = .ok (.istore_n 3, 1) := by decide +kernel
theorem dX9_brings_6 : decode cX9_brings 6 = .ok (.iconst 0, 1) := by decide +kernel
theorem dX9_brings_7 : decode cX9_brings 7 = .ok (.istore 4, 2) := by decide +kernel
theorem dX9_brings_9 : decode cX9_brings 9 = .ok (.iconst 0, 1) := by decide +kernel
theorem dX9_brings_10 : decode cX9_brings 10 = .ok (.istore 5, 2) := by decide +kernel
theorem dX9_brings_12 : decode cX9_brings 12 = .ok (.iload 5, 2) := by decide +kernel
theorem dX9_brings_14 : decode cX9_brings 14 = .ok (.bipush 8, 2) := by decide +kernel
theorem dX9_brings_16 : decode cX9_brings 16 = .ok (.if_icmp .ge 74, 3) := by decide +kernel
theorem dX9_brings_19 : decode cX9_brings 19 = .ok (.iload_n 1, 1) := by decide +kernel
theorem dX9_brings_20 : decode cX9_brings 20 = .ok (.iload 5, 2) := by decide +kernel
theorem dX9_brings_22 : decode cX9_brings 22 = .ok (.invokestatic 139, 3) := by decide +kernel
theorem dX9_brings_25 : decode cX9_brings 25 = .ok (.ifCond .eq 59, 3) := by decide +kernel
theorem dX9_brings_28 : decode cX9_brings 28 = .ok (.iload 4, 2) := by decide +kernel
theorem dX9_brings_30 : decode cX9_brings 30 = .ok (.iload_n 3, 1) := by decide +kernel
theorem dX9_brings_31 : decode cX9_brings 31 = .ok (.iconst (-1), 1) := by decide +kernel
theorem dX9_brings_32 : decode cX9_brings 32 = .ok (.if_icmp .eq 32, 3) := by decide +kernel
theorem dX9_brings_35 : decode cX9_brings 35 = .ok (.iload_n 3, 1) := by decide +kernel
theorem dX9_brings_36 : decode cX9_brings 36 = .ok (.aload_n 0, 1) := by decide +kernel
theorem dX9_brings_37 : decode cX9_brings 37 = .ok (.getfield 41, 3) := by decide +kernel
theorem dX9_brings_40 : decode cX9_brings 40 = .ok (.iconst 4, 1) := by decide +kernel
theorem dX9_brings_41 : decode cX9_brings 41 = .ok (.iload 5, 2) := by decide +kernel
theorem dX9_brings_43 : decode cX9_brings 43 = .ok (.imul, 1) := by decide +kernel
theorem dX9_brings_44 : decode cX9_brings 44 = .ok (.iconst 1, 1) := by decide +kernel
theorem dX9_brings_45 : decode cX9_brings 45 = .ok (.iadd, 1) := by decide +kernel
theorem dX9_brings_46 : decode cX9_brings 46 = .ok (.iaload, 1) := by decide +kernel
theorem dX9_brings_47 : decode cX9_brings 47 = .ok (.if_icmp .gt 17, 3) := by decide +kernel
theorem dX9_brings_50 : decode cX9_brings 50 = .ok (.aload_n 0, 1) := by decide +kernel
theorem dX9_brings_51 : decode cX9_brings 51 = .ok (.getfield 41, 3) := by decide +kernel
theorem dX9_brings_54 : decode cX9_brings 54 = .ok (.iconst 4, 1) := by decide +kernel
theorem dX9_brings_55 : decode cX9_brings 55 = .ok (.iload 5, 2) := by decide +kernel
theorem dX9_brings_57 : decode cX9_brings 57 = .ok (.imul, 1) := by decide +kernel
theorem dX9_brings_58 : decode cX9_brings 58 = .ok (.iconst 2, 1) := by decide +kernel
theorem dX9_brings_59 : decode cX9_brings 59 = .ok (.iadd, 1) := by decide +kernel
theorem dX9_brings_60 : decode cX9_brings 60 = .ok (.iaload, 1) := by decide +kernel
theorem dX9_brings_61 : decode cX9_brings 61 = .ok (.goto 4, 3) := by decide +kernel
theorem dX9_brings_64 : decode cX9_brings 64 = .ok (.iconst 0, 1) := by decide +kernel
theorem dX9_brings_65 : decode cX9_brings 65 = .ok (.iadd, 1) := by decide +kernel
theorem dX9_brings_66 : decode cX9_brings 66 = .ok (.istore 4, 2) := by decide +kernel
theorem dX9_brings_68 : decode cX9_brings 68 = .ok (.iload 4, 2) := by decide +kernel
theorem dX9_brings_70 : decode cX9_brings 70 = .ok (.aload_n 0, 1) := by decide +kernel
theorem dX9_brings_71 : decode cX9_brings 71 = .ok (.getfield 41, 3) := by decide +kernel
theorem dX9_brings_74 : decode cX9_brings 74 = .ok (.iconst 4, 1) := by decide +kernel
theorem dX9_brings_75 : decode cX9_brings 75 = .ok (.iload 5, 2) := by decide +kernel
theorem dX9_brings_77 : decode cX9_brings 77 = .ok (.imul, 1) := by decide +kernel
theorem dX9_brings_78 : decode cX9_brings 78 = .ok (.iconst 3, 1) := by decide +kernel
theorem dX9_brings_79 : decode cX9_brings 79 = .ok (.iadd, 1) := by decide +kernel
theorem dX9_brings_80 : decode cX9_brings 80 = .ok (.iaload, 1) := by decide +kernel
theorem dX9_brings_81 : decode cX9_brings 81 = .ok (.isub, 1) := by decide +kernel
theorem dX9_brings_82 : decode cX9_brings 82 = .ok (.istore 4, 2) := by decide +kernel
theorem dX9_brings_84 : decode cX9_brings 84 = .ok (.iinc 5 1, 3) := by decide +kernel
theorem dX9_brings_87 : decode cX9_brings 87 = .ok (.goto (-75), 3) := by decide +kernel
theorem dX9_brings_90 : decode cX9_brings 90 = .ok (.iload 4, 2) := by decide +kernel
theorem dX9_brings_92 : decode cX9_brings 92 = .ok (.ireturn, 1) := by decide +kernel
theorem dX9_areThere_0 : decode cX9_areThere 0 = .ok (.iconst 1, 1) := by decide +kernel
theorem dX9_areThere_1 : decode cX9_areThere 1 = .ok (.istore_n 2, 1) := by decide +kernel
theorem dX9_areThere_2 : decode cX9_areThere 2 = .ok (.iconst 0, 1) := by decide +kernel
theorem dX9_areThere_3 : decode cX9_areThere 3 = .ok (.istore_n 3, 1) := by decide +kernel
theorem dX9_areThere_4 : decode cX9_areThere 4 = .ok (.iload_n 3, 1) := by decide +kernel
theorem dX9_areThere_5 : decode cX9_areThere 5 = .ok (.bipush 8, 2) := by decide +kernel
theorem dX9_areThere_7 : decode cX9_areThere 7 = .ok (.if_icmp .ge 39, 3) := by decide +kernel
theorem dX9_areThere_10 : decode cX9_areThere 10 = .ok (.iload_n 2, 1) := by decide +kernel
theorem dX9_areThere_11 : decode cX9_areThere 11 = .ok (.ifCond .eq 27, 3) := by decide +kernel
theorem dX9_areThere_14 : decode cX9_areThere 14 = .ok (.iload_n 1, 1) := by decide +kernel
theorem dX9_areThere_15 : decode cX9_areThere 15 = .ok (.iload_n 3, 1) := by decide +kernel
theorem dX9_areThere_16 : decode cX9_areThere 16 = .ok (.invokestatic 139, 3) := by decide +kernel
theorem dX9_areThere_19 : decode cX9_areThere 19 = .ok (.ifCond .eq 15, 3) := by decide +kernel
theorem dX9_areThere_22 : decode cX9_areThere 22 = .ok (.aload_n 0, 1) := by decide +kernel
theorem dX9_areThere_23 : decode cX9_areThere 23 = .ok (.getfield 41, 3) := by decide +kernel
theorem dX9_areThere_26 : decode cX9_areThere 26 = .ok (.iconst 4, 1) := by decide +kernel
theorem dX9_areThere_27 : decode cX9_areThere 27 = .ok (.iload_n 3, 1) := by decide +kernel
theorem dX9_areThere_28 : decode cX9_areThere 28 = .ok (.imul, 1) := by decide +kernel
theorem dX9_areThere_29 : decode cX9_areThere 29 = .ok (.iaload, 1) := by decide +kernel
theorem dX9_areThere_30 : decode cX9_areThere 30 = .ok (.iconst 1, 1) := by decide +kernel
theorem dX9_areThere_31 : decode cX9_areThere 31 = .ok (.if_icmp .ne 7, 3) := by decide +kernel
theorem dX9_areThere_34 : decode cX9_areThere 34 = .ok (.iconst 1, 1) := by decide +kernel
theorem dX9_areThere_35 : decode cX9_areThere 35 = .ok (.goto 4, 3) := by decide +kernel
theorem dX9_areThere_38 : decode cX9_areThere 38 = .ok (.iconst 0, 1) := by decide +kernel
theorem dX9_areThere_39 : decode cX9_areThere 39 = .ok (.istore_n 2, 1) := by decide +kernel
theorem dX9_areThere_40 : decode cX9_areThere 40 = .ok (.iinc 3 1, 3) := by decide +kernel
theorem dX9_areThere_43 : decode cX9_areThere 43 = .ok (.goto (-39), 3) := by decide +kernel
theorem dX9_areThere_46 : decode cX9_areThere 46 = .ok (.iload_n 2, 1) := by decide +kernel
theorem dX9_areThere_47 : decode cX9_areThere 47 = .ok (.ireturn, 1) := by decide +kernel
theorem dX9_findNever_0 : decode cX9_findNever 0 = .ok (.aload_n 0, 1) := by decide +kernel
theorem dX9_findNever_1 : decode cX9_findNever 1 = .ok (.iconst 0, 1) := by decide +kernel
theorem dX9_findNever_2 : decode cX9_findNever 2 = .ok (.putfield 211, 3) := by decide +kernel
theorem dX9_findNever_5 : decode cX9_findNever 5 = .ok (.aload_n 0, 1) := by decide +kernel
theorem dX9_findNever_6 : decode cX9_findNever 6 = .ok (.iconst 0, 1) := by decide +kernel
theorem dX9_findNever_7 : decode cX9_findNever 7 = .ok (.putfield 214, 3) := by decide +kernel
theorem dX9_findNever_10 : decode cX9_findNever 10 = .ok (.aload_n 0, 1) := by decide +kernel
theorem dX9_findNever_11 : decode cX9_findNever 11 = .ok (.lconst 0, 1) := by decide +kernel
theorem dX9_findNever_12 : decode cX9_findNever 12 = .ok (.putfield 217, 3) := by decide +kernel
theorem dX9_findNever_15 : decode cX9_findNever 15 = .ok (.iconst 0, 1) := by decide +kernel
theorem dX9_findNever_16 : decode cX9_findNever 16 = .ok (.istore_n 1, 1) := by decide +kernel
theorem dX9_findNever_17 : decode cX9_findNever 17 = .ok (.iload_n 1, 1) := by decide +kernel
theorem dX9_findNever_18 : decode cX9_findNever 18 = .ok (.sipush 256, 3) := by decide +kernel
theorem dX9_findNever_21 : decode cX9_findNever 21 = .ok (.if_icmp .ge 138, 3) := by decide +kernel
theorem dX9_findNever_24 : decode cX9_findNever 24 = .ok (.aload_n 0, 1) := by decide +kernel
theorem dX9_findNever_25 : decode cX9_findNever 25 = .ok (.iload_n 1, 1) := by decide +kernel
theorem dX9_findNever_26 : decode cX9_findNever 26 = .ok (.invokevirtual 221, 3) := by decide +kernel
theorem dX9_findNever_29 : decode cX9_findNever 29 = .ok (.istore_n 2, 1) := by decide +kernel
theorem dX9_findNever_30 : decode cX9_findNever 30 = .ok (.lconst 0, 1) := by decide +kernel
theorem dX9_findNever_31 : decode cX9_findNever 31 = .ok (.lstore_n 3, 1) := by decide +kernel
theorem dX9_findNever_32 : decode cX9_findNever 32 = .ok (.iconst 0, 1) := by decide +kernel
theorem dX9_findNever_33 : decode cX9_findNever 33 = .ok (.istore 5, 2) := by decide +kernel
theorem dX9_findNever_35 : decode cX9_findNever 35 = .ok (.iload 5, 2) := by decide +kernel
theorem dX9_findNever_37 : decode cX9_findNever 37 = .ok (.iconst 3, 1) := by decide +kernel
theorem dX9_findNever_38 : decode cX9_findNever 38 = .ok (.if_icmp .ge 59, 3) := by decide +kernel
theorem dX9_findNever_41 : decode cX9_findNever 41 = .ok (.iload_n 2, 1) := by decide +kernel
theorem dX9_findNever_42 : decode cX9_findNever 42 = .ok (.ifCond .eq 27, 3) := by decide +kernel
theorem dX9_findNever_45 : decode cX9_findNever 45 = .ok (.aload_n 0, 1) := by decide +kernel
theorem dX9_findNever_46 : decode cX9_findNever 46 = .ok (.getfield 31, 3) := by decide +kernel
theorem dX9_findNever_49 : decode cX9_findNever 49 = .ok (.iload 5, 2) := by decide +kernel
theorem dX9_findNever_51 : decode cX9_findNever 51 = .ok (.iaload, 1) := by decide +kernel
theorem dX9_findNever_52 : decode cX9_findNever 52 = .ok (.ifCond .eq 13, 3) := by decide +kernel
theorem dX9_findNever_55 : decode cX9_findNever 55 = .ok (.aload_n 0, 1) := by decide +kernel
theorem dX9_findNever_56 : decode cX9_findNever 56 = .ok (.iload_n 1, 1) := by decide +kernel
theorem dX9_findNever_57 : decode cX9_findNever 57 = .ok (.iload 5, 2) := by decide +kernel
theorem dX9_findNever_59 : decode cX9_findNever 59 = .ok (.invokevirtual 224, 3) := by decide +kernel
theorem dX9_findNever_62 : decode cX9_findNever 62 = .ok (.ifCond .lt 7, 3) := by decide +kernel
theorem dX9_findNever_65 : decode cX9_findNever 65 = .ok (.iconst 1, 1) := by decide +kernel
theorem dX9_findNever_66 : decode cX9_findNever 66 = .ok (.goto 4, 3) := by decide +kernel
theorem dX9_findNever_69 : decode cX9_findNever 69 = .ok (.iconst 0, 1) := by decide +kernel
theorem dX9_findNever_70 : decode cX9_findNever 70 = .ok (.istore_n 2, 1) := by decide +kernel
theorem dX9_findNever_71 : decode cX9_findNever 71 = .ok (.lload_n 3, 1) := by decide +kernel
theorem dX9_findNever_72 : decode cX9_findNever 72 = .ok (.aload_n 0, 1) := by decide +kernel
theorem dX9_findNever_73 : decode cX9_findNever 73 = .ok (.getfield 31, 3) := by decide +kernel
theorem dX9_findNever_76 : decode cX9_findNever 76 = .ok (.iload 5, 2) := by decide +kernel
theorem dX9_findNever_78 : decode cX9_findNever 78 = .ok (.iaload, 1) := by decide +kernel
theorem dX9_findNever_79 : decode cX9_findNever 79 = .ok (.i2l, 1) := by decide +kernel
theorem dX9_findNever_80 : decode cX9_findNever 80 = .ok (.aload_n 0, 1) := by decide +kernel
theorem dX9_findNever_81 : decode cX9_findNever 81 = .ok (.iload_n 1, 1) := by decide +kernel
theorem dX9_findNever_82 : decode cX9_findNever 82 = .ok (.iload 5, 2) := by decide +kernel
theorem dX9_findNever_84 : decode cX9_findNever 84 = .ok (.invokevirtual 224, 3) := by decide +kernel
theorem dX9_findNever_87 : decode cX9_findNever 87 = .ok (.i2l, 1) := by decide +kernel
theorem dX9_findNever_88 : decode cX9_findNever 88 = .ok (.lmul, 1) := by decide +kernel
theorem dX9_findNever_89 : decode cX9_findNever 89 = .ok (.ladd, 1) := by decide +kernel
theorem dX9_findNever_90 : decode cX9_findNever 90 = .ok (.lstore_n 3, 1) := by decide +kernel
theorem dX9_findNever_91 : decode cX9_findNever 91 = .ok (.iinc 5 1, 3) := by decide +kernel
theorem dX9_findNever_94 : decode cX9_findNever 94 = .ok (.goto (-59), 3) := by decide +kernel
theorem dX9_findNever_97 : decode cX9_findNever 97 = .ok (.iload_n 2, 1) := by decide +kernel
theorem dX9_findNever_98 : decode cX9_findNever 98 = .ok (.ifCond .eq 55, 3) := by decide +kernel
theorem dX9_findNever_101 : decode cX9_findNever 101 = .ok (.aload_n 0, 1) := by decide +kernel
theorem dX9_findNever_102 : decode cX9_findNever 102 = .ok (.dup, 1) := by decide +kernel
theorem dX9_findNever_103 : decode cX9_findNever 103 = .ok (.getfield 211, 3) := by decide +kernel
theorem dX9_findNever_106 : decode cX9_findNever 106 = .ok (.iconst 1, 1) := by decide +kernel
theorem dX9_findNever_107 : decode cX9_findNever 107 = .ok (.iadd, 1) := by decide +kernel
theorem dX9_findNever_108 : decode cX9_findNever 108 = .ok (.putfield 211, 3) := by decide +kernel
theorem dX9_findNever_111 : decode cX9_findNever 111 = .ok (.aload_n 0, 1) := by decide +kernel
theorem dX9_findNever_112 : decode cX9_findNever 112 = .ok (.lload_n 3, 1) := by decide +kernel
theorem dX9_findNever_113 : decode cX9_findNever 113 = .ok (.aload_n 0, 1) := by decide +kernel
theorem dX9_findNever_114 : decode cX9_findNever 114 = .ok (.getfield 217, 3) := by decide +kernel
theorem dX9_findNever_117 : decode cX9_findNever 117 = .ok (.lcmp, 1) := by decide +kernel
theorem dX9_findNever_118 : decode cX9_findNever 118 = .ok (.ifCond .le 7, 3) := by decide +kernel
theorem dX9_findNever_121 : decode cX9_findNever 121 = .ok (.iload_n 1, 1) := by decide +kernel
theorem dX9_findNever_122 : decode cX9_findNever 122 = .ok (.goto 7, 3) := by decide +kernel
theorem dX9_findNever_125 : decode cX9_findNever 125 = .ok (.aload_n 0, 1) := by decide +kernel
theorem dX9_findNever_126 : decode cX9_findNever 126 = .ok (.getfield 214, 3) := by decide +kernel
theorem dX9_findNever_129 : decode cX9_findNever 129 = .ok (.putfield 214, 3) := by decide +kernel
theorem dX9_findNever_132 : decode cX9_findNever 132 = .ok (.aload_n 0, 1) := by decide +kernel
theorem dX9_findNever_133 : decode cX9_findNever 133 = .ok (.lload_n 3, 1) := by decide +kernel
theorem dX9_findNever_134 : decode cX9_findNever 134 = .ok (.aload_n 0, 1) := by decide +kernel
theorem dX9_findNever_135 : decode cX9_findNever 135 = .ok (.getfield 217, 3) := by decide +kernel
theorem dX9_findNever_138 : decode cX9_findNever 138 = .ok (.lcmp, 1) := by decide +kernel
theorem dX9_findNever_139 : decode cX9_findNever 139 = .ok (.ifCond .le 7, 3) := by decide +kernel
theorem dX9_findNever_142 : decode cX9_findNever 142 = .ok (.lload_n 3, 1) := by decide +kernel
theorem dX9_findNever_143 : decode cX9_findNever 143 = .ok (.goto 7, 3) := by decide +kernel
theorem dX9_findNever_146 : decode cX9_findNever 146 = .ok (.aload_n 0, 1) := by decide +kernel
theorem dX9_findNever_147 : decode cX9_findNever 147 = .ok (.getfield 217, 3) := by decide +kernel
theorem dX9_findNever_150 : decode cX9_findNever 150 = .ok (.putfield 217, 3) := by decide +kernel
theorem dX9_findNever_153 : decode cX9_findNever 153 = .ok (.iinc 1 1, 3) := by decide +kernel
theorem dX9_findNever_156 : decode cX9_findNever 156 = .ok (.goto (-139), 3) := by decide +kernel
theorem dX9_findNever_159 : decode cX9_findNever 159 = .ok (.return_, 1) := by decide +kernel
theorem dX9_neverOf_0 : decode cX9_neverOf 0 = .ok (.aload_n 0, 1) := by decide +kernel
theorem dX9_neverOf_1 : decode cX9_neverOf 1 = .ok (.invokevirtual 227, 3) := by decide +kernel
theorem dX9_neverOf_4 : decode cX9_neverOf 4 = .ok (.iload_n 1, 1) := by decide +kernel
theorem dX9_neverOf_5 : decode cX9_neverOf 5 = .ok (.ifCond .ne 10, 3) := by decide +kernel
theorem dX9_neverOf_8 : decode cX9_neverOf 8 = .ok (.aload_n 0, 1) := by decide +kernel
theorem dX9_neverOf_9 : decode cX9_neverOf 9 = .ok (.getfield 211, 3) := by decide +kernel
theorem dX9_neverOf_12 : decode cX9_neverOf 12 = .ok (.goto 7, 3) := by decide +kernel
theorem dX9_neverOf_15 : decode cX9_neverOf 15 = .ok (.aload_n 0, 1) := by decide +kernel
theorem dX9_neverOf_16 : decode cX9_neverOf 16 = .ok (.getfield 214, 3) := by decide +kernel
theorem dX9_neverOf_19 : decode cX9_neverOf 19 = .ok (.ireturn, 1) := by decide +kernel
theorem dX9_never_0 : decode cX9_never 0 = .ok (.iload_n 1, 1) := by decide +kernel
theorem dX9_never_1 : decode cX9_never 1 = .ok (.invokestatic 142, 3) := by decide +kernel
theorem dX9_never_4 : decode cX9_never 4 = .ok (.ifCond .eq 11, 3) := by decide +kernel
theorem dX9_never_7 : decode cX9_never 7 = .ok (.aload_n 0, 1) := by decide +kernel
theorem dX9_never_8 : decode cX9_never 8 = .ok (.iload_n 1, 1) := by decide +kernel
theorem dX9_never_9 : decode cX9_never 9 = .ok (.invokevirtual 230, 3) := by decide +kernel
theorem dX9_never_12 : decode cX9_never 12 = .ok (.goto 5, 3) := by decide +kernel
theorem dX9_never_15 : decode cX9_never 15 = .ok (.bipush (-2), 2) := by decide +kernel
theorem dX9_never_17 : decode cX9_never 17 = .ok (.ireturn, 1) := by decide +kernel
theorem dX9_gainOf_0 : decode cX9_gainOf 0 = .ok (.aload_n 0, 1) := by decide +kernel
theorem dX9_gainOf_1 : decode cX9_gainOf 1 = .ok (.invokevirtual 227, 3) := by decide +kernel
theorem dX9_gainOf_4 : decode cX9_gainOf 4 = .ok (.aload_n 0, 1) := by decide +kernel
theorem dX9_gainOf_5 : decode cX9_gainOf 5 = .ok (.bipush 7, 2) := by decide +kernel
theorem dX9_gainOf_7 : decode cX9_gainOf 7 = .ok (.invokevirtual 166, 3) := by decide +kernel
theorem dX9_gainOf_10 : decode cX9_gainOf 10 = .ok (.lstore_n 2, 1) := by decide +kernel
theorem dX9_gainOf_11 : decode cX9_gainOf 11 = .ok (.lload_n 2, 1) := by decide +kernel
theorem dX9_gainOf_12 : decode cX9_gainOf 12 = .ok (.lconst 0, 1) := by decide +kernel
theorem dX9_gainOf_13 : decode cX9_gainOf 13 = .ok (.lcmp, 1) := by decide +kernel
theorem dX9_gainOf_14 : decode cX9_gainOf 14 = .ok (.ifCond .ne 8, 3) := by decide +kernel
theorem dX9_gainOf_17 : decode cX9_gainOf 17 = .ok (.iload_n 1, 1) := by decide +kernel
theorem dX9_gainOf_18 : decode cX9_gainOf 18 = .ok (.i2l, 1) := by decide +kernel
theorem dX9_gainOf_19 : decode cX9_gainOf 19 = .ok (.goto 12, 3) := by decide +kernel
theorem dX9_gainOf_22 : decode cX9_gainOf 22 = .ok (.aload_n 0, 1) := by decide +kernel
theorem dX9_gainOf_23 : decode cX9_gainOf 23 = .ok (.getfield 217, 3) := by decide +kernel
theorem dX9_gainOf_26 : decode cX9_gainOf 26 = .ok (.lload_n 2, 1) := by decide +kernel
theorem dX9_gainOf_27 : decode cX9_gainOf 27 = .ok (.iload_n 1, 1) := by decide +kernel
theorem dX9_gainOf_28 : decode cX9_gainOf 28 = .ok (.invokestatic 188, 3) := by decide +kernel
theorem dX9_gainOf_31 : decode cX9_gainOf 31 = .ok (.lreturn, 1) := by decide +kernel
theorem dX9_gain_0 : decode cX9_gain 0 = .ok (.iload_n 1, 1) := by decide +kernel
theorem dX9_gain_1 : decode cX9_gain 1 = .ok (.invokestatic 142, 3) := by decide +kernel
theorem dX9_gain_4 : decode cX9_gain 4 = .ok (.ifCond .eq 11, 3) := by decide +kernel
theorem dX9_gain_7 : decode cX9_gain 7 = .ok (.aload_n 0, 1) := by decide +kernel
theorem dX9_gain_8 : decode cX9_gain 8 = .ok (.iload_n 1, 1) := by decide +kernel
theorem dX9_gain_9 : decode cX9_gain 9 = .ok (.invokevirtual 233, 3) := by decide +kernel
theorem dX9_gain_12 : decode cX9_gain 12 = .ok (.goto 8, 3) := by decide +kernel
theorem dX9_gain_15 : decode cX9_gain 15 = .ok (.bipush (-2), 2) := by decide +kernel
theorem dX9_gain_17 : decode cX9_gain 17 = .ok (.invokestatic 181, 3) := by decide +kernel
theorem dX9_gain_20 : decode cX9_gain 20 = .ok (.lreturn, 1) := by decide +kernel
theorem dX9_kinds_0 : decode cX9_kinds 0 = .ok (.iconst 0, 1) := by decide +kernel
theorem dX9_kinds_1 : decode cX9_kinds 1 = .ok (.istore_n 2, 1) := by decide +kernel
theorem dX9_kinds_2 : decode cX9_kinds 2 = .ok (.iconst 0, 1) := by decide +kernel
theorem dX9_kinds_3 : decode cX9_kinds 3 = .ok (.istore_n 3, 1) := by decide +kernel
theorem dX9_kinds_4 : decode cX9_kinds 4 = .ok (.iload_n 3, 1) := by decide +kernel
theorem dX9_kinds_5 : decode cX9_kinds 5 = .ok (.iconst 3, 1) := by decide +kernel
theorem dX9_kinds_6 : decode cX9_kinds 6 = .ok (.if_icmp .ge 33, 3) := by decide +kernel
theorem dX9_kinds_9 : decode cX9_kinds 9 = .ok (.iload_n 2, 1) := by decide +kernel
theorem dX9_kinds_10 : decode cX9_kinds 10 = .ok (.aload_n 0, 1) := by decide +kernel
theorem dX9_kinds_11 : decode cX9_kinds 11 = .ok (.getfield 31, 3) := by decide +kernel
theorem dX9_kinds_14 : decode cX9_kinds 14 = .ok (.iload_n 3, 1) := by decide +kernel
theorem dX9_kinds_15 : decode cX9_kinds 15 = .ok (.iaload, 1) := by decide +kernel
theorem dX9_kinds_16 : decode cX9_kinds 16 = .ok (.ifCond .le 14, 3) := by decide +kernel
theorem dX9_kinds_19 : decode cX9_kinds 19 = .ok (.iconst 1, 1) := by decide +kernel
theorem dX9_kinds_20 : decode cX9_kinds 20 = .ok (.aload_n 0, 1) := by decide +kernel
theorem dX9_kinds_21 : decode cX9_kinds 21 = .ok (.iload_n 3, 1) := by decide +kernel
theorem dX9_kinds_22 : decode cX9_kinds 22 = .ok (.iload_n 1, 1) := by decide +kernel
theorem dX9_kinds_23 : decode cX9_kinds 23 = .ok (.invokevirtual 111, 3) := by decide +kernel
theorem dX9_kinds_26 : decode cX9_kinds 26 = .ok (.ishl, 1) := by decide +kernel
theorem dX9_kinds_27 : decode cX9_kinds 27 = .ok (.goto 4, 3) := by decide +kernel
theorem dX9_kinds_30 : decode cX9_kinds 30 = .ok (.iconst 0, 1) := by decide +kernel
theorem dX9_kinds_31 : decode cX9_kinds 31 = .ok (.ior, 1) := by decide +kernel
theorem dX9_kinds_32 : decode cX9_kinds 32 = .ok (.istore_n 2, 1) := by decide +kernel
theorem dX9_kinds_33 : decode cX9_kinds 33 = .ok (.iinc 3 1, 3) := by decide +kernel
theorem dX9_kinds_36 : decode cX9_kinds 36 = .ok (.goto (-32), 3) := by decide +kernel
theorem dX9_kinds_39 : decode cX9_kinds 39 = .ok (.iconst 0, 1) := by decide +kernel
theorem dX9_kinds_40 : decode cX9_kinds 40 = .ok (.istore_n 3, 1) := by decide +kernel
theorem dX9_kinds_41 : decode cX9_kinds 41 = .ok (.iload_n 2, 1) := by decide +kernel
theorem dX9_kinds_42 : decode cX9_kinds 42 = .ok (.istore 4, 2) := by decide +kernel
theorem dX9_kinds_44 : decode cX9_kinds 44 = .ok (.iload 4, 2) := by decide +kernel
theorem dX9_kinds_46 : decode cX9_kinds 46 = .ok (.ifCond .eq 18, 3) := by decide +kernel
theorem dX9_kinds_49 : decode cX9_kinds 49 = .ok (.iinc 3 1, 3) := by decide +kernel
theorem dX9_kinds_52 : decode cX9_kinds 52 = .ok (.iload 4, 2) := by decide +kernel
theorem dX9_kinds_54 : decode cX9_kinds 54 = .ok (.iload 4, 2) := by decide +kernel
theorem dX9_kinds_56 : decode cX9_kinds 56 = .ok (.iconst 1, 1) := by decide +kernel
theorem dX9_kinds_57 : decode cX9_kinds 57 = .ok (.isub, 1) := by decide +kernel
theorem dX9_kinds_58 : decode cX9_kinds 58 = .ok (.iand, 1) := by decide +kernel
theorem dX9_kinds_59 : decode cX9_kinds 59 = .ok (.istore 4, 2) := by decide +kernel
theorem dX9_kinds_61 : decode cX9_kinds 61 = .ok (.goto (-17), 3) := by decide +kernel
theorem dX9_kinds_64 : decode cX9_kinds 64 = .ok (.iload_n 3, 1) := by decide +kernel
theorem dX9_kinds_65 : decode cX9_kinds 65 = .ok (.ireturn, 1) := by decide +kernel
theorem dX9_watchNow_0 : decode cX9_watchNow 0 = .ok (.iconst 0, 1) := by decide +kernel
theorem dX9_watchNow_1 : decode cX9_watchNow 1 = .ok (.istore_n 1, 1) := by decide +kernel
theorem dX9_watchNow_2 : decode cX9_watchNow 2 = .ok (.iconst 1, 1) := by decide +kernel
theorem dX9_watchNow_3 : decode cX9_watchNow 3 = .ok (.istore_n 2, 1) := by decide +kernel
theorem dX9_watchNow_4 : decode cX9_watchNow 4 = .ok (.iload_n 2, 1) := by decide +kernel
theorem dX9_watchNow_5 : decode cX9_watchNow 5 = .ok (.bipush 30, 2) := by decide +kernel
theorem dX9_watchNow_7 : decode cX9_watchNow 7 = .ok (.if_icmp .ge 28, 3) := by decide +kernel
theorem dX9_watchNow_10 : decode cX9_watchNow 10 = .ok (.aload_n 0, 1) := by decide +kernel
theorem dX9_watchNow_11 : decode cX9_watchNow 11 = .ok (.iload_n 2, 1) := by decide +kernel
theorem dX9_watchNow_12 : decode cX9_watchNow 12 = .ok (.invokevirtual 236, 3) := by decide +kernel
theorem dX9_watchNow_15 : decode cX9_watchNow 15 = .ok (.aload_n 0, 1) := by decide +kernel
theorem dX9_watchNow_16 : decode cX9_watchNow 16 = .ok (.iload_n 1, 1) := by decide +kernel
theorem dX9_watchNow_17 : decode cX9_watchNow 17 = .ok (.invokevirtual 236, 3) := by decide +kernel
theorem dX9_watchNow_20 : decode cX9_watchNow 20 = .ok (.if_icmp .le 7, 3) := by decide +kernel
theorem dX9_watchNow_23 : decode cX9_watchNow 23 = .ok (.iload_n 2, 1) := by decide +kernel
theorem dX9_watchNow_24 : decode cX9_watchNow 24 = .ok (.goto 4, 3) := by decide +kernel
theorem dX9_watchNow_27 : decode cX9_watchNow 27 = .ok (.iload_n 1, 1) := by decide +kernel
theorem dX9_watchNow_28 : decode cX9_watchNow 28 = .ok (.istore_n 1, 1) := by decide +kernel
theorem dX9_watchNow_29 : decode cX9_watchNow 29 = .ok (.iinc 2 1, 3) := by decide +kernel
theorem dX9_watchNow_32 : decode cX9_watchNow 32 = .ok (.goto (-28), 3) := by decide +kernel
theorem dX9_watchNow_35 : decode cX9_watchNow 35 = .ok (.iload_n 1, 1) := by decide +kernel
theorem dX9_watchNow_36 : decode cX9_watchNow 36 = .ok (.ireturn, 1) := by decide +kernel
theorem dX9_watch_0 : decode cX9_watch 0 = .ok (.aload_n 0, 1) := by decide +kernel
theorem dX9_watch_1 : decode cX9_watch 1 = .ok (.invokevirtual 239, 3) := by decide +kernel
theorem dX9_watch_4 : decode cX9_watch 4 = .ok (.ireturn, 1) := by decide +kernel
theorem dX9_fact_0 : decode cX9_fact 0 = .ok (.iload_n 1, 1) := by decide +kernel
theorem dX9_fact_1 : decode cX9_fact 1 = .ok (.invokestatic 108, 3) := by decide +kernel
theorem dX9_fact_4 : decode cX9_fact 4 = .ok (.ifCond .eq 22, 3) := by decide +kernel
theorem dX9_fact_7 : decode cX9_fact 7 = .ok (.iload_n 2, 1) := by decide +kernel
theorem dX9_fact_8 : decode cX9_fact 8 = .ok (.i2l, 1) := by decide +kernel
theorem dX9_fact_9 : decode cX9_fact 9 = .ok (.lconst 0, 1) := by decide +kernel
theorem dX9_fact_10 : decode cX9_fact 10 = .ok (.ldc2_w 121, 3) := by decide +kernel
theorem dX9_fact_13 : decode cX9_fact 13 = .ok (.invokestatic 49, 3) := by decide +kernel
theorem dX9_fact_16 : decode cX9_fact 16 = .ok (.ifCond .eq 10, 3) := by decide +kernel
theorem dX9_fact_19 : decode cX9_fact 19 = .ok (.iload_n 3, 1) := by decide +kernel
theorem dX9_fact_20 : decode cX9_fact 20 = .ok (.invokestatic 142, 3) := by decide +kernel
theorem dX9_fact_23 : decode cX9_fact 23 = .ok (.ifCond .ne 6, 3) := by decide +kernel
theorem dX9_fact_26 : decode cX9_fact 26 = .ok (.bipush (-2), 2) := by decide +kernel
theorem dX9_fact_28 : decode cX9_fact 28 = .ok (.ireturn, 1) := by decide +kernel
theorem dX9_fact_29 : decode cX9_fact 29 = .ok (.aload_n 0, 1) := by decide +kernel
theorem dX9_fact_30 : decode cX9_fact 30 = .ok (.getfield 242, 3) := by decide +kernel
theorem dX9_fact_33 : decode cX9_fact 33 = .ok (.bipush 8, 2) := by decide +kernel
theorem dX9_fact_35 : decode cX9_fact 35 = .ok (.if_icmp .ne 6, 3) := by decide +kernel
theorem dX9_fact_38 : decode cX9_fact 38 = .ok (.bipush (-4), 2) := by decide +kernel
theorem dX9_fact_40 : decode cX9_fact 40 = .ok (.ireturn, 1) := by decide +kernel
theorem dX9_fact_41 : decode cX9_fact 41 = .ok (.aload_n 0, 1) := by decide +kernel
theorem dX9_fact_42 : decode cX9_fact 42 = .ok (.getfield 44, 3) := by decide +kernel
theorem dX9_fact_45 : decode cX9_fact 45 = .ok (.iconst 3, 1) := by decide +kernel
theorem dX9_fact_46 : decode cX9_fact 46 = .ok (.aload_n 0, 1) := by decide +kernel
theorem dX9_fact_47 : decode cX9_fact 47 = .ok (.getfield 242, 3) := by decide +kernel
theorem dX9_fact_50 : decode cX9_fact 50 = .ok (.imul, 1) := by decide +kernel
theorem dX9_fact_51 : decode cX9_fact 51 = .ok (.iload_n 1, 1) := by decide +kernel
theorem dX9_fact_52 : decode cX9_fact 52 = .ok (.iastore, 1) := by decide +kernel
theorem dX9_fact_53 : decode cX9_fact 53 = .ok (.aload_n 0, 1) := by decide +kernel
theorem dX9_fact_54 : decode cX9_fact 54 = .ok (.getfield 44, 3) := by decide +kernel
theorem dX9_fact_57 : decode cX9_fact 57 = .ok (.iconst 3, 1) := by decide +kernel
theorem dX9_fact_58 : decode cX9_fact 58 = .ok (.aload_n 0, 1) := by decide +kernel
theorem dX9_fact_59 : decode cX9_fact 59 = .ok (.getfield 242, 3) := by decide +kernel
theorem dX9_fact_62 : decode cX9_fact 62 = .ok (.imul, 1) := by decide +kernel
theorem dX9_fact_63 : decode cX9_fact 63 = .ok (.iconst 1, 1) := by decide +kernel
theorem dX9_fact_64 : decode cX9_fact 64 = .ok (.iadd, 1) := by decide +kernel
theorem dX9_fact_65 : decode cX9_fact 65 = .ok (.iload_n 2, 1) := by decide +kernel
theorem dX9_fact_66 : decode cX9_fact 66 = .ok (.iastore, 1) := by decide +kernel
theorem dX9_fact_67 : decode cX9_fact 67 = .ok (.aload_n 0, 1) := by decide +kernel
theorem dX9_fact_68 : decode cX9_fact 68 = .ok (.getfield 44, 3) := by decide +kernel
theorem dX9_fact_71 : decode cX9_fact 71 = .ok (.iconst 3, 1) := by decide +kernel
theorem dX9_fact_72 : decode cX9_fact 72 = .ok (.aload_n 0, 1) := by decide +kernel
theorem dX9_fact_73 : decode cX9_fact 73 = .ok (.getfield 242, 3) := by decide +kernel
theorem dX9_fact_76 : decode cX9_fact 76 = .ok (.imul, 1) := by decide +kernel
theorem dX9_fact_77 : decode cX9_fact 77 = .ok (.iconst 2, 1) := by decide +kernel
theorem dX9_fact_78 : decode cX9_fact 78 = .ok (.iadd, 1) := by decide +kernel
theorem dX9_fact_79 : decode cX9_fact 79 = .ok (.iload_n 3, 1) := by decide +kernel
theorem dX9_fact_80 : decode cX9_fact 80 = .ok (.iastore, 1) := by decide +kernel
theorem dX9_fact_81 : decode cX9_fact 81 = .ok (.aload_n 0, 1) := by decide +kernel
theorem dX9_fact_82 : decode cX9_fact 82 = .ok (.dup, 1) := by decide +kernel
theorem dX9_fact_83 : decode cX9_fact 83 = .ok (.getfield 242, 3) := by decide +kernel
theorem dX9_fact_86 : decode cX9_fact 86 = .ok (.iconst 1, 1) := by decide +kernel
theorem dX9_fact_87 : decode cX9_fact 87 = .ok (.iadd, 1) := by decide +kernel
theorem dX9_fact_88 : decode cX9_fact 88 = .ok (.putfield 242, 3) := by decide +kernel
theorem dX9_fact_91 : decode cX9_fact 91 = .ok (.aload_n 0, 1) := by decide +kernel
theorem dX9_fact_92 : decode cX9_fact 92 = .ok (.getfield 242, 3) := by decide +kernel
theorem dX9_fact_95 : decode cX9_fact 95 = .ok (.ireturn, 1) := by decide +kernel
theorem dX9_forget_0 : decode cX9_forget 0 = .ok (.aload_n 0, 1) := by decide +kernel
theorem dX9_forget_1 : decode cX9_forget 1 = .ok (.getfield 242, 3) := by decide +kernel
theorem dX9_forget_4 : decode cX9_forget 4 = .ok (.istore_n 1, 1) := by decide +kernel
theorem dX9_forget_5 : decode cX9_forget 5 = .ok (.aload_n 0, 1) := by decide +kernel
theorem dX9_forget_6 : decode cX9_forget 6 = .ok (.iconst 0, 1) := by decide +kernel
theorem dX9_forget_7 : decode cX9_forget 7 = .ok (.putfield 242, 3) := by decide +kernel
theorem dX9_forget_10 : decode cX9_forget 10 = .ok (.iload_n 1, 1) := by decide +kernel
theorem dX9_forget_11 : decode cX9_forget 11 = .ok (.ireturn, 1) := by decide +kernel
theorem dX9_fitNow_0 : decode cX9_fitNow 0 = .ok (.iconst 0, 1) := by decide +kernel
theorem dX9_fitNow_1 : decode cX9_fitNow 1 = .ok (.istore_n 1, 1) := by decide +kernel
theorem dX9_fitNow_2 : decode cX9_fitNow 2 = .ok (.iconst 0, 1) := by decide +kernel
theorem dX9_fitNow_3 : decode cX9_fitNow 3 = .ok (.istore_n 2, 1) := by decide +kernel
theorem dX9_fitNow_4 : decode cX9_fitNow 4 = .ok (.iload_n 2, 1) := by decide +kernel
theorem dX9_fitNow_5 : decode cX9_fitNow 5 = .ok (.iconst 3, 1) := by decide +kernel
theorem dX9_fitNow_6 : decode cX9_fitNow 6 = .ok (.if_icmp .ge 114, 3) := by decide +kernel
theorem dX9_fitNow_9 : decode cX9_fitNow 9 = .ok (.iconst 1, 1) := by decide +kernel
theorem dX9_fitNow_10 : decode cX9_fitNow 10 = .ok (.istore_n 3, 1) := by decide +kernel
theorem dX9_fitNow_11 : decode cX9_fitNow 11 = .ok (.iconst 0, 1) := by decide +kernel
theorem dX9_fitNow_12 : decode cX9_fitNow 12 = .ok (.istore 4, 2) := by decide +kernel
theorem dX9_fitNow_14 : decode cX9_fitNow 14 = .ok (.iload 4, 2) := by decide +kernel
theorem dX9_fitNow_16 : decode cX9_fitNow 16 = .ok (.aload_n 0, 1) := by decide +kernel
theorem dX9_fitNow_17 : decode cX9_fitNow 17 = .ok (.getfield 242, 3) := by decide +kernel
theorem dX9_fitNow_20 : decode cX9_fitNow 20 = .ok (.if_icmp .ge 80, 3) := by decide +kernel
theorem dX9_fitNow_23 : decode cX9_fitNow 23 = .ok (.aload_n 0, 1) := by decide +kernel
theorem dX9_fitNow_24 : decode cX9_fitNow 24 = .ok (.getfield 44, 3) := by decide +kernel
theorem dX9_fitNow_27 : decode cX9_fitNow 27 = .ok (.iconst 3, 1) := by decide +kernel
theorem dX9_fitNow_28 : decode cX9_fitNow 28 = .ok (.iload 4, 2) := by decide +kernel
theorem dX9_fitNow_30 : decode cX9_fitNow 30 = .ok (.imul, 1) := by decide +kernel
theorem dX9_fitNow_31 : decode cX9_fitNow 31 = .ok (.iconst 1, 1) := by decide +kernel
theorem dX9_fitNow_32 : decode cX9_fitNow 32 = .ok (.iadd, 1) := by decide +kernel
theorem dX9_fitNow_33 : decode cX9_fitNow 33 = .ok (.iaload, 1) := by decide +kernel
theorem dX9_fitNow_34 : decode cX9_fitNow 34 = .ok (.istore 5, 2) := by decide +kernel
theorem dX9_fitNow_36 : decode cX9_fitNow 36 = .ok (.iload_n 3, 1) := by decide +kernel
theorem dX9_fitNow_37 : decode cX9_fitNow 37 = .ok (.ifCond .eq 55, 3) := by decide +kernel
theorem dX9_fitNow_40 : decode cX9_fitNow 40 = .ok (.iload 5, 2) := by decide +kernel
theorem dX9_fitNow_42 : decode cX9_fitNow 42 = .ok (.aload_n 0, 1) := by decide +kernel
theorem dX9_fitNow_43 : decode cX9_fitNow 43 = .ok (.invokevirtual 95, 3) := by decide +kernel
theorem dX9_fitNow_46 : decode cX9_fitNow 46 = .ok (.if_icmp .ge 42, 3) := by decide +kernel
theorem dX9_fitNow_49 : decode cX9_fitNow 49 = .ok (.aload_n 0, 1) := by decide +kernel
theorem dX9_fitNow_50 : decode cX9_fitNow 50 = .ok (.iload_n 2, 1) := by decide +kernel
theorem dX9_fitNow_51 : decode cX9_fitNow 51 = .ok (.aload_n 0, 1) := by decide +kernel
theorem dX9_fitNow_52 : decode cX9_fitNow 52 = .ok (.getfield 44, 3) := by decide +kernel
theorem dX9_fitNow_55 : decode cX9_fitNow 55 = .ok (.iconst 3, 1) := by decide +kernel
theorem dX9_fitNow_56 : decode cX9_fitNow 56 = .ok (.iload 4, 2) := by decide +kernel
theorem dX9_fitNow_58 : decode cX9_fitNow 58 = .ok (.imul, 1) := by decide +kernel
theorem dX9_fitNow_59 : decode cX9_fitNow 59 = .ok (.iaload, 1) := by decide +kernel
theorem dX9_fitNow_60 : decode cX9_fitNow 60 = .ok (.iload 5, 2) := by decide +kernel
theorem dX9_fitNow_62 : decode cX9_fitNow 62 = .ok (.invokevirtual 135, 3) := by decide +kernel
theorem dX9_fitNow_65 : decode cX9_fitNow 65 = .ok (.aload_n 0, 1) := by decide +kernel
theorem dX9_fitNow_66 : decode cX9_fitNow 66 = .ok (.getfield 44, 3) := by decide +kernel
theorem dX9_fitNow_69 : decode cX9_fitNow 69 = .ok (.iconst 3, 1) := by decide +kernel
theorem dX9_fitNow_70 : decode cX9_fitNow 70 = .ok (.iload 4, 2) := by decide +kernel
theorem dX9_fitNow_72 : decode cX9_fitNow 72 = .ok (.imul, 1) := by decide +kernel
theorem dX9_fitNow_73 : decode cX9_fitNow 73 = .ok (.iconst 2, 1) := by decide +kernel
theorem dX9_fitNow_74 : decode cX9_fitNow 74 = .ok (.iadd, 1) := by decide +kernel
theorem dX9_fitNow_75 : decode cX9_fitNow 75 = .ok (.iaload, 1) := by decide +kernel
theorem dX9_fitNow_76 : decode cX9_fitNow 76 = .ok (.iconst 1, 1) := by decide +kernel
theorem dX9_fitNow_77 : decode cX9_fitNow 77 = .ok (.if_icmp .ne 7, 3) := by decide +kernel
theorem dX9_fitNow_80 : decode cX9_fitNow 80 = .ok (.iconst 1, 1) := by decide +kernel
theorem dX9_fitNow_81 : decode cX9_fitNow 81 = .ok (.goto 4, 3) := by decide +kernel
theorem dX9_fitNow_84 : decode cX9_fitNow 84 = .ok (.iconst 0, 1) := by decide +kernel
theorem dX9_fitNow_85 : decode cX9_fitNow 85 = .ok (.if_icmp .ne 7, 3) := by decide +kernel
theorem dX9_fitNow_88 : decode cX9_fitNow 88 = .ok (.iconst 1, 1) := by decide +kernel
theorem dX9_fitNow_89 : decode cX9_fitNow 89 = .ok (.goto 4, 3) := by decide +kernel
theorem dX9_fitNow_92 : decode cX9_fitNow 92 = .ok (.iconst 0, 1) := by decide +kernel
theorem dX9_fitNow_93 : decode cX9_fitNow 93 = .ok (.istore_n 3, 1) := by decide +kernel
theorem dX9_fitNow_94 : decode cX9_fitNow 94 = .ok (.iinc 4 1, 3) := by decide +kernel
theorem dX9_fitNow_97 : decode cX9_fitNow 97 = .ok (.goto (-83), 3) := by decide +kernel
theorem dX9_fitNow_100 : decode cX9_fitNow 100 = .ok (.iload_n 1, 1) := by decide +kernel
theorem dX9_fitNow_101 : decode cX9_fitNow 101 = .ok (.iload_n 3, 1) := by decide +kernel
theorem dX9_fitNow_102 : decode cX9_fitNow 102 = .ok (.ifCond .eq 9, 3) := by decide +kernel
theorem dX9_fitNow_105 : decode cX9_fitNow 105 = .ok (.iconst 1, 1) := by decide +kernel
theorem dX9_fitNow_106 : decode cX9_fitNow 106 = .ok (.iload_n 2, 1) := by decide +kernel
theorem dX9_fitNow_107 : decode cX9_fitNow 107 = .ok (.ishl, 1) := by decide +kernel
theorem dX9_fitNow_108 : decode cX9_fitNow 108 = .ok (.goto 4, 3) := by decide +kernel
theorem dX9_fitNow_111 : decode cX9_fitNow 111 = .ok (.iconst 0, 1) := by decide +kernel
theorem dX9_fitNow_112 : decode cX9_fitNow 112 = .ok (.ior, 1) := by decide +kernel
theorem dX9_fitNow_113 : decode cX9_fitNow 113 = .ok (.istore_n 1, 1) := by decide +kernel
theorem dX9_fitNow_114 : decode cX9_fitNow 114 = .ok (.iinc 2 1, 3) := by decide +kernel
theorem dX9_fitNow_117 : decode cX9_fitNow 117 = .ok (.goto (-113), 3) := by decide +kernel
theorem dX9_fitNow_120 : decode cX9_fitNow 120 = .ok (.iload_n 1, 1) := by decide +kernel
theorem dX9_fitNow_121 : decode cX9_fitNow 121 = .ok (.ireturn, 1) := by decide +kernel
theorem dX9_fit_0 : decode cX9_fit 0 = .ok (.aload_n 0, 1) := by decide +kernel
theorem dX9_fit_1 : decode cX9_fit 1 = .ok (.invokevirtual 245, 3) := by decide +kernel
theorem dX9_fit_4 : decode cX9_fit 4 = .ok (.ireturn, 1) := by decide +kernel
theorem dX9_write_0 : decode cX9_write 0 = .ok (.iload_n 1, 1) := by decide +kernel
theorem dX9_write_1 : decode cX9_write 1 = .ok (.invokestatic 105, 3) := by decide +kernel
theorem dX9_write_4 : decode cX9_write 4 = .ok (.ifCond .eq 10, 3) := by decide +kernel
theorem dX9_write_7 : decode cX9_write 7 = .ok (.iload_n 2, 1) := by decide +kernel
theorem dX9_write_8 : decode cX9_write 8 = .ok (.invokestatic 59, 3) := by decide +kernel
theorem dX9_write_11 : decode cX9_write 11 = .ok (.ifCond .ne 6, 3) := by decide +kernel
theorem dX9_write_14 : decode cX9_write 14 = .ok (.bipush (-2), 2) := by decide +kernel
theorem dX9_write_16 : decode cX9_write 16 = .ok (.ireturn, 1) := by decide +kernel
theorem dX9_write_17 : decode cX9_write 17 = .ok (.aload_n 0, 1) := by decide +kernel
theorem dX9_write_18 : decode cX9_write 18 = .ok (.getfield 7, 3) := by decide +kernel
theorem dX9_write_21 : decode cX9_write 21 = .ok (.iload_n 2, 1) := by decide +kernel
theorem dX9_write_22 : decode cX9_write 22 = .ok (.iaload, 1) := by decide +kernel
theorem dX9_write_23 : decode cX9_write 23 = .ok (.ifCond .ge 9, 3) := by decide +kernel
theorem dX9_write_26 : decode cX9_write 26 = .ok (.aload_n 0, 1) := by decide +kernel
theorem dX9_write_27 : decode cX9_write 27 = .ok (.iconst 1, 1) := by decide +kernel
theorem dX9_write_28 : decode cX9_write 28 = .ok (.invokevirtual 65, 3) := by decide +kernel
theorem dX9_write_31 : decode cX9_write 31 = .ok (.ireturn, 1) := by decide +kernel
theorem dX9_write_32 : decode cX9_write 32 = .ok (.aload_n 0, 1) := by decide +kernel
theorem dX9_write_33 : decode cX9_write 33 = .ok (.getfield 13, 3) := by decide +kernel
theorem dX9_write_36 : decode cX9_write 36 = .ok (.iload_n 2, 1) := by decide +kernel
theorem dX9_write_37 : decode cX9_write 37 = .ok (.iaload, 1) := by decide +kernel
theorem dX9_write_38 : decode cX9_write 38 = .ok (.aload_n 0, 1) := by decide +kernel
theorem dX9_write_39 : decode cX9_write 39 = .ok (.invokevirtual 95, 3) := by decide +kernel
theorem dX9_write_42 : decode cX9_write 42 = .ok (.invokestatic 148, 3) := by decide +kernel
theorem dX9_write_45 : decode cX9_write 45 = .ok (.istore_n 3, 1) := by decide +kernel
theorem dX9_write_46 : decode cX9_write 46 = .ok (.iconst 0, 1) := by decide +kernel
theorem dX9_write_47 : decode cX9_write 47 = .ok (.istore 4, 2) := by decide +kernel
theorem dX9_write_49 : decode cX9_write 49 = .ok (.iload 4, 2) := by decide +kernel
theorem dX9_write_51 : decode cX9_write 51 = .ok (.iload_n 3, 1) := by decide +kernel
theorem dX9_write_52 : decode cX9_write 52 = .ok (.if_icmp .ge 37, 3) := by decide +kernel
theorem dX9_write_55 : decode cX9_write 55 = .ok (.aload_n 0, 1) := by decide +kernel
theorem dX9_write_56 : decode cX9_write 56 = .ok (.getfield 16, 3) := by decide +kernel
theorem dX9_write_59 : decode cX9_write 59 = .ok (.bipush 60, 2) := by decide +kernel
theorem dX9_write_61 : decode cX9_write 61 = .ok (.iload_n 2, 1) := by decide +kernel
theorem dX9_write_62 : decode cX9_write 62 = .ok (.imul, 1) := by decide +kernel
theorem dX9_write_63 : decode cX9_write 63 = .ok (.iload 4, 2) := by decide +kernel
theorem dX9_write_65 : decode cX9_write 65 = .ok (.iadd, 1) := by decide +kernel
theorem dX9_write_66 : decode cX9_write 66 = .ok (.aload_n 0, 1) := by decide +kernel
theorem dX9_write_67 : decode cX9_write 67 = .ok (.getfield 7, 3) := by decide +kernel
theorem dX9_write_70 : decode cX9_write 70 = .ok (.iload_n 2, 1) := by decide +kernel
theorem dX9_write_71 : decode cX9_write 71 = .ok (.iaload, 1) := by decide +kernel
theorem dX9_write_72 : decode cX9_write 72 = .ok (.aload_n 0, 1) := by decide +kernel
theorem dX9_write_73 : decode cX9_write 73 = .ok (.iload_n 1, 1) := by decide +kernel
theorem dX9_write_74 : decode cX9_write 74 = .ok (.iload 4, 2) := by decide +kernel
theorem dX9_write_76 : decode cX9_write 76 = .ok (.invokevirtual 159, 3) := by decide +kernel
theorem dX9_write_79 : decode cX9_write 79 = .ok (.invokestatic 73, 3) := by decide +kernel
theorem dX9_write_82 : decode cX9_write 82 = .ok (.iastore, 1) := by decide +kernel
theorem dX9_write_83 : decode cX9_write 83 = .ok (.iinc 4 1, 3) := by decide +kernel
theorem dX9_write_86 : decode cX9_write 86 = .ok (.goto (-37), 3) := by decide +kernel
theorem dX9_write_89 : decode cX9_write 89 = .ok (.iload_n 3, 1) := by decide +kernel
theorem dX9_write_90 : decode cX9_write 90 = .ok (.ireturn, 1) := by decide +kernel
theorem dX9_count_0 : decode cX9_count 0 = .ok (.iconst 0, 1) := by decide +kernel
theorem dX9_count_1 : decode cX9_count 1 = .ok (.istore_n 2, 1) := by decide +kernel
theorem dX9_count_2 : decode cX9_count 2 = .ok (.iload_n 1, 1) := by decide +kernel
theorem dX9_count_3 : decode cX9_count 3 = .ok (.tableswitch 112 0 8 #[49, 54, 54, 54, 62, 67, 94, 99, 107], 49) := by decide +kernel
theorem dX9_count_52 : decode cX9_count 52 = .ok (.aload_n 0, 1) := by decide +kernel
theorem dX9_count_53 : decode cX9_count 53 = .ok (.invokevirtual 95, 3) := by decide +kernel
theorem dX9_count_56 : decode cX9_count 56 = .ok (.ireturn, 1) := by decide +kernel
theorem dX9_count_57 : decode cX9_count 57 = .ok (.aload_n 0, 1) := by decide +kernel
theorem dX9_count_58 : decode cX9_count 58 = .ok (.iload_n 1, 1) := by decide +kernel
theorem dX9_count_59 : decode cX9_count 59 = .ok (.iconst 1, 1) := by decide +kernel
theorem dX9_count_60 : decode cX9_count 60 = .ok (.isub, 1) := by decide +kernel
theorem dX9_count_61 : decode cX9_count 61 = .ok (.invokevirtual 92, 3) := by decide +kernel
theorem dX9_count_64 : decode cX9_count 64 = .ok (.ireturn, 1) := by decide +kernel
theorem dX9_count_65 : decode cX9_count 65 = .ok (.aload_n 0, 1) := by decide +kernel
theorem dX9_count_66 : decode cX9_count 66 = .ok (.getfield 123, 3) := by decide +kernel
theorem dX9_count_69 : decode cX9_count 69 = .ok (.ireturn, 1) := by decide +kernel
theorem dX9_count_70 : decode cX9_count 70 = .ok (.iconst 0, 1) := by decide +kernel
theorem dX9_count_71 : decode cX9_count 71 = .ok (.istore_n 3, 1) := by decide +kernel
theorem dX9_count_72 : decode cX9_count 72 = .ok (.iload_n 3, 1) := by decide +kernel
theorem dX9_count_73 : decode cX9_count 73 = .ok (.bipush 8, 2) := by decide +kernel
theorem dX9_count_75 : decode cX9_count 75 = .ok (.if_icmp .ge 20, 3) := by decide +kernel
theorem dX9_count_78 : decode cX9_count 78 = .ok (.iload_n 2, 1) := by decide +kernel
theorem dX9_count_79 : decode cX9_count 79 = .ok (.aload_n 0, 1) := by decide +kernel
theorem dX9_count_80 : decode cX9_count 80 = .ok (.getfield 41, 3) := by decide +kernel
theorem dX9_count_83 : decode cX9_count 83 = .ok (.iconst 4, 1) := by decide +kernel
theorem dX9_count_84 : decode cX9_count 84 = .ok (.iload_n 3, 1) := by decide +kernel
theorem dX9_count_85 : decode cX9_count 85 = .ok (.imul, 1) := by decide +kernel
theorem dX9_count_86 : decode cX9_count 86 = .ok (.iaload, 1) := by decide +kernel
theorem dX9_count_87 : decode cX9_count 87 = .ok (.iadd, 1) := by decide +kernel
theorem dX9_count_88 : decode cX9_count 88 = .ok (.istore_n 2, 1) := by decide +kernel
theorem dX9_count_89 : decode cX9_count 89 = .ok (.iinc 3 1, 3) := by decide +kernel
theorem dX9_count_92 : decode cX9_count 92 = .ok (.goto (-20), 3) := by decide +kernel
theorem dX9_count_95 : decode cX9_count 95 = .ok (.iload_n 2, 1) := by decide +kernel
theorem dX9_count_96 : decode cX9_count 96 = .ok (.ireturn, 1) := by decide +kernel
theorem dX9_count_97 : decode cX9_count 97 = .ok (.aload_n 0, 1) := by decide +kernel
theorem dX9_count_98 : decode cX9_count 98 = .ok (.getfield 242, 3) := by decide +kernel
theorem dX9_count_101 : decode cX9_count 101 = .ok (.ireturn, 1) := by decide +kernel
theorem dX9_count_102 : decode cX9_count 102 = .ok (.aload_n 0, 1) := by decide +kernel
theorem dX9_count_103 : decode cX9_count 103 = .ok (.bipush 7, 2) := by decide +kernel
theorem dX9_count_105 : decode cX9_count 105 = .ok (.invokevirtual 166, 3) := by decide +kernel
theorem dX9_count_108 : decode cX9_count 108 = .ok (.l2i, 1) := by decide +kernel
theorem dX9_count_109 : decode cX9_count 109 = .ok (.ireturn, 1) := by decide +kernel
theorem dX9_count_110 : decode cX9_count 110 = .ok (.aload_n 0, 1) := by decide +kernel
theorem dX9_count_111 : decode cX9_count 111 = .ok (.getfield 53, 3) := by decide +kernel
theorem dX9_count_114 : decode cX9_count 114 = .ok (.ireturn, 1) := by decide +kernel
theorem dX9_count_115 : decode cX9_count 115 = .ok (.bipush (-2), 2) := by decide +kernel
theorem dX9_count_117 : decode cX9_count 117 = .ok (.ireturn, 1) := by decide +kernel
theorem dX9_digest_0 : decode cX9_digest 0 = .ok (.ldc2_w 248, 3) := by decide +kernel
theorem dX9_digest_3 : decode cX9_digest 3 = .ok (.lstore_n 1, 1) := by decide +kernel
theorem dX9_digest_4 : decode cX9_digest 4 = .ok (.iconst 0, 1) := by decide +kernel
theorem dX9_digest_5 : decode cX9_digest 5 = .ok (.istore_n 3, 1) := by decide +kernel
theorem dX9_digest_6 : decode cX9_digest 6 = .ok (.iload_n 3, 1) := by decide +kernel
theorem dX9_digest_7 : decode cX9_digest 7 = .ok (.bipush 8, 2) := by decide +kernel
theorem dX9_digest_9 : decode cX9_digest 9 = .ok (.if_icmp .ge 22, 3) := by decide +kernel
theorem dX9_digest_12 : decode cX9_digest 12 = .ok (.ldc2_w 250, 3) := by decide +kernel
theorem dX9_digest_15 : decode cX9_digest 15 = .ok (.lload_n 1, 1) := by decide +kernel
theorem dX9_digest_16 : decode cX9_digest 16 = .ok (.lmul, 1) := by decide +kernel
theorem dX9_digest_17 : decode cX9_digest 17 = .ok (.aload_n 0, 1) := by decide +kernel
theorem dX9_digest_18 : decode cX9_digest 18 = .ok (.iload_n 3, 1) := by decide +kernel
theorem dX9_digest_19 : decode cX9_digest 19 = .ok (.invokevirtual 252, 3) := by decide +kernel
theorem dX9_digest_22 : decode cX9_digest 22 = .ok (.i2l, 1) := by decide +kernel
theorem dX9_digest_23 : decode cX9_digest 23 = .ok (.ladd, 1) := by decide +kernel
theorem dX9_digest_24 : decode cX9_digest 24 = .ok (.lstore_n 1, 1) := by decide +kernel
theorem dX9_digest_25 : decode cX9_digest 25 = .ok (.iinc 3 1, 3) := by decide +kernel
theorem dX9_digest_28 : decode cX9_digest 28 = .ok (.goto (-22), 3) := by decide +kernel
theorem dX9_digest_31 : decode cX9_digest 31 = .ok (.iconst 0, 1) := by decide +kernel
theorem dX9_digest_32 : decode cX9_digest 32 = .ok (.istore_n 3, 1) := by decide +kernel
theorem dX9_digest_33 : decode cX9_digest 33 = .ok (.iload_n 3, 1) := by decide +kernel
theorem dX9_digest_34 : decode cX9_digest 34 = .ok (.iconst 4, 1) := by decide +kernel
theorem dX9_digest_35 : decode cX9_digest 35 = .ok (.if_icmp .ge 22, 3) := by decide +kernel
theorem dX9_digest_38 : decode cX9_digest 38 = .ok (.ldc2_w 250, 3) := by decide +kernel
theorem dX9_digest_41 : decode cX9_digest 41 = .ok (.lload_n 1, 1) := by decide +kernel
theorem dX9_digest_42 : decode cX9_digest 42 = .ok (.lmul, 1) := by decide +kernel
theorem dX9_digest_43 : decode cX9_digest 43 = .ok (.aload_n 0, 1) := by decide +kernel
theorem dX9_digest_44 : decode cX9_digest 44 = .ok (.iload_n 3, 1) := by decide +kernel
theorem dX9_digest_45 : decode cX9_digest 45 = .ok (.invokevirtual 89, 3) := by decide +kernel
theorem dX9_digest_48 : decode cX9_digest 48 = .ok (.i2l, 1) := by decide +kernel
theorem dX9_digest_49 : decode cX9_digest 49 = .ok (.ladd, 1) := by decide +kernel
theorem dX9_digest_50 : decode cX9_digest 50 = .ok (.lstore_n 1, 1) := by decide +kernel
theorem dX9_digest_51 : decode cX9_digest 51 = .ok (.iinc 3 1, 3) := by decide +kernel
theorem dX9_digest_54 : decode cX9_digest 54 = .ok (.goto (-21), 3) := by decide +kernel
theorem dX9_digest_57 : decode cX9_digest 57 = .ok (.iconst 0, 1) := by decide +kernel
theorem dX9_digest_58 : decode cX9_digest 58 = .ok (.istore_n 3, 1) := by decide +kernel
theorem dX9_digest_59 : decode cX9_digest 59 = .ok (.iload_n 3, 1) := by decide +kernel
theorem dX9_digest_60 : decode cX9_digest 60 = .ok (.aload_n 0, 1) := by decide +kernel
theorem dX9_digest_61 : decode cX9_digest 61 = .ok (.invokevirtual 95, 3) := by decide +kernel
theorem dX9_digest_64 : decode cX9_digest 64 = .ok (.if_icmp .ge 22, 3) := by decide +kernel
theorem dX9_digest_67 : decode cX9_digest 67 = .ok (.ldc2_w 250, 3) := by decide +kernel
theorem dX9_digest_70 : decode cX9_digest 70 = .ok (.lload_n 1, 1) := by decide +kernel
theorem dX9_digest_71 : decode cX9_digest 71 = .ok (.lmul, 1) := by decide +kernel
theorem dX9_digest_72 : decode cX9_digest 72 = .ok (.aload_n 0, 1) := by decide +kernel
theorem dX9_digest_73 : decode cX9_digest 73 = .ok (.iload_n 3, 1) := by decide +kernel
theorem dX9_digest_74 : decode cX9_digest 74 = .ok (.invokevirtual 102, 3) := by decide +kernel
theorem dX9_digest_77 : decode cX9_digest 77 = .ok (.i2l, 1) := by decide +kernel
theorem dX9_digest_78 : decode cX9_digest 78 = .ok (.ladd, 1) := by decide +kernel
theorem dX9_digest_79 : decode cX9_digest 79 = .ok (.lstore_n 1, 1) := by decide +kernel
theorem dX9_digest_80 : decode cX9_digest 80 = .ok (.iinc 3 1, 3) := by decide +kernel
theorem dX9_digest_83 : decode cX9_digest 83 = .ok (.goto (-24), 3) := by decide +kernel
theorem dX9_digest_86 : decode cX9_digest 86 = .ok (.iconst 0, 1) := by decide +kernel
theorem dX9_digest_87 : decode cX9_digest 87 = .ok (.istore_n 3, 1) := by decide +kernel
theorem dX9_digest_88 : decode cX9_digest 88 = .ok (.iload_n 3, 1) := by decide +kernel
theorem dX9_digest_89 : decode cX9_digest 89 = .ok (.iconst 3, 1) := by decide +kernel
theorem dX9_digest_90 : decode cX9_digest 90 = .ok (.if_icmp .ge 212, 3) := by decide +kernel
theorem dX9_digest_93 : decode cX9_digest 93 = .ok (.ldc2_w 250, 3) := by decide +kernel
theorem dX9_digest_96 : decode cX9_digest 96 = .ok (.lload_n 1, 1) := by decide +kernel
theorem dX9_digest_97 : decode cX9_digest 97 = .ok (.lmul, 1) := by decide +kernel
theorem dX9_digest_98 : decode cX9_digest 98 = .ok (.aload_n 0, 1) := by decide +kernel
theorem dX9_digest_99 : decode cX9_digest 99 = .ok (.iload_n 3, 1) := by decide +kernel
theorem dX9_digest_100 : decode cX9_digest 100 = .ok (.invokevirtual 128, 3) := by decide +kernel
theorem dX9_digest_103 : decode cX9_digest 103 = .ok (.i2l, 1) := by decide +kernel
theorem dX9_digest_104 : decode cX9_digest 104 = .ok (.ladd, 1) := by decide +kernel
theorem dX9_digest_105 : decode cX9_digest 105 = .ok (.lstore_n 1, 1) := by decide +kernel
theorem dX9_digest_106 : decode cX9_digest 106 = .ok (.iconst 0, 1) := by decide +kernel
theorem dX9_digest_107 : decode cX9_digest 107 = .ok (.istore 4, 2) := by decide +kernel
theorem dX9_digest_109 : decode cX9_digest 109 = .ok (.iload 4, 2) := by decide +kernel
theorem dX9_digest_111 : decode cX9_digest 111 = .ok (.iconst 2, 1) := by decide +kernel
theorem dX9_digest_112 : decode cX9_digest 112 = .ok (.if_icmp .ge 25, 3) := by decide +kernel
theorem dX9_digest_115 : decode cX9_digest 115 = .ok (.ldc2_w 250, 3) := by decide +kernel
theorem dX9_digest_118 : decode cX9_digest 118 = .ok (.lload_n 1, 1) := by decide +kernel
theorem dX9_digest_119 : decode cX9_digest 119 = .ok (.lmul, 1) := by decide +kernel
theorem dX9_digest_120 : decode cX9_digest 120 = .ok (.aload_n 0, 1) := by decide +kernel
theorem dX9_digest_121 : decode cX9_digest 121 = .ok (.iload_n 3, 1) := by decide +kernel
theorem dX9_digest_122 : decode cX9_digest 122 = .ok (.iconst 5, 1) := by decide +kernel
theorem dX9_digest_123 : decode cX9_digest 123 = .ok (.iload 4, 2) := by decide +kernel
theorem dX9_digest_125 : decode cX9_digest 125 = .ok (.invokevirtual 145, 3) := by decide +kernel
theorem dX9_digest_128 : decode cX9_digest 128 = .ok (.i2l, 1) := by decide +kernel
theorem dX9_digest_129 : decode cX9_digest 129 = .ok (.ladd, 1) := by decide +kernel
theorem dX9_digest_130 : decode cX9_digest 130 = .ok (.lstore_n 1, 1) := by decide +kernel
theorem dX9_digest_131 : decode cX9_digest 131 = .ok (.iinc 4 1, 3) := by decide +kernel
theorem dX9_digest_134 : decode cX9_digest 134 = .ok (.goto (-25), 3) := by decide +kernel
theorem dX9_digest_137 : decode cX9_digest 137 = .ok (.iconst 0, 1) := by decide +kernel
theorem dX9_digest_138 : decode cX9_digest 138 = .ok (.istore 4, 2) := by decide +kernel
theorem dX9_digest_140 : decode cX9_digest 140 = .ok (.iload 4, 2) := by decide +kernel
theorem dX9_digest_142 : decode cX9_digest 142 = .ok (.iconst 3, 1) := by decide +kernel
theorem dX9_digest_143 : decode cX9_digest 143 = .ok (.if_icmp .ge 27, 3) := by decide +kernel
theorem dX9_digest_146 : decode cX9_digest 146 = .ok (.ldc2_w 250, 3) := by decide +kernel
theorem dX9_digest_149 : decode cX9_digest 149 = .ok (.lload_n 1, 1) := by decide +kernel
theorem dX9_digest_150 : decode cX9_digest 150 = .ok (.lmul, 1) := by decide +kernel
theorem dX9_digest_151 : decode cX9_digest 151 = .ok (.aload_n 0, 1) := by decide +kernel
theorem dX9_digest_152 : decode cX9_digest 152 = .ok (.iload_n 3, 1) := by decide +kernel
theorem dX9_digest_153 : decode cX9_digest 153 = .ok (.iconst 5, 1) := by decide +kernel
theorem dX9_digest_154 : decode cX9_digest 154 = .ok (.iconst 0, 1) := by decide +kernel
theorem dX9_digest_155 : decode cX9_digest 155 = .ok (.iconst 3, 1) := by decide +kernel
theorem dX9_digest_156 : decode cX9_digest 156 = .ok (.iload 4, 2) := by decide +kernel
theorem dX9_digest_158 : decode cX9_digest 158 = .ok (.invokevirtual 255, 3) := by decide +kernel
theorem dX9_digest_161 : decode cX9_digest 161 = .ok (.i2l, 1) := by decide +kernel
theorem dX9_digest_162 : decode cX9_digest 162 = .ok (.ladd, 1) := by decide +kernel
theorem dX9_digest_163 : decode cX9_digest 163 = .ok (.lstore_n 1, 1) := by decide +kernel
theorem dX9_digest_164 : decode cX9_digest 164 = .ok (.iinc 4 1, 3) := by decide +kernel
theorem dX9_digest_167 : decode cX9_digest 167 = .ok (.goto (-27), 3) := by decide +kernel
theorem dX9_digest_170 : decode cX9_digest 170 = .ok (.iconst 0, 1) := by decide +kernel
theorem dX9_digest_171 : decode cX9_digest 171 = .ok (.istore 4, 2) := by decide +kernel
theorem dX9_digest_173 : decode cX9_digest 173 = .ok (.iload 4, 2) := by decide +kernel
theorem dX9_digest_175 : decode cX9_digest 175 = .ok (.iconst 3, 1) := by decide +kernel
theorem dX9_digest_176 : decode cX9_digest 176 = .ok (.if_icmp .ge 24, 3) := by decide +kernel
theorem dX9_digest_179 : decode cX9_digest 179 = .ok (.ldc2_w 250, 3) := by decide +kernel
theorem dX9_digest_182 : decode cX9_digest 182 = .ok (.lload_n 1, 1) := by decide +kernel
theorem dX9_digest_183 : decode cX9_digest 183 = .ok (.lmul, 1) := by decide +kernel
theorem dX9_digest_184 : decode cX9_digest 184 = .ok (.aload_n 0, 1) := by decide +kernel
theorem dX9_digest_185 : decode cX9_digest 185 = .ok (.iload_n 3, 1) := by decide +kernel
theorem dX9_digest_186 : decode cX9_digest 186 = .ok (.iload 4, 2) := by decide +kernel
theorem dX9_digest_188 : decode cX9_digest 188 = .ok (.invokevirtual 162, 3) := by decide +kernel
theorem dX9_digest_191 : decode cX9_digest 191 = .ok (.i2l, 1) := by decide +kernel
theorem dX9_digest_192 : decode cX9_digest 192 = .ok (.ladd, 1) := by decide +kernel
theorem dX9_digest_193 : decode cX9_digest 193 = .ok (.lstore_n 1, 1) := by decide +kernel
theorem dX9_digest_194 : decode cX9_digest 194 = .ok (.iinc 4 1, 3) := by decide +kernel
theorem dX9_digest_197 : decode cX9_digest 197 = .ok (.goto (-24), 3) := by decide +kernel
theorem dX9_digest_200 : decode cX9_digest 200 = .ok (.iconst 0, 1) := by decide +kernel
theorem dX9_digest_201 : decode cX9_digest 201 = .ok (.istore 4, 2) := by decide +kernel
theorem dX9_digest_203 : decode cX9_digest 203 = .ok (.iload 4, 2) := by decide +kernel
theorem dX9_digest_205 : decode cX9_digest 205 = .ok (.iconst 2, 1) := by decide +kernel
theorem dX9_digest_206 : decode cX9_digest 206 = .ok (.if_icmp .ge 26, 3) := by decide +kernel
theorem dX9_digest_209 : decode cX9_digest 209 = .ok (.ldc2_w 250, 3) := by decide +kernel
theorem dX9_digest_212 : decode cX9_digest 212 = .ok (.lload_n 1, 1) := by decide +kernel
theorem dX9_digest_213 : decode cX9_digest 213 = .ok (.lmul, 1) := by decide +kernel
theorem dX9_digest_214 : decode cX9_digest 214 = .ok (.aload_n 0, 1) := by decide +kernel
theorem dX9_digest_215 : decode cX9_digest 215 = .ok (.iload_n 3, 1) := by decide +kernel
theorem dX9_digest_216 : decode cX9_digest 216 = .ok (.iconst 4, 1) := by decide +kernel
theorem dX9_digest_217 : decode cX9_digest 217 = .ok (.iconst 0, 1) := by decide +kernel
theorem dX9_digest_218 : decode cX9_digest 218 = .ok (.iconst 2, 1) := by decide +kernel
theorem dX9_digest_219 : decode cX9_digest 219 = .ok (.iload 4, 2) := by decide +kernel
theorem dX9_digest_221 : decode cX9_digest 221 = .ok (.invokevirtual 258, 3) := by decide +kernel
theorem dX9_digest_224 : decode cX9_digest 224 = .ok (.ladd, 1) := by decide +kernel
theorem dX9_digest_225 : decode cX9_digest 225 = .ok (.lstore_n 1, 1) := by decide +kernel
theorem dX9_digest_226 : decode cX9_digest 226 = .ok (.iinc 4 1, 3) := by decide +kernel
theorem dX9_digest_229 : decode cX9_digest 229 = .ok (.goto (-26), 3) := by decide +kernel
theorem dX9_digest_232 : decode cX9_digest 232 = .ok (.ldc2_w 250, 3) := by decide +kernel
theorem dX9_digest_235 : decode cX9_digest 235 = .ok (.lload_n 1, 1) := by decide +kernel
theorem dX9_digest_236 : decode cX9_digest 236 = .ok (.lmul, 1) := by decide +kernel
theorem dX9_digest_237 : decode cX9_digest 237 = .ok (.aload_n 0, 1) := by decide +kernel
theorem dX9_digest_238 : decode cX9_digest 238 = .ok (.iload_n 3, 1) := by decide +kernel
theorem dX9_digest_239 : decode cX9_digest 239 = .ok (.iconst 4, 1) := by decide +kernel
theorem dX9_digest_240 : decode cX9_digest 240 = .ok (.iconst 0, 1) := by decide +kernel
theorem dX9_digest_241 : decode cX9_digest 241 = .ok (.iconst 2, 1) := by decide +kernel
theorem dX9_digest_242 : decode cX9_digest 242 = .ok (.invokevirtual 261, 3) := by decide +kernel
theorem dX9_digest_245 : decode cX9_digest 245 = .ok (.i2l, 1) := by decide +kernel
theorem dX9_digest_246 : decode cX9_digest 246 = .ok (.ladd, 1) := by decide +kernel
theorem dX9_digest_247 : decode cX9_digest 247 = .ok (.lstore_n 1, 1) := by decide +kernel
theorem dX9_digest_248 : decode cX9_digest 248 = .ok (.iconst 0, 1) := by decide +kernel
theorem dX9_digest_249 : decode cX9_digest 249 = .ok (.istore 4, 2) := by decide +kernel
theorem dX9_digest_251 : decode cX9_digest 251 = .ok (.iload 4, 2) := by decide +kernel
theorem dX9_digest_253 : decode cX9_digest 253 = .ok (.iconst 3, 1) := by decide +kernel
theorem dX9_digest_254 : decode cX9_digest 254 = .ok (.if_icmp .ge 28, 3) := by decide +kernel
theorem dX9_digest_257 : decode cX9_digest 257 = .ok (.ldc2_w 250, 3) := by decide +kernel
theorem dX9_digest_260 : decode cX9_digest 260 = .ok (.lload_n 1, 1) := by decide +kernel
theorem dX9_digest_261 : decode cX9_digest 261 = .ok (.lmul, 1) := by decide +kernel
theorem dX9_digest_262 : decode cX9_digest 262 = .ok (.aload_n 0, 1) := by decide +kernel
theorem dX9_digest_263 : decode cX9_digest 263 = .ok (.iload_n 3, 1) := by decide +kernel
theorem dX9_digest_264 : decode cX9_digest 264 = .ok (.iconst 5, 1) := by decide +kernel
theorem dX9_digest_265 : decode cX9_digest 265 = .ok (.iconst 0, 1) := by decide +kernel
theorem dX9_digest_266 : decode cX9_digest 266 = .ok (.iconst 4, 1) := by decide +kernel
theorem dX9_digest_267 : decode cX9_digest 267 = .ok (.iconst 2, 1) := by decide +kernel
theorem dX9_digest_268 : decode cX9_digest 268 = .ok (.iload 4, 2) := by decide +kernel
theorem dX9_digest_270 : decode cX9_digest 270 = .ok (.invokevirtual 264, 3) := by decide +kernel
theorem dX9_digest_273 : decode cX9_digest 273 = .ok (.i2l, 1) := by decide +kernel
theorem dX9_digest_274 : decode cX9_digest 274 = .ok (.ladd, 1) := by decide +kernel
theorem dX9_digest_275 : decode cX9_digest 275 = .ok (.lstore_n 1, 1) := by decide +kernel
theorem dX9_digest_276 : decode cX9_digest 276 = .ok (.iinc 4 1, 3) := by decide +kernel
theorem dX9_digest_279 : decode cX9_digest 279 = .ok (.goto (-28), 3) := by decide +kernel
theorem dX9_digest_282 : decode cX9_digest 282 = .ok (.ldc2_w 250, 3) := by decide +kernel
theorem dX9_digest_285 : decode cX9_digest 285 = .ok (.lload_n 1, 1) := by decide +kernel
theorem dX9_digest_286 : decode cX9_digest 286 = .ok (.lmul, 1) := by decide +kernel
theorem dX9_digest_287 : decode cX9_digest 287 = .ok (.aload_n 0, 1) := by decide +kernel
theorem dX9_digest_288 : decode cX9_digest 288 = .ok (.iload_n 3, 1) := by decide +kernel
theorem dX9_digest_289 : decode cX9_digest 289 = .ok (.iconst 0, 1) := by decide +kernel
theorem dX9_digest_290 : decode cX9_digest 290 = .ok (.invokevirtual 267, 3) := by decide +kernel
theorem dX9_digest_293 : decode cX9_digest 293 = .ok (.i2l, 1) := by decide +kernel
theorem dX9_digest_294 : decode cX9_digest 294 = .ok (.ladd, 1) := by decide +kernel
theorem dX9_digest_295 : decode cX9_digest 295 = .ok (.lstore_n 1, 1) := by decide +kernel
theorem dX9_digest_296 : decode cX9_digest 296 = .ok (.iinc 3 1, 3) := by decide +kernel
theorem dX9_digest_299 : decode cX9_digest 299 = .ok (.goto (-211), 3) := by decide +kernel
theorem dX9_digest_302 : decode cX9_digest 302 = .ok (.iconst 0, 1) := by decide +kernel
theorem dX9_digest_303 : decode cX9_digest 303 = .ok (.istore_n 3, 1) := by decide +kernel
theorem dX9_digest_304 : decode cX9_digest 304 = .ok (.iload_n 3, 1) := by decide +kernel
theorem dX9_digest_305 : decode cX9_digest 305 = .ok (.iconst 2, 1) := by decide +kernel
theorem dX9_digest_306 : decode cX9_digest 306 = .ok (.if_icmp .ge 22, 3) := by decide +kernel
theorem dX9_digest_309 : decode cX9_digest 309 = .ok (.ldc2_w 250, 3) := by decide +kernel
theorem dX9_digest_312 : decode cX9_digest 312 = .ok (.lload_n 1, 1) := by decide +kernel
theorem dX9_digest_313 : decode cX9_digest 313 = .ok (.lmul, 1) := by decide +kernel
theorem dX9_digest_314 : decode cX9_digest 314 = .ok (.aload_n 0, 1) := by decide +kernel
theorem dX9_digest_315 : decode cX9_digest 315 = .ok (.iload_n 3, 1) := by decide +kernel
theorem dX9_digest_316 : decode cX9_digest 316 = .ok (.invokevirtual 230, 3) := by decide +kernel
theorem dX9_digest_319 : decode cX9_digest 319 = .ok (.i2l, 1) := by decide +kernel
theorem dX9_digest_320 : decode cX9_digest 320 = .ok (.ladd, 1) := by decide +kernel
theorem dX9_digest_321 : decode cX9_digest 321 = .ok (.lstore_n 1, 1) := by decide +kernel
theorem dX9_digest_322 : decode cX9_digest 322 = .ok (.iinc 3 1, 3) := by decide +kernel
theorem dX9_digest_325 : decode cX9_digest 325 = .ok (.goto (-21), 3) := by decide +kernel
theorem dX9_digest_328 : decode cX9_digest 328 = .ok (.iconst 0, 1) := by decide +kernel
theorem dX9_digest_329 : decode cX9_digest 329 = .ok (.istore_n 3, 1) := by decide +kernel
theorem dX9_digest_330 : decode cX9_digest 330 = .ok (.iload_n 3, 1) := by decide +kernel
theorem dX9_digest_331 : decode cX9_digest 331 = .ok (.iconst 2, 1) := by decide +kernel
theorem dX9_digest_332 : decode cX9_digest 332 = .ok (.if_icmp .ge 21, 3) := by decide +kernel
theorem dX9_digest_335 : decode cX9_digest 335 = .ok (.ldc2_w 250, 3) := by decide +kernel
theorem dX9_digest_338 : decode cX9_digest 338 = .ok (.lload_n 1, 1) := by decide +kernel
theorem dX9_digest_339 : decode cX9_digest 339 = .ok (.lmul, 1) := by decide +kernel
theorem dX9_digest_340 : decode cX9_digest 340 = .ok (.aload_n 0, 1) := by decide +kernel
theorem dX9_digest_341 : decode cX9_digest 341 = .ok (.iload_n 3, 1) := by decide +kernel
theorem dX9_digest_342 : decode cX9_digest 342 = .ok (.invokevirtual 233, 3) := by decide +kernel
theorem dX9_digest_345 : decode cX9_digest 345 = .ok (.ladd, 1) := by decide +kernel
theorem dX9_digest_346 : decode cX9_digest 346 = .ok (.lstore_n 1, 1) := by decide +kernel
theorem dX9_digest_347 : decode cX9_digest 347 = .ok (.iinc 3 1, 3) := by decide +kernel
theorem dX9_digest_350 : decode cX9_digest 350 = .ok (.goto (-20), 3) := by decide +kernel
theorem dX9_digest_353 : decode cX9_digest 353 = .ok (.ldc2_w 250, 3) := by decide +kernel
theorem dX9_digest_356 : decode cX9_digest 356 = .ok (.lload_n 1, 1) := by decide +kernel
theorem dX9_digest_357 : decode cX9_digest 357 = .ok (.lmul, 1) := by decide +kernel
theorem dX9_digest_358 : decode cX9_digest 358 = .ok (.aload_n 0, 1) := by decide +kernel
theorem dX9_digest_359 : decode cX9_digest 359 = .ok (.invokevirtual 239, 3) := by decide +kernel
theorem dX9_digest_362 : decode cX9_digest 362 = .ok (.i2l, 1) := by decide +kernel
theorem dX9_digest_363 : decode cX9_digest 363 = .ok (.ladd, 1) := by decide +kernel
theorem dX9_digest_364 : decode cX9_digest 364 = .ok (.lstore_n 1, 1) := by decide +kernel
theorem dX9_digest_365 : decode cX9_digest 365 = .ok (.ldc2_w 250, 3) := by decide +kernel
theorem dX9_digest_368 : decode cX9_digest 368 = .ok (.lload_n 1, 1) := by decide +kernel
theorem dX9_digest_369 : decode cX9_digest 369 = .ok (.lmul, 1) := by decide +kernel
theorem dX9_digest_370 : decode cX9_digest 370 = .ok (.aload_n 0, 1) := by decide +kernel
theorem dX9_digest_371 : decode cX9_digest 371 = .ok (.invokevirtual 245, 3) := by decide +kernel
theorem dX9_digest_374 : decode cX9_digest 374 = .ok (.i2l, 1) := by decide +kernel
theorem dX9_digest_375 : decode cX9_digest 375 = .ok (.ladd, 1) := by decide +kernel
theorem dX9_digest_376 : decode cX9_digest 376 = .ok (.lreturn, 1) := by decide +kernel
end
section
set_option maxRecDepth 20000 in
theorem dL_law_0 : decode cL_law 0 = .ok (.new 7, 3) := by decide +kernel
set_option maxRecDepth 20000 in
theorem dL_law_3 : decode cL_law 3 = .ok (.dup, 1) := by decide +kernel
set_option maxRecDepth 20000 in
theorem dL_law_4 : decode cL_law 4 = .ok (.invokespecial 9, 3) := by decide +kernel
set_option maxRecDepth 20000 in
theorem dL_law_7 : decode cL_law 7 = .ok (.astore_n 1, 1) := by decide +kernel
set_option maxRecDepth 20000 in
theorem dL_law_8 : decode cL_law 8 = .ok (.new 10, 3) := by decide +kernel
set_option maxRecDepth 20000 in
theorem dL_law_11 : decode cL_law 11 = .ok (.dup, 1) := by decide +kernel
set_option maxRecDepth 20000 in
theorem dL_law_12 : decode cL_law 12 = .ok (.invokespecial 12, 3) := by decide +kernel
set_option maxRecDepth 20000 in
theorem dL_law_15 : decode cL_law 15 = .ok (.astore_n 2, 1) := by decide +kernel
set_option maxRecDepth 20000 in
theorem dL_law_16 : decode cL_law 16 = .ok (.iconst 0, 1) := by decide +kernel
set_option maxRecDepth 20000 in
theorem dL_law_17 : decode cL_law 17 = .ok (.istore_n 3, 1) := by decide +kernel
set_option maxRecDepth 20000 in
theorem dL_law_18 : decode cL_law 18 = .ok (.iload_n 3, 1) := by decide +kernel
set_option maxRecDepth 20000 in
theorem dL_law_19 : decode cL_law 19 = .ok (.aload_n 0, 1) := by decide +kernel
set_option maxRecDepth 20000 in
theorem dL_law_20 : decode cL_law 20 = .ok (.arraylength, 1) := by decide +kernel
set_option maxRecDepth 20000 in
theorem dL_law_21 : decode cL_law 21 = .ok (.bipush 7, 2) := by decide +kernel
set_option maxRecDepth 20000 in
theorem dL_law_23 : decode cL_law 23 = .ok (.isub, 1) := by decide +kernel
set_option maxRecDepth 20000 in
theorem dL_law_24 : decode cL_law 24 = .ok (.if_icmp .gt 1407, 3) := by decide +kernel
set_option maxRecDepth 20000 in
theorem dL_law_27 : decode cL_law 27 = .ok (.aload_n 0, 1) := by decide +kernel
set_option maxRecDepth 20000 in
theorem dL_law_28 : decode cL_law 28 = .ok (.iload_n 3, 1) := by decide +kernel
set_option maxRecDepth 20000 in
theorem dL_law_29 : decode cL_law 29 = .ok (.iaload, 1) := by decide +kernel
set_option maxRecDepth 20000 in
theorem dL_law_30 : decode cL_law 30 = .ok (.bipush 63, 2) := by decide +kernel
set_option maxRecDepth 20000 in
theorem dL_law_32 : decode cL_law 32 = .ok (.iand, 1) := by decide +kernel
set_option maxRecDepth 20000 in
theorem dL_law_33 : decode cL_law 33 = .ok (.tableswitch 1392 0 35 #[159, 192, 215, 238, 261, 284, 317, 350, 383, 426, 449, 462, 485, 528, 571, 634, 667, 700, 764, 817, 892, 945, 968, 991, 1015, 1028, 1071, 1084, 1097, 1140, 1163, 1216, 1259, 1322, 1355, 1378], 159) := by decide +kernel
set_option maxRecDepth 20000 in
theorem dL_law_192 : decode cL_law 192 = .ok (.aload_n 1, 1) := by decide +kernel
set_option maxRecDepth 20000 in
theorem dL_law_193 : decode cL_law 193 = .ok (.aload_n 0, 1) := by decide +kernel
set_option maxRecDepth 20000 in
theorem dL_law_194 : decode cL_law 194 = .ok (.iload_n 3, 1) := by decide +kernel
set_option maxRecDepth 20000 in
theorem dL_law_195 : decode cL_law 195 = .ok (.iconst 1, 1) := by decide +kernel
set_option maxRecDepth 20000 in
theorem dL_law_196 : decode cL_law 196 = .ok (.iadd, 1) := by decide +kernel
set_option maxRecDepth 20000 in
theorem dL_law_197 : decode cL_law 197 = .ok (.iaload, 1) := by decide +kernel
set_option maxRecDepth 20000 in
theorem dL_law_198 : decode cL_law 198 = .ok (.aload_n 0, 1) := by decide +kernel
set_option maxRecDepth 20000 in
theorem dL_law_199 : decode cL_law 199 = .ok (.iload_n 3, 1) := by decide +kernel
set_option maxRecDepth 20000 in
theorem dL_law_200 : decode cL_law 200 = .ok (.iconst 2, 1) := by decide +kernel
set_option maxRecDepth 20000 in
theorem dL_law_201 : decode cL_law 201 = .ok (.iadd, 1) := by decide +kernel
set_option maxRecDepth 20000 in
theorem dL_law_202 : decode cL_law 202 = .ok (.iaload, 1) := by decide +kernel
set_option maxRecDepth 20000 in
theorem dL_law_203 : decode cL_law 203 = .ok (.invokevirtual 13, 3) := by decide +kernel
set_option maxRecDepth 20000 in
theorem dL_law_206 : decode cL_law 206 = .ok (.aload_n 2, 1) := by decide +kernel
set_option maxRecDepth 20000 in
theorem dL_law_207 : decode cL_law 207 = .ok (.aload_n 0, 1) := by decide +kernel
set_option maxRecDepth 20000 in
theorem dL_law_208 : decode cL_law 208 = .ok (.iload_n 3, 1) := by decide +kernel
set_option maxRecDepth 20000 in
theorem dL_law_209 : decode cL_law 209 = .ok (.iconst 1, 1) := by decide +kernel
set_option maxRecDepth 20000 in
theorem dL_law_210 : decode cL_law 210 = .ok (.iadd, 1) := by decide +kernel
set_option maxRecDepth 20000 in
theorem dL_law_211 : decode cL_law 211 = .ok (.iaload, 1) := by decide +kernel
set_option maxRecDepth 20000 in
theorem dL_law_212 : decode cL_law 212 = .ok (.aload_n 0, 1) := by decide +kernel
set_option maxRecDepth 20000 in
theorem dL_law_213 : decode cL_law 213 = .ok (.iload_n 3, 1) := by decide +kernel
set_option maxRecDepth 20000 in
theorem dL_law_214 : decode cL_law 214 = .ok (.iconst 2, 1) := by decide +kernel
set_option maxRecDepth 20000 in
theorem dL_law_215 : decode cL_law 215 = .ok (.iadd, 1) := by decide +kernel
set_option maxRecDepth 20000 in
theorem dL_law_216 : decode cL_law 216 = .ok (.iaload, 1) := by decide +kernel
set_option maxRecDepth 20000 in
theorem dL_law_217 : decode cL_law 217 = .ok (.invokevirtual 17, 3) := by decide +kernel
set_option maxRecDepth 20000 in
theorem dL_law_220 : decode cL_law 220 = .ok (.if_icmp .eq 1205, 3) := by decide +kernel
set_option maxRecDepth 20000 in
theorem dL_law_223 : decode cL_law 223 = .ok (.iconst 0, 1) := by decide +kernel
set_option maxRecDepth 20000 in
theorem dL_law_224 : decode cL_law 224 = .ok (.ireturn, 1) := by decide +kernel
set_option maxRecDepth 20000 in
theorem dL_law_225 : decode cL_law 225 = .ok (.aload_n 1, 1) := by decide +kernel
set_option maxRecDepth 20000 in
theorem dL_law_226 : decode cL_law 226 = .ok (.aload_n 0, 1) := by decide +kernel
set_option maxRecDepth 20000 in
theorem dL_law_227 : decode cL_law 227 = .ok (.iload_n 3, 1) := by decide +kernel
set_option maxRecDepth 20000 in
theorem dL_law_228 : decode cL_law 228 = .ok (.iconst 1, 1) := by decide +kernel
set_option maxRecDepth 20000 in
theorem dL_law_229 : decode cL_law 229 = .ok (.iadd, 1) := by decide +kernel
set_option maxRecDepth 20000 in
theorem dL_law_230 : decode cL_law 230 = .ok (.iaload, 1) := by decide +kernel
set_option maxRecDepth 20000 in
theorem dL_law_231 : decode cL_law 231 = .ok (.invokevirtual 18, 3) := by decide +kernel
set_option maxRecDepth 20000 in
theorem dL_law_234 : decode cL_law 234 = .ok (.aload_n 2, 1) := by decide +kernel
set_option maxRecDepth 20000 in
theorem dL_law_235 : decode cL_law 235 = .ok (.aload_n 0, 1) := by decide +kernel
set_option maxRecDepth 20000 in
theorem dL_law_236 : decode cL_law 236 = .ok (.iload_n 3, 1) := by decide +kernel
set_option maxRecDepth 20000 in
theorem dL_law_237 : decode cL_law 237 = .ok (.iconst 1, 1) := by decide +kernel
set_option maxRecDepth 20000 in
theorem dL_law_238 : decode cL_law 238 = .ok (.iadd, 1) := by decide +kernel
set_option maxRecDepth 20000 in
theorem dL_law_239 : decode cL_law 239 = .ok (.iaload, 1) := by decide +kernel
set_option maxRecDepth 20000 in
theorem dL_law_240 : decode cL_law 240 = .ok (.invokevirtual 22, 3) := by decide +kernel
set_option maxRecDepth 20000 in
theorem dL_law_243 : decode cL_law 243 = .ok (.if_icmp .eq 1182, 3) := by decide +kernel
set_option maxRecDepth 20000 in
theorem dL_law_246 : decode cL_law 246 = .ok (.iconst 0, 1) := by decide +kernel
set_option maxRecDepth 20000 in
theorem dL_law_247 : decode cL_law 247 = .ok (.ireturn, 1) := by decide +kernel
set_option maxRecDepth 20000 in
theorem dL_law_248 : decode cL_law 248 = .ok (.aload_n 1, 1) := by decide +kernel
set_option maxRecDepth 20000 in
theorem dL_law_249 : decode cL_law 249 = .ok (.aload_n 0, 1) := by decide +kernel
set_option maxRecDepth 20000 in
theorem dL_law_250 : decode cL_law 250 = .ok (.iload_n 3, 1) := by decide +kernel
set_option maxRecDepth 20000 in
theorem dL_law_251 : decode cL_law 251 = .ok (.iconst 1, 1) := by decide +kernel
set_option maxRecDepth 20000 in
theorem dL_law_252 : decode cL_law 252 = .ok (.iadd, 1) := by decide +kernel
set_option maxRecDepth 20000 in
theorem dL_law_253 : decode cL_law 253 = .ok (.iaload, 1) := by decide +kernel
set_option maxRecDepth 20000 in
theorem dL_law_254 : decode cL_law 254 = .ok (.invokevirtual 23, 3) := by decide +kernel
set_option maxRecDepth 20000 in
theorem dL_law_257 : decode cL_law 257 = .ok (.aload_n 2, 1) := by decide +kernel
set_option maxRecDepth 20000 in
theorem dL_law_258 : decode cL_law 258 = .ok (.aload_n 0, 1) := by decide +kernel
set_option maxRecDepth 20000 in
theorem dL_law_259 : decode cL_law 259 = .ok (.iload_n 3, 1) := by decide +kernel
set_option maxRecDepth 20000 in
theorem dL_law_260 : decode cL_law 260 = .ok (.iconst 1, 1) := by decide +kernel
set_option maxRecDepth 20000 in
theorem dL_law_261 : decode cL_law 261 = .ok (.iadd, 1) := by decide +kernel
set_option maxRecDepth 20000 in
theorem dL_law_262 : decode cL_law 262 = .ok (.iaload, 1) := by decide +kernel
set_option maxRecDepth 20000 in
theorem dL_law_263 : decode cL_law 263 = .ok (.invokevirtual 26, 3) := by decide +kernel
set_option maxRecDepth 20000 in
theorem dL_law_266 : decode cL_law 266 = .ok (.if_icmp .eq 1159, 3) := by decide +kernel
set_option maxRecDepth 20000 in
theorem dL_law_269 : decode cL_law 269 = .ok (.iconst 0, 1) := by decide +kernel
set_option maxRecDepth 20000 in
theorem dL_law_270 : decode cL_law 270 = .ok (.ireturn, 1) := by decide +kernel
set_option maxRecDepth 20000 in
theorem dL_law_271 : decode cL_law 271 = .ok (.aload_n 1, 1) := by decide +kernel
set_option maxRecDepth 20000 in
theorem dL_law_272 : decode cL_law 272 = .ok (.aload_n 0, 1) := by decide +kernel
set_option maxRecDepth 20000 in
theorem dL_law_273 : decode cL_law 273 = .ok (.iload_n 3, 1) := by decide +kernel
set_option maxRecDepth 20000 in
theorem dL_law_274 : decode cL_law 274 = .ok (.iconst 1, 1) := by decide +kernel
set_option maxRecDepth 20000 in
theorem dL_law_275 : decode cL_law 275 = .ok (.iadd, 1) := by decide +kernel
set_option maxRecDepth 20000 in
theorem dL_law_276 : decode cL_law 276 = .ok (.iaload, 1) := by decide +kernel
set_option maxRecDepth 20000 in
theorem dL_law_277 : decode cL_law 277 = .ok (.invokevirtual 27, 3) := by decide +kernel
set_option maxRecDepth 20000 in
theorem dL_law_280 : decode cL_law 280 = .ok (.aload_n 2, 1) := by decide +kernel
set_option maxRecDepth 20000 in
theorem dL_law_281 : decode cL_law 281 = .ok (.aload_n 0, 1) := by decide +kernel
set_option maxRecDepth 20000 in
theorem dL_law_282 : decode cL_law 282 = .ok (.iload_n 3, 1) := by decide +kernel
set_option maxRecDepth 20000 in
theorem dL_law_283 : decode cL_law 283 = .ok (.iconst 1, 1) := by decide +kernel
set_option maxRecDepth 20000 in
theorem dL_law_284 : decode cL_law 284 = .ok (.iadd, 1) := by decide +kernel
set_option maxRecDepth 20000 in
theorem dL_law_285 : decode cL_law 285 = .ok (.iaload, 1) := by decide +kernel
set_option maxRecDepth 20000 in
theorem dL_law_286 : decode cL_law 286 = .ok (.invokevirtual 30, 3) := by decide +kernel
set_option maxRecDepth 20000 in
theorem dL_law_289 : decode cL_law 289 = .ok (.if_icmp .eq 1136, 3) := by decide +kernel
set_option maxRecDepth 20000 in
theorem dL_law_292 : decode cL_law 292 = .ok (.iconst 0, 1) := by decide +kernel
set_option maxRecDepth 20000 in
theorem dL_law_293 : decode cL_law 293 = .ok (.ireturn, 1) := by decide +kernel
set_option maxRecDepth 20000 in
theorem dL_law_294 : decode cL_law 294 = .ok (.aload_n 1, 1) := by decide +kernel
set_option maxRecDepth 20000 in
theorem dL_law_295 : decode cL_law 295 = .ok (.aload_n 0, 1) := by decide +kernel
set_option maxRecDepth 20000 in
theorem dL_law_296 : decode cL_law 296 = .ok (.iload_n 3, 1) := by decide +kernel
set_option maxRecDepth 20000 in
theorem dL_law_297 : decode cL_law 297 = .ok (.iconst 1, 1) := by decide +kernel
set_option maxRecDepth 20000 in
theorem dL_law_298 : decode cL_law 298 = .ok (.iadd, 1) := by decide +kernel
set_option maxRecDepth 20000 in
theorem dL_law_299 : decode cL_law 299 = .ok (.iaload, 1) := by decide +kernel
set_option maxRecDepth 20000 in
theorem dL_law_300 : decode cL_law 300 = .ok (.invokevirtual 31, 3) := by decide +kernel
set_option maxRecDepth 20000 in
theorem dL_law_303 : decode cL_law 303 = .ok (.aload_n 2, 1) := by decide +kernel
set_option maxRecDepth 20000 in
theorem dL_law_304 : decode cL_law 304 = .ok (.aload_n 0, 1) := by decide +kernel
set_option maxRecDepth 20000 in
theorem dL_law_305 : decode cL_law 305 = .ok (.iload_n 3, 1) := by decide +kernel
set_option maxRecDepth 20000 in
theorem dL_law_306 : decode cL_law 306 = .ok (.iconst 1, 1) := by decide +kernel
set_option maxRecDepth 20000 in
theorem dL_law_307 : decode cL_law 307 = .ok (.iadd, 1) := by decide +kernel
set_option maxRecDepth 20000 in
theorem dL_law_308 : decode cL_law 308 = .ok (.iaload, 1) := by decide +kernel
set_option maxRecDepth 20000 in
theorem dL_law_309 : decode cL_law 309 = .ok (.invokevirtual 34, 3) := by decide +kernel
set_option maxRecDepth 20000 in
theorem dL_law_312 : decode cL_law 312 = .ok (.if_icmp .eq 1113, 3) := by decide +kernel
set_option maxRecDepth 20000 in
theorem dL_law_315 : decode cL_law 315 = .ok (.iconst 0, 1) := by decide +kernel
set_option maxRecDepth 20000 in
theorem dL_law_316 : decode cL_law 316 = .ok (.ireturn, 1) := by decide +kernel
set_option maxRecDepth 20000 in
theorem dL_law_317 : decode cL_law 317 = .ok (.aload_n 1, 1) := by decide +kernel
set_option maxRecDepth 20000 in
theorem dL_law_318 : decode cL_law 318 = .ok (.aload_n 0, 1) := by decide +kernel
set_option maxRecDepth 20000 in
theorem dL_law_319 : decode cL_law 319 = .ok (.iload_n 3, 1) := by decide +kernel
set_option maxRecDepth 20000 in
theorem dL_law_320 : decode cL_law 320 = .ok (.iconst 1, 1) := by decide +kernel
set_option maxRecDepth 20000 in
theorem dL_law_321 : decode cL_law 321 = .ok (.iadd, 1) := by decide +kernel
set_option maxRecDepth 20000 in
theorem dL_law_322 : decode cL_law 322 = .ok (.iaload, 1) := by decide +kernel
set_option maxRecDepth 20000 in
theorem dL_law_323 : decode cL_law 323 = .ok (.aload_n 0, 1) := by decide +kernel
set_option maxRecDepth 20000 in
theorem dL_law_324 : decode cL_law 324 = .ok (.iload_n 3, 1) := by decide +kernel
set_option maxRecDepth 20000 in
theorem dL_law_325 : decode cL_law 325 = .ok (.iconst 2, 1) := by decide +kernel
set_option maxRecDepth 20000 in
theorem dL_law_326 : decode cL_law 326 = .ok (.iadd, 1) := by decide +kernel
set_option maxRecDepth 20000 in
theorem dL_law_327 : decode cL_law 327 = .ok (.iaload, 1) := by decide +kernel
set_option maxRecDepth 20000 in
theorem dL_law_328 : decode cL_law 328 = .ok (.invokevirtual 35, 3) := by decide +kernel
set_option maxRecDepth 20000 in
theorem dL_law_331 : decode cL_law 331 = .ok (.aload_n 2, 1) := by decide +kernel
set_option maxRecDepth 20000 in
theorem dL_law_332 : decode cL_law 332 = .ok (.aload_n 0, 1) := by decide +kernel
set_option maxRecDepth 20000 in
theorem dL_law_333 : decode cL_law 333 = .ok (.iload_n 3, 1) := by decide +kernel
set_option maxRecDepth 20000 in
theorem dL_law_334 : decode cL_law 334 = .ok (.iconst 1, 1) := by decide +kernel
set_option maxRecDepth 20000 in
theorem dL_law_335 : decode cL_law 335 = .ok (.iadd, 1) := by decide +kernel
set_option maxRecDepth 20000 in
theorem dL_law_336 : decode cL_law 336 = .ok (.iaload, 1) := by decide +kernel
set_option maxRecDepth 20000 in
theorem dL_law_337 : decode cL_law 337 = .ok (.aload_n 0, 1) := by decide +kernel
set_option maxRecDepth 20000 in
theorem dL_law_338 : decode cL_law 338 = .ok (.iload_n 3, 1) := by decide +kernel
set_option maxRecDepth 20000 in
theorem dL_law_339 : decode cL_law 339 = .ok (.iconst 2, 1) := by decide +kernel
set_option maxRecDepth 20000 in
theorem dL_law_340 : decode cL_law 340 = .ok (.iadd, 1) := by decide +kernel
set_option maxRecDepth 20000 in
theorem dL_law_341 : decode cL_law 341 = .ok (.iaload, 1) := by decide +kernel
set_option maxRecDepth 20000 in
theorem dL_law_342 : decode cL_law 342 = .ok (.invokevirtual 38, 3) := by decide +kernel
set_option maxRecDepth 20000 in
theorem dL_law_345 : decode cL_law 345 = .ok (.if_icmp .eq 1080, 3) := by decide +kernel
set_option maxRecDepth 20000 in
theorem dL_law_348 : decode cL_law 348 = .ok (.iconst 0, 1) := by decide +kernel
set_option maxRecDepth 20000 in
theorem dL_law_349 : decode cL_law 349 = .ok (.ireturn, 1) := by decide +kernel
set_option maxRecDepth 20000 in
theorem dL_law_350 : decode cL_law 350 = .ok (.aload_n 1, 1) := by decide +kernel
set_option maxRecDepth 20000 in
theorem dL_law_351 : decode cL_law 351 = .ok (.aload_n 0, 1) := by decide +kernel
set_option maxRecDepth 20000 in
theorem dL_law_352 : decode cL_law 352 = .ok (.iload_n 3, 1) := by decide +kernel
set_option maxRecDepth 20000 in
theorem dL_law_353 : decode cL_law 353 = .ok (.iconst 1, 1) := by decide +kernel
set_option maxRecDepth 20000 in
theorem dL_law_354 : decode cL_law 354 = .ok (.iadd, 1) := by decide +kernel
set_option maxRecDepth 20000 in
theorem dL_law_355 : decode cL_law 355 = .ok (.iaload, 1) := by decide +kernel
set_option maxRecDepth 20000 in
theorem dL_law_356 : decode cL_law 356 = .ok (.aload_n 0, 1) := by decide +kernel
set_option maxRecDepth 20000 in
theorem dL_law_357 : decode cL_law 357 = .ok (.iload_n 3, 1) := by decide +kernel
set_option maxRecDepth 20000 in
theorem dL_law_358 : decode cL_law 358 = .ok (.iconst 2, 1) := by decide +kernel
set_option maxRecDepth 20000 in
theorem dL_law_359 : decode cL_law 359 = .ok (.iadd, 1) := by decide +kernel
set_option maxRecDepth 20000 in
theorem dL_law_360 : decode cL_law 360 = .ok (.iaload, 1) := by decide +kernel
set_option maxRecDepth 20000 in
theorem dL_law_361 : decode cL_law 361 = .ok (.invokevirtual 39, 3) := by decide +kernel
set_option maxRecDepth 20000 in
theorem dL_law_364 : decode cL_law 364 = .ok (.aload_n 2, 1) := by decide +kernel
set_option maxRecDepth 20000 in
theorem dL_law_365 : decode cL_law 365 = .ok (.aload_n 0, 1) := by decide +kernel
set_option maxRecDepth 20000 in
theorem dL_law_366 : decode cL_law 366 = .ok (.iload_n 3, 1) := by decide +kernel
set_option maxRecDepth 20000 in
theorem dL_law_367 : decode cL_law 367 = .ok (.iconst 1, 1) := by decide +kernel
set_option maxRecDepth 20000 in
theorem dL_law_368 : decode cL_law 368 = .ok (.iadd, 1) := by decide +kernel
set_option maxRecDepth 20000 in
theorem dL_law_369 : decode cL_law 369 = .ok (.iaload, 1) := by decide +kernel
set_option maxRecDepth 20000 in
theorem dL_law_370 : decode cL_law 370 = .ok (.aload_n 0, 1) := by decide +kernel
set_option maxRecDepth 20000 in
theorem dL_law_371 : decode cL_law 371 = .ok (.iload_n 3, 1) := by decide +kernel
set_option maxRecDepth 20000 in
theorem dL_law_372 : decode cL_law 372 = .ok (.iconst 2, 1) := by decide +kernel
set_option maxRecDepth 20000 in
theorem dL_law_373 : decode cL_law 373 = .ok (.iadd, 1) := by decide +kernel
set_option maxRecDepth 20000 in
theorem dL_law_374 : decode cL_law 374 = .ok (.iaload, 1) := by decide +kernel
set_option maxRecDepth 20000 in
theorem dL_law_375 : decode cL_law 375 = .ok (.invokevirtual 42, 3) := by decide +kernel
set_option maxRecDepth 20000 in
theorem dL_law_378 : decode cL_law 378 = .ok (.if_icmp .eq 1047, 3) := by decide +kernel
set_option maxRecDepth 20000 in
theorem dL_law_381 : decode cL_law 381 = .ok (.iconst 0, 1) := by decide +kernel
set_option maxRecDepth 20000 in
theorem dL_law_382 : decode cL_law 382 = .ok (.ireturn, 1) := by decide +kernel
set_option maxRecDepth 20000 in
theorem dL_law_383 : decode cL_law 383 = .ok (.aload_n 1, 1) := by decide +kernel
set_option maxRecDepth 20000 in
theorem dL_law_384 : decode cL_law 384 = .ok (.aload_n 0, 1) := by decide +kernel
set_option maxRecDepth 20000 in
theorem dL_law_385 : decode cL_law 385 = .ok (.iload_n 3, 1) := by decide +kernel
set_option maxRecDepth 20000 in
theorem dL_law_386 : decode cL_law 386 = .ok (.iconst 1, 1) := by decide +kernel
set_option maxRecDepth 20000 in
theorem dL_law_387 : decode cL_law 387 = .ok (.iadd, 1) := by decide +kernel
set_option maxRecDepth 20000 in
theorem dL_law_388 : decode cL_law 388 = .ok (.iaload, 1) := by decide +kernel
set_option maxRecDepth 20000 in
theorem dL_law_389 : decode cL_law 389 = .ok (.aload_n 0, 1) := by decide +kernel
set_option maxRecDepth 20000 in
theorem dL_law_390 : decode cL_law 390 = .ok (.iload_n 3, 1) := by decide +kernel
set_option maxRecDepth 20000 in
theorem dL_law_391 : decode cL_law 391 = .ok (.iconst 2, 1) := by decide +kernel
set_option maxRecDepth 20000 in
theorem dL_law_392 : decode cL_law 392 = .ok (.iadd, 1) := by decide +kernel
set_option maxRecDepth 20000 in
theorem dL_law_393 : decode cL_law 393 = .ok (.iaload, 1) := by decide +kernel
set_option maxRecDepth 20000 in
theorem dL_law_394 : decode cL_law 394 = .ok (.invokevirtual 43, 3) := by decide +kernel
set_option maxRecDepth 20000 in
theorem dL_law_397 : decode cL_law 397 = .ok (.aload_n 2, 1) := by decide +kernel
set_option maxRecDepth 20000 in
theorem dL_law_398 : decode cL_law 398 = .ok (.aload_n 0, 1) := by decide +kernel
set_option maxRecDepth 20000 in
theorem dL_law_399 : decode cL_law 399 = .ok (.iload_n 3, 1) := by decide +kernel
set_option maxRecDepth 20000 in
theorem dL_law_400 : decode cL_law 400 = .ok (.iconst 1, 1) := by decide +kernel
set_option maxRecDepth 20000 in
theorem dL_law_401 : decode cL_law 401 = .ok (.iadd, 1) := by decide +kernel
set_option maxRecDepth 20000 in
theorem dL_law_402 : decode cL_law 402 = .ok (.iaload, 1) := by decide +kernel
set_option maxRecDepth 20000 in
theorem dL_law_403 : decode cL_law 403 = .ok (.aload_n 0, 1) := by decide +kernel
set_option maxRecDepth 20000 in
theorem dL_law_404 : decode cL_law 404 = .ok (.iload_n 3, 1) := by decide +kernel
set_option maxRecDepth 20000 in
theorem dL_law_405 : decode cL_law 405 = .ok (.iconst 2, 1) := by decide +kernel
set_option maxRecDepth 20000 in
theorem dL_law_406 : decode cL_law 406 = .ok (.iadd, 1) := by decide +kernel
set_option maxRecDepth 20000 in
theorem dL_law_407 : decode cL_law 407 = .ok (.iaload, 1) := by decide +kernel
set_option maxRecDepth 20000 in
theorem dL_law_408 : decode cL_law 408 = .ok (.invokevirtual 46, 3) := by decide +kernel
set_option maxRecDepth 20000 in
theorem dL_law_411 : decode cL_law 411 = .ok (.if_icmp .eq 1014, 3) := by decide +kernel
set_option maxRecDepth 20000 in
theorem dL_law_414 : decode cL_law 414 = .ok (.iconst 0, 1) := by decide +kernel
set_option maxRecDepth 20000 in
theorem dL_law_415 : decode cL_law 415 = .ok (.ireturn, 1) := by decide +kernel
set_option maxRecDepth 20000 in
theorem dL_law_416 : decode cL_law 416 = .ok (.aload_n 1, 1) := by decide +kernel
set_option maxRecDepth 20000 in
theorem dL_law_417 : decode cL_law 417 = .ok (.aload_n 0, 1) := by decide +kernel
set_option maxRecDepth 20000 in
theorem dL_law_418 : decode cL_law 418 = .ok (.iload_n 3, 1) := by decide +kernel
set_option maxRecDepth 20000 in
theorem dL_law_419 : decode cL_law 419 = .ok (.iconst 1, 1) := by decide +kernel
set_option maxRecDepth 20000 in
theorem dL_law_420 : decode cL_law 420 = .ok (.iadd, 1) := by decide +kernel
set_option maxRecDepth 20000 in
theorem dL_law_421 : decode cL_law 421 = .ok (.iaload, 1) := by decide +kernel
set_option maxRecDepth 20000 in
theorem dL_law_422 : decode cL_law 422 = .ok (.aload_n 0, 1) := by decide +kernel
set_option maxRecDepth 20000 in
theorem dL_law_423 : decode cL_law 423 = .ok (.iload_n 3, 1) := by decide +kernel
set_option maxRecDepth 20000 in
theorem dL_law_424 : decode cL_law 424 = .ok (.iconst 2, 1) := by decide +kernel
set_option maxRecDepth 20000 in
theorem dL_law_425 : decode cL_law 425 = .ok (.iadd, 1) := by decide +kernel
set_option maxRecDepth 20000 in
theorem dL_law_426 : decode cL_law 426 = .ok (.iaload, 1) := by decide +kernel
set_option maxRecDepth 20000 in
theorem dL_law_427 : decode cL_law 427 = .ok (.aload_n 0, 1) := by decide +kernel
set_option maxRecDepth 20000 in
theorem dL_law_428 : decode cL_law 428 = .ok (.iload_n 3, 1) := by decide +kernel
set_option maxRecDepth 20000 in
theorem dL_law_429 : decode cL_law 429 = .ok (.iconst 3, 1) := by decide +kernel
set_option maxRecDepth 20000 in
theorem dL_law_430 : decode cL_law 430 = .ok (.iadd, 1) := by decide +kernel
set_option maxRecDepth 20000 in
theorem dL_law_431 : decode cL_law 431 = .ok (.iaload, 1) := by decide +kernel
set_option maxRecDepth 20000 in
theorem dL_law_432 : decode cL_law 432 = .ok (.invokevirtual 47, 3) := by decide +kernel
set_option maxRecDepth 20000 in
theorem dL_law_435 : decode cL_law 435 = .ok (.aload_n 2, 1) := by decide +kernel
set_option maxRecDepth 20000 in
theorem dL_law_436 : decode cL_law 436 = .ok (.aload_n 0, 1) := by decide +kernel
set_option maxRecDepth 20000 in
theorem dL_law_437 : decode cL_law 437 = .ok (.iload_n 3, 1) := by decide +kernel
set_option maxRecDepth 20000 in
theorem dL_law_438 : decode cL_law 438 = .ok (.iconst 1, 1) := by decide +kernel
set_option maxRecDepth 20000 in
theorem dL_law_439 : decode cL_law 439 = .ok (.iadd, 1) := by decide +kernel
set_option maxRecDepth 20000 in
theorem dL_law_440 : decode cL_law 440 = .ok (.iaload, 1) := by decide +kernel
set_option maxRecDepth 20000 in
theorem dL_law_441 : decode cL_law 441 = .ok (.aload_n 0, 1) := by decide +kernel
set_option maxRecDepth 20000 in
theorem dL_law_442 : decode cL_law 442 = .ok (.iload_n 3, 1) := by decide +kernel
set_option maxRecDepth 20000 in
theorem dL_law_443 : decode cL_law 443 = .ok (.iconst 2, 1) := by decide +kernel
set_option maxRecDepth 20000 in
theorem dL_law_444 : decode cL_law 444 = .ok (.iadd, 1) := by decide +kernel
set_option maxRecDepth 20000 in
theorem dL_law_445 : decode cL_law 445 = .ok (.iaload, 1) := by decide +kernel
set_option maxRecDepth 20000 in
theorem dL_law_446 : decode cL_law 446 = .ok (.aload_n 0, 1) := by decide +kernel
set_option maxRecDepth 20000 in
theorem dL_law_447 : decode cL_law 447 = .ok (.iload_n 3, 1) := by decide +kernel
set_option maxRecDepth 20000 in
theorem dL_law_448 : decode cL_law 448 = .ok (.iconst 3, 1) := by decide +kernel
set_option maxRecDepth 20000 in
theorem dL_law_449 : decode cL_law 449 = .ok (.iadd, 1) := by decide +kernel
set_option maxRecDepth 20000 in
theorem dL_law_450 : decode cL_law 450 = .ok (.iaload, 1) := by decide +kernel
set_option maxRecDepth 20000 in
theorem dL_law_451 : decode cL_law 451 = .ok (.invokevirtual 51, 3) := by decide +kernel
set_option maxRecDepth 20000 in
theorem dL_law_454 : decode cL_law 454 = .ok (.if_icmp .eq 971, 3) := by decide +kernel
set_option maxRecDepth 20000 in
theorem dL_law_457 : decode cL_law 457 = .ok (.iconst 0, 1) := by decide +kernel
set_option maxRecDepth 20000 in
theorem dL_law_458 : decode cL_law 458 = .ok (.ireturn, 1) := by decide +kernel
set_option maxRecDepth 20000 in
theorem dL_law_459 : decode cL_law 459 = .ok (.aload_n 1, 1) := by decide +kernel
set_option maxRecDepth 20000 in
theorem dL_law_460 : decode cL_law 460 = .ok (.aload_n 0, 1) := by decide +kernel
set_option maxRecDepth 20000 in
theorem dL_law_461 : decode cL_law 461 = .ok (.iload_n 3, 1) := by decide +kernel
set_option maxRecDepth 20000 in
theorem dL_law_462 : decode cL_law 462 = .ok (.iconst 1, 1) := by decide +kernel
set_option maxRecDepth 20000 in
theorem dL_law_463 : decode cL_law 463 = .ok (.iadd, 1) := by decide +kernel
set_option maxRecDepth 20000 in
theorem dL_law_464 : decode cL_law 464 = .ok (.iaload, 1) := by decide +kernel
set_option maxRecDepth 20000 in
theorem dL_law_465 : decode cL_law 465 = .ok (.invokevirtual 52, 3) := by decide +kernel
set_option maxRecDepth 20000 in
theorem dL_law_468 : decode cL_law 468 = .ok (.aload_n 2, 1) := by decide +kernel
set_option maxRecDepth 20000 in
theorem dL_law_469 : decode cL_law 469 = .ok (.aload_n 0, 1) := by decide +kernel
set_option maxRecDepth 20000 in
theorem dL_law_470 : decode cL_law 470 = .ok (.iload_n 3, 1) := by decide +kernel
set_option maxRecDepth 20000 in
theorem dL_law_471 : decode cL_law 471 = .ok (.iconst 1, 1) := by decide +kernel
set_option maxRecDepth 20000 in
theorem dL_law_472 : decode cL_law 472 = .ok (.iadd, 1) := by decide +kernel
set_option maxRecDepth 20000 in
theorem dL_law_473 : decode cL_law 473 = .ok (.iaload, 1) := by decide +kernel
set_option maxRecDepth 20000 in
theorem dL_law_474 : decode cL_law 474 = .ok (.invokevirtual 55, 3) := by decide +kernel
set_option maxRecDepth 20000 in
theorem dL_law_477 : decode cL_law 477 = .ok (.if_icmp .eq 948, 3) := by decide +kernel
set_option maxRecDepth 20000 in
theorem dL_law_480 : decode cL_law 480 = .ok (.iconst 0, 1) := by decide +kernel
set_option maxRecDepth 20000 in
theorem dL_law_481 : decode cL_law 481 = .ok (.ireturn, 1) := by decide +kernel
set_option maxRecDepth 20000 in
theorem dL_law_482 : decode cL_law 482 = .ok (.aload_n 1, 1) := by decide +kernel
set_option maxRecDepth 20000 in
theorem dL_law_483 : decode cL_law 483 = .ok (.invokevirtual 56, 3) := by decide +kernel
set_option maxRecDepth 20000 in
theorem dL_law_486 : decode cL_law 486 = .ok (.aload_n 2, 1) := by decide +kernel
set_option maxRecDepth 20000 in
theorem dL_law_487 : decode cL_law 487 = .ok (.invokevirtual 60, 3) := by decide +kernel
set_option maxRecDepth 20000 in
theorem dL_law_490 : decode cL_law 490 = .ok (.if_icmp .eq 935, 3) := by decide +kernel
set_option maxRecDepth 20000 in
theorem dL_law_493 : decode cL_law 493 = .ok (.iconst 0, 1) := by decide +kernel
set_option maxRecDepth 20000 in
theorem dL_law_494 : decode cL_law 494 = .ok (.ireturn, 1) := by decide +kernel
set_option maxRecDepth 20000 in
theorem dL_law_495 : decode cL_law 495 = .ok (.aload_n 1, 1) := by decide +kernel
set_option maxRecDepth 20000 in
theorem dL_law_496 : decode cL_law 496 = .ok (.aload_n 0, 1) := by decide +kernel
set_option maxRecDepth 20000 in
theorem dL_law_497 : decode cL_law 497 = .ok (.iload_n 3, 1) := by decide +kernel
set_option maxRecDepth 20000 in
theorem dL_law_498 : decode cL_law 498 = .ok (.iconst 1, 1) := by decide +kernel
set_option maxRecDepth 20000 in
theorem dL_law_499 : decode cL_law 499 = .ok (.iadd, 1) := by decide +kernel
set_option maxRecDepth 20000 in
theorem dL_law_500 : decode cL_law 500 = .ok (.iaload, 1) := by decide +kernel
set_option maxRecDepth 20000 in
theorem dL_law_501 : decode cL_law 501 = .ok (.invokevirtual 61, 3) := by decide +kernel
set_option maxRecDepth 20000 in
theorem dL_law_504 : decode cL_law 504 = .ok (.aload_n 2, 1) := by decide +kernel
set_option maxRecDepth 20000 in
theorem dL_law_505 : decode cL_law 505 = .ok (.aload_n 0, 1) := by decide +kernel
set_option maxRecDepth 20000 in
theorem dL_law_506 : decode cL_law 506 = .ok (.iload_n 3, 1) := by decide +kernel
set_option maxRecDepth 20000 in
theorem dL_law_507 : decode cL_law 507 = .ok (.iconst 1, 1) := by decide +kernel
set_option maxRecDepth 20000 in
theorem dL_law_508 : decode cL_law 508 = .ok (.iadd, 1) := by decide +kernel
set_option maxRecDepth 20000 in
theorem dL_law_509 : decode cL_law 509 = .ok (.iaload, 1) := by decide +kernel
set_option maxRecDepth 20000 in
theorem dL_law_510 : decode cL_law 510 = .ok (.invokevirtual 64, 3) := by decide +kernel
set_option maxRecDepth 20000 in
theorem dL_law_513 : decode cL_law 513 = .ok (.if_icmp .eq 912, 3) := by decide +kernel
set_option maxRecDepth 20000 in
theorem dL_law_516 : decode cL_law 516 = .ok (.iconst 0, 1) := by decide +kernel
set_option maxRecDepth 20000 in
theorem dL_law_517 : decode cL_law 517 = .ok (.ireturn, 1) := by decide +kernel
set_option maxRecDepth 20000 in
theorem dL_law_518 : decode cL_law 518 = .ok (.aload_n 1, 1) := by decide +kernel
set_option maxRecDepth 20000 in
theorem dL_law_519 : decode cL_law 519 = .ok (.aload_n 0, 1) := by decide +kernel
set_option maxRecDepth 20000 in
theorem dL_law_520 : decode cL_law 520 = .ok (.iload_n 3, 1) := by decide +kernel
set_option maxRecDepth 20000 in
theorem dL_law_521 : decode cL_law 521 = .ok (.iconst 1, 1) := by decide +kernel
set_option maxRecDepth 20000 in
theorem dL_law_522 : decode cL_law 522 = .ok (.iadd, 1) := by decide +kernel
set_option maxRecDepth 20000 in
theorem dL_law_523 : decode cL_law 523 = .ok (.iaload, 1) := by decide +kernel
set_option maxRecDepth 20000 in
theorem dL_law_524 : decode cL_law 524 = .ok (.aload_n 0, 1) := by decide +kernel
set_option maxRecDepth 20000 in
theorem dL_law_525 : decode cL_law 525 = .ok (.iload_n 3, 1) := by decide +kernel
set_option maxRecDepth 20000 in
theorem dL_law_526 : decode cL_law 526 = .ok (.iconst 2, 1) := by decide +kernel
set_option maxRecDepth 20000 in
theorem dL_law_527 : decode cL_law 527 = .ok (.iadd, 1) := by decide +kernel
set_option maxRecDepth 20000 in
theorem dL_law_528 : decode cL_law 528 = .ok (.iaload, 1) := by decide +kernel
set_option maxRecDepth 20000 in
theorem dL_law_529 : decode cL_law 529 = .ok (.aload_n 0, 1) := by decide +kernel
set_option maxRecDepth 20000 in
theorem dL_law_530 : decode cL_law 530 = .ok (.iload_n 3, 1) := by decide +kernel
set_option maxRecDepth 20000 in
theorem dL_law_531 : decode cL_law 531 = .ok (.iconst 3, 1) := by decide +kernel
set_option maxRecDepth 20000 in
theorem dL_law_532 : decode cL_law 532 = .ok (.iadd, 1) := by decide +kernel
set_option maxRecDepth 20000 in
theorem dL_law_533 : decode cL_law 533 = .ok (.iaload, 1) := by decide +kernel
set_option maxRecDepth 20000 in
theorem dL_law_534 : decode cL_law 534 = .ok (.invokevirtual 65, 3) := by decide +kernel
set_option maxRecDepth 20000 in
theorem dL_law_537 : decode cL_law 537 = .ok (.aload_n 2, 1) := by decide +kernel
set_option maxRecDepth 20000 in
theorem dL_law_538 : decode cL_law 538 = .ok (.aload_n 0, 1) := by decide +kernel
set_option maxRecDepth 20000 in
theorem dL_law_539 : decode cL_law 539 = .ok (.iload_n 3, 1) := by decide +kernel
set_option maxRecDepth 20000 in
theorem dL_law_540 : decode cL_law 540 = .ok (.iconst 1, 1) := by decide +kernel
set_option maxRecDepth 20000 in
theorem dL_law_541 : decode cL_law 541 = .ok (.iadd, 1) := by decide +kernel
set_option maxRecDepth 20000 in
theorem dL_law_542 : decode cL_law 542 = .ok (.iaload, 1) := by decide +kernel
set_option maxRecDepth 20000 in
theorem dL_law_543 : decode cL_law 543 = .ok (.aload_n 0, 1) := by decide +kernel
set_option maxRecDepth 20000 in
theorem dL_law_544 : decode cL_law 544 = .ok (.iload_n 3, 1) := by decide +kernel
set_option maxRecDepth 20000 in
theorem dL_law_545 : decode cL_law 545 = .ok (.iconst 2, 1) := by decide +kernel
set_option maxRecDepth 20000 in
theorem dL_law_546 : decode cL_law 546 = .ok (.iadd, 1) := by decide +kernel
set_option maxRecDepth 20000 in
theorem dL_law_547 : decode cL_law 547 = .ok (.iaload, 1) := by decide +kernel
set_option maxRecDepth 20000 in
theorem dL_law_548 : decode cL_law 548 = .ok (.aload_n 0, 1) := by decide +kernel
set_option maxRecDepth 20000 in
theorem dL_law_549 : decode cL_law 549 = .ok (.iload_n 3, 1) := by decide +kernel
set_option maxRecDepth 20000 in
theorem dL_law_550 : decode cL_law 550 = .ok (.iconst 3, 1) := by decide +kernel
set_option maxRecDepth 20000 in
theorem dL_law_551 : decode cL_law 551 = .ok (.iadd, 1) := by decide +kernel
set_option maxRecDepth 20000 in
theorem dL_law_552 : decode cL_law 552 = .ok (.iaload, 1) := by decide +kernel
set_option maxRecDepth 20000 in
theorem dL_law_553 : decode cL_law 553 = .ok (.invokevirtual 68, 3) := by decide +kernel
set_option maxRecDepth 20000 in
theorem dL_law_556 : decode cL_law 556 = .ok (.if_icmp .eq 869, 3) := by decide +kernel
set_option maxRecDepth 20000 in
theorem dL_law_559 : decode cL_law 559 = .ok (.iconst 0, 1) := by decide +kernel
set_option maxRecDepth 20000 in
theorem dL_law_560 : decode cL_law 560 = .ok (.ireturn, 1) := by decide +kernel
set_option maxRecDepth 20000 in
theorem dL_law_561 : decode cL_law 561 = .ok (.aload_n 1, 1) := by decide +kernel
set_option maxRecDepth 20000 in
theorem dL_law_562 : decode cL_law 562 = .ok (.aload_n 0, 1) := by decide +kernel
set_option maxRecDepth 20000 in
theorem dL_law_563 : decode cL_law 563 = .ok (.iload_n 3, 1) := by decide +kernel
set_option maxRecDepth 20000 in
theorem dL_law_564 : decode cL_law 564 = .ok (.iconst 1, 1) := by decide +kernel
set_option maxRecDepth 20000 in
theorem dL_law_565 : decode cL_law 565 = .ok (.iadd, 1) := by decide +kernel
set_option maxRecDepth 20000 in
theorem dL_law_566 : decode cL_law 566 = .ok (.iaload, 1) := by decide +kernel
set_option maxRecDepth 20000 in
theorem dL_law_567 : decode cL_law 567 = .ok (.aload_n 0, 1) := by decide +kernel
set_option maxRecDepth 20000 in
theorem dL_law_568 : decode cL_law 568 = .ok (.iload_n 3, 1) := by decide +kernel
set_option maxRecDepth 20000 in
theorem dL_law_569 : decode cL_law 569 = .ok (.iconst 2, 1) := by decide +kernel
set_option maxRecDepth 20000 in
theorem dL_law_570 : decode cL_law 570 = .ok (.iadd, 1) := by decide +kernel
set_option maxRecDepth 20000 in
theorem dL_law_571 : decode cL_law 571 = .ok (.iaload, 1) := by decide +kernel
set_option maxRecDepth 20000 in
theorem dL_law_572 : decode cL_law 572 = .ok (.aload_n 0, 1) := by decide +kernel
set_option maxRecDepth 20000 in
theorem dL_law_573 : decode cL_law 573 = .ok (.iload_n 3, 1) := by decide +kernel
set_option maxRecDepth 20000 in
theorem dL_law_574 : decode cL_law 574 = .ok (.iconst 3, 1) := by decide +kernel
set_option maxRecDepth 20000 in
theorem dL_law_575 : decode cL_law 575 = .ok (.iadd, 1) := by decide +kernel
set_option maxRecDepth 20000 in
theorem dL_law_576 : decode cL_law 576 = .ok (.iaload, 1) := by decide +kernel
set_option maxRecDepth 20000 in
theorem dL_law_577 : decode cL_law 577 = .ok (.invokevirtual 69, 3) := by decide +kernel
set_option maxRecDepth 20000 in
theorem dL_law_580 : decode cL_law 580 = .ok (.aload_n 2, 1) := by decide +kernel
set_option maxRecDepth 20000 in
theorem dL_law_581 : decode cL_law 581 = .ok (.aload_n 0, 1) := by decide +kernel
set_option maxRecDepth 20000 in
theorem dL_law_582 : decode cL_law 582 = .ok (.iload_n 3, 1) := by decide +kernel
set_option maxRecDepth 20000 in
theorem dL_law_583 : decode cL_law 583 = .ok (.iconst 1, 1) := by decide +kernel
set_option maxRecDepth 20000 in
theorem dL_law_584 : decode cL_law 584 = .ok (.iadd, 1) := by decide +kernel
set_option maxRecDepth 20000 in
theorem dL_law_585 : decode cL_law 585 = .ok (.iaload, 1) := by decide +kernel
set_option maxRecDepth 20000 in
theorem dL_law_586 : decode cL_law 586 = .ok (.aload_n 0, 1) := by decide +kernel
set_option maxRecDepth 20000 in
theorem dL_law_587 : decode cL_law 587 = .ok (.iload_n 3, 1) := by decide +kernel
set_option maxRecDepth 20000 in
theorem dL_law_588 : decode cL_law 588 = .ok (.iconst 2, 1) := by decide +kernel
set_option maxRecDepth 20000 in
theorem dL_law_589 : decode cL_law 589 = .ok (.iadd, 1) := by decide +kernel
set_option maxRecDepth 20000 in
theorem dL_law_590 : decode cL_law 590 = .ok (.iaload, 1) := by decide +kernel
set_option maxRecDepth 20000 in
theorem dL_law_591 : decode cL_law 591 = .ok (.aload_n 0, 1) := by decide +kernel
set_option maxRecDepth 20000 in
theorem dL_law_592 : decode cL_law 592 = .ok (.iload_n 3, 1) := by decide +kernel
set_option maxRecDepth 20000 in
theorem dL_law_593 : decode cL_law 593 = .ok (.iconst 3, 1) := by decide +kernel
set_option maxRecDepth 20000 in
theorem dL_law_594 : decode cL_law 594 = .ok (.iadd, 1) := by decide +kernel
set_option maxRecDepth 20000 in
theorem dL_law_595 : decode cL_law 595 = .ok (.iaload, 1) := by decide +kernel
set_option maxRecDepth 20000 in
theorem dL_law_596 : decode cL_law 596 = .ok (.invokevirtual 72, 3) := by decide +kernel
set_option maxRecDepth 20000 in
theorem dL_law_599 : decode cL_law 599 = .ok (.if_icmp .eq 826, 3) := by decide +kernel
set_option maxRecDepth 20000 in
theorem dL_law_602 : decode cL_law 602 = .ok (.iconst 0, 1) := by decide +kernel
set_option maxRecDepth 20000 in
theorem dL_law_603 : decode cL_law 603 = .ok (.ireturn, 1) := by decide +kernel
set_option maxRecDepth 20000 in
theorem dL_law_604 : decode cL_law 604 = .ok (.aload_n 1, 1) := by decide +kernel
set_option maxRecDepth 20000 in
theorem dL_law_605 : decode cL_law 605 = .ok (.aload_n 0, 1) := by decide +kernel
set_option maxRecDepth 20000 in
theorem dL_law_606 : decode cL_law 606 = .ok (.iload_n 3, 1) := by decide +kernel
set_option maxRecDepth 20000 in
theorem dL_law_607 : decode cL_law 607 = .ok (.iconst 1, 1) := by decide +kernel
set_option maxRecDepth 20000 in
theorem dL_law_608 : decode cL_law 608 = .ok (.iadd, 1) := by decide +kernel
set_option maxRecDepth 20000 in
theorem dL_law_609 : decode cL_law 609 = .ok (.iaload, 1) := by decide +kernel
set_option maxRecDepth 20000 in
theorem dL_law_610 : decode cL_law 610 = .ok (.aload_n 0, 1) := by decide +kernel
set_option maxRecDepth 20000 in
theorem dL_law_611 : decode cL_law 611 = .ok (.iload_n 3, 1) := by decide +kernel
set_option maxRecDepth 20000 in
theorem dL_law_612 : decode cL_law 612 = .ok (.iconst 2, 1) := by decide +kernel
set_option maxRecDepth 20000 in
theorem dL_law_613 : decode cL_law 613 = .ok (.iadd, 1) := by decide +kernel
set_option maxRecDepth 20000 in
theorem dL_law_614 : decode cL_law 614 = .ok (.iaload, 1) := by decide +kernel
set_option maxRecDepth 20000 in
theorem dL_law_615 : decode cL_law 615 = .ok (.aload_n 0, 1) := by decide +kernel
set_option maxRecDepth 20000 in
theorem dL_law_616 : decode cL_law 616 = .ok (.iload_n 3, 1) := by decide +kernel
set_option maxRecDepth 20000 in
theorem dL_law_617 : decode cL_law 617 = .ok (.iconst 3, 1) := by decide +kernel
set_option maxRecDepth 20000 in
theorem dL_law_618 : decode cL_law 618 = .ok (.iadd, 1) := by decide +kernel
set_option maxRecDepth 20000 in
theorem dL_law_619 : decode cL_law 619 = .ok (.iaload, 1) := by decide +kernel
set_option maxRecDepth 20000 in
theorem dL_law_620 : decode cL_law 620 = .ok (.aload_n 0, 1) := by decide +kernel
set_option maxRecDepth 20000 in
theorem dL_law_621 : decode cL_law 621 = .ok (.iload_n 3, 1) := by decide +kernel
set_option maxRecDepth 20000 in
theorem dL_law_622 : decode cL_law 622 = .ok (.iconst 4, 1) := by decide +kernel
set_option maxRecDepth 20000 in
theorem dL_law_623 : decode cL_law 623 = .ok (.iadd, 1) := by decide +kernel
set_option maxRecDepth 20000 in
theorem dL_law_624 : decode cL_law 624 = .ok (.iaload, 1) := by decide +kernel
set_option maxRecDepth 20000 in
theorem dL_law_625 : decode cL_law 625 = .ok (.aload_n 0, 1) := by decide +kernel
set_option maxRecDepth 20000 in
theorem dL_law_626 : decode cL_law 626 = .ok (.iload_n 3, 1) := by decide +kernel
set_option maxRecDepth 20000 in
theorem dL_law_627 : decode cL_law 627 = .ok (.iconst 5, 1) := by decide +kernel
set_option maxRecDepth 20000 in
theorem dL_law_628 : decode cL_law 628 = .ok (.iadd, 1) := by decide +kernel
set_option maxRecDepth 20000 in
theorem dL_law_629 : decode cL_law 629 = .ok (.iaload, 1) := by decide +kernel
set_option maxRecDepth 20000 in
theorem dL_law_630 : decode cL_law 630 = .ok (.invokevirtual 73, 3) := by decide +kernel
set_option maxRecDepth 20000 in
theorem dL_law_633 : decode cL_law 633 = .ok (.aload_n 2, 1) := by decide +kernel
set_option maxRecDepth 20000 in
theorem dL_law_634 : decode cL_law 634 = .ok (.aload_n 0, 1) := by decide +kernel
set_option maxRecDepth 20000 in
theorem dL_law_635 : decode cL_law 635 = .ok (.iload_n 3, 1) := by decide +kernel
set_option maxRecDepth 20000 in
theorem dL_law_636 : decode cL_law 636 = .ok (.iconst 1, 1) := by decide +kernel
set_option maxRecDepth 20000 in
theorem dL_law_637 : decode cL_law 637 = .ok (.iadd, 1) := by decide +kernel
set_option maxRecDepth 20000 in
theorem dL_law_638 : decode cL_law 638 = .ok (.iaload, 1) := by decide +kernel
set_option maxRecDepth 20000 in
theorem dL_law_639 : decode cL_law 639 = .ok (.aload_n 0, 1) := by decide +kernel
set_option maxRecDepth 20000 in
theorem dL_law_640 : decode cL_law 640 = .ok (.iload_n 3, 1) := by decide +kernel
set_option maxRecDepth 20000 in
theorem dL_law_641 : decode cL_law 641 = .ok (.iconst 2, 1) := by decide +kernel
set_option maxRecDepth 20000 in
theorem dL_law_642 : decode cL_law 642 = .ok (.iadd, 1) := by decide +kernel
set_option maxRecDepth 20000 in
theorem dL_law_643 : decode cL_law 643 = .ok (.iaload, 1) := by decide +kernel
set_option maxRecDepth 20000 in
theorem dL_law_644 : decode cL_law 644 = .ok (.aload_n 0, 1) := by decide +kernel
set_option maxRecDepth 20000 in
theorem dL_law_645 : decode cL_law 645 = .ok (.iload_n 3, 1) := by decide +kernel
set_option maxRecDepth 20000 in
theorem dL_law_646 : decode cL_law 646 = .ok (.iconst 3, 1) := by decide +kernel
set_option maxRecDepth 20000 in
theorem dL_law_647 : decode cL_law 647 = .ok (.iadd, 1) := by decide +kernel
set_option maxRecDepth 20000 in
theorem dL_law_648 : decode cL_law 648 = .ok (.iaload, 1) := by decide +kernel
set_option maxRecDepth 20000 in
theorem dL_law_649 : decode cL_law 649 = .ok (.aload_n 0, 1) := by decide +kernel
set_option maxRecDepth 20000 in
theorem dL_law_650 : decode cL_law 650 = .ok (.iload_n 3, 1) := by decide +kernel
set_option maxRecDepth 20000 in
theorem dL_law_651 : decode cL_law 651 = .ok (.iconst 4, 1) := by decide +kernel
set_option maxRecDepth 20000 in
theorem dL_law_652 : decode cL_law 652 = .ok (.iadd, 1) := by decide +kernel
set_option maxRecDepth 20000 in
theorem dL_law_653 : decode cL_law 653 = .ok (.iaload, 1) := by decide +kernel
set_option maxRecDepth 20000 in
theorem dL_law_654 : decode cL_law 654 = .ok (.aload_n 0, 1) := by decide +kernel
set_option maxRecDepth 20000 in
theorem dL_law_655 : decode cL_law 655 = .ok (.iload_n 3, 1) := by decide +kernel
set_option maxRecDepth 20000 in
theorem dL_law_656 : decode cL_law 656 = .ok (.iconst 5, 1) := by decide +kernel
set_option maxRecDepth 20000 in
theorem dL_law_657 : decode cL_law 657 = .ok (.iadd, 1) := by decide +kernel
set_option maxRecDepth 20000 in
theorem dL_law_658 : decode cL_law 658 = .ok (.iaload, 1) := by decide +kernel
set_option maxRecDepth 20000 in
theorem dL_law_659 : decode cL_law 659 = .ok (.invokevirtual 77, 3) := by decide +kernel
set_option maxRecDepth 20000 in
theorem dL_law_662 : decode cL_law 662 = .ok (.if_icmp .eq 763, 3) := by decide +kernel
set_option maxRecDepth 20000 in
theorem dL_law_665 : decode cL_law 665 = .ok (.iconst 0, 1) := by decide +kernel
set_option maxRecDepth 20000 in
theorem dL_law_666 : decode cL_law 666 = .ok (.ireturn, 1) := by decide +kernel
set_option maxRecDepth 20000 in
theorem dL_law_667 : decode cL_law 667 = .ok (.aload_n 1, 1) := by decide +kernel
set_option maxRecDepth 20000 in
theorem dL_law_668 : decode cL_law 668 = .ok (.aload_n 0, 1) := by decide +kernel
set_option maxRecDepth 20000 in
theorem dL_law_669 : decode cL_law 669 = .ok (.iload_n 3, 1) := by decide +kernel
set_option maxRecDepth 20000 in
theorem dL_law_670 : decode cL_law 670 = .ok (.iconst 1, 1) := by decide +kernel
set_option maxRecDepth 20000 in
theorem dL_law_671 : decode cL_law 671 = .ok (.iadd, 1) := by decide +kernel
set_option maxRecDepth 20000 in
theorem dL_law_672 : decode cL_law 672 = .ok (.iaload, 1) := by decide +kernel
set_option maxRecDepth 20000 in
theorem dL_law_673 : decode cL_law 673 = .ok (.aload_n 0, 1) := by decide +kernel
set_option maxRecDepth 20000 in
theorem dL_law_674 : decode cL_law 674 = .ok (.iload_n 3, 1) := by decide +kernel
set_option maxRecDepth 20000 in
theorem dL_law_675 : decode cL_law 675 = .ok (.iconst 2, 1) := by decide +kernel
set_option maxRecDepth 20000 in
theorem dL_law_676 : decode cL_law 676 = .ok (.iadd, 1) := by decide +kernel
set_option maxRecDepth 20000 in
theorem dL_law_677 : decode cL_law 677 = .ok (.iaload, 1) := by decide +kernel
set_option maxRecDepth 20000 in
theorem dL_law_678 : decode cL_law 678 = .ok (.invokevirtual 78, 3) := by decide +kernel
set_option maxRecDepth 20000 in
theorem dL_law_681 : decode cL_law 681 = .ok (.aload_n 2, 1) := by decide +kernel
set_option maxRecDepth 20000 in
theorem dL_law_682 : decode cL_law 682 = .ok (.aload_n 0, 1) := by decide +kernel
set_option maxRecDepth 20000 in
theorem dL_law_683 : decode cL_law 683 = .ok (.iload_n 3, 1) := by decide +kernel
set_option maxRecDepth 20000 in
theorem dL_law_684 : decode cL_law 684 = .ok (.iconst 1, 1) := by decide +kernel
set_option maxRecDepth 20000 in
theorem dL_law_685 : decode cL_law 685 = .ok (.iadd, 1) := by decide +kernel
set_option maxRecDepth 20000 in
theorem dL_law_686 : decode cL_law 686 = .ok (.iaload, 1) := by decide +kernel
set_option maxRecDepth 20000 in
theorem dL_law_687 : decode cL_law 687 = .ok (.aload_n 0, 1) := by decide +kernel
set_option maxRecDepth 20000 in
theorem dL_law_688 : decode cL_law 688 = .ok (.iload_n 3, 1) := by decide +kernel
set_option maxRecDepth 20000 in
theorem dL_law_689 : decode cL_law 689 = .ok (.iconst 2, 1) := by decide +kernel
set_option maxRecDepth 20000 in
theorem dL_law_690 : decode cL_law 690 = .ok (.iadd, 1) := by decide +kernel
set_option maxRecDepth 20000 in
theorem dL_law_691 : decode cL_law 691 = .ok (.iaload, 1) := by decide +kernel
set_option maxRecDepth 20000 in
theorem dL_law_692 : decode cL_law 692 = .ok (.invokevirtual 81, 3) := by decide +kernel
set_option maxRecDepth 20000 in
theorem dL_law_695 : decode cL_law 695 = .ok (.if_icmp .eq 730, 3) := by decide +kernel
set_option maxRecDepth 20000 in
theorem dL_law_698 : decode cL_law 698 = .ok (.iconst 0, 1) := by decide +kernel
set_option maxRecDepth 20000 in
theorem dL_law_699 : decode cL_law 699 = .ok (.ireturn, 1) := by decide +kernel
set_option maxRecDepth 20000 in
theorem dL_law_700 : decode cL_law 700 = .ok (.aload_n 1, 1) := by decide +kernel
set_option maxRecDepth 20000 in
theorem dL_law_701 : decode cL_law 701 = .ok (.aload_n 0, 1) := by decide +kernel
set_option maxRecDepth 20000 in
theorem dL_law_702 : decode cL_law 702 = .ok (.iload_n 3, 1) := by decide +kernel
set_option maxRecDepth 20000 in
theorem dL_law_703 : decode cL_law 703 = .ok (.iconst 1, 1) := by decide +kernel
set_option maxRecDepth 20000 in
theorem dL_law_704 : decode cL_law 704 = .ok (.iadd, 1) := by decide +kernel
set_option maxRecDepth 20000 in
theorem dL_law_705 : decode cL_law 705 = .ok (.iaload, 1) := by decide +kernel
set_option maxRecDepth 20000 in
theorem dL_law_706 : decode cL_law 706 = .ok (.aload_n 0, 1) := by decide +kernel
set_option maxRecDepth 20000 in
theorem dL_law_707 : decode cL_law 707 = .ok (.iload_n 3, 1) := by decide +kernel
set_option maxRecDepth 20000 in
theorem dL_law_708 : decode cL_law 708 = .ok (.iconst 2, 1) := by decide +kernel
set_option maxRecDepth 20000 in
theorem dL_law_709 : decode cL_law 709 = .ok (.iadd, 1) := by decide +kernel
set_option maxRecDepth 20000 in
theorem dL_law_710 : decode cL_law 710 = .ok (.iaload, 1) := by decide +kernel
set_option maxRecDepth 20000 in
theorem dL_law_711 : decode cL_law 711 = .ok (.invokevirtual 82, 3) := by decide +kernel
set_option maxRecDepth 20000 in
theorem dL_law_714 : decode cL_law 714 = .ok (.aload_n 2, 1) := by decide +kernel
set_option maxRecDepth 20000 in
theorem dL_law_715 : decode cL_law 715 = .ok (.aload_n 0, 1) := by decide +kernel
set_option maxRecDepth 20000 in
theorem dL_law_716 : decode cL_law 716 = .ok (.iload_n 3, 1) := by decide +kernel
set_option maxRecDepth 20000 in
theorem dL_law_717 : decode cL_law 717 = .ok (.iconst 1, 1) := by decide +kernel
set_option maxRecDepth 20000 in
theorem dL_law_718 : decode cL_law 718 = .ok (.iadd, 1) := by decide +kernel
set_option maxRecDepth 20000 in
theorem dL_law_719 : decode cL_law 719 = .ok (.iaload, 1) := by decide +kernel
set_option maxRecDepth 20000 in
theorem dL_law_720 : decode cL_law 720 = .ok (.aload_n 0, 1) := by decide +kernel
set_option maxRecDepth 20000 in
theorem dL_law_721 : decode cL_law 721 = .ok (.iload_n 3, 1) := by decide +kernel
set_option maxRecDepth 20000 in
theorem dL_law_722 : decode cL_law 722 = .ok (.iconst 2, 1) := by decide +kernel
set_option maxRecDepth 20000 in
theorem dL_law_723 : decode cL_law 723 = .ok (.iadd, 1) := by decide +kernel
set_option maxRecDepth 20000 in
theorem dL_law_724 : decode cL_law 724 = .ok (.iaload, 1) := by decide +kernel
set_option maxRecDepth 20000 in
theorem dL_law_725 : decode cL_law 725 = .ok (.invokevirtual 85, 3) := by decide +kernel
set_option maxRecDepth 20000 in
theorem dL_law_728 : decode cL_law 728 = .ok (.if_icmp .eq 697, 3) := by decide +kernel
set_option maxRecDepth 20000 in
theorem dL_law_731 : decode cL_law 731 = .ok (.iconst 0, 1) := by decide +kernel
set_option maxRecDepth 20000 in
theorem dL_law_732 : decode cL_law 732 = .ok (.ireturn, 1) := by decide +kernel
set_option maxRecDepth 20000 in
theorem dL_law_733 : decode cL_law 733 = .ok (.aload_n 1, 1) := by decide +kernel
set_option maxRecDepth 20000 in
theorem dL_law_734 : decode cL_law 734 = .ok (.aload_n 0, 1) := by decide +kernel
set_option maxRecDepth 20000 in
theorem dL_law_735 : decode cL_law 735 = .ok (.iload_n 3, 1) := by decide +kernel
set_option maxRecDepth 20000 in
theorem dL_law_736 : decode cL_law 736 = .ok (.iconst 1, 1) := by decide +kernel
set_option maxRecDepth 20000 in
theorem dL_law_737 : decode cL_law 737 = .ok (.iadd, 1) := by decide +kernel
set_option maxRecDepth 20000 in
theorem dL_law_738 : decode cL_law 738 = .ok (.iaload, 1) := by decide +kernel
set_option maxRecDepth 20000 in
theorem dL_law_739 : decode cL_law 739 = .ok (.aload_n 0, 1) := by decide +kernel
set_option maxRecDepth 20000 in
theorem dL_law_740 : decode cL_law 740 = .ok (.iload_n 3, 1) := by decide +kernel
set_option maxRecDepth 20000 in
theorem dL_law_741 : decode cL_law 741 = .ok (.iconst 2, 1) := by decide +kernel
set_option maxRecDepth 20000 in
theorem dL_law_742 : decode cL_law 742 = .ok (.iadd, 1) := by decide +kernel
set_option maxRecDepth 20000 in
theorem dL_law_743 : decode cL_law 743 = .ok (.iaload, 1) := by decide +kernel
set_option maxRecDepth 20000 in
theorem dL_law_744 : decode cL_law 744 = .ok (.aload_n 0, 1) := by decide +kernel
set_option maxRecDepth 20000 in
theorem dL_law_745 : decode cL_law 745 = .ok (.iload_n 3, 1) := by decide +kernel
set_option maxRecDepth 20000 in
theorem dL_law_746 : decode cL_law 746 = .ok (.iconst 3, 1) := by decide +kernel
set_option maxRecDepth 20000 in
theorem dL_law_747 : decode cL_law 747 = .ok (.iadd, 1) := by decide +kernel
set_option maxRecDepth 20000 in
theorem dL_law_748 : decode cL_law 748 = .ok (.iaload, 1) := by decide +kernel
set_option maxRecDepth 20000 in
theorem dL_law_749 : decode cL_law 749 = .ok (.aload_n 0, 1) := by decide +kernel
set_option maxRecDepth 20000 in
theorem dL_law_750 : decode cL_law 750 = .ok (.iload_n 3, 1) := by decide +kernel
set_option maxRecDepth 20000 in
theorem dL_law_751 : decode cL_law 751 = .ok (.iconst 4, 1) := by decide +kernel
set_option maxRecDepth 20000 in
theorem dL_law_752 : decode cL_law 752 = .ok (.iadd, 1) := by decide +kernel
set_option maxRecDepth 20000 in
theorem dL_law_753 : decode cL_law 753 = .ok (.iaload, 1) := by decide +kernel
set_option maxRecDepth 20000 in
theorem dL_law_754 : decode cL_law 754 = .ok (.aload_n 0, 1) := by decide +kernel
set_option maxRecDepth 20000 in
theorem dL_law_755 : decode cL_law 755 = .ok (.iload_n 3, 1) := by decide +kernel
set_option maxRecDepth 20000 in
theorem dL_law_756 : decode cL_law 756 = .ok (.iconst 5, 1) := by decide +kernel
set_option maxRecDepth 20000 in
theorem dL_law_757 : decode cL_law 757 = .ok (.iadd, 1) := by decide +kernel
set_option maxRecDepth 20000 in
theorem dL_law_758 : decode cL_law 758 = .ok (.iaload, 1) := by decide +kernel
set_option maxRecDepth 20000 in
theorem dL_law_759 : decode cL_law 759 = .ok (.invokevirtual 86, 3) := by decide +kernel
set_option maxRecDepth 20000 in
theorem dL_law_762 : decode cL_law 762 = .ok (.aload_n 2, 1) := by decide +kernel
set_option maxRecDepth 20000 in
theorem dL_law_763 : decode cL_law 763 = .ok (.aload_n 0, 1) := by decide +kernel
set_option maxRecDepth 20000 in
theorem dL_law_764 : decode cL_law 764 = .ok (.iload_n 3, 1) := by decide +kernel
set_option maxRecDepth 20000 in
theorem dL_law_765 : decode cL_law 765 = .ok (.iconst 1, 1) := by decide +kernel
set_option maxRecDepth 20000 in
theorem dL_law_766 : decode cL_law 766 = .ok (.iadd, 1) := by decide +kernel
set_option maxRecDepth 20000 in
theorem dL_law_767 : decode cL_law 767 = .ok (.iaload, 1) := by decide +kernel
set_option maxRecDepth 20000 in
theorem dL_law_768 : decode cL_law 768 = .ok (.aload_n 0, 1) := by decide +kernel
set_option maxRecDepth 20000 in
theorem dL_law_769 : decode cL_law 769 = .ok (.iload_n 3, 1) := by decide +kernel
set_option maxRecDepth 20000 in
theorem dL_law_770 : decode cL_law 770 = .ok (.iconst 2, 1) := by decide +kernel
set_option maxRecDepth 20000 in
theorem dL_law_771 : decode cL_law 771 = .ok (.iadd, 1) := by decide +kernel
set_option maxRecDepth 20000 in
theorem dL_law_772 : decode cL_law 772 = .ok (.iaload, 1) := by decide +kernel
set_option maxRecDepth 20000 in
theorem dL_law_773 : decode cL_law 773 = .ok (.aload_n 0, 1) := by decide +kernel
set_option maxRecDepth 20000 in
theorem dL_law_774 : decode cL_law 774 = .ok (.iload_n 3, 1) := by decide +kernel
set_option maxRecDepth 20000 in
theorem dL_law_775 : decode cL_law 775 = .ok (.iconst 3, 1) := by decide +kernel
set_option maxRecDepth 20000 in
theorem dL_law_776 : decode cL_law 776 = .ok (.iadd, 1) := by decide +kernel
set_option maxRecDepth 20000 in
theorem dL_law_777 : decode cL_law 777 = .ok (.iaload, 1) := by decide +kernel
set_option maxRecDepth 20000 in
theorem dL_law_778 : decode cL_law 778 = .ok (.aload_n 0, 1) := by decide +kernel
set_option maxRecDepth 20000 in
theorem dL_law_779 : decode cL_law 779 = .ok (.iload_n 3, 1) := by decide +kernel
set_option maxRecDepth 20000 in
theorem dL_law_780 : decode cL_law 780 = .ok (.iconst 4, 1) := by decide +kernel
set_option maxRecDepth 20000 in
theorem dL_law_781 : decode cL_law 781 = .ok (.iadd, 1) := by decide +kernel
set_option maxRecDepth 20000 in
theorem dL_law_782 : decode cL_law 782 = .ok (.iaload, 1) := by decide +kernel
set_option maxRecDepth 20000 in
theorem dL_law_783 : decode cL_law 783 = .ok (.aload_n 0, 1) := by decide +kernel
set_option maxRecDepth 20000 in
theorem dL_law_784 : decode cL_law 784 = .ok (.iload_n 3, 1) := by decide +kernel
set_option maxRecDepth 20000 in
theorem dL_law_785 : decode cL_law 785 = .ok (.iconst 5, 1) := by decide +kernel
set_option maxRecDepth 20000 in
theorem dL_law_786 : decode cL_law 786 = .ok (.iadd, 1) := by decide +kernel
set_option maxRecDepth 20000 in
theorem dL_law_787 : decode cL_law 787 = .ok (.iaload, 1) := by decide +kernel
set_option maxRecDepth 20000 in
theorem dL_law_788 : decode cL_law 788 = .ok (.invokevirtual 90, 3) := by decide +kernel
set_option maxRecDepth 20000 in
theorem dL_law_791 : decode cL_law 791 = .ok (.lcmp, 1) := by decide +kernel
set_option maxRecDepth 20000 in
theorem dL_law_792 : decode cL_law 792 = .ok (.ifCond .eq 633, 3) := by decide +kernel
set_option maxRecDepth 20000 in
theorem dL_law_795 : decode cL_law 795 = .ok (.iconst 0, 1) := by decide +kernel
set_option maxRecDepth 20000 in
theorem dL_law_796 : decode cL_law 796 = .ok (.ireturn, 1) := by decide +kernel
set_option maxRecDepth 20000 in
theorem dL_law_797 : decode cL_law 797 = .ok (.aload_n 1, 1) := by decide +kernel
end
section
set_option maxRecDepth 20000 in
theorem dL_law_798 : decode cL_law 798 = .ok (.aload_n 0, 1) := by decide +kernel
set_option maxRecDepth 20000 in
theorem dL_law_799 : decode cL_law 799 = .ok (.iload_n 3, 1) := by decide +kernel
set_option maxRecDepth 20000 in
theorem dL_law_800 : decode cL_law 800 = .ok (.iconst 1, 1) := by decide +kernel
set_option maxRecDepth 20000 in
theorem dL_law_801 : decode cL_law 801 = .ok (.iadd, 1) := by decide +kernel
set_option maxRecDepth 20000 in
theorem dL_law_802 : decode cL_law 802 = .ok (.iaload, 1) := by decide +kernel
set_option maxRecDepth 20000 in
theorem dL_law_803 : decode cL_law 803 = .ok (.aload_n 0, 1) := by decide +kernel
set_option maxRecDepth 20000 in
theorem dL_law_804 : decode cL_law 804 = .ok (.iload_n 3, 1) := by decide +kernel
set_option maxRecDepth 20000 in
theorem dL_law_805 : decode cL_law 805 = .ok (.iconst 2, 1) := by decide +kernel
set_option maxRecDepth 20000 in
theorem dL_law_806 : decode cL_law 806 = .ok (.iadd, 1) := by decide +kernel
set_option maxRecDepth 20000 in
theorem dL_law_807 : decode cL_law 807 = .ok (.iaload, 1) := by decide +kernel
set_option maxRecDepth 20000 in
theorem dL_law_808 : decode cL_law 808 = .ok (.aload_n 0, 1) := by decide +kernel
set_option maxRecDepth 20000 in
theorem dL_law_809 : decode cL_law 809 = .ok (.iload_n 3, 1) := by decide +kernel
set_option maxRecDepth 20000 in
theorem dL_law_810 : decode cL_law 810 = .ok (.iconst 3, 1) := by decide +kernel
set_option maxRecDepth 20000 in
theorem dL_law_811 : decode cL_law 811 = .ok (.iadd, 1) := by decide +kernel
set_option maxRecDepth 20000 in
theorem dL_law_812 : decode cL_law 812 = .ok (.iaload, 1) := by decide +kernel
set_option maxRecDepth 20000 in
theorem dL_law_813 : decode cL_law 813 = .ok (.aload_n 0, 1) := by decide +kernel
set_option maxRecDepth 20000 in
theorem dL_law_814 : decode cL_law 814 = .ok (.iload_n 3, 1) := by decide +kernel
set_option maxRecDepth 20000 in
theorem dL_law_815 : decode cL_law 815 = .ok (.iconst 4, 1) := by decide +kernel
set_option maxRecDepth 20000 in
theorem dL_law_816 : decode cL_law 816 = .ok (.iadd, 1) := by decide +kernel
set_option maxRecDepth 20000 in
theorem dL_law_817 : decode cL_law 817 = .ok (.iaload, 1) := by decide +kernel
set_option maxRecDepth 20000 in
theorem dL_law_818 : decode cL_law 818 = .ok (.invokevirtual 91, 3) := by decide +kernel
set_option maxRecDepth 20000 in
theorem dL_law_821 : decode cL_law 821 = .ok (.aload_n 2, 1) := by decide +kernel
set_option maxRecDepth 20000 in
theorem dL_law_822 : decode cL_law 822 = .ok (.aload_n 0, 1) := by decide +kernel
set_option maxRecDepth 20000 in
theorem dL_law_823 : decode cL_law 823 = .ok (.iload_n 3, 1) := by decide +kernel
set_option maxRecDepth 20000 in
theorem dL_law_824 : decode cL_law 824 = .ok (.iconst 1, 1) := by decide +kernel
set_option maxRecDepth 20000 in
theorem dL_law_825 : decode cL_law 825 = .ok (.iadd, 1) := by decide +kernel
set_option maxRecDepth 20000 in
theorem dL_law_826 : decode cL_law 826 = .ok (.iaload, 1) := by decide +kernel
set_option maxRecDepth 20000 in
theorem dL_law_827 : decode cL_law 827 = .ok (.aload_n 0, 1) := by decide +kernel
set_option maxRecDepth 20000 in
theorem dL_law_828 : decode cL_law 828 = .ok (.iload_n 3, 1) := by decide +kernel
set_option maxRecDepth 20000 in
theorem dL_law_829 : decode cL_law 829 = .ok (.iconst 2, 1) := by decide +kernel
set_option maxRecDepth 20000 in
theorem dL_law_830 : decode cL_law 830 = .ok (.iadd, 1) := by decide +kernel
set_option maxRecDepth 20000 in
theorem dL_law_831 : decode cL_law 831 = .ok (.iaload, 1) := by decide +kernel
set_option maxRecDepth 20000 in
theorem dL_law_832 : decode cL_law 832 = .ok (.aload_n 0, 1) := by decide +kernel
set_option maxRecDepth 20000 in
theorem dL_law_833 : decode cL_law 833 = .ok (.iload_n 3, 1) := by decide +kernel
set_option maxRecDepth 20000 in
theorem dL_law_834 : decode cL_law 834 = .ok (.iconst 3, 1) := by decide +kernel
set_option maxRecDepth 20000 in
theorem dL_law_835 : decode cL_law 835 = .ok (.iadd, 1) := by decide +kernel
set_option maxRecDepth 20000 in
theorem dL_law_836 : decode cL_law 836 = .ok (.iaload, 1) := by decide +kernel
set_option maxRecDepth 20000 in
theorem dL_law_837 : decode cL_law 837 = .ok (.aload_n 0, 1) := by decide +kernel
set_option maxRecDepth 20000 in
theorem dL_law_838 : decode cL_law 838 = .ok (.iload_n 3, 1) := by decide +kernel
set_option maxRecDepth 20000 in
theorem dL_law_839 : decode cL_law 839 = .ok (.iconst 4, 1) := by decide +kernel
set_option maxRecDepth 20000 in
theorem dL_law_840 : decode cL_law 840 = .ok (.iadd, 1) := by decide +kernel
set_option maxRecDepth 20000 in
theorem dL_law_841 : decode cL_law 841 = .ok (.iaload, 1) := by decide +kernel
set_option maxRecDepth 20000 in
theorem dL_law_842 : decode cL_law 842 = .ok (.invokevirtual 95, 3) := by decide +kernel
set_option maxRecDepth 20000 in
theorem dL_law_845 : decode cL_law 845 = .ok (.if_icmp .eq 580, 3) := by decide +kernel
set_option maxRecDepth 20000 in
theorem dL_law_848 : decode cL_law 848 = .ok (.iconst 0, 1) := by decide +kernel
set_option maxRecDepth 20000 in
theorem dL_law_849 : decode cL_law 849 = .ok (.ireturn, 1) := by decide +kernel
set_option maxRecDepth 20000 in
theorem dL_law_850 : decode cL_law 850 = .ok (.aload_n 1, 1) := by decide +kernel
set_option maxRecDepth 20000 in
theorem dL_law_851 : decode cL_law 851 = .ok (.aload_n 0, 1) := by decide +kernel
set_option maxRecDepth 20000 in
theorem dL_law_852 : decode cL_law 852 = .ok (.iload_n 3, 1) := by decide +kernel
set_option maxRecDepth 20000 in
theorem dL_law_853 : decode cL_law 853 = .ok (.iconst 1, 1) := by decide +kernel
set_option maxRecDepth 20000 in
theorem dL_law_854 : decode cL_law 854 = .ok (.iadd, 1) := by decide +kernel
set_option maxRecDepth 20000 in
theorem dL_law_855 : decode cL_law 855 = .ok (.iaload, 1) := by decide +kernel
set_option maxRecDepth 20000 in
theorem dL_law_856 : decode cL_law 856 = .ok (.aload_n 0, 1) := by decide +kernel
set_option maxRecDepth 20000 in
theorem dL_law_857 : decode cL_law 857 = .ok (.iload_n 3, 1) := by decide +kernel
set_option maxRecDepth 20000 in
theorem dL_law_858 : decode cL_law 858 = .ok (.iconst 2, 1) := by decide +kernel
set_option maxRecDepth 20000 in
theorem dL_law_859 : decode cL_law 859 = .ok (.iadd, 1) := by decide +kernel
set_option maxRecDepth 20000 in
theorem dL_law_860 : decode cL_law 860 = .ok (.iaload, 1) := by decide +kernel
set_option maxRecDepth 20000 in
theorem dL_law_861 : decode cL_law 861 = .ok (.aload_n 0, 1) := by decide +kernel
set_option maxRecDepth 20000 in
theorem dL_law_862 : decode cL_law 862 = .ok (.iload_n 3, 1) := by decide +kernel
set_option maxRecDepth 20000 in
theorem dL_law_863 : decode cL_law 863 = .ok (.iconst 3, 1) := by decide +kernel
set_option maxRecDepth 20000 in
theorem dL_law_864 : decode cL_law 864 = .ok (.iadd, 1) := by decide +kernel
set_option maxRecDepth 20000 in
theorem dL_law_865 : decode cL_law 865 = .ok (.iaload, 1) := by decide +kernel
set_option maxRecDepth 20000 in
theorem dL_law_866 : decode cL_law 866 = .ok (.aload_n 0, 1) := by decide +kernel
set_option maxRecDepth 20000 in
theorem dL_law_867 : decode cL_law 867 = .ok (.iload_n 3, 1) := by decide +kernel
set_option maxRecDepth 20000 in
theorem dL_law_868 : decode cL_law 868 = .ok (.iconst 4, 1) := by decide +kernel
set_option maxRecDepth 20000 in
theorem dL_law_869 : decode cL_law 869 = .ok (.iadd, 1) := by decide +kernel
set_option maxRecDepth 20000 in
theorem dL_law_870 : decode cL_law 870 = .ok (.iaload, 1) := by decide +kernel
set_option maxRecDepth 20000 in
theorem dL_law_871 : decode cL_law 871 = .ok (.aload_n 0, 1) := by decide +kernel
set_option maxRecDepth 20000 in
theorem dL_law_872 : decode cL_law 872 = .ok (.iload_n 3, 1) := by decide +kernel
set_option maxRecDepth 20000 in
theorem dL_law_873 : decode cL_law 873 = .ok (.iconst 5, 1) := by decide +kernel
set_option maxRecDepth 20000 in
theorem dL_law_874 : decode cL_law 874 = .ok (.iadd, 1) := by decide +kernel
set_option maxRecDepth 20000 in
theorem dL_law_875 : decode cL_law 875 = .ok (.iaload, 1) := by decide +kernel
set_option maxRecDepth 20000 in
theorem dL_law_876 : decode cL_law 876 = .ok (.aload_n 0, 1) := by decide +kernel
set_option maxRecDepth 20000 in
theorem dL_law_877 : decode cL_law 877 = .ok (.iload_n 3, 1) := by decide +kernel
set_option maxRecDepth 20000 in
theorem dL_law_878 : decode cL_law 878 = .ok (.bipush 6, 2) := by decide +kernel
set_option maxRecDepth 20000 in
theorem dL_law_880 : decode cL_law 880 = .ok (.iadd, 1) := by decide +kernel
set_option maxRecDepth 20000 in
theorem dL_law_881 : decode cL_law 881 = .ok (.iaload, 1) := by decide +kernel
set_option maxRecDepth 20000 in
theorem dL_law_882 : decode cL_law 882 = .ok (.invokevirtual 96, 3) := by decide +kernel
set_option maxRecDepth 20000 in
theorem dL_law_885 : decode cL_law 885 = .ok (.aload_n 2, 1) := by decide +kernel
set_option maxRecDepth 20000 in
theorem dL_law_886 : decode cL_law 886 = .ok (.aload_n 0, 1) := by decide +kernel
set_option maxRecDepth 20000 in
theorem dL_law_887 : decode cL_law 887 = .ok (.iload_n 3, 1) := by decide +kernel
set_option maxRecDepth 20000 in
theorem dL_law_888 : decode cL_law 888 = .ok (.iconst 1, 1) := by decide +kernel
set_option maxRecDepth 20000 in
theorem dL_law_889 : decode cL_law 889 = .ok (.iadd, 1) := by decide +kernel
set_option maxRecDepth 20000 in
theorem dL_law_890 : decode cL_law 890 = .ok (.iaload, 1) := by decide +kernel
set_option maxRecDepth 20000 in
theorem dL_law_891 : decode cL_law 891 = .ok (.aload_n 0, 1) := by decide +kernel
set_option maxRecDepth 20000 in
theorem dL_law_892 : decode cL_law 892 = .ok (.iload_n 3, 1) := by decide +kernel
set_option maxRecDepth 20000 in
theorem dL_law_893 : decode cL_law 893 = .ok (.iconst 2, 1) := by decide +kernel
set_option maxRecDepth 20000 in
theorem dL_law_894 : decode cL_law 894 = .ok (.iadd, 1) := by decide +kernel
set_option maxRecDepth 20000 in
theorem dL_law_895 : decode cL_law 895 = .ok (.iaload, 1) := by decide +kernel
set_option maxRecDepth 20000 in
theorem dL_law_896 : decode cL_law 896 = .ok (.aload_n 0, 1) := by decide +kernel
set_option maxRecDepth 20000 in
theorem dL_law_897 : decode cL_law 897 = .ok (.iload_n 3, 1) := by decide +kernel
set_option maxRecDepth 20000 in
theorem dL_law_898 : decode cL_law 898 = .ok (.iconst 3, 1) := by decide +kernel
set_option maxRecDepth 20000 in
theorem dL_law_899 : decode cL_law 899 = .ok (.iadd, 1) := by decide +kernel
set_option maxRecDepth 20000 in
theorem dL_law_900 : decode cL_law 900 = .ok (.iaload, 1) := by decide +kernel
set_option maxRecDepth 20000 in
theorem dL_law_901 : decode cL_law 901 = .ok (.aload_n 0, 1) := by decide +kernel
set_option maxRecDepth 20000 in
theorem dL_law_902 : decode cL_law 902 = .ok (.iload_n 3, 1) := by decide +kernel
set_option maxRecDepth 20000 in
theorem dL_law_903 : decode cL_law 903 = .ok (.iconst 4, 1) := by decide +kernel
set_option maxRecDepth 20000 in
theorem dL_law_904 : decode cL_law 904 = .ok (.iadd, 1) := by decide +kernel
set_option maxRecDepth 20000 in
theorem dL_law_905 : decode cL_law 905 = .ok (.iaload, 1) := by decide +kernel
set_option maxRecDepth 20000 in
theorem dL_law_906 : decode cL_law 906 = .ok (.aload_n 0, 1) := by decide +kernel
set_option maxRecDepth 20000 in
theorem dL_law_907 : decode cL_law 907 = .ok (.iload_n 3, 1) := by decide +kernel
set_option maxRecDepth 20000 in
theorem dL_law_908 : decode cL_law 908 = .ok (.iconst 5, 1) := by decide +kernel
set_option maxRecDepth 20000 in
theorem dL_law_909 : decode cL_law 909 = .ok (.iadd, 1) := by decide +kernel
set_option maxRecDepth 20000 in
theorem dL_law_910 : decode cL_law 910 = .ok (.iaload, 1) := by decide +kernel
set_option maxRecDepth 20000 in
theorem dL_law_911 : decode cL_law 911 = .ok (.aload_n 0, 1) := by decide +kernel
set_option maxRecDepth 20000 in
theorem dL_law_912 : decode cL_law 912 = .ok (.iload_n 3, 1) := by decide +kernel
set_option maxRecDepth 20000 in
theorem dL_law_913 : decode cL_law 913 = .ok (.bipush 6, 2) := by decide +kernel
set_option maxRecDepth 20000 in
theorem dL_law_915 : decode cL_law 915 = .ok (.iadd, 1) := by decide +kernel
set_option maxRecDepth 20000 in
theorem dL_law_916 : decode cL_law 916 = .ok (.iaload, 1) := by decide +kernel
set_option maxRecDepth 20000 in
theorem dL_law_917 : decode cL_law 917 = .ok (.invokevirtual 100, 3) := by decide +kernel
set_option maxRecDepth 20000 in
theorem dL_law_920 : decode cL_law 920 = .ok (.if_icmp .eq 505, 3) := by decide +kernel
set_option maxRecDepth 20000 in
theorem dL_law_923 : decode cL_law 923 = .ok (.iconst 0, 1) := by decide +kernel
set_option maxRecDepth 20000 in
theorem dL_law_924 : decode cL_law 924 = .ok (.ireturn, 1) := by decide +kernel
set_option maxRecDepth 20000 in
theorem dL_law_925 : decode cL_law 925 = .ok (.aload_n 1, 1) := by decide +kernel
set_option maxRecDepth 20000 in
theorem dL_law_926 : decode cL_law 926 = .ok (.aload_n 0, 1) := by decide +kernel
set_option maxRecDepth 20000 in
theorem dL_law_927 : decode cL_law 927 = .ok (.iload_n 3, 1) := by decide +kernel
set_option maxRecDepth 20000 in
theorem dL_law_928 : decode cL_law 928 = .ok (.iconst 1, 1) := by decide +kernel
set_option maxRecDepth 20000 in
theorem dL_law_929 : decode cL_law 929 = .ok (.iadd, 1) := by decide +kernel
set_option maxRecDepth 20000 in
theorem dL_law_930 : decode cL_law 930 = .ok (.iaload, 1) := by decide +kernel
set_option maxRecDepth 20000 in
theorem dL_law_931 : decode cL_law 931 = .ok (.aload_n 0, 1) := by decide +kernel
set_option maxRecDepth 20000 in
theorem dL_law_932 : decode cL_law 932 = .ok (.iload_n 3, 1) := by decide +kernel
set_option maxRecDepth 20000 in
theorem dL_law_933 : decode cL_law 933 = .ok (.iconst 2, 1) := by decide +kernel
set_option maxRecDepth 20000 in
theorem dL_law_934 : decode cL_law 934 = .ok (.iadd, 1) := by decide +kernel
set_option maxRecDepth 20000 in
theorem dL_law_935 : decode cL_law 935 = .ok (.iaload, 1) := by decide +kernel
set_option maxRecDepth 20000 in
theorem dL_law_936 : decode cL_law 936 = .ok (.aload_n 0, 1) := by decide +kernel
set_option maxRecDepth 20000 in
theorem dL_law_937 : decode cL_law 937 = .ok (.iload_n 3, 1) := by decide +kernel
set_option maxRecDepth 20000 in
theorem dL_law_938 : decode cL_law 938 = .ok (.iconst 3, 1) := by decide +kernel
set_option maxRecDepth 20000 in
theorem dL_law_939 : decode cL_law 939 = .ok (.iadd, 1) := by decide +kernel
set_option maxRecDepth 20000 in
theorem dL_law_940 : decode cL_law 940 = .ok (.iaload, 1) := by decide +kernel
set_option maxRecDepth 20000 in
theorem dL_law_941 : decode cL_law 941 = .ok (.aload_n 0, 1) := by decide +kernel
set_option maxRecDepth 20000 in
theorem dL_law_942 : decode cL_law 942 = .ok (.iload_n 3, 1) := by decide +kernel
set_option maxRecDepth 20000 in
theorem dL_law_943 : decode cL_law 943 = .ok (.iconst 4, 1) := by decide +kernel
set_option maxRecDepth 20000 in
theorem dL_law_944 : decode cL_law 944 = .ok (.iadd, 1) := by decide +kernel
set_option maxRecDepth 20000 in
theorem dL_law_945 : decode cL_law 945 = .ok (.iaload, 1) := by decide +kernel
set_option maxRecDepth 20000 in
theorem dL_law_946 : decode cL_law 946 = .ok (.invokevirtual 101, 3) := by decide +kernel
set_option maxRecDepth 20000 in
theorem dL_law_949 : decode cL_law 949 = .ok (.aload_n 2, 1) := by decide +kernel
set_option maxRecDepth 20000 in
theorem dL_law_950 : decode cL_law 950 = .ok (.aload_n 0, 1) := by decide +kernel
set_option maxRecDepth 20000 in
theorem dL_law_951 : decode cL_law 951 = .ok (.iload_n 3, 1) := by decide +kernel
set_option maxRecDepth 20000 in
theorem dL_law_952 : decode cL_law 952 = .ok (.iconst 1, 1) := by decide +kernel
set_option maxRecDepth 20000 in
theorem dL_law_953 : decode cL_law 953 = .ok (.iadd, 1) := by decide +kernel
set_option maxRecDepth 20000 in
theorem dL_law_954 : decode cL_law 954 = .ok (.iaload, 1) := by decide +kernel
set_option maxRecDepth 20000 in
theorem dL_law_955 : decode cL_law 955 = .ok (.aload_n 0, 1) := by decide +kernel
set_option maxRecDepth 20000 in
theorem dL_law_956 : decode cL_law 956 = .ok (.iload_n 3, 1) := by decide +kernel
set_option maxRecDepth 20000 in
theorem dL_law_957 : decode cL_law 957 = .ok (.iconst 2, 1) := by decide +kernel
set_option maxRecDepth 20000 in
theorem dL_law_958 : decode cL_law 958 = .ok (.iadd, 1) := by decide +kernel
set_option maxRecDepth 20000 in
theorem dL_law_959 : decode cL_law 959 = .ok (.iaload, 1) := by decide +kernel
set_option maxRecDepth 20000 in
theorem dL_law_960 : decode cL_law 960 = .ok (.aload_n 0, 1) := by decide +kernel
set_option maxRecDepth 20000 in
theorem dL_law_961 : decode cL_law 961 = .ok (.iload_n 3, 1) := by decide +kernel
set_option maxRecDepth 20000 in
theorem dL_law_962 : decode cL_law 962 = .ok (.iconst 3, 1) := by decide +kernel
set_option maxRecDepth 20000 in
theorem dL_law_963 : decode cL_law 963 = .ok (.iadd, 1) := by decide +kernel
set_option maxRecDepth 20000 in
theorem dL_law_964 : decode cL_law 964 = .ok (.iaload, 1) := by decide +kernel
set_option maxRecDepth 20000 in
theorem dL_law_965 : decode cL_law 965 = .ok (.aload_n 0, 1) := by decide +kernel
set_option maxRecDepth 20000 in
theorem dL_law_966 : decode cL_law 966 = .ok (.iload_n 3, 1) := by decide +kernel
set_option maxRecDepth 20000 in
theorem dL_law_967 : decode cL_law 967 = .ok (.iconst 4, 1) := by decide +kernel
set_option maxRecDepth 20000 in
theorem dL_law_968 : decode cL_law 968 = .ok (.iadd, 1) := by decide +kernel
set_option maxRecDepth 20000 in
theorem dL_law_969 : decode cL_law 969 = .ok (.iaload, 1) := by decide +kernel
set_option maxRecDepth 20000 in
theorem dL_law_970 : decode cL_law 970 = .ok (.invokevirtual 104, 3) := by decide +kernel
set_option maxRecDepth 20000 in
theorem dL_law_973 : decode cL_law 973 = .ok (.if_icmp .eq 452, 3) := by decide +kernel
set_option maxRecDepth 20000 in
theorem dL_law_976 : decode cL_law 976 = .ok (.iconst 0, 1) := by decide +kernel
set_option maxRecDepth 20000 in
theorem dL_law_977 : decode cL_law 977 = .ok (.ireturn, 1) := by decide +kernel
set_option maxRecDepth 20000 in
theorem dL_law_978 : decode cL_law 978 = .ok (.aload_n 1, 1) := by decide +kernel
set_option maxRecDepth 20000 in
theorem dL_law_979 : decode cL_law 979 = .ok (.aload_n 0, 1) := by decide +kernel
set_option maxRecDepth 20000 in
theorem dL_law_980 : decode cL_law 980 = .ok (.iload_n 3, 1) := by decide +kernel
set_option maxRecDepth 20000 in
theorem dL_law_981 : decode cL_law 981 = .ok (.iconst 1, 1) := by decide +kernel
set_option maxRecDepth 20000 in
theorem dL_law_982 : decode cL_law 982 = .ok (.iadd, 1) := by decide +kernel
set_option maxRecDepth 20000 in
theorem dL_law_983 : decode cL_law 983 = .ok (.iaload, 1) := by decide +kernel
set_option maxRecDepth 20000 in
theorem dL_law_984 : decode cL_law 984 = .ok (.invokevirtual 105, 3) := by decide +kernel
set_option maxRecDepth 20000 in
theorem dL_law_987 : decode cL_law 987 = .ok (.aload_n 2, 1) := by decide +kernel
set_option maxRecDepth 20000 in
theorem dL_law_988 : decode cL_law 988 = .ok (.aload_n 0, 1) := by decide +kernel
set_option maxRecDepth 20000 in
theorem dL_law_989 : decode cL_law 989 = .ok (.iload_n 3, 1) := by decide +kernel
set_option maxRecDepth 20000 in
theorem dL_law_990 : decode cL_law 990 = .ok (.iconst 1, 1) := by decide +kernel
set_option maxRecDepth 20000 in
theorem dL_law_991 : decode cL_law 991 = .ok (.iadd, 1) := by decide +kernel
set_option maxRecDepth 20000 in
theorem dL_law_992 : decode cL_law 992 = .ok (.iaload, 1) := by decide +kernel
set_option maxRecDepth 20000 in
theorem dL_law_993 : decode cL_law 993 = .ok (.invokevirtual 108, 3) := by decide +kernel
set_option maxRecDepth 20000 in
theorem dL_law_996 : decode cL_law 996 = .ok (.if_icmp .eq 429, 3) := by decide +kernel
set_option maxRecDepth 20000 in
theorem dL_law_999 : decode cL_law 999 = .ok (.iconst 0, 1) := by decide +kernel
set_option maxRecDepth 20000 in
theorem dL_law_1000 : decode cL_law 1000 = .ok (.ireturn, 1) := by decide +kernel
set_option maxRecDepth 20000 in
theorem dL_law_1001 : decode cL_law 1001 = .ok (.aload_n 1, 1) := by decide +kernel
set_option maxRecDepth 20000 in
theorem dL_law_1002 : decode cL_law 1002 = .ok (.aload_n 0, 1) := by decide +kernel
set_option maxRecDepth 20000 in
theorem dL_law_1003 : decode cL_law 1003 = .ok (.iload_n 3, 1) := by decide +kernel
set_option maxRecDepth 20000 in
theorem dL_law_1004 : decode cL_law 1004 = .ok (.iconst 1, 1) := by decide +kernel
set_option maxRecDepth 20000 in
theorem dL_law_1005 : decode cL_law 1005 = .ok (.iadd, 1) := by decide +kernel
set_option maxRecDepth 20000 in
theorem dL_law_1006 : decode cL_law 1006 = .ok (.iaload, 1) := by decide +kernel
set_option maxRecDepth 20000 in
theorem dL_law_1007 : decode cL_law 1007 = .ok (.invokevirtual 109, 3) := by decide +kernel
set_option maxRecDepth 20000 in
theorem dL_law_1010 : decode cL_law 1010 = .ok (.aload_n 2, 1) := by decide +kernel
set_option maxRecDepth 20000 in
theorem dL_law_1011 : decode cL_law 1011 = .ok (.aload_n 0, 1) := by decide +kernel
set_option maxRecDepth 20000 in
theorem dL_law_1012 : decode cL_law 1012 = .ok (.iload_n 3, 1) := by decide +kernel
set_option maxRecDepth 20000 in
theorem dL_law_1013 : decode cL_law 1013 = .ok (.iconst 1, 1) := by decide +kernel
set_option maxRecDepth 20000 in
theorem dL_law_1014 : decode cL_law 1014 = .ok (.iadd, 1) := by decide +kernel
set_option maxRecDepth 20000 in
theorem dL_law_1015 : decode cL_law 1015 = .ok (.iaload, 1) := by decide +kernel
set_option maxRecDepth 20000 in
theorem dL_law_1016 : decode cL_law 1016 = .ok (.invokevirtual 112, 3) := by decide +kernel
set_option maxRecDepth 20000 in
theorem dL_law_1019 : decode cL_law 1019 = .ok (.if_icmp .eq 406, 3) := by decide +kernel
set_option maxRecDepth 20000 in
theorem dL_law_1022 : decode cL_law 1022 = .ok (.iconst 0, 1) := by decide +kernel
set_option maxRecDepth 20000 in
theorem dL_law_1023 : decode cL_law 1023 = .ok (.ireturn, 1) := by decide +kernel
set_option maxRecDepth 20000 in
theorem dL_law_1024 : decode cL_law 1024 = .ok (.aload_n 1, 1) := by decide +kernel
set_option maxRecDepth 20000 in
theorem dL_law_1025 : decode cL_law 1025 = .ok (.aload_n 0, 1) := by decide +kernel
set_option maxRecDepth 20000 in
theorem dL_law_1026 : decode cL_law 1026 = .ok (.iload_n 3, 1) := by decide +kernel
set_option maxRecDepth 20000 in
theorem dL_law_1027 : decode cL_law 1027 = .ok (.iconst 1, 1) := by decide +kernel
set_option maxRecDepth 20000 in
theorem dL_law_1028 : decode cL_law 1028 = .ok (.iadd, 1) := by decide +kernel
set_option maxRecDepth 20000 in
theorem dL_law_1029 : decode cL_law 1029 = .ok (.iaload, 1) := by decide +kernel
set_option maxRecDepth 20000 in
theorem dL_law_1030 : decode cL_law 1030 = .ok (.invokevirtual 113, 3) := by decide +kernel
set_option maxRecDepth 20000 in
theorem dL_law_1033 : decode cL_law 1033 = .ok (.aload_n 2, 1) := by decide +kernel
set_option maxRecDepth 20000 in
theorem dL_law_1034 : decode cL_law 1034 = .ok (.aload_n 0, 1) := by decide +kernel
set_option maxRecDepth 20000 in
theorem dL_law_1035 : decode cL_law 1035 = .ok (.iload_n 3, 1) := by decide +kernel
set_option maxRecDepth 20000 in
theorem dL_law_1036 : decode cL_law 1036 = .ok (.iconst 1, 1) := by decide +kernel
set_option maxRecDepth 20000 in
theorem dL_law_1037 : decode cL_law 1037 = .ok (.iadd, 1) := by decide +kernel
set_option maxRecDepth 20000 in
theorem dL_law_1038 : decode cL_law 1038 = .ok (.iaload, 1) := by decide +kernel
set_option maxRecDepth 20000 in
theorem dL_law_1039 : decode cL_law 1039 = .ok (.invokevirtual 117, 3) := by decide +kernel
set_option maxRecDepth 20000 in
theorem dL_law_1042 : decode cL_law 1042 = .ok (.lcmp, 1) := by decide +kernel
set_option maxRecDepth 20000 in
theorem dL_law_1043 : decode cL_law 1043 = .ok (.ifCond .eq 382, 3) := by decide +kernel
set_option maxRecDepth 20000 in
theorem dL_law_1046 : decode cL_law 1046 = .ok (.iconst 0, 1) := by decide +kernel
set_option maxRecDepth 20000 in
theorem dL_law_1047 : decode cL_law 1047 = .ok (.ireturn, 1) := by decide +kernel
set_option maxRecDepth 20000 in
theorem dL_law_1048 : decode cL_law 1048 = .ok (.aload_n 1, 1) := by decide +kernel
set_option maxRecDepth 20000 in
theorem dL_law_1049 : decode cL_law 1049 = .ok (.invokevirtual 118, 3) := by decide +kernel
set_option maxRecDepth 20000 in
theorem dL_law_1052 : decode cL_law 1052 = .ok (.aload_n 2, 1) := by decide +kernel
set_option maxRecDepth 20000 in
theorem dL_law_1053 : decode cL_law 1053 = .ok (.invokevirtual 121, 3) := by decide +kernel
set_option maxRecDepth 20000 in
theorem dL_law_1056 : decode cL_law 1056 = .ok (.if_icmp .eq 369, 3) := by decide +kernel
set_option maxRecDepth 20000 in
theorem dL_law_1059 : decode cL_law 1059 = .ok (.iconst 0, 1) := by decide +kernel
set_option maxRecDepth 20000 in
theorem dL_law_1060 : decode cL_law 1060 = .ok (.ireturn, 1) := by decide +kernel
set_option maxRecDepth 20000 in
theorem dL_law_1061 : decode cL_law 1061 = .ok (.aload_n 1, 1) := by decide +kernel
set_option maxRecDepth 20000 in
theorem dL_law_1062 : decode cL_law 1062 = .ok (.aload_n 0, 1) := by decide +kernel
set_option maxRecDepth 20000 in
theorem dL_law_1063 : decode cL_law 1063 = .ok (.iload_n 3, 1) := by decide +kernel
set_option maxRecDepth 20000 in
theorem dL_law_1064 : decode cL_law 1064 = .ok (.iconst 1, 1) := by decide +kernel
set_option maxRecDepth 20000 in
theorem dL_law_1065 : decode cL_law 1065 = .ok (.iadd, 1) := by decide +kernel
set_option maxRecDepth 20000 in
theorem dL_law_1066 : decode cL_law 1066 = .ok (.iaload, 1) := by decide +kernel
set_option maxRecDepth 20000 in
theorem dL_law_1067 : decode cL_law 1067 = .ok (.aload_n 0, 1) := by decide +kernel
set_option maxRecDepth 20000 in
theorem dL_law_1068 : decode cL_law 1068 = .ok (.iload_n 3, 1) := by decide +kernel
set_option maxRecDepth 20000 in
theorem dL_law_1069 : decode cL_law 1069 = .ok (.iconst 2, 1) := by decide +kernel
set_option maxRecDepth 20000 in
theorem dL_law_1070 : decode cL_law 1070 = .ok (.iadd, 1) := by decide +kernel
set_option maxRecDepth 20000 in
theorem dL_law_1071 : decode cL_law 1071 = .ok (.iaload, 1) := by decide +kernel
set_option maxRecDepth 20000 in
theorem dL_law_1072 : decode cL_law 1072 = .ok (.aload_n 0, 1) := by decide +kernel
set_option maxRecDepth 20000 in
theorem dL_law_1073 : decode cL_law 1073 = .ok (.iload_n 3, 1) := by decide +kernel
set_option maxRecDepth 20000 in
theorem dL_law_1074 : decode cL_law 1074 = .ok (.iconst 3, 1) := by decide +kernel
set_option maxRecDepth 20000 in
theorem dL_law_1075 : decode cL_law 1075 = .ok (.iadd, 1) := by decide +kernel
set_option maxRecDepth 20000 in
theorem dL_law_1076 : decode cL_law 1076 = .ok (.iaload, 1) := by decide +kernel
set_option maxRecDepth 20000 in
theorem dL_law_1077 : decode cL_law 1077 = .ok (.invokevirtual 122, 3) := by decide +kernel
set_option maxRecDepth 20000 in
theorem dL_law_1080 : decode cL_law 1080 = .ok (.aload_n 2, 1) := by decide +kernel
set_option maxRecDepth 20000 in
theorem dL_law_1081 : decode cL_law 1081 = .ok (.aload_n 0, 1) := by decide +kernel
set_option maxRecDepth 20000 in
theorem dL_law_1082 : decode cL_law 1082 = .ok (.iload_n 3, 1) := by decide +kernel
set_option maxRecDepth 20000 in
theorem dL_law_1083 : decode cL_law 1083 = .ok (.iconst 1, 1) := by decide +kernel
set_option maxRecDepth 20000 in
theorem dL_law_1084 : decode cL_law 1084 = .ok (.iadd, 1) := by decide +kernel
set_option maxRecDepth 20000 in
theorem dL_law_1085 : decode cL_law 1085 = .ok (.iaload, 1) := by decide +kernel
set_option maxRecDepth 20000 in
theorem dL_law_1086 : decode cL_law 1086 = .ok (.aload_n 0, 1) := by decide +kernel
set_option maxRecDepth 20000 in
theorem dL_law_1087 : decode cL_law 1087 = .ok (.iload_n 3, 1) := by decide +kernel
set_option maxRecDepth 20000 in
theorem dL_law_1088 : decode cL_law 1088 = .ok (.iconst 2, 1) := by decide +kernel
set_option maxRecDepth 20000 in
theorem dL_law_1089 : decode cL_law 1089 = .ok (.iadd, 1) := by decide +kernel
set_option maxRecDepth 20000 in
theorem dL_law_1090 : decode cL_law 1090 = .ok (.iaload, 1) := by decide +kernel
set_option maxRecDepth 20000 in
theorem dL_law_1091 : decode cL_law 1091 = .ok (.aload_n 0, 1) := by decide +kernel
set_option maxRecDepth 20000 in
theorem dL_law_1092 : decode cL_law 1092 = .ok (.iload_n 3, 1) := by decide +kernel
set_option maxRecDepth 20000 in
theorem dL_law_1093 : decode cL_law 1093 = .ok (.iconst 3, 1) := by decide +kernel
set_option maxRecDepth 20000 in
theorem dL_law_1094 : decode cL_law 1094 = .ok (.iadd, 1) := by decide +kernel
set_option maxRecDepth 20000 in
theorem dL_law_1095 : decode cL_law 1095 = .ok (.iaload, 1) := by decide +kernel
set_option maxRecDepth 20000 in
theorem dL_law_1096 : decode cL_law 1096 = .ok (.invokevirtual 125, 3) := by decide +kernel
set_option maxRecDepth 20000 in
theorem dL_law_1099 : decode cL_law 1099 = .ok (.if_icmp .eq 326, 3) := by decide +kernel
set_option maxRecDepth 20000 in
theorem dL_law_1102 : decode cL_law 1102 = .ok (.iconst 0, 1) := by decide +kernel
set_option maxRecDepth 20000 in
theorem dL_law_1103 : decode cL_law 1103 = .ok (.ireturn, 1) := by decide +kernel
set_option maxRecDepth 20000 in
theorem dL_law_1104 : decode cL_law 1104 = .ok (.aload_n 1, 1) := by decide +kernel
set_option maxRecDepth 20000 in
theorem dL_law_1105 : decode cL_law 1105 = .ok (.invokevirtual 126, 3) := by decide +kernel
set_option maxRecDepth 20000 in
theorem dL_law_1108 : decode cL_law 1108 = .ok (.aload_n 2, 1) := by decide +kernel
set_option maxRecDepth 20000 in
theorem dL_law_1109 : decode cL_law 1109 = .ok (.invokevirtual 129, 3) := by decide +kernel
set_option maxRecDepth 20000 in
theorem dL_law_1112 : decode cL_law 1112 = .ok (.if_icmp .eq 313, 3) := by decide +kernel
set_option maxRecDepth 20000 in
theorem dL_law_1115 : decode cL_law 1115 = .ok (.iconst 0, 1) := by decide +kernel
set_option maxRecDepth 20000 in
theorem dL_law_1116 : decode cL_law 1116 = .ok (.ireturn, 1) := by decide +kernel
set_option maxRecDepth 20000 in
theorem dL_law_1117 : decode cL_law 1117 = .ok (.aload_n 1, 1) := by decide +kernel
set_option maxRecDepth 20000 in
theorem dL_law_1118 : decode cL_law 1118 = .ok (.invokevirtual 130, 3) := by decide +kernel
set_option maxRecDepth 20000 in
theorem dL_law_1121 : decode cL_law 1121 = .ok (.aload_n 2, 1) := by decide +kernel
set_option maxRecDepth 20000 in
theorem dL_law_1122 : decode cL_law 1122 = .ok (.invokevirtual 133, 3) := by decide +kernel
set_option maxRecDepth 20000 in
theorem dL_law_1125 : decode cL_law 1125 = .ok (.if_icmp .eq 300, 3) := by decide +kernel
set_option maxRecDepth 20000 in
theorem dL_law_1128 : decode cL_law 1128 = .ok (.iconst 0, 1) := by decide +kernel
set_option maxRecDepth 20000 in
theorem dL_law_1129 : decode cL_law 1129 = .ok (.ireturn, 1) := by decide +kernel
set_option maxRecDepth 20000 in
theorem dL_law_1130 : decode cL_law 1130 = .ok (.aload_n 1, 1) := by decide +kernel
set_option maxRecDepth 20000 in
theorem dL_law_1131 : decode cL_law 1131 = .ok (.aload_n 0, 1) := by decide +kernel
set_option maxRecDepth 20000 in
theorem dL_law_1132 : decode cL_law 1132 = .ok (.iload_n 3, 1) := by decide +kernel
set_option maxRecDepth 20000 in
theorem dL_law_1133 : decode cL_law 1133 = .ok (.iconst 1, 1) := by decide +kernel
set_option maxRecDepth 20000 in
theorem dL_law_1134 : decode cL_law 1134 = .ok (.iadd, 1) := by decide +kernel
set_option maxRecDepth 20000 in
theorem dL_law_1135 : decode cL_law 1135 = .ok (.iaload, 1) := by decide +kernel
set_option maxRecDepth 20000 in
theorem dL_law_1136 : decode cL_law 1136 = .ok (.aload_n 0, 1) := by decide +kernel
set_option maxRecDepth 20000 in
theorem dL_law_1137 : decode cL_law 1137 = .ok (.iload_n 3, 1) := by decide +kernel
set_option maxRecDepth 20000 in
theorem dL_law_1138 : decode cL_law 1138 = .ok (.iconst 2, 1) := by decide +kernel
set_option maxRecDepth 20000 in
theorem dL_law_1139 : decode cL_law 1139 = .ok (.iadd, 1) := by decide +kernel
set_option maxRecDepth 20000 in
theorem dL_law_1140 : decode cL_law 1140 = .ok (.iaload, 1) := by decide +kernel
set_option maxRecDepth 20000 in
theorem dL_law_1141 : decode cL_law 1141 = .ok (.aload_n 0, 1) := by decide +kernel
set_option maxRecDepth 20000 in
theorem dL_law_1142 : decode cL_law 1142 = .ok (.iload_n 3, 1) := by decide +kernel
set_option maxRecDepth 20000 in
theorem dL_law_1143 : decode cL_law 1143 = .ok (.iconst 3, 1) := by decide +kernel
set_option maxRecDepth 20000 in
theorem dL_law_1144 : decode cL_law 1144 = .ok (.iadd, 1) := by decide +kernel
set_option maxRecDepth 20000 in
theorem dL_law_1145 : decode cL_law 1145 = .ok (.iaload, 1) := by decide +kernel
set_option maxRecDepth 20000 in
theorem dL_law_1146 : decode cL_law 1146 = .ok (.invokevirtual 134, 3) := by decide +kernel
set_option maxRecDepth 20000 in
theorem dL_law_1149 : decode cL_law 1149 = .ok (.aload_n 2, 1) := by decide +kernel
set_option maxRecDepth 20000 in
theorem dL_law_1150 : decode cL_law 1150 = .ok (.aload_n 0, 1) := by decide +kernel
set_option maxRecDepth 20000 in
theorem dL_law_1151 : decode cL_law 1151 = .ok (.iload_n 3, 1) := by decide +kernel
set_option maxRecDepth 20000 in
theorem dL_law_1152 : decode cL_law 1152 = .ok (.iconst 1, 1) := by decide +kernel
set_option maxRecDepth 20000 in
theorem dL_law_1153 : decode cL_law 1153 = .ok (.iadd, 1) := by decide +kernel
set_option maxRecDepth 20000 in
theorem dL_law_1154 : decode cL_law 1154 = .ok (.iaload, 1) := by decide +kernel
set_option maxRecDepth 20000 in
theorem dL_law_1155 : decode cL_law 1155 = .ok (.aload_n 0, 1) := by decide +kernel
set_option maxRecDepth 20000 in
theorem dL_law_1156 : decode cL_law 1156 = .ok (.iload_n 3, 1) := by decide +kernel
set_option maxRecDepth 20000 in
theorem dL_law_1157 : decode cL_law 1157 = .ok (.iconst 2, 1) := by decide +kernel
set_option maxRecDepth 20000 in
theorem dL_law_1158 : decode cL_law 1158 = .ok (.iadd, 1) := by decide +kernel
set_option maxRecDepth 20000 in
theorem dL_law_1159 : decode cL_law 1159 = .ok (.iaload, 1) := by decide +kernel
set_option maxRecDepth 20000 in
theorem dL_law_1160 : decode cL_law 1160 = .ok (.aload_n 0, 1) := by decide +kernel
set_option maxRecDepth 20000 in
theorem dL_law_1161 : decode cL_law 1161 = .ok (.iload_n 3, 1) := by decide +kernel
set_option maxRecDepth 20000 in
theorem dL_law_1162 : decode cL_law 1162 = .ok (.iconst 3, 1) := by decide +kernel
set_option maxRecDepth 20000 in
theorem dL_law_1163 : decode cL_law 1163 = .ok (.iadd, 1) := by decide +kernel
set_option maxRecDepth 20000 in
theorem dL_law_1164 : decode cL_law 1164 = .ok (.iaload, 1) := by decide +kernel
set_option maxRecDepth 20000 in
theorem dL_law_1165 : decode cL_law 1165 = .ok (.invokevirtual 137, 3) := by decide +kernel
set_option maxRecDepth 20000 in
theorem dL_law_1168 : decode cL_law 1168 = .ok (.if_icmp .eq 257, 3) := by decide +kernel
set_option maxRecDepth 20000 in
theorem dL_law_1171 : decode cL_law 1171 = .ok (.iconst 0, 1) := by decide +kernel
set_option maxRecDepth 20000 in
theorem dL_law_1172 : decode cL_law 1172 = .ok (.ireturn, 1) := by decide +kernel
set_option maxRecDepth 20000 in
theorem dL_law_1173 : decode cL_law 1173 = .ok (.aload_n 1, 1) := by decide +kernel
set_option maxRecDepth 20000 in
theorem dL_law_1174 : decode cL_law 1174 = .ok (.aload_n 0, 1) := by decide +kernel
set_option maxRecDepth 20000 in
theorem dL_law_1175 : decode cL_law 1175 = .ok (.iload_n 3, 1) := by decide +kernel
set_option maxRecDepth 20000 in
theorem dL_law_1176 : decode cL_law 1176 = .ok (.iconst 1, 1) := by decide +kernel
set_option maxRecDepth 20000 in
theorem dL_law_1177 : decode cL_law 1177 = .ok (.iadd, 1) := by decide +kernel
set_option maxRecDepth 20000 in
theorem dL_law_1178 : decode cL_law 1178 = .ok (.iaload, 1) := by decide +kernel
set_option maxRecDepth 20000 in
theorem dL_law_1179 : decode cL_law 1179 = .ok (.invokevirtual 138, 3) := by decide +kernel
set_option maxRecDepth 20000 in
theorem dL_law_1182 : decode cL_law 1182 = .ok (.aload_n 2, 1) := by decide +kernel
set_option maxRecDepth 20000 in
theorem dL_law_1183 : decode cL_law 1183 = .ok (.aload_n 0, 1) := by decide +kernel
set_option maxRecDepth 20000 in
theorem dL_law_1184 : decode cL_law 1184 = .ok (.iload_n 3, 1) := by decide +kernel
set_option maxRecDepth 20000 in
theorem dL_law_1185 : decode cL_law 1185 = .ok (.iconst 1, 1) := by decide +kernel
set_option maxRecDepth 20000 in
theorem dL_law_1186 : decode cL_law 1186 = .ok (.iadd, 1) := by decide +kernel
set_option maxRecDepth 20000 in
theorem dL_law_1187 : decode cL_law 1187 = .ok (.iaload, 1) := by decide +kernel
set_option maxRecDepth 20000 in
theorem dL_law_1188 : decode cL_law 1188 = .ok (.invokevirtual 141, 3) := by decide +kernel
set_option maxRecDepth 20000 in
theorem dL_law_1191 : decode cL_law 1191 = .ok (.if_icmp .eq 234, 3) := by decide +kernel
set_option maxRecDepth 20000 in
theorem dL_law_1194 : decode cL_law 1194 = .ok (.iconst 0, 1) := by decide +kernel
set_option maxRecDepth 20000 in
theorem dL_law_1195 : decode cL_law 1195 = .ok (.ireturn, 1) := by decide +kernel
set_option maxRecDepth 20000 in
theorem dL_law_1196 : decode cL_law 1196 = .ok (.aload_n 1, 1) := by decide +kernel
set_option maxRecDepth 20000 in
theorem dL_law_1197 : decode cL_law 1197 = .ok (.aload_n 0, 1) := by decide +kernel
set_option maxRecDepth 20000 in
theorem dL_law_1198 : decode cL_law 1198 = .ok (.iload_n 3, 1) := by decide +kernel
set_option maxRecDepth 20000 in
theorem dL_law_1199 : decode cL_law 1199 = .ok (.iconst 1, 1) := by decide +kernel
set_option maxRecDepth 20000 in
theorem dL_law_1200 : decode cL_law 1200 = .ok (.iadd, 1) := by decide +kernel
set_option maxRecDepth 20000 in
theorem dL_law_1201 : decode cL_law 1201 = .ok (.iaload, 1) := by decide +kernel
set_option maxRecDepth 20000 in
theorem dL_law_1202 : decode cL_law 1202 = .ok (.aload_n 0, 1) := by decide +kernel
set_option maxRecDepth 20000 in
theorem dL_law_1203 : decode cL_law 1203 = .ok (.iload_n 3, 1) := by decide +kernel
set_option maxRecDepth 20000 in
theorem dL_law_1204 : decode cL_law 1204 = .ok (.iconst 2, 1) := by decide +kernel
set_option maxRecDepth 20000 in
theorem dL_law_1205 : decode cL_law 1205 = .ok (.iadd, 1) := by decide +kernel
set_option maxRecDepth 20000 in
theorem dL_law_1206 : decode cL_law 1206 = .ok (.iaload, 1) := by decide +kernel
set_option maxRecDepth 20000 in
theorem dL_law_1207 : decode cL_law 1207 = .ok (.aload_n 0, 1) := by decide +kernel
set_option maxRecDepth 20000 in
theorem dL_law_1208 : decode cL_law 1208 = .ok (.iload_n 3, 1) := by decide +kernel
set_option maxRecDepth 20000 in
theorem dL_law_1209 : decode cL_law 1209 = .ok (.iconst 3, 1) := by decide +kernel
set_option maxRecDepth 20000 in
theorem dL_law_1210 : decode cL_law 1210 = .ok (.iadd, 1) := by decide +kernel
set_option maxRecDepth 20000 in
theorem dL_law_1211 : decode cL_law 1211 = .ok (.iaload, 1) := by decide +kernel
set_option maxRecDepth 20000 in
theorem dL_law_1212 : decode cL_law 1212 = .ok (.aload_n 0, 1) := by decide +kernel
set_option maxRecDepth 20000 in
theorem dL_law_1213 : decode cL_law 1213 = .ok (.iload_n 3, 1) := by decide +kernel
set_option maxRecDepth 20000 in
theorem dL_law_1214 : decode cL_law 1214 = .ok (.iconst 4, 1) := by decide +kernel
set_option maxRecDepth 20000 in
theorem dL_law_1215 : decode cL_law 1215 = .ok (.iadd, 1) := by decide +kernel
set_option maxRecDepth 20000 in
theorem dL_law_1216 : decode cL_law 1216 = .ok (.iaload, 1) := by decide +kernel
set_option maxRecDepth 20000 in
theorem dL_law_1217 : decode cL_law 1217 = .ok (.invokevirtual 142, 3) := by decide +kernel
set_option maxRecDepth 20000 in
theorem dL_law_1220 : decode cL_law 1220 = .ok (.aload_n 2, 1) := by decide +kernel
set_option maxRecDepth 20000 in
theorem dL_law_1221 : decode cL_law 1221 = .ok (.aload_n 0, 1) := by decide +kernel
set_option maxRecDepth 20000 in
theorem dL_law_1222 : decode cL_law 1222 = .ok (.iload_n 3, 1) := by decide +kernel
set_option maxRecDepth 20000 in
theorem dL_law_1223 : decode cL_law 1223 = .ok (.iconst 1, 1) := by decide +kernel
set_option maxRecDepth 20000 in
theorem dL_law_1224 : decode cL_law 1224 = .ok (.iadd, 1) := by decide +kernel
set_option maxRecDepth 20000 in
theorem dL_law_1225 : decode cL_law 1225 = .ok (.iaload, 1) := by decide +kernel
set_option maxRecDepth 20000 in
theorem dL_law_1226 : decode cL_law 1226 = .ok (.aload_n 0, 1) := by decide +kernel
set_option maxRecDepth 20000 in
theorem dL_law_1227 : decode cL_law 1227 = .ok (.iload_n 3, 1) := by decide +kernel
set_option maxRecDepth 20000 in
theorem dL_law_1228 : decode cL_law 1228 = .ok (.iconst 2, 1) := by decide +kernel
set_option maxRecDepth 20000 in
theorem dL_law_1229 : decode cL_law 1229 = .ok (.iadd, 1) := by decide +kernel
set_option maxRecDepth 20000 in
theorem dL_law_1230 : decode cL_law 1230 = .ok (.iaload, 1) := by decide +kernel
set_option maxRecDepth 20000 in
theorem dL_law_1231 : decode cL_law 1231 = .ok (.aload_n 0, 1) := by decide +kernel
set_option maxRecDepth 20000 in
theorem dL_law_1232 : decode cL_law 1232 = .ok (.iload_n 3, 1) := by decide +kernel
set_option maxRecDepth 20000 in
theorem dL_law_1233 : decode cL_law 1233 = .ok (.iconst 3, 1) := by decide +kernel
set_option maxRecDepth 20000 in
theorem dL_law_1234 : decode cL_law 1234 = .ok (.iadd, 1) := by decide +kernel
set_option maxRecDepth 20000 in
theorem dL_law_1235 : decode cL_law 1235 = .ok (.iaload, 1) := by decide +kernel
set_option maxRecDepth 20000 in
theorem dL_law_1236 : decode cL_law 1236 = .ok (.aload_n 0, 1) := by decide +kernel
set_option maxRecDepth 20000 in
theorem dL_law_1237 : decode cL_law 1237 = .ok (.iload_n 3, 1) := by decide +kernel
set_option maxRecDepth 20000 in
theorem dL_law_1238 : decode cL_law 1238 = .ok (.iconst 4, 1) := by decide +kernel
set_option maxRecDepth 20000 in
theorem dL_law_1239 : decode cL_law 1239 = .ok (.iadd, 1) := by decide +kernel
set_option maxRecDepth 20000 in
theorem dL_law_1240 : decode cL_law 1240 = .ok (.iaload, 1) := by decide +kernel
set_option maxRecDepth 20000 in
theorem dL_law_1241 : decode cL_law 1241 = .ok (.invokevirtual 145, 3) := by decide +kernel
set_option maxRecDepth 20000 in
theorem dL_law_1244 : decode cL_law 1244 = .ok (.if_icmp .eq 181, 3) := by decide +kernel
set_option maxRecDepth 20000 in
theorem dL_law_1247 : decode cL_law 1247 = .ok (.iconst 0, 1) := by decide +kernel
set_option maxRecDepth 20000 in
theorem dL_law_1248 : decode cL_law 1248 = .ok (.ireturn, 1) := by decide +kernel
set_option maxRecDepth 20000 in
theorem dL_law_1249 : decode cL_law 1249 = .ok (.aload_n 1, 1) := by decide +kernel
set_option maxRecDepth 20000 in
theorem dL_law_1250 : decode cL_law 1250 = .ok (.aload_n 0, 1) := by decide +kernel
set_option maxRecDepth 20000 in
theorem dL_law_1251 : decode cL_law 1251 = .ok (.iload_n 3, 1) := by decide +kernel
set_option maxRecDepth 20000 in
theorem dL_law_1252 : decode cL_law 1252 = .ok (.iconst 1, 1) := by decide +kernel
set_option maxRecDepth 20000 in
theorem dL_law_1253 : decode cL_law 1253 = .ok (.iadd, 1) := by decide +kernel
set_option maxRecDepth 20000 in
theorem dL_law_1254 : decode cL_law 1254 = .ok (.iaload, 1) := by decide +kernel
set_option maxRecDepth 20000 in
theorem dL_law_1255 : decode cL_law 1255 = .ok (.aload_n 0, 1) := by decide +kernel
set_option maxRecDepth 20000 in
theorem dL_law_1256 : decode cL_law 1256 = .ok (.iload_n 3, 1) := by decide +kernel
set_option maxRecDepth 20000 in
theorem dL_law_1257 : decode cL_law 1257 = .ok (.iconst 2, 1) := by decide +kernel
set_option maxRecDepth 20000 in
theorem dL_law_1258 : decode cL_law 1258 = .ok (.iadd, 1) := by decide +kernel
set_option maxRecDepth 20000 in
theorem dL_law_1259 : decode cL_law 1259 = .ok (.iaload, 1) := by decide +kernel
set_option maxRecDepth 20000 in
theorem dL_law_1260 : decode cL_law 1260 = .ok (.aload_n 0, 1) := by decide +kernel
set_option maxRecDepth 20000 in
theorem dL_law_1261 : decode cL_law 1261 = .ok (.iload_n 3, 1) := by decide +kernel
set_option maxRecDepth 20000 in
theorem dL_law_1262 : decode cL_law 1262 = .ok (.iconst 3, 1) := by decide +kernel
set_option maxRecDepth 20000 in
theorem dL_law_1263 : decode cL_law 1263 = .ok (.iadd, 1) := by decide +kernel
set_option maxRecDepth 20000 in
theorem dL_law_1264 : decode cL_law 1264 = .ok (.iaload, 1) := by decide +kernel
set_option maxRecDepth 20000 in
theorem dL_law_1265 : decode cL_law 1265 = .ok (.invokevirtual 146, 3) := by decide +kernel
set_option maxRecDepth 20000 in
theorem dL_law_1268 : decode cL_law 1268 = .ok (.aload_n 2, 1) := by decide +kernel
set_option maxRecDepth 20000 in
theorem dL_law_1269 : decode cL_law 1269 = .ok (.aload_n 0, 1) := by decide +kernel
set_option maxRecDepth 20000 in
theorem dL_law_1270 : decode cL_law 1270 = .ok (.iload_n 3, 1) := by decide +kernel
set_option maxRecDepth 20000 in
theorem dL_law_1271 : decode cL_law 1271 = .ok (.iconst 1, 1) := by decide +kernel
set_option maxRecDepth 20000 in
theorem dL_law_1272 : decode cL_law 1272 = .ok (.iadd, 1) := by decide +kernel
set_option maxRecDepth 20000 in
theorem dL_law_1273 : decode cL_law 1273 = .ok (.iaload, 1) := by decide +kernel
set_option maxRecDepth 20000 in
theorem dL_law_1274 : decode cL_law 1274 = .ok (.aload_n 0, 1) := by decide +kernel
set_option maxRecDepth 20000 in
theorem dL_law_1275 : decode cL_law 1275 = .ok (.iload_n 3, 1) := by decide +kernel
set_option maxRecDepth 20000 in
theorem dL_law_1276 : decode cL_law 1276 = .ok (.iconst 2, 1) := by decide +kernel
set_option maxRecDepth 20000 in
theorem dL_law_1277 : decode cL_law 1277 = .ok (.iadd, 1) := by decide +kernel
set_option maxRecDepth 20000 in
theorem dL_law_1278 : decode cL_law 1278 = .ok (.iaload, 1) := by decide +kernel
set_option maxRecDepth 20000 in
theorem dL_law_1279 : decode cL_law 1279 = .ok (.aload_n 0, 1) := by decide +kernel
set_option maxRecDepth 20000 in
theorem dL_law_1280 : decode cL_law 1280 = .ok (.iload_n 3, 1) := by decide +kernel
set_option maxRecDepth 20000 in
theorem dL_law_1281 : decode cL_law 1281 = .ok (.iconst 3, 1) := by decide +kernel
set_option maxRecDepth 20000 in
theorem dL_law_1282 : decode cL_law 1282 = .ok (.iadd, 1) := by decide +kernel
set_option maxRecDepth 20000 in
theorem dL_law_1283 : decode cL_law 1283 = .ok (.iaload, 1) := by decide +kernel
set_option maxRecDepth 20000 in
theorem dL_law_1284 : decode cL_law 1284 = .ok (.invokevirtual 149, 3) := by decide +kernel
set_option maxRecDepth 20000 in
theorem dL_law_1287 : decode cL_law 1287 = .ok (.if_icmp .eq 138, 3) := by decide +kernel
set_option maxRecDepth 20000 in
theorem dL_law_1290 : decode cL_law 1290 = .ok (.iconst 0, 1) := by decide +kernel
set_option maxRecDepth 20000 in
theorem dL_law_1291 : decode cL_law 1291 = .ok (.ireturn, 1) := by decide +kernel
set_option maxRecDepth 20000 in
theorem dL_law_1292 : decode cL_law 1292 = .ok (.aload_n 1, 1) := by decide +kernel
set_option maxRecDepth 20000 in
theorem dL_law_1293 : decode cL_law 1293 = .ok (.aload_n 0, 1) := by decide +kernel
set_option maxRecDepth 20000 in
theorem dL_law_1294 : decode cL_law 1294 = .ok (.iload_n 3, 1) := by decide +kernel
set_option maxRecDepth 20000 in
theorem dL_law_1295 : decode cL_law 1295 = .ok (.iconst 1, 1) := by decide +kernel
set_option maxRecDepth 20000 in
theorem dL_law_1296 : decode cL_law 1296 = .ok (.iadd, 1) := by decide +kernel
set_option maxRecDepth 20000 in
theorem dL_law_1297 : decode cL_law 1297 = .ok (.iaload, 1) := by decide +kernel
set_option maxRecDepth 20000 in
theorem dL_law_1298 : decode cL_law 1298 = .ok (.aload_n 0, 1) := by decide +kernel
set_option maxRecDepth 20000 in
theorem dL_law_1299 : decode cL_law 1299 = .ok (.iload_n 3, 1) := by decide +kernel
set_option maxRecDepth 20000 in
theorem dL_law_1300 : decode cL_law 1300 = .ok (.iconst 2, 1) := by decide +kernel
set_option maxRecDepth 20000 in
theorem dL_law_1301 : decode cL_law 1301 = .ok (.iadd, 1) := by decide +kernel
set_option maxRecDepth 20000 in
theorem dL_law_1302 : decode cL_law 1302 = .ok (.iaload, 1) := by decide +kernel
set_option maxRecDepth 20000 in
theorem dL_law_1303 : decode cL_law 1303 = .ok (.aload_n 0, 1) := by decide +kernel
set_option maxRecDepth 20000 in
theorem dL_law_1304 : decode cL_law 1304 = .ok (.iload_n 3, 1) := by decide +kernel
set_option maxRecDepth 20000 in
theorem dL_law_1305 : decode cL_law 1305 = .ok (.iconst 3, 1) := by decide +kernel
set_option maxRecDepth 20000 in
theorem dL_law_1306 : decode cL_law 1306 = .ok (.iadd, 1) := by decide +kernel
set_option maxRecDepth 20000 in
theorem dL_law_1307 : decode cL_law 1307 = .ok (.iaload, 1) := by decide +kernel
set_option maxRecDepth 20000 in
theorem dL_law_1308 : decode cL_law 1308 = .ok (.aload_n 0, 1) := by decide +kernel
set_option maxRecDepth 20000 in
theorem dL_law_1309 : decode cL_law 1309 = .ok (.iload_n 3, 1) := by decide +kernel
set_option maxRecDepth 20000 in
theorem dL_law_1310 : decode cL_law 1310 = .ok (.iconst 4, 1) := by decide +kernel
set_option maxRecDepth 20000 in
theorem dL_law_1311 : decode cL_law 1311 = .ok (.iadd, 1) := by decide +kernel
set_option maxRecDepth 20000 in
theorem dL_law_1312 : decode cL_law 1312 = .ok (.iaload, 1) := by decide +kernel
set_option maxRecDepth 20000 in
theorem dL_law_1313 : decode cL_law 1313 = .ok (.aload_n 0, 1) := by decide +kernel
set_option maxRecDepth 20000 in
theorem dL_law_1314 : decode cL_law 1314 = .ok (.iload_n 3, 1) := by decide +kernel
set_option maxRecDepth 20000 in
theorem dL_law_1315 : decode cL_law 1315 = .ok (.iconst 5, 1) := by decide +kernel
set_option maxRecDepth 20000 in
theorem dL_law_1316 : decode cL_law 1316 = .ok (.iadd, 1) := by decide +kernel
set_option maxRecDepth 20000 in
theorem dL_law_1317 : decode cL_law 1317 = .ok (.iaload, 1) := by decide +kernel
set_option maxRecDepth 20000 in
theorem dL_law_1318 : decode cL_law 1318 = .ok (.invokevirtual 150, 3) := by decide +kernel
set_option maxRecDepth 20000 in
theorem dL_law_1321 : decode cL_law 1321 = .ok (.aload_n 2, 1) := by decide +kernel
set_option maxRecDepth 20000 in
theorem dL_law_1322 : decode cL_law 1322 = .ok (.aload_n 0, 1) := by decide +kernel
set_option maxRecDepth 20000 in
theorem dL_law_1323 : decode cL_law 1323 = .ok (.iload_n 3, 1) := by decide +kernel
set_option maxRecDepth 20000 in
theorem dL_law_1324 : decode cL_law 1324 = .ok (.iconst 1, 1) := by decide +kernel
set_option maxRecDepth 20000 in
theorem dL_law_1325 : decode cL_law 1325 = .ok (.iadd, 1) := by decide +kernel
set_option maxRecDepth 20000 in
theorem dL_law_1326 : decode cL_law 1326 = .ok (.iaload, 1) := by decide +kernel
set_option maxRecDepth 20000 in
theorem dL_law_1327 : decode cL_law 1327 = .ok (.aload_n 0, 1) := by decide +kernel
set_option maxRecDepth 20000 in
theorem dL_law_1328 : decode cL_law 1328 = .ok (.iload_n 3, 1) := by decide +kernel
set_option maxRecDepth 20000 in
theorem dL_law_1329 : decode cL_law 1329 = .ok (.iconst 2, 1) := by decide +kernel
set_option maxRecDepth 20000 in
theorem dL_law_1330 : decode cL_law 1330 = .ok (.iadd, 1) := by decide +kernel
set_option maxRecDepth 20000 in
theorem dL_law_1331 : decode cL_law 1331 = .ok (.iaload, 1) := by decide +kernel
set_option maxRecDepth 20000 in
theorem dL_law_1332 : decode cL_law 1332 = .ok (.aload_n 0, 1) := by decide +kernel
set_option maxRecDepth 20000 in
theorem dL_law_1333 : decode cL_law 1333 = .ok (.iload_n 3, 1) := by decide +kernel
set_option maxRecDepth 20000 in
theorem dL_law_1334 : decode cL_law 1334 = .ok (.iconst 3, 1) := by decide +kernel
set_option maxRecDepth 20000 in
theorem dL_law_1335 : decode cL_law 1335 = .ok (.iadd, 1) := by decide +kernel
set_option maxRecDepth 20000 in
theorem dL_law_1336 : decode cL_law 1336 = .ok (.iaload, 1) := by decide +kernel
set_option maxRecDepth 20000 in
theorem dL_law_1337 : decode cL_law 1337 = .ok (.aload_n 0, 1) := by decide +kernel
set_option maxRecDepth 20000 in
theorem dL_law_1338 : decode cL_law 1338 = .ok (.iload_n 3, 1) := by decide +kernel
set_option maxRecDepth 20000 in
theorem dL_law_1339 : decode cL_law 1339 = .ok (.iconst 4, 1) := by decide +kernel
set_option maxRecDepth 20000 in
theorem dL_law_1340 : decode cL_law 1340 = .ok (.iadd, 1) := by decide +kernel
set_option maxRecDepth 20000 in
theorem dL_law_1341 : decode cL_law 1341 = .ok (.iaload, 1) := by decide +kernel
set_option maxRecDepth 20000 in
theorem dL_law_1342 : decode cL_law 1342 = .ok (.aload_n 0, 1) := by decide +kernel
set_option maxRecDepth 20000 in
theorem dL_law_1343 : decode cL_law 1343 = .ok (.iload_n 3, 1) := by decide +kernel
set_option maxRecDepth 20000 in
theorem dL_law_1344 : decode cL_law 1344 = .ok (.iconst 5, 1) := by decide +kernel
set_option maxRecDepth 20000 in
theorem dL_law_1345 : decode cL_law 1345 = .ok (.iadd, 1) := by decide +kernel
set_option maxRecDepth 20000 in
theorem dL_law_1346 : decode cL_law 1346 = .ok (.iaload, 1) := by decide +kernel
set_option maxRecDepth 20000 in
theorem dL_law_1347 : decode cL_law 1347 = .ok (.invokevirtual 153, 3) := by decide +kernel
set_option maxRecDepth 20000 in
theorem dL_law_1350 : decode cL_law 1350 = .ok (.if_icmp .eq 75, 3) := by decide +kernel
set_option maxRecDepth 20000 in
theorem dL_law_1353 : decode cL_law 1353 = .ok (.iconst 0, 1) := by decide +kernel
set_option maxRecDepth 20000 in
theorem dL_law_1354 : decode cL_law 1354 = .ok (.ireturn, 1) := by decide +kernel
set_option maxRecDepth 20000 in
theorem dL_law_1355 : decode cL_law 1355 = .ok (.aload_n 1, 1) := by decide +kernel
set_option maxRecDepth 20000 in
theorem dL_law_1356 : decode cL_law 1356 = .ok (.aload_n 0, 1) := by decide +kernel
set_option maxRecDepth 20000 in
theorem dL_law_1357 : decode cL_law 1357 = .ok (.iload_n 3, 1) := by decide +kernel
set_option maxRecDepth 20000 in
theorem dL_law_1358 : decode cL_law 1358 = .ok (.iconst 1, 1) := by decide +kernel
set_option maxRecDepth 20000 in
theorem dL_law_1359 : decode cL_law 1359 = .ok (.iadd, 1) := by decide +kernel
set_option maxRecDepth 20000 in
theorem dL_law_1360 : decode cL_law 1360 = .ok (.iaload, 1) := by decide +kernel
set_option maxRecDepth 20000 in
theorem dL_law_1361 : decode cL_law 1361 = .ok (.aload_n 0, 1) := by decide +kernel
set_option maxRecDepth 20000 in
theorem dL_law_1362 : decode cL_law 1362 = .ok (.iload_n 3, 1) := by decide +kernel
set_option maxRecDepth 20000 in
theorem dL_law_1363 : decode cL_law 1363 = .ok (.iconst 2, 1) := by decide +kernel
set_option maxRecDepth 20000 in
theorem dL_law_1364 : decode cL_law 1364 = .ok (.iadd, 1) := by decide +kernel
set_option maxRecDepth 20000 in
theorem dL_law_1365 : decode cL_law 1365 = .ok (.iaload, 1) := by decide +kernel
set_option maxRecDepth 20000 in
theorem dL_law_1366 : decode cL_law 1366 = .ok (.invokevirtual 154, 3) := by decide +kernel
set_option maxRecDepth 20000 in
theorem dL_law_1369 : decode cL_law 1369 = .ok (.aload_n 2, 1) := by decide +kernel
set_option maxRecDepth 20000 in
theorem dL_law_1370 : decode cL_law 1370 = .ok (.aload_n 0, 1) := by decide +kernel
set_option maxRecDepth 20000 in
theorem dL_law_1371 : decode cL_law 1371 = .ok (.iload_n 3, 1) := by decide +kernel
set_option maxRecDepth 20000 in
theorem dL_law_1372 : decode cL_law 1372 = .ok (.iconst 1, 1) := by decide +kernel
set_option maxRecDepth 20000 in
theorem dL_law_1373 : decode cL_law 1373 = .ok (.iadd, 1) := by decide +kernel
set_option maxRecDepth 20000 in
theorem dL_law_1374 : decode cL_law 1374 = .ok (.iaload, 1) := by decide +kernel
set_option maxRecDepth 20000 in
theorem dL_law_1375 : decode cL_law 1375 = .ok (.aload_n 0, 1) := by decide +kernel
set_option maxRecDepth 20000 in
theorem dL_law_1376 : decode cL_law 1376 = .ok (.iload_n 3, 1) := by decide +kernel
set_option maxRecDepth 20000 in
theorem dL_law_1377 : decode cL_law 1377 = .ok (.iconst 2, 1) := by decide +kernel
set_option maxRecDepth 20000 in
theorem dL_law_1378 : decode cL_law 1378 = .ok (.iadd, 1) := by decide +kernel
set_option maxRecDepth 20000 in
theorem dL_law_1379 : decode cL_law 1379 = .ok (.iaload, 1) := by decide +kernel
set_option maxRecDepth 20000 in
theorem dL_law_1380 : decode cL_law 1380 = .ok (.invokevirtual 157, 3) := by decide +kernel
set_option maxRecDepth 20000 in
theorem dL_law_1383 : decode cL_law 1383 = .ok (.if_icmp .eq 42, 3) := by decide +kernel
set_option maxRecDepth 20000 in
theorem dL_law_1386 : decode cL_law 1386 = .ok (.iconst 0, 1) := by decide +kernel
set_option maxRecDepth 20000 in
theorem dL_law_1387 : decode cL_law 1387 = .ok (.ireturn, 1) := by decide +kernel
set_option maxRecDepth 20000 in
theorem dL_law_1388 : decode cL_law 1388 = .ok (.aload_n 1, 1) := by decide +kernel
set_option maxRecDepth 20000 in
theorem dL_law_1389 : decode cL_law 1389 = .ok (.aload_n 0, 1) := by decide +kernel
set_option maxRecDepth 20000 in
theorem dL_law_1390 : decode cL_law 1390 = .ok (.iload_n 3, 1) := by decide +kernel
set_option maxRecDepth 20000 in
theorem dL_law_1391 : decode cL_law 1391 = .ok (.iconst 1, 1) := by decide +kernel
set_option maxRecDepth 20000 in
theorem dL_law_1392 : decode cL_law 1392 = .ok (.iadd, 1) := by decide +kernel
set_option maxRecDepth 20000 in
theorem dL_law_1393 : decode cL_law 1393 = .ok (.iaload, 1) := by decide +kernel
set_option maxRecDepth 20000 in
theorem dL_law_1394 : decode cL_law 1394 = .ok (.invokevirtual 158, 3) := by decide +kernel
set_option maxRecDepth 20000 in
theorem dL_law_1397 : decode cL_law 1397 = .ok (.aload_n 2, 1) := by decide +kernel
set_option maxRecDepth 20000 in
theorem dL_law_1398 : decode cL_law 1398 = .ok (.aload_n 0, 1) := by decide +kernel
set_option maxRecDepth 20000 in
theorem dL_law_1399 : decode cL_law 1399 = .ok (.iload_n 3, 1) := by decide +kernel
set_option maxRecDepth 20000 in
theorem dL_law_1400 : decode cL_law 1400 = .ok (.iconst 1, 1) := by decide +kernel
set_option maxRecDepth 20000 in
theorem dL_law_1401 : decode cL_law 1401 = .ok (.iadd, 1) := by decide +kernel
set_option maxRecDepth 20000 in
theorem dL_law_1402 : decode cL_law 1402 = .ok (.iaload, 1) := by decide +kernel
set_option maxRecDepth 20000 in
theorem dL_law_1403 : decode cL_law 1403 = .ok (.invokevirtual 161, 3) := by decide +kernel
set_option maxRecDepth 20000 in
theorem dL_law_1406 : decode cL_law 1406 = .ok (.if_icmp .eq 19, 3) := by decide +kernel
set_option maxRecDepth 20000 in
theorem dL_law_1409 : decode cL_law 1409 = .ok (.iconst 0, 1) := by decide +kernel
set_option maxRecDepth 20000 in
theorem dL_law_1410 : decode cL_law 1410 = .ok (.ireturn, 1) := by decide +kernel
set_option maxRecDepth 20000 in
theorem dL_law_1411 : decode cL_law 1411 = .ok (.aload_n 1, 1) := by decide +kernel
set_option maxRecDepth 20000 in
theorem dL_law_1412 : decode cL_law 1412 = .ok (.invokevirtual 162, 3) := by decide +kernel
set_option maxRecDepth 20000 in
theorem dL_law_1415 : decode cL_law 1415 = .ok (.aload_n 2, 1) := by decide +kernel
set_option maxRecDepth 20000 in
theorem dL_law_1416 : decode cL_law 1416 = .ok (.invokevirtual 166, 3) := by decide +kernel
set_option maxRecDepth 20000 in
theorem dL_law_1419 : decode cL_law 1419 = .ok (.lcmp, 1) := by decide +kernel
set_option maxRecDepth 20000 in
theorem dL_law_1420 : decode cL_law 1420 = .ok (.ifCond .eq 5, 3) := by decide +kernel
set_option maxRecDepth 20000 in
theorem dL_law_1423 : decode cL_law 1423 = .ok (.iconst 0, 1) := by decide +kernel
set_option maxRecDepth 20000 in
theorem dL_law_1424 : decode cL_law 1424 = .ok (.ireturn, 1) := by decide +kernel
set_option maxRecDepth 20000 in
theorem dL_law_1425 : decode cL_law 1425 = .ok (.iinc 3 7, 3) := by decide +kernel
set_option maxRecDepth 20000 in
theorem dL_law_1428 : decode cL_law 1428 = .ok (.goto (-1410), 3) := by decide +kernel
set_option maxRecDepth 20000 in
theorem dL_law_1431 : decode cL_law 1431 = .ok (.iconst 1, 1) := by decide +kernel
set_option maxRecDepth 20000 in
theorem dL_law_1432 : decode cL_law 1432 = .ok (.ireturn, 1) := by decide +kernel
end
section
/-! THE ABSTRACT MEMORY: every cell of the system by its place (0 to 70), its numbers as whole numbers; the shape never changes after the constructors -/
abbrev St : Type := Nat → Nat → Int
abbrev Rt : Type := Int × St
/-- what a cell is: an array of numbers (type, length); an array of cells (type, length, first place); an object (class, fields: (0, place), (1, _) an int, (2, _) a long, (3, _) a boolean) -/
abbrev Kd : Type := (Nat × Nat) ⊕ (Nat × Nat × Nat) ⊕ (Nat × List (Nat × Nat))
/-- tables; addresses; array classes; the two static rows -/
abbrev Ge : Type := va_G × (Nat → Nat) × (Nat → ClassId) × Nat × Nat
def rr_TB : List Kd := [
  .inr (.inr (8, [(0, 1), (0, 10), (0, 11), (0, 12), (0, 16), (0, 28), (0, 36), (0, 37), (0, 45), (0, 49), (1, 0)])),
  .inr (.inl (3, 4, 2)),
  .inr (.inr (5, [(0, 6), (1, 0)])), .inr (.inr (5, [(0, 7), (1, 0)])), .inr (.inr (5, [(0, 8), (1, 0)])), .inr (.inr (5, [(0, 9), (1, 0)])),
  .inl (0, 30), .inl (0, 30), .inl (0, 30), .inl (0, 12),
  .inl (0, 7), .inl (0, 3),
  .inr (.inr (1, [(0, 13), (0, 14), (0, 15), (1, 0)])), .inl (0, 8), .inl (0, 8), .inl (0, 8),
  .inr (.inr (6, [(0, 1), (0, 10), (0, 12), (0, 17), (0, 21), (0, 25), (0, 26), (0, 27), (3, 0)])),
  .inr (.inl (5, 3, 18)), .inl (0, 30), .inl (0, 30), .inl (0, 30),
  .inr (.inl (5, 3, 22)), .inl (0, 30), .inl (0, 30), .inl (0, 30),
  .inl (0, 3), .inl (0, 10), .inl (0, 30),
  .inr (.inr (7, [(0, 16), (0, 10), (0, 11), (0, 29), (0, 33), (0, 34), (0, 35)])),
  .inr (.inl (5, 3, 30)), .inl (0, 3), .inl (0, 3), .inl (0, 3),
  .inl (0, 3), .inl (0, 3), .inl (2, 3),
  .inr (.inr (3, [(0, 16), (1, 0), (1, 0), (1, 0)])),
  .inr (.inr (0, [(0, 16), (0, 11), (0, 38), (0, 39), (0, 40), (0, 41), (1, 0), (1, 0), (1, 0), (1, 0)])),
  .inl (0, 8), .inl (0, 8), .inl (0, 8),
  .inr (.inl (5, 3, 42)), .inl (0, 256), .inl (0, 256), .inl (0, 256),
  .inr (.inr (2, [(0, 46), (0, 47), (0, 48), (1, 0)])), .inl (0, 8), .inl (0, 8), .inl (0, 8),
  .inr (.inl (4, 4, 50)),
  .inr (.inr (4, [(0, 54), (1, 0), (1, 0)])), .inr (.inr (4, [(0, 55), (1, 0), (1, 0)])), .inr (.inr (4, [(0, 56), (1, 0), (1, 0)])), .inr (.inr (4, [(0, 57), (1, 0), (1, 0)])),
  .inl (0, 60), .inl (0, 60), .inl (0, 60), .inl (0, 60),
  .inr (.inr (9, [(0, 59), (0, 60), (0, 61), (0, 62), (1, 0), (0, 63), (0, 64), (0, 65), (0, 66), (1, 0), (0, 67), (0, 68), (3, 0), (0, 69), (1, 0), (1, 0), (2, 0), (1, 0), (0, 70)])),
  .inl (0, 4), .inl (0, 4), .inl (0, 240), .inl (0, 60), .inl (0, 120), .inl (0, 4), .inl (0, 7), .inl (0, 3), .inl (0, 27), .inl (1, 93), .inl (0, 32), .inl (0, 24)]

def rr_fv (ad : Nat → Nat) (f : Nat → Int) (i : Nat) (q : Nat × Nat) : Value := match q.1 with
  | 0 => .ref (ad q.2)
  | 2 => .long (Int64.ofInt (f i))
  | _ => .int (Int32.ofInt (f i))
def rr_fvs (ad : Nat → Nat) (f : Nat → Int) : Nat → List (Nat × Nat) → List Value
  | _, [] => []
  | i, q :: qs => rr_fv ad f i q :: rr_fvs ad f (i + 1) qs
def rr_kE (G : Ge) (f : Nat → Int) (k : Kd) : va_E := match k with
  | .inl (1, n) => .inl (G.2.2.1 1, n, .inr (.inl (fun j => Int64.ofInt (f j))))
  | .inl (t, n) => .inl (G.2.2.1 t, n, .inl (fun j => Int32.ofInt (f j)))
  | .inr (.inl (t, n, b)) => .inl (G.2.2.1 t, n, .inr (.inr (.inr (.inr (fun j => some (G.2.1 (b + j)))))))
  | .inr (.inr (ci, fs)) => .inr (ci, rr_fvs G.2.1 f 0 fs)
def rr_wd (G : Ge) (σ : St) : va_W := (List.range 71).map (fun k => (G.2.1 k, rr_kE G (σ k) (rr_TB.getD k (.inl (0, 0)))))
theorem rr_lt {k : Nat} {kd : Kd} (h : rr_TB[k]? = some kd) : k < 71 := (List.getElem?_eq_some_iff.mp h).1
theorem rr_getD {k : Nat} {kd : Kd} (h : rr_TB[k]? = some kd) : rr_TB.getD k (.inl (0, 0)) = kd := by
  rw [List.getD_eq_getElem?_getD, h]; rfl
theorem rr_wd_get {G : Ge} {σ : St} {k : Nat} {kd : Kd} (h : rr_TB[k]? = some kd) : (rr_wd G σ)[k]? = some (G.2.1 k, rr_kE G (σ k) kd) := by
  unfold rr_wd
  rw [List.getElem?_map, List.getElem?_range (rr_lt h), Option.map_some, rr_getD h]
theorem rr_wd_len {G : Ge} {σ : St} : (rr_wd G σ).length = 71 := by
  unfold rr_wd
  rw [List.length_map, List.length_range]
theorem rr_wd_at {G : Ge} {σ : St} {k : Nat} {q : Nat × va_E} (h : (rr_wd G σ)[k]? = some q) : k < 71 ∧ q.1 = G.2.1 k := by
  have hk : k < 71 := by
    have := (List.getElem?_eq_some_iff.mp h).1
    rwa [rr_wd_len] at this
  refine ⟨hk, ?_⟩
  unfold rr_wd at h
  rw [List.getElem?_map, List.getElem?_range hk, Option.map_some] at h
  cases h
  rfl
theorem rr_wd_set {G : Ge} {σ σ' : St} {k : Nat} {kd : Kd} (h : rr_TB[k]? = some kd) (hs : ∀ j, j ≠ k → σ' j = σ j) : (rr_wd G σ).set k (G.2.1 k, rr_kE G (σ' k) kd) = rr_wd G σ' := by
  apply List.ext_getElem?
  intro j
  by_cases e : j = k
  · subst e
    rw [List.getElem?_set_self (by rw [rr_wd_len]; exact rr_lt h), rr_wd_get h]
  · rw [List.getElem?_set_ne (fun q => e q.symm)]
    by_cases hj : j < 71
    · unfold rr_wd
      rw [List.getElem?_map, List.getElem?_map, List.getElem?_range hj, Option.map_some, Option.map_some, hs j e]
    · rw [List.getElem?_eq_none (by rw [rr_wd_len]; omega), List.getElem?_eq_none (by rw [rr_wd_len]; omega)]
def su (σ : St) (k i : Nat) (v : Int) : St := fun k' i' => if k' = k ∧ i' = i then v else σ k' i'
theorem su_ne {σ : St} {k i : Nat} {v : Int} (j : Nat) (h : j ≠ k) : su σ k i v j = σ j := by
  funext i'
  simp [su, h]
theorem su_eq {σ : St} {k i : Nat} {v : Int} (i' : Nat) : su σ k i v k i' = if i' = i then v else σ k i' := by
  simp [su]
/-- n numbers of cell a from sp on come to cell b from dp on -/
def scp (σ : St) (a sp b dp n : Nat) : St := fun k i => if k = b ∧ dp ≤ i ∧ i < dp + n then σ a (sp + (i - dp)) else σ k i
theorem scp_ne {σ : St} {a sp b dp n : Nat} (j : Nat) (h : j ≠ b) : scp σ a sp b dp n j = σ j := by
  funext i'
  simp [scp, h]
def rr_A (G : Ge) : Nat → Prop := fun q => ∃ k, k < 71 ∧ q = G.2.1 k
def rr_GD (G : Ge) : Prop := ∀ i j, i < 71 → j < 71 → G.2.1 i = G.2.1 j → i = j
theorem rr_D {G : Ge} {σ : St} (h : rr_GD G) : va_D (rr_A G) (rr_wd G σ) := by
  refine ⟨fun i j p q hp hq he => ?_, fun k q hq => ?_⟩
  · obtain ⟨h1, h2⟩ := rr_wd_at hp
    obtain ⟨h3, h4⟩ := rr_wd_at hq
    exact h i j h1 h3 (by rw [← h2, ← h4]; exact he)
  · obtain ⟨h1, h2⟩ := rr_wd_at hq
    exact ⟨k, h1, h2⟩
def rr_gT (G : Ge) : List (ClassId × FieldType) := [(G.2.2.1 0, .int), (G.2.2.1 1, .long), (G.2.2.1 2, .boolean), (G.2.2.1 3, .object "RoadRiver$Text"), (G.2.2.1 4, .object "RoadRiver$Sheet"), (G.2.2.1 5, .array .int)]
def rr_TL (j : Nat) : Int := match j with
  | 3 => 1
  | _ => 0
def rr_TM (j : Nat) : Int := match j with
  | 0 => 9
  | 1 => 29
  | 3 => 9
  | 6 => 9
  | _ => 99
def rr_ST (G : Ge) (U : State) : Prop := (va_Z "RoadRiver" "TERM_LEAST" "[I" (.ref G.2.2.2.1) (rr_A G) U U.heap ∧ va_T .int G.2.2.2.1 7 (fun j => .int (Int32.ofInt (rr_TL j))) (rr_A G) U U.heap) ∧ (va_Z "RoadRiver" "TERM_MOST" "[I" (.ref G.2.2.2.2) (rr_A G) U U.heap ∧ va_T .int G.2.2.2.2 7 (fun j => .int (Int32.ofInt (rr_TM j))) (rr_A G) U U.heap)
/-- the words that stay good over calls, and the nest's links, which go with the world -/
def rr_tbl : List Cond := lw_tbl.filter goodWord
theorem rr_in {w : Cond} (h : w ∈ lw_tbl) (hg : goodWord w = true) : w ∈ rr_tbl := List.mem_filter.mpr ⟨h, hg⟩
def rr_isN (w : Cond) : Bool := match w with
  | .methodLinkNest .. => true
  | .fieldLinkNest .. => true
  | _ => false
def rr_NW (U : State) : Prop := ∀ w ∈ lw_tbl, rr_isN w = true → va_Nw w U
theorem rr_NW.warm {s U : State} (hW : s.WarmedH U.vm) (h : rr_NW s) : rr_NW U := by
  intro w hw hn
  have h1 := h w hw hn
  cases w with
  | methodLinkNest a i x b => exact va_Nw.warmM hW h1
  | fieldLinkNest a i b n d z => exact va_Nw.warmF hW h1
  | _ => cases hn
theorem rr_NW.same {s U : State} (hv : s.vm = U.vm) (h : rr_NW s) : rr_NW U := by
  intro w hw hn
  have h1 := h w hw hn
  refine va_Nw.same ?_ hv h1
  cases w with
  | methodLinkNest a i x b => rfl
  | fieldLinkNest a i b n d z => rfl
  | _ => cases hn
def rr_Pre (G : Ge) (σ : St) (U : State) : Prop := va_P G.1 vwCl (rr_wd G σ) U.heap ∧ va_K G.1 vwCl (rr_gT G) U ∧ rr_ST G U ∧ rr_NW U
def rr_rv (rk : Nat) (r : Int) : Option Value := match rk with
  | 0 => none
  | 1 => some (.int (Int32.ofInt r))
  | _ => some (.long (Int64.ofInt r))
def rr_Q (G : Ge) (rk : Nat) (Z : Rt) : Array Value → State → Outcome → State → Prop := fun _ st oc t => oc = .returned (rr_rv rk Z.1) ∧ va_P G.1 vwCl (rr_wd G Z.2) t.heap ∧ va_F (rr_A G) st t
def rr_rm (a b : Nat) : Room := { frames := a, cells := 0, slots := 0, locals := b }
/-- A CONTRACT: if the function that was read off the method says that it comes to Z, it does -/
def rr_Ct (l : Launch) (G : Ge) (y : MethodName) (cc : ByteArray) (nL : Nat) (ret : Option FieldType) (a b rk : Nat) (av : List Value) (σ : St) (o : Option Rt) : Prop :=
  ∀ Z : Rt, o = some Z → Met l y (.code y cc nL ret :: rr_tbl) (rr_rm a b) (va_Pc av (rr_Pre G σ)) (rr_Q G rk Z) 0 0 (rr_A G)
abbrev CX : Type := Program × Launch × Env × Room × State × MethodId × Array Value × List Frame × Method × Code
/-- what holds all through a method's walk -/
def rr_OK (X : CX) (G : Ge) (cc : ByteArray) (nL : Nat) (own : String) (ret : Option FieldType) (a b : Nat) : Prop := match X with
  | (p, l, e, R, s, m, args, below, meth, c) => p.tables.exec = Jvm.exec ∧ c.code = cc ∧ c.maxLocals = nL ∧ s.vm.findClass own = some m.cls ∧ (∀ w ∈ rr_tbl, w.before args s = true) ∧ va_K G.1 vwCl (rr_gT G) s ∧ rr_GD G ∧ meth.sig.returnType = ret ∧ meth.locks = false ∧ rr_ST G s ∧ rr_NW s ∧ R = rr_rm a b
/-- THE WALK: with these locals, this stack and this memory at pc, the method comes to Z -/
def rr_AT (X : CX) (G : Ge) (nL rk : Nat) (Z : Rt) (pc : Nat) (lv : List (Nat × Value)) (st : List Value) (σ : St) : Prop := match X with
  | (p, l, e, R, s, m, args, below, meth, c) => ∀ (H : Heap) (locs : List Loc) (ls : Array Slot), va_P G.1 vwCl (rr_wd G σ) H → va_S (rr_A G) s.heap H locs → lv_has ls nL lv → W p l e R s m args below meth c H locs 0 0 (MQ below (rr_Q G rk Z) args s 0 0 (rr_A G)) (F0 m pc ls st)
def vi (z : Int) : Value := .int (Int32.ofInt z)
def vl (z : Int) : Value := .long (Int64.ofInt z)
def vr (G : Ge) (k : Nat) : Value := .ref (G.2.1 k)
abbrev in32 (z : Int) : Prop := -2147483648 ≤ z ∧ z ≤ 2147483647
abbrev in64 (z : Int) : Prop := -9223372036854775808 ≤ z ∧ z ≤ 9223372036854775807
def chk (P : Prop) [Decidable P] (E : Option Rt) : Option Rt := if P then E else none
def cll (o : Option Rt) (K : Int → St → Option Rt) : Option Rt := match o with
  | some r => K r.1 r.2
  | none => none
theorem chk_some {P : Prop} [Decidable P] {E : Option Rt} {Z : Rt} (h : chk P E = some Z) : P ∧ E = some Z := by
  unfold chk at h
  by_cases hp : P
  · rw [if_pos hp] at h
    exact ⟨hp, h⟩
  · rw [if_neg hp] at h
    cases h
theorem chk_pos {P : Prop} [Decidable P] {E : Option Rt} (h : P) : chk P E = E := if_pos h
theorem cll_some {o : Option Rt} {K : Int → St → Option Rt} {Z : Rt} (h : cll o K = some Z) : ∃ r : Rt, o = some r ∧ K r.1 r.2 = some Z := by
  cases o with
  | none => cases h
  | some r => exact ⟨r, rfl, h⟩
theorem cll_pos {K : Int → St → Option Rt} {r : Int} {σ : St} : cll (some (r, σ)) K = K r σ := rfl
theorem i32_rt {z : Int} (h : in32 z) : (Int32.ofInt z).toInt = z := Int32.toInt_ofInt_of_le (by omega) (by omega)
theorem i64_rt {z : Int} (h : in64 z) : (Int64.ofInt z).toInt = z := Int64.toInt_ofInt_of_le (by omega) (by omega)
theorem i32_lt {x y : Int} (hx : in32 x) (hy : in32 y) : Int32.ofInt x < Int32.ofInt y ↔ x < y := by rw [Int32.lt_iff_toInt_lt, i32_rt hx, i32_rt hy]
theorem i32_le {x y : Int} (hx : in32 x) (hy : in32 y) : Int32.ofInt x ≤ Int32.ofInt y ↔ x ≤ y := by rw [Int32.le_iff_toInt_le, i32_rt hx, i32_rt hy]
theorem i32_eq {x y : Int} (hx : in32 x) (hy : in32 y) : Int32.ofInt x = Int32.ofInt y ↔ x = y := by rw [← Int32.toInt_inj, i32_rt hx, i32_rt hy]
theorem i64_lt {x y : Int} (hx : in64 x) (hy : in64 y) : Int64.ofInt x < Int64.ofInt y ↔ x < y := by rw [Int64.lt_iff_toInt_lt, i64_rt hx, i64_rt hy]
theorem i64_eq {x y : Int} (hx : in64 x) (hy : in64 y) : Int64.ofInt x = Int64.ofInt y ↔ x = y := by rw [← Int64.toInt_inj, i64_rt hx, i64_rt hy]
theorem i32_cl {z : Int} (h : in32 z) (h0 : 0 ≤ z) : (Int32.ofInt z).toNatClampNeg = z.toNat := by
  show (Int32.ofInt z).toInt.toNat = z.toNat
  rw [i32_rt h]
theorem i32_in {i : Int} {n : Nat} (hn : n ≤ 1000) (h : 0 ≤ i ∧ i < n) : vp_in (Int32.ofInt i) n := by
  rw [vp_in_iff, i32_rt (by omega)]
  exact h
/-- an index within -/
abbrev ix (i : Int) (n : Nat) : Prop := 0 ≤ i ∧ i < (n : Int)
theorem ix_nat {i : Int} {n : Nat} (h : ix i n) : i.toNat < n := by omega
def andZ (x y : Int) : Int := (Int32.ofInt x &&& Int32.ofInt y).toInt
def orZ (x y : Int) : Int := (Int32.ofInt x ||| Int32.ofInt y).toInt
def xorZ (x y : Int) : Int := (Int32.ofInt x ^^^ Int32.ofInt y).toInt
def shlZ (x y : Int) : Int := (Int32.ofInt x <<< (Int32.ofInt y &&& 31)).toInt
def shrZ (x y : Int) : Int := (Int32.ofInt x >>> (Int32.ofInt y &&& 31)).toInt
def ushrZ (x y : Int) : Int := ((Int32.ofInt x).toUInt32 >>> ((Int32.ofInt y).toUInt32 &&& Int32.toUInt32 31)).toInt32.toInt
def i2bZ (x : Int) : Int := (Int32.ofInt x).toInt8.toInt32.toInt
def i2sZ (x : Int) : Int := (Int32.ofInt x).toInt16.toInt32.toInt
/-- a loop's steps are counted; no loop of the system takes as many -/
def FU : Nat := 1000
end
section
theorem i64_le {x y : Int} (hx : in64 x) (hy : in64 y) : Int64.ofInt x ≤ Int64.ofInt y ↔ x ≤ y := by rw [Int64.le_iff_toInt_le, i64_rt hx, i64_rt hy]
theorem z32_0 : in32 0 := by decide
theorem zr32_ne {y : Int} (h2 : 0 < y) (h3 : in32 y) : ¬ Int32.ofInt y = 0 := by
  intro q
  have := (i32_eq h3 z32_0).mp q
  omega
theorem zr64_ne {y : Int} (h2 : 0 < y) (h3 : in64 y) : ¬ Int64.ofInt y = 0 := by
  intro q
  have := (i64_eq h3 (y := 0) (by decide)).mp q
  omega
theorem zr32_div {x y : Int} (h0 : 0 ≤ x) (h1 : in32 x) (h2 : 0 < y) (h3 : in32 y) : Int32.ofInt x / Int32.ofInt y = Int32.ofInt (x / y) := by
  rw [← Int.tdiv_eq_ediv_of_nonneg h0]
  exact (Int32.ofInt_tdiv h1.1 h1.2 h3.1 h3.2).symm
theorem zr64_div {x y : Int} (h0 : 0 ≤ x) (h1 : in64 x) (h2 : 0 < y) (h3 : in64 y) : Int64.ofInt x / Int64.ofInt y = Int64.ofInt (x / y) := by
  rw [← Int.tdiv_eq_ediv_of_nonneg h0]
  exact (Int64.ofInt_tdiv h1.1 h1.2 h3.1 h3.2).symm
theorem zr32_rem {x y : Int} (h0 : 0 ≤ x) (h1 : in32 x) (h2 : 0 < y) (h3 : in32 y) : Int32.ofInt x - Int32.ofInt x / Int32.ofInt y * Int32.ofInt y = Int32.ofInt (x % y) := by
  rw [zr32_div h0 h1 h2 h3, ← Int32.ofInt_mul, ← Int32.ofInt_sub, Int.emod_def, Int.mul_comm]
theorem zr64_rem {x y : Int} (h0 : 0 ≤ x) (h1 : in64 x) (h2 : 0 < y) (h3 : in64 y) : Int64.ofInt x - Int64.ofInt x / Int64.ofInt y * Int64.ofInt y = Int64.ofInt (x % y) := by
  rw [zr64_div h0 h1 h2 h3, ← Int64.ofInt_mul, ← Int64.ofInt_sub, Int.emod_def, Int.mul_comm]
theorem rr_nz {x : Int} (h : x = 0 ∨ x = 1) : narrow .boolean (vi x) = vi x := by rcases h with rfl | rfl <;> decide
theorem rr_fz {x : Int} (h : x = 0 ∨ x = 1) : fits .boolean (vi x) = true := by rcases h with rfl | rfl <;> decide
theorem rr_vnz {x : Int} (h : x = 0 ∨ x = 1) : vp_nar .boolean (Int32.ofInt x) = Int32.ofInt x := by rcases h with rfl | rfl <;> decide
theorem rr_kE_i {G : Ge} {σ : St} {k i n : Nat} {x : Int} : rr_kE G (su σ k i x k) (.inl (0, n)) = .inl (G.2.2.1 0, n, .inl (upd (fun j => Int32.ofInt (σ k j)) i (Int32.ofInt x))) := by
  show (Sum.inl (G.2.2.1 0, n, Sum.inl (fun j => Int32.ofInt (su σ k i x k j))) : va_E) = _
  refine congrArg (fun f => (Sum.inl (G.2.2.1 0, n, Sum.inl f) : va_E)) (funext fun j => ?_)
  rw [su_eq]
  unfold upd
  split <;> rfl
theorem rr_kE_z {G : Ge} {σ : St} {k i n : Nat} {x : Int} (h : x = 0 ∨ x = 1) : rr_kE G (su σ k i x k) (.inl (2, n)) = .inl (G.2.2.1 2, n, .inl (upd (fun j => Int32.ofInt (σ k j)) i (vp_nar .boolean (Int32.ofInt x)))) := by
  rw [rr_vnz h]
  show (Sum.inl (G.2.2.1 2, n, Sum.inl (fun j => Int32.ofInt (su σ k i x k j))) : va_E) = _
  refine congrArg (fun f => (Sum.inl (G.2.2.1 2, n, Sum.inl f) : va_E)) (funext fun j => ?_)
  rw [su_eq]
  unfold upd
  split <;> rfl
theorem rr_kE_l {G : Ge} {σ : St} {k i n : Nat} {x : Int} : rr_kE G (su σ k i x k) (.inl (1, n)) = .inl (G.2.2.1 1, n, .inr (.inl (vp_updL (fun j => Int64.ofInt (σ k j)) i (Int64.ofInt x)))) := by
  show (Sum.inl (G.2.2.1 1, n, Sum.inr (Sum.inl (fun j => Int64.ofInt (su σ k i x k j)))) : va_E) = _
  refine congrArg (fun f => (Sum.inl (G.2.2.1 1, n, Sum.inr (Sum.inl f)) : va_E)) (funext fun j => ?_)
  rw [su_eq]
  unfold vp_updL
  split <;> rfl
theorem rr_kE_o {G : Ge} {f : Nat → Int} {ci : Nat} {fs : List (Nat × Nat)} : rr_kE G f (.inr (.inr (ci, fs))) = .inr (ci, rr_fvs G.2.1 f 0 fs) := rfl
theorem rr_fvs_getA {ad : Nat → Nat} {f : Nat → Int} : ∀ (fs : List (Nat × Nat)) (i j : Nat) {q : Nat × Nat}, fs[j]? = some q → (rr_fvs ad f i fs)[j]? = some (rr_fv ad f (i + j) q)
  | [], _, _, _, h => by simp at h
  | q0 :: qs, i, 0, q, h => by
    simp at h
    subst h
    simp [rr_fvs]
  | q0 :: qs, i, j + 1, q, h => by
    have h1 : qs[j]? = some q := by simpa using h
    have := rr_fvs_getA (ad := ad) (f := f) qs (i + 1) j h1
    rw [show i + 1 + j = i + (j + 1) by omega] at this
    simpa [rr_fvs] using this
theorem rr_fvs_get {ad : Nat → Nat} {f : Nat → Int} {fs : List (Nat × Nat)} {j : Nat} {q : Nat × Nat} (h : fs[j]? = some q) : (rr_fvs ad f 0 fs)[j]? = some (rr_fv ad f (0 + j) q) := rr_fvs_getA fs 0 j h
theorem rr_fvs_len {ad : Nat → Nat} {f : Nat → Int} {fs : List (Nat × Nat)} : ∀ {i : Nat}, (rr_fvs ad f i fs).length = fs.length := by
  induction fs with
  | nil => intro i; rfl
  | cons q qs ih => intro i; simp [rr_fvs, ih]
theorem rr_fvs_none {ad : Nat → Nat} {f g : Nat → Int} : ∀ (fs : List (Nat × Nat)) (i : Nat), (∀ a, i ≤ a → f a = g a) → rr_fvs ad f i fs = rr_fvs ad g i fs
  | [], _, _ => rfl
  | q :: qs, i, h => by
    have h1 := rr_fvs_none (ad := ad) qs (i + 1) (fun a ha => h a (by omega))
    have h2 := h i (Nat.le_refl i)
    simp only [rr_fvs, h1, rr_fv, h2]
theorem rr_fvs_setA {ad : Nat → Nat} {σ : St} {k : Nat} {x : Int} : ∀ (fs : List (Nat × Nat)) (i j : Nat) {q : Nat × Nat}, fs[j]? = some q → rr_fvs ad (su σ k (i + j) x k) i fs = (rr_fvs ad (σ k) i fs).set j (rr_fv ad (fun _ => x) (i + j) q)
  | [], _, _, _, h => by simp at h
  | q0 :: qs, i, 0, q, h => by
    simp at h
    subst h
    have h1 := rr_fvs_none (ad := ad) (f := su σ k (i + 0) x k) (g := σ k) qs (i + 1) (fun a ha => by rw [su_eq, if_neg (by omega)])
    rw [Nat.add_zero] at h1
    simp only [rr_fvs, List.set_cons_zero, rr_fv, su_eq, Nat.add_zero, if_true, h1]
  | q0 :: qs, i, j + 1, q, h => by
    have h1 : qs[j]? = some q := by simpa using h
    have := rr_fvs_setA (ad := ad) (σ := σ) (k := k) (x := x) qs (i + 1) j h1
    rw [show i + 1 + j = i + (j + 1) by omega] at this
    simp only [rr_fvs, List.set_cons_succ, this, rr_fv, su_eq]
    rw [if_neg (show ¬ i = i + (j + 1) by omega)]
theorem rr_fvs_set {ad : Nat → Nat} {σ : St} {k j : Nat} {x : Int} {fs : List (Nat × Nat)} {q : Nat × Nat} (h : fs[j]? = some q) : rr_fvs ad (su σ k j x k) 0 fs = (rr_fvs ad (σ k) 0 fs).set j (rr_fv ad (fun _ => x) j q) := by
  have := rr_fvs_setA (ad := ad) (σ := σ) (k := k) (x := x) fs 0 j h
  rwa [Nat.zero_add] at this
def rr_FL (own : String) (ixx ci j : Nat) : Prop := ∃ (C : String) (T : u_T) (N : Nat), vwCl[ci]? = some (C, T, N) ∧ (∀ w ∈ u_ws C T N, w ∈ rr_tbl) ∧ j < N ∧ Cond.fieldLink own ixx (T j).1 (T j).2.1 (T j).2.2.1 ∈ rr_tbl
def rr_FLN (own : String) (ixx ci j : Nat) : Prop := ∃ (C : String) (T : u_T) (N : Nat) (host : String), vwCl[ci]? = some (C, T, N) ∧ (∀ w ∈ u_ws C T N, w ∈ rr_tbl) ∧ j < N ∧ Cond.fieldLinkNest own ixx (T j).1 (T j).2.1 (T j).2.2.1 host ∈ lw_tbl
def rr_FP (own : String) (ixx ci j : Nat) (ty : FieldType) : Prop := ∃ (C : String) (T : u_T) (N : Nat) (ty0 : Nat → FieldType), vwCl[ci]? = some (C, T, N) ∧ (∀ w ∈ u_ws C T N, w ∈ rr_tbl) ∧ (∀ k, k < N → parseFieldDescriptor (T k).2.2.1 = some (ty0 k)) ∧ (∀ a, a < N → ∀ b, b < N → a ≠ b → (T a).2.1 ≠ (T b).2.1) ∧ j < N ∧ Cond.fieldLink own ixx (T j).1 (T j).2.1 (T j).2.2.1 ∈ rr_tbl ∧ (T j).2.2.2 = false ∧ parseFieldDescriptor (T j).2.2.1 = some ty
section ALDA
variable {p : Program} {l : Launch} {e : Env} {R : Room} {s : State} {m : MethodId} {args : Array Value} {below : List Frame} {meth : Method} {c : Code} {H : Heap} {locs : List Loc} {cells slots : Nat} {Q : State → Prop} {D : va_G} {cl : List vw_C} {tys : List (ClassId × FieldType)} {ws : va_W} {cc : ByteArray} {pc a : Nat} {ls : Array Slot} {rest : List Value}
theorem rr_aldA (hexec : p.tables.exec = Jvm.exec) (hb : c.code = cc) (hK : va_K D cl tys s) (hP : va_P D cl ws H) (q0 t0 : Nat) {cA : ClassId} {n : Nat} {f : Nat → Option Nat} (ha : ws[q0]? = some (a, .inl (cA, n, .inr (.inr (.inr (.inr f)))))) (ht : tys[t0]? = some (cA, .array .int)) {i : Int32} (hin : vp_in i n) (hdg : decode cc pc = .ok (.aaload, 1))
    (kk : W p l e R s m args below meth c H locs cells slots Q (F0 m (pc + 1) ls (va_rf (f i.toNatClampNeg) :: rest))) : W p l e R s m args below meth c H locs cells slots Q (F0 m pc ls (.int i :: .ref a :: rest)) := by
  have hlt : i.toNatClampNeg < n := Nat.not_le.mp fun q => hin (Or.inr q)
  exact W.aald (v := va_rf (f i.toNatClampNeg)) (ty := .array .int) hexec hb (hP q0 _ ha) ((hK.2 t0 _ ht).1 n (fun j => va_rf (f j))) rfl (fun q => by cases q) (by show ¬ (i < 0 ∨ (arrV _ _ _).slots.size ≤ _); rw [arrV_size]; exact hin) (by show (arrV _ _ _).slots[_]? = _; rw [arrV_read _ _ hlt]) rfl rfl hdg kk
end ALDA
section ROWS
variable {X : CX} {G : Ge} {cc : ByteArray} {nL rk a b pc : Nat} {own : String} {ret : Option FieldType} {Z : Rt} {lv lv' : List (Nat × Value)} {st : List Value} {σ : St}
theorem at_iconst (hO : rr_OK X G cc nL own ret a b) {n : Int} (hd : decode cc pc = .ok (.iconst n, 1)) (pc' : Nat) (hp : pc + 1 = pc') (k : rr_AT X G nL rk Z pc' lv (vi n :: st) σ) : rr_AT X G nL rk Z pc lv st σ := by
  obtain ⟨p, l, e, R, s, m, args, below, meth, c⟩ := X
  obtain ⟨hx, hb, hml, hown, hts, hK, hG, hr, hlk, hst, hnw, hR⟩ := hO
  subst hp
  intro H locs ls hP hS hl
  refine lv_iconst hx hb hd rfl ?_
  exact k H locs ls hP hS hl
theorem at_bipush (hO : rr_OK X G cc nL own ret a b) {n : Int} (hv : (Int8.ofInt n).toInt32 = Int32.ofInt n) (hd : decode cc pc = .ok (.bipush n, 2)) (pc' : Nat) (hp : pc + 2 = pc') (k : rr_AT X G nL rk Z pc' lv (vi n :: st) σ) : rr_AT X G nL rk Z pc lv st σ := by
  obtain ⟨p, l, e, R, s, m, args, below, meth, c⟩ := X
  obtain ⟨hx, hb, hml, hown, hts, hK, hG, hr, hlk, hst, hnw, hR⟩ := hO
  subst hp
  intro H locs ls hP hS hl
  refine lv_bipush hx hb hd hv ?_
  exact k H locs ls hP hS hl
theorem at_sipush (hO : rr_OK X G cc nL own ret a b) {n : Int} (hv : (Int16.ofInt n).toInt32 = Int32.ofInt n) (hd : decode cc pc = .ok (.sipush n, 3)) (pc' : Nat) (hp : pc + 3 = pc') (k : rr_AT X G nL rk Z pc' lv (vi n :: st) σ) : rr_AT X G nL rk Z pc lv st σ := by
  obtain ⟨p, l, e, R, s, m, args, below, meth, c⟩ := X
  obtain ⟨hx, hb, hml, hown, hts, hK, hG, hr, hlk, hst, hnw, hR⟩ := hO
  subst hp
  intro H locs ls hP hS hl
  refine lv_sipush hx hb hd hv ?_
  exact k H locs ls hP hS hl
theorem at_ldc (hO : rr_OK X G cc nL own ret a b) {n : Int} {ixx : Nat} {v : Int32} (hw : Cond.constant own ixx v ∈ rr_tbl) (hv : v = Int32.ofInt n) (hd : decode cc pc = .ok (.ldc ixx, 2)) (pc' : Nat) (hp : pc + 2 = pc') (k : rr_AT X G nL rk Z pc' lv (vi n :: st) σ) : rr_AT X G nL rk Z pc lv st σ := by
  obtain ⟨p, l, e, R, s, m, args, below, meth, c⟩ := X
  obtain ⟨hx, hb, hml, hown, hts, hK, hG, hr, hlk, hst, hnw, hR⟩ := hO
  subst hp
  intro H locs ls hP hS hl
  subst hv
  refine lv_ldc hx hb hown (hts _ hw) hd ?_
  exact k H locs ls hP hS hl
theorem at_ldc_w (hO : rr_OK X G cc nL own ret a b) {n : Int} {ixx : Nat} {v : Int32} (hw : Cond.constant own ixx v ∈ rr_tbl) (hv : v = Int32.ofInt n) (hd : decode cc pc = .ok (.ldc_w ixx, 3)) (pc' : Nat) (hp : pc + 3 = pc') (k : rr_AT X G nL rk Z pc' lv (vi n :: st) σ) : rr_AT X G nL rk Z pc lv st σ := by
  obtain ⟨p, l, e, R, s, m, args, below, meth, c⟩ := X
  obtain ⟨hx, hb, hml, hown, hts, hK, hG, hr, hlk, hst, hnw, hR⟩ := hO
  subst hp
  intro H locs ls hP hS hl
  subst hv
  refine lv_ldcw hx hb hown (hts _ hw) hd ?_
  exact k H locs ls hP hS hl
theorem at_ldc2_w (hO : rr_OK X G cc nL own ret a b) {n : Int} {ixx : Nat} {v : Int64} (hw : Cond.constantLong own ixx v ∈ rr_tbl) (hv : v = Int64.ofInt n) (hd : decode cc pc = .ok (.ldc2_w ixx, 3)) (pc' : Nat) (hp : pc + 3 = pc') (k : rr_AT X G nL rk Z pc' lv (vl n :: st) σ) : rr_AT X G nL rk Z pc lv st σ := by
  obtain ⟨p, l, e, R, s, m, args, below, meth, c⟩ := X
  obtain ⟨hx, hb, hml, hown, hts, hK, hG, hr, hlk, hst, hnw, hR⟩ := hO
  subst hp
  intro H locs ls hP hS hl
  subst hv
  refine lv_ldc2 hx hb hown (hts _ hw) hd ?_
  exact k H locs ls hP hS hl
theorem at_lconst (hO : rr_OK X G cc nL own ret a b) {n : Int} {q : Fin 2} (hv : Int64.ofNat (q : Nat) = Int64.ofInt n) (hd : decode cc pc = .ok (.lconst q, 1)) (pc' : Nat) (hp : pc + 1 = pc') (k : rr_AT X G nL rk Z pc' lv (vl n :: st) σ) : rr_AT X G nL rk Z pc lv st σ := by
  obtain ⟨p, l, e, R, s, m, args, below, meth, c⟩ := X
  obtain ⟨hx, hb, hml, hown, hts, hK, hG, hr, hlk, hst, hnw, hR⟩ := hO
  subst hp
  intro H locs ls hP hS hl
  refine lv_lconst hx hb hd hv ?_
  exact k H locs ls hP hS hl
theorem at_iload_n (hO : rr_OK X G cc nL own ret a b) {q : Fin 4} (j : Nat) {i : Nat} {x : Int} (hi : (q : Nat) = i) (hj : lv[j]? = some (i, vi x)) (hd : decode cc pc = .ok (.iload_n q, 1)) (pc' : Nat) (hp : pc + 1 = pc') (k : rr_AT X G nL rk Z pc' lv (vi x :: st) σ) : rr_AT X G nL rk Z pc lv st σ := by
  obtain ⟨p, l, e, R, s, m, args, below, meth, c⟩ := X
  obtain ⟨hx, hb, hml, hown, hts, hK, hG, hr, hlk, hst, hnw, hR⟩ := hO
  subst hp
  intro H locs ls hP hS hl
  refine lv_iload_n hx hb hd hi (lv_at hl j hj) ?_
  exact k H locs ls hP hS hl
theorem at_iload (hO : rr_OK X G cc nL own ret a b) (j : Nat) {i : Nat} {x : Int} (hj : lv[j]? = some (i, vi x)) (hd : decode cc pc = .ok (.iload i, 2)) (pc' : Nat) (hp : pc + 2 = pc') (k : rr_AT X G nL rk Z pc' lv (vi x :: st) σ) : rr_AT X G nL rk Z pc lv st σ := by
  obtain ⟨p, l, e, R, s, m, args, below, meth, c⟩ := X
  obtain ⟨hx, hb, hml, hown, hts, hK, hG, hr, hlk, hst, hnw, hR⟩ := hO
  subst hp
  intro H locs ls hP hS hl
  refine lv_iload hx hb hd (lv_at hl j hj) ?_
  exact k H locs ls hP hS hl
theorem at_lload_n (hO : rr_OK X G cc nL own ret a b) {q : Fin 4} (j : Nat) {i : Nat} {x : Int} (hi : (q : Nat) = i) (hj : lv[j]? = some (i, vl x)) (hd : decode cc pc = .ok (.lload_n q, 1)) (pc' : Nat) (hp : pc + 1 = pc') (k : rr_AT X G nL rk Z pc' lv (vl x :: st) σ) : rr_AT X G nL rk Z pc lv st σ := by
  obtain ⟨p, l, e, R, s, m, args, below, meth, c⟩ := X
  obtain ⟨hx, hb, hml, hown, hts, hK, hG, hr, hlk, hst, hnw, hR⟩ := hO
  subst hp
  intro H locs ls hP hS hl
  refine lv_lload_n hx hb hd hi (lv_at hl j hj) ?_
  exact k H locs ls hP hS hl
theorem at_lload (hO : rr_OK X G cc nL own ret a b) (j : Nat) {i : Nat} {x : Int} (hj : lv[j]? = some (i, vl x)) (hd : decode cc pc = .ok (.lload i, 2)) (pc' : Nat) (hp : pc + 2 = pc') (k : rr_AT X G nL rk Z pc' lv (vl x :: st) σ) : rr_AT X G nL rk Z pc lv st σ := by
  obtain ⟨p, l, e, R, s, m, args, below, meth, c⟩ := X
  obtain ⟨hx, hb, hml, hown, hts, hK, hG, hr, hlk, hst, hnw, hR⟩ := hO
  subst hp
  intro H locs ls hP hS hl
  refine lv_lload hx hb hd (lv_at hl j hj) ?_
  exact k H locs ls hP hS hl
theorem at_aload_n (hO : rr_OK X G cc nL own ret a b) {q : Fin 4} (j : Nat) {i : Nat} {x : Nat} (hi : (q : Nat) = i) (hj : lv[j]? = some (i, vr G x)) (hd : decode cc pc = .ok (.aload_n q, 1)) (pc' : Nat) (hp : pc + 1 = pc') (k : rr_AT X G nL rk Z pc' lv (vr G x :: st) σ) : rr_AT X G nL rk Z pc lv st σ := by
  obtain ⟨p, l, e, R, s, m, args, below, meth, c⟩ := X
  obtain ⟨hx, hb, hml, hown, hts, hK, hG, hr, hlk, hst, hnw, hR⟩ := hO
  subst hp
  intro H locs ls hP hS hl
  refine lv_aload_n hx hb hd hi (lv_at hl j hj) ?_
  exact k H locs ls hP hS hl
theorem at_aload (hO : rr_OK X G cc nL own ret a b) (j : Nat) {i : Nat} {x : Nat} (hj : lv[j]? = some (i, vr G x)) (hd : decode cc pc = .ok (.aload i, 2)) (pc' : Nat) (hp : pc + 2 = pc') (k : rr_AT X G nL rk Z pc' lv (vr G x :: st) σ) : rr_AT X G nL rk Z pc lv st σ := by
  obtain ⟨p, l, e, R, s, m, args, below, meth, c⟩ := X
  obtain ⟨hx, hb, hml, hown, hts, hK, hG, hr, hlk, hst, hnw, hR⟩ := hO
  subst hp
  intro H locs ls hP hS hl
  refine lv_aload hx hb hd (lv_at hl j hj) ?_
  exact k H locs ls hP hS hl
theorem at_istore_n (hO : rr_OK X G cc nL own ret a b) {q : Fin 4} {i : Nat} {x : Int} (hi : (q : Nat) = i) (hn : i < nL) (hl1 : (i, vi x) :: lv.filter (fun q => !(q.1 == i) && !(q.1 + 1 == i && q.2.category == 2)) = lv') (hd : decode cc pc = .ok (.istore_n q, 1)) (pc' : Nat) (hp : pc + 1 = pc') (k : rr_AT X G nL rk Z pc' lv' st σ) : rr_AT X G nL rk Z pc lv (vi x :: st) σ := by
  obtain ⟨p, l, e, R, s, m, args, below, meth, c⟩ := X
  obtain ⟨hx, hb, hml, hown, hts, hK, hG, hr, hlk, hst, hnw, hR⟩ := hO
  subst hp
  intro H locs ls hP hS hl
  refine lv_istore_n hx hb hd hi hl hn hl1 (fun ls' hl' => ?_)
  exact k H locs ls' hP hS hl'
theorem at_istore (hO : rr_OK X G cc nL own ret a b) {i : Nat} {x : Int} (hn : i < nL) (hl1 : (i, vi x) :: lv.filter (fun q => !(q.1 == i) && !(q.1 + 1 == i && q.2.category == 2)) = lv') (hd : decode cc pc = .ok (.istore i, 2)) (pc' : Nat) (hp : pc + 2 = pc') (k : rr_AT X G nL rk Z pc' lv' st σ) : rr_AT X G nL rk Z pc lv (vi x :: st) σ := by
  obtain ⟨p, l, e, R, s, m, args, below, meth, c⟩ := X
  obtain ⟨hx, hb, hml, hown, hts, hK, hG, hr, hlk, hst, hnw, hR⟩ := hO
  subst hp
  intro H locs ls hP hS hl
  refine lv_istore hx hb hd hl hn hl1 (fun ls' hl' => ?_)
  exact k H locs ls' hP hS hl'
theorem at_lstore_n (hO : rr_OK X G cc nL own ret a b) {q : Fin 4} {i : Nat} {x : Int} (hi : (q : Nat) = i) (hn : i + 1 < nL) (hl1 : (i, vl x) :: lv.filter (fun q => !(q.1 == i) && (!(q.1 == i + 1) && !(q.1 + 1 == i && q.2.category == 2))) = lv') (hd : decode cc pc = .ok (.lstore_n q, 1)) (pc' : Nat) (hp : pc + 1 = pc') (k : rr_AT X G nL rk Z pc' lv' st σ) : rr_AT X G nL rk Z pc lv (vl x :: st) σ := by
  obtain ⟨p, l, e, R, s, m, args, below, meth, c⟩ := X
  obtain ⟨hx, hb, hml, hown, hts, hK, hG, hr, hlk, hst, hnw, hR⟩ := hO
  subst hp
  intro H locs ls hP hS hl
  refine lv_lstore_n hx hb hd hi hl hn hl1 (fun ls' hl' => ?_)
  exact k H locs ls' hP hS hl'
theorem at_lstore (hO : rr_OK X G cc nL own ret a b) {i : Nat} {x : Int} (hn : i + 1 < nL) (hl1 : (i, vl x) :: lv.filter (fun q => !(q.1 == i) && (!(q.1 == i + 1) && !(q.1 + 1 == i && q.2.category == 2))) = lv') (hd : decode cc pc = .ok (.lstore i, 2)) (pc' : Nat) (hp : pc + 2 = pc') (k : rr_AT X G nL rk Z pc' lv' st σ) : rr_AT X G nL rk Z pc lv (vl x :: st) σ := by
  obtain ⟨p, l, e, R, s, m, args, below, meth, c⟩ := X
  obtain ⟨hx, hb, hml, hown, hts, hK, hG, hr, hlk, hst, hnw, hR⟩ := hO
  subst hp
  intro H locs ls hP hS hl
  refine lv_lstore hx hb hd hl hn hl1 (fun ls' hl' => ?_)
  exact k H locs ls' hP hS hl'
theorem at_iinc (hO : rr_OK X G cc nL own ret a b) (j : Nat) {i : Nat} {n x : Int} (hj : lv[j]? = some (i, vi x)) (hn : i < nL) (hl1 : (i, vi (x + n)) :: lv.filter (fun q => !(q.1 == i) && !(q.1 + 1 == i && q.2.category == 2)) = lv') (hd : decode cc pc = .ok (.iinc i n, 3)) (pc' : Nat) (hp : pc + 3 = pc') (k : rr_AT X G nL rk Z pc' lv' st σ) : rr_AT X G nL rk Z pc lv st σ := by
  obtain ⟨p, l, e, R, s, m, args, below, meth, c⟩ := X
  obtain ⟨hx, hb, hml, hown, hts, hK, hG, hr, hlk, hst, hnw, hR⟩ := hO
  subst hp
  intro H locs ls hP hS hl
  refine lv_iinc hx hb hd hl hj (by rw [← Int32.ofInt_add]) hn hl1 (fun ls' hl' => ?_)
  exact k H locs ls' hP hS hl'
theorem at_iadd (hO : rr_OK X G cc nL own ret a b) {x y : Int} (hd : decode cc pc = .ok (.iadd, 1)) (pc' : Nat) (hp : pc + 1 = pc') (k : rr_AT X G nL rk Z pc' lv (vi (x + y) :: st) σ) : rr_AT X G nL rk Z pc lv (vi y :: vi x :: st) σ := by
  obtain ⟨p, l, e, R, s, m, args, below, meth, c⟩ := X
  obtain ⟨hx, hb, hml, hown, hts, hK, hG, hr, hlk, hst, hnw, hR⟩ := hO
  subst hp
  intro H locs ls hP hS hl
  refine lv_iadd hx hb hd ?_
  rw [← Int32.ofInt_add]
  exact k H locs ls hP hS hl
theorem at_ladd (hO : rr_OK X G cc nL own ret a b) {x y : Int} (hd : decode cc pc = .ok (.ladd, 1)) (pc' : Nat) (hp : pc + 1 = pc') (k : rr_AT X G nL rk Z pc' lv (vl (x + y) :: st) σ) : rr_AT X G nL rk Z pc lv (vl y :: vl x :: st) σ := by
  obtain ⟨p, l, e, R, s, m, args, below, meth, c⟩ := X
  obtain ⟨hx, hb, hml, hown, hts, hK, hG, hr, hlk, hst, hnw, hR⟩ := hO
  subst hp
  intro H locs ls hP hS hl
  refine lv_ladd hx hb hd ?_
  rw [← Int64.ofInt_add]
  exact k H locs ls hP hS hl
theorem at_isub (hO : rr_OK X G cc nL own ret a b) {x y : Int} (hd : decode cc pc = .ok (.isub, 1)) (pc' : Nat) (hp : pc + 1 = pc') (k : rr_AT X G nL rk Z pc' lv (vi (x - y) :: st) σ) : rr_AT X G nL rk Z pc lv (vi y :: vi x :: st) σ := by
  obtain ⟨p, l, e, R, s, m, args, below, meth, c⟩ := X
  obtain ⟨hx, hb, hml, hown, hts, hK, hG, hr, hlk, hst, hnw, hR⟩ := hO
  subst hp
  intro H locs ls hP hS hl
  refine lv_isub hx hb hd ?_
  rw [← Int32.ofInt_sub]
  exact k H locs ls hP hS hl
theorem at_lsub (hO : rr_OK X G cc nL own ret a b) {x y : Int} (hd : decode cc pc = .ok (.lsub, 1)) (pc' : Nat) (hp : pc + 1 = pc') (k : rr_AT X G nL rk Z pc' lv (vl (x - y) :: st) σ) : rr_AT X G nL rk Z pc lv (vl y :: vl x :: st) σ := by
  obtain ⟨p, l, e, R, s, m, args, below, meth, c⟩ := X
  obtain ⟨hx, hb, hml, hown, hts, hK, hG, hr, hlk, hst, hnw, hR⟩ := hO
  subst hp
  intro H locs ls hP hS hl
  refine lv_lsub hx hb hd ?_
  rw [← Int64.ofInt_sub]
  exact k H locs ls hP hS hl
theorem at_imul (hO : rr_OK X G cc nL own ret a b) {x y : Int} (hd : decode cc pc = .ok (.imul, 1)) (pc' : Nat) (hp : pc + 1 = pc') (k : rr_AT X G nL rk Z pc' lv (vi (x * y) :: st) σ) : rr_AT X G nL rk Z pc lv (vi y :: vi x :: st) σ := by
  obtain ⟨p, l, e, R, s, m, args, below, meth, c⟩ := X
  obtain ⟨hx, hb, hml, hown, hts, hK, hG, hr, hlk, hst, hnw, hR⟩ := hO
  subst hp
  intro H locs ls hP hS hl
  refine lv_imul hx hb hd ?_
  rw [← Int32.ofInt_mul]
  exact k H locs ls hP hS hl
theorem at_lmul (hO : rr_OK X G cc nL own ret a b) {x y : Int} (hd : decode cc pc = .ok (.lmul, 1)) (pc' : Nat) (hp : pc + 1 = pc') (k : rr_AT X G nL rk Z pc' lv (vl (x * y) :: st) σ) : rr_AT X G nL rk Z pc lv (vl y :: vl x :: st) σ := by
  obtain ⟨p, l, e, R, s, m, args, below, meth, c⟩ := X
  obtain ⟨hx, hb, hml, hown, hts, hK, hG, hr, hlk, hst, hnw, hR⟩ := hO
  subst hp
  intro H locs ls hP hS hl
  refine lv_lmul hx hb hd ?_
  rw [← Int64.ofInt_mul]
  exact k H locs ls hP hS hl
theorem at_lneg (hO : rr_OK X G cc nL own ret a b) {x : Int} (hd : decode cc pc = .ok (.lneg, 1)) (pc' : Nat) (hp : pc + 1 = pc') (k : rr_AT X G nL rk Z pc' lv (vl (-x) :: st) σ) : rr_AT X G nL rk Z pc lv (vl x :: st) σ := by
  obtain ⟨p, l, e, R, s, m, args, below, meth, c⟩ := X
  obtain ⟨hx, hb, hml, hown, hts, hK, hG, hr, hlk, hst, hnw, hR⟩ := hO
  subst hp
  intro H locs ls hP hS hl
  refine lv_lneg hx hb hd ?_
  rw [← Int64.ofInt_neg]
  exact k H locs ls hP hS hl
theorem at_iand (hO : rr_OK X G cc nL own ret a b) {x y : Int} (hd : decode cc pc = .ok (.iand, 1)) (pc' : Nat) (hp : pc + 1 = pc') (k : rr_AT X G nL rk Z pc' lv (vi (andZ x y) :: st) σ) : rr_AT X G nL rk Z pc lv (vi y :: vi x :: st) σ := by
  obtain ⟨p, l, e, R, s, m, args, below, meth, c⟩ := X
  obtain ⟨hx, hb, hml, hown, hts, hK, hG, hr, hlk, hst, hnw, hR⟩ := hO
  subst hp
  intro H locs ls hP hS hl
  have k2 := k H locs ls hP hS hl
  unfold vi andZ at k2
  rw [Int32.ofInt_toInt] at k2
  exact lv_iand hx hb hd k2
theorem at_ior (hO : rr_OK X G cc nL own ret a b) {x y : Int} (hd : decode cc pc = .ok (.ior, 1)) (pc' : Nat) (hp : pc + 1 = pc') (k : rr_AT X G nL rk Z pc' lv (vi (orZ x y) :: st) σ) : rr_AT X G nL rk Z pc lv (vi y :: vi x :: st) σ := by
  obtain ⟨p, l, e, R, s, m, args, below, meth, c⟩ := X
  obtain ⟨hx, hb, hml, hown, hts, hK, hG, hr, hlk, hst, hnw, hR⟩ := hO
  subst hp
  intro H locs ls hP hS hl
  have k2 := k H locs ls hP hS hl
  unfold vi orZ at k2
  rw [Int32.ofInt_toInt] at k2
  exact lv_ior hx hb hd k2
theorem at_ixor (hO : rr_OK X G cc nL own ret a b) {x y : Int} (hd : decode cc pc = .ok (.ixor, 1)) (pc' : Nat) (hp : pc + 1 = pc') (k : rr_AT X G nL rk Z pc' lv (vi (xorZ x y) :: st) σ) : rr_AT X G nL rk Z pc lv (vi y :: vi x :: st) σ := by
  obtain ⟨p, l, e, R, s, m, args, below, meth, c⟩ := X
  obtain ⟨hx, hb, hml, hown, hts, hK, hG, hr, hlk, hst, hnw, hR⟩ := hO
  subst hp
  intro H locs ls hP hS hl
  have k2 := k H locs ls hP hS hl
  unfold vi xorZ at k2
  rw [Int32.ofInt_toInt] at k2
  exact lv_ixor hx hb hd k2
theorem at_ishl (hO : rr_OK X G cc nL own ret a b) {x y : Int} (hd : decode cc pc = .ok (.ishl, 1)) (pc' : Nat) (hp : pc + 1 = pc') (k : rr_AT X G nL rk Z pc' lv (vi (shlZ x y) :: st) σ) : rr_AT X G nL rk Z pc lv (vi y :: vi x :: st) σ := by
  obtain ⟨p, l, e, R, s, m, args, below, meth, c⟩ := X
  obtain ⟨hx, hb, hml, hown, hts, hK, hG, hr, hlk, hst, hnw, hR⟩ := hO
  subst hp
  intro H locs ls hP hS hl
  have k2 := k H locs ls hP hS hl
  unfold vi shlZ at k2
  rw [Int32.ofInt_toInt] at k2
  exact lv_ishl hx hb hd k2
theorem at_ishr (hO : rr_OK X G cc nL own ret a b) {x y : Int} (hd : decode cc pc = .ok (.ishr, 1)) (pc' : Nat) (hp : pc + 1 = pc') (k : rr_AT X G nL rk Z pc' lv (vi (shrZ x y) :: st) σ) : rr_AT X G nL rk Z pc lv (vi y :: vi x :: st) σ := by
  obtain ⟨p, l, e, R, s, m, args, below, meth, c⟩ := X
  obtain ⟨hx, hb, hml, hown, hts, hK, hG, hr, hlk, hst, hnw, hR⟩ := hO
  subst hp
  intro H locs ls hP hS hl
  have k2 := k H locs ls hP hS hl
  unfold vi shrZ at k2
  rw [Int32.ofInt_toInt] at k2
  exact lv_ishr hx hb hd k2
theorem at_iushr (hO : rr_OK X G cc nL own ret a b) {x y : Int} (hd : decode cc pc = .ok (.iushr, 1)) (pc' : Nat) (hp : pc + 1 = pc') (k : rr_AT X G nL rk Z pc' lv (vi (ushrZ x y) :: st) σ) : rr_AT X G nL rk Z pc lv (vi y :: vi x :: st) σ := by
  obtain ⟨p, l, e, R, s, m, args, below, meth, c⟩ := X
  obtain ⟨hx, hb, hml, hown, hts, hK, hG, hr, hlk, hst, hnw, hR⟩ := hO
  subst hp
  intro H locs ls hP hS hl
  have k2 := k H locs ls hP hS hl
  unfold vi ushrZ at k2
  rw [Int32.ofInt_toInt] at k2
  exact lv_iushr hx hb hd rfl k2
theorem at_i2b (hO : rr_OK X G cc nL own ret a b) {x : Int} (hd : decode cc pc = .ok (.i2b, 1)) (pc' : Nat) (hp : pc + 1 = pc') (k : rr_AT X G nL rk Z pc' lv (vi (i2bZ x) :: st) σ) : rr_AT X G nL rk Z pc lv (vi x :: st) σ := by
  obtain ⟨p, l, e, R, s, m, args, below, meth, c⟩ := X
  obtain ⟨hx, hb, hml, hown, hts, hK, hG, hr, hlk, hst, hnw, hR⟩ := hO
  subst hp
  intro H locs ls hP hS hl
  have k2 := k H locs ls hP hS hl
  unfold vi i2bZ at k2
  rw [Int32.ofInt_toInt] at k2
  exact lv_i2b hx hb hd rfl k2
theorem at_i2s (hO : rr_OK X G cc nL own ret a b) {x : Int} (hd : decode cc pc = .ok (.i2s, 1)) (pc' : Nat) (hp : pc + 1 = pc') (k : rr_AT X G nL rk Z pc' lv (vi (i2sZ x) :: st) σ) : rr_AT X G nL rk Z pc lv (vi x :: st) σ := by
  obtain ⟨p, l, e, R, s, m, args, below, meth, c⟩ := X
  obtain ⟨hx, hb, hml, hown, hts, hK, hG, hr, hlk, hst, hnw, hR⟩ := hO
  subst hp
  intro H locs ls hP hS hl
  have k2 := k H locs ls hP hS hl
  unfold vi i2sZ at k2
  rw [Int32.ofInt_toInt] at k2
  exact lv_i2s hx hb hd rfl k2
theorem at_i2l (hO : rr_OK X G cc nL own ret a b) {x : Int} (hi : in32 x) (hd : decode cc pc = .ok (.i2l, 1)) (pc' : Nat) (hp : pc + 1 = pc') (k : rr_AT X G nL rk Z pc' lv (vl x :: st) σ) : rr_AT X G nL rk Z pc lv (vi x :: st) σ := by
  obtain ⟨p, l, e, R, s, m, args, below, meth, c⟩ := X
  obtain ⟨hx, hb, hml, hown, hts, hK, hG, hr, hlk, hst, hnw, hR⟩ := hO
  subst hp
  intro H locs ls hP hS hl
  refine lv_i2l hx hb hd (by rw [← Int64.ofInt_int32ToInt, i32_rt hi]) ?_
  exact k H locs ls hP hS hl
theorem at_l2i (hO : rr_OK X G cc nL own ret a b) {x : Int} (hd : decode cc pc = .ok (.l2i, 1)) (pc' : Nat) (hp : pc + 1 = pc') (k : rr_AT X G nL rk Z pc' lv (vi x :: st) σ) : rr_AT X G nL rk Z pc lv (vl x :: st) σ := by
  obtain ⟨p, l, e, R, s, m, args, below, meth, c⟩ := X
  obtain ⟨hx, hb, hml, hown, hts, hK, hG, hr, hlk, hst, hnw, hR⟩ := hO
  subst hp
  intro H locs ls hP hS hl
  refine lv_l2i hx hb hd Int64.toInt32_ofInt ?_
  exact k H locs ls hP hS hl
theorem at_idiv (hO : rr_OK X G cc nL own ret a b) {x y : Int} (h0 : 0 ≤ x) (h1 : in32 x) (h2 : 0 < y) (h3 : in32 y) (hd : decode cc pc = .ok (.idiv, 1)) (pc' : Nat) (hp : pc + 1 = pc') (k : rr_AT X G nL rk Z pc' lv (vi (x / y) :: st) σ) : rr_AT X G nL rk Z pc lv (vi y :: vi x :: st) σ := by
  obtain ⟨p, l, e, R, s, m, args, below, meth, c⟩ := X
  obtain ⟨hx, hb, hml, hown, hts, hK, hG, hr, hlk, hst, hnw, hR⟩ := hO
  subst hp
  intro H locs ls hP hS hl
  refine lv_idiv hx hb hd (zr32_ne h2 h3) ?_
  rw [zr32_div h0 h1 h2 h3]
  exact k H locs ls hP hS hl
theorem at_irem (hO : rr_OK X G cc nL own ret a b) {x y : Int} (h0 : 0 ≤ x) (h1 : in32 x) (h2 : 0 < y) (h3 : in32 y) (hd : decode cc pc = .ok (.irem, 1)) (pc' : Nat) (hp : pc + 1 = pc') (k : rr_AT X G nL rk Z pc' lv (vi (x % y) :: st) σ) : rr_AT X G nL rk Z pc lv (vi y :: vi x :: st) σ := by
  obtain ⟨p, l, e, R, s, m, args, below, meth, c⟩ := X
  obtain ⟨hx, hb, hml, hown, hts, hK, hG, hr, hlk, hst, hnw, hR⟩ := hO
  subst hp
  intro H locs ls hP hS hl
  refine lv_irem hx hb hd (zr32_ne h2 h3) ?_
  rw [zr32_rem h0 h1 h2 h3]
  exact k H locs ls hP hS hl
theorem at_ldiv (hO : rr_OK X G cc nL own ret a b) {x y : Int} (h0 : 0 ≤ x) (h1 : in64 x) (h2 : 0 < y) (h3 : in64 y) (hd : decode cc pc = .ok (.ldiv, 1)) (pc' : Nat) (hp : pc + 1 = pc') (k : rr_AT X G nL rk Z pc' lv (vl (x / y) :: st) σ) : rr_AT X G nL rk Z pc lv (vl y :: vl x :: st) σ := by
  obtain ⟨p, l, e, R, s, m, args, below, meth, c⟩ := X
  obtain ⟨hx, hb, hml, hown, hts, hK, hG, hr, hlk, hst, hnw, hR⟩ := hO
  subst hp
  intro H locs ls hP hS hl
  refine lv_ldiv hx hb hd (zr64_ne h2 h3) ?_
  rw [zr64_div h0 h1 h2 h3]
  exact k H locs ls hP hS hl
theorem at_lrem (hO : rr_OK X G cc nL own ret a b) {x y : Int} (h0 : 0 ≤ x) (h1 : in64 x) (h2 : 0 < y) (h3 : in64 y) (hd : decode cc pc = .ok (.lrem, 1)) (pc' : Nat) (hp : pc + 1 = pc') (k : rr_AT X G nL rk Z pc' lv (vl (x % y) :: st) σ) : rr_AT X G nL rk Z pc lv (vl y :: vl x :: st) σ := by
  obtain ⟨p, l, e, R, s, m, args, below, meth, c⟩ := X
  obtain ⟨hx, hb, hml, hown, hts, hK, hG, hr, hlk, hst, hnw, hR⟩ := hO
  subst hp
  intro H locs ls hP hS hl
  refine lv_lrem hx hb hd (zr64_ne h2 h3) ?_
  rw [zr64_rem h0 h1 h2 h3]
  exact k H locs ls hP hS hl
theorem at_dup (hO : rr_OK X G cc nL own ret a b) {v : Value} (hc : v.category = 1) (hd : decode cc pc = .ok (.dup, 1)) (pc' : Nat) (hp : pc + 1 = pc') (k : rr_AT X G nL rk Z pc' lv (v :: v :: st) σ) : rr_AT X G nL rk Z pc lv (v :: st) σ := by
  obtain ⟨p, l, e, R, s, m, args, below, meth, c⟩ := X
  obtain ⟨hx, hb, hml, hown, hts, hK, hG, hr, hlk, hst, hnw, hR⟩ := hO
  subst hp
  intro H locs ls hP hS hl
  refine lv_dup hx hb hd hc ?_
  exact k H locs ls hP hS hl
theorem at_dup2 (hO : rr_OK X G cc nL own ret a b) {v w : Value} (hc : v.category = 1) (hc2 : w.category = 1) (hd : decode cc pc = .ok (.dup2, 1)) (pc' : Nat) (hp : pc + 1 = pc') (k : rr_AT X G nL rk Z pc' lv (v :: w :: v :: w :: st) σ) : rr_AT X G nL rk Z pc lv (v :: w :: st) σ := by
  obtain ⟨p, l, e, R, s, m, args, below, meth, c⟩ := X
  obtain ⟨hx, hb, hml, hown, hts, hK, hG, hr, hlk, hst, hnw, hR⟩ := hO
  subst hp
  intro H locs ls hP hS hl
  refine lv_dup2_11 hx hb hd hc hc2 ?_
  exact k H locs ls hP hS hl
theorem at_pop (hO : rr_OK X G cc nL own ret a b) {v : Value} (hc : v.category = 1) (hd : decode cc pc = .ok (.pop, 1)) (pc' : Nat) (hp : pc + 1 = pc') (k : rr_AT X G nL rk Z pc' lv st σ) : rr_AT X G nL rk Z pc lv (v :: st) σ := by
  obtain ⟨p, l, e, R, s, m, args, below, meth, c⟩ := X
  obtain ⟨hx, hb, hml, hown, hts, hK, hG, hr, hlk, hst, hnw, hR⟩ := hO
  subst hp
  intro H locs ls hP hS hl
  refine lv_pop hx hb hd hc ?_
  exact k H locs ls hP hS hl
theorem at_goto (hO : rr_OK X G cc nL own ret a b) {off : Int} (hd : decode cc pc = .ok (.goto off, 3)) (pc' : Nat) (hp : (pc : Int) + off = (pc' : Int)) (k : rr_AT X G nL rk Z pc' lv st σ) : rr_AT X G nL rk Z pc lv st σ := by
  obtain ⟨p, l, e, R, s, m, args, below, meth, c⟩ := X
  obtain ⟨hx, hb, hml, hown, hts, hK, hG, hr, hlk, hst, hnw, hR⟩ := hO
  intro H locs ls hP hS hl
  exact lv_goto hx hb hd hp (k H locs ls hP hS hl)
theorem at_icmp_eq (hO : rr_OK X G cc nL own ret a b) {x y : Int} (h1 : in32 x) (h2 : in32 y) {off : Int} {E1 E2 : Option Rt} (hd : decode cc pc = .ok (.if_icmp .eq off, 3)) (tgt : Nat) (ht : (pc : Int) + off = (tgt : Int)) (pc' : Nat) (hp : pc + 3 = pc') (hf : (if x = y then E1 else E2) = some Z) (k1 : E1 = some Z → rr_AT X G nL rk Z tgt lv st σ) (k2 : E2 = some Z → rr_AT X G nL rk Z pc' lv st σ) : rr_AT X G nL rk Z pc lv (vi y :: vi x :: st) σ := by
  obtain ⟨p, l, e, R, s, m, args, below, meth, c⟩ := X
  obtain ⟨hx, hb, hml, hown, hts, hK, hG, hr, hlk, hst, hnw, hR⟩ := hO
  subst hp
  intro H locs ls hP hS hl
  refine lv_icmp_eq hx hb hd ht (fun hc => ?_) (fun hc => ?_)
  · rw [if_pos ((i32_eq h1 h2).mp hc)] at hf
    exact k1 hf H locs ls hP hS hl
  · rw [if_neg (fun q => hc ((i32_eq h1 h2).mpr q))] at hf
    exact k2 hf H locs ls hP hS hl
theorem at_if_eq (hO : rr_OK X G cc nL own ret a b) {x : Int} (h1 : in32 x) {off : Int} {E1 E2 : Option Rt} (hd : decode cc pc = .ok (.ifCond .eq off, 3)) (tgt : Nat) (ht : (pc : Int) + off = (tgt : Int)) (pc' : Nat) (hp : pc + 3 = pc') (hf : (if x = 0 then E1 else E2) = some Z) (k1 : E1 = some Z → rr_AT X G nL rk Z tgt lv st σ) (k2 : E2 = some Z → rr_AT X G nL rk Z pc' lv st σ) : rr_AT X G nL rk Z pc lv (vi x :: st) σ := by
  obtain ⟨p, l, e, R, s, m, args, below, meth, c⟩ := X
  obtain ⟨hx, hb, hml, hown, hts, hK, hG, hr, hlk, hst, hnw, hR⟩ := hO
  subst hp
  intro H locs ls hP hS hl
  refine lv_if_eq hx hb hd ht (fun hc => ?_) (fun hc => ?_)
  · rw [if_pos ((i32_eq h1 z32_0).mp hc)] at hf
    exact k1 hf H locs ls hP hS hl
  · rw [if_neg (fun q => hc ((i32_eq h1 z32_0).mpr q))] at hf
    exact k2 hf H locs ls hP hS hl
theorem at_icmp_ne (hO : rr_OK X G cc nL own ret a b) {x y : Int} (h1 : in32 x) (h2 : in32 y) {off : Int} {E1 E2 : Option Rt} (hd : decode cc pc = .ok (.if_icmp .ne off, 3)) (tgt : Nat) (ht : (pc : Int) + off = (tgt : Int)) (pc' : Nat) (hp : pc + 3 = pc') (hf : (if x = y then E2 else E1) = some Z) (k1 : E1 = some Z → rr_AT X G nL rk Z tgt lv st σ) (k2 : E2 = some Z → rr_AT X G nL rk Z pc' lv st σ) : rr_AT X G nL rk Z pc lv (vi y :: vi x :: st) σ := by
  obtain ⟨p, l, e, R, s, m, args, below, meth, c⟩ := X
  obtain ⟨hx, hb, hml, hown, hts, hK, hG, hr, hlk, hst, hnw, hR⟩ := hO
  subst hp
  intro H locs ls hP hS hl
  refine lv_icmp_ne hx hb hd ht (fun hc => ?_) (fun hc => ?_)
  · rw [if_neg (fun q => hc ((i32_eq h1 h2).mpr q))] at hf
    exact k1 hf H locs ls hP hS hl
  · rw [if_pos ((i32_eq h1 h2).mp hc)] at hf
    exact k2 hf H locs ls hP hS hl
theorem at_if_ne (hO : rr_OK X G cc nL own ret a b) {x : Int} (h1 : in32 x) {off : Int} {E1 E2 : Option Rt} (hd : decode cc pc = .ok (.ifCond .ne off, 3)) (tgt : Nat) (ht : (pc : Int) + off = (tgt : Int)) (pc' : Nat) (hp : pc + 3 = pc') (hf : (if x = 0 then E2 else E1) = some Z) (k1 : E1 = some Z → rr_AT X G nL rk Z tgt lv st σ) (k2 : E2 = some Z → rr_AT X G nL rk Z pc' lv st σ) : rr_AT X G nL rk Z pc lv (vi x :: st) σ := by
  obtain ⟨p, l, e, R, s, m, args, below, meth, c⟩ := X
  obtain ⟨hx, hb, hml, hown, hts, hK, hG, hr, hlk, hst, hnw, hR⟩ := hO
  subst hp
  intro H locs ls hP hS hl
  refine lv_if_ne hx hb hd ht (fun hc => ?_) (fun hc => ?_)
  · rw [if_neg (fun q => hc ((i32_eq h1 z32_0).mpr q))] at hf
    exact k1 hf H locs ls hP hS hl
  · rw [if_pos ((i32_eq h1 z32_0).mp hc)] at hf
    exact k2 hf H locs ls hP hS hl
theorem at_icmp_lt (hO : rr_OK X G cc nL own ret a b) {x y : Int} (h1 : in32 x) (h2 : in32 y) {off : Int} {E1 E2 : Option Rt} (hd : decode cc pc = .ok (.if_icmp .lt off, 3)) (tgt : Nat) (ht : (pc : Int) + off = (tgt : Int)) (pc' : Nat) (hp : pc + 3 = pc') (hf : (if x < y then E1 else E2) = some Z) (k1 : E1 = some Z → rr_AT X G nL rk Z tgt lv st σ) (k2 : E2 = some Z → rr_AT X G nL rk Z pc' lv st σ) : rr_AT X G nL rk Z pc lv (vi y :: vi x :: st) σ := by
  obtain ⟨p, l, e, R, s, m, args, below, meth, c⟩ := X
  obtain ⟨hx, hb, hml, hown, hts, hK, hG, hr, hlk, hst, hnw, hR⟩ := hO
  subst hp
  intro H locs ls hP hS hl
  refine lv_icmp_lt hx hb hd ht (fun hc => ?_) (fun hc => ?_)
  · rw [if_pos ((i32_lt h1 h2).mp hc)] at hf
    exact k1 hf H locs ls hP hS hl
  · rw [if_neg (fun q => hc ((i32_lt h1 h2).mpr q))] at hf
    exact k2 hf H locs ls hP hS hl
theorem at_if_lt (hO : rr_OK X G cc nL own ret a b) {x : Int} (h1 : in32 x) {off : Int} {E1 E2 : Option Rt} (hd : decode cc pc = .ok (.ifCond .lt off, 3)) (tgt : Nat) (ht : (pc : Int) + off = (tgt : Int)) (pc' : Nat) (hp : pc + 3 = pc') (hf : (if x < 0 then E1 else E2) = some Z) (k1 : E1 = some Z → rr_AT X G nL rk Z tgt lv st σ) (k2 : E2 = some Z → rr_AT X G nL rk Z pc' lv st σ) : rr_AT X G nL rk Z pc lv (vi x :: st) σ := by
  obtain ⟨p, l, e, R, s, m, args, below, meth, c⟩ := X
  obtain ⟨hx, hb, hml, hown, hts, hK, hG, hr, hlk, hst, hnw, hR⟩ := hO
  subst hp
  intro H locs ls hP hS hl
  refine lv_if_lt hx hb hd ht (fun hc => ?_) (fun hc => ?_)
  · rw [if_pos ((i32_lt h1 z32_0).mp hc)] at hf
    exact k1 hf H locs ls hP hS hl
  · rw [if_neg (fun q => hc ((i32_lt h1 z32_0).mpr q))] at hf
    exact k2 hf H locs ls hP hS hl
theorem at_icmp_ge (hO : rr_OK X G cc nL own ret a b) {x y : Int} (h1 : in32 x) (h2 : in32 y) {off : Int} {E1 E2 : Option Rt} (hd : decode cc pc = .ok (.if_icmp .ge off, 3)) (tgt : Nat) (ht : (pc : Int) + off = (tgt : Int)) (pc' : Nat) (hp : pc + 3 = pc') (hf : (if y ≤ x then E1 else E2) = some Z) (k1 : E1 = some Z → rr_AT X G nL rk Z tgt lv st σ) (k2 : E2 = some Z → rr_AT X G nL rk Z pc' lv st σ) : rr_AT X G nL rk Z pc lv (vi y :: vi x :: st) σ := by
  obtain ⟨p, l, e, R, s, m, args, below, meth, c⟩ := X
  obtain ⟨hx, hb, hml, hown, hts, hK, hG, hr, hlk, hst, hnw, hR⟩ := hO
  subst hp
  intro H locs ls hP hS hl
  refine lv_icmp_ge hx hb hd ht (fun hc => ?_) (fun hc => ?_)
  · rw [if_pos ((i32_le h2 h1).mp hc)] at hf
    exact k1 hf H locs ls hP hS hl
  · rw [if_neg (fun q => hc ((i32_le h2 h1).mpr q))] at hf
    exact k2 hf H locs ls hP hS hl
theorem at_if_ge (hO : rr_OK X G cc nL own ret a b) {x : Int} (h1 : in32 x) {off : Int} {E1 E2 : Option Rt} (hd : decode cc pc = .ok (.ifCond .ge off, 3)) (tgt : Nat) (ht : (pc : Int) + off = (tgt : Int)) (pc' : Nat) (hp : pc + 3 = pc') (hf : (if 0 ≤ x then E1 else E2) = some Z) (k1 : E1 = some Z → rr_AT X G nL rk Z tgt lv st σ) (k2 : E2 = some Z → rr_AT X G nL rk Z pc' lv st σ) : rr_AT X G nL rk Z pc lv (vi x :: st) σ := by
  obtain ⟨p, l, e, R, s, m, args, below, meth, c⟩ := X
  obtain ⟨hx, hb, hml, hown, hts, hK, hG, hr, hlk, hst, hnw, hR⟩ := hO
  subst hp
  intro H locs ls hP hS hl
  refine lv_if_ge hx hb hd ht (fun hc => ?_) (fun hc => ?_)
  · rw [if_pos ((i32_le z32_0 h1).mp hc)] at hf
    exact k1 hf H locs ls hP hS hl
  · rw [if_neg (fun q => hc ((i32_le z32_0 h1).mpr q))] at hf
    exact k2 hf H locs ls hP hS hl
theorem at_icmp_gt (hO : rr_OK X G cc nL own ret a b) {x y : Int} (h1 : in32 x) (h2 : in32 y) {off : Int} {E1 E2 : Option Rt} (hd : decode cc pc = .ok (.if_icmp .gt off, 3)) (tgt : Nat) (ht : (pc : Int) + off = (tgt : Int)) (pc' : Nat) (hp : pc + 3 = pc') (hf : (if y < x then E1 else E2) = some Z) (k1 : E1 = some Z → rr_AT X G nL rk Z tgt lv st σ) (k2 : E2 = some Z → rr_AT X G nL rk Z pc' lv st σ) : rr_AT X G nL rk Z pc lv (vi y :: vi x :: st) σ := by
  obtain ⟨p, l, e, R, s, m, args, below, meth, c⟩ := X
  obtain ⟨hx, hb, hml, hown, hts, hK, hG, hr, hlk, hst, hnw, hR⟩ := hO
  subst hp
  intro H locs ls hP hS hl
  refine lv_icmp_gt hx hb hd ht (fun hc => ?_) (fun hc => ?_)
  · rw [if_pos ((i32_lt h2 h1).mp hc)] at hf
    exact k1 hf H locs ls hP hS hl
  · rw [if_neg (fun q => hc ((i32_lt h2 h1).mpr q))] at hf
    exact k2 hf H locs ls hP hS hl
theorem at_if_gt (hO : rr_OK X G cc nL own ret a b) {x : Int} (h1 : in32 x) {off : Int} {E1 E2 : Option Rt} (hd : decode cc pc = .ok (.ifCond .gt off, 3)) (tgt : Nat) (ht : (pc : Int) + off = (tgt : Int)) (pc' : Nat) (hp : pc + 3 = pc') (hf : (if 0 < x then E1 else E2) = some Z) (k1 : E1 = some Z → rr_AT X G nL rk Z tgt lv st σ) (k2 : E2 = some Z → rr_AT X G nL rk Z pc' lv st σ) : rr_AT X G nL rk Z pc lv (vi x :: st) σ := by
  obtain ⟨p, l, e, R, s, m, args, below, meth, c⟩ := X
  obtain ⟨hx, hb, hml, hown, hts, hK, hG, hr, hlk, hst, hnw, hR⟩ := hO
  subst hp
  intro H locs ls hP hS hl
  refine lv_if_gt hx hb hd ht (fun hc => ?_) (fun hc => ?_)
  · rw [if_pos ((i32_lt z32_0 h1).mp hc)] at hf
    exact k1 hf H locs ls hP hS hl
  · rw [if_neg (fun q => hc ((i32_lt z32_0 h1).mpr q))] at hf
    exact k2 hf H locs ls hP hS hl
theorem at_icmp_le (hO : rr_OK X G cc nL own ret a b) {x y : Int} (h1 : in32 x) (h2 : in32 y) {off : Int} {E1 E2 : Option Rt} (hd : decode cc pc = .ok (.if_icmp .le off, 3)) (tgt : Nat) (ht : (pc : Int) + off = (tgt : Int)) (pc' : Nat) (hp : pc + 3 = pc') (hf : (if x ≤ y then E1 else E2) = some Z) (k1 : E1 = some Z → rr_AT X G nL rk Z tgt lv st σ) (k2 : E2 = some Z → rr_AT X G nL rk Z pc' lv st σ) : rr_AT X G nL rk Z pc lv (vi y :: vi x :: st) σ := by
  obtain ⟨p, l, e, R, s, m, args, below, meth, c⟩ := X
  obtain ⟨hx, hb, hml, hown, hts, hK, hG, hr, hlk, hst, hnw, hR⟩ := hO
  subst hp
  intro H locs ls hP hS hl
  refine lv_icmp_le hx hb hd ht (fun hc => ?_) (fun hc => ?_)
  · rw [if_pos ((i32_le h1 h2).mp hc)] at hf
    exact k1 hf H locs ls hP hS hl
  · rw [if_neg (fun q => hc ((i32_le h1 h2).mpr q))] at hf
    exact k2 hf H locs ls hP hS hl
theorem at_if_le (hO : rr_OK X G cc nL own ret a b) {x : Int} (h1 : in32 x) {off : Int} {E1 E2 : Option Rt} (hd : decode cc pc = .ok (.ifCond .le off, 3)) (tgt : Nat) (ht : (pc : Int) + off = (tgt : Int)) (pc' : Nat) (hp : pc + 3 = pc') (hf : (if x ≤ 0 then E1 else E2) = some Z) (k1 : E1 = some Z → rr_AT X G nL rk Z tgt lv st σ) (k2 : E2 = some Z → rr_AT X G nL rk Z pc' lv st σ) : rr_AT X G nL rk Z pc lv (vi x :: st) σ := by
  obtain ⟨p, l, e, R, s, m, args, below, meth, c⟩ := X
  obtain ⟨hx, hb, hml, hown, hts, hK, hG, hr, hlk, hst, hnw, hR⟩ := hO
  subst hp
  intro H locs ls hP hS hl
  refine lv_if_le hx hb hd ht (fun hc => ?_) (fun hc => ?_)
  · rw [if_pos ((i32_le h1 z32_0).mp hc)] at hf
    exact k1 hf H locs ls hP hS hl
  · rw [if_neg (fun q => hc ((i32_le h1 z32_0).mpr q))] at hf
    exact k2 hf H locs ls hP hS hl
theorem at_lcmp_eq (hO : rr_OK X G cc nL own ret a b) {x y : Int} (h1 : in64 x) (h2 : in64 y) {off : Int} {E1 E2 : Option Rt} (hd0 : decode cc pc = .ok (.lcmp, 1)) (hd : decode cc (pc + 1) = .ok (.ifCond .eq off, 3)) (tgt : Nat) (ht : ((pc + 1 : Nat) : Int) + off = (tgt : Int)) (pc' : Nat) (hp : pc + 1 + 3 = pc') (hf : (if x = y then E1 else E2) = some Z) (k1 : E1 = some Z → rr_AT X G nL rk Z tgt lv st σ) (k2 : E2 = some Z → rr_AT X G nL rk Z pc' lv st σ) : rr_AT X G nL rk Z pc lv (vl y :: vl x :: st) σ := by
  obtain ⟨p, l, e, R, s, m, args, below, meth, c⟩ := X
  obtain ⟨hx, hb, hml, hown, hts, hK, hG, hr, hlk, hst, hnw, hR⟩ := hO
  subst hp
  intro H locs ls hP hS hl
  refine W.lcmp hx hb hd0 ?_
  refine lv_if_eq hx hb hd ht (fun hc => ?_) (fun hc => ?_)
  · rw [if_pos (((lg_cmp_eq _ _).trans (i64_eq h1 h2)).mp hc)] at hf
    exact k1 hf H locs ls hP hS hl
  · rw [if_neg (fun q => hc (((lg_cmp_eq _ _).trans (i64_eq h1 h2)).mpr q))] at hf
    exact k2 hf H locs ls hP hS hl
theorem at_lcmp_ne (hO : rr_OK X G cc nL own ret a b) {x y : Int} (h1 : in64 x) (h2 : in64 y) {off : Int} {E1 E2 : Option Rt} (hd0 : decode cc pc = .ok (.lcmp, 1)) (hd : decode cc (pc + 1) = .ok (.ifCond .ne off, 3)) (tgt : Nat) (ht : ((pc + 1 : Nat) : Int) + off = (tgt : Int)) (pc' : Nat) (hp : pc + 1 + 3 = pc') (hf : (if x = y then E2 else E1) = some Z) (k1 : E1 = some Z → rr_AT X G nL rk Z tgt lv st σ) (k2 : E2 = some Z → rr_AT X G nL rk Z pc' lv st σ) : rr_AT X G nL rk Z pc lv (vl y :: vl x :: st) σ := by
  obtain ⟨p, l, e, R, s, m, args, below, meth, c⟩ := X
  obtain ⟨hx, hb, hml, hown, hts, hK, hG, hr, hlk, hst, hnw, hR⟩ := hO
  subst hp
  intro H locs ls hP hS hl
  refine W.lcmp hx hb hd0 ?_
  refine lv_if_ne hx hb hd ht (fun hc => ?_) (fun hc => ?_)
  · rw [if_neg (fun q => hc (((lg_cmp_eq _ _).trans (i64_eq h1 h2)).mpr q))] at hf
    exact k1 hf H locs ls hP hS hl
  · rw [if_pos (((lg_cmp_eq _ _).trans (i64_eq h1 h2)).mp hc)] at hf
    exact k2 hf H locs ls hP hS hl
theorem at_lcmp_lt (hO : rr_OK X G cc nL own ret a b) {x y : Int} (h1 : in64 x) (h2 : in64 y) {off : Int} {E1 E2 : Option Rt} (hd0 : decode cc pc = .ok (.lcmp, 1)) (hd : decode cc (pc + 1) = .ok (.ifCond .lt off, 3)) (tgt : Nat) (ht : ((pc + 1 : Nat) : Int) + off = (tgt : Int)) (pc' : Nat) (hp : pc + 1 + 3 = pc') (hf : (if x < y then E1 else E2) = some Z) (k1 : E1 = some Z → rr_AT X G nL rk Z tgt lv st σ) (k2 : E2 = some Z → rr_AT X G nL rk Z pc' lv st σ) : rr_AT X G nL rk Z pc lv (vl y :: vl x :: st) σ := by
  obtain ⟨p, l, e, R, s, m, args, below, meth, c⟩ := X
  obtain ⟨hx, hb, hml, hown, hts, hK, hG, hr, hlk, hst, hnw, hR⟩ := hO
  subst hp
  intro H locs ls hP hS hl
  refine W.lcmp hx hb hd0 ?_
  refine lv_if_lt hx hb hd ht (fun hc => ?_) (fun hc => ?_)
  · rw [if_pos (((lg_cmp_lt _ _).trans (i64_lt h1 h2)).mp hc)] at hf
    exact k1 hf H locs ls hP hS hl
  · rw [if_neg (fun q => hc (((lg_cmp_lt _ _).trans (i64_lt h1 h2)).mpr q))] at hf
    exact k2 hf H locs ls hP hS hl
theorem at_lcmp_ge (hO : rr_OK X G cc nL own ret a b) {x y : Int} (h1 : in64 x) (h2 : in64 y) {off : Int} {E1 E2 : Option Rt} (hd0 : decode cc pc = .ok (.lcmp, 1)) (hd : decode cc (pc + 1) = .ok (.ifCond .ge off, 3)) (tgt : Nat) (ht : ((pc + 1 : Nat) : Int) + off = (tgt : Int)) (pc' : Nat) (hp : pc + 1 + 3 = pc') (hf : (if y ≤ x then E1 else E2) = some Z) (k1 : E1 = some Z → rr_AT X G nL rk Z tgt lv st σ) (k2 : E2 = some Z → rr_AT X G nL rk Z pc' lv st σ) : rr_AT X G nL rk Z pc lv (vl y :: vl x :: st) σ := by
  obtain ⟨p, l, e, R, s, m, args, below, meth, c⟩ := X
  obtain ⟨hx, hb, hml, hown, hts, hK, hG, hr, hlk, hst, hnw, hR⟩ := hO
  subst hp
  intro H locs ls hP hS hl
  refine W.lcmp hx hb hd0 ?_
  refine lv_if_ge hx hb hd ht (fun hc => ?_) (fun hc => ?_)
  · rw [if_pos (((lg_cmp_ge _ _).trans (i64_le h2 h1)).mp hc)] at hf
    exact k1 hf H locs ls hP hS hl
  · rw [if_neg (fun q => hc (((lg_cmp_ge _ _).trans (i64_le h2 h1)).mpr q))] at hf
    exact k2 hf H locs ls hP hS hl
theorem at_lcmp_gt (hO : rr_OK X G cc nL own ret a b) {x y : Int} (h1 : in64 x) (h2 : in64 y) {off : Int} {E1 E2 : Option Rt} (hd0 : decode cc pc = .ok (.lcmp, 1)) (hd : decode cc (pc + 1) = .ok (.ifCond .gt off, 3)) (tgt : Nat) (ht : ((pc + 1 : Nat) : Int) + off = (tgt : Int)) (pc' : Nat) (hp : pc + 1 + 3 = pc') (hf : (if y < x then E1 else E2) = some Z) (k1 : E1 = some Z → rr_AT X G nL rk Z tgt lv st σ) (k2 : E2 = some Z → rr_AT X G nL rk Z pc' lv st σ) : rr_AT X G nL rk Z pc lv (vl y :: vl x :: st) σ := by
  obtain ⟨p, l, e, R, s, m, args, below, meth, c⟩ := X
  obtain ⟨hx, hb, hml, hown, hts, hK, hG, hr, hlk, hst, hnw, hR⟩ := hO
  subst hp
  intro H locs ls hP hS hl
  refine W.lcmp hx hb hd0 ?_
  refine lv_if_gt hx hb hd ht (fun hc => ?_) (fun hc => ?_)
  · rw [if_pos (((lg_cmp_gt _ _).trans (i64_lt h2 h1)).mp hc)] at hf
    exact k1 hf H locs ls hP hS hl
  · rw [if_neg (fun q => hc (((lg_cmp_gt _ _).trans (i64_lt h2 h1)).mpr q))] at hf
    exact k2 hf H locs ls hP hS hl
theorem at_lcmp_le (hO : rr_OK X G cc nL own ret a b) {x y : Int} (h1 : in64 x) (h2 : in64 y) {off : Int} {E1 E2 : Option Rt} (hd0 : decode cc pc = .ok (.lcmp, 1)) (hd : decode cc (pc + 1) = .ok (.ifCond .le off, 3)) (tgt : Nat) (ht : ((pc + 1 : Nat) : Int) + off = (tgt : Int)) (pc' : Nat) (hp : pc + 1 + 3 = pc') (hf : (if x ≤ y then E1 else E2) = some Z) (k1 : E1 = some Z → rr_AT X G nL rk Z tgt lv st σ) (k2 : E2 = some Z → rr_AT X G nL rk Z pc' lv st σ) : rr_AT X G nL rk Z pc lv (vl y :: vl x :: st) σ := by
  obtain ⟨p, l, e, R, s, m, args, below, meth, c⟩ := X
  obtain ⟨hx, hb, hml, hown, hts, hK, hG, hr, hlk, hst, hnw, hR⟩ := hO
  subst hp
  intro H locs ls hP hS hl
  refine W.lcmp hx hb hd0 ?_
  refine lv_if_le hx hb hd ht (fun hc => ?_) (fun hc => ?_)
  · rw [if_pos (((lg_cmp_le _ _).trans (i64_le h1 h2)).mp hc)] at hf
    exact k1 hf H locs ls hP hS hl
  · rw [if_neg (fun q => hc (((lg_cmp_le _ _).trans (i64_le h1 h2)).mpr q))] at hf
    exact k2 hf H locs ls hP hS hl
theorem at_iaload (hO : rr_OK X G cc nL own ret a b) {k0 n : Nat} {i : Int} (ht : rr_TB[k0]? = some (.inl (0, n))) (hn : n ≤ 1000) (hi : ix i n) (j0 : Nat) (hj0 : i.toNat = j0) (hd : decode cc pc = .ok (.iaload, 1)) (pc' : Nat) (hp : pc + 1 = pc') (k : rr_AT X G nL rk Z pc' lv (vi (σ k0 j0) :: st) σ) : rr_AT X G nL rk Z pc lv (vi i :: vr G k0 :: st) σ := by
  obtain ⟨p, l, e, R, s, m, args, below, meth, c⟩ := X
  obtain ⟨hx, hb, hml, hown, hts, hK, hG, hr, hlk, hst, hnw, hR⟩ := hO
  subst hp
  intro H locs ls hP hS hl
  subst hj0
  have h1 := rr_wd_get (G := G) (σ := σ) ht
  have k2 := k H locs ls hP hS hl
  refine va_iald (D := G.1) (cl := vwCl) (tys := rr_gT G) hx hb hK hP k0 0 h1 rfl (i32_in hn hi) hd ?_
  rw [i32_cl (by omega) hi.1]
  exact k2
theorem at_laload (hO : rr_OK X G cc nL own ret a b) {k0 n : Nat} {i : Int} (ht : rr_TB[k0]? = some (.inl (1, n))) (hn : n ≤ 1000) (hi : ix i n) (j0 : Nat) (hj0 : i.toNat = j0) (hd : decode cc pc = .ok (.laload, 1)) (pc' : Nat) (hp : pc + 1 = pc') (k : rr_AT X G nL rk Z pc' lv (vl (σ k0 j0) :: st) σ) : rr_AT X G nL rk Z pc lv (vi i :: vr G k0 :: st) σ := by
  obtain ⟨p, l, e, R, s, m, args, below, meth, c⟩ := X
  obtain ⟨hx, hb, hml, hown, hts, hK, hG, hr, hlk, hst, hnw, hR⟩ := hO
  subst hp
  intro H locs ls hP hS hl
  subst hj0
  have h1 := rr_wd_get (G := G) (σ := σ) ht
  have k2 := k H locs ls hP hS hl
  refine va_lald (D := G.1) (cl := vwCl) (tys := rr_gT G) hx hb hK hP k0 1 h1 rfl (i32_in hn hi) hd ?_
  rw [i32_cl (by omega) hi.1]
  exact k2
theorem at_zaload (hO : rr_OK X G cc nL own ret a b) {k0 n : Nat} {i : Int} (ht : rr_TB[k0]? = some (.inl (2, n))) (hn : n ≤ 1000) (hi : ix i n) (j0 : Nat) (hj0 : i.toNat = j0) (hd : decode cc pc = .ok (.baload, 1)) (pc' : Nat) (hp : pc + 1 = pc') (k : rr_AT X G nL rk Z pc' lv (vi (σ k0 j0) :: st) σ) : rr_AT X G nL rk Z pc lv (vi i :: vr G k0 :: st) σ := by
  obtain ⟨p, l, e, R, s, m, args, below, meth, c⟩ := X
  obtain ⟨hx, hb, hml, hown, hts, hK, hG, hr, hlk, hst, hnw, hR⟩ := hO
  subst hp
  intro H locs ls hP hS hl
  subst hj0
  have h1 := rr_wd_get (G := G) (σ := σ) ht
  have k2 := k H locs ls hP hS hl
  refine va_zald (D := G.1) (cl := vwCl) (tys := rr_gT G) hx hb hK hP k0 2 h1 rfl (i32_in hn hi) hd ?_
  rw [i32_cl (by omega) hi.1]
  exact k2
theorem at_iastore (hO : rr_OK X G cc nL own ret a b) {k0 n : Nat} {i x : Int} (ht : rr_TB[k0]? = some (.inl (0, n))) (hn : n ≤ 1000) (hi : ix i n) (j0 : Nat) (hj0 : i.toNat = j0) (hd : decode cc pc = .ok (.iastore, 1)) (pc' : Nat) (hp : pc + 1 = pc') (k : rr_AT X G nL rk Z pc' lv st (su σ k0 j0 x)) : rr_AT X G nL rk Z pc lv (vi x :: vi i :: vr G k0 :: st) σ := by
  obtain ⟨p, l, e, R, s, m, args, below, meth, c⟩ := X
  obtain ⟨hx, hb, hml, hown, hts, hK, hG, hr, hlk, hst, hnw, hR⟩ := hO
  subst hp
  intro H locs ls hP hS hl
  subst hj0
  have h1 := rr_wd_get (G := G) (σ := σ) ht
  have e := rr_wd_set (G := G) (σ := σ) (σ' := su σ k0 i.toNat x) ht (fun j hj => su_ne j hj)
  refine va_iast (D := G.1) (cl := vwCl) (tys := rr_gT G) hx hb hK hP (rr_D hG) hS k0 0 h1 rfl (i32_in hn hi) hd (fun H1 locs1 hP1 hD1 hS1 => ?_)
  refine k H1 locs1 ls ?_ hS1 hl
  rw [← e, rr_kE_i]
  rw [i32_cl (by omega) hi.1] at hP1
  exact hP1
theorem at_lastore (hO : rr_OK X G cc nL own ret a b) {k0 n : Nat} {i x : Int} (ht : rr_TB[k0]? = some (.inl (1, n))) (hn : n ≤ 1000) (hi : ix i n) (j0 : Nat) (hj0 : i.toNat = j0) (hd : decode cc pc = .ok (.lastore, 1)) (pc' : Nat) (hp : pc + 1 = pc') (k : rr_AT X G nL rk Z pc' lv st (su σ k0 j0 x)) : rr_AT X G nL rk Z pc lv (vl x :: vi i :: vr G k0 :: st) σ := by
  obtain ⟨p, l, e, R, s, m, args, below, meth, c⟩ := X
  obtain ⟨hx, hb, hml, hown, hts, hK, hG, hr, hlk, hst, hnw, hR⟩ := hO
  subst hp
  intro H locs ls hP hS hl
  subst hj0
  have h1 := rr_wd_get (G := G) (σ := σ) ht
  have e := rr_wd_set (G := G) (σ := σ) (σ' := su σ k0 i.toNat x) ht (fun j hj => su_ne j hj)
  refine va_last (D := G.1) (cl := vwCl) (tys := rr_gT G) hx hb hK hP (rr_D hG) hS k0 1 h1 rfl (i32_in hn hi) hd (fun H1 locs1 hP1 hD1 hS1 => ?_)
  refine k H1 locs1 ls ?_ hS1 hl
  rw [← e, rr_kE_l]
  rw [i32_cl (by omega) hi.1] at hP1
  exact hP1
theorem at_zastore (hO : rr_OK X G cc nL own ret a b) {k0 n : Nat} {i x : Int} (h01 : x = 0 ∨ x = 1) (ht : rr_TB[k0]? = some (.inl (2, n))) (hn : n ≤ 1000) (hi : ix i n) (j0 : Nat) (hj0 : i.toNat = j0) (hd : decode cc pc = .ok (.bastore, 1)) (pc' : Nat) (hp : pc + 1 = pc') (k : rr_AT X G nL rk Z pc' lv st (su σ k0 j0 x)) : rr_AT X G nL rk Z pc lv (vi x :: vi i :: vr G k0 :: st) σ := by
  obtain ⟨p, l, e, R, s, m, args, below, meth, c⟩ := X
  obtain ⟨hx, hb, hml, hown, hts, hK, hG, hr, hlk, hst, hnw, hR⟩ := hO
  subst hp
  intro H locs ls hP hS hl
  subst hj0
  have h1 := rr_wd_get (G := G) (σ := σ) ht
  have e := rr_wd_set (G := G) (σ := σ) (σ' := su σ k0 i.toNat x) ht (fun j hj => su_ne j hj)
  refine va_zast (D := G.1) (cl := vwCl) (tys := rr_gT G) hx hb hK hP (rr_D hG) hS k0 2 h1 rfl (i32_in hn hi) hd (fun H1 locs1 hP1 hD1 hS1 => ?_)
  refine k H1 locs1 ls ?_ hS1 hl
  rw [← e, rr_kE_z h01]
  rw [i32_cl (by omega) hi.1] at hP1
  exact hP1
theorem at_aaload3 (hO : rr_OK X G cc nL own ret a b) {k0 n b0 : Nat} {i : Int} (ht : rr_TB[k0]? = some (.inr (.inl (3, n, b0)))) (hn : n ≤ 1000) (hi : ix i n) (k1 : Nat) (hk1 : b0 + i.toNat = k1) (hd : decode cc pc = .ok (.aaload, 1)) (pc' : Nat) (hp : pc + 1 = pc') (k : rr_AT X G nL rk Z pc' lv (vr G k1 :: st) σ) : rr_AT X G nL rk Z pc lv (vi i :: vr G k0 :: st) σ := by
  obtain ⟨p, l, e, R, s, m, args, below, meth, c⟩ := X
  obtain ⟨hx, hb, hml, hown, hts, hK, hG, hr, hlk, hst, hnw, hR⟩ := hO
  subst hp
  intro H locs ls hP hS hl
  subst hk1
  have h1 := rr_wd_get (G := G) (σ := σ) ht
  have k2 := k H locs ls hP hS hl
  refine va_aldq (D := G.1) (cl := vwCl) (tys := rr_gT G) (C := "RoadRiver$Text") hx hb hK hP k0 3 h1 rfl (i32_in hn hi) hd ?_
  rw [i32_cl (by omega) hi.1]
  exact k2
theorem at_aaload4 (hO : rr_OK X G cc nL own ret a b) {k0 n b0 : Nat} {i : Int} (ht : rr_TB[k0]? = some (.inr (.inl (4, n, b0)))) (hn : n ≤ 1000) (hi : ix i n) (k1 : Nat) (hk1 : b0 + i.toNat = k1) (hd : decode cc pc = .ok (.aaload, 1)) (pc' : Nat) (hp : pc + 1 = pc') (k : rr_AT X G nL rk Z pc' lv (vr G k1 :: st) σ) : rr_AT X G nL rk Z pc lv (vi i :: vr G k0 :: st) σ := by
  obtain ⟨p, l, e, R, s, m, args, below, meth, c⟩ := X
  obtain ⟨hx, hb, hml, hown, hts, hK, hG, hr, hlk, hst, hnw, hR⟩ := hO
  subst hp
  intro H locs ls hP hS hl
  subst hk1
  have h1 := rr_wd_get (G := G) (σ := σ) ht
  have k2 := k H locs ls hP hS hl
  refine va_aldq (D := G.1) (cl := vwCl) (tys := rr_gT G) (C := "RoadRiver$Sheet") hx hb hK hP k0 4 h1 rfl (i32_in hn hi) hd ?_
  rw [i32_cl (by omega) hi.1]
  exact k2
theorem at_aaload5 (hO : rr_OK X G cc nL own ret a b) {k0 n b0 : Nat} {i : Int} (ht : rr_TB[k0]? = some (.inr (.inl (5, n, b0)))) (hn : n ≤ 1000) (hi : ix i n) (k1 : Nat) (hk1 : b0 + i.toNat = k1) (hd : decode cc pc = .ok (.aaload, 1)) (pc' : Nat) (hp : pc + 1 = pc') (k : rr_AT X G nL rk Z pc' lv (vr G k1 :: st) σ) : rr_AT X G nL rk Z pc lv (vi i :: vr G k0 :: st) σ := by
  obtain ⟨p, l, e, R, s, m, args, below, meth, c⟩ := X
  obtain ⟨hx, hb, hml, hown, hts, hK, hG, hr, hlk, hst, hnw, hR⟩ := hO
  subst hp
  intro H locs ls hP hS hl
  subst hk1
  have h1 := rr_wd_get (G := G) (σ := σ) ht
  have k2 := k H locs ls hP hS hl
  refine rr_aldA (D := G.1) (cl := vwCl) (tys := rr_gT G) hx hb hK hP k0 5 h1 rfl (i32_in hn hi) hd ?_
  rw [i32_cl (by omega) hi.1]
  exact k2
theorem at_alen (hO : rr_OK X G cc nL own ret a b) {k0 n : Nat} (ht : rr_TB[k0]? = some (.inl (0, n))) (hd : decode cc pc = .ok (.arraylength, 1)) (pc' : Nat) (hp : pc + 1 = pc') (k : rr_AT X G nL rk Z pc' lv (vi (n : Int) :: st) σ) : rr_AT X G nL rk Z pc lv (vr G k0 :: st) σ := by
  obtain ⟨p, l, e, R, s, m, args, below, meth, c⟩ := X
  obtain ⟨hx, hb, hml, hown, hts, hK, hG, hr, hlk, hst, hnw, hR⟩ := hO
  subst hp
  intro H locs ls hP hS hl
  have h1 := rr_wd_get (G := G) (σ := σ) ht
  refine va_alen (D := G.1) (cl := vwCl) (tys := rr_gT G) hx hb hK hP k0 0 h1 (ty := .int) rfl (v := Int32.ofInt n) (by rw [Int32.ofInt_eq_ofNat]) hd ?_
  exact k H locs ls hP hS hl
theorem at_getR (hO : rr_OK X G cc nL own ret a b) {ixx ci j k0 k1 : Nat} {fs : List (Nat × Nat)} (hF : rr_FL own ixx ci j) (ht : rr_TB[k0]? = some (.inr (.inr (ci, fs)))) (hj : fs[j]? = some (0, k1)) (hd : decode cc pc = .ok (.getfield ixx, 3)) (pc' : Nat) (hp : pc + 3 = pc') (k : rr_AT X G nL rk Z pc' lv (vr G k1 :: st) σ) : rr_AT X G nL rk Z pc lv (vr G k0 :: st) σ := by
  obtain ⟨p, l, e, R, s, m, args, below, meth, c⟩ := X
  obtain ⟨hx, hb, hml, hown, hts, hK, hG, hr, hlk, hst, hnw, hR⟩ := hO
  subst hp
  intro H locs ls hP hS hl
  have h1 := rr_wd_get (G := G) (σ := σ) ht
  obtain ⟨C, T, N, q1, q2, q3, q4⟩ := hF
  refine va_get (D := G.1) (cl := vwCl) (tys := rr_gT G) hx hb hts q2 hown hK hP k0 h1 q1 j q3 (hts _ q4) (fun _ h9 => h9) (v := vr G k1) (by rw [rr_fvs_get hj]; simp only [Nat.zero_add]; rfl) hd ?_
  exact k H locs ls hP hS hl
theorem at_getRN (hO : rr_OK X G cc nL own ret a b) {ixx ci j k0 k1 : Nat} {fs : List (Nat × Nat)} (hF : rr_FLN own ixx ci j) (ht : rr_TB[k0]? = some (.inr (.inr (ci, fs)))) (hj : fs[j]? = some (0, k1)) (hd : decode cc pc = .ok (.getfield ixx, 3)) (pc' : Nat) (hp : pc + 3 = pc') (k : rr_AT X G nL rk Z pc' lv (vr G k1 :: st) σ) : rr_AT X G nL rk Z pc lv (vr G k0 :: st) σ := by
  obtain ⟨p, l, e, R, s, m, args, below, meth, c⟩ := X
  obtain ⟨hx, hb, hml, hown, hts, hK, hG, hr, hlk, hst, hnw, hR⟩ := hO
  subst hp
  intro H locs ls hP hS hl
  have h1 := rr_wd_get (G := G) (σ := σ) ht
  obtain ⟨C, T, N, host, q1, q2, q3, q4⟩ := hF
  refine va_getN (D := G.1) (cl := vwCl) (tys := rr_gT G) hx hb hts q2 hown hK hP k0 h1 q1 j q3 (va_Nw.use rfl (hnw _ q4 rfl)) (fun _ h9 => h9) (v := vr G k1) (by rw [rr_fvs_get hj]; simp only [Nat.zero_add]; rfl) hd ?_
  exact k H locs ls hP hS hl
theorem at_getI (hO : rr_OK X G cc nL own ret a b) {ixx ci j k0 k1 : Nat} {fs : List (Nat × Nat)} (hF : rr_FL own ixx ci j) (ht : rr_TB[k0]? = some (.inr (.inr (ci, fs)))) (hj : fs[j]? = some (1, k1)) (hd : decode cc pc = .ok (.getfield ixx, 3)) (pc' : Nat) (hp : pc + 3 = pc') (k : rr_AT X G nL rk Z pc' lv (vi (σ k0 j) :: st) σ) : rr_AT X G nL rk Z pc lv (vr G k0 :: st) σ := by
  obtain ⟨p, l, e, R, s, m, args, below, meth, c⟩ := X
  obtain ⟨hx, hb, hml, hown, hts, hK, hG, hr, hlk, hst, hnw, hR⟩ := hO
  subst hp
  intro H locs ls hP hS hl
  have h1 := rr_wd_get (G := G) (σ := σ) ht
  obtain ⟨C, T, N, q1, q2, q3, q4⟩ := hF
  refine va_get (D := G.1) (cl := vwCl) (tys := rr_gT G) hx hb hts q2 hown hK hP k0 h1 q1 j q3 (hts _ q4) (fun _ h9 => h9) (v := vi (σ k0 j)) (by rw [rr_fvs_get hj]; simp only [Nat.zero_add]; rfl) hd ?_
  exact k H locs ls hP hS hl
theorem at_getIN (hO : rr_OK X G cc nL own ret a b) {ixx ci j k0 k1 : Nat} {fs : List (Nat × Nat)} (hF : rr_FLN own ixx ci j) (ht : rr_TB[k0]? = some (.inr (.inr (ci, fs)))) (hj : fs[j]? = some (1, k1)) (hd : decode cc pc = .ok (.getfield ixx, 3)) (pc' : Nat) (hp : pc + 3 = pc') (k : rr_AT X G nL rk Z pc' lv (vi (σ k0 j) :: st) σ) : rr_AT X G nL rk Z pc lv (vr G k0 :: st) σ := by
  obtain ⟨p, l, e, R, s, m, args, below, meth, c⟩ := X
  obtain ⟨hx, hb, hml, hown, hts, hK, hG, hr, hlk, hst, hnw, hR⟩ := hO
  subst hp
  intro H locs ls hP hS hl
  have h1 := rr_wd_get (G := G) (σ := σ) ht
  obtain ⟨C, T, N, host, q1, q2, q3, q4⟩ := hF
  refine va_getN (D := G.1) (cl := vwCl) (tys := rr_gT G) hx hb hts q2 hown hK hP k0 h1 q1 j q3 (va_Nw.use rfl (hnw _ q4 rfl)) (fun _ h9 => h9) (v := vi (σ k0 j)) (by rw [rr_fvs_get hj]; simp only [Nat.zero_add]; rfl) hd ?_
  exact k H locs ls hP hS hl
theorem at_getL (hO : rr_OK X G cc nL own ret a b) {ixx ci j k0 k1 : Nat} {fs : List (Nat × Nat)} (hF : rr_FL own ixx ci j) (ht : rr_TB[k0]? = some (.inr (.inr (ci, fs)))) (hj : fs[j]? = some (2, k1)) (hd : decode cc pc = .ok (.getfield ixx, 3)) (pc' : Nat) (hp : pc + 3 = pc') (k : rr_AT X G nL rk Z pc' lv (vl (σ k0 j) :: st) σ) : rr_AT X G nL rk Z pc lv (vr G k0 :: st) σ := by
  obtain ⟨p, l, e, R, s, m, args, below, meth, c⟩ := X
  obtain ⟨hx, hb, hml, hown, hts, hK, hG, hr, hlk, hst, hnw, hR⟩ := hO
  subst hp
  intro H locs ls hP hS hl
  have h1 := rr_wd_get (G := G) (σ := σ) ht
  obtain ⟨C, T, N, q1, q2, q3, q4⟩ := hF
  refine va_get (D := G.1) (cl := vwCl) (tys := rr_gT G) hx hb hts q2 hown hK hP k0 h1 q1 j q3 (hts _ q4) (fun _ h9 => h9) (v := vl (σ k0 j)) (by rw [rr_fvs_get hj]; simp only [Nat.zero_add]; rfl) hd ?_
  exact k H locs ls hP hS hl
theorem at_getLN (hO : rr_OK X G cc nL own ret a b) {ixx ci j k0 k1 : Nat} {fs : List (Nat × Nat)} (hF : rr_FLN own ixx ci j) (ht : rr_TB[k0]? = some (.inr (.inr (ci, fs)))) (hj : fs[j]? = some (2, k1)) (hd : decode cc pc = .ok (.getfield ixx, 3)) (pc' : Nat) (hp : pc + 3 = pc') (k : rr_AT X G nL rk Z pc' lv (vl (σ k0 j) :: st) σ) : rr_AT X G nL rk Z pc lv (vr G k0 :: st) σ := by
  obtain ⟨p, l, e, R, s, m, args, below, meth, c⟩ := X
  obtain ⟨hx, hb, hml, hown, hts, hK, hG, hr, hlk, hst, hnw, hR⟩ := hO
  subst hp
  intro H locs ls hP hS hl
  have h1 := rr_wd_get (G := G) (σ := σ) ht
  obtain ⟨C, T, N, host, q1, q2, q3, q4⟩ := hF
  refine va_getN (D := G.1) (cl := vwCl) (tys := rr_gT G) hx hb hts q2 hown hK hP k0 h1 q1 j q3 (va_Nw.use rfl (hnw _ q4 rfl)) (fun _ h9 => h9) (v := vl (σ k0 j)) (by rw [rr_fvs_get hj]; simp only [Nat.zero_add]; rfl) hd ?_
  exact k H locs ls hP hS hl
theorem at_getZ (hO : rr_OK X G cc nL own ret a b) {ixx ci j k0 k1 : Nat} {fs : List (Nat × Nat)} (hF : rr_FL own ixx ci j) (ht : rr_TB[k0]? = some (.inr (.inr (ci, fs)))) (hj : fs[j]? = some (3, k1)) (hd : decode cc pc = .ok (.getfield ixx, 3)) (pc' : Nat) (hp : pc + 3 = pc') (k : rr_AT X G nL rk Z pc' lv (vi (σ k0 j) :: st) σ) : rr_AT X G nL rk Z pc lv (vr G k0 :: st) σ := by
  obtain ⟨p, l, e, R, s, m, args, below, meth, c⟩ := X
  obtain ⟨hx, hb, hml, hown, hts, hK, hG, hr, hlk, hst, hnw, hR⟩ := hO
  subst hp
  intro H locs ls hP hS hl
  have h1 := rr_wd_get (G := G) (σ := σ) ht
  obtain ⟨C, T, N, q1, q2, q3, q4⟩ := hF
  refine va_get (D := G.1) (cl := vwCl) (tys := rr_gT G) hx hb hts q2 hown hK hP k0 h1 q1 j q3 (hts _ q4) (fun _ h9 => h9) (v := vi (σ k0 j)) (by rw [rr_fvs_get hj]; simp only [Nat.zero_add]; rfl) hd ?_
  exact k H locs ls hP hS hl
theorem at_getZN (hO : rr_OK X G cc nL own ret a b) {ixx ci j k0 k1 : Nat} {fs : List (Nat × Nat)} (hF : rr_FLN own ixx ci j) (ht : rr_TB[k0]? = some (.inr (.inr (ci, fs)))) (hj : fs[j]? = some (3, k1)) (hd : decode cc pc = .ok (.getfield ixx, 3)) (pc' : Nat) (hp : pc + 3 = pc') (k : rr_AT X G nL rk Z pc' lv (vi (σ k0 j) :: st) σ) : rr_AT X G nL rk Z pc lv (vr G k0 :: st) σ := by
  obtain ⟨p, l, e, R, s, m, args, below, meth, c⟩ := X
  obtain ⟨hx, hb, hml, hown, hts, hK, hG, hr, hlk, hst, hnw, hR⟩ := hO
  subst hp
  intro H locs ls hP hS hl
  have h1 := rr_wd_get (G := G) (σ := σ) ht
  obtain ⟨C, T, N, host, q1, q2, q3, q4⟩ := hF
  refine va_getN (D := G.1) (cl := vwCl) (tys := rr_gT G) hx hb hts q2 hown hK hP k0 h1 q1 j q3 (va_Nw.use rfl (hnw _ q4 rfl)) (fun _ h9 => h9) (v := vi (σ k0 j)) (by rw [rr_fvs_get hj]; simp only [Nat.zero_add]; rfl) hd ?_
  exact k H locs ls hP hS hl
theorem at_putI (hO : rr_OK X G cc nL own ret a b) {ixx ci j k0 k1 : Nat} {x : Int} {fs : List (Nat × Nat)} (hF : rr_FP own ixx ci j .int) (ht : rr_TB[k0]? = some (.inr (.inr (ci, fs)))) (hj : fs[j]? = some (1, k1)) (hd : decode cc pc = .ok (.putfield ixx, 3)) (pc' : Nat) (hp : pc + 3 = pc') (k : rr_AT X G nL rk Z pc' lv st (su σ k0 j x)) : rr_AT X G nL rk Z pc lv (vi x :: vr G k0 :: st) σ := by
  obtain ⟨p, l, e, R, s, m, args, below, meth, c⟩ := X
  obtain ⟨hx, hb, hml, hown, hts, hK, hG, hr, hlk, hst, hnw, hR⟩ := hO
  subst hp
  intro H locs ls hP hS hl
  have h1 := rr_wd_get (G := G) (σ := σ) ht
  have e := rr_wd_set (G := G) (σ := σ) (σ' := su σ k0 j x) ht (fun j hj => su_ne j hj)
  obtain ⟨C, T, N, ty0, q1, q2, q3, q4, q5, q6, q7, q8⟩ := hF
  refine va_put (D := G.1) (cl := vwCl) (tys := rr_gT G) (v := vi x) (ty := .int) hx hb hts q2 ty0 q3 q4 hown hK hP (rr_D hG) hS k0 h1 q1 j q5 (hts _ q6) (fun _ h9 => h9) q7 q8 rfl rfl (by rw [rr_fvs_len]; exact (List.getElem?_eq_some_iff.mp hj).1) hd (fun H1 locs1 hP1 hD1 hS1 => ?_)
  refine k H1 locs1 ls ?_ hS1 hl
  rw [← e, rr_kE_o, rr_fvs_set hj]
  exact hP1
theorem at_putL (hO : rr_OK X G cc nL own ret a b) {ixx ci j k0 k1 : Nat} {x : Int} {fs : List (Nat × Nat)} (hF : rr_FP own ixx ci j .long) (ht : rr_TB[k0]? = some (.inr (.inr (ci, fs)))) (hj : fs[j]? = some (2, k1)) (hd : decode cc pc = .ok (.putfield ixx, 3)) (pc' : Nat) (hp : pc + 3 = pc') (k : rr_AT X G nL rk Z pc' lv st (su σ k0 j x)) : rr_AT X G nL rk Z pc lv (vl x :: vr G k0 :: st) σ := by
  obtain ⟨p, l, e, R, s, m, args, below, meth, c⟩ := X
  obtain ⟨hx, hb, hml, hown, hts, hK, hG, hr, hlk, hst, hnw, hR⟩ := hO
  subst hp
  intro H locs ls hP hS hl
  have h1 := rr_wd_get (G := G) (σ := σ) ht
  have e := rr_wd_set (G := G) (σ := σ) (σ' := su σ k0 j x) ht (fun j hj => su_ne j hj)
  obtain ⟨C, T, N, ty0, q1, q2, q3, q4, q5, q6, q7, q8⟩ := hF
  refine va_put (D := G.1) (cl := vwCl) (tys := rr_gT G) (v := vl x) (ty := .long) hx hb hts q2 ty0 q3 q4 hown hK hP (rr_D hG) hS k0 h1 q1 j q5 (hts _ q6) (fun _ h9 => h9) q7 q8 rfl rfl (by rw [rr_fvs_len]; exact (List.getElem?_eq_some_iff.mp hj).1) hd (fun H1 locs1 hP1 hD1 hS1 => ?_)
  refine k H1 locs1 ls ?_ hS1 hl
  rw [← e, rr_kE_o, rr_fvs_set hj]
  exact hP1
theorem at_putZ (hO : rr_OK X G cc nL own ret a b) {ixx ci j k0 k1 : Nat} {x : Int} {fs : List (Nat × Nat)} (h01 : x = 0 ∨ x = 1) (hF : rr_FP own ixx ci j .boolean) (ht : rr_TB[k0]? = some (.inr (.inr (ci, fs)))) (hj : fs[j]? = some (3, k1)) (hd : decode cc pc = .ok (.putfield ixx, 3)) (pc' : Nat) (hp : pc + 3 = pc') (k : rr_AT X G nL rk Z pc' lv st (su σ k0 j x)) : rr_AT X G nL rk Z pc lv (vi x :: vr G k0 :: st) σ := by
  obtain ⟨p, l, e, R, s, m, args, below, meth, c⟩ := X
  obtain ⟨hx, hb, hml, hown, hts, hK, hG, hr, hlk, hst, hnw, hR⟩ := hO
  subst hp
  intro H locs ls hP hS hl
  have h1 := rr_wd_get (G := G) (σ := σ) ht
  have e := rr_wd_set (G := G) (σ := σ) (σ' := su σ k0 j x) ht (fun j hj => su_ne j hj)
  obtain ⟨C, T, N, ty0, q1, q2, q3, q4, q5, q6, q7, q8⟩ := hF
  refine va_put (D := G.1) (cl := vwCl) (tys := rr_gT G) (v := vi x) (ty := .boolean) hx hb hts q2 ty0 q3 q4 hown hK hP (rr_D hG) hS k0 h1 q1 j q5 (hts _ q6) (fun _ h9 => h9) q7 q8 (rr_nz h01) (rr_fz h01) (by rw [rr_fvs_len]; exact (List.getElem?_eq_some_iff.mp hj).1) hd (fun H1 locs1 hP1 hD1 hS1 => ?_)
  refine k H1 locs1 ls ?_ hS1 hl
  rw [← e, rr_kE_o, rr_fvs_set hj]
  exact hP1
theorem at_getsTL (hO : rr_OK X G cc nL own ret a b) {ixx : Nat} (hw : Cond.fieldLink own ixx "RoadRiver" "TERM_LEAST" "[I" ∈ rr_tbl) (hd : decode cc pc = .ok (.getstatic ixx, 3)) (pc' : Nat) (hp : pc + 3 = pc') (k : rr_AT X G nL rk Z pc' lv (.ref G.2.2.2.1 :: st) σ) : rr_AT X G nL rk Z pc lv st σ := by
  obtain ⟨p, l, e, R, s, m, args, below, meth, c⟩ := X
  obtain ⟨hx, hb, hml, hown, hts, hK, hG, hr, hlk, hst, hnw, hR⟩ := hO
  subst hp
  intro H locs ls hP hS hl
  refine va_gets (C := "RoadRiver") (n := "TERM_LEAST") (d := "[I") hx hb hst.1.1 hS hown (hts _ hw) (fun _ h9 => h9) hd ?_
  exact k H locs ls hP hS hl
theorem at_aldTL (hO : rr_OK X G cc nL own ret a b) {i : Int} (hi : ix i 7) (j0 : Nat) (hj0 : i.toNat = j0) (hd : decode cc pc = .ok (.iaload, 1)) (pc' : Nat) (hp : pc + 1 = pc') (k : rr_AT X G nL rk Z pc' lv (vi (rr_TL j0) :: st) σ) : rr_AT X G nL rk Z pc lv (vi i :: .ref G.2.2.2.1 :: st) σ := by
  obtain ⟨p, l, e, R, s, m, args, below, meth, c⟩ := X
  obtain ⟨hx, hb, hml, hown, hts, hK, hG, hr, hlk, hst, hnw, hR⟩ := hO
  subst hp
  intro H locs ls hP hS hl
  subst hj0
  have k2 := k H locs ls hP hS hl
  refine va_ti hx hb hst.1.2 hS (i32_in (by omega) hi) (v := vi (rr_TL i.toNat)) (by rw [i32_cl (by omega) hi.1]; rfl) hd ?_
  exact k2
theorem at_getsTM (hO : rr_OK X G cc nL own ret a b) {ixx : Nat} (hw : Cond.fieldLink own ixx "RoadRiver" "TERM_MOST" "[I" ∈ rr_tbl) (hd : decode cc pc = .ok (.getstatic ixx, 3)) (pc' : Nat) (hp : pc + 3 = pc') (k : rr_AT X G nL rk Z pc' lv (.ref G.2.2.2.2 :: st) σ) : rr_AT X G nL rk Z pc lv st σ := by
  obtain ⟨p, l, e, R, s, m, args, below, meth, c⟩ := X
  obtain ⟨hx, hb, hml, hown, hts, hK, hG, hr, hlk, hst, hnw, hR⟩ := hO
  subst hp
  intro H locs ls hP hS hl
  refine va_gets (C := "RoadRiver") (n := "TERM_MOST") (d := "[I") hx hb hst.2.1 hS hown (hts _ hw) (fun _ h9 => h9) hd ?_
  exact k H locs ls hP hS hl
theorem at_aldTM (hO : rr_OK X G cc nL own ret a b) {i : Int} (hi : ix i 7) (j0 : Nat) (hj0 : i.toNat = j0) (hd : decode cc pc = .ok (.iaload, 1)) (pc' : Nat) (hp : pc + 1 = pc') (k : rr_AT X G nL rk Z pc' lv (vi (rr_TM j0) :: st) σ) : rr_AT X G nL rk Z pc lv (vi i :: .ref G.2.2.2.2 :: st) σ := by
  obtain ⟨p, l, e, R, s, m, args, below, meth, c⟩ := X
  obtain ⟨hx, hb, hml, hown, hts, hK, hG, hr, hlk, hst, hnw, hR⟩ := hO
  subst hp
  intro H locs ls hP hS hl
  subst hj0
  have k2 := k H locs ls hP hS hl
  refine va_ti hx hb hst.2.2 hS (i32_in (by omega) hi) (v := vi (rr_TM i.toNat)) (by rw [i32_cl (by omega) hi.1]; rfl) hd ?_
  exact k2
theorem at_ireturn (hO : rr_OK X G cc nL own (some .int) a b) {x : Int} (hd : decode cc pc = .ok (.ireturn, 1)) (hf : some (x, σ) = some Z) : rr_AT X G nL 1 Z pc lv [vi x] σ := by
  obtain ⟨p, l, e, R, s, m, args, below, meth, c⟩ := X
  obtain ⟨hx, hb, hml, hown, hts, hK, hG, hr, hlk, hst, hnw, hR⟩ := hO
  cases hf
  intro H locs ls hP hS hl
  exact W.iret (Qc := rr_Q G 1 (x, σ)) hx hb hr (fun t ht hW => ⟨rfl, by rw [ht]; exact hP, hS.F ht⟩) hS.2.2 hd hlk
theorem at_zreturn (hO : rr_OK X G cc nL own (some .boolean) a b) {x : Int} (h01 : x = 0 ∨ x = 1) (hd : decode cc pc = .ok (.ireturn, 1)) (hf : some (x, σ) = some Z) : rr_AT X G nL 1 Z pc lv [vi x] σ := by
  obtain ⟨p, l, e, R, s, m, args, below, meth, c⟩ := X
  obtain ⟨hx, hb, hml, hown, hts, hK, hG, hr, hlk, hst, hnw, hR⟩ := hO
  cases hf
  intro H locs ls hP hS hl
  exact W.zret (Qc := rr_Q G 1 (x, σ)) hx hb hr (rr_nz h01) (fun t ht hW => ⟨rfl, by rw [ht]; exact hP, hS.F ht⟩) hS.2.2 hd hlk
theorem at_lreturn (hO : rr_OK X G cc nL own (some .long) a b) {x : Int} (hd : decode cc pc = .ok (.lreturn, 1)) (hf : some (x, σ) = some Z) : rr_AT X G nL 2 Z pc lv [vl x] σ := by
  obtain ⟨p, l, e, R, s, m, args, below, meth, c⟩ := X
  obtain ⟨hx, hb, hml, hown, hts, hK, hG, hr, hlk, hst, hnw, hR⟩ := hO
  cases hf
  intro H locs ls hP hS hl
  exact W.lret (Qc := rr_Q G 2 (x, σ)) hx hb hr (fun t ht hW => ⟨rfl, by rw [ht]; exact hP, hS.F ht⟩) hS.2.2 hd hlk
theorem at_return (hO : rr_OK X G cc nL own none a b)  (hd : decode cc pc = .ok (.return_, 1)) (hf : some (0, σ) = some Z) : rr_AT X G nL 0 Z pc lv [] σ := by
  obtain ⟨p, l, e, R, s, m, args, below, meth, c⟩ := X
  obtain ⟨hx, hb, hml, hown, hts, hK, hG, hr, hlk, hst, hnw, hR⟩ := hO
  cases hf
  intro H locs ls hP hS hl
  exact W.vret (Qc := rr_Q G 0 (0, σ)) hx hb hr (fun t ht hW => ⟨rfl, by rw [ht]; exact hP, hS.F ht⟩) hS.2.2 hd hlk
end ROWS
end
section
/-! CALLS, ENTRY, SWITCHES over the abstract memory -/
theorem rr_goodw : ∀ w ∈ rr_tbl, goodWord w = true := fun _ h => (List.mem_filter.mp h).2
def rr_MB (y : MethodName) (cc : ByteArray) (nL : Nat) (ret : Option FieldType) (n : Nat) : Prop := Cond.code y cc nL ret ∈ rr_tbl ∧ Cond.initialized y.cls ∈ rr_tbl ∧ (y.cls ≠ "java/lang/invoke/MethodHandle" ∧ y.cls ≠ "java/lang/invoke/VarHandle") ∧ (parseMethodDescriptor y.desc).map (fun d => d.parameters.length) = some n
def rr_MI (y : MethodName) : Prop := Cond.instanceMethod y ∈ rr_tbl ∧ Cond.selects y.cls y y ∈ rr_tbl
theorem rr_ws {args : Array Value} {s : State} {y : MethodName} {cc : ByteArray} {nL : Nat} {ret : Option FieldType} (hts : ∀ w ∈ rr_tbl, w.before args s = true) (hc : Cond.code y cc nL ret ∈ rr_tbl) : ∀ w ∈ (Cond.code y cc nL ret :: rr_tbl), ∀ (a' : Array Value) (U : State), s.WarmedH U.vm → w.before a' U = true :=
  pay_in hts (fun w hw => by
    have h : w ∈ rr_tbl := (List.mem_cons.mp hw).elim (fun e => by rw [e]; exact hc) id
    exact ⟨h, good_of_word (rr_goodw w h)⟩)
theorem rr_ST.to {G : Ge} {s U : State} (h : rr_ST G s) (hvm : s.vm.Alike U.vm) (hq : ∀ q : Nat, q < s.heap.size → ¬ rr_A G q → U.heap[q]? = s.heap[q]?) : rr_ST G U :=
  ⟨⟨(h.1.1.moved hvm).kept hq, (h.1.2.moved hvm).kept hq⟩, ⟨(h.2.1.moved hvm).kept hq, (h.2.2.moved hvm).kept hq⟩⟩
theorem rr_blind {G : Ge} {σ : St} {av : List Value} : FrameBlind (va_Pc av (rr_Pre G σ)) := by
  intro a U g mk q
  obtain ⟨q0, qP, qK, qS, qN⟩ := q
  exact ⟨q0, qP, va_K.moved (u := U) (U := U.calling g mk a) (Vm.Alike.refl U.vm) qK, qS.to (Vm.Alike.refl U.vm) (fun _ _ _ => rfl), rr_NW.same (s := U) (U := U.calling g mk a) rfl qN⟩
section CALLG
variable {p : Program} {l : Launch} {e : Env} {R : Room} {s : State} {m : MethodId} {args : Array Value} {below : List Frame} {meth : Method} {c : Code} {H : Heap} {locs : List Loc} {Q : State → Prop} {G : Ge}
theorem rr_callg {rk pc : Nat} {Z : Rt} {a : Array Value} {ls : Array Slot} {st0 rest : List Value} (hr : va_Run p l e R s m args below meth c H locs 0 0 0 0 (F0 m pc ls st0) rest (rr_Q G rk Z a) (rr_A G)) (hS : va_S (rr_A G) s.heap H locs)
    (kk : ∀ (H1 : Heap) (locs1 : List Loc), va_P G.1 vwCl (rr_wd G Z.2) H1 → va_S (rr_A G) s.heap H1 locs1 → W p l e R s m args below meth c H1 locs1 0 0 Q (F0 m (pc + 3) ls ((rr_rv rk Z.1).toList ++ rest))) : W p l e R s m args below meth c H locs 0 0 Q (F0 m pc ls st0) := by
  intro T hT X
  obtain ⟨v, st₀, t, T', L, h0, X', hL, e1, e2, ⟨hv, hp, hz, hk⟩, st⟩ := hr T hT X
  cases hv
  rw [h0] at hz hk
  obtain ⟨t2, a1, b1⟩ := kk T'.heap (locs ++ L) (by rw [e1]; exact hp)
    ⟨Nat.le_trans hS.1 (by rw [e1]; exact hz), fun q h1 h2 => by rw [e1, hk q (Nat.lt_of_lt_of_le h1 hS.1) h2]; exact hS.2.1 q h1 h2, fun q hq => by
      rcases List.mem_append.mp hq with h | h
      · exact hS.2.2 q h
      · exact hL q h⟩ T' rfl X'
  exact ⟨t2, st t2 a1, b1⟩
end CALLG
section CALLR
variable {X : CX} {G : Ge} {cc : ByteArray} {nL rk a b pc : Nat} {own : String} {ret : Option FieldType} {Z : Rt} {lv lv' : List (Nat × Value)} {st stk : List Value} {σ : St} {y : MethodName} {ccY : ByteArray} {nY aY bY rkY n ixx : Nat} {retY : Option FieldType} {o : Option Rt} {K : Int → St → Option Rt}
theorem rr_OK.g (hO : rr_OK X G cc nL own ret a b) : rr_GD G := by
  obtain ⟨p, l, e, R, s, m, args, below, meth, c⟩ := X
  exact hO.2.2.2.2.2.2.1
theorem rr_pre_of {s : State} {G : Ge} {σ : St} {H : Heap} {locs : List Loc} {av : List Value} (hP : va_P G.1 vwCl (rr_wd G σ) H) (hK : va_K G.1 vwCl (rr_gT G) s) (hst : rr_ST G s) (hnw : rr_NW s) (hS : va_S (rr_A G) s.heap H locs) : ∀ U : State, U.heap = H → s.WarmedH U.vm → va_Pc av (rr_Pre G σ) av.toArray U := by
  intro U hU hW
  refine ⟨rfl, by rw [hU]; exact hP, va_K.moved hW.alike hK, hst.to hW.alike (fun q h1 h2 => by rw [hU]; exact hS.2.1 q h1 h2), hnw.warm hW⟩
theorem at_callV (hO : rr_OK X G cc nL own ret a b) {k0 ci : Nat} {fs : List (Nat × Nat)} {As : List Value} (hM : rr_Ct X.2.1 G y ccY nY retY aY bY rkY (vr G k0 :: As) σ o) (mb : rr_MB y ccY nY retY n) (mi : rr_MI y) (hlink : Cond.methodLink own ixx y ∈ rr_tbl) (ht : rr_TB[k0]? = some (.inr (.inr (ci, fs)))) (hcl : ∃ q, vwCl[ci]? = some q ∧ q.1 = y.cls) (hn : As.length = n) (hroom : aY + 1 ≤ a ∧ 8 + (nY + 11) + bY ≤ b) (hcat : (st.map fun v => v.category).sum ≤ 8) (hstk : stk = As.reverse ++ vr G k0 :: st) (hd : decode cc pc = .ok (.invokevirtual ixx, 3)) (pc' : Nat) (hp : pc + 3 = pc') (hf : cll o K = some Z)
    (kk : ∀ (r : Int) (σ' : St), K r σ' = some Z → rr_AT X G nL rk Z pc' lv ((rr_rv rkY r).toList ++ st) σ') : rr_AT X G nL rk Z pc lv stk σ := by
  obtain ⟨p, l, e, R, s, m, args, below, meth, c⟩ := X
  obtain ⟨hx, hb, hml, hown, hts, hK, hG, hr, hlk, hst, hnw, hR⟩ := hO
  subst hp
  subst hstk
  subst hR
  obtain ⟨⟨r, σ'⟩, ho, hf⟩ := cll_some hf
  intro H locs ls hP hS hl
  obtain ⟨⟨C, T, N⟩, hq1, hq2⟩ := hcl
  have hrc := va_recv hK hP hq1 (rr_wd_get (G := G) (σ := σ) ht)
  rw [hq2] at hrc
  refine rr_callg (Z := (r, σ')) (va_runV (C := y.cls) (n := n) (bytes := ccY) (maxL := nY) (ret := retY) (nL := nL) (As := As) (rest := st) ⟨hx, hb, hml, hown, hts⟩ (hM _ ho) ⟨⟨rfl, rfl, hroom.1, hroom.2, rr_ws hts mb.1, List.mem_cons_self, hts _ mb.1, hts _ mb.2.1, mb.2.2.1, fun sig h => ?_, hts _ hlink⟩, hts _ mi.1, hts _ mi.2⟩ ⟨rr_blind, hrc, rr_pre_of hP hK hst hnw hS⟩ rfl hn hl.1 rfl (lv_room hcat) hd ⟨Nat.zero_le _, Nat.zero_le _⟩) hS (fun H1 locs1 hP1 hS1 => ?_)
  · have h2 := mb.2.2.2
    rw [h] at h2
    exact (Option.some.inj h2).symm
  · exact kk r σ' hf H1 locs1 ls hP1 hS1 hl
theorem at_callS (hO : rr_OK X G cc nL own ret a b) {As : List Value} (hM : rr_Ct X.2.1 G y ccY nY retY aY bY rkY As σ o) (mb : rr_MB y ccY nY retY n) (mi : Cond.static y ∈ rr_tbl) (hlink : Cond.methodLink own ixx y ∈ rr_tbl) (hn : As.length = n) (hroom : aY + 1 ≤ a ∧ 8 + (nY + 11) + bY ≤ b) (hcat : (st.map fun v => v.category).sum ≤ 8) (hstk : stk = As.reverse ++ st) (hd : decode cc pc = .ok (.invokestatic ixx, 3)) (pc' : Nat) (hp : pc + 3 = pc') (hf : cll o K = some Z)
    (kk : ∀ (r : Int) (σ' : St), K r σ' = some Z → rr_AT X G nL rk Z pc' lv ((rr_rv rkY r).toList ++ st) σ') : rr_AT X G nL rk Z pc lv stk σ := by
  obtain ⟨p, l, e, R, s, m, args, below, meth, c⟩ := X
  obtain ⟨hx, hb, hml, hown, hts, hK, hG, hr, hlk, hst, hnw, hR⟩ := hO
  subst hp
  subst hstk
  subst hR
  obtain ⟨⟨r, σ'⟩, ho, hf⟩ := cll_some hf
  intro H locs ls hP hS hl
  refine rr_callg (Z := (r, σ')) (va_runS (n := n) (bytes := ccY) (maxL := nY) (ret := retY) (nL := nL) (As := As) (rest := st) ⟨hx, hb, hml, hown, hts⟩ (hM _ ho) ⟨⟨rfl, rfl, hroom.1, hroom.2, rr_ws hts mb.1, List.mem_cons_self, hts _ mb.1, hts _ mb.2.1, mb.2.2.1, fun sig h => ?_, hts _ hlink⟩, hts _ mi⟩ ⟨rr_blind, rr_pre_of hP hK hst hnw hS⟩ rfl hn hl.1 rfl (lv_room hcat) hd ⟨Nat.zero_le _, Nat.zero_le _⟩) hS (fun H1 locs1 hP1 hS1 => ?_)
  · have h2 := mb.2.2.2
    rw [h] at h2
    exact (Option.some.inj h2).symm
  · exact kk r σ' hf H1 locs1 ls hP1 hS1 hl
theorem at_callSN (hO : rr_OK X G cc nL own ret a b) {host : String} {As : List Value} (hM : rr_Ct X.2.1 G y ccY nY retY aY bY rkY As σ o) (mb : rr_MB y ccY nY retY n) (mi : Cond.static y ∈ rr_tbl) (hlink : Cond.methodLinkNest own ixx y host ∈ lw_tbl) (hn : As.length = n) (hroom : aY + 1 ≤ a ∧ 8 + (nY + 11) + bY ≤ b) (hcat : (st.map fun v => v.category).sum ≤ 8) (hstk : stk = As.reverse ++ st) (hd : decode cc pc = .ok (.invokestatic ixx, 3)) (pc' : Nat) (hp : pc + 3 = pc') (hf : cll o K = some Z)
    (kk : ∀ (r : Int) (σ' : St), K r σ' = some Z → rr_AT X G nL rk Z pc' lv ((rr_rv rkY r).toList ++ st) σ') : rr_AT X G nL rk Z pc lv stk σ := by
  obtain ⟨p, l, e, R, s, m, args, below, meth, c⟩ := X
  obtain ⟨hx, hb, hml, hown, hts, hK, hG, hr, hlk, hst, hnw, hR⟩ := hO
  subst hp
  subst hstk
  subst hR
  obtain ⟨⟨r, σ'⟩, ho, hf⟩ := cll_some hf
  intro H locs ls hP hS hl
  refine rr_callg (Z := (r, σ')) (va_runSN (host := host) (n := n) (bytes := ccY) (maxL := nY) (ret := retY) (nL := nL) (As := As) (rest := st) ⟨hx, hb, hml, hown, hts⟩ (hM _ ho) ⟨va_cnB n hts (fun w hw => ?_) rfl rfl rfl (hnw _ hlink rfl) (hts _ mb.2.1) ⟨mb.2.2.1.1, mb.2.2.1.2, mb.2.2.2⟩ hroom, hts _ mi, trivial⟩ ⟨rr_blind, rr_pre_of hP hK hst hnw hS⟩ rfl hn hl.1 rfl (lv_room hcat) hd ⟨Nat.zero_le _, Nat.zero_le _⟩) hS (fun H1 locs1 hP1 hS1 => ?_)
  · have h : w ∈ rr_tbl := (List.mem_cons.mp hw).elim (fun e => by rw [e]; exact mb.1) id
    exact ⟨h, good_of_word (rr_goodw w h)⟩
  · exact kk r σ' hf H1 locs1 ls hP1 hS1 hl
theorem at_sub (hl1 : ∀ ls, lv_has ls nL lv → lv_has ls nL lv') (k : rr_AT X G nL rk Z pc lv' st σ) : rr_AT X G nL rk Z pc lv st σ := by
  obtain ⟨p, l, e, R, s, m, args, below, meth, c⟩ := X
  intro H locs ls hP hS hl
  exact k H locs ls hP hS (hl1 ls hl)
theorem at_tsOut (hO : rr_OK X G cc nL own ret a b) {x : Int} (h1 : in32 x) {dflt lo hi : Int} {offs : Array Int} {len : Nat} (hd : decode cc pc = .ok (.tableswitch dflt lo hi offs, len)) (h : x < lo ∨ hi < x) (tgt : Nat) (htg : (pc : Int) + dflt = (tgt : Int)) (k : rr_AT X G nL rk Z tgt lv st σ) : rr_AT X G nL rk Z pc lv (vi x :: st) σ := by
  obtain ⟨p, l, e, R, s, m, args, below, meth, c⟩ := X
  obtain ⟨hx, hb, hml, hown, hts, hK, hG, hr, hlk, hst, hnw, hR⟩ := hO
  intro H locs ls hP hS hl
  exact lv_tableOut hx hb hd (by rw [i32_rt h1]; exact h) htg (k H locs ls hP hS hl)
theorem at_tsIn (hO : rr_OK X G cc nL own ret a b) {x : Int} {dflt lo hi off : Int} {offs : Array Int} {len : Nat} (j : Nat) (hd : decode cc pc = .ok (.tableswitch dflt lo hi offs, len)) (hxj : x = lo + j) (h1 : in32 (lo + j)) (hj : (j : Int) ≤ hi - lo) (ho : offs[j]? = some off) (tgt : Nat) (htg : (pc : Int) + off = (tgt : Int)) (k : rr_AT X G nL rk Z tgt lv st σ) : rr_AT X G nL rk Z pc lv (vi x :: st) σ := by
  obtain ⟨p, l, e, R, s, m, args, below, meth, c⟩ := X
  obtain ⟨hx, hb, hml, hown, hts, hK, hG, hr, hlk, hst, hnw, hR⟩ := hO
  intro H locs ls hP hS hl
  subst hxj
  exact lv_tableIn hx hb hd (by rw [i32_rt h1]; omega) (by rw [i32_rt h1]; omega) (by rw [i32_rt h1, show (lo + (j : Int) - lo).toNat = j by omega]; exact ho) htg (k H locs ls hP hS hl)
theorem at_copy (hO : rr_OK X G cc nL own ret a b) {k0 k1 n0 n1 : Nat} {sp dp n : Int} (hlink : Cond.methodLink own ixx arraycopyName ∈ rr_tbl) (hnat : Cond.native arraycopyName ∈ rr_tbl) (hstat : Cond.static arraycopyName ∈ rr_tbl) (hini : Cond.initialized "java/lang/System" ∈ rr_tbl) (ht0 : rr_TB[k0]? = some (.inl (0, n0))) (ht1 : rr_TB[k1]? = some (.inl (0, n1))) (hn0 : n0 ≤ 1000) (hn1 : n1 ≤ 1000) (h1 : 0 ≤ sp) (h2 : 0 ≤ dp) (h3 : 0 ≤ n) (h4 : sp + n ≤ n0) (h5 : dp + n ≤ n1) (hroom : 1 ≤ a ∧ (st.map fun v => v.category).sum + (nativeFrameWords "java/lang/System" "arraycopy" 5 + 11) ≤ b) (hd : decode cc pc = .ok (.invokestatic ixx, 3)) (pc' : Nat) (hp : pc + 3 = pc') (k : rr_AT X G nL rk Z pc' lv st (scp σ k0 sp.toNat k1 dp.toNat n.toNat)) : rr_AT X G nL rk Z pc lv (vi n :: vi dp :: vr G k1 :: vi sp :: vr G k0 :: st) σ := by
  obtain ⟨p, l, e, R, s, m, args, below, meth, c⟩ := X
  obtain ⟨hx, hb, hml, hown, hts, hK, hG, hr, hlk, hst, hnw, hR⟩ := hO
  subst hp
  subst hR
  intro H locs ls hP hS hl
  have g0 := rr_wd_get (G := G) (σ := σ) ht0
  have g1 := rr_wd_get (G := G) (σ := σ) ht1
  have nn : ∀ z : Int, 0 ≤ z → z ≤ 1000 → ¬ Int32.ofInt z < 0 := fun z q1 q2 q => by
    have := (i32_lt (x := z) (y := 0) (by omega) z32_0).mp q
    omega
  have ee := rr_wd_set (G := G) (σ := σ) (σ' := scp σ k0 sp.toNat k1 dp.toNat n.toNat) ht1 (fun j hj => scp_ne j hj)
  refine va_copyi (D := G.1) (cl := vwCl) (tys := rr_gT G) (ty := .int) hx hb (hml.trans hl.1.symm) hown (hts _ hlink) (hts _ hnat) (hts _ hstat) (hts _ hini) hK hP (rr_D hG) hS k0 k1 0 0 g0 g1 rfl rfl rfl (nn sp h1 (by omega)) (nn dp h2 (by omega)) (nn n h3 (by omega)) (by rw [i32_cl (by omega) h1, i32_cl (by omega) h3]; omega) (by rw [i32_cl (by omega) h2, i32_cl (by omega) h3]; omega) (fun _ _ => rfl) hroom.1 hroom.2 hd (fun H1 locs1 hP1 hD1 hS1 => ?_)
  refine k H1 locs1 ls ?_ hS1 hl
  rw [i32_cl (by omega) h1, i32_cl (by omega) h2, i32_cl (by omega) h3] at hP1
  rw [← ee]
  have e2 : rr_kE G (scp σ k0 sp.toNat k1 dp.toNat n.toNat k1) (.inl (0, n1)) = .inl (G.2.2.1 0, n1, .inl (va_cpy (fun j => Int32.ofInt (σ k0 j)) (fun j => Int32.ofInt (σ k1 j)) sp.toNat dp.toNat n.toNat)) := by
    show (Sum.inl (G.2.2.1 0, n1, Sum.inl (fun j => Int32.ofInt (scp σ k0 sp.toNat k1 dp.toNat n.toNat k1 j))) : va_E) = _
    refine congrArg (fun f => (Sum.inl (G.2.2.1 0, n1, Sum.inl f) : va_E)) (funext fun j => ?_)
    unfold scp va_cpy
    by_cases q : dp.toNat ≤ j ∧ j < dp.toNat + n.toNat
    · rw [if_pos ⟨rfl, q⟩, if_pos q]
    · rw [if_neg (fun z => q z.2), if_neg q]
  rw [e2]
  exact hP1
end CALLR
/-- A CONTRACT out of the walk from the entry -/
theorem rr_mk {l : Launch} {G : Ge} {y : MethodName} {cc : ByteArray} {nL : Nat} {ret : Option FieldType} {a b rk : Nat} {av : List Value} {σ : St} {o : Option Rt} {lv : List (Nat × Value)} (own : String) (hy : plainName y.cls = true) (hcls : y.cls = own) (hG : rr_GD G) (hlen : (lg_sl av).length ≤ nL) (hlv : lv_args 0 av = lv)
    (body : ∀ (X : CX) (Z : Rt), rr_OK X G cc nL own ret a b → o = some Z → rr_AT X G nL rk Z 0 lv [] σ) : rr_Ct l G y cc nL ret a b rk av σ o := by
  intro Z hZ
  refine Met.ofW (cc := cc) (maxL := nL) (ret := ret) hy rfl ?_
  intro p e s m args below meth c s₁ B hml hv
  obtain ⟨rfl, hP, hK, hST, hNW⟩ := hv
  have hts0 := atoms_spec (ws := Cond.code y cc nL ret :: rr_tbl) B.pre
  have hown : s.vm.findClass own = some m.cls := by
    rw [← hcls]
    exact findClass_of_methodNamed B.named
  have hl := lv_entry av (n := nL) hlen
  rw [hlv] at hl
  rw [lg_entry_eq]
  exact body (p, l, e, _, s, m, av.toArray, below, meth, c) Z ⟨B.exec, B.bytes, hml, hown, fun w hw => hts0 w (List.mem_cons_of_mem _ hw), hK, hG, B.returns, B.notSynchronized, hST, hNW, rfl⟩ hZ s.heap [] _ hP va_S.rf hl
end
section
/-! the words of the tables that the walks use, by their places-/
set_option maxRecDepth 100000 in
theorem inX0 : ∀ w ∈ u_ws RX0 TX0 10, w ∈ rr_tbl := by decide +kernel
set_option maxRecDepth 100000 in
theorem inX1 : ∀ w ∈ u_ws RX1 TX1 4, w ∈ rr_tbl := by decide +kernel
set_option maxRecDepth 100000 in
theorem inX2 : ∀ w ∈ u_ws RX2 TX2 4, w ∈ rr_tbl := by decide +kernel
set_option maxRecDepth 100000 in
theorem inX3 : ∀ w ∈ u_ws RX3 TX3 4, w ∈ rr_tbl := by decide +kernel
set_option maxRecDepth 100000 in
theorem inX4 : ∀ w ∈ u_ws RX4 TX4 3, w ∈ rr_tbl := by decide +kernel
set_option maxRecDepth 100000 in
theorem inX5 : ∀ w ∈ u_ws RX5 TX5 2, w ∈ rr_tbl := by decide +kernel
set_option maxRecDepth 100000 in
theorem inX6 : ∀ w ∈ u_ws RX6 TX6 9, w ∈ rr_tbl := by decide +kernel
set_option maxRecDepth 100000 in
theorem inX7 : ∀ w ∈ u_ws RX7 TX7 7, w ∈ rr_tbl := by decide +kernel
set_option maxRecDepth 100000 in
theorem inX8 : ∀ w ∈ u_ws RX8 TX8 11, w ∈ rr_tbl := by decide +kernel
set_option maxRecDepth 100000 in
theorem inX9 : ∀ w ∈ u_ws RX9 TX9 19, w ∈ rr_tbl := by decide +kernel
theorem fl_X8_15 : rr_FL RX8 15 8 0 := ⟨RX8, TX8, 11, rfl, inX8, by decide, rr_in (List.mem_append_right _ (List.mem_of_getElem? (i := 234) (by decide +kernel))) rfl⟩
theorem fl_X8_19 : rr_FL RX8 19 8 1 := ⟨RX8, TX8, 11, rfl, inX8, by decide, rr_in (List.mem_append_right _ (List.mem_of_getElem? (i := 235) (by decide +kernel))) rfl⟩
theorem fl_X8_23 : rr_FL RX8 23 8 2 := ⟨RX8, TX8, 11, rfl, inX8, by decide, rr_in (List.mem_append_right _ (List.mem_of_getElem? (i := 236) (by decide +kernel))) rfl⟩
theorem fl_X8_29 : rr_FL RX8 29 8 3 := ⟨RX8, TX8, 11, rfl, inX8, by decide, rr_in (List.mem_append_right _ (List.mem_of_getElem? (i := 237) (by decide +kernel))) rfl⟩
theorem fl_X8_38 : rr_FL RX8 38 8 4 := ⟨RX8, TX8, 11, rfl, inX8, by decide, rr_in (List.mem_append_right _ (List.mem_of_getElem? (i := 238) (by decide +kernel))) rfl⟩
theorem fl_X8_47 : rr_FL RX8 47 8 5 := ⟨RX8, TX8, 11, rfl, inX8, by decide, rr_in (List.mem_append_right _ (List.mem_of_getElem? (i := 239) (by decide +kernel))) rfl⟩
theorem fl_X8_56 : rr_FL RX8 56 8 6 := ⟨RX8, TX8, 11, rfl, inX8, by decide, rr_in (List.mem_append_right _ (List.mem_of_getElem? (i := 240) (by decide +kernel))) rfl⟩
theorem fl_X8_65 : rr_FL RX8 65 8 7 := ⟨RX8, TX8, 11, rfl, inX8, by decide, rr_in (List.mem_append_right _ (List.mem_of_getElem? (i := 241) (by decide +kernel))) rfl⟩
theorem fl_X8_72 : rr_FL RX8 72 8 8 := ⟨RX8, TX8, 11, rfl, inX8, by decide, rr_in (List.mem_append_right _ (List.mem_of_getElem? (i := 242) (by decide +kernel))) rfl⟩
theorem fl_X8_78 : rr_FL RX8 78 8 9 := ⟨RX8, TX8, 11, rfl, inX8, by decide, rr_in (List.mem_append_right _ (List.mem_of_getElem? (i := 243) (by decide +kernel))) rfl⟩
theorem fl_X8_82 : rr_FL RX8 82 8 10 := ⟨RX8, TX8, 11, rfl, inX8, by decide, rr_in (List.mem_append_right _ (List.mem_of_getElem? (i := 244) (by decide +kernel))) rfl⟩
theorem fl_X8_107 : rr_FLN RX8 107 5 1 := ⟨RX5, TX5, 2, "RoadRiver", rfl, inX5, by decide, (List.mem_append_right _ (List.mem_of_getElem? (i := 207) (by decide +kernel)))⟩
theorem fl_X8_153 : rr_FLN RX8 153 1 3 := ⟨RX1, TX1, 4, "RoadRiver", rfl, inX1, by decide, (List.mem_append_right _ (List.mem_of_getElem? (i := 34) (by decide +kernel)))⟩
theorem fl_X8_222 : rr_FLN RX8 222 3 1 := ⟨RX3, TX3, 4, "RoadRiver", rfl, inX3, by decide, (List.mem_append_right _ (List.mem_of_getElem? (i := 119) (by decide +kernel)))⟩
theorem fl_X8_225 : rr_FLN RX8 225 3 2 := ⟨RX3, TX3, 4, "RoadRiver", rfl, inX3, by decide, (List.mem_append_right _ (List.mem_of_getElem? (i := 121) (by decide +kernel)))⟩
theorem fl_X8_228 : rr_FLN RX8 228 3 3 := ⟨RX3, TX3, 4, "RoadRiver", rfl, inX3, by decide, (List.mem_append_right _ (List.mem_of_getElem? (i := 123) (by decide +kernel)))⟩
theorem fl_X8_243 : rr_FLN RX8 243 0 7 := ⟨RX0, TX0, 10, "RoadRiver", rfl, inX0, by decide, (List.mem_append_right _ (List.mem_of_getElem? (i := 149) (by decide +kernel)))⟩
theorem fl_X8_246 : rr_FLN RX8 246 0 8 := ⟨RX0, TX0, 10, "RoadRiver", rfl, inX0, by decide, (List.mem_append_right _ (List.mem_of_getElem? (i := 151) (by decide +kernel)))⟩
theorem fl_X8_249 : rr_FLN RX8 249 0 9 := ⟨RX0, TX0, 10, "RoadRiver", rfl, inX0, by decide, (List.mem_append_right _ (List.mem_of_getElem? (i := 153) (by decide +kernel)))⟩
theorem fl_X8_262 : rr_FLN RX8 262 2 3 := ⟨RX2, TX2, 4, "RoadRiver", rfl, inX2, by decide, (List.mem_append_right _ (List.mem_of_getElem? (i := 185) (by decide +kernel)))⟩
theorem fl_X8_275 : rr_FLN RX8 275 4 2 := ⟨RX4, TX4, 3, "RoadRiver", rfl, inX4, by decide, (List.mem_append_right _ (List.mem_of_getElem? (i := 226) (by decide +kernel)))⟩
theorem fl_X8_289 : rr_FLN RX8 289 4 1 := ⟨RX4, TX4, 3, "RoadRiver", rfl, inX4, by decide, (List.mem_append_right _ (List.mem_of_getElem? (i := 223) (by decide +kernel)))⟩
theorem fl_X8_295 : rr_FLN RX8 295 4 0 := ⟨RX4, TX4, 3, "RoadRiver", rfl, inX4, by decide, (List.mem_append_right _ (List.mem_of_getElem? (i := 221) (by decide +kernel)))⟩
theorem fl_X8_304 : rr_FLN RX8 304 0 6 := ⟨RX0, TX0, 10, "RoadRiver", rfl, inX0, by decide, (List.mem_append_right _ (List.mem_of_getElem? (i := 147) (by decide +kernel)))⟩
theorem ls_X8_89 : Cond.fieldLink RX8 89 "RoadRiver" "TERM_FIRST" "[I" ∈ rr_tbl := rr_in (List.mem_append_right _ (List.mem_of_getElem? (i := 213) (by decide +kernel))) rfl
theorem ls_X8_138 : Cond.fieldLink RX8 138 "RoadRiver" "TERM_LEAST" "[I" ∈ rr_tbl := rr_in (List.mem_append_right _ (List.mem_of_getElem? (i := 375) (by decide +kernel))) rfl
theorem ls_X8_141 : Cond.fieldLink RX8 141 "RoadRiver" "TERM_MOST" "[I" ∈ rr_tbl := rr_in (List.mem_append_right _ (List.mem_of_getElem? (i := 377) (by decide +kernel))) rfl
theorem lk_X8_7 : Cond.methodLink RX8 7 objectInit ∈ rr_tbl := rr_in (List.mem_append_right _ (List.mem_of_getElem? (i := 19) (by decide +kernel))) rfl
theorem lk_X8_28 : Cond.methodLinkNest RX8 28 yX1_init "RoadRiver" ∈ lw_tbl := (List.mem_append_right _ (List.mem_of_getElem? (i := 26) (by decide +kernel)))
theorem lk_X8_35 : Cond.methodLink RX8 35 yX6_init ∈ rr_tbl := rr_in (List.mem_append_right _ (List.mem_of_getElem? (i := 47) (by decide +kernel))) rfl
theorem lk_X8_44 : Cond.methodLink RX8 44 yX7_init ∈ rr_tbl := rr_in (List.mem_append_right _ (List.mem_of_getElem? (i := 83) (by decide +kernel))) rfl
theorem lk_X8_53 : Cond.methodLink RX8 53 yX3_init ∈ rr_tbl := rr_in (List.mem_append_right _ (List.mem_of_getElem? (i := 113) (by decide +kernel))) rfl
theorem lk_X8_62 : Cond.methodLink RX8 62 yX0_init ∈ rr_tbl := rr_in (List.mem_append_right _ (List.mem_of_getElem? (i := 135) (by decide +kernel))) rfl
theorem lk_X8_71 : Cond.methodLinkNest RX8 71 yX2_init "RoadRiver" ∈ lw_tbl := (List.mem_append_right _ (List.mem_of_getElem? (i := 177) (by decide +kernel)))
theorem lk_X8_86 : Cond.methodLink RX8 86 yX5_init ∈ rr_tbl := rr_in (List.mem_append_right _ (List.mem_of_getElem? (i := 198) (by decide +kernel))) rfl
theorem lk_X8_92 : Cond.methodLinkNest RX8 92 yX4_init "RoadRiver" ∈ lw_tbl := (List.mem_append_right _ (List.mem_of_getElem? (i := 216) (by decide +kernel)))
theorem lk_X8_93 : Cond.methodLink RX8 93 yX8_inside ∈ rr_tbl := rr_in (List.mem_append_right _ (List.mem_of_getElem? (i := 272) (by decide +kernel))) rfl
theorem lk_X8_128 : Cond.methodLink RX8 128 yX8_isSpringDay ∈ rr_tbl := rr_in (List.mem_append_right _ (List.mem_of_getElem? (i := 333) (by decide +kernel))) rfl
theorem lk_X8_173 : Cond.methodLink RX8 173 yX8_islands ∈ rr_tbl := rr_in (List.mem_append_right _ (List.mem_of_getElem? (i := 453) (by decide +kernel))) rfl
theorem lk_X8_176 : Cond.methodLink RX8 176 yJ9_min_7cf53 ∈ rr_tbl := rr_in (List.mem_append_right _ (List.mem_of_getElem? (i := 460) (by decide +kernel))) rfl
theorem lk_X8_181 : Cond.methodLink RX8 181 yJ9_max_7cf53 ∈ rr_tbl := rr_in (List.mem_append_right _ (List.mem_of_getElem? (i := 463) (by decide +kernel))) rfl
theorem lk_X8_184 : Cond.methodLink RX8 184 yX8_roadCost ∈ rr_tbl := rr_in (List.mem_append_right _ (List.mem_of_getElem? (i := 464) (by decide +kernel))) rfl
theorem lk_X8_188 : Cond.methodLink RX8 188 yX8_ridgeCost ∈ rr_tbl := rr_in (List.mem_append_right _ (List.mem_of_getElem? (i := 467) (by decide +kernel))) rfl
theorem lk_X8_196 : Cond.methodLink RX8 196 yJ6_bitCount_0f7a4 ∈ rr_tbl := rr_in (List.mem_append_right _ (List.mem_of_getElem? (i := 484) (by decide +kernel))) rfl
theorem lk_X8_212 : Cond.methodLink RX8 212 yX8_fractionPart ∈ rr_tbl := rr_in (List.mem_append_right _ (List.mem_of_getElem? (i := 534) (by decide +kernel))) rfl
theorem lk_X8_298 : Cond.methodLink RX8 298 arraycopyName ∈ rr_tbl := rr_in (List.mem_append_right _ (List.mem_of_getElem? (i := 704) (by decide +kernel))) rfl
theorem lk_X8_364 : Cond.methodLink RX8 364 yX8_commonDivisor ∈ rr_tbl := rr_in (List.mem_append_right _ (List.mem_of_getElem? (i := 537) (by decide +kernel))) rfl
theorem lk_X8_97 : Cond.methodLink RX8 97 yX5_isFull ∈ rr_tbl := rr_in (List.mem_append_right _ (List.mem_of_getElem? (i := 275) (by decide +kernel))) rfl
theorem lk_X8_101 : Cond.methodLink RX8 101 yX5_append ∈ rr_tbl := rr_in (List.mem_append_right _ (List.mem_of_getElem? (i := 279) (by decide +kernel))) rfl
theorem lk_X8_104 : Cond.methodLink RX8 104 yX6_change ∈ rr_tbl := rr_in (List.mem_append_right _ (List.mem_of_getElem? (i := 284) (by decide +kernel))) rfl
theorem lk_X8_110 : Cond.methodLink RX8 110 yX5_dropLast ∈ rr_tbl := rr_in (List.mem_append_right _ (List.mem_of_getElem? (i := 292) (by decide +kernel))) rfl
theorem lk_X8_113 : Cond.methodLink RX8 113 yX5_clear ∈ rr_tbl := rr_in (List.mem_append_right _ (List.mem_of_getElem? (i := 300) (by decide +kernel))) rfl
theorem lk_X8_116 : Cond.methodLink RX8 116 yX5_firstFault ∈ rr_tbl := rr_in (List.mem_append_right _ (List.mem_of_getElem? (i := 308) (by decide +kernel))) rfl
theorem lk_X8_120 : Cond.methodLink RX8 120 yX8_isYard ∈ rr_tbl := rr_in (List.mem_append_right _ (List.mem_of_getElem? (i := 316) (by decide +kernel))) rfl
theorem lk_X8_124 : Cond.methodLink RX8 124 yX5_figure ∈ rr_tbl := rr_in (List.mem_append_right _ (List.mem_of_getElem? (i := 325) (by decide +kernel))) rfl
theorem lk_X8_131 : Cond.methodLink RX8 131 yX6_refresh ∈ rr_tbl := rr_in (List.mem_append_right _ (List.mem_of_getElem? (i := 336) (by decide +kernel))) rfl
theorem lk_X8_134 : Cond.methodLink RX8 134 yX6_levelOn ∈ rr_tbl := rr_in (List.mem_append_right _ (List.mem_of_getElem? (i := 366) (by decide +kernel))) rfl
theorem lk_X8_144 : Cond.methodLink RX8 144 yX1_mayBe ∈ rr_tbl := rr_in (List.mem_append_right _ (List.mem_of_getElem? (i := 387) (by decide +kernel))) rfl
theorem lk_X8_148 : Cond.methodLink RX8 148 yX1_isFull ∈ rr_tbl := rr_in (List.mem_append_right _ (List.mem_of_getElem? (i := 392) (by decide +kernel))) rfl
theorem lk_X8_149 : Cond.methodLink RX8 149 yX1_build ∈ rr_tbl := rr_in (List.mem_append_right _ (List.mem_of_getElem? (i := 396) (by decide +kernel))) rfl
theorem lk_X8_156 : Cond.methodLink RX8 156 yX4_isLost ∈ rr_tbl := rr_in (List.mem_append_right _ (List.mem_of_getElem? (i := 404) (by decide +kernel))) rfl
theorem lk_X8_159 : Cond.methodLink RX8 159 yX8_find ∈ rr_tbl := rr_in (List.mem_append_right _ (List.mem_of_getElem? (i := 408) (by decide +kernel))) rfl
theorem lk_X8_162 : Cond.methodLink RX8 162 yX1_buildFrom ∈ rr_tbl := rr_in (List.mem_append_right _ (List.mem_of_getElem? (i := 412) (by decide +kernel))) rfl
theorem lk_X8_166 : Cond.methodLink RX8 166 yX1_dropLast ∈ rr_tbl := rr_in (List.mem_append_right _ (List.mem_of_getElem? (i := 428) (by decide +kernel))) rfl
theorem lk_X8_167 : Cond.methodLink RX8 167 yX6_lentFrom ∈ rr_tbl := rr_in (List.mem_append_right _ (List.mem_of_getElem? (i := 437) (by decide +kernel))) rfl
theorem lk_X8_170 : Cond.methodLink RX8 170 yX6_wetYards ∈ rr_tbl := rr_in (List.mem_append_right _ (List.mem_of_getElem? (i := 445) (by decide +kernel))) rfl
theorem lk_X8_192 : Cond.methodLink RX8 192 yX6_closedDays ∈ rr_tbl := rr_in (List.mem_append_right _ (List.mem_of_getElem? (i := 474) (by decide +kernel))) rfl
theorem lk_X8_201 : Cond.methodLink RX8 201 yX7_reckon ∈ rr_tbl := rr_in (List.mem_append_right _ (List.mem_of_getElem? (i := 495) (by decide +kernel))) rfl
theorem lk_X8_204 : Cond.methodLink RX8 204 yX7_weightOf ∈ rr_tbl := rr_in (List.mem_append_right _ (List.mem_of_getElem? (i := 524) (by decide +kernel))) rfl
theorem lk_X8_209 : Cond.methodLink RX8 209 yX7_weightedCost ∈ rr_tbl := rr_in (List.mem_append_right _ (List.mem_of_getElem? (i := 530) (by decide +kernel))) rfl
theorem lk_X8_216 : Cond.methodLink RX8 216 yX7_isBestAtOnce ∈ rr_tbl := rr_in (List.mem_append_right _ (List.mem_of_getElem? (i := 544) (by decide +kernel))) rfl
theorem lk_X8_219 : Cond.methodLink RX8 219 yX3_reckon ∈ rr_tbl := rr_in (List.mem_append_right _ (List.mem_of_getElem? (i := 552) (by decide +kernel))) rfl
theorem lk_X8_231 : Cond.methodLink RX8 231 yX0_isSigned ∈ rr_tbl := rr_in (List.mem_append_right _ (List.mem_of_getElem? (i := 566) (by decide +kernel))) rfl
theorem lk_X8_234 : Cond.methodLink RX8 234 yX0_sign ∈ rr_tbl := rr_in (List.mem_append_right _ (List.mem_of_getElem? (i := 570) (by decide +kernel))) rfl
theorem lk_X8_238 : Cond.methodLink RX8 238 yX0_tearUp ∈ rr_tbl := rr_in (List.mem_append_right _ (List.mem_of_getElem? (i := 579) (by decide +kernel))) rfl
theorem lk_X8_241 : Cond.methodLink RX8 241 yX0_reckon ∈ rr_tbl := rr_in (List.mem_append_right _ (List.mem_of_getElem? (i := 587) (by decide +kernel))) rfl
theorem lk_X8_252 : Cond.methodLink RX8 252 yX8_allChances ∈ rr_tbl := rr_in (List.mem_append_right _ (List.mem_of_getElem? (i := 613) (by decide +kernel))) rfl
theorem lk_X8_255 : Cond.methodLink RX8 255 yX8_levelKinds ∈ rr_tbl := rr_in (List.mem_append_right _ (List.mem_of_getElem? (i := 621) (by decide +kernel))) rfl
theorem lk_X8_258 : Cond.methodLink RX8 258 yX2_isFull ∈ rr_tbl := rr_in (List.mem_append_right _ (List.mem_of_getElem? (i := 629) (by decide +kernel))) rfl
theorem lk_X8_259 : Cond.methodLink RX8 259 yX2_learn ∈ rr_tbl := rr_in (List.mem_append_right _ (List.mem_of_getElem? (i := 633) (by decide +kernel))) rfl
theorem lk_X8_263 : Cond.methodLink RX8 263 yX2_clear ∈ rr_tbl := rr_in (List.mem_append_right _ (List.mem_of_getElem? (i := 642) (by decide +kernel))) rfl
theorem lk_X8_264 : Cond.methodLink RX8 264 yX5_told ∈ rr_tbl := rr_in (List.mem_append_right _ (List.mem_of_getElem? (i := 320) (by decide +kernel))) rfl
theorem lk_X8_267 : Cond.methodLink RX8 267 yX2_comeOutBy ∈ rr_tbl := rr_in (List.mem_append_right _ (List.mem_of_getElem? (i := 650) (by decide +kernel))) rfl
theorem lk_X8_271 : Cond.methodLink RX8 271 yX4_renew ∈ rr_tbl := rr_in (List.mem_append_right _ (List.mem_of_getElem? (i := 659) (by decide +kernel))) rfl
theorem lk_X8_276 : Cond.methodLink RX8 276 yX4_drop ∈ rr_tbl := rr_in (List.mem_append_right _ (List.mem_of_getElem? (i := 669) (by decide +kernel))) rfl
theorem lk_X8_279 : Cond.methodLink RX8 279 yX4_trouble ∈ rr_tbl := rr_in (List.mem_append_right _ (List.mem_of_getElem? (i := 677) (by decide +kernel))) rfl
theorem lk_X8_282 : Cond.methodLink RX8 282 yX4_put ∈ rr_tbl := rr_in (List.mem_append_right _ (List.mem_of_getElem? (i := 682) (by decide +kernel))) rfl
theorem lk_X8_286 : Cond.methodLink RX8 286 yX4_item ∈ rr_tbl := rr_in (List.mem_append_right _ (List.mem_of_getElem? (i := 695) (by decide +kernel))) rfl
theorem lk_X8_292 : Cond.methodLink RX8 292 yX4_hasRun ∈ rr_tbl := rr_in (List.mem_append_right _ (List.mem_of_getElem? (i := 700) (by decide +kernel))) rfl
theorem lk_X8_311 : Cond.methodLink RX8 311 yX8_count ∈ rr_tbl := rr_in (List.mem_append_right _ (List.mem_of_getElem? (i := 721) (by decide +kernel))) rfl
theorem lk_X8_314 : Cond.methodLink RX8 314 yX8_fault ∈ rr_tbl := rr_in (List.mem_append_right _ (List.mem_of_getElem? (i := 722) (by decide +kernel))) rfl
theorem lk_X8_317 : Cond.methodLink RX8 317 yX8_height ∈ rr_tbl := rr_in (List.mem_append_right _ (List.mem_of_getElem? (i := 723) (by decide +kernel))) rfl
theorem lk_X8_320 : Cond.methodLink RX8 320 yX8_digestSpring ∈ rr_tbl := rr_in (List.mem_append_right _ (List.mem_of_getElem? (i := 724) (by decide +kernel))) rfl
theorem lk_X8_324 : Cond.methodLink RX8 324 yX8_never ∈ rr_tbl := rr_in (List.mem_append_right _ (List.mem_of_getElem? (i := 736) (by decide +kernel))) rfl
theorem lk_X8_327 : Cond.methodLink RX8 327 yX8_gain ∈ rr_tbl := rr_in (List.mem_append_right _ (List.mem_of_getElem? (i := 737) (by decide +kernel))) rfl
theorem lk_X8_331 : Cond.methodLink RX8 331 yX8_watch ∈ rr_tbl := rr_in (List.mem_append_right _ (List.mem_of_getElem? (i := 738) (by decide +kernel))) rfl
theorem lk_X8_334 : Cond.methodLink RX8 334 yX8_fit ∈ rr_tbl := rr_in (List.mem_append_right _ (List.mem_of_getElem? (i := 739) (by decide +kernel))) rfl
theorem lk_X8_337 : Cond.methodLink RX8 337 yX8_possession ∈ rr_tbl := rr_in (List.mem_append_right _ (List.mem_of_getElem? (i := 728) (by decide +kernel))) rfl
theorem lk_X8_340 : Cond.methodLink RX8 340 yX8_water ∈ rr_tbl := rr_in (List.mem_append_right _ (List.mem_of_getElem? (i := 729) (by decide +kernel))) rfl
theorem lk_X8_343 : Cond.methodLink RX8 343 yX8_cost ∈ rr_tbl := rr_in (List.mem_append_right _ (List.mem_of_getElem? (i := 730) (by decide +kernel))) rfl
theorem lk_X8_347 : Cond.methodLink RX8 347 yX8_deed ∈ rr_tbl := rr_in (List.mem_append_right _ (List.mem_of_getElem? (i := 731) (by decide +kernel))) rfl
theorem lk_X8_350 : Cond.methodLink RX8 350 yX8_waits ∈ rr_tbl := rr_in (List.mem_append_right _ (List.mem_of_getElem? (i := 732) (by decide +kernel))) rfl
theorem lk_X8_354 : Cond.methodLink RX8 354 yX8_goes ∈ rr_tbl := rr_in (List.mem_append_right _ (List.mem_of_getElem? (i := 733) (by decide +kernel))) rfl
theorem lk_X8_357 : Cond.methodLink RX8 357 yX8_keep ∈ rr_tbl := rr_in (List.mem_append_right _ (List.mem_of_getElem? (i := 734) (by decide +kernel))) rfl
theorem lk_X8_361 : Cond.methodLink RX8 361 yX8_closed ∈ rr_tbl := rr_in (List.mem_append_right _ (List.mem_of_getElem? (i := 735) (by decide +kernel))) rfl
theorem lc_X8_195 : Cond.constant RX8 195 (-100002) ∈ rr_tbl := rr_in (List.mem_append_right _ (List.mem_of_getElem? (i := 483) (by decide +kernel))) rfl
theorem lc_X8_199 : Cond.constantLong RX8 199 (-9223372036854775806) ∈ rr_tbl := rr_in (List.mem_append_right _ (List.mem_of_getElem? (i := 494) (by decide +kernel))) rfl
theorem lc_X8_207 : Cond.constantLong RX8 207 (-9223372036854775805) ∈ rr_tbl := rr_in (List.mem_append_right _ (List.mem_of_getElem? (i := 529) (by decide +kernel))) rfl
theorem lc_X8_307 : Cond.constantLong RX8 307 (17) ∈ rr_tbl := rr_in (List.mem_append_right _ (List.mem_of_getElem? (i := 719) (by decide +kernel))) rfl
theorem lc_X8_309 : Cond.constantLong RX8 309 (31) ∈ rr_tbl := rr_in (List.mem_append_right _ (List.mem_of_getElem? (i := 720) (by decide +kernel))) rfl
theorem lc_X8_285 : Cond.constant RX8 285 (-2147483648) ∈ rr_tbl := rr_in (List.mem_append_right _ (List.mem_of_getElem? (i := 694) (by decide +kernel))) rfl
theorem fp_X8_82 : rr_FP RX8 82 8 10 .int := ⟨RX8, TX8, 11, tyX8, rfl, inX8, tyX8_ok, nmX8, by decide, rr_in (List.mem_append_right _ (List.mem_of_getElem? (i := 244) (by decide +kernel))) rfl, rfl, by decide +kernel⟩
theorem fl_X0_9 : rr_FL RX0 9 0 2 := ⟨RX0, TX0, 10, rfl, inX0, by decide, rr_in (List.mem_append_right _ (List.mem_of_getElem? (i := 142) (by decide +kernel))) rfl⟩
theorem fl_X0_15 : rr_FL RX0 15 0 3 := ⟨RX0, TX0, 10, rfl, inX0, by decide, rr_in (List.mem_append_right _ (List.mem_of_getElem? (i := 143) (by decide +kernel))) rfl⟩
theorem fl_X0_18 : rr_FL RX0 18 0 4 := ⟨RX0, TX0, 10, rfl, inX0, by decide, rr_in (List.mem_append_right _ (List.mem_of_getElem? (i := 144) (by decide +kernel))) rfl⟩
theorem fl_X0_23 : rr_FL RX0 23 0 5 := ⟨RX0, TX0, 10, rfl, inX0, by decide, rr_in (List.mem_append_right _ (List.mem_of_getElem? (i := 145) (by decide +kernel))) rfl⟩
theorem fl_X0_26 : rr_FL RX0 26 0 6 := ⟨RX0, TX0, 10, rfl, inX0, by decide, rr_in (List.mem_append_right _ (List.mem_of_getElem? (i := 146) (by decide +kernel))) rfl⟩
theorem fl_X0_30 : rr_FL RX0 30 0 7 := ⟨RX0, TX0, 10, rfl, inX0, by decide, rr_in (List.mem_append_right _ (List.mem_of_getElem? (i := 148) (by decide +kernel))) rfl⟩
theorem fl_X0_36 : rr_FL RX0 36 0 9 := ⟨RX0, TX0, 10, rfl, inX0, by decide, rr_in (List.mem_append_right _ (List.mem_of_getElem? (i := 152) (by decide +kernel))) rfl⟩
theorem fl_X0_39 : rr_FL RX0 39 0 0 := ⟨RX0, TX0, 10, rfl, inX0, by decide, rr_in (List.mem_append_right _ (List.mem_of_getElem? (i := 140) (by decide +kernel))) rfl⟩
theorem fl_X0_43 : rr_FL RX0 43 0 1 := ⟨RX0, TX0, 10, rfl, inX0, by decide, rr_in (List.mem_append_right _ (List.mem_of_getElem? (i := 141) (by decide +kernel))) rfl⟩
theorem lk_X0_3 : Cond.methodLink RX0 3 objectInit ∈ rr_tbl := rr_in (List.mem_append_right _ (List.mem_of_getElem? (i := 138) (by decide +kernel))) rfl
theorem lk_X0_46 : Cond.methodLinkNest RX0 46 yX8_inside "RoadRiver" ∈ lw_tbl := (List.mem_append_right _ (List.mem_of_getElem? (i := 574) (by decide +kernel)))
theorem lk_X0_50 : Cond.methodLink RX0 50 yX0_fillBrought ∈ rr_tbl := rr_in (List.mem_append_right _ (List.mem_of_getElem? (i := 591) (by decide +kernel))) rfl
theorem lk_X0_54 : Cond.methodLink RX0 54 yX0_neverLoses ∈ rr_tbl := rr_in (List.mem_append_right _ (List.mem_of_getElem? (i := 601) (by decide +kernel))) rfl
theorem lk_X0_58 : Cond.methodLink RX0 58 yX0_weightedSum ∈ rr_tbl := rr_in (List.mem_append_right _ (List.mem_of_getElem? (i := 605) (by decide +kernel))) rfl
theorem lk_X0_62 : Cond.methodLink RX0 62 yX0_amountOf ∈ rr_tbl := rr_in (List.mem_append_right _ (List.mem_of_getElem? (i := 595) (by decide +kernel))) rfl
theorem lk_X0_66 : Cond.methodLink RX0 66 yX0_isSigned ∈ rr_tbl := rr_in (List.mem_append_right _ (List.mem_of_getElem? (i := 600) (by decide +kernel))) rfl
theorem lk_X0_69 : Cond.methodLink RX0 69 yX6_lentFrom ∈ rr_tbl := rr_in (List.mem_append_right _ (List.mem_of_getElem? (i := 599) (by decide +kernel))) rfl
theorem fp_X0_26 : rr_FP RX0 26 0 6 .int := ⟨RX0, TX0, 10, tyX0, rfl, inX0, tyX0_ok, nmX0, by decide, rr_in (List.mem_append_right _ (List.mem_of_getElem? (i := 146) (by decide +kernel))) rfl, rfl, by decide +kernel⟩
theorem fp_X0_30 : rr_FP RX0 30 0 7 .int := ⟨RX0, TX0, 10, tyX0, rfl, inX0, tyX0_ok, nmX0, by decide, rr_in (List.mem_append_right _ (List.mem_of_getElem? (i := 148) (by decide +kernel))) rfl, rfl, by decide +kernel⟩
theorem fp_X0_33 : rr_FP RX0 33 0 8 .int := ⟨RX0, TX0, 10, tyX0, rfl, inX0, tyX0_ok, nmX0, by decide, rr_in (List.mem_append_right _ (List.mem_of_getElem? (i := 150) (by decide +kernel))) rfl, rfl, by decide +kernel⟩
theorem fp_X0_36 : rr_FP RX0 36 0 9 .int := ⟨RX0, TX0, 10, tyX0, rfl, inX0, tyX0_ok, nmX0, by decide, rr_in (List.mem_append_right _ (List.mem_of_getElem? (i := 152) (by decide +kernel))) rfl, rfl, by decide +kernel⟩
theorem fl_X1_9 : rr_FL RX1 9 1 0 := ⟨RX1, TX1, 4, rfl, inX1, by decide, rr_in (List.mem_append_right _ (List.mem_of_getElem? (i := 30) (by decide +kernel))) rfl⟩
theorem fl_X1_15 : rr_FL RX1 15 1 1 := ⟨RX1, TX1, 4, rfl, inX1, by decide, rr_in (List.mem_append_right _ (List.mem_of_getElem? (i := 31) (by decide +kernel))) rfl⟩
theorem fl_X1_18 : rr_FL RX1 18 1 2 := ⟨RX1, TX1, 4, rfl, inX1, by decide, rr_in (List.mem_append_right _ (List.mem_of_getElem? (i := 32) (by decide +kernel))) rfl⟩
theorem fl_X1_21 : rr_FL RX1 21 1 3 := ⟨RX1, TX1, 4, rfl, inX1, by decide, rr_in (List.mem_append_right _ (List.mem_of_getElem? (i := 33) (by decide +kernel))) rfl⟩
theorem fl_X1_35 : rr_FLN RX1 35 4 2 := ⟨RX4, TX4, 3, "RoadRiver", rfl, inX4, by decide, (List.mem_append_right _ (List.mem_of_getElem? (i := 225) (by decide +kernel)))⟩
theorem lk_X1_3 : Cond.methodLink RX1 3 objectInit ∈ rr_tbl := rr_in (List.mem_append_right _ (List.mem_of_getElem? (i := 29) (by decide +kernel))) rfl
theorem lk_X1_25 : Cond.methodLinkNest RX1 25 yX8_inside "RoadRiver" ∈ lw_tbl := (List.mem_append_right _ (List.mem_of_getElem? (i := 391) (by decide +kernel)))
theorem lk_X1_29 : Cond.methodLink RX1 29 yJ9_max_7cf53 ∈ rr_tbl := rr_in (List.mem_append_right _ (List.mem_of_getElem? (i := 432) (by decide +kernel))) rfl
theorem lk_X1_54 : Cond.methodLinkNest RX1 54 yX8_yardBits "RoadRiver" ∈ lw_tbl := (List.mem_append_right _ (List.mem_of_getElem? (i := 350) (by decide +kernel)))
theorem lk_X1_38 : Cond.methodLink RX1 38 yX4_item ∈ rr_tbl := rr_in (List.mem_append_right _ (List.mem_of_getElem? (i := 416) (by decide +kernel))) rfl
theorem lk_X1_42 : Cond.methodLink RX1 42 yX1_isFull ∈ rr_tbl := rr_in (List.mem_append_right _ (List.mem_of_getElem? (i := 421) (by decide +kernel))) rfl
theorem lk_X1_46 : Cond.methodLink RX1 46 yX1_mayBe ∈ rr_tbl := rr_in (List.mem_append_right _ (List.mem_of_getElem? (i := 422) (by decide +kernel))) rfl
theorem lk_X1_50 : Cond.methodLink RX1 50 yX1_build ∈ rr_tbl := rr_in (List.mem_append_right _ (List.mem_of_getElem? (i := 423) (by decide +kernel))) rfl
theorem fp_X1_21 : rr_FP RX1 21 1 3 .int := ⟨RX1, TX1, 4, tyX1, rfl, inX1, tyX1_ok, nmX1, by decide, rr_in (List.mem_append_right _ (List.mem_of_getElem? (i := 33) (by decide +kernel))) rfl, rfl, by decide +kernel⟩
theorem fl_X2_9 : rr_FL RX2 9 2 0 := ⟨RX2, TX2, 4, rfl, inX2, by decide, rr_in (List.mem_append_right _ (List.mem_of_getElem? (i := 181) (by decide +kernel))) rfl⟩
theorem fl_X2_15 : rr_FL RX2 15 2 1 := ⟨RX2, TX2, 4, rfl, inX2, by decide, rr_in (List.mem_append_right _ (List.mem_of_getElem? (i := 182) (by decide +kernel))) rfl⟩
theorem fl_X2_18 : rr_FL RX2 18 2 2 := ⟨RX2, TX2, 4, rfl, inX2, by decide, rr_in (List.mem_append_right _ (List.mem_of_getElem? (i := 183) (by decide +kernel))) rfl⟩
theorem fl_X2_21 : rr_FL RX2 21 2 3 := ⟨RX2, TX2, 4, rfl, inX2, by decide, rr_in (List.mem_append_right _ (List.mem_of_getElem? (i := 184) (by decide +kernel))) rfl⟩
theorem lk_X2_3 : Cond.methodLink RX2 3 objectInit ∈ rr_tbl := rr_in (List.mem_append_right _ (List.mem_of_getElem? (i := 180) (by decide +kernel))) rfl
theorem lk_X2_25 : Cond.methodLinkNest RX2 25 yX8_inside "RoadRiver" ∈ lw_tbl := (List.mem_append_right _ (List.mem_of_getElem? (i := 637) (by decide +kernel)))
theorem lk_X2_29 : Cond.methodLink RX2 29 yX6_wetYards ∈ rr_tbl := rr_in (List.mem_append_right _ (List.mem_of_getElem? (i := 654) (by decide +kernel))) rfl
theorem fp_X2_21 : rr_FP RX2 21 2 3 .int := ⟨RX2, TX2, 4, tyX2, rfl, inX2, tyX2_ok, nmX2, by decide, rr_in (List.mem_append_right _ (List.mem_of_getElem? (i := 184) (by decide +kernel))) rfl, rfl, by decide +kernel⟩
theorem fl_X3_9 : rr_FL RX3 9 3 1 := ⟨RX3, TX3, 4, rfl, inX3, by decide, rr_in (List.mem_append_right _ (List.mem_of_getElem? (i := 118) (by decide +kernel))) rfl⟩
theorem fl_X3_21 : rr_FL RX3 21 3 0 := ⟨RX3, TX3, 4, rfl, inX3, by decide, rr_in (List.mem_append_right _ (List.mem_of_getElem? (i := 117) (by decide +kernel))) rfl⟩
theorem lk_X3_3 : Cond.methodLink RX3 3 objectInit ∈ rr_tbl := rr_in (List.mem_append_right _ (List.mem_of_getElem? (i := 116) (by decide +kernel))) rfl
theorem lk_X3_25 : Cond.methodLinkNest RX3 25 yX8_yardBits "RoadRiver" ∈ lw_tbl := (List.mem_append_right _ (List.mem_of_getElem? (i := 556) (by decide +kernel)))
theorem lk_X3_29 : Cond.methodLink RX3 29 yX3_dryDays ∈ rr_tbl := rr_in (List.mem_append_right _ (List.mem_of_getElem? (i := 557) (by decide +kernel))) rfl
theorem lk_X3_33 : Cond.methodLink RX3 33 yX6_wetYards ∈ rr_tbl := rr_in (List.mem_append_right _ (List.mem_of_getElem? (i := 561) (by decide +kernel))) rfl
theorem fp_X3_9 : rr_FP RX3 9 3 1 .int := ⟨RX3, TX3, 4, tyX3, rfl, inX3, tyX3_ok, nmX3, by decide, rr_in (List.mem_append_right _ (List.mem_of_getElem? (i := 118) (by decide +kernel))) rfl, rfl, by decide +kernel⟩
theorem fp_X3_15 : rr_FP RX3 15 3 2 .int := ⟨RX3, TX3, 4, tyX3, rfl, inX3, tyX3_ok, nmX3, by decide, rr_in (List.mem_append_right _ (List.mem_of_getElem? (i := 120) (by decide +kernel))) rfl, rfl, by decide +kernel⟩
theorem fp_X3_18 : rr_FP RX3 18 3 3 .int := ⟨RX3, TX3, 4, tyX3, rfl, inX3, tyX3_ok, nmX3, by decide, rr_in (List.mem_append_right _ (List.mem_of_getElem? (i := 122) (by decide +kernel))) rfl, rfl, by decide +kernel⟩
theorem fl_X4_9 : rr_FL RX4 9 4 0 := ⟨RX4, TX4, 3, rfl, inX4, by decide, rr_in (List.mem_append_right _ (List.mem_of_getElem? (i := 220) (by decide +kernel))) rfl⟩
theorem fl_X4_15 : rr_FL RX4 15 4 1 := ⟨RX4, TX4, 3, rfl, inX4, by decide, rr_in (List.mem_append_right _ (List.mem_of_getElem? (i := 222) (by decide +kernel))) rfl⟩
theorem fl_X4_19 : rr_FL RX4 19 4 2 := ⟨RX4, TX4, 3, rfl, inX4, by decide, rr_in (List.mem_append_right _ (List.mem_of_getElem? (i := 224) (by decide +kernel))) rfl⟩
theorem lk_X4_3 : Cond.methodLink RX4 3 objectInit ∈ rr_tbl := rr_in (List.mem_append_right _ (List.mem_of_getElem? (i := 219) (by decide +kernel))) rfl
theorem lk_X4_22 : Cond.methodLink RX4 22 yJ9_min_7cf53 ∈ rr_tbl := rr_in (List.mem_append_right _ (List.mem_of_getElem? (i := 663) (by decide +kernel))) rfl
theorem lk_X4_28 : Cond.methodLink RX4 28 yJ9_max_7cf53 ∈ rr_tbl := rr_in (List.mem_append_right _ (List.mem_of_getElem? (i := 664) (by decide +kernel))) rfl
theorem lk_X4_35 : Cond.methodLinkNest RX4 35 yX8_inside "RoadRiver" ∈ lw_tbl := (List.mem_append_right _ (List.mem_of_getElem? (i := 420) (by decide +kernel)))
theorem lk_X4_31 : Cond.methodLink RX4 31 yX4_isLost ∈ rr_tbl := rr_in (List.mem_append_right _ (List.mem_of_getElem? (i := 681) (by decide +kernel))) rfl
theorem lk_X4_39 : Cond.methodLink RX4 39 yX4_cut ∈ rr_tbl := rr_in (List.mem_append_right _ (List.mem_of_getElem? (i := 686) (by decide +kernel))) rfl
theorem fp_X4_15 : rr_FP RX4 15 4 1 .int := ⟨RX4, TX4, 3, tyX4, rfl, inX4, tyX4_ok, nmX4, by decide, rr_in (List.mem_append_right _ (List.mem_of_getElem? (i := 222) (by decide +kernel))) rfl, rfl, by decide +kernel⟩
theorem fp_X4_19 : rr_FP RX4 19 4 2 .int := ⟨RX4, TX4, 3, tyX4, rfl, inX4, tyX4_ok, nmX4, by decide, rr_in (List.mem_append_right _ (List.mem_of_getElem? (i := 224) (by decide +kernel))) rfl, rfl, by decide +kernel⟩
theorem fl_X5_9 : rr_FL RX5 9 5 1 := ⟨RX5, TX5, 2, rfl, inX5, by decide, rr_in (List.mem_append_right _ (List.mem_of_getElem? (i := 206) (by decide +kernel))) rfl⟩
theorem fl_X5_21 : rr_FL RX5 21 5 0 := ⟨RX5, TX5, 2, rfl, inX5, by decide, rr_in (List.mem_append_right _ (List.mem_of_getElem? (i := 205) (by decide +kernel))) rfl⟩
theorem lk_X5_3 : Cond.methodLink RX5 3 objectInit ∈ rr_tbl := rr_in (List.mem_append_right _ (List.mem_of_getElem? (i := 201) (by decide +kernel))) rfl
theorem lk_X5_15 : Cond.methodLink RX5 15 yJ9_max_7cf53 ∈ rr_tbl := rr_in (List.mem_append_right _ (List.mem_of_getElem? (i := 202) (by decide +kernel))) rfl
theorem lk_X5_25 : Cond.methodLinkNest RX5 25 yX8_inside "RoadRiver" ∈ lw_tbl := (List.mem_append_right _ (List.mem_of_getElem? (i := 283) (by decide +kernel)))
theorem lk_X5_29 : Cond.methodLink RX5 29 yX5_firstFault ∈ rr_tbl := rr_in (List.mem_append_right _ (List.mem_of_getElem? (i := 324) (by decide +kernel))) rfl
theorem fp_X5_9 : rr_FP RX5 9 5 1 .int := ⟨RX5, TX5, 2, tyX5, rfl, inX5, tyX5_ok, nmX5, by decide, rr_in (List.mem_append_right _ (List.mem_of_getElem? (i := 206) (by decide +kernel))) rfl, rfl, by decide +kernel⟩
theorem fl_X6_11 : rr_FL RX6 11 6 3 := ⟨RX6, TX6, 9, rfl, inX6, by decide, rr_in (List.mem_append_right _ (List.mem_of_getElem? (i := 56) (by decide +kernel))) rfl⟩
theorem fl_X6_16 : rr_FL RX6 16 6 4 := ⟨RX6, TX6, 9, rfl, inX6, by decide, rr_in (List.mem_append_right _ (List.mem_of_getElem? (i := 57) (by decide +kernel))) rfl⟩
theorem fl_X6_19 : rr_FL RX6 19 6 5 := ⟨RX6, TX6, 9, rfl, inX6, by decide, rr_in (List.mem_append_right _ (List.mem_of_getElem? (i := 58) (by decide +kernel))) rfl⟩
theorem fl_X6_23 : rr_FL RX6 23 6 6 := ⟨RX6, TX6, 9, rfl, inX6, by decide, rr_in (List.mem_append_right _ (List.mem_of_getElem? (i := 59) (by decide +kernel))) rfl⟩
theorem fl_X6_26 : rr_FL RX6 26 6 7 := ⟨RX6, TX6, 9, rfl, inX6, by decide, rr_in (List.mem_append_right _ (List.mem_of_getElem? (i := 60) (by decide +kernel))) rfl⟩
theorem fl_X6_29 : rr_FL RX6 29 6 8 := ⟨RX6, TX6, 9, rfl, inX6, by decide, rr_in (List.mem_append_right _ (List.mem_of_getElem? (i := 61) (by decide +kernel))) rfl⟩
theorem fl_X6_33 : rr_FL RX6 33 6 0 := ⟨RX6, TX6, 9, rfl, inX6, by decide, rr_in (List.mem_append_right _ (List.mem_of_getElem? (i := 53) (by decide +kernel))) rfl⟩
theorem fl_X6_37 : rr_FL RX6 37 6 1 := ⟨RX6, TX6, 9, rfl, inX6, by decide, rr_in (List.mem_append_right _ (List.mem_of_getElem? (i := 54) (by decide +kernel))) rfl⟩
theorem fl_X6_40 : rr_FL RX6 40 6 2 := ⟨RX6, TX6, 9, rfl, inX6, by decide, rr_in (List.mem_append_right _ (List.mem_of_getElem? (i := 55) (by decide +kernel))) rfl⟩
theorem lk_X6_3 : Cond.methodLink RX6 3 objectInit ∈ rr_tbl := rr_in (List.mem_append_right _ (List.mem_of_getElem? (i := 50) (by decide +kernel))) rfl
theorem lk_X6_62 : Cond.methodLinkNest RX6 62 yX8_isSpringDay "RoadRiver" ∈ lw_tbl := (List.mem_append_right _ (List.mem_of_getElem? (i := 370) (by decide +kernel)))
theorem lk_X6_66 : Cond.methodLinkNest RX6 66 yX8_inside "RoadRiver" ∈ lw_tbl := (List.mem_append_right _ (List.mem_of_getElem? (i := 365) (by decide +kernel)))
theorem lk_X6_44 : Cond.methodLink RX6 44 yX6_fillLowYards ∈ rr_tbl := rr_in (List.mem_append_right _ (List.mem_of_getElem? (i := 340) (by decide +kernel))) rfl
theorem lk_X6_47 : Cond.methodLink RX6 47 yX1_keptYards ∈ rr_tbl := rr_in (List.mem_append_right _ (List.mem_of_getElem? (i := 346) (by decide +kernel))) rfl
theorem lk_X6_52 : Cond.methodLink RX6 52 yX6_fillLevels ∈ rr_tbl := rr_in (List.mem_append_right _ (List.mem_of_getElem? (i := 353) (by decide +kernel))) rfl
theorem lk_X6_56 : Cond.methodLink RX6 56 yX6_firstThaw ∈ rr_tbl := rr_in (List.mem_append_right _ (List.mem_of_getElem? (i := 357) (by decide +kernel))) rfl
theorem lk_X6_59 : Cond.methodLink RX6 59 yX6_fillWet ∈ rr_tbl := rr_in (List.mem_append_right _ (List.mem_of_getElem? (i := 361) (by decide +kernel))) rfl
theorem lk_X6_69 : Cond.methodLink RX6 69 yX6_wetYards ∈ rr_tbl := rr_in (List.mem_append_right _ (List.mem_of_getElem? (i := 478) (by decide +kernel))) rfl
theorem lk_X6_73 : Cond.methodLink RX6 73 yX5_told ∈ rr_tbl := rr_in (List.mem_append_right _ (List.mem_of_getElem? (i := 344) (by decide +kernel))) rfl
theorem lk_X6_79 : Cond.methodLink RX6 79 yX5_figure ∈ rr_tbl := rr_in (List.mem_append_right _ (List.mem_of_getElem? (i := 345) (by decide +kernel))) rfl
theorem fp_X6_29 : rr_FP RX6 29 6 8 .boolean := ⟨RX6, TX6, 9, tyX6, rfl, inX6, tyX6_ok, nmX6, by decide, rr_in (List.mem_append_right _ (List.mem_of_getElem? (i := 61) (by decide +kernel))) rfl, rfl, by decide +kernel⟩
theorem fl_X7_11 : rr_FL RX7 11 7 3 := ⟨RX7, TX7, 7, rfl, inX7, by decide, rr_in (List.mem_append_right _ (List.mem_of_getElem? (i := 91) (by decide +kernel))) rfl⟩
theorem fl_X7_16 : rr_FL RX7 16 7 4 := ⟨RX7, TX7, 7, rfl, inX7, by decide, rr_in (List.mem_append_right _ (List.mem_of_getElem? (i := 92) (by decide +kernel))) rfl⟩
theorem fl_X7_20 : rr_FL RX7 20 7 5 := ⟨RX7, TX7, 7, rfl, inX7, by decide, rr_in (List.mem_append_right _ (List.mem_of_getElem? (i := 93) (by decide +kernel))) rfl⟩
theorem fl_X7_23 : rr_FL RX7 23 7 6 := ⟨RX7, TX7, 7, rfl, inX7, by decide, rr_in (List.mem_append_right _ (List.mem_of_getElem? (i := 94) (by decide +kernel))) rfl⟩
theorem fl_X7_27 : rr_FL RX7 27 7 0 := ⟨RX7, TX7, 7, rfl, inX7, by decide, rr_in (List.mem_append_right _ (List.mem_of_getElem? (i := 88) (by decide +kernel))) rfl⟩
theorem fl_X7_31 : rr_FL RX7 31 7 1 := ⟨RX7, TX7, 7, rfl, inX7, by decide, rr_in (List.mem_append_right _ (List.mem_of_getElem? (i := 89) (by decide +kernel))) rfl⟩
theorem fl_X7_34 : rr_FL RX7 34 7 2 := ⟨RX7, TX7, 7, rfl, inX7, by decide, rr_in (List.mem_append_right _ (List.mem_of_getElem? (i := 90) (by decide +kernel))) rfl⟩
theorem lk_X7_3 : Cond.methodLink RX7 3 objectInit ∈ rr_tbl := rr_in (List.mem_append_right _ (List.mem_of_getElem? (i := 86) (by decide +kernel))) rfl
theorem lk_X7_48 : Cond.methodLinkNest RX7 48 yX8_inside "RoadRiver" ∈ lw_tbl := (List.mem_append_right _ (List.mem_of_getElem? (i := 528) (by decide +kernel)))
theorem lk_X7_62 : Cond.methodLinkNest RX7 62 yX8_roadCost "RoadRiver" ∈ lw_tbl := (List.mem_append_right _ (List.mem_of_getElem? (i := 521) (by decide +kernel)))
theorem lk_X7_66 : Cond.methodLinkNest RX7 66 yX8_ridgeCost "RoadRiver" ∈ lw_tbl := (List.mem_append_right _ (List.mem_of_getElem? (i := 522) (by decide +kernel)))
theorem lk_X7_70 : Cond.methodLink RX7 70 yJ9_min_7cf53 ∈ rr_tbl := rr_in (List.mem_append_right _ (List.mem_of_getElem? (i := 523) (by decide +kernel))) rfl
theorem lk_X7_37 : Cond.methodLink RX7 37 yX7_fillPartings ∈ rr_tbl := rr_in (List.mem_append_right _ (List.mem_of_getElem? (i := 499) (by decide +kernel))) rfl
theorem lk_X7_40 : Cond.methodLink RX7 40 yX7_fillNextCases ∈ rr_tbl := rr_in (List.mem_append_right _ (List.mem_of_getElem? (i := 508) (by decide +kernel))) rfl
theorem lk_X7_44 : Cond.methodLink RX7 44 yX7_choose ∈ rr_tbl := rr_in (List.mem_append_right _ (List.mem_of_getElem? (i := 512) (by decide +kernel))) rfl
theorem lk_X7_52 : Cond.methodLink RX7 52 yX7_sumOfAlike ∈ rr_tbl := rr_in (List.mem_append_right _ (List.mem_of_getElem? (i := 516) (by decide +kernel))) rfl
theorem lk_X7_56 : Cond.methodLink RX7 56 yX6_wetYards ∈ rr_tbl := rr_in (List.mem_append_right _ (List.mem_of_getElem? (i := 520) (by decide +kernel))) rfl
theorem lk_X7_75 : Cond.methodLink RX7 75 yX7_parting ∈ rr_tbl := rr_in (List.mem_append_right _ (List.mem_of_getElem? (i := 503) (by decide +kernel))) rfl
theorem lk_X7_78 : Cond.methodLink RX7 78 yX6_levelOn ∈ rr_tbl := rr_in (List.mem_append_right _ (List.mem_of_getElem? (i := 507) (by decide +kernel))) rfl
theorem lk_L_9 : Cond.methodLink RL 9 yX8_init ∈ rr_tbl := rr_in (List.mem_append_right _ (List.mem_of_getElem? (i := 16) (by decide +kernel))) rfl
theorem lk_L_12 : Cond.methodLink RL 12 yX9_init ∈ rr_tbl := rr_in (List.mem_append_right _ (List.mem_of_getElem? (i := 742) (by decide +kernel))) rfl
theorem lk_L_13 : Cond.methodLink RL 13 yX8_type ∈ rr_tbl := rr_in (List.mem_append_right _ (List.mem_of_getElem? (i := 268) (by decide +kernel))) rfl
theorem lk_L_17 : Cond.methodLink RL 17 yX9_type ∈ rr_tbl := rr_in (List.mem_append_right _ (List.mem_of_getElem? (i := 845) (by decide +kernel))) rfl
theorem lk_L_18 : Cond.methodLink RL 18 yX8_undo ∈ rr_tbl := rr_in (List.mem_append_right _ (List.mem_of_getElem? (i := 288) (by decide +kernel))) rfl
theorem lk_L_22 : Cond.methodLink RL 22 yX9_undo ∈ rr_tbl := rr_in (List.mem_append_right _ (List.mem_of_getElem? (i := 853) (by decide +kernel))) rfl
theorem lk_L_23 : Cond.methodLink RL 23 yX8_wipe ∈ rr_tbl := rr_in (List.mem_append_right _ (List.mem_of_getElem? (i := 296) (by decide +kernel))) rfl
theorem lk_L_26 : Cond.methodLink RL 26 yX9_wipe ∈ rr_tbl := rr_in (List.mem_append_right _ (List.mem_of_getElem? (i := 857) (by decide +kernel))) rfl
theorem lk_L_27 : Cond.methodLink RL 27 yX8_fault ∈ rr_tbl := rr_in (List.mem_append_right _ (List.mem_of_getElem? (i := 304) (by decide +kernel))) rfl
theorem lk_L_30 : Cond.methodLink RL 30 yX9_fault ∈ rr_tbl := rr_in (List.mem_append_right _ (List.mem_of_getElem? (i := 861) (by decide +kernel))) rfl
theorem lk_L_31 : Cond.methodLink RL 31 yX8_height ∈ rr_tbl := rr_in (List.mem_append_right _ (List.mem_of_getElem? (i := 312) (by decide +kernel))) rfl
theorem lk_L_34 : Cond.methodLink RL 34 yX9_height ∈ rr_tbl := rr_in (List.mem_append_right _ (List.mem_of_getElem? (i := 871) (by decide +kernel))) rfl
theorem lk_L_35 : Cond.methodLink RL 35 yX8_level ∈ rr_tbl := rr_in (List.mem_append_right _ (List.mem_of_getElem? (i := 329) (by decide +kernel))) rfl
theorem lk_L_38 : Cond.methodLink RL 38 yX9_level ∈ rr_tbl := rr_in (List.mem_append_right _ (List.mem_of_getElem? (i := 891) (by decide +kernel))) rfl
theorem lk_L_39 : Cond.methodLink RL 39 yX8_set ∈ rr_tbl := rr_in (List.mem_append_right _ (List.mem_of_getElem? (i := 371) (by decide +kernel))) rfl
theorem lk_L_42 : Cond.methodLink RL 42 yX9_set ∈ rr_tbl := rr_in (List.mem_append_right _ (List.mem_of_getElem? (i := 906) (by decide +kernel))) rfl
theorem lk_L_43 : Cond.methodLink RL 43 yX8_odds ∈ rr_tbl := rr_in (List.mem_append_right _ (List.mem_of_getElem? (i := 379) (by decide +kernel))) rfl
theorem lk_L_46 : Cond.methodLink RL 46 yX9_odds ∈ rr_tbl := rr_in (List.mem_append_right _ (List.mem_of_getElem? (i := 914) (by decide +kernel))) rfl
theorem lk_L_47 : Cond.methodLink RL 47 yX8_dike ∈ rr_tbl := rr_in (List.mem_append_right _ (List.mem_of_getElem? (i := 383) (by decide +kernel))) rfl
theorem lk_L_51 : Cond.methodLink RL 51 yX9_dike ∈ rr_tbl := rr_in (List.mem_append_right _ (List.mem_of_getElem? (i := 919) (by decide +kernel))) rfl
theorem lk_L_52 : Cond.methodLink RL 52 yX8_read ∈ rr_tbl := rr_in (List.mem_append_right _ (List.mem_of_getElem? (i := 400) (by decide +kernel))) rfl
theorem lk_L_55 : Cond.methodLink RL 55 yX9_read ∈ rr_tbl := rr_in (List.mem_append_right _ (List.mem_of_getElem? (i := 924) (by decide +kernel))) rfl
theorem lk_L_56 : Cond.methodLink RL 56 yX8_breaks ∈ rr_tbl := rr_in (List.mem_append_right _ (List.mem_of_getElem? (i := 424) (by decide +kernel))) rfl
theorem lk_L_60 : Cond.methodLink RL 60 yX9_breaks ∈ rr_tbl := rr_in (List.mem_append_right _ (List.mem_of_getElem? (i := 929) (by decide +kernel))) rfl
theorem lk_L_61 : Cond.methodLink RL 61 yX8_possession ∈ rr_tbl := rr_in (List.mem_append_right _ (List.mem_of_getElem? (i := 433) (by decide +kernel))) rfl
theorem lk_L_64 : Cond.methodLink RL 64 yX9_possession ∈ rr_tbl := rr_in (List.mem_append_right _ (List.mem_of_getElem? (i := 933) (by decide +kernel))) rfl
theorem lk_L_65 : Cond.methodLink RL 65 yX8_wet ∈ rr_tbl := rr_in (List.mem_append_right _ (List.mem_of_getElem? (i := 441) (by decide +kernel))) rfl
theorem lk_L_68 : Cond.methodLink RL 68 yX9_wet ∈ rr_tbl := rr_in (List.mem_append_right _ (List.mem_of_getElem? (i := 941) (by decide +kernel))) rfl
theorem lk_L_69 : Cond.methodLink RL 69 yX8_water ∈ rr_tbl := rr_in (List.mem_append_right _ (List.mem_of_getElem? (i := 449) (by decide +kernel))) rfl
theorem lk_L_72 : Cond.methodLink RL 72 yX9_water ∈ rr_tbl := rr_in (List.mem_append_right _ (List.mem_of_getElem? (i := 953) (by decide +kernel))) rfl
theorem lk_L_73 : Cond.methodLink RL 73 yX8_cost ∈ rr_tbl := rr_in (List.mem_append_right _ (List.mem_of_getElem? (i := 456) (by decide +kernel))) rfl
theorem lk_L_77 : Cond.methodLink RL 77 yX9_cost ∈ rr_tbl := rr_in (List.mem_append_right _ (List.mem_of_getElem? (i := 967) (by decide +kernel))) rfl
theorem lk_L_78 : Cond.methodLink RL 78 yX8_closed ∈ rr_tbl := rr_in (List.mem_append_right _ (List.mem_of_getElem? (i := 470) (by decide +kernel))) rfl
theorem lk_L_81 : Cond.methodLink RL 81 yX9_closed ∈ rr_tbl := rr_in (List.mem_append_right _ (List.mem_of_getElem? (i := 982) (by decide +kernel))) rfl
theorem lk_L_82 : Cond.methodLink RL 82 yX8_deed ∈ rr_tbl := rr_in (List.mem_append_right _ (List.mem_of_getElem? (i := 479) (by decide +kernel))) rfl
theorem lk_L_85 : Cond.methodLink RL 85 yX9_deed ∈ rr_tbl := rr_in (List.mem_append_right _ (List.mem_of_getElem? (i := 990) (by decide +kernel))) rfl
theorem lk_L_86 : Cond.methodLink RL 86 yX8_waits ∈ rr_tbl := rr_in (List.mem_append_right _ (List.mem_of_getElem? (i := 490) (by decide +kernel))) rfl
theorem lk_L_90 : Cond.methodLink RL 90 yX9_waits ∈ rr_tbl := rr_in (List.mem_append_right _ (List.mem_of_getElem? (i := 999) (by decide +kernel))) rfl
theorem lk_L_91 : Cond.methodLink RL 91 yX8_goes ∈ rr_tbl := rr_in (List.mem_append_right _ (List.mem_of_getElem? (i := 540) (by decide +kernel))) rfl
theorem lk_L_95 : Cond.methodLink RL 95 yX9_goes ∈ rr_tbl := rr_in (List.mem_append_right _ (List.mem_of_getElem? (i := 1030) (by decide +kernel))) rfl
theorem lk_L_96 : Cond.methodLink RL 96 yX8_keep ∈ rr_tbl := rr_in (List.mem_append_right _ (List.mem_of_getElem? (i := 548) (by decide +kernel))) rfl
theorem lk_L_100 : Cond.methodLink RL 100 yX9_keep ∈ rr_tbl := rr_in (List.mem_append_right _ (List.mem_of_getElem? (i := 1038) (by decide +kernel))) rfl
theorem lk_L_101 : Cond.methodLink RL 101 yX8_contract ∈ rr_tbl := rr_in (List.mem_append_right _ (List.mem_of_getElem? (i := 562) (by decide +kernel))) rfl
theorem lk_L_104 : Cond.methodLink RL 104 yX9_contract ∈ rr_tbl := rr_in (List.mem_append_right _ (List.mem_of_getElem? (i := 1051) (by decide +kernel))) rfl
theorem lk_L_105 : Cond.methodLink RL 105 yX8_tears ∈ rr_tbl := rr_in (List.mem_append_right _ (List.mem_of_getElem? (i := 575) (by decide +kernel))) rfl
theorem lk_L_108 : Cond.methodLink RL 108 yX9_tears ∈ rr_tbl := rr_in (List.mem_append_right _ (List.mem_of_getElem? (i := 1056) (by decide +kernel))) rfl
theorem lk_L_109 : Cond.methodLink RL 109 yX8_never ∈ rr_tbl := rr_in (List.mem_append_right _ (List.mem_of_getElem? (i := 583) (by decide +kernel))) rfl
theorem lk_L_112 : Cond.methodLink RL 112 yX9_never ∈ rr_tbl := rr_in (List.mem_append_right _ (List.mem_of_getElem? (i := 1060) (by decide +kernel))) rfl
theorem lk_L_113 : Cond.methodLink RL 113 yX8_gain ∈ rr_tbl := rr_in (List.mem_append_right _ (List.mem_of_getElem? (i := 609) (by decide +kernel))) rfl
theorem lk_L_117 : Cond.methodLink RL 117 yX9_gain ∈ rr_tbl := rr_in (List.mem_append_right _ (List.mem_of_getElem? (i := 1080) (by decide +kernel))) rfl
theorem lk_L_118 : Cond.methodLink RL 118 yX8_watch ∈ rr_tbl := rr_in (List.mem_append_right _ (List.mem_of_getElem? (i := 617) (by decide +kernel))) rfl
theorem lk_L_121 : Cond.methodLink RL 121 yX9_watch ∈ rr_tbl := rr_in (List.mem_append_right _ (List.mem_of_getElem? (i := 1088) (by decide +kernel))) rfl
theorem lk_L_122 : Cond.methodLink RL 122 yX8_fact ∈ rr_tbl := rr_in (List.mem_append_right _ (List.mem_of_getElem? (i := 625) (by decide +kernel))) rfl
theorem lk_L_125 : Cond.methodLink RL 125 yX9_fact ∈ rr_tbl := rr_in (List.mem_append_right _ (List.mem_of_getElem? (i := 1100) (by decide +kernel))) rfl
theorem lk_L_126 : Cond.methodLink RL 126 yX8_forget ∈ rr_tbl := rr_in (List.mem_append_right _ (List.mem_of_getElem? (i := 638) (by decide +kernel))) rfl
theorem lk_L_129 : Cond.methodLink RL 129 yX9_forget ∈ rr_tbl := rr_in (List.mem_append_right _ (List.mem_of_getElem? (i := 1104) (by decide +kernel))) rfl
theorem lk_L_130 : Cond.methodLink RL 130 yX8_fit ∈ rr_tbl := rr_in (List.mem_append_right _ (List.mem_of_getElem? (i := 646) (by decide +kernel))) rfl
theorem lk_L_133 : Cond.methodLink RL 133 yX9_fit ∈ rr_tbl := rr_in (List.mem_append_right _ (List.mem_of_getElem? (i := 1108) (by decide +kernel))) rfl
theorem lk_L_134 : Cond.methodLink RL 134 yX8_sheet ∈ rr_tbl := rr_in (List.mem_append_right _ (List.mem_of_getElem? (i := 655) (by decide +kernel))) rfl
theorem lk_L_137 : Cond.methodLink RL 137 yX9_sheet ∈ rr_tbl := rr_in (List.mem_append_right _ (List.mem_of_getElem? (i := 805) (by decide +kernel))) rfl
theorem lk_L_138 : Cond.methodLink RL 138 yX8_lose ∈ rr_tbl := rr_in (List.mem_append_right _ (List.mem_of_getElem? (i := 665) (by decide +kernel))) rfl
theorem lk_L_141 : Cond.methodLink RL 141 yX9_lose ∈ rr_tbl := rr_in (List.mem_append_right _ (List.mem_of_getElem? (i := 821) (by decide +kernel))) rfl
theorem lk_L_142 : Cond.methodLink RL 142 yX8_lay ∈ rr_tbl := rr_in (List.mem_append_right _ (List.mem_of_getElem? (i := 673) (by decide +kernel))) rfl
theorem lk_L_145 : Cond.methodLink RL 145 yX9_lay ∈ rr_tbl := rr_in (List.mem_append_right _ (List.mem_of_getElem? (i := 825) (by decide +kernel))) rfl
theorem lk_L_146 : Cond.methodLink RL 146 yX8_get ∈ rr_tbl := rr_in (List.mem_append_right _ (List.mem_of_getElem? (i := 690) (by decide +kernel))) rfl
theorem lk_L_149 : Cond.methodLink RL 149 yX9_get ∈ rr_tbl := rr_in (List.mem_append_right _ (List.mem_of_getElem? (i := 836) (by decide +kernel))) rfl
theorem lk_L_150 : Cond.methodLink RL 150 yX8_copy ∈ rr_tbl := rr_in (List.mem_append_right _ (List.mem_of_getElem? (i := 696) (by decide +kernel))) rfl
theorem lk_L_153 : Cond.methodLink RL 153 yX9_copy ∈ rr_tbl := rr_in (List.mem_append_right _ (List.mem_of_getElem? (i := 841) (by decide +kernel))) rfl
theorem lk_L_154 : Cond.methodLink RL 154 yX8_write ∈ rr_tbl := rr_in (List.mem_append_right _ (List.mem_of_getElem? (i := 707) (by decide +kernel))) rfl
theorem lk_L_157 : Cond.methodLink RL 157 yX9_write ∈ rr_tbl := rr_in (List.mem_append_right _ (List.mem_of_getElem? (i := 1116) (by decide +kernel))) rfl
theorem lk_L_158 : Cond.methodLink RL 158 yX8_count ∈ rr_tbl := rr_in (List.mem_append_right _ (List.mem_of_getElem? (i := 711) (by decide +kernel))) rfl
theorem lk_L_161 : Cond.methodLink RL 161 yX9_count ∈ rr_tbl := rr_in (List.mem_append_right _ (List.mem_of_getElem? (i := 1120) (by decide +kernel))) rfl
theorem lk_L_162 : Cond.methodLink RL 162 yX8_digest ∈ rr_tbl := rr_in (List.mem_append_right _ (List.mem_of_getElem? (i := 715) (by decide +kernel))) rfl
theorem lk_L_166 : Cond.methodLink RL 166 yX9_digest ∈ rr_tbl := rr_in (List.mem_append_right _ (List.mem_of_getElem? (i := 1124) (by decide +kernel))) rfl
theorem fl_X9_7 : rr_FL RX9 7 9 0 := ⟨RX9, TX9, 19, rfl, inX9, by decide, rr_in (List.mem_append_right _ (List.mem_of_getElem? (i := 746) (by decide +kernel))) rfl⟩
theorem fl_X9_13 : rr_FL RX9 13 9 1 := ⟨RX9, TX9, 19, rfl, inX9, by decide, rr_in (List.mem_append_right _ (List.mem_of_getElem? (i := 747) (by decide +kernel))) rfl⟩
theorem fl_X9_16 : rr_FL RX9 16 9 2 := ⟨RX9, TX9, 19, rfl, inX9, by decide, rr_in (List.mem_append_right _ (List.mem_of_getElem? (i := 748) (by decide +kernel))) rfl⟩
theorem fl_X9_19 : rr_FL RX9 19 9 3 := ⟨RX9, TX9, 19, rfl, inX9, by decide, rr_in (List.mem_append_right _ (List.mem_of_getElem? (i := 749) (by decide +kernel))) rfl⟩
theorem fl_X9_22 : rr_FL RX9 22 9 5 := ⟨RX9, TX9, 19, rfl, inX9, by decide, rr_in (List.mem_append_right _ (List.mem_of_getElem? (i := 751) (by decide +kernel))) rfl⟩
theorem fl_X9_25 : rr_FL RX9 25 9 6 := ⟨RX9, TX9, 19, rfl, inX9, by decide, rr_in (List.mem_append_right _ (List.mem_of_getElem? (i := 752) (by decide +kernel))) rfl⟩
theorem fl_X9_28 : rr_FL RX9 28 9 7 := ⟨RX9, TX9, 19, rfl, inX9, by decide, rr_in (List.mem_append_right _ (List.mem_of_getElem? (i := 753) (by decide +kernel))) rfl⟩
theorem fl_X9_31 : rr_FL RX9 31 9 8 := ⟨RX9, TX9, 19, rfl, inX9, by decide, rr_in (List.mem_append_right _ (List.mem_of_getElem? (i := 754) (by decide +kernel))) rfl⟩
theorem fl_X9_34 : rr_FL RX9 34 9 10 := ⟨RX9, TX9, 19, rfl, inX9, by decide, rr_in (List.mem_append_right _ (List.mem_of_getElem? (i := 756) (by decide +kernel))) rfl⟩
theorem fl_X9_37 : rr_FL RX9 37 9 11 := ⟨RX9, TX9, 19, rfl, inX9, by decide, rr_in (List.mem_append_right _ (List.mem_of_getElem? (i := 757) (by decide +kernel))) rfl⟩
theorem fl_X9_41 : rr_FL RX9 41 9 13 := ⟨RX9, TX9, 19, rfl, inX9, by decide, rr_in (List.mem_append_right _ (List.mem_of_getElem? (i := 759) (by decide +kernel))) rfl⟩
theorem fl_X9_44 : rr_FL RX9 44 9 18 := ⟨RX9, TX9, 19, rfl, inX9, by decide, rr_in (List.mem_append_right _ (List.mem_of_getElem? (i := 764) (by decide +kernel))) rfl⟩
theorem fl_X9_53 : rr_FL RX9 53 9 4 := ⟨RX9, TX9, 19, rfl, inX9, by decide, rr_in (List.mem_append_right _ (List.mem_of_getElem? (i := 750) (by decide +kernel))) rfl⟩
theorem fl_X9_123 : rr_FL RX9 123 9 9 := ⟨RX9, TX9, 19, rfl, inX9, by decide, rr_in (List.mem_append_right _ (List.mem_of_getElem? (i := 755) (by decide +kernel))) rfl⟩
theorem fl_X9_177 : rr_FL RX9 177 9 12 := ⟨RX9, TX9, 19, rfl, inX9, by decide, rr_in (List.mem_append_right _ (List.mem_of_getElem? (i := 758) (by decide +kernel))) rfl⟩
theorem fl_X9_211 : rr_FL RX9 211 9 14 := ⟨RX9, TX9, 19, rfl, inX9, by decide, rr_in (List.mem_append_right _ (List.mem_of_getElem? (i := 760) (by decide +kernel))) rfl⟩
theorem fl_X9_214 : rr_FL RX9 214 9 15 := ⟨RX9, TX9, 19, rfl, inX9, by decide, rr_in (List.mem_append_right _ (List.mem_of_getElem? (i := 761) (by decide +kernel))) rfl⟩
theorem fl_X9_217 : rr_FL RX9 217 9 16 := ⟨RX9, TX9, 19, rfl, inX9, by decide, rr_in (List.mem_append_right _ (List.mem_of_getElem? (i := 762) (by decide +kernel))) rfl⟩
theorem fl_X9_242 : rr_FL RX9 242 9 17 := ⟨RX9, TX9, 19, rfl, inX9, by decide, rr_in (List.mem_append_right _ (List.mem_of_getElem? (i := 763) (by decide +kernel))) rfl⟩
theorem lk_X9_1 : Cond.methodLink RX9 1 objectInit ∈ rr_tbl := rr_in (List.mem_append_right _ (List.mem_of_getElem? (i := 745) (by decide +kernel))) rfl
theorem lk_X9_49 : Cond.methodLink RX9 49 yX9_in ∈ rr_tbl := rr_in (List.mem_append_right _ (List.mem_of_getElem? (i := 813) (by decide +kernel))) rfl
theorem lk_X9_59 : Cond.methodLink RX9 59 yX9_isSheet ∈ rr_tbl := rr_in (List.mem_append_right _ (List.mem_of_getElem? (i := 809) (by decide +kernel))) rfl
theorem lk_X9_73 : Cond.methodLink RX9 73 yX9_cut ∈ rr_tbl := rr_in (List.mem_append_right _ (List.mem_of_getElem? (i := 833) (by decide +kernel))) rfl
theorem lk_X9_80 : Cond.methodLink RX9 80 yX9_isText ∈ rr_tbl := rr_in (List.mem_append_right _ (List.mem_of_getElem? (i := 849) (by decide +kernel))) rfl
theorem lk_X9_105 : Cond.methodLink RX9 105 yX9_isSpring ∈ rr_tbl := rr_in (List.mem_append_right _ (List.mem_of_getElem? (i := 895) (by decide +kernel))) rfl
theorem lk_X9_108 : Cond.methodLink RX9 108 yX9_isDay ∈ rr_tbl := rr_in (List.mem_append_right _ (List.mem_of_getElem? (i := 898) (by decide +kernel))) rfl
theorem lk_X9_116 : Cond.methodLink RX9 116 yX9_most ∈ rr_tbl := rr_in (List.mem_append_right _ (List.mem_of_getElem? (i := 911) (by decide +kernel))) rfl
theorem lk_X9_139 : Cond.methodLink RX9 139 yX9_isIn ∈ rr_tbl := rr_in (List.mem_append_right _ (List.mem_of_getElem? (i := 964) (by decide +kernel))) rfl
theorem lk_X9_142 : Cond.methodLink RX9 142 yX9_isTwo ∈ rr_tbl := rr_in (List.mem_append_right _ (List.mem_of_getElem? (i := 957) (by decide +kernel))) rfl
theorem lk_X9_148 : Cond.methodLink RX9 148 yX9_lesser ∈ rr_tbl := rr_in (List.mem_append_right _ (List.mem_of_getElem? (i := 979) (by decide +kernel))) rfl
theorem lk_X9_181 : Cond.methodLink RX9 181 yX9_no ∈ rr_tbl := rr_in (List.mem_append_right _ (List.mem_of_getElem? (i := 1015) (by decide +kernel))) rfl
theorem lk_X9_188 : Cond.methodLink RX9 188 yX9_part ∈ rr_tbl := rr_in (List.mem_append_right _ (List.mem_of_getElem? (i := 1027) (by decide +kernel))) rfl
theorem lk_X9_65 : Cond.methodLink RX9 65 yX9_met ∈ rr_tbl := rr_in (List.mem_append_right _ (List.mem_of_getElem? (i := 817) (by decide +kernel))) rfl
theorem lk_X9_69 : Cond.methodLink RX9 69 yX9_lacks ∈ rr_tbl := rr_in (List.mem_append_right _ (List.mem_of_getElem? (i := 829) (by decide +kernel))) rfl
theorem lk_X9_89 : Cond.methodLink RX9 89 yX9_faultOf ∈ rr_tbl := rr_in (List.mem_append_right _ (List.mem_of_getElem? (i := 865) (by decide +kernel))) rfl
theorem lk_X9_92 : Cond.methodLink RX9 92 yX9_figures ∈ rr_tbl := rr_in (List.mem_append_right _ (List.mem_of_getElem? (i := 883) (by decide +kernel))) rfl
theorem lk_X9_95 : Cond.methodLink RX9 95 yX9_yards ∈ rr_tbl := rr_in (List.mem_append_right _ (List.mem_of_getElem? (i := 879) (by decide +kernel))) rfl
theorem lk_X9_99 : Cond.methodLink RX9 99 yX9_isYard ∈ rr_tbl := rr_in (List.mem_append_right _ (List.mem_of_getElem? (i := 875) (by decide +kernel))) rfl
theorem lk_X9_102 : Cond.methodLink RX9 102 yX9_heightOf ∈ rr_tbl := rr_in (List.mem_append_right _ (List.mem_of_getElem? (i := 887) (by decide +kernel))) rfl
theorem lk_X9_111 : Cond.methodLink RX9 111 yX9_levelOf ∈ rr_tbl := rr_in (List.mem_append_right _ (List.mem_of_getElem? (i := 902) (by decide +kernel))) rfl
theorem lk_X9_126 : Cond.methodLink RX9 126 yX9_dike ∈ rr_tbl := rr_in (List.mem_append_right _ (List.mem_of_getElem? (i := 928) (by decide +kernel))) rfl
theorem lk_X9_128 : Cond.methodLink RX9 128 yX9_possessionOf ∈ rr_tbl := rr_in (List.mem_append_right _ (List.mem_of_getElem? (i := 937) (by decide +kernel))) rfl
theorem lk_X9_131 : Cond.methodLink RX9 131 yX9_isKept ∈ rr_tbl := rr_in (List.mem_append_right _ (List.mem_of_getElem? (i := 949) (by decide +kernel))) rfl
theorem lk_X9_135 : Cond.methodLink RX9 135 yX9_isWet ∈ rr_tbl := rr_in (List.mem_append_right _ (List.mem_of_getElem? (i := 945) (by decide +kernel))) rfl
theorem lk_X9_145 : Cond.methodLink RX9 145 yX9_waterOf ∈ rr_tbl := rr_in (List.mem_append_right _ (List.mem_of_getElem? (i := 960) (by decide +kernel))) rfl
theorem lk_X9_151 : Cond.methodLink RX9 151 yX9_isWay ∈ rr_tbl := rr_in (List.mem_append_right _ (List.mem_of_getElem? (i := 971) (by decide +kernel))) rfl
theorem lk_X9_155 : Cond.methodLink RX9 155 yX9_costOf ∈ rr_tbl := rr_in (List.mem_append_right _ (List.mem_of_getElem? (i := 975) (by decide +kernel))) rfl
theorem lk_X9_159 : Cond.methodLink RX9 159 yX9_closedOf ∈ rr_tbl := rr_in (List.mem_append_right _ (List.mem_of_getElem? (i := 986) (by decide +kernel))) rfl
theorem lk_X9_162 : Cond.methodLink RX9 162 yX9_deedOf ∈ rr_tbl := rr_in (List.mem_append_right _ (List.mem_of_getElem? (i := 994) (by decide +kernel))) rfl
theorem lk_X9_166 : Cond.methodLink RX9 166 yX9_weight ∈ rr_tbl := rr_in (List.mem_append_right _ (List.mem_of_getElem? (i := 1011) (by decide +kernel))) rfl
theorem lk_X9_170 : Cond.methodLink RX9 170 yX9_alike ∈ rr_tbl := rr_in (List.mem_append_right _ (List.mem_of_getElem? (i := 1007) (by decide +kernel))) rfl
theorem lk_X9_173 : Cond.methodLink RX9 173 yX9_waitingFor ∈ rr_tbl := rr_in (List.mem_append_right _ (List.mem_of_getElem? (i := 1023) (by decide +kernel))) rfl
theorem lk_X9_184 : Cond.methodLink RX9 184 yX9_findWorths ∈ rr_tbl := rr_in (List.mem_append_right _ (List.mem_of_getElem? (i := 1019) (by decide +kernel))) rfl
theorem lk_X9_192 : Cond.methodLink RX9 192 yX9_waitsOf ∈ rr_tbl := rr_in (List.mem_append_right _ (List.mem_of_getElem? (i := 1003) (by decide +kernel))) rfl
theorem lk_X9_196 : Cond.methodLink RX9 196 yX9_goesOf ∈ rr_tbl := rr_in (List.mem_append_right _ (List.mem_of_getElem? (i := 1034) (by decide +kernel))) rfl
theorem lk_X9_200 : Cond.methodLink RX9 200 yX9_dryDays ∈ rr_tbl := rr_in (List.mem_append_right _ (List.mem_of_getElem? (i := 1047) (by decide +kernel))) rfl
theorem lk_X9_205 : Cond.methodLink RX9 205 yX9_keepOf ∈ rr_tbl := rr_in (List.mem_append_right _ (List.mem_of_getElem? (i := 1043) (by decide +kernel))) rfl
theorem lk_X9_221 : Cond.methodLink RX9 221 yX9_areThere ∈ rr_tbl := rr_in (List.mem_append_right _ (List.mem_of_getElem? (i := 1072) (by decide +kernel))) rfl
theorem lk_X9_224 : Cond.methodLink RX9 224 yX9_brings ∈ rr_tbl := rr_in (List.mem_append_right _ (List.mem_of_getElem? (i := 1076) (by decide +kernel))) rfl
theorem lk_X9_227 : Cond.methodLink RX9 227 yX9_findNever ∈ rr_tbl := rr_in (List.mem_append_right _ (List.mem_of_getElem? (i := 1068) (by decide +kernel))) rfl
theorem lk_X9_230 : Cond.methodLink RX9 230 yX9_neverOf ∈ rr_tbl := rr_in (List.mem_append_right _ (List.mem_of_getElem? (i := 1064) (by decide +kernel))) rfl
theorem lk_X9_233 : Cond.methodLink RX9 233 yX9_gainOf ∈ rr_tbl := rr_in (List.mem_append_right _ (List.mem_of_getElem? (i := 1084) (by decide +kernel))) rfl
theorem lk_X9_236 : Cond.methodLink RX9 236 yX9_kinds ∈ rr_tbl := rr_in (List.mem_append_right _ (List.mem_of_getElem? (i := 1096) (by decide +kernel))) rfl
theorem lk_X9_239 : Cond.methodLink RX9 239 yX9_watchNow ∈ rr_tbl := rr_in (List.mem_append_right _ (List.mem_of_getElem? (i := 1092) (by decide +kernel))) rfl
theorem lk_X9_245 : Cond.methodLink RX9 245 yX9_fitNow ∈ rr_tbl := rr_in (List.mem_append_right _ (List.mem_of_getElem? (i := 1112) (by decide +kernel))) rfl
theorem lk_X9_252 : Cond.methodLink RX9 252 yX9_count ∈ rr_tbl := rr_in (List.mem_append_right _ (List.mem_of_getElem? (i := 1130) (by decide +kernel))) rfl
theorem lk_X9_255 : Cond.methodLink RX9 255 yX9_cost ∈ rr_tbl := rr_in (List.mem_append_right _ (List.mem_of_getElem? (i := 1131) (by decide +kernel))) rfl
theorem lk_X9_258 : Cond.methodLink RX9 258 yX9_waits ∈ rr_tbl := rr_in (List.mem_append_right _ (List.mem_of_getElem? (i := 1132) (by decide +kernel))) rfl
theorem lk_X9_261 : Cond.methodLink RX9 261 yX9_goes ∈ rr_tbl := rr_in (List.mem_append_right _ (List.mem_of_getElem? (i := 1133) (by decide +kernel))) rfl
theorem lk_X9_264 : Cond.methodLink RX9 264 yX9_keep ∈ rr_tbl := rr_in (List.mem_append_right _ (List.mem_of_getElem? (i := 1134) (by decide +kernel))) rfl
theorem lk_X9_267 : Cond.methodLink RX9 267 yX9_closed ∈ rr_tbl := rr_in (List.mem_append_right _ (List.mem_of_getElem? (i := 1135) (by decide +kernel))) rfl
theorem lc_X9_77 : Cond.constant RX9 77 (-2147483648) ∈ rr_tbl := rr_in (List.mem_append_right _ (List.mem_of_getElem? (i := 840) (by decide +kernel))) rfl
theorem lc_X9_165 : Cond.constant RX9 165 (-100002) ∈ rr_tbl := rr_in (List.mem_append_right _ (List.mem_of_getElem? (i := 998) (by decide +kernel))) rfl
theorem lc_X9_47 : Cond.constantLong RX9 47 (-9223372036854775808) ∈ rr_tbl := rr_in (List.mem_append_right _ (List.mem_of_getElem? (i := 1018) (by decide +kernel))) rfl
theorem lc_X9_57 : Cond.constantLong RX9 57 (3) ∈ rr_tbl := rr_in (List.mem_append_right _ (List.mem_of_getElem? (i := 812) (by decide +kernel))) rfl
theorem lc_X9_63 : Cond.constantLong RX9 63 (2) ∈ rr_tbl := rr_in (List.mem_append_right _ (List.mem_of_getElem? (i := 816) (by decide +kernel))) rfl
theorem lc_X9_78 : Cond.constantLong RX9 78 (29) ∈ rr_tbl := rr_in (List.mem_append_right _ (List.mem_of_getElem? (i := 901) (by decide +kernel))) rfl
theorem lc_X9_83 : Cond.constantLong RX9 83 (255) ∈ rr_tbl := rr_in (List.mem_append_right _ (List.mem_of_getElem? (i := 852) (by decide +kernel))) rfl
theorem lc_X9_85 : Cond.constantLong RX9 85 (48) ∈ rr_tbl := rr_in (List.mem_append_right _ (List.mem_of_getElem? (i := 869) (by decide +kernel))) rfl
theorem lc_X9_87 : Cond.constantLong RX9 87 (57) ∈ rr_tbl := rr_in (List.mem_append_right _ (List.mem_of_getElem? (i := 870) (by decide +kernel))) rfl
theorem lc_X9_114 : Cond.constantLong RX9 114 (6) ∈ rr_tbl := rr_in (List.mem_append_right _ (List.mem_of_getElem? (i := 910) (by decide +kernel))) rfl
theorem lc_X9_119 : Cond.constantLong RX9 119 (99) ∈ rr_tbl := rr_in (List.mem_append_right _ (List.mem_of_getElem? (i := 918) (by decide +kernel))) rfl
theorem lc_X9_121 : Cond.constantLong RX9 121 (11) ∈ rr_tbl := rr_in (List.mem_append_right _ (List.mem_of_getElem? (i := 923) (by decide +kernel))) rfl
theorem lc_X9_203 : Cond.constantLong RX9 203 (12) ∈ rr_tbl := rr_in (List.mem_append_right _ (List.mem_of_getElem? (i := 1042) (by decide +kernel))) rfl
theorem lc_X9_209 : Cond.constantLong RX9 209 (7) ∈ rr_tbl := rr_in (List.mem_append_right _ (List.mem_of_getElem? (i := 1055) (by decide +kernel))) rfl
theorem lc_X9_248 : Cond.constantLong RX9 248 (17) ∈ rr_tbl := rr_in (List.mem_append_right _ (List.mem_of_getElem? (i := 1128) (by decide +kernel))) rfl
theorem lc_X9_250 : Cond.constantLong RX9 250 (31) ∈ rr_tbl := rr_in (List.mem_append_right _ (List.mem_of_getElem? (i := 1129) (by decide +kernel))) rfl
theorem fp_X9_53 : rr_FP RX9 53 9 4 .int := ⟨RX9, TX9, 19, tyX9, rfl, inX9, tyX9_ok, nmX9, by decide, rr_in (List.mem_append_right _ (List.mem_of_getElem? (i := 750) (by decide +kernel))) rfl, rfl, by decide +kernel⟩
theorem fp_X9_123 : rr_FP RX9 123 9 9 .int := ⟨RX9, TX9, 19, tyX9, rfl, inX9, tyX9_ok, nmX9, by decide, rr_in (List.mem_append_right _ (List.mem_of_getElem? (i := 755) (by decide +kernel))) rfl, rfl, by decide +kernel⟩
theorem fp_X9_177 : rr_FP RX9 177 9 12 .boolean := ⟨RX9, TX9, 19, tyX9, rfl, inX9, tyX9_ok, nmX9, by decide, rr_in (List.mem_append_right _ (List.mem_of_getElem? (i := 758) (by decide +kernel))) rfl, rfl, by decide +kernel⟩
theorem fp_X9_211 : rr_FP RX9 211 9 14 .int := ⟨RX9, TX9, 19, tyX9, rfl, inX9, tyX9_ok, nmX9, by decide, rr_in (List.mem_append_right _ (List.mem_of_getElem? (i := 760) (by decide +kernel))) rfl, rfl, by decide +kernel⟩
theorem fp_X9_214 : rr_FP RX9 214 9 15 .int := ⟨RX9, TX9, 19, tyX9, rfl, inX9, tyX9_ok, nmX9, by decide, rr_in (List.mem_append_right _ (List.mem_of_getElem? (i := 761) (by decide +kernel))) rfl, rfl, by decide +kernel⟩
theorem fp_X9_217 : rr_FP RX9 217 9 16 .long := ⟨RX9, TX9, 19, tyX9, rfl, inX9, tyX9_ok, nmX9, by decide, rr_in (List.mem_append_right _ (List.mem_of_getElem? (i := 762) (by decide +kernel))) rfl, rfl, by decide +kernel⟩
theorem fp_X9_242 : rr_FP RX9 242 9 17 .int := ⟨RX9, TX9, 19, tyX9, rfl, inX9, tyX9_ok, nmX9, by decide, rr_in (List.mem_append_right _ (List.mem_of_getElem? (i := 763) (by decide +kernel))) rfl, rfl, by decide +kernel⟩
theorem lc_J6_265 : Cond.constant RJ6 265 (1431655765) ∈ rr_tbl := rr_in (List.mem_append_right _ (List.mem_of_getElem? (i := 487) (by decide +kernel))) rfl
theorem lc_J6_266 : Cond.constant RJ6 266 (858993459) ∈ rr_tbl := rr_in (List.mem_append_right _ (List.mem_of_getElem? (i := 488) (by decide +kernel))) rfl
theorem lc_J6_267 : Cond.constant RJ6 267 (252645135) ∈ rr_tbl := rr_in (List.mem_append_right _ (List.mem_of_getElem? (i := 489) (by decide +kernel))) rfl
theorem mb_X0_sign : rr_MB yX0_sign cX0_sign 5 none 4 := ⟨rr_in (List.mem_append_right _ (List.mem_of_getElem? (i := 573) (by decide +kernel))) rfl, rr_in (List.mem_append_right _ (List.mem_of_getElem? (i := 6) (by decide +kernel))) rfl, ⟨by decide +kernel, by decide +kernel⟩, by decide +kernel⟩
theorem mi_X0_sign : rr_MI yX0_sign := ⟨rr_in (List.mem_append_right _ (List.mem_of_getElem? (i := 571) (by decide +kernel))) rfl, rr_in (List.mem_append_right _ (List.mem_of_getElem? (i := 572) (by decide +kernel))) rfl⟩
theorem mb_X0_isSigned : rr_MB yX0_isSigned cX0_isSigned 2 (some .boolean) 1 := ⟨rr_in (List.mem_append_right _ (List.mem_of_getElem? (i := 569) (by decide +kernel))) rfl, rr_in (List.mem_append_right _ (List.mem_of_getElem? (i := 6) (by decide +kernel))) rfl, ⟨by decide +kernel, by decide +kernel⟩, by decide +kernel⟩
theorem mi_X0_isSigned : rr_MI yX0_isSigned := ⟨rr_in (List.mem_append_right _ (List.mem_of_getElem? (i := 567) (by decide +kernel))) rfl, rr_in (List.mem_append_right _ (List.mem_of_getElem? (i := 568) (by decide +kernel))) rfl⟩
theorem mb_X0_tearUp : rr_MB yX0_tearUp cX0_tearUp 2 none 1 := ⟨rr_in (List.mem_append_right _ (List.mem_of_getElem? (i := 582) (by decide +kernel))) rfl, rr_in (List.mem_append_right _ (List.mem_of_getElem? (i := 6) (by decide +kernel))) rfl, ⟨by decide +kernel, by decide +kernel⟩, by decide +kernel⟩
theorem mi_X0_tearUp : rr_MI yX0_tearUp := ⟨rr_in (List.mem_append_right _ (List.mem_of_getElem? (i := 580) (by decide +kernel))) rfl, rr_in (List.mem_append_right _ (List.mem_of_getElem? (i := 581) (by decide +kernel))) rfl⟩
theorem mb_X0_reckon : rr_MB yX0_reckon cX0_reckon 3 none 0 := ⟨rr_in (List.mem_append_right _ (List.mem_of_getElem? (i := 590) (by decide +kernel))) rfl, rr_in (List.mem_append_right _ (List.mem_of_getElem? (i := 6) (by decide +kernel))) rfl, ⟨by decide +kernel, by decide +kernel⟩, by decide +kernel⟩
theorem mi_X0_reckon : rr_MI yX0_reckon := ⟨rr_in (List.mem_append_right _ (List.mem_of_getElem? (i := 588) (by decide +kernel))) rfl, rr_in (List.mem_append_right _ (List.mem_of_getElem? (i := 589) (by decide +kernel))) rfl⟩
theorem mb_X0_fillBrought : rr_MB yX0_fillBrought cX0_fillBrought 6 none 1 := ⟨rr_in (List.mem_append_right _ (List.mem_of_getElem? (i := 594) (by decide +kernel))) rfl, rr_in (List.mem_append_right _ (List.mem_of_getElem? (i := 6) (by decide +kernel))) rfl, ⟨by decide +kernel, by decide +kernel⟩, by decide +kernel⟩
theorem mi_X0_fillBrought : rr_MI yX0_fillBrought := ⟨rr_in (List.mem_append_right _ (List.mem_of_getElem? (i := 593) (by decide +kernel))) rfl, rr_in (List.mem_append_left _ (List.mem_of_getElem? (i := 12) (by decide +kernel))) rfl⟩
theorem mb_X0_amountOf : rr_MB yX0_amountOf cX0_amountOf 5 (some .int) 2 := ⟨rr_in (List.mem_append_right _ (List.mem_of_getElem? (i := 598) (by decide +kernel))) rfl, rr_in (List.mem_append_right _ (List.mem_of_getElem? (i := 6) (by decide +kernel))) rfl, ⟨by decide +kernel, by decide +kernel⟩, by decide +kernel⟩
theorem mi_X0_amountOf : rr_MI yX0_amountOf := ⟨rr_in (List.mem_append_right _ (List.mem_of_getElem? (i := 597) (by decide +kernel))) rfl, rr_in (List.mem_append_left _ (List.mem_of_getElem? (i := 13) (by decide +kernel))) rfl⟩
theorem mb_X0_neverLoses : rr_MB yX0_neverLoses cX0_neverLoses 3 (some .boolean) 1 := ⟨rr_in (List.mem_append_right _ (List.mem_of_getElem? (i := 604) (by decide +kernel))) rfl, rr_in (List.mem_append_right _ (List.mem_of_getElem? (i := 6) (by decide +kernel))) rfl, ⟨by decide +kernel, by decide +kernel⟩, by decide +kernel⟩
theorem mi_X0_neverLoses : rr_MI yX0_neverLoses := ⟨rr_in (List.mem_append_right _ (List.mem_of_getElem? (i := 603) (by decide +kernel))) rfl, rr_in (List.mem_append_left _ (List.mem_of_getElem? (i := 14) (by decide +kernel))) rfl⟩
theorem mb_X0_weightedSum : rr_MB yX0_weightedSum cX0_weightedSum 4 (some .int) 1 := ⟨rr_in (List.mem_append_right _ (List.mem_of_getElem? (i := 608) (by decide +kernel))) rfl, rr_in (List.mem_append_right _ (List.mem_of_getElem? (i := 6) (by decide +kernel))) rfl, ⟨by decide +kernel, by decide +kernel⟩, by decide +kernel⟩
theorem mi_X0_weightedSum : rr_MI yX0_weightedSum := ⟨rr_in (List.mem_append_right _ (List.mem_of_getElem? (i := 607) (by decide +kernel))) rfl, rr_in (List.mem_append_left _ (List.mem_of_getElem? (i := 15) (by decide +kernel))) rfl⟩
theorem mb_X1_mayBe : rr_MB yX1_mayBe cX1_mayBe 4 (some .boolean) 3 := ⟨rr_in (List.mem_append_right _ (List.mem_of_getElem? (i := 390) (by decide +kernel))) rfl, rr_in (List.mem_append_right _ (List.mem_of_getElem? (i := 2) (by decide +kernel))) rfl, ⟨by decide +kernel, by decide +kernel⟩, by decide +kernel⟩
theorem mi_X1_mayBe : rr_MI yX1_mayBe := ⟨rr_in (List.mem_append_right _ (List.mem_of_getElem? (i := 388) (by decide +kernel))) rfl, rr_in (List.mem_append_right _ (List.mem_of_getElem? (i := 389) (by decide +kernel))) rfl⟩
theorem mb_X1_isFull : rr_MB yX1_isFull cX1_isFull 1 (some .boolean) 0 := ⟨rr_in (List.mem_append_right _ (List.mem_of_getElem? (i := 395) (by decide +kernel))) rfl, rr_in (List.mem_append_right _ (List.mem_of_getElem? (i := 2) (by decide +kernel))) rfl, ⟨by decide +kernel, by decide +kernel⟩, by decide +kernel⟩
theorem mi_X1_isFull : rr_MI yX1_isFull := ⟨rr_in (List.mem_append_right _ (List.mem_of_getElem? (i := 393) (by decide +kernel))) rfl, rr_in (List.mem_append_right _ (List.mem_of_getElem? (i := 394) (by decide +kernel))) rfl⟩
theorem mb_X1_build : rr_MB yX1_build cX1_build 4 none 3 := ⟨rr_in (List.mem_append_right _ (List.mem_of_getElem? (i := 399) (by decide +kernel))) rfl, rr_in (List.mem_append_right _ (List.mem_of_getElem? (i := 2) (by decide +kernel))) rfl, ⟨by decide +kernel, by decide +kernel⟩, by decide +kernel⟩
theorem mi_X1_build : rr_MI yX1_build := ⟨rr_in (List.mem_append_right _ (List.mem_of_getElem? (i := 397) (by decide +kernel))) rfl, rr_in (List.mem_append_right _ (List.mem_of_getElem? (i := 398) (by decide +kernel))) rfl⟩
theorem mb_X1_dropLast : rr_MB yX1_dropLast cX1_dropLast 1 none 0 := ⟨rr_in (List.mem_append_right _ (List.mem_of_getElem? (i := 431) (by decide +kernel))) rfl, rr_in (List.mem_append_right _ (List.mem_of_getElem? (i := 2) (by decide +kernel))) rfl, ⟨by decide +kernel, by decide +kernel⟩, by decide +kernel⟩
theorem mi_X1_dropLast : rr_MI yX1_dropLast := ⟨rr_in (List.mem_append_right _ (List.mem_of_getElem? (i := 429) (by decide +kernel))) rfl, rr_in (List.mem_append_right _ (List.mem_of_getElem? (i := 430) (by decide +kernel))) rfl⟩
theorem mb_X1_buildFrom : rr_MB yX1_buildFrom cX1_buildFrom 7 (some .int) 1 := ⟨rr_in (List.mem_append_right _ (List.mem_of_getElem? (i := 415) (by decide +kernel))) rfl, rr_in (List.mem_append_right _ (List.mem_of_getElem? (i := 2) (by decide +kernel))) rfl, ⟨by decide +kernel, by decide +kernel⟩, by decide +kernel⟩
theorem mi_X1_buildFrom : rr_MI yX1_buildFrom := ⟨rr_in (List.mem_append_right _ (List.mem_of_getElem? (i := 413) (by decide +kernel))) rfl, rr_in (List.mem_append_right _ (List.mem_of_getElem? (i := 414) (by decide +kernel))) rfl⟩
theorem mb_X1_keptYards : rr_MB yX1_keptYards cX1_keptYards 4 (some .int) 1 := ⟨rr_in (List.mem_append_right _ (List.mem_of_getElem? (i := 349) (by decide +kernel))) rfl, rr_in (List.mem_append_right _ (List.mem_of_getElem? (i := 2) (by decide +kernel))) rfl, ⟨by decide +kernel, by decide +kernel⟩, by decide +kernel⟩
theorem mi_X1_keptYards : rr_MI yX1_keptYards := ⟨rr_in (List.mem_append_right _ (List.mem_of_getElem? (i := 347) (by decide +kernel))) rfl, rr_in (List.mem_append_right _ (List.mem_of_getElem? (i := 348) (by decide +kernel))) rfl⟩
theorem mb_X2_isFull : rr_MB yX2_isFull cX2_isFull 1 (some .boolean) 0 := ⟨rr_in (List.mem_append_right _ (List.mem_of_getElem? (i := 632) (by decide +kernel))) rfl, rr_in (List.mem_append_right _ (List.mem_of_getElem? (i := 7) (by decide +kernel))) rfl, ⟨by decide +kernel, by decide +kernel⟩, by decide +kernel⟩
theorem mi_X2_isFull : rr_MI yX2_isFull := ⟨rr_in (List.mem_append_right _ (List.mem_of_getElem? (i := 630) (by decide +kernel))) rfl, rr_in (List.mem_append_right _ (List.mem_of_getElem? (i := 631) (by decide +kernel))) rfl⟩
theorem mb_X2_learn : rr_MB yX2_learn cX2_learn 4 none 3 := ⟨rr_in (List.mem_append_right _ (List.mem_of_getElem? (i := 636) (by decide +kernel))) rfl, rr_in (List.mem_append_right _ (List.mem_of_getElem? (i := 7) (by decide +kernel))) rfl, ⟨by decide +kernel, by decide +kernel⟩, by decide +kernel⟩
theorem mi_X2_learn : rr_MI yX2_learn := ⟨rr_in (List.mem_append_right _ (List.mem_of_getElem? (i := 634) (by decide +kernel))) rfl, rr_in (List.mem_append_right _ (List.mem_of_getElem? (i := 635) (by decide +kernel))) rfl⟩
theorem mb_X2_clear : rr_MB yX2_clear cX2_clear 1 none 0 := ⟨rr_in (List.mem_append_right _ (List.mem_of_getElem? (i := 645) (by decide +kernel))) rfl, rr_in (List.mem_append_right _ (List.mem_of_getElem? (i := 7) (by decide +kernel))) rfl, ⟨by decide +kernel, by decide +kernel⟩, by decide +kernel⟩
theorem mi_X2_clear : rr_MI yX2_clear := ⟨rr_in (List.mem_append_right _ (List.mem_of_getElem? (i := 643) (by decide +kernel))) rfl, rr_in (List.mem_append_right _ (List.mem_of_getElem? (i := 644) (by decide +kernel))) rfl⟩
theorem mb_X2_comeOutBy : rr_MB yX2_comeOutBy cX2_comeOutBy 6 (some .boolean) 3 := ⟨rr_in (List.mem_append_right _ (List.mem_of_getElem? (i := 653) (by decide +kernel))) rfl, rr_in (List.mem_append_right _ (List.mem_of_getElem? (i := 7) (by decide +kernel))) rfl, ⟨by decide +kernel, by decide +kernel⟩, by decide +kernel⟩
theorem mi_X2_comeOutBy : rr_MI yX2_comeOutBy := ⟨rr_in (List.mem_append_right _ (List.mem_of_getElem? (i := 651) (by decide +kernel))) rfl, rr_in (List.mem_append_right _ (List.mem_of_getElem? (i := 652) (by decide +kernel))) rfl⟩
theorem mb_X3_reckon : rr_MB yX3_reckon cX3_reckon 11 none 5 := ⟨rr_in (List.mem_append_right _ (List.mem_of_getElem? (i := 555) (by decide +kernel))) rfl, rr_in (List.mem_append_right _ (List.mem_of_getElem? (i := 5) (by decide +kernel))) rfl, ⟨by decide +kernel, by decide +kernel⟩, by decide +kernel⟩
theorem mi_X3_reckon : rr_MI yX3_reckon := ⟨rr_in (List.mem_append_right _ (List.mem_of_getElem? (i := 553) (by decide +kernel))) rfl, rr_in (List.mem_append_right _ (List.mem_of_getElem? (i := 554) (by decide +kernel))) rfl⟩
theorem mb_X3_dryDays : rr_MB yX3_dryDays cX3_dryDays 6 (some .int) 3 := ⟨rr_in (List.mem_append_right _ (List.mem_of_getElem? (i := 560) (by decide +kernel))) rfl, rr_in (List.mem_append_right _ (List.mem_of_getElem? (i := 5) (by decide +kernel))) rfl, ⟨by decide +kernel, by decide +kernel⟩, by decide +kernel⟩
theorem mi_X3_dryDays : rr_MI yX3_dryDays := ⟨rr_in (List.mem_append_right _ (List.mem_of_getElem? (i := 559) (by decide +kernel))) rfl, rr_in (List.mem_append_left _ (List.mem_of_getElem? (i := 11) (by decide +kernel))) rfl⟩
theorem mb_X4_isLost : rr_MB yX4_isLost cX4_isLost 1 (some .boolean) 0 := ⟨rr_in (List.mem_append_right _ (List.mem_of_getElem? (i := 407) (by decide +kernel))) rfl, rr_in (List.mem_append_right _ (List.mem_of_getElem? (i := 10) (by decide +kernel))) rfl, ⟨by decide +kernel, by decide +kernel⟩, by decide +kernel⟩
theorem mi_X4_isLost : rr_MI yX4_isLost := ⟨rr_in (List.mem_append_right _ (List.mem_of_getElem? (i := 405) (by decide +kernel))) rfl, rr_in (List.mem_append_right _ (List.mem_of_getElem? (i := 406) (by decide +kernel))) rfl⟩
theorem mb_X4_renew : rr_MB yX4_renew cX4_renew 4 none 2 := ⟨rr_in (List.mem_append_right _ (List.mem_of_getElem? (i := 662) (by decide +kernel))) rfl, rr_in (List.mem_append_right _ (List.mem_of_getElem? (i := 10) (by decide +kernel))) rfl, ⟨by decide +kernel, by decide +kernel⟩, by decide +kernel⟩
theorem mi_X4_renew : rr_MI yX4_renew := ⟨rr_in (List.mem_append_right _ (List.mem_of_getElem? (i := 660) (by decide +kernel))) rfl, rr_in (List.mem_append_right _ (List.mem_of_getElem? (i := 661) (by decide +kernel))) rfl⟩
theorem mb_X4_drop : rr_MB yX4_drop cX4_drop 1 none 0 := ⟨rr_in (List.mem_append_right _ (List.mem_of_getElem? (i := 672) (by decide +kernel))) rfl, rr_in (List.mem_append_right _ (List.mem_of_getElem? (i := 10) (by decide +kernel))) rfl, ⟨by decide +kernel, by decide +kernel⟩, by decide +kernel⟩
theorem mi_X4_drop : rr_MI yX4_drop := ⟨rr_in (List.mem_append_right _ (List.mem_of_getElem? (i := 670) (by decide +kernel))) rfl, rr_in (List.mem_append_right _ (List.mem_of_getElem? (i := 671) (by decide +kernel))) rfl⟩
theorem mb_X4_trouble : rr_MB yX4_trouble cX4_trouble 3 (some .int) 2 := ⟨rr_in (List.mem_append_right _ (List.mem_of_getElem? (i := 680) (by decide +kernel))) rfl, rr_in (List.mem_append_right _ (List.mem_of_getElem? (i := 10) (by decide +kernel))) rfl, ⟨by decide +kernel, by decide +kernel⟩, by decide +kernel⟩
theorem mi_X4_trouble : rr_MI yX4_trouble := ⟨rr_in (List.mem_append_right _ (List.mem_of_getElem? (i := 678) (by decide +kernel))) rfl, rr_in (List.mem_append_right _ (List.mem_of_getElem? (i := 679) (by decide +kernel))) rfl⟩
theorem mb_X4_item : rr_MB yX4_item cX4_item 2 (some .int) 1 := ⟨rr_in (List.mem_append_right _ (List.mem_of_getElem? (i := 419) (by decide +kernel))) rfl, rr_in (List.mem_append_right _ (List.mem_of_getElem? (i := 10) (by decide +kernel))) rfl, ⟨by decide +kernel, by decide +kernel⟩, by decide +kernel⟩
theorem mi_X4_item : rr_MI yX4_item := ⟨rr_in (List.mem_append_right _ (List.mem_of_getElem? (i := 417) (by decide +kernel))) rfl, rr_in (List.mem_append_right _ (List.mem_of_getElem? (i := 418) (by decide +kernel))) rfl⟩
theorem mb_X4_put : rr_MB yX4_put cX4_put 3 none 2 := ⟨rr_in (List.mem_append_right _ (List.mem_of_getElem? (i := 685) (by decide +kernel))) rfl, rr_in (List.mem_append_right _ (List.mem_of_getElem? (i := 10) (by decide +kernel))) rfl, ⟨by decide +kernel, by decide +kernel⟩, by decide +kernel⟩
theorem mi_X4_put : rr_MI yX4_put := ⟨rr_in (List.mem_append_right _ (List.mem_of_getElem? (i := 683) (by decide +kernel))) rfl, rr_in (List.mem_append_right _ (List.mem_of_getElem? (i := 684) (by decide +kernel))) rfl⟩
theorem mb_X4_hasRun : rr_MB yX4_hasRun cX4_hasRun 3 (some .boolean) 2 := ⟨rr_in (List.mem_append_right _ (List.mem_of_getElem? (i := 703) (by decide +kernel))) rfl, rr_in (List.mem_append_right _ (List.mem_of_getElem? (i := 10) (by decide +kernel))) rfl, ⟨by decide +kernel, by decide +kernel⟩, by decide +kernel⟩
theorem mi_X4_hasRun : rr_MI yX4_hasRun := ⟨rr_in (List.mem_append_right _ (List.mem_of_getElem? (i := 701) (by decide +kernel))) rfl, rr_in (List.mem_append_right _ (List.mem_of_getElem? (i := 702) (by decide +kernel))) rfl⟩
theorem mb_X4_cut : rr_MB yX4_cut cX4_cut 2 (some .int) 1 := ⟨rr_in (List.mem_append_right _ (List.mem_of_getElem? (i := 689) (by decide +kernel))) rfl, rr_in (List.mem_append_right _ (List.mem_of_getElem? (i := 10) (by decide +kernel))) rfl, ⟨by decide +kernel, by decide +kernel⟩, by decide +kernel⟩
theorem mi_X4_cut : rr_MI yX4_cut := ⟨rr_in (List.mem_append_right _ (List.mem_of_getElem? (i := 688) (by decide +kernel))) rfl, rr_in (List.mem_append_left _ (List.mem_of_getElem? (i := 18) (by decide +kernel))) rfl⟩
theorem mb_X5_isFull : rr_MB yX5_isFull cX5_isFull 1 (some .boolean) 0 := ⟨rr_in (List.mem_append_right _ (List.mem_of_getElem? (i := 278) (by decide +kernel))) rfl, rr_in (List.mem_append_right _ (List.mem_of_getElem? (i := 8) (by decide +kernel))) rfl, ⟨by decide +kernel, by decide +kernel⟩, by decide +kernel⟩
theorem mi_X5_isFull : rr_MI yX5_isFull := ⟨rr_in (List.mem_append_right _ (List.mem_of_getElem? (i := 276) (by decide +kernel))) rfl, rr_in (List.mem_append_right _ (List.mem_of_getElem? (i := 277) (by decide +kernel))) rfl⟩
theorem mb_X5_append : rr_MB yX5_append cX5_append 2 none 1 := ⟨rr_in (List.mem_append_right _ (List.mem_of_getElem? (i := 282) (by decide +kernel))) rfl, rr_in (List.mem_append_right _ (List.mem_of_getElem? (i := 8) (by decide +kernel))) rfl, ⟨by decide +kernel, by decide +kernel⟩, by decide +kernel⟩
theorem mi_X5_append : rr_MI yX5_append := ⟨rr_in (List.mem_append_right _ (List.mem_of_getElem? (i := 280) (by decide +kernel))) rfl, rr_in (List.mem_append_right _ (List.mem_of_getElem? (i := 281) (by decide +kernel))) rfl⟩
theorem mb_X5_dropLast : rr_MB yX5_dropLast cX5_dropLast 1 none 0 := ⟨rr_in (List.mem_append_right _ (List.mem_of_getElem? (i := 295) (by decide +kernel))) rfl, rr_in (List.mem_append_right _ (List.mem_of_getElem? (i := 8) (by decide +kernel))) rfl, ⟨by decide +kernel, by decide +kernel⟩, by decide +kernel⟩
theorem mi_X5_dropLast : rr_MI yX5_dropLast := ⟨rr_in (List.mem_append_right _ (List.mem_of_getElem? (i := 293) (by decide +kernel))) rfl, rr_in (List.mem_append_right _ (List.mem_of_getElem? (i := 294) (by decide +kernel))) rfl⟩
theorem mb_X5_clear : rr_MB yX5_clear cX5_clear 1 none 0 := ⟨rr_in (List.mem_append_right _ (List.mem_of_getElem? (i := 303) (by decide +kernel))) rfl, rr_in (List.mem_append_right _ (List.mem_of_getElem? (i := 8) (by decide +kernel))) rfl, ⟨by decide +kernel, by decide +kernel⟩, by decide +kernel⟩
theorem mi_X5_clear : rr_MI yX5_clear := ⟨rr_in (List.mem_append_right _ (List.mem_of_getElem? (i := 301) (by decide +kernel))) rfl, rr_in (List.mem_append_right _ (List.mem_of_getElem? (i := 302) (by decide +kernel))) rfl⟩
theorem mb_X5_firstFault : rr_MB yX5_firstFault cX5_firstFault 2 (some .int) 0 := ⟨rr_in (List.mem_append_right _ (List.mem_of_getElem? (i := 311) (by decide +kernel))) rfl, rr_in (List.mem_append_right _ (List.mem_of_getElem? (i := 8) (by decide +kernel))) rfl, ⟨by decide +kernel, by decide +kernel⟩, by decide +kernel⟩
theorem mi_X5_firstFault : rr_MI yX5_firstFault := ⟨rr_in (List.mem_append_right _ (List.mem_of_getElem? (i := 309) (by decide +kernel))) rfl, rr_in (List.mem_append_right _ (List.mem_of_getElem? (i := 310) (by decide +kernel))) rfl⟩
theorem mb_X5_told : rr_MB yX5_told cX5_told 1 (some .int) 0 := ⟨rr_in (List.mem_append_right _ (List.mem_of_getElem? (i := 323) (by decide +kernel))) rfl, rr_in (List.mem_append_right _ (List.mem_of_getElem? (i := 8) (by decide +kernel))) rfl, ⟨by decide +kernel, by decide +kernel⟩, by decide +kernel⟩
theorem mi_X5_told : rr_MI yX5_told := ⟨rr_in (List.mem_append_right _ (List.mem_of_getElem? (i := 321) (by decide +kernel))) rfl, rr_in (List.mem_append_right _ (List.mem_of_getElem? (i := 322) (by decide +kernel))) rfl⟩
theorem mb_X5_figure : rr_MB yX5_figure cX5_figure 2 (some .int) 1 := ⟨rr_in (List.mem_append_right _ (List.mem_of_getElem? (i := 328) (by decide +kernel))) rfl, rr_in (List.mem_append_right _ (List.mem_of_getElem? (i := 8) (by decide +kernel))) rfl, ⟨by decide +kernel, by decide +kernel⟩, by decide +kernel⟩
theorem mi_X5_figure : rr_MI yX5_figure := ⟨rr_in (List.mem_append_right _ (List.mem_of_getElem? (i := 326) (by decide +kernel))) rfl, rr_in (List.mem_append_right _ (List.mem_of_getElem? (i := 327) (by decide +kernel))) rfl⟩
theorem mb_X6_change : rr_MB yX6_change cX6_change 1 none 0 := ⟨rr_in (List.mem_append_right _ (List.mem_of_getElem? (i := 287) (by decide +kernel))) rfl, rr_in (List.mem_append_right _ (List.mem_of_getElem? (i := 3) (by decide +kernel))) rfl, ⟨by decide +kernel, by decide +kernel⟩, by decide +kernel⟩
theorem mi_X6_change : rr_MI yX6_change := ⟨rr_in (List.mem_append_right _ (List.mem_of_getElem? (i := 285) (by decide +kernel))) rfl, rr_in (List.mem_append_right _ (List.mem_of_getElem? (i := 286) (by decide +kernel))) rfl⟩
theorem mb_X6_refresh : rr_MB yX6_refresh cX6_refresh 2 none 0 := ⟨rr_in (List.mem_append_right _ (List.mem_of_getElem? (i := 339) (by decide +kernel))) rfl, rr_in (List.mem_append_right _ (List.mem_of_getElem? (i := 3) (by decide +kernel))) rfl, ⟨by decide +kernel, by decide +kernel⟩, by decide +kernel⟩
theorem mi_X6_refresh : rr_MI yX6_refresh := ⟨rr_in (List.mem_append_right _ (List.mem_of_getElem? (i := 337) (by decide +kernel))) rfl, rr_in (List.mem_append_right _ (List.mem_of_getElem? (i := 338) (by decide +kernel))) rfl⟩
theorem mb_X6_levelOn : rr_MB yX6_levelOn cX6_levelOn 3 (some .int) 2 := ⟨rr_in (List.mem_append_right _ (List.mem_of_getElem? (i := 369) (by decide +kernel))) rfl, rr_in (List.mem_append_right _ (List.mem_of_getElem? (i := 3) (by decide +kernel))) rfl, ⟨by decide +kernel, by decide +kernel⟩, by decide +kernel⟩
theorem mi_X6_levelOn : rr_MI yX6_levelOn := ⟨rr_in (List.mem_append_right _ (List.mem_of_getElem? (i := 367) (by decide +kernel))) rfl, rr_in (List.mem_append_right _ (List.mem_of_getElem? (i := 368) (by decide +kernel))) rfl⟩
theorem mb_X6_lentFrom : rr_MB yX6_lentFrom cX6_lentFrom 2 (some .int) 1 := ⟨rr_in (List.mem_append_right _ (List.mem_of_getElem? (i := 440) (by decide +kernel))) rfl, rr_in (List.mem_append_right _ (List.mem_of_getElem? (i := 3) (by decide +kernel))) rfl, ⟨by decide +kernel, by decide +kernel⟩, by decide +kernel⟩
theorem mi_X6_lentFrom : rr_MI yX6_lentFrom := ⟨rr_in (List.mem_append_right _ (List.mem_of_getElem? (i := 438) (by decide +kernel))) rfl, rr_in (List.mem_append_right _ (List.mem_of_getElem? (i := 439) (by decide +kernel))) rfl⟩
theorem mb_X6_wetYards : rr_MB yX6_wetYards cX6_wetYards 3 (some .int) 2 := ⟨rr_in (List.mem_append_right _ (List.mem_of_getElem? (i := 448) (by decide +kernel))) rfl, rr_in (List.mem_append_right _ (List.mem_of_getElem? (i := 3) (by decide +kernel))) rfl, ⟨by decide +kernel, by decide +kernel⟩, by decide +kernel⟩
theorem mi_X6_wetYards : rr_MI yX6_wetYards := ⟨rr_in (List.mem_append_right _ (List.mem_of_getElem? (i := 446) (by decide +kernel))) rfl, rr_in (List.mem_append_right _ (List.mem_of_getElem? (i := 447) (by decide +kernel))) rfl⟩
theorem mb_X6_closedDays : rr_MB yX6_closedDays cX6_closedDays 5 (some .int) 2 := ⟨rr_in (List.mem_append_right _ (List.mem_of_getElem? (i := 477) (by decide +kernel))) rfl, rr_in (List.mem_append_right _ (List.mem_of_getElem? (i := 3) (by decide +kernel))) rfl, ⟨by decide +kernel, by decide +kernel⟩, by decide +kernel⟩
theorem mi_X6_closedDays : rr_MI yX6_closedDays := ⟨rr_in (List.mem_append_right _ (List.mem_of_getElem? (i := 475) (by decide +kernel))) rfl, rr_in (List.mem_append_right _ (List.mem_of_getElem? (i := 476) (by decide +kernel))) rfl⟩
theorem mb_X6_fillLowYards : rr_MB yX6_fillLowYards cX6_fillLowYards 5 none 0 := ⟨rr_in (List.mem_append_right _ (List.mem_of_getElem? (i := 343) (by decide +kernel))) rfl, rr_in (List.mem_append_right _ (List.mem_of_getElem? (i := 3) (by decide +kernel))) rfl, ⟨by decide +kernel, by decide +kernel⟩, by decide +kernel⟩
theorem mi_X6_fillLowYards : rr_MI yX6_fillLowYards := ⟨rr_in (List.mem_append_right _ (List.mem_of_getElem? (i := 342) (by decide +kernel))) rfl, rr_in (List.mem_append_left _ (List.mem_of_getElem? (i := 1) (by decide +kernel))) rfl⟩
theorem mb_X6_fillLevels : rr_MB yX6_fillLevels cX6_fillLevels 4 none 1 := ⟨rr_in (List.mem_append_right _ (List.mem_of_getElem? (i := 356) (by decide +kernel))) rfl, rr_in (List.mem_append_right _ (List.mem_of_getElem? (i := 3) (by decide +kernel))) rfl, ⟨by decide +kernel, by decide +kernel⟩, by decide +kernel⟩
theorem mi_X6_fillLevels : rr_MI yX6_fillLevels := ⟨rr_in (List.mem_append_right _ (List.mem_of_getElem? (i := 355) (by decide +kernel))) rfl, rr_in (List.mem_append_left _ (List.mem_of_getElem? (i := 2) (by decide +kernel))) rfl⟩
theorem mb_X6_firstThaw : rr_MB yX6_firstThaw cX6_firstThaw 3 (some .int) 1 := ⟨rr_in (List.mem_append_right _ (List.mem_of_getElem? (i := 360) (by decide +kernel))) rfl, rr_in (List.mem_append_right _ (List.mem_of_getElem? (i := 3) (by decide +kernel))) rfl, ⟨by decide +kernel, by decide +kernel⟩, by decide +kernel⟩
theorem mi_X6_firstThaw : rr_MI yX6_firstThaw := ⟨rr_in (List.mem_append_right _ (List.mem_of_getElem? (i := 359) (by decide +kernel))) rfl, rr_in (List.mem_append_left _ (List.mem_of_getElem? (i := 3) (by decide +kernel))) rfl⟩
theorem mb_X6_fillWet : rr_MB yX6_fillWet cX6_fillWet 6 none 1 := ⟨rr_in (List.mem_append_right _ (List.mem_of_getElem? (i := 364) (by decide +kernel))) rfl, rr_in (List.mem_append_right _ (List.mem_of_getElem? (i := 3) (by decide +kernel))) rfl, ⟨by decide +kernel, by decide +kernel⟩, by decide +kernel⟩
theorem mi_X6_fillWet : rr_MI yX6_fillWet := ⟨rr_in (List.mem_append_right _ (List.mem_of_getElem? (i := 363) (by decide +kernel))) rfl, rr_in (List.mem_append_left _ (List.mem_of_getElem? (i := 4) (by decide +kernel))) rfl⟩
theorem mb_X7_reckon : rr_MB yX7_reckon cX7_reckon 6 none 3 := ⟨rr_in (List.mem_append_right _ (List.mem_of_getElem? (i := 498) (by decide +kernel))) rfl, rr_in (List.mem_append_right _ (List.mem_of_getElem? (i := 4) (by decide +kernel))) rfl, ⟨by decide +kernel, by decide +kernel⟩, by decide +kernel⟩
theorem mi_X7_reckon : rr_MI yX7_reckon := ⟨rr_in (List.mem_append_right _ (List.mem_of_getElem? (i := 496) (by decide +kernel))) rfl, rr_in (List.mem_append_right _ (List.mem_of_getElem? (i := 497) (by decide +kernel))) rfl⟩
theorem mb_X7_weightedCost : rr_MB yX7_weightedCost cX7_weightedCost 2 (some .int) 1 := ⟨rr_in (List.mem_append_right _ (List.mem_of_getElem? (i := 533) (by decide +kernel))) rfl, rr_in (List.mem_append_right _ (List.mem_of_getElem? (i := 4) (by decide +kernel))) rfl, ⟨by decide +kernel, by decide +kernel⟩, by decide +kernel⟩
theorem mi_X7_weightedCost : rr_MI yX7_weightedCost := ⟨rr_in (List.mem_append_right _ (List.mem_of_getElem? (i := 531) (by decide +kernel))) rfl, rr_in (List.mem_append_right _ (List.mem_of_getElem? (i := 532) (by decide +kernel))) rfl⟩
theorem mb_X7_isBestAtOnce : rr_MB yX7_isBestAtOnce cX7_isBestAtOnce 2 (some .boolean) 1 := ⟨rr_in (List.mem_append_right _ (List.mem_of_getElem? (i := 547) (by decide +kernel))) rfl, rr_in (List.mem_append_right _ (List.mem_of_getElem? (i := 4) (by decide +kernel))) rfl, ⟨by decide +kernel, by decide +kernel⟩, by decide +kernel⟩
theorem mi_X7_isBestAtOnce : rr_MI yX7_isBestAtOnce := ⟨rr_in (List.mem_append_right _ (List.mem_of_getElem? (i := 545) (by decide +kernel))) rfl, rr_in (List.mem_append_right _ (List.mem_of_getElem? (i := 546) (by decide +kernel))) rfl⟩
theorem mb_X7_weightOf : rr_MB yX7_weightOf cX7_weightOf 3 (some .int) 2 := ⟨rr_in (List.mem_append_right _ (List.mem_of_getElem? (i := 527) (by decide +kernel))) rfl, rr_in (List.mem_append_right _ (List.mem_of_getElem? (i := 4) (by decide +kernel))) rfl, ⟨by decide +kernel, by decide +kernel⟩, by decide +kernel⟩
theorem mi_X7_weightOf : rr_MI yX7_weightOf := ⟨rr_in (List.mem_append_right _ (List.mem_of_getElem? (i := 525) (by decide +kernel))) rfl, rr_in (List.mem_append_right _ (List.mem_of_getElem? (i := 526) (by decide +kernel))) rfl⟩
theorem mb_X7_choose : rr_MB yX7_choose cX7_choose 9 none 4 := ⟨rr_in (List.mem_append_right _ (List.mem_of_getElem? (i := 515) (by decide +kernel))) rfl, rr_in (List.mem_append_right _ (List.mem_of_getElem? (i := 4) (by decide +kernel))) rfl, ⟨by decide +kernel, by decide +kernel⟩, by decide +kernel⟩
theorem mi_X7_choose : rr_MI yX7_choose := ⟨rr_in (List.mem_append_right _ (List.mem_of_getElem? (i := 514) (by decide +kernel))) rfl, rr_in (List.mem_append_left _ (List.mem_of_getElem? (i := 9) (by decide +kernel))) rfl⟩
theorem mb_X7_fillNextCases : rr_MB yX7_fillNextCases cX7_fillNextCases 5 none 1 := ⟨rr_in (List.mem_append_right _ (List.mem_of_getElem? (i := 511) (by decide +kernel))) rfl, rr_in (List.mem_append_right _ (List.mem_of_getElem? (i := 4) (by decide +kernel))) rfl, ⟨by decide +kernel, by decide +kernel⟩, by decide +kernel⟩
theorem mi_X7_fillNextCases : rr_MI yX7_fillNextCases := ⟨rr_in (List.mem_append_right _ (List.mem_of_getElem? (i := 510) (by decide +kernel))) rfl, rr_in (List.mem_append_left _ (List.mem_of_getElem? (i := 8) (by decide +kernel))) rfl⟩
theorem mb_X7_sumOfAlike : rr_MB yX7_sumOfAlike cX7_sumOfAlike 6 (some .int) 3 := ⟨rr_in (List.mem_append_right _ (List.mem_of_getElem? (i := 519) (by decide +kernel))) rfl, rr_in (List.mem_append_right _ (List.mem_of_getElem? (i := 4) (by decide +kernel))) rfl, ⟨by decide +kernel, by decide +kernel⟩, by decide +kernel⟩
theorem mi_X7_sumOfAlike : rr_MI yX7_sumOfAlike := ⟨rr_in (List.mem_append_right _ (List.mem_of_getElem? (i := 518) (by decide +kernel))) rfl, rr_in (List.mem_append_left _ (List.mem_of_getElem? (i := 10) (by decide +kernel))) rfl⟩
theorem mb_X7_fillPartings : rr_MB yX7_fillPartings cX7_fillPartings 4 none 0 := ⟨rr_in (List.mem_append_right _ (List.mem_of_getElem? (i := 502) (by decide +kernel))) rfl, rr_in (List.mem_append_right _ (List.mem_of_getElem? (i := 4) (by decide +kernel))) rfl, ⟨by decide +kernel, by decide +kernel⟩, by decide +kernel⟩
theorem mi_X7_fillPartings : rr_MI yX7_fillPartings := ⟨rr_in (List.mem_append_right _ (List.mem_of_getElem? (i := 501) (by decide +kernel))) rfl, rr_in (List.mem_append_left _ (List.mem_of_getElem? (i := 6) (by decide +kernel))) rfl⟩
theorem mb_X7_parting : rr_MB yX7_parting cX7_parting 4 (some .int) 2 := ⟨rr_in (List.mem_append_right _ (List.mem_of_getElem? (i := 506) (by decide +kernel))) rfl, rr_in (List.mem_append_right _ (List.mem_of_getElem? (i := 4) (by decide +kernel))) rfl, ⟨by decide +kernel, by decide +kernel⟩, by decide +kernel⟩
theorem mi_X7_parting : rr_MI yX7_parting := ⟨rr_in (List.mem_append_right _ (List.mem_of_getElem? (i := 505) (by decide +kernel))) rfl, rr_in (List.mem_append_left _ (List.mem_of_getElem? (i := 7) (by decide +kernel))) rfl⟩
theorem mb_X8_type : rr_MB yX8_type cX8_type 3 (some .int) 2 := ⟨rr_in (List.mem_append_right _ (List.mem_of_getElem? (i := 271) (by decide +kernel))) rfl, rr_in (List.mem_append_right _ (List.mem_of_getElem? (i := 1) (by decide +kernel))) rfl, ⟨by decide +kernel, by decide +kernel⟩, by decide +kernel⟩
theorem mi_X8_type : rr_MI yX8_type := ⟨rr_in (List.mem_append_right _ (List.mem_of_getElem? (i := 269) (by decide +kernel))) rfl, rr_in (List.mem_append_right _ (List.mem_of_getElem? (i := 270) (by decide +kernel))) rfl⟩
theorem mb_X8_undo : rr_MB yX8_undo cX8_undo 2 (some .int) 1 := ⟨rr_in (List.mem_append_right _ (List.mem_of_getElem? (i := 291) (by decide +kernel))) rfl, rr_in (List.mem_append_right _ (List.mem_of_getElem? (i := 1) (by decide +kernel))) rfl, ⟨by decide +kernel, by decide +kernel⟩, by decide +kernel⟩
theorem mi_X8_undo : rr_MI yX8_undo := ⟨rr_in (List.mem_append_right _ (List.mem_of_getElem? (i := 289) (by decide +kernel))) rfl, rr_in (List.mem_append_right _ (List.mem_of_getElem? (i := 290) (by decide +kernel))) rfl⟩
theorem mb_X8_wipe : rr_MB yX8_wipe cX8_wipe 3 (some .int) 1 := ⟨rr_in (List.mem_append_right _ (List.mem_of_getElem? (i := 299) (by decide +kernel))) rfl, rr_in (List.mem_append_right _ (List.mem_of_getElem? (i := 1) (by decide +kernel))) rfl, ⟨by decide +kernel, by decide +kernel⟩, by decide +kernel⟩
theorem mi_X8_wipe : rr_MI yX8_wipe := ⟨rr_in (List.mem_append_right _ (List.mem_of_getElem? (i := 297) (by decide +kernel))) rfl, rr_in (List.mem_append_right _ (List.mem_of_getElem? (i := 298) (by decide +kernel))) rfl⟩
theorem mb_X8_fault : rr_MB yX8_fault cX8_fault 2 (some .int) 1 := ⟨rr_in (List.mem_append_right _ (List.mem_of_getElem? (i := 307) (by decide +kernel))) rfl, rr_in (List.mem_append_right _ (List.mem_of_getElem? (i := 1) (by decide +kernel))) rfl, ⟨by decide +kernel, by decide +kernel⟩, by decide +kernel⟩
theorem mi_X8_fault : rr_MI yX8_fault := ⟨rr_in (List.mem_append_right _ (List.mem_of_getElem? (i := 305) (by decide +kernel))) rfl, rr_in (List.mem_append_right _ (List.mem_of_getElem? (i := 306) (by decide +kernel))) rfl⟩
theorem mb_X8_height : rr_MB yX8_height cX8_height 2 (some .int) 1 := ⟨rr_in (List.mem_append_right _ (List.mem_of_getElem? (i := 315) (by decide +kernel))) rfl, rr_in (List.mem_append_right _ (List.mem_of_getElem? (i := 1) (by decide +kernel))) rfl, ⟨by decide +kernel, by decide +kernel⟩, by decide +kernel⟩
theorem mi_X8_height : rr_MI yX8_height := ⟨rr_in (List.mem_append_right _ (List.mem_of_getElem? (i := 313) (by decide +kernel))) rfl, rr_in (List.mem_append_right _ (List.mem_of_getElem? (i := 314) (by decide +kernel))) rfl⟩
theorem mb_X8_level : rr_MB yX8_level cX8_level 3 (some .int) 2 := ⟨rr_in (List.mem_append_right _ (List.mem_of_getElem? (i := 332) (by decide +kernel))) rfl, rr_in (List.mem_append_right _ (List.mem_of_getElem? (i := 1) (by decide +kernel))) rfl, ⟨by decide +kernel, by decide +kernel⟩, by decide +kernel⟩
theorem mi_X8_level : rr_MI yX8_level := ⟨rr_in (List.mem_append_right _ (List.mem_of_getElem? (i := 330) (by decide +kernel))) rfl, rr_in (List.mem_append_right _ (List.mem_of_getElem? (i := 331) (by decide +kernel))) rfl⟩
theorem mb_X8_set : rr_MB yX8_set cX8_set 4 (some .int) 2 := ⟨rr_in (List.mem_append_right _ (List.mem_of_getElem? (i := 374) (by decide +kernel))) rfl, rr_in (List.mem_append_right _ (List.mem_of_getElem? (i := 1) (by decide +kernel))) rfl, ⟨by decide +kernel, by decide +kernel⟩, by decide +kernel⟩
theorem mi_X8_set : rr_MI yX8_set := ⟨rr_in (List.mem_append_right _ (List.mem_of_getElem? (i := 372) (by decide +kernel))) rfl, rr_in (List.mem_append_right _ (List.mem_of_getElem? (i := 373) (by decide +kernel))) rfl⟩
theorem mb_X8_odds : rr_MB yX8_odds cX8_odds 4 (some .int) 2 := ⟨rr_in (List.mem_append_right _ (List.mem_of_getElem? (i := 382) (by decide +kernel))) rfl, rr_in (List.mem_append_right _ (List.mem_of_getElem? (i := 1) (by decide +kernel))) rfl, ⟨by decide +kernel, by decide +kernel⟩, by decide +kernel⟩
theorem mi_X8_odds : rr_MI yX8_odds := ⟨rr_in (List.mem_append_right _ (List.mem_of_getElem? (i := 380) (by decide +kernel))) rfl, rr_in (List.mem_append_right _ (List.mem_of_getElem? (i := 381) (by decide +kernel))) rfl⟩
theorem mb_X8_dike : rr_MB yX8_dike cX8_dike 4 (some .int) 3 := ⟨rr_in (List.mem_append_right _ (List.mem_of_getElem? (i := 386) (by decide +kernel))) rfl, rr_in (List.mem_append_right _ (List.mem_of_getElem? (i := 1) (by decide +kernel))) rfl, ⟨by decide +kernel, by decide +kernel⟩, by decide +kernel⟩
theorem mi_X8_dike : rr_MI yX8_dike := ⟨rr_in (List.mem_append_right _ (List.mem_of_getElem? (i := 384) (by decide +kernel))) rfl, rr_in (List.mem_append_right _ (List.mem_of_getElem? (i := 385) (by decide +kernel))) rfl⟩
theorem mb_X8_read : rr_MB yX8_read cX8_read 3 (some .int) 1 := ⟨rr_in (List.mem_append_right _ (List.mem_of_getElem? (i := 403) (by decide +kernel))) rfl, rr_in (List.mem_append_right _ (List.mem_of_getElem? (i := 1) (by decide +kernel))) rfl, ⟨by decide +kernel, by decide +kernel⟩, by decide +kernel⟩
theorem mi_X8_read : rr_MI yX8_read := ⟨rr_in (List.mem_append_right _ (List.mem_of_getElem? (i := 401) (by decide +kernel))) rfl, rr_in (List.mem_append_right _ (List.mem_of_getElem? (i := 402) (by decide +kernel))) rfl⟩
theorem mb_X8_breaks : rr_MB yX8_breaks cX8_breaks 1 (some .int) 0 := ⟨rr_in (List.mem_append_right _ (List.mem_of_getElem? (i := 427) (by decide +kernel))) rfl, rr_in (List.mem_append_right _ (List.mem_of_getElem? (i := 1) (by decide +kernel))) rfl, ⟨by decide +kernel, by decide +kernel⟩, by decide +kernel⟩
theorem mi_X8_breaks : rr_MI yX8_breaks := ⟨rr_in (List.mem_append_right _ (List.mem_of_getElem? (i := 425) (by decide +kernel))) rfl, rr_in (List.mem_append_right _ (List.mem_of_getElem? (i := 426) (by decide +kernel))) rfl⟩
theorem mb_X8_possession : rr_MB yX8_possession cX8_possession 2 (some .int) 1 := ⟨rr_in (List.mem_append_right _ (List.mem_of_getElem? (i := 436) (by decide +kernel))) rfl, rr_in (List.mem_append_right _ (List.mem_of_getElem? (i := 1) (by decide +kernel))) rfl, ⟨by decide +kernel, by decide +kernel⟩, by decide +kernel⟩
theorem mi_X8_possession : rr_MI yX8_possession := ⟨rr_in (List.mem_append_right _ (List.mem_of_getElem? (i := 434) (by decide +kernel))) rfl, rr_in (List.mem_append_right _ (List.mem_of_getElem? (i := 435) (by decide +kernel))) rfl⟩
theorem mb_X8_wet : rr_MB yX8_wet cX8_wet 4 (some .int) 3 := ⟨rr_in (List.mem_append_right _ (List.mem_of_getElem? (i := 444) (by decide +kernel))) rfl, rr_in (List.mem_append_right _ (List.mem_of_getElem? (i := 1) (by decide +kernel))) rfl, ⟨by decide +kernel, by decide +kernel⟩, by decide +kernel⟩
theorem mi_X8_wet : rr_MI yX8_wet := ⟨rr_in (List.mem_append_right _ (List.mem_of_getElem? (i := 442) (by decide +kernel))) rfl, rr_in (List.mem_append_right _ (List.mem_of_getElem? (i := 443) (by decide +kernel))) rfl⟩
theorem mb_X8_water : rr_MB yX8_water cX8_water 5 (some .int) 3 := ⟨rr_in (List.mem_append_right _ (List.mem_of_getElem? (i := 452) (by decide +kernel))) rfl, rr_in (List.mem_append_right _ (List.mem_of_getElem? (i := 1) (by decide +kernel))) rfl, ⟨by decide +kernel, by decide +kernel⟩, by decide +kernel⟩
theorem mi_X8_water : rr_MI yX8_water := ⟨rr_in (List.mem_append_right _ (List.mem_of_getElem? (i := 450) (by decide +kernel))) rfl, rr_in (List.mem_append_right _ (List.mem_of_getElem? (i := 451) (by decide +kernel))) rfl⟩
theorem mb_X8_cost : rr_MB yX8_cost cX8_cost 10 (some .int) 5 := ⟨rr_in (List.mem_append_right _ (List.mem_of_getElem? (i := 459) (by decide +kernel))) rfl, rr_in (List.mem_append_right _ (List.mem_of_getElem? (i := 1) (by decide +kernel))) rfl, ⟨by decide +kernel, by decide +kernel⟩, by decide +kernel⟩
theorem mi_X8_cost : rr_MI yX8_cost := ⟨rr_in (List.mem_append_right _ (List.mem_of_getElem? (i := 457) (by decide +kernel))) rfl, rr_in (List.mem_append_right _ (List.mem_of_getElem? (i := 458) (by decide +kernel))) rfl⟩
theorem mb_X8_closed : rr_MB yX8_closed cX8_closed 3 (some .int) 2 := ⟨rr_in (List.mem_append_right _ (List.mem_of_getElem? (i := 473) (by decide +kernel))) rfl, rr_in (List.mem_append_right _ (List.mem_of_getElem? (i := 1) (by decide +kernel))) rfl, ⟨by decide +kernel, by decide +kernel⟩, by decide +kernel⟩
theorem mi_X8_closed : rr_MI yX8_closed := ⟨rr_in (List.mem_append_right _ (List.mem_of_getElem? (i := 471) (by decide +kernel))) rfl, rr_in (List.mem_append_right _ (List.mem_of_getElem? (i := 472) (by decide +kernel))) rfl⟩
theorem mb_X8_deed : rr_MB yX8_deed cX8_deed 7 (some .int) 2 := ⟨rr_in (List.mem_append_right _ (List.mem_of_getElem? (i := 482) (by decide +kernel))) rfl, rr_in (List.mem_append_right _ (List.mem_of_getElem? (i := 1) (by decide +kernel))) rfl, ⟨by decide +kernel, by decide +kernel⟩, by decide +kernel⟩
theorem mi_X8_deed : rr_MI yX8_deed := ⟨rr_in (List.mem_append_right _ (List.mem_of_getElem? (i := 480) (by decide +kernel))) rfl, rr_in (List.mem_append_right _ (List.mem_of_getElem? (i := 481) (by decide +kernel))) rfl⟩
theorem mb_X8_waits : rr_MB yX8_waits cX8_waits 7 (some .long) 5 := ⟨rr_in (List.mem_append_right _ (List.mem_of_getElem? (i := 493) (by decide +kernel))) rfl, rr_in (List.mem_append_right _ (List.mem_of_getElem? (i := 1) (by decide +kernel))) rfl, ⟨by decide +kernel, by decide +kernel⟩, by decide +kernel⟩
theorem mi_X8_waits : rr_MI yX8_waits := ⟨rr_in (List.mem_append_right _ (List.mem_of_getElem? (i := 491) (by decide +kernel))) rfl, rr_in (List.mem_append_right _ (List.mem_of_getElem? (i := 492) (by decide +kernel))) rfl⟩
theorem mb_X8_goes : rr_MB yX8_goes cX8_goes 5 (some .int) 4 := ⟨rr_in (List.mem_append_right _ (List.mem_of_getElem? (i := 543) (by decide +kernel))) rfl, rr_in (List.mem_append_right _ (List.mem_of_getElem? (i := 1) (by decide +kernel))) rfl, ⟨by decide +kernel, by decide +kernel⟩, by decide +kernel⟩
theorem mi_X8_goes : rr_MI yX8_goes := ⟨rr_in (List.mem_append_right _ (List.mem_of_getElem? (i := 541) (by decide +kernel))) rfl, rr_in (List.mem_append_right _ (List.mem_of_getElem? (i := 542) (by decide +kernel))) rfl⟩
theorem mb_X8_keep : rr_MB yX8_keep cX8_keep 7 (some .int) 6 := ⟨rr_in (List.mem_append_right _ (List.mem_of_getElem? (i := 551) (by decide +kernel))) rfl, rr_in (List.mem_append_right _ (List.mem_of_getElem? (i := 1) (by decide +kernel))) rfl, ⟨by decide +kernel, by decide +kernel⟩, by decide +kernel⟩
theorem mi_X8_keep : rr_MI yX8_keep := ⟨rr_in (List.mem_append_right _ (List.mem_of_getElem? (i := 549) (by decide +kernel))) rfl, rr_in (List.mem_append_right _ (List.mem_of_getElem? (i := 550) (by decide +kernel))) rfl⟩
theorem mb_X8_contract : rr_MB yX8_contract cX8_contract 6 (some .int) 4 := ⟨rr_in (List.mem_append_right _ (List.mem_of_getElem? (i := 565) (by decide +kernel))) rfl, rr_in (List.mem_append_right _ (List.mem_of_getElem? (i := 1) (by decide +kernel))) rfl, ⟨by decide +kernel, by decide +kernel⟩, by decide +kernel⟩
theorem mi_X8_contract : rr_MI yX8_contract := ⟨rr_in (List.mem_append_right _ (List.mem_of_getElem? (i := 563) (by decide +kernel))) rfl, rr_in (List.mem_append_right _ (List.mem_of_getElem? (i := 564) (by decide +kernel))) rfl⟩
theorem mb_X8_tears : rr_MB yX8_tears cX8_tears 3 (some .int) 1 := ⟨rr_in (List.mem_append_right _ (List.mem_of_getElem? (i := 578) (by decide +kernel))) rfl, rr_in (List.mem_append_right _ (List.mem_of_getElem? (i := 1) (by decide +kernel))) rfl, ⟨by decide +kernel, by decide +kernel⟩, by decide +kernel⟩
theorem mi_X8_tears : rr_MI yX8_tears := ⟨rr_in (List.mem_append_right _ (List.mem_of_getElem? (i := 576) (by decide +kernel))) rfl, rr_in (List.mem_append_right _ (List.mem_of_getElem? (i := 577) (by decide +kernel))) rfl⟩
theorem mb_X8_never : rr_MB yX8_never cX8_never 2 (some .int) 1 := ⟨rr_in (List.mem_append_right _ (List.mem_of_getElem? (i := 586) (by decide +kernel))) rfl, rr_in (List.mem_append_right _ (List.mem_of_getElem? (i := 1) (by decide +kernel))) rfl, ⟨by decide +kernel, by decide +kernel⟩, by decide +kernel⟩
theorem mi_X8_never : rr_MI yX8_never := ⟨rr_in (List.mem_append_right _ (List.mem_of_getElem? (i := 584) (by decide +kernel))) rfl, rr_in (List.mem_append_right _ (List.mem_of_getElem? (i := 585) (by decide +kernel))) rfl⟩
theorem mb_X8_gain : rr_MB yX8_gain cX8_gain 2 (some .long) 1 := ⟨rr_in (List.mem_append_right _ (List.mem_of_getElem? (i := 612) (by decide +kernel))) rfl, rr_in (List.mem_append_right _ (List.mem_of_getElem? (i := 1) (by decide +kernel))) rfl, ⟨by decide +kernel, by decide +kernel⟩, by decide +kernel⟩
theorem mi_X8_gain : rr_MI yX8_gain := ⟨rr_in (List.mem_append_right _ (List.mem_of_getElem? (i := 610) (by decide +kernel))) rfl, rr_in (List.mem_append_right _ (List.mem_of_getElem? (i := 611) (by decide +kernel))) rfl⟩
theorem mb_X8_watch : rr_MB yX8_watch cX8_watch 5 (some .int) 0 := ⟨rr_in (List.mem_append_right _ (List.mem_of_getElem? (i := 620) (by decide +kernel))) rfl, rr_in (List.mem_append_right _ (List.mem_of_getElem? (i := 1) (by decide +kernel))) rfl, ⟨by decide +kernel, by decide +kernel⟩, by decide +kernel⟩
theorem mi_X8_watch : rr_MI yX8_watch := ⟨rr_in (List.mem_append_right _ (List.mem_of_getElem? (i := 618) (by decide +kernel))) rfl, rr_in (List.mem_append_right _ (List.mem_of_getElem? (i := 619) (by decide +kernel))) rfl⟩
theorem mb_X8_fact : rr_MB yX8_fact cX8_fact 4 (some .int) 3 := ⟨rr_in (List.mem_append_right _ (List.mem_of_getElem? (i := 628) (by decide +kernel))) rfl, rr_in (List.mem_append_right _ (List.mem_of_getElem? (i := 1) (by decide +kernel))) rfl, ⟨by decide +kernel, by decide +kernel⟩, by decide +kernel⟩
theorem mi_X8_fact : rr_MI yX8_fact := ⟨rr_in (List.mem_append_right _ (List.mem_of_getElem? (i := 626) (by decide +kernel))) rfl, rr_in (List.mem_append_right _ (List.mem_of_getElem? (i := 627) (by decide +kernel))) rfl⟩
theorem mb_X8_forget : rr_MB yX8_forget cX8_forget 2 (some .int) 0 := ⟨rr_in (List.mem_append_right _ (List.mem_of_getElem? (i := 641) (by decide +kernel))) rfl, rr_in (List.mem_append_right _ (List.mem_of_getElem? (i := 1) (by decide +kernel))) rfl, ⟨by decide +kernel, by decide +kernel⟩, by decide +kernel⟩
theorem mi_X8_forget : rr_MI yX8_forget := ⟨rr_in (List.mem_append_right _ (List.mem_of_getElem? (i := 639) (by decide +kernel))) rfl, rr_in (List.mem_append_right _ (List.mem_of_getElem? (i := 640) (by decide +kernel))) rfl⟩
theorem mb_X8_fit : rr_MB yX8_fit cX8_fit 4 (some .int) 0 := ⟨rr_in (List.mem_append_right _ (List.mem_of_getElem? (i := 649) (by decide +kernel))) rfl, rr_in (List.mem_append_right _ (List.mem_of_getElem? (i := 1) (by decide +kernel))) rfl, ⟨by decide +kernel, by decide +kernel⟩, by decide +kernel⟩
theorem mi_X8_fit : rr_MI yX8_fit := ⟨rr_in (List.mem_append_right _ (List.mem_of_getElem? (i := 647) (by decide +kernel))) rfl, rr_in (List.mem_append_right _ (List.mem_of_getElem? (i := 648) (by decide +kernel))) rfl⟩
theorem mb_X8_sheet : rr_MB yX8_sheet cX8_sheet 4 (some .int) 3 := ⟨rr_in (List.mem_append_right _ (List.mem_of_getElem? (i := 658) (by decide +kernel))) rfl, rr_in (List.mem_append_right _ (List.mem_of_getElem? (i := 1) (by decide +kernel))) rfl, ⟨by decide +kernel, by decide +kernel⟩, by decide +kernel⟩
theorem mi_X8_sheet : rr_MI yX8_sheet := ⟨rr_in (List.mem_append_right _ (List.mem_of_getElem? (i := 656) (by decide +kernel))) rfl, rr_in (List.mem_append_right _ (List.mem_of_getElem? (i := 657) (by decide +kernel))) rfl⟩
theorem mb_X8_lose : rr_MB yX8_lose cX8_lose 3 (some .int) 1 := ⟨rr_in (List.mem_append_right _ (List.mem_of_getElem? (i := 668) (by decide +kernel))) rfl, rr_in (List.mem_append_right _ (List.mem_of_getElem? (i := 1) (by decide +kernel))) rfl, ⟨by decide +kernel, by decide +kernel⟩, by decide +kernel⟩
theorem mi_X8_lose : rr_MI yX8_lose := ⟨rr_in (List.mem_append_right _ (List.mem_of_getElem? (i := 666) (by decide +kernel))) rfl, rr_in (List.mem_append_right _ (List.mem_of_getElem? (i := 667) (by decide +kernel))) rfl⟩
theorem mb_X8_lay : rr_MB yX8_lay cX8_lay 6 (some .int) 4 := ⟨rr_in (List.mem_append_right _ (List.mem_of_getElem? (i := 676) (by decide +kernel))) rfl, rr_in (List.mem_append_right _ (List.mem_of_getElem? (i := 1) (by decide +kernel))) rfl, ⟨by decide +kernel, by decide +kernel⟩, by decide +kernel⟩
theorem mi_X8_lay : rr_MI yX8_lay := ⟨rr_in (List.mem_append_right _ (List.mem_of_getElem? (i := 674) (by decide +kernel))) rfl, rr_in (List.mem_append_right _ (List.mem_of_getElem? (i := 675) (by decide +kernel))) rfl⟩
theorem mb_X8_get : rr_MB yX8_get cX8_get 5 (some .int) 3 := ⟨rr_in (List.mem_append_right _ (List.mem_of_getElem? (i := 693) (by decide +kernel))) rfl, rr_in (List.mem_append_right _ (List.mem_of_getElem? (i := 1) (by decide +kernel))) rfl, ⟨by decide +kernel, by decide +kernel⟩, by decide +kernel⟩
theorem mi_X8_get : rr_MI yX8_get := ⟨rr_in (List.mem_append_right _ (List.mem_of_getElem? (i := 691) (by decide +kernel))) rfl, rr_in (List.mem_append_right _ (List.mem_of_getElem? (i := 692) (by decide +kernel))) rfl⟩
theorem mb_X8_copy : rr_MB yX8_copy cX8_copy 6 (some .int) 5 := ⟨rr_in (List.mem_append_right _ (List.mem_of_getElem? (i := 699) (by decide +kernel))) rfl, rr_in (List.mem_append_right _ (List.mem_of_getElem? (i := 1) (by decide +kernel))) rfl, ⟨by decide +kernel, by decide +kernel⟩, by decide +kernel⟩
theorem mi_X8_copy : rr_MI yX8_copy := ⟨rr_in (List.mem_append_right _ (List.mem_of_getElem? (i := 697) (by decide +kernel))) rfl, rr_in (List.mem_append_right _ (List.mem_of_getElem? (i := 698) (by decide +kernel))) rfl⟩
theorem mb_X8_write : rr_MB yX8_write cX8_write 5 (some .int) 2 := ⟨rr_in (List.mem_append_right _ (List.mem_of_getElem? (i := 710) (by decide +kernel))) rfl, rr_in (List.mem_append_right _ (List.mem_of_getElem? (i := 1) (by decide +kernel))) rfl, ⟨by decide +kernel, by decide +kernel⟩, by decide +kernel⟩
theorem mi_X8_write : rr_MI yX8_write := ⟨rr_in (List.mem_append_right _ (List.mem_of_getElem? (i := 708) (by decide +kernel))) rfl, rr_in (List.mem_append_right _ (List.mem_of_getElem? (i := 709) (by decide +kernel))) rfl⟩
theorem mb_X8_count : rr_MB yX8_count cX8_count 2 (some .int) 1 := ⟨rr_in (List.mem_append_right _ (List.mem_of_getElem? (i := 714) (by decide +kernel))) rfl, rr_in (List.mem_append_right _ (List.mem_of_getElem? (i := 1) (by decide +kernel))) rfl, ⟨by decide +kernel, by decide +kernel⟩, by decide +kernel⟩
theorem mi_X8_count : rr_MI yX8_count := ⟨rr_in (List.mem_append_right _ (List.mem_of_getElem? (i := 712) (by decide +kernel))) rfl, rr_in (List.mem_append_right _ (List.mem_of_getElem? (i := 713) (by decide +kernel))) rfl⟩
theorem mb_X8_digest : rr_MB yX8_digest cX8_digest 5 (some .long) 0 := ⟨rr_in (List.mem_append_right _ (List.mem_of_getElem? (i := 718) (by decide +kernel))) rfl, rr_in (List.mem_append_right _ (List.mem_of_getElem? (i := 1) (by decide +kernel))) rfl, ⟨by decide +kernel, by decide +kernel⟩, by decide +kernel⟩
theorem mi_X8_digest : rr_MI yX8_digest := ⟨rr_in (List.mem_append_right _ (List.mem_of_getElem? (i := 716) (by decide +kernel))) rfl, rr_in (List.mem_append_right _ (List.mem_of_getElem? (i := 717) (by decide +kernel))) rfl⟩
theorem mb_X8_digestSpring : rr_MB yX8_digestSpring cX8_digestSpring 7 (some .long) 2 := ⟨rr_in (List.mem_append_right _ (List.mem_of_getElem? (i := 727) (by decide +kernel))) rfl, rr_in (List.mem_append_right _ (List.mem_of_getElem? (i := 1) (by decide +kernel))) rfl, ⟨by decide +kernel, by decide +kernel⟩, by decide +kernel⟩
theorem mi_X8_digestSpring : rr_MI yX8_digestSpring := ⟨rr_in (List.mem_append_right _ (List.mem_of_getElem? (i := 726) (by decide +kernel))) rfl, rr_in (List.mem_append_left _ (List.mem_of_getElem? (i := 19) (by decide +kernel))) rfl⟩
theorem mb_X8_find : rr_MB yX8_find cX8_find 2 (some .int) 1 := ⟨rr_in (List.mem_append_right _ (List.mem_of_getElem? (i := 411) (by decide +kernel))) rfl, rr_in (List.mem_append_right _ (List.mem_of_getElem? (i := 1) (by decide +kernel))) rfl, ⟨by decide +kernel, by decide +kernel⟩, by decide +kernel⟩
theorem mi_X8_find : rr_MI yX8_find := ⟨rr_in (List.mem_append_right _ (List.mem_of_getElem? (i := 410) (by decide +kernel))) rfl, rr_in (List.mem_append_left _ (List.mem_of_getElem? (i := 5) (by decide +kernel))) rfl⟩
theorem mb_X8_isYard : rr_MB yX8_isYard cX8_isYard 2 (some .boolean) 1 := ⟨rr_in (List.mem_append_right _ (List.mem_of_getElem? (i := 319) (by decide +kernel))) rfl, rr_in (List.mem_append_right _ (List.mem_of_getElem? (i := 1) (by decide +kernel))) rfl, ⟨by decide +kernel, by decide +kernel⟩, by decide +kernel⟩
theorem mi_X8_isYard : rr_MI yX8_isYard := ⟨rr_in (List.mem_append_right _ (List.mem_of_getElem? (i := 318) (by decide +kernel))) rfl, rr_in (List.mem_append_left _ (List.mem_of_getElem? (i := 0) (by decide +kernel))) rfl⟩
theorem mb_X8_isSpringDay : rr_MB yX8_isSpringDay cX8_isSpringDay 2 (some .boolean) 2 := ⟨rr_in (List.mem_append_right _ (List.mem_of_getElem? (i := 335) (by decide +kernel))) rfl, rr_in (List.mem_append_right _ (List.mem_of_getElem? (i := 1) (by decide +kernel))) rfl, ⟨by decide +kernel, by decide +kernel⟩, by decide +kernel⟩
theorem ms_X8_isSpringDay : Cond.static yX8_isSpringDay ∈ rr_tbl := rr_in (List.mem_append_right _ (List.mem_of_getElem? (i := 334) (by decide +kernel))) rfl
theorem mb_X8_allChances : rr_MB yX8_allChances cX8_allChances 3 (some .int) 0 := ⟨rr_in (List.mem_append_right _ (List.mem_of_getElem? (i := 616) (by decide +kernel))) rfl, rr_in (List.mem_append_right _ (List.mem_of_getElem? (i := 1) (by decide +kernel))) rfl, ⟨by decide +kernel, by decide +kernel⟩, by decide +kernel⟩
theorem mi_X8_allChances : rr_MI yX8_allChances := ⟨rr_in (List.mem_append_right _ (List.mem_of_getElem? (i := 615) (by decide +kernel))) rfl, rr_in (List.mem_append_left _ (List.mem_of_getElem? (i := 16) (by decide +kernel))) rfl⟩
theorem mb_X8_levelKinds : rr_MB yX8_levelKinds cX8_levelKinds 4 (some .int) 1 := ⟨rr_in (List.mem_append_right _ (List.mem_of_getElem? (i := 624) (by decide +kernel))) rfl, rr_in (List.mem_append_right _ (List.mem_of_getElem? (i := 1) (by decide +kernel))) rfl, ⟨by decide +kernel, by decide +kernel⟩, by decide +kernel⟩
theorem mi_X8_levelKinds : rr_MI yX8_levelKinds := ⟨rr_in (List.mem_append_right _ (List.mem_of_getElem? (i := 623) (by decide +kernel))) rfl, rr_in (List.mem_append_left _ (List.mem_of_getElem? (i := 17) (by decide +kernel))) rfl⟩
theorem mb_X8_inside : rr_MB yX8_inside cX8_inside 2 (some .boolean) 2 := ⟨rr_in (List.mem_append_right _ (List.mem_of_getElem? (i := 274) (by decide +kernel))) rfl, rr_in (List.mem_append_right _ (List.mem_of_getElem? (i := 1) (by decide +kernel))) rfl, ⟨by decide +kernel, by decide +kernel⟩, by decide +kernel⟩
theorem ms_X8_inside : Cond.static yX8_inside ∈ rr_tbl := rr_in (List.mem_append_right _ (List.mem_of_getElem? (i := 273) (by decide +kernel))) rfl
theorem mb_X8_yardBits : rr_MB yX8_yardBits cX8_yardBits 2 (some .int) 2 := ⟨rr_in (List.mem_append_right _ (List.mem_of_getElem? (i := 352) (by decide +kernel))) rfl, rr_in (List.mem_append_right _ (List.mem_of_getElem? (i := 1) (by decide +kernel))) rfl, ⟨by decide +kernel, by decide +kernel⟩, by decide +kernel⟩
theorem ms_X8_yardBits : Cond.static yX8_yardBits ∈ rr_tbl := rr_in (List.mem_append_right _ (List.mem_of_getElem? (i := 351) (by decide +kernel))) rfl
theorem mb_X8_islands : rr_MB yX8_islands cX8_islands 1 (some .int) 1 := ⟨rr_in (List.mem_append_right _ (List.mem_of_getElem? (i := 455) (by decide +kernel))) rfl, rr_in (List.mem_append_right _ (List.mem_of_getElem? (i := 1) (by decide +kernel))) rfl, ⟨by decide +kernel, by decide +kernel⟩, by decide +kernel⟩
theorem ms_X8_islands : Cond.static yX8_islands ∈ rr_tbl := rr_in (List.mem_append_right _ (List.mem_of_getElem? (i := 454) (by decide +kernel))) rfl
theorem mb_X8_roadCost : rr_MB yX8_roadCost cX8_roadCost 8 (some .int) 4 := ⟨rr_in (List.mem_append_right _ (List.mem_of_getElem? (i := 466) (by decide +kernel))) rfl, rr_in (List.mem_append_right _ (List.mem_of_getElem? (i := 1) (by decide +kernel))) rfl, ⟨by decide +kernel, by decide +kernel⟩, by decide +kernel⟩
theorem ms_X8_roadCost : Cond.static yX8_roadCost ∈ rr_tbl := rr_in (List.mem_append_right _ (List.mem_of_getElem? (i := 465) (by decide +kernel))) rfl
theorem mb_X8_ridgeCost : rr_MB yX8_ridgeCost cX8_ridgeCost 3 (some .int) 3 := ⟨rr_in (List.mem_append_right _ (List.mem_of_getElem? (i := 469) (by decide +kernel))) rfl, rr_in (List.mem_append_right _ (List.mem_of_getElem? (i := 1) (by decide +kernel))) rfl, ⟨by decide +kernel, by decide +kernel⟩, by decide +kernel⟩
theorem ms_X8_ridgeCost : Cond.static yX8_ridgeCost ∈ rr_tbl := rr_in (List.mem_append_right _ (List.mem_of_getElem? (i := 468) (by decide +kernel))) rfl
theorem mb_X8_fractionPart : rr_MB yX8_fractionPart cX8_fractionPart 4 (some .long) 3 := ⟨rr_in (List.mem_append_right _ (List.mem_of_getElem? (i := 536) (by decide +kernel))) rfl, rr_in (List.mem_append_right _ (List.mem_of_getElem? (i := 1) (by decide +kernel))) rfl, ⟨by decide +kernel, by decide +kernel⟩, by decide +kernel⟩
theorem ms_X8_fractionPart : Cond.static yX8_fractionPart ∈ rr_tbl := rr_in (List.mem_append_right _ (List.mem_of_getElem? (i := 535) (by decide +kernel))) rfl
theorem mb_X8_commonDivisor : rr_MB yX8_commonDivisor cX8_commonDivisor 6 (some .int) 2 := ⟨rr_in (List.mem_append_right _ (List.mem_of_getElem? (i := 539) (by decide +kernel))) rfl, rr_in (List.mem_append_right _ (List.mem_of_getElem? (i := 1) (by decide +kernel))) rfl, ⟨by decide +kernel, by decide +kernel⟩, by decide +kernel⟩
theorem ms_X8_commonDivisor : Cond.static yX8_commonDivisor ∈ rr_tbl := rr_in (List.mem_append_right _ (List.mem_of_getElem? (i := 538) (by decide +kernel))) rfl
theorem mb_X9_in : rr_MB yX9_in cX9_in 6 (some .boolean) 3 := ⟨rr_in (List.mem_append_right _ (List.mem_of_getElem? (i := 815) (by decide +kernel))) rfl, rr_in (List.mem_append_right _ (List.mem_of_getElem? (i := 11) (by decide +kernel))) rfl, ⟨by decide +kernel, by decide +kernel⟩, by decide +kernel⟩
theorem ms_X9_in : Cond.static yX9_in ∈ rr_tbl := rr_in (List.mem_append_right _ (List.mem_of_getElem? (i := 814) (by decide +kernel))) rfl
theorem mb_X9_no : rr_MB yX9_no cX9_no 1 (some .long) 1 := ⟨rr_in (List.mem_append_right _ (List.mem_of_getElem? (i := 1017) (by decide +kernel))) rfl, rr_in (List.mem_append_right _ (List.mem_of_getElem? (i := 11) (by decide +kernel))) rfl, ⟨by decide +kernel, by decide +kernel⟩, by decide +kernel⟩
theorem ms_X9_no : Cond.static yX9_no ∈ rr_tbl := rr_in (List.mem_append_right _ (List.mem_of_getElem? (i := 1016) (by decide +kernel))) rfl
theorem mb_X9_isTwo : rr_MB yX9_isTwo cX9_isTwo 1 (some .boolean) 1 := ⟨rr_in (List.mem_append_right _ (List.mem_of_getElem? (i := 959) (by decide +kernel))) rfl, rr_in (List.mem_append_right _ (List.mem_of_getElem? (i := 11) (by decide +kernel))) rfl, ⟨by decide +kernel, by decide +kernel⟩, by decide +kernel⟩
theorem ms_X9_isTwo : Cond.static yX9_isTwo ∈ rr_tbl := rr_in (List.mem_append_right _ (List.mem_of_getElem? (i := 958) (by decide +kernel))) rfl
theorem mb_X9_isIn : rr_MB yX9_isIn cX9_isIn 2 (some .boolean) 2 := ⟨rr_in (List.mem_append_right _ (List.mem_of_getElem? (i := 966) (by decide +kernel))) rfl, rr_in (List.mem_append_right _ (List.mem_of_getElem? (i := 11) (by decide +kernel))) rfl, ⟨by decide +kernel, by decide +kernel⟩, by decide +kernel⟩
theorem ms_X9_isIn : Cond.static yX9_isIn ∈ rr_tbl := rr_in (List.mem_append_right _ (List.mem_of_getElem? (i := 965) (by decide +kernel))) rfl
theorem mb_X9_met : rr_MB yX9_met cX9_met 2 (some .int) 1 := ⟨rr_in (List.mem_append_right _ (List.mem_of_getElem? (i := 820) (by decide +kernel))) rfl, rr_in (List.mem_append_right _ (List.mem_of_getElem? (i := 11) (by decide +kernel))) rfl, ⟨by decide +kernel, by decide +kernel⟩, by decide +kernel⟩
theorem mi_X9_met : rr_MI yX9_met := ⟨rr_in (List.mem_append_right _ (List.mem_of_getElem? (i := 819) (by decide +kernel))) rfl, rr_in (List.mem_append_left _ (List.mem_of_getElem? (i := 20) (by decide +kernel))) rfl⟩
theorem mb_X9_isSheet : rr_MB yX9_isSheet cX9_isSheet 1 (some .boolean) 1 := ⟨rr_in (List.mem_append_right _ (List.mem_of_getElem? (i := 811) (by decide +kernel))) rfl, rr_in (List.mem_append_right _ (List.mem_of_getElem? (i := 11) (by decide +kernel))) rfl, ⟨by decide +kernel, by decide +kernel⟩, by decide +kernel⟩
theorem ms_X9_isSheet : Cond.static yX9_isSheet ∈ rr_tbl := rr_in (List.mem_append_right _ (List.mem_of_getElem? (i := 810) (by decide +kernel))) rfl
theorem mb_X9_sheet : rr_MB yX9_sheet cX9_sheet 5 (some .int) 3 := ⟨rr_in (List.mem_append_right _ (List.mem_of_getElem? (i := 808) (by decide +kernel))) rfl, rr_in (List.mem_append_right _ (List.mem_of_getElem? (i := 11) (by decide +kernel))) rfl, ⟨by decide +kernel, by decide +kernel⟩, by decide +kernel⟩
theorem mi_X9_sheet : rr_MI yX9_sheet := ⟨rr_in (List.mem_append_right _ (List.mem_of_getElem? (i := 806) (by decide +kernel))) rfl, rr_in (List.mem_append_right _ (List.mem_of_getElem? (i := 807) (by decide +kernel))) rfl⟩
theorem mb_X9_lose : rr_MB yX9_lose cX9_lose 2 (some .int) 1 := ⟨rr_in (List.mem_append_right _ (List.mem_of_getElem? (i := 824) (by decide +kernel))) rfl, rr_in (List.mem_append_right _ (List.mem_of_getElem? (i := 11) (by decide +kernel))) rfl, ⟨by decide +kernel, by decide +kernel⟩, by decide +kernel⟩
theorem mi_X9_lose : rr_MI yX9_lose := ⟨rr_in (List.mem_append_right _ (List.mem_of_getElem? (i := 822) (by decide +kernel))) rfl, rr_in (List.mem_append_right _ (List.mem_of_getElem? (i := 823) (by decide +kernel))) rfl⟩
theorem mb_X9_lacks : rr_MB yX9_lacks cX9_lacks 4 (some .int) 3 := ⟨rr_in (List.mem_append_right _ (List.mem_of_getElem? (i := 832) (by decide +kernel))) rfl, rr_in (List.mem_append_right _ (List.mem_of_getElem? (i := 11) (by decide +kernel))) rfl, ⟨by decide +kernel, by decide +kernel⟩, by decide +kernel⟩
theorem mi_X9_lacks : rr_MI yX9_lacks := ⟨rr_in (List.mem_append_right _ (List.mem_of_getElem? (i := 831) (by decide +kernel))) rfl, rr_in (List.mem_append_left _ (List.mem_of_getElem? (i := 21) (by decide +kernel))) rfl⟩
theorem mb_X9_cut : rr_MB yX9_cut cX9_cut 2 (some .int) 2 := ⟨rr_in (List.mem_append_right _ (List.mem_of_getElem? (i := 835) (by decide +kernel))) rfl, rr_in (List.mem_append_right _ (List.mem_of_getElem? (i := 11) (by decide +kernel))) rfl, ⟨by decide +kernel, by decide +kernel⟩, by decide +kernel⟩
theorem ms_X9_cut : Cond.static yX9_cut ∈ rr_tbl := rr_in (List.mem_append_right _ (List.mem_of_getElem? (i := 834) (by decide +kernel))) rfl
theorem mb_X9_lay : rr_MB yX9_lay cX9_lay 6 (some .int) 4 := ⟨rr_in (List.mem_append_right _ (List.mem_of_getElem? (i := 828) (by decide +kernel))) rfl, rr_in (List.mem_append_right _ (List.mem_of_getElem? (i := 11) (by decide +kernel))) rfl, ⟨by decide +kernel, by decide +kernel⟩, by decide +kernel⟩
theorem mi_X9_lay : rr_MI yX9_lay := ⟨rr_in (List.mem_append_right _ (List.mem_of_getElem? (i := 826) (by decide +kernel))) rfl, rr_in (List.mem_append_right _ (List.mem_of_getElem? (i := 827) (by decide +kernel))) rfl⟩
theorem mb_X9_get : rr_MB yX9_get cX9_get 4 (some .int) 3 := ⟨rr_in (List.mem_append_right _ (List.mem_of_getElem? (i := 839) (by decide +kernel))) rfl, rr_in (List.mem_append_right _ (List.mem_of_getElem? (i := 11) (by decide +kernel))) rfl, ⟨by decide +kernel, by decide +kernel⟩, by decide +kernel⟩
theorem mi_X9_get : rr_MI yX9_get := ⟨rr_in (List.mem_append_right _ (List.mem_of_getElem? (i := 837) (by decide +kernel))) rfl, rr_in (List.mem_append_right _ (List.mem_of_getElem? (i := 838) (by decide +kernel))) rfl⟩
theorem mb_X9_copy : rr_MB yX9_copy cX9_copy 7 (some .int) 5 := ⟨rr_in (List.mem_append_right _ (List.mem_of_getElem? (i := 844) (by decide +kernel))) rfl, rr_in (List.mem_append_right _ (List.mem_of_getElem? (i := 11) (by decide +kernel))) rfl, ⟨by decide +kernel, by decide +kernel⟩, by decide +kernel⟩
theorem mi_X9_copy : rr_MI yX9_copy := ⟨rr_in (List.mem_append_right _ (List.mem_of_getElem? (i := 842) (by decide +kernel))) rfl, rr_in (List.mem_append_right _ (List.mem_of_getElem? (i := 843) (by decide +kernel))) rfl⟩
theorem mb_X9_isText : rr_MB yX9_isText cX9_isText 1 (some .boolean) 1 := ⟨rr_in (List.mem_append_right _ (List.mem_of_getElem? (i := 851) (by decide +kernel))) rfl, rr_in (List.mem_append_right _ (List.mem_of_getElem? (i := 11) (by decide +kernel))) rfl, ⟨by decide +kernel, by decide +kernel⟩, by decide +kernel⟩
theorem ms_X9_isText : Cond.static yX9_isText ∈ rr_tbl := rr_in (List.mem_append_right _ (List.mem_of_getElem? (i := 850) (by decide +kernel))) rfl
theorem mb_X9_isSpring : rr_MB yX9_isSpring cX9_isSpring 1 (some .boolean) 1 := ⟨rr_in (List.mem_append_right _ (List.mem_of_getElem? (i := 897) (by decide +kernel))) rfl, rr_in (List.mem_append_right _ (List.mem_of_getElem? (i := 11) (by decide +kernel))) rfl, ⟨by decide +kernel, by decide +kernel⟩, by decide +kernel⟩
theorem ms_X9_isSpring : Cond.static yX9_isSpring ∈ rr_tbl := rr_in (List.mem_append_right _ (List.mem_of_getElem? (i := 896) (by decide +kernel))) rfl
theorem mb_X9_isDay : rr_MB yX9_isDay cX9_isDay 1 (some .boolean) 1 := ⟨rr_in (List.mem_append_right _ (List.mem_of_getElem? (i := 900) (by decide +kernel))) rfl, rr_in (List.mem_append_right _ (List.mem_of_getElem? (i := 11) (by decide +kernel))) rfl, ⟨by decide +kernel, by decide +kernel⟩, by decide +kernel⟩
theorem ms_X9_isDay : Cond.static yX9_isDay ∈ rr_tbl := rr_in (List.mem_append_right _ (List.mem_of_getElem? (i := 899) (by decide +kernel))) rfl
theorem mb_X9_type : rr_MB yX9_type cX9_type 3 (some .int) 2 := ⟨rr_in (List.mem_append_right _ (List.mem_of_getElem? (i := 848) (by decide +kernel))) rfl, rr_in (List.mem_append_right _ (List.mem_of_getElem? (i := 11) (by decide +kernel))) rfl, ⟨by decide +kernel, by decide +kernel⟩, by decide +kernel⟩
theorem mi_X9_type : rr_MI yX9_type := ⟨rr_in (List.mem_append_right _ (List.mem_of_getElem? (i := 846) (by decide +kernel))) rfl, rr_in (List.mem_append_right _ (List.mem_of_getElem? (i := 847) (by decide +kernel))) rfl⟩
theorem mb_X9_undo : rr_MB yX9_undo cX9_undo 2 (some .int) 1 := ⟨rr_in (List.mem_append_right _ (List.mem_of_getElem? (i := 856) (by decide +kernel))) rfl, rr_in (List.mem_append_right _ (List.mem_of_getElem? (i := 11) (by decide +kernel))) rfl, ⟨by decide +kernel, by decide +kernel⟩, by decide +kernel⟩
theorem mi_X9_undo : rr_MI yX9_undo := ⟨rr_in (List.mem_append_right _ (List.mem_of_getElem? (i := 854) (by decide +kernel))) rfl, rr_in (List.mem_append_right _ (List.mem_of_getElem? (i := 855) (by decide +kernel))) rfl⟩
theorem mb_X9_wipe : rr_MB yX9_wipe cX9_wipe 3 (some .int) 1 := ⟨rr_in (List.mem_append_right _ (List.mem_of_getElem? (i := 860) (by decide +kernel))) rfl, rr_in (List.mem_append_right _ (List.mem_of_getElem? (i := 11) (by decide +kernel))) rfl, ⟨by decide +kernel, by decide +kernel⟩, by decide +kernel⟩
theorem mi_X9_wipe : rr_MI yX9_wipe := ⟨rr_in (List.mem_append_right _ (List.mem_of_getElem? (i := 858) (by decide +kernel))) rfl, rr_in (List.mem_append_right _ (List.mem_of_getElem? (i := 859) (by decide +kernel))) rfl⟩
theorem mb_X9_faultOf : rr_MB yX9_faultOf cX9_faultOf 3 (some .int) 1 := ⟨rr_in (List.mem_append_right _ (List.mem_of_getElem? (i := 868) (by decide +kernel))) rfl, rr_in (List.mem_append_right _ (List.mem_of_getElem? (i := 11) (by decide +kernel))) rfl, ⟨by decide +kernel, by decide +kernel⟩, by decide +kernel⟩
theorem mi_X9_faultOf : rr_MI yX9_faultOf := ⟨rr_in (List.mem_append_right _ (List.mem_of_getElem? (i := 867) (by decide +kernel))) rfl, rr_in (List.mem_append_left _ (List.mem_of_getElem? (i := 22) (by decide +kernel))) rfl⟩
theorem mb_X9_fault : rr_MB yX9_fault cX9_fault 2 (some .int) 1 := ⟨rr_in (List.mem_append_right _ (List.mem_of_getElem? (i := 864) (by decide +kernel))) rfl, rr_in (List.mem_append_right _ (List.mem_of_getElem? (i := 11) (by decide +kernel))) rfl, ⟨by decide +kernel, by decide +kernel⟩, by decide +kernel⟩
theorem mi_X9_fault : rr_MI yX9_fault := ⟨rr_in (List.mem_append_right _ (List.mem_of_getElem? (i := 862) (by decide +kernel))) rfl, rr_in (List.mem_append_right _ (List.mem_of_getElem? (i := 863) (by decide +kernel))) rfl⟩
theorem mb_X9_figures : rr_MB yX9_figures cX9_figures 2 (some .int) 1 := ⟨rr_in (List.mem_append_right _ (List.mem_of_getElem? (i := 886) (by decide +kernel))) rfl, rr_in (List.mem_append_right _ (List.mem_of_getElem? (i := 11) (by decide +kernel))) rfl, ⟨by decide +kernel, by decide +kernel⟩, by decide +kernel⟩
theorem mi_X9_figures : rr_MI yX9_figures := ⟨rr_in (List.mem_append_right _ (List.mem_of_getElem? (i := 885) (by decide +kernel))) rfl, rr_in (List.mem_append_left _ (List.mem_of_getElem? (i := 25) (by decide +kernel))) rfl⟩
theorem mb_X9_yards : rr_MB yX9_yards cX9_yards 1 (some .int) 0 := ⟨rr_in (List.mem_append_right _ (List.mem_of_getElem? (i := 882) (by decide +kernel))) rfl, rr_in (List.mem_append_right _ (List.mem_of_getElem? (i := 11) (by decide +kernel))) rfl, ⟨by decide +kernel, by decide +kernel⟩, by decide +kernel⟩
theorem mi_X9_yards : rr_MI yX9_yards := ⟨rr_in (List.mem_append_right _ (List.mem_of_getElem? (i := 881) (by decide +kernel))) rfl, rr_in (List.mem_append_left _ (List.mem_of_getElem? (i := 24) (by decide +kernel))) rfl⟩
theorem mb_X9_isYard : rr_MB yX9_isYard cX9_isYard 2 (some .boolean) 1 := ⟨rr_in (List.mem_append_right _ (List.mem_of_getElem? (i := 878) (by decide +kernel))) rfl, rr_in (List.mem_append_right _ (List.mem_of_getElem? (i := 11) (by decide +kernel))) rfl, ⟨by decide +kernel, by decide +kernel⟩, by decide +kernel⟩
theorem mi_X9_isYard : rr_MI yX9_isYard := ⟨rr_in (List.mem_append_right _ (List.mem_of_getElem? (i := 877) (by decide +kernel))) rfl, rr_in (List.mem_append_left _ (List.mem_of_getElem? (i := 23) (by decide +kernel))) rfl⟩
theorem mb_X9_heightOf : rr_MB yX9_heightOf cX9_heightOf 2 (some .int) 1 := ⟨rr_in (List.mem_append_right _ (List.mem_of_getElem? (i := 890) (by decide +kernel))) rfl, rr_in (List.mem_append_right _ (List.mem_of_getElem? (i := 11) (by decide +kernel))) rfl, ⟨by decide +kernel, by decide +kernel⟩, by decide +kernel⟩
theorem mi_X9_heightOf : rr_MI yX9_heightOf := ⟨rr_in (List.mem_append_right _ (List.mem_of_getElem? (i := 889) (by decide +kernel))) rfl, rr_in (List.mem_append_left _ (List.mem_of_getElem? (i := 26) (by decide +kernel))) rfl⟩
theorem mb_X9_height : rr_MB yX9_height cX9_height 2 (some .int) 1 := ⟨rr_in (List.mem_append_right _ (List.mem_of_getElem? (i := 874) (by decide +kernel))) rfl, rr_in (List.mem_append_right _ (List.mem_of_getElem? (i := 11) (by decide +kernel))) rfl, ⟨by decide +kernel, by decide +kernel⟩, by decide +kernel⟩
theorem mi_X9_height : rr_MI yX9_height := ⟨rr_in (List.mem_append_right _ (List.mem_of_getElem? (i := 872) (by decide +kernel))) rfl, rr_in (List.mem_append_right _ (List.mem_of_getElem? (i := 873) (by decide +kernel))) rfl⟩
theorem mb_X9_levelOf : rr_MB yX9_levelOf cX9_levelOf 3 (some .int) 2 := ⟨rr_in (List.mem_append_right _ (List.mem_of_getElem? (i := 905) (by decide +kernel))) rfl, rr_in (List.mem_append_right _ (List.mem_of_getElem? (i := 11) (by decide +kernel))) rfl, ⟨by decide +kernel, by decide +kernel⟩, by decide +kernel⟩
theorem mi_X9_levelOf : rr_MI yX9_levelOf := ⟨rr_in (List.mem_append_right _ (List.mem_of_getElem? (i := 904) (by decide +kernel))) rfl, rr_in (List.mem_append_left _ (List.mem_of_getElem? (i := 27) (by decide +kernel))) rfl⟩
theorem mb_X9_level : rr_MB yX9_level cX9_level 3 (some .int) 2 := ⟨rr_in (List.mem_append_right _ (List.mem_of_getElem? (i := 894) (by decide +kernel))) rfl, rr_in (List.mem_append_right _ (List.mem_of_getElem? (i := 11) (by decide +kernel))) rfl, ⟨by decide +kernel, by decide +kernel⟩, by decide +kernel⟩
theorem mi_X9_level : rr_MI yX9_level := ⟨rr_in (List.mem_append_right _ (List.mem_of_getElem? (i := 892) (by decide +kernel))) rfl, rr_in (List.mem_append_right _ (List.mem_of_getElem? (i := 893) (by decide +kernel))) rfl⟩
theorem mb_X9_most : rr_MB yX9_most cX9_most 1 (some .int) 1 := ⟨rr_in (List.mem_append_right _ (List.mem_of_getElem? (i := 913) (by decide +kernel))) rfl, rr_in (List.mem_append_right _ (List.mem_of_getElem? (i := 11) (by decide +kernel))) rfl, ⟨by decide +kernel, by decide +kernel⟩, by decide +kernel⟩
theorem ms_X9_most : Cond.static yX9_most ∈ rr_tbl := rr_in (List.mem_append_right _ (List.mem_of_getElem? (i := 912) (by decide +kernel))) rfl
theorem mb_X9_set : rr_MB yX9_set cX9_set 4 (some .int) 2 := ⟨rr_in (List.mem_append_right _ (List.mem_of_getElem? (i := 909) (by decide +kernel))) rfl, rr_in (List.mem_append_right _ (List.mem_of_getElem? (i := 11) (by decide +kernel))) rfl, ⟨by decide +kernel, by decide +kernel⟩, by decide +kernel⟩
theorem mi_X9_set : rr_MI yX9_set := ⟨rr_in (List.mem_append_right _ (List.mem_of_getElem? (i := 907) (by decide +kernel))) rfl, rr_in (List.mem_append_right _ (List.mem_of_getElem? (i := 908) (by decide +kernel))) rfl⟩
theorem mb_X9_odds : rr_MB yX9_odds cX9_odds 4 (some .int) 2 := ⟨rr_in (List.mem_append_right _ (List.mem_of_getElem? (i := 917) (by decide +kernel))) rfl, rr_in (List.mem_append_right _ (List.mem_of_getElem? (i := 11) (by decide +kernel))) rfl, ⟨by decide +kernel, by decide +kernel⟩, by decide +kernel⟩
theorem mi_X9_odds : rr_MI yX9_odds := ⟨rr_in (List.mem_append_right _ (List.mem_of_getElem? (i := 915) (by decide +kernel))) rfl, rr_in (List.mem_append_right _ (List.mem_of_getElem? (i := 916) (by decide +kernel))) rfl⟩
theorem mb_X9_dike : rr_MB yX9_dike cX9_dike 4 (some .int) 3 := ⟨rr_in (List.mem_append_right _ (List.mem_of_getElem? (i := 922) (by decide +kernel))) rfl, rr_in (List.mem_append_right _ (List.mem_of_getElem? (i := 11) (by decide +kernel))) rfl, ⟨by decide +kernel, by decide +kernel⟩, by decide +kernel⟩
theorem mi_X9_dike : rr_MI yX9_dike := ⟨rr_in (List.mem_append_right _ (List.mem_of_getElem? (i := 920) (by decide +kernel))) rfl, rr_in (List.mem_append_right _ (List.mem_of_getElem? (i := 921) (by decide +kernel))) rfl⟩
theorem mb_X9_read : rr_MB yX9_read cX9_read 5 (some .int) 1 := ⟨rr_in (List.mem_append_right _ (List.mem_of_getElem? (i := 927) (by decide +kernel))) rfl, rr_in (List.mem_append_right _ (List.mem_of_getElem? (i := 11) (by decide +kernel))) rfl, ⟨by decide +kernel, by decide +kernel⟩, by decide +kernel⟩
theorem mi_X9_read : rr_MI yX9_read := ⟨rr_in (List.mem_append_right _ (List.mem_of_getElem? (i := 925) (by decide +kernel))) rfl, rr_in (List.mem_append_right _ (List.mem_of_getElem? (i := 926) (by decide +kernel))) rfl⟩
theorem mb_X9_breaks : rr_MB yX9_breaks cX9_breaks 1 (some .int) 0 := ⟨rr_in (List.mem_append_right _ (List.mem_of_getElem? (i := 932) (by decide +kernel))) rfl, rr_in (List.mem_append_right _ (List.mem_of_getElem? (i := 11) (by decide +kernel))) rfl, ⟨by decide +kernel, by decide +kernel⟩, by decide +kernel⟩
theorem mi_X9_breaks : rr_MI yX9_breaks := ⟨rr_in (List.mem_append_right _ (List.mem_of_getElem? (i := 930) (by decide +kernel))) rfl, rr_in (List.mem_append_right _ (List.mem_of_getElem? (i := 931) (by decide +kernel))) rfl⟩
theorem mb_X9_isKept : rr_MB yX9_isKept cX9_isKept 5 (some .boolean) 2 := ⟨rr_in (List.mem_append_right _ (List.mem_of_getElem? (i := 952) (by decide +kernel))) rfl, rr_in (List.mem_append_right _ (List.mem_of_getElem? (i := 11) (by decide +kernel))) rfl, ⟨by decide +kernel, by decide +kernel⟩, by decide +kernel⟩
theorem mi_X9_isKept : rr_MI yX9_isKept := ⟨rr_in (List.mem_append_right _ (List.mem_of_getElem? (i := 951) (by decide +kernel))) rfl, rr_in (List.mem_append_left _ (List.mem_of_getElem? (i := 30) (by decide +kernel))) rfl⟩
theorem mb_X9_possessionOf : rr_MB yX9_possessionOf cX9_possessionOf 3 (some .int) 1 := ⟨rr_in (List.mem_append_right _ (List.mem_of_getElem? (i := 940) (by decide +kernel))) rfl, rr_in (List.mem_append_right _ (List.mem_of_getElem? (i := 11) (by decide +kernel))) rfl, ⟨by decide +kernel, by decide +kernel⟩, by decide +kernel⟩
theorem mi_X9_possessionOf : rr_MI yX9_possessionOf := ⟨rr_in (List.mem_append_right _ (List.mem_of_getElem? (i := 939) (by decide +kernel))) rfl, rr_in (List.mem_append_left _ (List.mem_of_getElem? (i := 28) (by decide +kernel))) rfl⟩
theorem mb_X9_possession : rr_MB yX9_possession cX9_possession 2 (some .int) 1 := ⟨rr_in (List.mem_append_right _ (List.mem_of_getElem? (i := 936) (by decide +kernel))) rfl, rr_in (List.mem_append_right _ (List.mem_of_getElem? (i := 11) (by decide +kernel))) rfl, ⟨by decide +kernel, by decide +kernel⟩, by decide +kernel⟩
theorem mi_X9_possession : rr_MI yX9_possession := ⟨rr_in (List.mem_append_right _ (List.mem_of_getElem? (i := 934) (by decide +kernel))) rfl, rr_in (List.mem_append_right _ (List.mem_of_getElem? (i := 935) (by decide +kernel))) rfl⟩
theorem mb_X9_isWet : rr_MB yX9_isWet cX9_isWet 5 (some .boolean) 3 := ⟨rr_in (List.mem_append_right _ (List.mem_of_getElem? (i := 948) (by decide +kernel))) rfl, rr_in (List.mem_append_right _ (List.mem_of_getElem? (i := 11) (by decide +kernel))) rfl, ⟨by decide +kernel, by decide +kernel⟩, by decide +kernel⟩
theorem mi_X9_isWet : rr_MI yX9_isWet := ⟨rr_in (List.mem_append_right _ (List.mem_of_getElem? (i := 947) (by decide +kernel))) rfl, rr_in (List.mem_append_left _ (List.mem_of_getElem? (i := 29) (by decide +kernel))) rfl⟩
theorem mb_X9_wet : rr_MB yX9_wet cX9_wet 4 (some .int) 3 := ⟨rr_in (List.mem_append_right _ (List.mem_of_getElem? (i := 944) (by decide +kernel))) rfl, rr_in (List.mem_append_right _ (List.mem_of_getElem? (i := 11) (by decide +kernel))) rfl, ⟨by decide +kernel, by decide +kernel⟩, by decide +kernel⟩
theorem mi_X9_wet : rr_MI yX9_wet := ⟨rr_in (List.mem_append_right _ (List.mem_of_getElem? (i := 942) (by decide +kernel))) rfl, rr_in (List.mem_append_right _ (List.mem_of_getElem? (i := 943) (by decide +kernel))) rfl⟩
theorem mb_X9_waterOf : rr_MB yX9_waterOf cX9_waterOf 7 (some .int) 3 := ⟨rr_in (List.mem_append_right _ (List.mem_of_getElem? (i := 963) (by decide +kernel))) rfl, rr_in (List.mem_append_right _ (List.mem_of_getElem? (i := 11) (by decide +kernel))) rfl, ⟨by decide +kernel, by decide +kernel⟩, by decide +kernel⟩
theorem mi_X9_waterOf : rr_MI yX9_waterOf := ⟨rr_in (List.mem_append_right _ (List.mem_of_getElem? (i := 962) (by decide +kernel))) rfl, rr_in (List.mem_append_left _ (List.mem_of_getElem? (i := 31) (by decide +kernel))) rfl⟩
theorem mb_X9_water : rr_MB yX9_water cX9_water 4 (some .int) 3 := ⟨rr_in (List.mem_append_right _ (List.mem_of_getElem? (i := 956) (by decide +kernel))) rfl, rr_in (List.mem_append_right _ (List.mem_of_getElem? (i := 11) (by decide +kernel))) rfl, ⟨by decide +kernel, by decide +kernel⟩, by decide +kernel⟩
theorem mi_X9_water : rr_MI yX9_water := ⟨rr_in (List.mem_append_right _ (List.mem_of_getElem? (i := 954) (by decide +kernel))) rfl, rr_in (List.mem_append_right _ (List.mem_of_getElem? (i := 955) (by decide +kernel))) rfl⟩
theorem mb_X9_lesser : rr_MB yX9_lesser cX9_lesser 2 (some .int) 2 := ⟨rr_in (List.mem_append_right _ (List.mem_of_getElem? (i := 981) (by decide +kernel))) rfl, rr_in (List.mem_append_right _ (List.mem_of_getElem? (i := 11) (by decide +kernel))) rfl, ⟨by decide +kernel, by decide +kernel⟩, by decide +kernel⟩
theorem ms_X9_lesser : Cond.static yX9_lesser ∈ rr_tbl := rr_in (List.mem_append_right _ (List.mem_of_getElem? (i := 980) (by decide +kernel))) rfl
theorem mb_X9_costOf : rr_MB yX9_costOf cX9_costOf 12 (some .int) 5 := ⟨rr_in (List.mem_append_right _ (List.mem_of_getElem? (i := 978) (by decide +kernel))) rfl, rr_in (List.mem_append_right _ (List.mem_of_getElem? (i := 11) (by decide +kernel))) rfl, ⟨by decide +kernel, by decide +kernel⟩, by decide +kernel⟩
theorem mi_X9_costOf : rr_MI yX9_costOf := ⟨rr_in (List.mem_append_right _ (List.mem_of_getElem? (i := 977) (by decide +kernel))) rfl, rr_in (List.mem_append_left _ (List.mem_of_getElem? (i := 33) (by decide +kernel))) rfl⟩
theorem mb_X9_isWay : rr_MB yX9_isWay cX9_isWay 5 (some .boolean) 4 := ⟨rr_in (List.mem_append_right _ (List.mem_of_getElem? (i := 974) (by decide +kernel))) rfl, rr_in (List.mem_append_right _ (List.mem_of_getElem? (i := 11) (by decide +kernel))) rfl, ⟨by decide +kernel, by decide +kernel⟩, by decide +kernel⟩
theorem mi_X9_isWay : rr_MI yX9_isWay := ⟨rr_in (List.mem_append_right _ (List.mem_of_getElem? (i := 973) (by decide +kernel))) rfl, rr_in (List.mem_append_left _ (List.mem_of_getElem? (i := 32) (by decide +kernel))) rfl⟩
theorem mb_X9_cost : rr_MB yX9_cost cX9_cost 6 (some .int) 5 := ⟨rr_in (List.mem_append_right _ (List.mem_of_getElem? (i := 970) (by decide +kernel))) rfl, rr_in (List.mem_append_right _ (List.mem_of_getElem? (i := 11) (by decide +kernel))) rfl, ⟨by decide +kernel, by decide +kernel⟩, by decide +kernel⟩
theorem mi_X9_cost : rr_MI yX9_cost := ⟨rr_in (List.mem_append_right _ (List.mem_of_getElem? (i := 968) (by decide +kernel))) rfl, rr_in (List.mem_append_right _ (List.mem_of_getElem? (i := 969) (by decide +kernel))) rfl⟩
theorem mb_X9_closedOf : rr_MB yX9_closedOf cX9_closedOf 5 (some .int) 2 := ⟨rr_in (List.mem_append_right _ (List.mem_of_getElem? (i := 989) (by decide +kernel))) rfl, rr_in (List.mem_append_right _ (List.mem_of_getElem? (i := 11) (by decide +kernel))) rfl, ⟨by decide +kernel, by decide +kernel⟩, by decide +kernel⟩
theorem mi_X9_closedOf : rr_MI yX9_closedOf := ⟨rr_in (List.mem_append_right _ (List.mem_of_getElem? (i := 988) (by decide +kernel))) rfl, rr_in (List.mem_append_left _ (List.mem_of_getElem? (i := 34) (by decide +kernel))) rfl⟩
theorem mb_X9_closed : rr_MB yX9_closed cX9_closed 3 (some .int) 2 := ⟨rr_in (List.mem_append_right _ (List.mem_of_getElem? (i := 985) (by decide +kernel))) rfl, rr_in (List.mem_append_right _ (List.mem_of_getElem? (i := 11) (by decide +kernel))) rfl, ⟨by decide +kernel, by decide +kernel⟩, by decide +kernel⟩
theorem mi_X9_closed : rr_MI yX9_closed := ⟨rr_in (List.mem_append_right _ (List.mem_of_getElem? (i := 983) (by decide +kernel))) rfl, rr_in (List.mem_append_right _ (List.mem_of_getElem? (i := 984) (by decide +kernel))) rfl⟩
theorem mb_X9_deedOf : rr_MB yX9_deedOf cX9_deedOf 8 (some .int) 2 := ⟨rr_in (List.mem_append_right _ (List.mem_of_getElem? (i := 997) (by decide +kernel))) rfl, rr_in (List.mem_append_right _ (List.mem_of_getElem? (i := 11) (by decide +kernel))) rfl, ⟨by decide +kernel, by decide +kernel⟩, by decide +kernel⟩
theorem mi_X9_deedOf : rr_MI yX9_deedOf := ⟨rr_in (List.mem_append_right _ (List.mem_of_getElem? (i := 996) (by decide +kernel))) rfl, rr_in (List.mem_append_left _ (List.mem_of_getElem? (i := 35) (by decide +kernel))) rfl⟩
theorem mb_X9_deed : rr_MB yX9_deed cX9_deed 3 (some .int) 2 := ⟨rr_in (List.mem_append_right _ (List.mem_of_getElem? (i := 993) (by decide +kernel))) rfl, rr_in (List.mem_append_right _ (List.mem_of_getElem? (i := 11) (by decide +kernel))) rfl, ⟨by decide +kernel, by decide +kernel⟩, by decide +kernel⟩
theorem mi_X9_deed : rr_MI yX9_deed := ⟨rr_in (List.mem_append_right _ (List.mem_of_getElem? (i := 991) (by decide +kernel))) rfl, rr_in (List.mem_append_right _ (List.mem_of_getElem? (i := 992) (by decide +kernel))) rfl⟩
theorem mb_X9_alike : rr_MB yX9_alike cX9_alike 7 (some .int) 2 := ⟨rr_in (List.mem_append_right _ (List.mem_of_getElem? (i := 1010) (by decide +kernel))) rfl, rr_in (List.mem_append_right _ (List.mem_of_getElem? (i := 11) (by decide +kernel))) rfl, ⟨by decide +kernel, by decide +kernel⟩, by decide +kernel⟩
theorem mi_X9_alike : rr_MI yX9_alike := ⟨rr_in (List.mem_append_right _ (List.mem_of_getElem? (i := 1009) (by decide +kernel))) rfl, rr_in (List.mem_append_left _ (List.mem_of_getElem? (i := 37) (by decide +kernel))) rfl⟩
theorem mb_X9_weight : rr_MB yX9_weight cX9_weight 5 (some .long) 1 := ⟨rr_in (List.mem_append_right _ (List.mem_of_getElem? (i := 1014) (by decide +kernel))) rfl, rr_in (List.mem_append_right _ (List.mem_of_getElem? (i := 11) (by decide +kernel))) rfl, ⟨by decide +kernel, by decide +kernel⟩, by decide +kernel⟩
theorem mi_X9_weight : rr_MI yX9_weight := ⟨rr_in (List.mem_append_right _ (List.mem_of_getElem? (i := 1013) (by decide +kernel))) rfl, rr_in (List.mem_append_left _ (List.mem_of_getElem? (i := 38) (by decide +kernel))) rfl⟩
theorem mb_X9_waitingFor : rr_MB yX9_waitingFor cX9_waitingFor 7 (some .long) 2 := ⟨rr_in (List.mem_append_right _ (List.mem_of_getElem? (i := 1026) (by decide +kernel))) rfl, rr_in (List.mem_append_right _ (List.mem_of_getElem? (i := 11) (by decide +kernel))) rfl, ⟨by decide +kernel, by decide +kernel⟩, by decide +kernel⟩
theorem mi_X9_waitingFor : rr_MI yX9_waitingFor := ⟨rr_in (List.mem_append_right _ (List.mem_of_getElem? (i := 1025) (by decide +kernel))) rfl, rr_in (List.mem_append_left _ (List.mem_of_getElem? (i := 40) (by decide +kernel))) rfl⟩
theorem mb_X9_findWorths : rr_MB yX9_findWorths cX9_findWorths 12 none 4 := ⟨rr_in (List.mem_append_right _ (List.mem_of_getElem? (i := 1022) (by decide +kernel))) rfl, rr_in (List.mem_append_right _ (List.mem_of_getElem? (i := 11) (by decide +kernel))) rfl, ⟨by decide +kernel, by decide +kernel⟩, by decide +kernel⟩
theorem mi_X9_findWorths : rr_MI yX9_findWorths := ⟨rr_in (List.mem_append_right _ (List.mem_of_getElem? (i := 1021) (by decide +kernel))) rfl, rr_in (List.mem_append_left _ (List.mem_of_getElem? (i := 39) (by decide +kernel))) rfl⟩
theorem mb_X9_part : rr_MB yX9_part cX9_part 11 (some .long) 3 := ⟨rr_in (List.mem_append_right _ (List.mem_of_getElem? (i := 1029) (by decide +kernel))) rfl, rr_in (List.mem_append_right _ (List.mem_of_getElem? (i := 11) (by decide +kernel))) rfl, ⟨by decide +kernel, by decide +kernel⟩, by decide +kernel⟩
theorem ms_X9_part : Cond.static yX9_part ∈ rr_tbl := rr_in (List.mem_append_right _ (List.mem_of_getElem? (i := 1028) (by decide +kernel))) rfl
theorem mb_X9_waitsOf : rr_MB yX9_waitsOf cX9_waitsOf 8 (some .long) 5 := ⟨rr_in (List.mem_append_right _ (List.mem_of_getElem? (i := 1006) (by decide +kernel))) rfl, rr_in (List.mem_append_right _ (List.mem_of_getElem? (i := 11) (by decide +kernel))) rfl, ⟨by decide +kernel, by decide +kernel⟩, by decide +kernel⟩
theorem mi_X9_waitsOf : rr_MI yX9_waitsOf := ⟨rr_in (List.mem_append_right _ (List.mem_of_getElem? (i := 1005) (by decide +kernel))) rfl, rr_in (List.mem_append_left _ (List.mem_of_getElem? (i := 36) (by decide +kernel))) rfl⟩
theorem mb_X9_waits : rr_MB yX9_waits cX9_waits 6 (some .long) 5 := ⟨rr_in (List.mem_append_right _ (List.mem_of_getElem? (i := 1002) (by decide +kernel))) rfl, rr_in (List.mem_append_right _ (List.mem_of_getElem? (i := 11) (by decide +kernel))) rfl, ⟨by decide +kernel, by decide +kernel⟩, by decide +kernel⟩
theorem mi_X9_waits : rr_MI yX9_waits := ⟨rr_in (List.mem_append_right _ (List.mem_of_getElem? (i := 1000) (by decide +kernel))) rfl, rr_in (List.mem_append_right _ (List.mem_of_getElem? (i := 1001) (by decide +kernel))) rfl⟩
theorem mb_X9_goesOf : rr_MB yX9_goesOf cX9_goesOf 5 (some .int) 4 := ⟨rr_in (List.mem_append_right _ (List.mem_of_getElem? (i := 1037) (by decide +kernel))) rfl, rr_in (List.mem_append_right _ (List.mem_of_getElem? (i := 11) (by decide +kernel))) rfl, ⟨by decide +kernel, by decide +kernel⟩, by decide +kernel⟩
theorem mi_X9_goesOf : rr_MI yX9_goesOf := ⟨rr_in (List.mem_append_right _ (List.mem_of_getElem? (i := 1036) (by decide +kernel))) rfl, rr_in (List.mem_append_left _ (List.mem_of_getElem? (i := 41) (by decide +kernel))) rfl⟩
theorem mb_X9_goes : rr_MB yX9_goes cX9_goes 5 (some .int) 4 := ⟨rr_in (List.mem_append_right _ (List.mem_of_getElem? (i := 1033) (by decide +kernel))) rfl, rr_in (List.mem_append_right _ (List.mem_of_getElem? (i := 11) (by decide +kernel))) rfl, ⟨by decide +kernel, by decide +kernel⟩, by decide +kernel⟩
theorem mi_X9_goes : rr_MI yX9_goes := ⟨rr_in (List.mem_append_right _ (List.mem_of_getElem? (i := 1031) (by decide +kernel))) rfl, rr_in (List.mem_append_right _ (List.mem_of_getElem? (i := 1032) (by decide +kernel))) rfl⟩
theorem mb_X9_dryDays : rr_MB yX9_dryDays cX9_dryDays 9 (some .int) 4 := ⟨rr_in (List.mem_append_right _ (List.mem_of_getElem? (i := 1050) (by decide +kernel))) rfl, rr_in (List.mem_append_right _ (List.mem_of_getElem? (i := 11) (by decide +kernel))) rfl, ⟨by decide +kernel, by decide +kernel⟩, by decide +kernel⟩
theorem mi_X9_dryDays : rr_MI yX9_dryDays := ⟨rr_in (List.mem_append_right _ (List.mem_of_getElem? (i := 1049) (by decide +kernel))) rfl, rr_in (List.mem_append_left _ (List.mem_of_getElem? (i := 43) (by decide +kernel))) rfl⟩
theorem mb_X9_keepOf : rr_MB yX9_keepOf cX9_keepOf 16 (some .int) 6 := ⟨rr_in (List.mem_append_right _ (List.mem_of_getElem? (i := 1046) (by decide +kernel))) rfl, rr_in (List.mem_append_right _ (List.mem_of_getElem? (i := 11) (by decide +kernel))) rfl, ⟨by decide +kernel, by decide +kernel⟩, by decide +kernel⟩
theorem mi_X9_keepOf : rr_MI yX9_keepOf := ⟨rr_in (List.mem_append_right _ (List.mem_of_getElem? (i := 1045) (by decide +kernel))) rfl, rr_in (List.mem_append_left _ (List.mem_of_getElem? (i := 42) (by decide +kernel))) rfl⟩
theorem mb_X9_keep : rr_MB yX9_keep cX9_keep 7 (some .int) 6 := ⟨rr_in (List.mem_append_right _ (List.mem_of_getElem? (i := 1041) (by decide +kernel))) rfl, rr_in (List.mem_append_right _ (List.mem_of_getElem? (i := 11) (by decide +kernel))) rfl, ⟨by decide +kernel, by decide +kernel⟩, by decide +kernel⟩
theorem mi_X9_keep : rr_MI yX9_keep := ⟨rr_in (List.mem_append_right _ (List.mem_of_getElem? (i := 1039) (by decide +kernel))) rfl, rr_in (List.mem_append_right _ (List.mem_of_getElem? (i := 1040) (by decide +kernel))) rfl⟩
theorem mb_X9_contract : rr_MB yX9_contract cX9_contract 6 (some .int) 4 := ⟨rr_in (List.mem_append_right _ (List.mem_of_getElem? (i := 1054) (by decide +kernel))) rfl, rr_in (List.mem_append_right _ (List.mem_of_getElem? (i := 11) (by decide +kernel))) rfl, ⟨by decide +kernel, by decide +kernel⟩, by decide +kernel⟩
theorem mi_X9_contract : rr_MI yX9_contract := ⟨rr_in (List.mem_append_right _ (List.mem_of_getElem? (i := 1052) (by decide +kernel))) rfl, rr_in (List.mem_append_right _ (List.mem_of_getElem? (i := 1053) (by decide +kernel))) rfl⟩
theorem mb_X9_tears : rr_MB yX9_tears cX9_tears 3 (some .int) 1 := ⟨rr_in (List.mem_append_right _ (List.mem_of_getElem? (i := 1059) (by decide +kernel))) rfl, rr_in (List.mem_append_right _ (List.mem_of_getElem? (i := 11) (by decide +kernel))) rfl, ⟨by decide +kernel, by decide +kernel⟩, by decide +kernel⟩
theorem mi_X9_tears : rr_MI yX9_tears := ⟨rr_in (List.mem_append_right _ (List.mem_of_getElem? (i := 1057) (by decide +kernel))) rfl, rr_in (List.mem_append_right _ (List.mem_of_getElem? (i := 1058) (by decide +kernel))) rfl⟩
theorem mb_X9_brings : rr_MB yX9_brings cX9_brings 6 (some .int) 2 := ⟨rr_in (List.mem_append_right _ (List.mem_of_getElem? (i := 1079) (by decide +kernel))) rfl, rr_in (List.mem_append_right _ (List.mem_of_getElem? (i := 11) (by decide +kernel))) rfl, ⟨by decide +kernel, by decide +kernel⟩, by decide +kernel⟩
theorem mi_X9_brings : rr_MI yX9_brings := ⟨rr_in (List.mem_append_right _ (List.mem_of_getElem? (i := 1078) (by decide +kernel))) rfl, rr_in (List.mem_append_left _ (List.mem_of_getElem? (i := 47) (by decide +kernel))) rfl⟩
theorem mb_X9_areThere : rr_MB yX9_areThere cX9_areThere 4 (some .boolean) 1 := ⟨rr_in (List.mem_append_right _ (List.mem_of_getElem? (i := 1075) (by decide +kernel))) rfl, rr_in (List.mem_append_right _ (List.mem_of_getElem? (i := 11) (by decide +kernel))) rfl, ⟨by decide +kernel, by decide +kernel⟩, by decide +kernel⟩
theorem mi_X9_areThere : rr_MI yX9_areThere := ⟨rr_in (List.mem_append_right _ (List.mem_of_getElem? (i := 1074) (by decide +kernel))) rfl, rr_in (List.mem_append_left _ (List.mem_of_getElem? (i := 46) (by decide +kernel))) rfl⟩
theorem mb_X9_findNever : rr_MB yX9_findNever cX9_findNever 6 none 0 := ⟨rr_in (List.mem_append_right _ (List.mem_of_getElem? (i := 1071) (by decide +kernel))) rfl, rr_in (List.mem_append_right _ (List.mem_of_getElem? (i := 11) (by decide +kernel))) rfl, ⟨by decide +kernel, by decide +kernel⟩, by decide +kernel⟩
theorem mi_X9_findNever : rr_MI yX9_findNever := ⟨rr_in (List.mem_append_right _ (List.mem_of_getElem? (i := 1070) (by decide +kernel))) rfl, rr_in (List.mem_append_left _ (List.mem_of_getElem? (i := 45) (by decide +kernel))) rfl⟩
theorem mb_X9_neverOf : rr_MB yX9_neverOf cX9_neverOf 2 (some .int) 1 := ⟨rr_in (List.mem_append_right _ (List.mem_of_getElem? (i := 1067) (by decide +kernel))) rfl, rr_in (List.mem_append_right _ (List.mem_of_getElem? (i := 11) (by decide +kernel))) rfl, ⟨by decide +kernel, by decide +kernel⟩, by decide +kernel⟩
theorem mi_X9_neverOf : rr_MI yX9_neverOf := ⟨rr_in (List.mem_append_right _ (List.mem_of_getElem? (i := 1066) (by decide +kernel))) rfl, rr_in (List.mem_append_left _ (List.mem_of_getElem? (i := 44) (by decide +kernel))) rfl⟩
theorem mb_X9_never : rr_MB yX9_never cX9_never 2 (some .int) 1 := ⟨rr_in (List.mem_append_right _ (List.mem_of_getElem? (i := 1063) (by decide +kernel))) rfl, rr_in (List.mem_append_right _ (List.mem_of_getElem? (i := 11) (by decide +kernel))) rfl, ⟨by decide +kernel, by decide +kernel⟩, by decide +kernel⟩
theorem mi_X9_never : rr_MI yX9_never := ⟨rr_in (List.mem_append_right _ (List.mem_of_getElem? (i := 1061) (by decide +kernel))) rfl, rr_in (List.mem_append_right _ (List.mem_of_getElem? (i := 1062) (by decide +kernel))) rfl⟩
theorem mb_X9_gainOf : rr_MB yX9_gainOf cX9_gainOf 4 (some .long) 1 := ⟨rr_in (List.mem_append_right _ (List.mem_of_getElem? (i := 1087) (by decide +kernel))) rfl, rr_in (List.mem_append_right _ (List.mem_of_getElem? (i := 11) (by decide +kernel))) rfl, ⟨by decide +kernel, by decide +kernel⟩, by decide +kernel⟩
theorem mi_X9_gainOf : rr_MI yX9_gainOf := ⟨rr_in (List.mem_append_right _ (List.mem_of_getElem? (i := 1086) (by decide +kernel))) rfl, rr_in (List.mem_append_left _ (List.mem_of_getElem? (i := 48) (by decide +kernel))) rfl⟩
theorem mb_X9_gain : rr_MB yX9_gain cX9_gain 2 (some .long) 1 := ⟨rr_in (List.mem_append_right _ (List.mem_of_getElem? (i := 1083) (by decide +kernel))) rfl, rr_in (List.mem_append_right _ (List.mem_of_getElem? (i := 11) (by decide +kernel))) rfl, ⟨by decide +kernel, by decide +kernel⟩, by decide +kernel⟩
theorem mi_X9_gain : rr_MI yX9_gain := ⟨rr_in (List.mem_append_right _ (List.mem_of_getElem? (i := 1081) (by decide +kernel))) rfl, rr_in (List.mem_append_right _ (List.mem_of_getElem? (i := 1082) (by decide +kernel))) rfl⟩
theorem mb_X9_kinds : rr_MB yX9_kinds cX9_kinds 5 (some .int) 1 := ⟨rr_in (List.mem_append_right _ (List.mem_of_getElem? (i := 1099) (by decide +kernel))) rfl, rr_in (List.mem_append_right _ (List.mem_of_getElem? (i := 11) (by decide +kernel))) rfl, ⟨by decide +kernel, by decide +kernel⟩, by decide +kernel⟩
theorem mi_X9_kinds : rr_MI yX9_kinds := ⟨rr_in (List.mem_append_right _ (List.mem_of_getElem? (i := 1098) (by decide +kernel))) rfl, rr_in (List.mem_append_left _ (List.mem_of_getElem? (i := 50) (by decide +kernel))) rfl⟩
theorem mb_X9_watchNow : rr_MB yX9_watchNow cX9_watchNow 3 (some .int) 0 := ⟨rr_in (List.mem_append_right _ (List.mem_of_getElem? (i := 1095) (by decide +kernel))) rfl, rr_in (List.mem_append_right _ (List.mem_of_getElem? (i := 11) (by decide +kernel))) rfl, ⟨by decide +kernel, by decide +kernel⟩, by decide +kernel⟩
theorem mi_X9_watchNow : rr_MI yX9_watchNow := ⟨rr_in (List.mem_append_right _ (List.mem_of_getElem? (i := 1094) (by decide +kernel))) rfl, rr_in (List.mem_append_left _ (List.mem_of_getElem? (i := 49) (by decide +kernel))) rfl⟩
theorem mb_X9_watch : rr_MB yX9_watch cX9_watch 1 (some .int) 0 := ⟨rr_in (List.mem_append_right _ (List.mem_of_getElem? (i := 1091) (by decide +kernel))) rfl, rr_in (List.mem_append_right _ (List.mem_of_getElem? (i := 11) (by decide +kernel))) rfl, ⟨by decide +kernel, by decide +kernel⟩, by decide +kernel⟩
theorem mi_X9_watch : rr_MI yX9_watch := ⟨rr_in (List.mem_append_right _ (List.mem_of_getElem? (i := 1089) (by decide +kernel))) rfl, rr_in (List.mem_append_right _ (List.mem_of_getElem? (i := 1090) (by decide +kernel))) rfl⟩
theorem mb_X9_fact : rr_MB yX9_fact cX9_fact 4 (some .int) 3 := ⟨rr_in (List.mem_append_right _ (List.mem_of_getElem? (i := 1103) (by decide +kernel))) rfl, rr_in (List.mem_append_right _ (List.mem_of_getElem? (i := 11) (by decide +kernel))) rfl, ⟨by decide +kernel, by decide +kernel⟩, by decide +kernel⟩
theorem mi_X9_fact : rr_MI yX9_fact := ⟨rr_in (List.mem_append_right _ (List.mem_of_getElem? (i := 1101) (by decide +kernel))) rfl, rr_in (List.mem_append_right _ (List.mem_of_getElem? (i := 1102) (by decide +kernel))) rfl⟩
theorem mb_X9_forget : rr_MB yX9_forget cX9_forget 2 (some .int) 0 := ⟨rr_in (List.mem_append_right _ (List.mem_of_getElem? (i := 1107) (by decide +kernel))) rfl, rr_in (List.mem_append_right _ (List.mem_of_getElem? (i := 11) (by decide +kernel))) rfl, ⟨by decide +kernel, by decide +kernel⟩, by decide +kernel⟩
theorem mi_X9_forget : rr_MI yX9_forget := ⟨rr_in (List.mem_append_right _ (List.mem_of_getElem? (i := 1105) (by decide +kernel))) rfl, rr_in (List.mem_append_right _ (List.mem_of_getElem? (i := 1106) (by decide +kernel))) rfl⟩
theorem mb_X9_fitNow : rr_MB yX9_fitNow cX9_fitNow 6 (some .int) 0 := ⟨rr_in (List.mem_append_right _ (List.mem_of_getElem? (i := 1115) (by decide +kernel))) rfl, rr_in (List.mem_append_right _ (List.mem_of_getElem? (i := 11) (by decide +kernel))) rfl, ⟨by decide +kernel, by decide +kernel⟩, by decide +kernel⟩
theorem mi_X9_fitNow : rr_MI yX9_fitNow := ⟨rr_in (List.mem_append_right _ (List.mem_of_getElem? (i := 1114) (by decide +kernel))) rfl, rr_in (List.mem_append_left _ (List.mem_of_getElem? (i := 51) (by decide +kernel))) rfl⟩
theorem mb_X9_fit : rr_MB yX9_fit cX9_fit 1 (some .int) 0 := ⟨rr_in (List.mem_append_right _ (List.mem_of_getElem? (i := 1111) (by decide +kernel))) rfl, rr_in (List.mem_append_right _ (List.mem_of_getElem? (i := 11) (by decide +kernel))) rfl, ⟨by decide +kernel, by decide +kernel⟩, by decide +kernel⟩
theorem mi_X9_fit : rr_MI yX9_fit := ⟨rr_in (List.mem_append_right _ (List.mem_of_getElem? (i := 1109) (by decide +kernel))) rfl, rr_in (List.mem_append_right _ (List.mem_of_getElem? (i := 1110) (by decide +kernel))) rfl⟩
theorem mb_X9_write : rr_MB yX9_write cX9_write 5 (some .int) 2 := ⟨rr_in (List.mem_append_right _ (List.mem_of_getElem? (i := 1119) (by decide +kernel))) rfl, rr_in (List.mem_append_right _ (List.mem_of_getElem? (i := 11) (by decide +kernel))) rfl, ⟨by decide +kernel, by decide +kernel⟩, by decide +kernel⟩
theorem mi_X9_write : rr_MI yX9_write := ⟨rr_in (List.mem_append_right _ (List.mem_of_getElem? (i := 1117) (by decide +kernel))) rfl, rr_in (List.mem_append_right _ (List.mem_of_getElem? (i := 1118) (by decide +kernel))) rfl⟩
theorem mb_X9_count : rr_MB yX9_count cX9_count 4 (some .int) 1 := ⟨rr_in (List.mem_append_right _ (List.mem_of_getElem? (i := 1123) (by decide +kernel))) rfl, rr_in (List.mem_append_right _ (List.mem_of_getElem? (i := 11) (by decide +kernel))) rfl, ⟨by decide +kernel, by decide +kernel⟩, by decide +kernel⟩
theorem mi_X9_count : rr_MI yX9_count := ⟨rr_in (List.mem_append_right _ (List.mem_of_getElem? (i := 1121) (by decide +kernel))) rfl, rr_in (List.mem_append_right _ (List.mem_of_getElem? (i := 1122) (by decide +kernel))) rfl⟩
theorem mb_X9_digest : rr_MB yX9_digest cX9_digest 5 (some .long) 0 := ⟨rr_in (List.mem_append_right _ (List.mem_of_getElem? (i := 1127) (by decide +kernel))) rfl, rr_in (List.mem_append_right _ (List.mem_of_getElem? (i := 11) (by decide +kernel))) rfl, ⟨by decide +kernel, by decide +kernel⟩, by decide +kernel⟩
theorem mi_X9_digest : rr_MI yX9_digest := ⟨rr_in (List.mem_append_right _ (List.mem_of_getElem? (i := 1125) (by decide +kernel))) rfl, rr_in (List.mem_append_right _ (List.mem_of_getElem? (i := 1126) (by decide +kernel))) rfl⟩
theorem mb_J6_bitCount_0f7a4 : rr_MB yJ6_bitCount_0f7a4 cJ6_bitCount_0f7a4 1 (some .int) 1 := ⟨rr_in (List.mem_append_right _ (List.mem_of_getElem? (i := 486) (by decide +kernel))) rfl, rr_in (List.mem_append_right _ (List.mem_of_getElem? (i := 12) (by decide +kernel))) rfl, ⟨by decide +kernel, by decide +kernel⟩, by decide +kernel⟩
theorem ms_J6_bitCount_0f7a4 : Cond.static yJ6_bitCount_0f7a4 ∈ rr_tbl := rr_in (List.mem_append_right _ (List.mem_of_getElem? (i := 485) (by decide +kernel))) rfl
theorem mb_J9_max_7cf53 : rr_MB yJ9_max_7cf53 cJ9_max_7cf53 2 (some .int) 2 := ⟨rr_in (List.mem_append_right _ (List.mem_of_getElem? (i := 204) (by decide +kernel))) rfl, rr_in (List.mem_append_right _ (List.mem_of_getElem? (i := 9) (by decide +kernel))) rfl, ⟨by decide +kernel, by decide +kernel⟩, by decide +kernel⟩
theorem ms_J9_max_7cf53 : Cond.static yJ9_max_7cf53 ∈ rr_tbl := rr_in (List.mem_append_right _ (List.mem_of_getElem? (i := 203) (by decide +kernel))) rfl
theorem mb_J9_min_7cf53 : rr_MB yJ9_min_7cf53 cJ9_min_7cf53 2 (some .int) 2 := ⟨rr_in (List.mem_append_right _ (List.mem_of_getElem? (i := 462) (by decide +kernel))) rfl, rr_in (List.mem_append_right _ (List.mem_of_getElem? (i := 9) (by decide +kernel))) rfl, ⟨by decide +kernel, by decide +kernel⟩, by decide +kernel⟩
theorem ms_J9_min_7cf53 : Cond.static yJ9_min_7cf53 ∈ rr_tbl := rr_in (List.mem_append_right _ (List.mem_of_getElem? (i := 461) (by decide +kernel))) rfl
theorem ac_nat : Cond.native arraycopyName ∈ rr_tbl := rr_in (List.mem_append_right _ (List.mem_of_getElem? (i := 706) (by decide +kernel))) rfl
theorem ac_stat : Cond.static arraycopyName ∈ rr_tbl := rr_in (List.mem_append_right _ (List.mem_of_getElem? (i := 705) (by decide +kernel))) rfl
theorem ac_ini : Cond.initialized "java/lang/System" ∈ rr_tbl := rr_in (List.mem_append_right _ (List.mem_of_getElem? (i := 13) (by decide +kernel))) rfl
def rr_tl (i : Nat) : Nat := if i = 3 then 12 else 30
theorem rr_tl_le (i : Nat) : rr_tl i ≤ 1000 := by unfold rr_tl; split <;> omega
theorem tb_text {i : Nat} (h : i < 4) : rr_TB[2 + i]? = some (.inr (.inr (5, [(0, 6 + i), (1, 0)]))) := by rcases (show i = 0 ∨ i = 1 ∨ i = 2 ∨ i = 3 by omega) with rfl | rfl | rfl | rfl <;> rfl
theorem tb_bytes {i : Nat} (h : i < 4) : rr_TB[6 + i]? = some (.inl (0, rr_tl i)) := by rcases (show i = 0 ∨ i = 1 ∨ i = 2 ∨ i = 3 by omega) with rfl | rfl | rfl | rfl <;> rfl
theorem tb_sheet {i : Nat} (h : i < 4) : rr_TB[50 + i]? = some (.inr (.inr (4, [(0, 54 + i), (1, 0), (1, 0)]))) := by rcases (show i = 0 ∨ i = 1 ∨ i = 2 ∨ i = 3 by omega) with rfl | rfl | rfl | rfl <;> rfl
theorem tb_items {i : Nat} (h : i < 4) : rr_TB[54 + i]? = some (.inl (0, 60)) := by rcases (show i = 0 ∨ i = 1 ∨ i = 2 ∨ i = 3 by omega) with rfl | rfl | rfl | rfl <;> rfl
theorem tb_lev {i : Nat} (h : i < 3) : rr_TB[18 + i]? = some (.inl (0, 30)) := by rcases (show i = 0 ∨ i = 1 ∨ i = 2 by omega) with rfl | rfl | rfl <;> rfl
theorem tb_wet {i : Nat} (h : i < 3) : rr_TB[22 + i]? = some (.inl (0, 30)) := by rcases (show i = 0 ∨ i = 1 ∨ i = 2 by omega) with rfl | rfl | rfl <;> rfl
theorem tb_part {i : Nat} (h : i < 3) : rr_TB[30 + i]? = some (.inl (0, 3)) := by rcases (show i = 0 ∨ i = 1 ∨ i = 2 by omega) with rfl | rfl | rfl <;> rfl
theorem tb_bro {i : Nat} (h : i < 3) : rr_TB[42 + i]? = some (.inl (0, 256)) := by rcases (show i = 0 ∨ i = 1 ∨ i = 2 by omega) with rfl | rfl | rfl <;> rfl
theorem rr_64 {x : Int} (h : in32 x) : in64 x := by omega
end
section
section CALLW
variable {X : CX} {G : Ge} {cc : ByteArray} {nL rk a b pc : Nat} {own : String} {ret : Option FieldType} {Z : Rt} {lv lv' : List (Nat × Value)} {st stk : List Value} {σ : St} {y : MethodName} {ccY : ByteArray} {nY aY bY n ixx : Nat} {retY : Option FieldType} {o : Option Rt} {K : Int → St → Option Rt}
theorem at_callV0 (hO : rr_OK X G cc nL own ret a b) {k0 ci : Nat} {fs : List (Nat × Nat)} {As : List Value} (hM : rr_Ct X.2.1 G y ccY nY retY aY bY 0 (vr G k0 :: As) σ o) (mb : rr_MB y ccY nY retY n) (mi : rr_MI y) (hlink : Cond.methodLink own ixx y ∈ rr_tbl) (ht : rr_TB[k0]? = some (.inr (.inr (ci, fs)))) (hcl : ∃ q, vwCl[ci]? = some q ∧ q.1 = y.cls) (hn : As.length = n) (hroom : aY + 1 ≤ a ∧ 8 + (nY + 11) + bY ≤ b) (hcat : (st.map fun v => v.category).sum ≤ 8) (hstk : stk = As.reverse ++ vr G k0 :: st) (hd : decode cc pc = .ok (.invokevirtual ixx, 3)) (pc' : Nat) (hp : pc + 3 = pc') (hf : cll o K = some Z)
    (kk : ∀ (r : Int) (σ' : St), K r σ' = some Z → rr_AT X G nL rk Z pc' lv st σ') : rr_AT X G nL rk Z pc lv stk σ := at_callV (rkY := 0) hO hM mb mi hlink ht hcl hn hroom hcat hstk hd pc' hp hf kk
theorem at_callV1 (hO : rr_OK X G cc nL own ret a b) {k0 ci : Nat} {fs : List (Nat × Nat)} {As : List Value} (hM : rr_Ct X.2.1 G y ccY nY retY aY bY 1 (vr G k0 :: As) σ o) (mb : rr_MB y ccY nY retY n) (mi : rr_MI y) (hlink : Cond.methodLink own ixx y ∈ rr_tbl) (ht : rr_TB[k0]? = some (.inr (.inr (ci, fs)))) (hcl : ∃ q, vwCl[ci]? = some q ∧ q.1 = y.cls) (hn : As.length = n) (hroom : aY + 1 ≤ a ∧ 8 + (nY + 11) + bY ≤ b) (hcat : (st.map fun v => v.category).sum ≤ 8) (hstk : stk = As.reverse ++ vr G k0 :: st) (hd : decode cc pc = .ok (.invokevirtual ixx, 3)) (pc' : Nat) (hp : pc + 3 = pc') (hf : cll o K = some Z)
    (kk : ∀ (r : Int) (σ' : St), K r σ' = some Z → rr_AT X G nL rk Z pc' lv (vi r :: st) σ') : rr_AT X G nL rk Z pc lv stk σ := at_callV (rkY := 1) hO hM mb mi hlink ht hcl hn hroom hcat hstk hd pc' hp hf kk
theorem at_callV2 (hO : rr_OK X G cc nL own ret a b) {k0 ci : Nat} {fs : List (Nat × Nat)} {As : List Value} (hM : rr_Ct X.2.1 G y ccY nY retY aY bY 2 (vr G k0 :: As) σ o) (mb : rr_MB y ccY nY retY n) (mi : rr_MI y) (hlink : Cond.methodLink own ixx y ∈ rr_tbl) (ht : rr_TB[k0]? = some (.inr (.inr (ci, fs)))) (hcl : ∃ q, vwCl[ci]? = some q ∧ q.1 = y.cls) (hn : As.length = n) (hroom : aY + 1 ≤ a ∧ 8 + (nY + 11) + bY ≤ b) (hcat : (st.map fun v => v.category).sum ≤ 8) (hstk : stk = As.reverse ++ vr G k0 :: st) (hd : decode cc pc = .ok (.invokevirtual ixx, 3)) (pc' : Nat) (hp : pc + 3 = pc') (hf : cll o K = some Z)
    (kk : ∀ (r : Int) (σ' : St), K r σ' = some Z → rr_AT X G nL rk Z pc' lv (vl r :: st) σ') : rr_AT X G nL rk Z pc lv stk σ := at_callV (rkY := 2) hO hM mb mi hlink ht hcl hn hroom hcat hstk hd pc' hp hf kk
theorem at_callS0 (hO : rr_OK X G cc nL own ret a b) {As : List Value} (hM : rr_Ct X.2.1 G y ccY nY retY aY bY 0 As σ o) (mb : rr_MB y ccY nY retY n) (mi : Cond.static y ∈ rr_tbl) (hlink : Cond.methodLink own ixx y ∈ rr_tbl) (hn : As.length = n) (hroom : aY + 1 ≤ a ∧ 8 + (nY + 11) + bY ≤ b) (hcat : (st.map fun v => v.category).sum ≤ 8) (hstk : stk = As.reverse ++ st) (hd : decode cc pc = .ok (.invokestatic ixx, 3)) (pc' : Nat) (hp : pc + 3 = pc') (hf : cll o K = some Z)
    (kk : ∀ (r : Int) (σ' : St), K r σ' = some Z → rr_AT X G nL rk Z pc' lv st σ') : rr_AT X G nL rk Z pc lv stk σ := at_callS (rkY := 0) hO hM mb mi hlink hn hroom hcat hstk hd pc' hp hf kk
theorem at_callS1 (hO : rr_OK X G cc nL own ret a b) {As : List Value} (hM : rr_Ct X.2.1 G y ccY nY retY aY bY 1 As σ o) (mb : rr_MB y ccY nY retY n) (mi : Cond.static y ∈ rr_tbl) (hlink : Cond.methodLink own ixx y ∈ rr_tbl) (hn : As.length = n) (hroom : aY + 1 ≤ a ∧ 8 + (nY + 11) + bY ≤ b) (hcat : (st.map fun v => v.category).sum ≤ 8) (hstk : stk = As.reverse ++ st) (hd : decode cc pc = .ok (.invokestatic ixx, 3)) (pc' : Nat) (hp : pc + 3 = pc') (hf : cll o K = some Z)
    (kk : ∀ (r : Int) (σ' : St), K r σ' = some Z → rr_AT X G nL rk Z pc' lv (vi r :: st) σ') : rr_AT X G nL rk Z pc lv stk σ := at_callS (rkY := 1) hO hM mb mi hlink hn hroom hcat hstk hd pc' hp hf kk
theorem at_callS2 (hO : rr_OK X G cc nL own ret a b) {As : List Value} (hM : rr_Ct X.2.1 G y ccY nY retY aY bY 2 As σ o) (mb : rr_MB y ccY nY retY n) (mi : Cond.static y ∈ rr_tbl) (hlink : Cond.methodLink own ixx y ∈ rr_tbl) (hn : As.length = n) (hroom : aY + 1 ≤ a ∧ 8 + (nY + 11) + bY ≤ b) (hcat : (st.map fun v => v.category).sum ≤ 8) (hstk : stk = As.reverse ++ st) (hd : decode cc pc = .ok (.invokestatic ixx, 3)) (pc' : Nat) (hp : pc + 3 = pc') (hf : cll o K = some Z)
    (kk : ∀ (r : Int) (σ' : St), K r σ' = some Z → rr_AT X G nL rk Z pc' lv (vl r :: st) σ') : rr_AT X G nL rk Z pc lv stk σ := at_callS (rkY := 2) hO hM mb mi hlink hn hroom hcat hstk hd pc' hp hf kk
theorem at_callSN0 (hO : rr_OK X G cc nL own ret a b) {host : String} {As : List Value} (hM : rr_Ct X.2.1 G y ccY nY retY aY bY 0 As σ o) (mb : rr_MB y ccY nY retY n) (mi : Cond.static y ∈ rr_tbl) (hlink : Cond.methodLinkNest own ixx y host ∈ lw_tbl) (hn : As.length = n) (hroom : aY + 1 ≤ a ∧ 8 + (nY + 11) + bY ≤ b) (hcat : (st.map fun v => v.category).sum ≤ 8) (hstk : stk = As.reverse ++ st) (hd : decode cc pc = .ok (.invokestatic ixx, 3)) (pc' : Nat) (hp : pc + 3 = pc') (hf : cll o K = some Z)
    (kk : ∀ (r : Int) (σ' : St), K r σ' = some Z → rr_AT X G nL rk Z pc' lv st σ') : rr_AT X G nL rk Z pc lv stk σ := at_callSN (rkY := 0) hO hM mb mi hlink hn hroom hcat hstk hd pc' hp hf kk
theorem at_callSN1 (hO : rr_OK X G cc nL own ret a b) {host : String} {As : List Value} (hM : rr_Ct X.2.1 G y ccY nY retY aY bY 1 As σ o) (mb : rr_MB y ccY nY retY n) (mi : Cond.static y ∈ rr_tbl) (hlink : Cond.methodLinkNest own ixx y host ∈ lw_tbl) (hn : As.length = n) (hroom : aY + 1 ≤ a ∧ 8 + (nY + 11) + bY ≤ b) (hcat : (st.map fun v => v.category).sum ≤ 8) (hstk : stk = As.reverse ++ st) (hd : decode cc pc = .ok (.invokestatic ixx, 3)) (pc' : Nat) (hp : pc + 3 = pc') (hf : cll o K = some Z)
    (kk : ∀ (r : Int) (σ' : St), K r σ' = some Z → rr_AT X G nL rk Z pc' lv (vi r :: st) σ') : rr_AT X G nL rk Z pc lv stk σ := at_callSN (rkY := 1) hO hM mb mi hlink hn hroom hcat hstk hd pc' hp hf kk
theorem at_callSN2 (hO : rr_OK X G cc nL own ret a b) {host : String} {As : List Value} (hM : rr_Ct X.2.1 G y ccY nY retY aY bY 2 As σ o) (mb : rr_MB y ccY nY retY n) (mi : Cond.static y ∈ rr_tbl) (hlink : Cond.methodLinkNest own ixx y host ∈ lw_tbl) (hn : As.length = n) (hroom : aY + 1 ≤ a ∧ 8 + (nY + 11) + bY ≤ b) (hcat : (st.map fun v => v.category).sum ≤ 8) (hstk : stk = As.reverse ++ st) (hd : decode cc pc = .ok (.invokestatic ixx, 3)) (pc' : Nat) (hp : pc + 3 = pc') (hf : cll o K = some Z)
    (kk : ∀ (r : Int) (σ' : St), K r σ' = some Z → rr_AT X G nL rk Z pc' lv (vl r :: st) σ') : rr_AT X G nL rk Z pc lv stk σ := at_callSN (rkY := 2) hO hM mb mi hlink hn hroom hcat hstk hd pc' hp hf kk
end CALLW
end
