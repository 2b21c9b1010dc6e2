section
-- ===== PART A: goes FIRST, ahead of the names: the tables' words, and 'selects' of the private methods out of them =====
/-- a private method of a class that the tables say can be made, by its rows of tables_1 -/
def lw_okq (q : MethodName × Nat) : Prop := (q.1.cls ≠ "java/lang/invoke/MethodHandle" ∧ q.1.cls ≠ "java/lang/invoke/VarHandle") ∧ Cond.instantiable q.1.cls q.2 ∈ tables_1 ∧ Cond.privateMethod q.1 ∈ tables_1 ∧ Cond.instanceMethod q.1 ∈ tables_1
theorem lw_p0 : lw_okq (⟨"AHairToTheLeft", "refuse", "(I)I"⟩, 9) := ⟨⟨by decide +kernel, by decide +kernel⟩, List.mem_of_getElem? (i := 16) (by decide +kernel), List.mem_of_getElem? (i := 227) (by decide +kernel), List.mem_of_getElem? (i := 228) (by decide +kernel)⟩
theorem lw_p1 : lw_okq (⟨"AHairToTheLeft$Telling", "signAt", "(I)C"⟩, 2) := ⟨⟨by decide +kernel, by decide +kernel⟩, List.mem_of_getElem? (i := 177) (by decide +kernel), List.mem_of_getElem? (i := 292) (by decide +kernel), List.mem_of_getElem? (i := 293) (by decide +kernel)⟩
theorem lw_p2 : lw_okq (⟨"AHairToTheLeft", "tellAll", "()I"⟩, 9) := ⟨⟨by decide +kernel, by decide +kernel⟩, List.mem_of_getElem? (i := 16) (by decide +kernel), List.mem_of_getElem? (i := 375) (by decide +kernel), List.mem_of_getElem? (i := 376) (by decide +kernel)⟩
theorem lw_p3 : lw_okq (⟨"AHairToTheLeft", "think", "()V"⟩, 9) := ⟨⟨by decide +kernel, by decide +kernel⟩, List.mem_of_getElem? (i := 16) (by decide +kernel), List.mem_of_getElem? (i := 379) (by decide +kernel), List.mem_of_getElem? (i := 380) (by decide +kernel)⟩
theorem lw_p4 : lw_okq (⟨"AHairToTheLeft$Telling", "tellPerson", "(LAHairToTheLeft$Parlour;I)Z"⟩, 2) := ⟨⟨by decide +kernel, by decide +kernel⟩, List.mem_of_getElem? (i := 177) (by decide +kernel), List.mem_of_getElem? (i := 407) (by decide +kernel), List.mem_of_getElem? (i := 408) (by decide +kernel)⟩
theorem lw_p5 : lw_okq (⟨"AHairToTheLeft$Telling", "digitAt", "(I)I"⟩, 2) := ⟨⟨by decide +kernel, by decide +kernel⟩, List.mem_of_getElem? (i := 177) (by decide +kernel), List.mem_of_getElem? (i := 411) (by decide +kernel), List.mem_of_getElem? (i := 412) (by decide +kernel)⟩
theorem lw_p6 : lw_okq (⟨"AHairToTheLeft$Telling", "kindAt", "(Ljava/lang/String;I)I"⟩, 2) := ⟨⟨by decide +kernel, by decide +kernel⟩, List.mem_of_getElem? (i := 177) (by decide +kernel), List.mem_of_getElem? (i := 415) (by decide +kernel), List.mem_of_getElem? (i := 416) (by decide +kernel)⟩
theorem lw_p7 : lw_okq (⟨"AHairToTheLeft$Telling", "numberAt", "(I)I"⟩, 2) := ⟨⟨by decide +kernel, by decide +kernel⟩, List.mem_of_getElem? (i := 177) (by decide +kernel), List.mem_of_getElem? (i := 419) (by decide +kernel), List.mem_of_getElem? (i := 420) (by decide +kernel)⟩
theorem lw_p8 : lw_okq (⟨"AHairToTheLeft$Telling", "signedAt", "(II)I"⟩, 2) := ⟨⟨by decide +kernel, by decide +kernel⟩, List.mem_of_getElem? (i := 177) (by decide +kernel), List.mem_of_getElem? (i := 423) (by decide +kernel), List.mem_of_getElem? (i := 424) (by decide +kernel)⟩
theorem lw_p9 : lw_okq (⟨"AHairToTheLeft$Telling", "tellStation", "(LAHairToTheLeft$Parlour;I)Z"⟩, 2) := ⟨⟨by decide +kernel, by decide +kernel⟩, List.mem_of_getElem? (i := 177) (by decide +kernel), List.mem_of_getElem? (i := 427) (by decide +kernel), List.mem_of_getElem? (i := 428) (by decide +kernel)⟩
theorem lw_p10 : lw_okq (⟨"AHairToTheLeft$Telling", "tellRule", "(LAHairToTheLeft$Parlour;I)Z"⟩, 2) := ⟨⟨by decide +kernel, by decide +kernel⟩, List.mem_of_getElem? (i := 177) (by decide +kernel), List.mem_of_getElem? (i := 439) (by decide +kernel), List.mem_of_getElem? (i := 440) (by decide +kernel)⟩
theorem lw_p11 : lw_okq (⟨"AHairToTheLeft$Telling", "tellMinutes", "(LAHairToTheLeft$Parlour;ILAHairToTheLeft$Account;)Z"⟩, 2) := ⟨⟨by decide +kernel, by decide +kernel⟩, List.mem_of_getElem? (i := 177) (by decide +kernel), List.mem_of_getElem? (i := 448) (by decide +kernel), List.mem_of_getElem? (i := 449) (by decide +kernel)⟩
theorem lw_p12 : lw_okq (⟨"AHairToTheLeft$Drift", "swinging", "(I)I"⟩, 2) := ⟨⟨by decide +kernel, by decide +kernel⟩, List.mem_of_getElem? (i := 30) (by decide +kernel), List.mem_of_getElem? (i := 464) (by decide +kernel), List.mem_of_getElem? (i := 465) (by decide +kernel)⟩
theorem lw_p13 : lw_okq (⟨"AHairToTheLeft$Drift", "cooled", "(I)I"⟩, 2) := ⟨⟨by decide +kernel, by decide +kernel⟩, List.mem_of_getElem? (i := 30) (by decide +kernel), List.mem_of_getElem? (i := 468) (by decide +kernel), List.mem_of_getElem? (i := 469) (by decide +kernel)⟩
theorem lw_p14 : lw_okq (⟨"AHairToTheLeft$Parlour", "letOneGetUp", "(ILAHairToTheLeft$Account;)V"⟩, 9) := ⟨⟨by decide +kernel, by decide +kernel⟩, List.mem_of_getElem? (i := 24) (by decide +kernel), List.mem_of_getElem? (i := 479) (by decide +kernel), List.mem_of_getElem? (i := 480) (by decide +kernel)⟩
theorem lw_p15 : lw_okq (⟨"AHairToTheLeft$Parlour", "off", "(I)I"⟩, 9) := ⟨⟨by decide +kernel, by decide +kernel⟩, List.mem_of_getElem? (i := 24) (by decide +kernel), List.mem_of_getElem? (i := 487) (by decide +kernel), List.mem_of_getElem? (i := 488) (by decide +kernel)⟩
def lw_privs_1 : List (MethodName × Nat) := [(⟨"AHairToTheLeft", "refuse", "(I)I"⟩, 9), (⟨"AHairToTheLeft$Telling", "signAt", "(I)C"⟩, 2), (⟨"AHairToTheLeft", "tellAll", "()I"⟩, 9), (⟨"AHairToTheLeft", "think", "()V"⟩, 9), (⟨"AHairToTheLeft$Telling", "tellPerson", "(LAHairToTheLeft$Parlour;I)Z"⟩, 2), (⟨"AHairToTheLeft$Telling", "digitAt", "(I)I"⟩, 2), (⟨"AHairToTheLeft$Telling", "kindAt", "(Ljava/lang/String;I)I"⟩, 2), (⟨"AHairToTheLeft$Telling", "numberAt", "(I)I"⟩, 2), (⟨"AHairToTheLeft$Telling", "signedAt", "(II)I"⟩, 2), (⟨"AHairToTheLeft$Telling", "tellStation", "(LAHairToTheLeft$Parlour;I)Z"⟩, 2), (⟨"AHairToTheLeft$Telling", "tellRule", "(LAHairToTheLeft$Parlour;I)Z"⟩, 2), (⟨"AHairToTheLeft$Telling", "tellMinutes", "(LAHairToTheLeft$Parlour;ILAHairToTheLeft$Account;)Z"⟩, 2), (⟨"AHairToTheLeft$Drift", "swinging", "(I)I"⟩, 2), (⟨"AHairToTheLeft$Drift", "cooled", "(I)I"⟩, 2), (⟨"AHairToTheLeft$Parlour", "letOneGetUp", "(ILAHairToTheLeft$Account;)V"⟩, 9), (⟨"AHairToTheLeft$Parlour", "off", "(I)I"⟩, 9)]
theorem lw_r1 : ∀ q ∈ lw_privs_1, lw_okq q := List.forall_mem_cons.mpr ⟨lw_p0, List.forall_mem_cons.mpr ⟨lw_p1, List.forall_mem_cons.mpr ⟨lw_p2, List.forall_mem_cons.mpr ⟨lw_p3, List.forall_mem_cons.mpr ⟨lw_p4, List.forall_mem_cons.mpr ⟨lw_p5, List.forall_mem_cons.mpr ⟨lw_p6, List.forall_mem_cons.mpr ⟨lw_p7, List.forall_mem_cons.mpr ⟨lw_p8, List.forall_mem_cons.mpr ⟨lw_p9, List.forall_mem_cons.mpr ⟨lw_p10, List.forall_mem_cons.mpr ⟨lw_p11, List.forall_mem_cons.mpr ⟨lw_p12, List.forall_mem_cons.mpr ⟨lw_p13, List.forall_mem_cons.mpr ⟨lw_p14, List.forall_mem_cons.mpr ⟨lw_p15, fun _ h => absurd h List.not_mem_nil⟩⟩⟩⟩⟩⟩⟩⟩⟩⟩⟩⟩⟩⟩⟩⟩
theorem lw_p16 : lw_okq (⟨"AHairToTheLeft$Rule", "against", "(II)I"⟩, 3) := ⟨⟨by decide +kernel, by decide +kernel⟩, List.mem_of_getElem? (i := 48) (by decide +kernel), List.mem_of_getElem? (i := 502) (by decide +kernel), List.mem_of_getElem? (i := 503) (by decide +kernel)⟩
theorem lw_p17 : lw_okq (⟨"AHairToTheLeft$Parlour", "botherAll", "(LAHairToTheLeft$Account;)V"⟩, 9) := ⟨⟨by decide +kernel, by decide +kernel⟩, List.mem_of_getElem? (i := 24) (by decide +kernel), List.mem_of_getElem? (i := 515) (by decide +kernel), List.mem_of_getElem? (i := 516) (by decide +kernel)⟩
theorem lw_p18 : lw_okq (⟨"AHairToTheLeft$Person", "deafTo", "(II)I"⟩, 6) := ⟨⟨by decide +kernel, by decide +kernel⟩, List.mem_of_getElem? (i := 74) (by decide +kernel), List.mem_of_getElem? (i := 523) (by decide +kernel), List.mem_of_getElem? (i := 524) (by decide +kernel)⟩
theorem lw_p19 : lw_okq (⟨"AHairToTheLeft", "refuseTold", "(I)I"⟩, 9) := ⟨⟨by decide +kernel, by decide +kernel⟩, List.mem_of_getElem? (i := 16) (by decide +kernel), List.mem_of_getElem? (i := 557) (by decide +kernel), List.mem_of_getElem? (i := 558) (by decide +kernel)⟩
theorem lw_p20 : lw_okq (⟨"AHairToTheLeft", "playInMind", "(IZ)I"⟩, 9) := ⟨⟨by decide +kernel, by decide +kernel⟩, List.mem_of_getElem? (i := 16) (by decide +kernel), List.mem_of_getElem? (i := 599) (by decide +kernel), List.mem_of_getElem? (i := 600) (by decide +kernel)⟩
theorem lw_p21 : lw_okq (⟨"AHairToTheLeft", "leastCostly", "(IIII)I"⟩, 9) := ⟨⟨by decide +kernel, by decide +kernel⟩, List.mem_of_getElem? (i := 16) (by decide +kernel), List.mem_of_getElem? (i := 629) (by decide +kernel), List.mem_of_getElem? (i := 630) (by decide +kernel)⟩
theorem lw_p22 : lw_okq (⟨"AHairToTheLeft", "savedByFineHands", "(III)I"⟩, 9) := ⟨⟨by decide +kernel, by decide +kernel⟩, List.mem_of_getElem? (i := 16) (by decide +kernel), List.mem_of_getElem? (i := 637) (by decide +kernel), List.mem_of_getElem? (i := 638) (by decide +kernel)⟩
theorem lw_p23 : lw_okq (⟨"AHairToTheLeft", "minutesHeld", "(I)I"⟩, 9) := ⟨⟨by decide +kernel, by decide +kernel⟩, List.mem_of_getElem? (i := 16) (by decide +kernel), List.mem_of_getElem? (i := 665) (by decide +kernel), List.mem_of_getElem? (i := 666) (by decide +kernel)⟩
theorem lw_p24 : lw_okq (⟨"AHairToTheLeft", "rulesKept", "()I"⟩, 9) := ⟨⟨by decide +kernel, by decide +kernel⟩, List.mem_of_getElem? (i := 16) (by decide +kernel), List.mem_of_getElem? (i := 698) (by decide +kernel), List.mem_of_getElem? (i := 699) (by decide +kernel)⟩
theorem lw_p25 : lw_okq (⟨"AHairToTheLeft", "firstUnlike", "()I"⟩, 9) := ⟨⟨by decide +kernel, by decide +kernel⟩, List.mem_of_getElem? (i := 16) (by decide +kernel), List.mem_of_getElem? (i := 702) (by decide +kernel), List.mem_of_getElem? (i := 703) (by decide +kernel)⟩
theorem lw_p26 : lw_okq (⟨"AHairToTheLeft", "limitsKept", "()I"⟩, 9) := ⟨⟨by decide +kernel, by decide +kernel⟩, List.mem_of_getElem? (i := 16) (by decide +kernel), List.mem_of_getElem? (i := 707) (by decide +kernel), List.mem_of_getElem? (i := 708) (by decide +kernel)⟩
theorem lw_p27 : lw_okq (⟨"AHairToTheLeftModel", "no", "(I)I"⟩, 36) := ⟨⟨by decide +kernel, by decide +kernel⟩, List.mem_of_getElem? (i := 738) (by decide +kernel), List.mem_of_getElem? (i := 860) (by decide +kernel), List.mem_of_getElem? (i := 861) (by decide +kernel)⟩
theorem lw_p28 : lw_okq (⟨"AHairToTheLeftModel", "statement", "()Z"⟩, 36) := ⟨⟨by decide +kernel, by decide +kernel⟩, List.mem_of_getElem? (i := 738) (by decide +kernel), List.mem_of_getElem? (i := 868) (by decide +kernel), List.mem_of_getElem? (i := 869) (by decide +kernel)⟩
theorem lw_p29 : lw_okq (⟨"AHairToTheLeftModel", "next", "()I"⟩, 36) := ⟨⟨by decide +kernel, by decide +kernel⟩, List.mem_of_getElem? (i := 738) (by decide +kernel), List.mem_of_getElem? (i := 872) (by decide +kernel), List.mem_of_getElem? (i := 873) (by decide +kernel)⟩
theorem lw_p30 : lw_okq (⟨"AHairToTheLeftModel", "readsAll", "(II)Z"⟩, 36) := ⟨⟨by decide +kernel, by decide +kernel⟩, List.mem_of_getElem? (i := 738) (by decide +kernel), List.mem_of_getElem? (i := 876) (by decide +kernel), List.mem_of_getElem? (i := 877) (by decide +kernel)⟩
theorem lw_p31 : lw_okq (⟨"AHairToTheLeftModel", "readsPerson", "(I)Z"⟩, 36) := ⟨⟨by decide +kernel, by decide +kernel⟩, List.mem_of_getElem? (i := 738) (by decide +kernel), List.mem_of_getElem? (i := 880) (by decide +kernel), List.mem_of_getElem? (i := 881) (by decide +kernel)⟩
def lw_privs_2 : List (MethodName × Nat) := [(⟨"AHairToTheLeft$Rule", "against", "(II)I"⟩, 3), (⟨"AHairToTheLeft$Parlour", "botherAll", "(LAHairToTheLeft$Account;)V"⟩, 9), (⟨"AHairToTheLeft$Person", "deafTo", "(II)I"⟩, 6), (⟨"AHairToTheLeft", "refuseTold", "(I)I"⟩, 9), (⟨"AHairToTheLeft", "playInMind", "(IZ)I"⟩, 9), (⟨"AHairToTheLeft", "leastCostly", "(IIII)I"⟩, 9), (⟨"AHairToTheLeft", "savedByFineHands", "(III)I"⟩, 9), (⟨"AHairToTheLeft", "minutesHeld", "(I)I"⟩, 9), (⟨"AHairToTheLeft", "rulesKept", "()I"⟩, 9), (⟨"AHairToTheLeft", "firstUnlike", "()I"⟩, 9), (⟨"AHairToTheLeft", "limitsKept", "()I"⟩, 9), (⟨"AHairToTheLeftModel", "no", "(I)I"⟩, 36), (⟨"AHairToTheLeftModel", "statement", "()Z"⟩, 36), (⟨"AHairToTheLeftModel", "next", "()I"⟩, 36), (⟨"AHairToTheLeftModel", "readsAll", "(II)Z"⟩, 36), (⟨"AHairToTheLeftModel", "readsPerson", "(I)Z"⟩, 36)]
theorem lw_r2 : ∀ q ∈ lw_privs_2, lw_okq q := List.forall_mem_cons.mpr ⟨lw_p16, List.forall_mem_cons.mpr ⟨lw_p17, List.forall_mem_cons.mpr ⟨lw_p18, List.forall_mem_cons.mpr ⟨lw_p19, List.forall_mem_cons.mpr ⟨lw_p20, List.forall_mem_cons.mpr ⟨lw_p21, List.forall_mem_cons.mpr ⟨lw_p22, List.forall_mem_cons.mpr ⟨lw_p23, List.forall_mem_cons.mpr ⟨lw_p24, List.forall_mem_cons.mpr ⟨lw_p25, List.forall_mem_cons.mpr ⟨lw_p26, List.forall_mem_cons.mpr ⟨lw_p27, List.forall_mem_cons.mpr ⟨lw_p28, List.forall_mem_cons.mpr ⟨lw_p29, List.forall_mem_cons.mpr ⟨lw_p30, List.forall_mem_cons.mpr ⟨lw_p31, fun _ h => absurd h List.not_mem_nil⟩⟩⟩⟩⟩⟩⟩⟩⟩⟩⟩⟩⟩⟩⟩⟩
theorem lw_p32 : lw_okq (⟨"AHairToTheLeftModel", "readsKind", "(II)Z"⟩, 36) := ⟨⟨by decide +kernel, by decide +kernel⟩, List.mem_of_getElem? (i := 738) (by decide +kernel), List.mem_of_getElem? (i := 887) (by decide +kernel), List.mem_of_getElem? (i := 888) (by decide +kernel)⟩
theorem lw_p33 : lw_okq (⟨"AHairToTheLeftModel", "readsDigits", "(II)Z"⟩, 36) := ⟨⟨by decide +kernel, by decide +kernel⟩, List.mem_of_getElem? (i := 738) (by decide +kernel), List.mem_of_getElem? (i := 891) (by decide +kernel), List.mem_of_getElem? (i := 892) (by decide +kernel)⟩
theorem lw_p34 : lw_okq (⟨"AHairToTheLeftModel", "readsSigned", "(II)Z"⟩, 36) := ⟨⟨by decide +kernel, by decide +kernel⟩, List.mem_of_getElem? (i := 738) (by decide +kernel), List.mem_of_getElem? (i := 898) (by decide +kernel), List.mem_of_getElem? (i := 899) (by decide +kernel)⟩
theorem lw_p35 : lw_okq (⟨"AHairToTheLeftModel", "passesAll", "(IZ)V"⟩, 36) := ⟨⟨by decide +kernel, by decide +kernel⟩, List.mem_of_getElem? (i := 738) (by decide +kernel), List.mem_of_getElem? (i := 908) (by decide +kernel), List.mem_of_getElem? (i := 909) (by decide +kernel)⟩
theorem lw_p36 : lw_okq (⟨"AHairToTheLeftModel", "passes", "([I)V"⟩, 36) := ⟨⟨by decide +kernel, by decide +kernel⟩, List.mem_of_getElem? (i := 738) (by decide +kernel), List.mem_of_getElem? (i := 912) (by decide +kernel), List.mem_of_getElem? (i := 913) (by decide +kernel)⟩
theorem lw_p37 : lw_okq (⟨"AHairToTheLeftModel", "passOne", "(I)I"⟩, 36) := ⟨⟨by decide +kernel, by decide +kernel⟩, List.mem_of_getElem? (i := 738) (by decide +kernel), List.mem_of_getElem? (i := 916) (by decide +kernel), List.mem_of_getElem? (i := 917) (by decide +kernel)⟩
theorem lw_p38 : lw_okq (⟨"AHairToTheLeftModel", "comes", "(I)Z"⟩, 36) := ⟨⟨by decide +kernel, by decide +kernel⟩, List.mem_of_getElem? (i := 738) (by decide +kernel), List.mem_of_getElem? (i := 920) (by decide +kernel), List.mem_of_getElem? (i := 921) (by decide +kernel)⟩
theorem lw_p39 : lw_okq (⟨"AHairToTheLeftModel", "comesPerson", "(I)Z"⟩, 36) := ⟨⟨by decide +kernel, by decide +kernel⟩, List.mem_of_getElem? (i := 738) (by decide +kernel), List.mem_of_getElem? (i := 924) (by decide +kernel), List.mem_of_getElem? (i := 925) (by decide +kernel)⟩
theorem lw_p40 : lw_okq (⟨"AHairToTheLeftModel", "comesSet", "(II)Z"⟩, 36) := ⟨⟨by decide +kernel, by decide +kernel⟩, List.mem_of_getElem? (i := 738) (by decide +kernel), List.mem_of_getElem? (i := 928) (by decide +kernel), List.mem_of_getElem? (i := 929) (by decide +kernel)⟩
theorem lw_p41 : lw_okq (⟨"AHairToTheLeftModel", "goes", "(I)V"⟩, 36) := ⟨⟨by decide +kernel, by decide +kernel⟩, List.mem_of_getElem? (i := 738) (by decide +kernel), List.mem_of_getElem? (i := 938) (by decide +kernel), List.mem_of_getElem? (i := 939) (by decide +kernel)⟩
theorem lw_p42 : lw_okq (⟨"AHairToTheLeftModel", "begins", "()V"⟩, 36) := ⟨⟨by decide +kernel, by decide +kernel⟩, List.mem_of_getElem? (i := 738) (by decide +kernel), List.mem_of_getElem? (i := 942) (by decide +kernel), List.mem_of_getElem? (i := 943) (by decide +kernel)⟩
theorem lw_p43 : lw_okq (⟨"AHairToTheLeftModel", "goesOne", "()V"⟩, 36) := ⟨⟨by decide +kernel, by decide +kernel⟩, List.mem_of_getElem? (i := 738) (by decide +kernel), List.mem_of_getElem? (i := 946) (by decide +kernel), List.mem_of_getElem? (i := 947) (by decide +kernel)⟩
theorem lw_p44 : lw_okq (⟨"AHairToTheLeftModel", "driftIn", "(I)I"⟩, 36) := ⟨⟨by decide +kernel, by decide +kernel⟩, List.mem_of_getElem? (i := 738) (by decide +kernel), List.mem_of_getElem? (i := 950) (by decide +kernel), List.mem_of_getElem? (i := 951) (by decide +kernel)⟩
theorem lw_p45 : lw_okq (⟨"AHairToTheLeftModel", "swinging", "(I)I"⟩, 36) := ⟨⟨by decide +kernel, by decide +kernel⟩, List.mem_of_getElem? (i := 738) (by decide +kernel), List.mem_of_getElem? (i := 954) (by decide +kernel), List.mem_of_getElem? (i := 955) (by decide +kernel)⟩
theorem lw_p46 : lw_okq (⟨"AHairToTheLeftModel", "cooling", "(I)I"⟩, 36) := ⟨⟨by decide +kernel, by decide +kernel⟩, List.mem_of_getElem? (i := 738) (by decide +kernel), List.mem_of_getElem? (i := 958) (by decide +kernel), List.mem_of_getElem? (i := 959) (by decide +kernel)⟩
theorem lw_p47 : lw_okq (⟨"AHairToTheLeftModel", "isUp", "()Z"⟩, 36) := ⟨⟨by decide +kernel, by decide +kernel⟩, List.mem_of_getElem? (i := 738) (by decide +kernel), List.mem_of_getElem? (i := 965) (by decide +kernel), List.mem_of_getElem? (i := 966) (by decide +kernel)⟩
def lw_privs_3 : List (MethodName × Nat) := [(⟨"AHairToTheLeftModel", "readsKind", "(II)Z"⟩, 36), (⟨"AHairToTheLeftModel", "readsDigits", "(II)Z"⟩, 36), (⟨"AHairToTheLeftModel", "readsSigned", "(II)Z"⟩, 36), (⟨"AHairToTheLeftModel", "passesAll", "(IZ)V"⟩, 36), (⟨"AHairToTheLeftModel", "passes", "([I)V"⟩, 36), (⟨"AHairToTheLeftModel", "passOne", "(I)I"⟩, 36), (⟨"AHairToTheLeftModel", "comes", "(I)Z"⟩, 36), (⟨"AHairToTheLeftModel", "comesPerson", "(I)Z"⟩, 36), (⟨"AHairToTheLeftModel", "comesSet", "(II)Z"⟩, 36), (⟨"AHairToTheLeftModel", "goes", "(I)V"⟩, 36), (⟨"AHairToTheLeftModel", "begins", "()V"⟩, 36), (⟨"AHairToTheLeftModel", "goesOne", "()V"⟩, 36), (⟨"AHairToTheLeftModel", "driftIn", "(I)I"⟩, 36), (⟨"AHairToTheLeftModel", "swinging", "(I)I"⟩, 36), (⟨"AHairToTheLeftModel", "cooling", "(I)I"⟩, 36), (⟨"AHairToTheLeftModel", "isUp", "()Z"⟩, 36)]
theorem lw_r3 : ∀ q ∈ lw_privs_3, lw_okq q := List.forall_mem_cons.mpr ⟨lw_p32, List.forall_mem_cons.mpr ⟨lw_p33, List.forall_mem_cons.mpr ⟨lw_p34, List.forall_mem_cons.mpr ⟨lw_p35, List.forall_mem_cons.mpr ⟨lw_p36, List.forall_mem_cons.mpr ⟨lw_p37, List.forall_mem_cons.mpr ⟨lw_p38, List.forall_mem_cons.mpr ⟨lw_p39, List.forall_mem_cons.mpr ⟨lw_p40, List.forall_mem_cons.mpr ⟨lw_p41, List.forall_mem_cons.mpr ⟨lw_p42, List.forall_mem_cons.mpr ⟨lw_p43, List.forall_mem_cons.mpr ⟨lw_p44, List.forall_mem_cons.mpr ⟨lw_p45, List.forall_mem_cons.mpr ⟨lw_p46, List.forall_mem_cons.mpr ⟨lw_p47, fun _ h => absurd h List.not_mem_nil⟩⟩⟩⟩⟩⟩⟩⟩⟩⟩⟩⟩⟩⟩⟩⟩
theorem lw_p48 : lw_okq (⟨"AHairToTheLeftModel", "placeOf", "(I)I"⟩, 36) := ⟨⟨by decide +kernel, by decide +kernel⟩, List.mem_of_getElem? (i := 738) (by decide +kernel), List.mem_of_getElem? (i := 969) (by decide +kernel), List.mem_of_getElem? (i := 970) (by decide +kernel)⟩
theorem lw_p49 : lw_okq (⟨"AHairToTheLeftModel", "getsUp", "()V"⟩, 36) := ⟨⟨by decide +kernel, by decide +kernel⟩, List.mem_of_getElem? (i := 738) (by decide +kernel), List.mem_of_getElem? (i := 973) (by decide +kernel), List.mem_of_getElem? (i := 974) (by decide +kernel)⟩
theorem lw_p50 : lw_okq (⟨"AHairToTheLeftModel", "shouldBe", "()I"⟩, 36) := ⟨⟨by decide +kernel, by decide +kernel⟩, List.mem_of_getElem? (i := 738) (by decide +kernel), List.mem_of_getElem? (i := 977) (by decide +kernel), List.mem_of_getElem? (i := 978) (by decide +kernel)⟩
theorem lw_p51 : lw_okq (⟨"AHairToTheLeftModel", "turnsTo", "(II)V"⟩, 36) := ⟨⟨by decide +kernel, by decide +kernel⟩, List.mem_of_getElem? (i := 738) (by decide +kernel), List.mem_of_getElem? (i := 981) (by decide +kernel), List.mem_of_getElem? (i := 982) (by decide +kernel)⟩
theorem lw_p52 : lw_okq (⟨"AHairToTheLeftModel", "botherOf", "(II)I"⟩, 36) := ⟨⟨by decide +kernel, by decide +kernel⟩, List.mem_of_getElem? (i := 738) (by decide +kernel), List.mem_of_getElem? (i := 985) (by decide +kernel), List.mem_of_getElem? (i := 986) (by decide +kernel)⟩
theorem lw_p53 : lw_okq (⟨"AHairToTheLeftModel", "isPerson", "(I)Z"⟩, 36) := ⟨⟨by decide +kernel, by decide +kernel⟩, List.mem_of_getElem? (i := 738) (by decide +kernel), List.mem_of_getElem? (i := 1001) (by decide +kernel), List.mem_of_getElem? (i := 1002) (by decide +kernel)⟩
theorem lw_p54 : lw_okq (⟨"AHairToTheLeftModel", "lower", "(I)I"⟩, 36) := ⟨⟨by decide +kernel, by decide +kernel⟩, List.mem_of_getElem? (i := 738) (by decide +kernel), List.mem_of_getElem? (i := 1013) (by decide +kernel), List.mem_of_getElem? (i := 1014) (by decide +kernel)⟩
theorem lw_p55 : lw_okq (⟨"AHairToTheLeftModel", "thinks", "(I)I"⟩, 36) := ⟨⟨by decide +kernel, by decide +kernel⟩, List.mem_of_getElem? (i := 738) (by decide +kernel), List.mem_of_getElem? (i := 1042) (by decide +kernel), List.mem_of_getElem? (i := 1043) (by decide +kernel)⟩
theorem lw_p56 : lw_okq (⟨"AHairToTheLeftModel", "costOf", "()I"⟩, 36) := ⟨⟨by decide +kernel, by decide +kernel⟩, List.mem_of_getElem? (i := 738) (by decide +kernel), List.mem_of_getElem? (i := 1046) (by decide +kernel), List.mem_of_getElem? (i := 1047) (by decide +kernel)⟩
theorem lw_p57 : lw_okq (⟨"AHairToTheLeftModel", "bothOf", "(I)I"⟩, 36) := ⟨⟨by decide +kernel, by decide +kernel⟩, List.mem_of_getElem? (i := 738) (by decide +kernel), List.mem_of_getElem? (i := 1058) (by decide +kernel), List.mem_of_getElem? (i := 1059) (by decide +kernel)⟩
theorem lw_p58 : lw_okq (⟨"AHairToTheLeftModel", "bestSet", "(II)I"⟩, 36) := ⟨⟨by decide +kernel, by decide +kernel⟩, List.mem_of_getElem? (i := 738) (by decide +kernel), List.mem_of_getElem? (i := 1066) (by decide +kernel), List.mem_of_getElem? (i := 1067) (by decide +kernel)⟩
theorem lw_p59 : lw_okq (⟨"AHairToTheLeftModel", "thinksWith", "(III)I"⟩, 36) := ⟨⟨by decide +kernel, by decide +kernel⟩, List.mem_of_getElem? (i := 738) (by decide +kernel), List.mem_of_getElem? (i := 1070) (by decide +kernel), List.mem_of_getElem? (i := 1071) (by decide +kernel)⟩
theorem lw_p60 : lw_okq (⟨"AHairToTheLeftModel", "bestRule", "(I)I"⟩, 36) := ⟨⟨by decide +kernel, by decide +kernel⟩, List.mem_of_getElem? (i := 738) (by decide +kernel), List.mem_of_getElem? (i := 1074) (by decide +kernel), List.mem_of_getElem? (i := 1075) (by decide +kernel)⟩
theorem lw_p61 : lw_okq (⟨"AHairToTheLeftModel", "thinksByRule", "(II)I"⟩, 36) := ⟨⟨by decide +kernel, by decide +kernel⟩, List.mem_of_getElem? (i := 738) (by decide +kernel), List.mem_of_getElem? (i := 1078) (by decide +kernel), List.mem_of_getElem? (i := 1079) (by decide +kernel)⟩
theorem lw_p62 : lw_okq (⟨"AHairToTheLeftModel", "bestFirst", "(I)I"⟩, 36) := ⟨⟨by decide +kernel, by decide +kernel⟩, List.mem_of_getElem? (i := 738) (by decide +kernel), List.mem_of_getElem? (i := 1082) (by decide +kernel), List.mem_of_getElem? (i := 1083) (by decide +kernel)⟩
theorem lw_p63 : lw_okq (⟨"AHairToTheLeftModel", "thinksFirst", "(II)I"⟩, 36) := ⟨⟨by decide +kernel, by decide +kernel⟩, List.mem_of_getElem? (i := 738) (by decide +kernel), List.mem_of_getElem? (i := 1086) (by decide +kernel), List.mem_of_getElem? (i := 1087) (by decide +kernel)⟩
def lw_privs_4 : List (MethodName × Nat) := [(⟨"AHairToTheLeftModel", "placeOf", "(I)I"⟩, 36), (⟨"AHairToTheLeftModel", "getsUp", "()V"⟩, 36), (⟨"AHairToTheLeftModel", "shouldBe", "()I"⟩, 36), (⟨"AHairToTheLeftModel", "turnsTo", "(II)V"⟩, 36), (⟨"AHairToTheLeftModel", "botherOf", "(II)I"⟩, 36), (⟨"AHairToTheLeftModel", "isPerson", "(I)Z"⟩, 36), (⟨"AHairToTheLeftModel", "lower", "(I)I"⟩, 36), (⟨"AHairToTheLeftModel", "thinks", "(I)I"⟩, 36), (⟨"AHairToTheLeftModel", "costOf", "()I"⟩, 36), (⟨"AHairToTheLeftModel", "bothOf", "(I)I"⟩, 36), (⟨"AHairToTheLeftModel", "bestSet", "(II)I"⟩, 36), (⟨"AHairToTheLeftModel", "thinksWith", "(III)I"⟩, 36), (⟨"AHairToTheLeftModel", "bestRule", "(I)I"⟩, 36), (⟨"AHairToTheLeftModel", "thinksByRule", "(II)I"⟩, 36), (⟨"AHairToTheLeftModel", "bestFirst", "(I)I"⟩, 36), (⟨"AHairToTheLeftModel", "thinksFirst", "(II)I"⟩, 36)]
theorem lw_r4 : ∀ q ∈ lw_privs_4, lw_okq q := List.forall_mem_cons.mpr ⟨lw_p48, List.forall_mem_cons.mpr ⟨lw_p49, List.forall_mem_cons.mpr ⟨lw_p50, List.forall_mem_cons.mpr ⟨lw_p51, List.forall_mem_cons.mpr ⟨lw_p52, List.forall_mem_cons.mpr ⟨lw_p53, List.forall_mem_cons.mpr ⟨lw_p54, List.forall_mem_cons.mpr ⟨lw_p55, List.forall_mem_cons.mpr ⟨lw_p56, List.forall_mem_cons.mpr ⟨lw_p57, List.forall_mem_cons.mpr ⟨lw_p58, List.forall_mem_cons.mpr ⟨lw_p59, List.forall_mem_cons.mpr ⟨lw_p60, List.forall_mem_cons.mpr ⟨lw_p61, List.forall_mem_cons.mpr ⟨lw_p62, List.forall_mem_cons.mpr ⟨lw_p63, fun _ h => absurd h List.not_mem_nil⟩⟩⟩⟩⟩⟩⟩⟩⟩⟩⟩⟩⟩⟩⟩⟩
theorem lw_p64 : lw_okq (⟨"AHairToTheLeftModel", "holdsFrom", "(I)I"⟩, 36) := ⟨⟨by decide +kernel, by decide +kernel⟩, List.mem_of_getElem? (i := 738) (by decide +kernel), List.mem_of_getElem? (i := 1114) (by decide +kernel), List.mem_of_getElem? (i := 1115) (by decide +kernel)⟩
theorem lw_p65 : lw_okq (⟨"AHairToTheLeftModel", "isOff", "(I)Z"⟩, 36) := ⟨⟨by decide +kernel, by decide +kernel⟩, List.mem_of_getElem? (i := 738) (by decide +kernel), List.mem_of_getElem? (i := 1118) (by decide +kernel), List.mem_of_getElem? (i := 1119) (by decide +kernel)⟩
theorem lw_p66 : lw_okq (⟨"AHairToTheLeftModel", "isStill", "(I)Z"⟩, 36) := ⟨⟨by decide +kernel, by decide +kernel⟩, List.mem_of_getElem? (i := 738) (by decide +kernel), List.mem_of_getElem? (i := 1130) (by decide +kernel), List.mem_of_getElem? (i := 1131) (by decide +kernel)⟩
theorem lw_p67 : lw_okq (⟨"AHairToTheLeftModel", "firstOther", "()I"⟩, 36) := ⟨⟨by decide +kernel, by decide +kernel⟩, List.mem_of_getElem? (i := 738) (by decide +kernel), List.mem_of_getElem? (i := 1150) (by decide +kernel), List.mem_of_getElem? (i := 1151) (by decide +kernel)⟩
def lw_privs_5 : List (MethodName × Nat) := [(⟨"AHairToTheLeftModel", "holdsFrom", "(I)I"⟩, 36), (⟨"AHairToTheLeftModel", "isOff", "(I)Z"⟩, 36), (⟨"AHairToTheLeftModel", "isStill", "(I)Z"⟩, 36), (⟨"AHairToTheLeftModel", "firstOther", "()I"⟩, 36)]
theorem lw_r5 : ∀ q ∈ lw_privs_5, lw_okq q := List.forall_mem_cons.mpr ⟨lw_p64, List.forall_mem_cons.mpr ⟨lw_p65, List.forall_mem_cons.mpr ⟨lw_p66, List.forall_mem_cons.mpr ⟨lw_p67, fun _ h => absurd h List.not_mem_nil⟩⟩⟩⟩
def lw_privs : List (MethodName × Nat) := lw_privs_1 ++ (lw_privs_2 ++ (lw_privs_3 ++ (lw_privs_4 ++ (lw_privs_5))))
def lw_tbl : List Cond := k2_sels lw_privs ++ tables_1
theorem lw_privs_ok : ∀ q ∈ lw_privs, lw_okq q := by
  show ∀ q ∈ lw_privs_1 ++ (lw_privs_2 ++ (lw_privs_3 ++ (lw_privs_4 ++ (lw_privs_5)))), lw_okq q
  exact List.forall_mem_append.mpr ⟨lw_r1, List.forall_mem_append.mpr ⟨lw_r2, List.forall_mem_append.mpr ⟨lw_r3, List.forall_mem_append.mpr ⟨lw_r4, lw_r5⟩⟩⟩⟩
end
section
/-! ===== BEGIN words of one list among another's, by their places ===== -/
theorem goodIn_r {big : List Cond} (ws : List Cond) (ps : List Nat) (hp : ws = ps.filterMap (fun i => big[i]?)) (h : ws.all goodWord = true) : GoodIn big ws := by
  intro w hw
  have h1 := List.all_eq_true.mp h w hw
  rw [hp] at hw
  obtain ⟨i, -, hi⟩ := List.mem_filterMap.mp hw
  have hm : w ∈ big := by first | exact List.mem_of_getElem? hi | exact List.getElem?_mem hi
  exact ⟨hm, good_of_word h1⟩
theorem goodIn_app {big a b : List Cond} (ha : GoodIn big a) (hb : GoodIn big b) : GoodIn big (a ++ b) := fun w h => (List.mem_append.mp h).elim (ha w) (hb w)
theorem goodIn_ca {big a b : List Cond} {c : Cond} (ha : GoodIn big (c :: a)) (hb : GoodIn big b) : GoodIn big (c :: (a ++ b)) := fun w h => (List.mem_cons.mp h).elim (fun e => ha w (List.mem_cons.mpr (Or.inl e))) (fun h => (List.mem_append.mp h).elim (fun h => ha w (List.mem_cons.mpr (Or.inr h))) (hb w))
theorem goodIn_sub {big ws : List Cond} (hm : ∀ w ∈ ws, w ∈ big) (h : ws.all goodWord = true) : GoodIn big ws := fun w hw => ⟨hm w hw, good_of_word (List.all_eq_true.mp h w hw)⟩
/-! ===== END ===== -/

/-! ===== BEGIN printed: names, fields, word lists, decode rows ===== -/
def RX0 : String := "AHairToTheLeft$Account"
def TX0 : u_T := fun k => match k with
  | 0 => ("AHairToTheLeft$Account", "bother", "[I", true)
  | 1 => ("AHairToTheLeft$Account", "ups", "[I", true)
  | 2 => ("AHairToTheLeft$Account", "prices", "[I", true)
  | 3 => ("AHairToTheLeft$Account", "farthest0", "I", false)
  | 4 => ("AHairToTheLeft$Account", "farthest1", "I", false)
  | _ => ("AHairToTheLeft$Account", "lastUp", "I", false)
def tyX0 : Nat → FieldType := fun k => match k with
  | 0 => .array .int
  | 1 => .array .int
  | 2 => .array .int
  | 3 => .int
  | 4 => .int
  | _ => .int
abbrev wsX00 : List Cond := u_ws RX0 TX0 6
theorem nmX0 : ∀ a, a < 6 → ∀ b, b < 6 → a ≠ b → (TX0 a).2.1 ≠ (TX0 b).2.1 := by decide +kernel
theorem tyX0_ok : ∀ k, k < 6 → parseFieldDescriptor (TX0 k).2.2.1 = some (tyX0 k) := by decide +kernel
abbrev cX0_init : ByteArray := prog_2_method_1_code
def yX0_init : MethodName := ⟨RX0, "<init>", "()V"⟩
abbrev cX0_clear : ByteArray := prog_2_method_2_code
def yX0_clear : MethodName := ⟨RX0, "clear", "()V"⟩
abbrev cX0_noteUp : ByteArray := prog_2_method_3_code
def yX0_noteUp : MethodName := ⟨RX0, "noteUp", "(II)V"⟩
abbrev cX0_noteBother : ByteArray := prog_2_method_4_code
def yX0_noteBother : MethodName := ⟨RX0, "noteBother", "(II)V"⟩
abbrev cX0_noteOff : ByteArray := prog_2_method_5_code
def yX0_noteOff : MethodName := ⟨RX0, "noteOff", "(II)V"⟩
abbrev cX0_told : ByteArray := prog_2_method_6_code
def yX0_told : MethodName := ⟨RX0, "told", "(I)I"⟩
abbrev cX0_toldOf : ByteArray := prog_2_method_7_code
def yX0_toldOf : MethodName := ⟨RX0, "toldOf", "(II)I"⟩
abbrev cX0_allCost : ByteArray := prog_2_method_8_code
def yX0_allCost : MethodName := ⟨RX0, "allCost", "()I"⟩
abbrev cX0_allUps : ByteArray := prog_2_method_9_code
def yX0_allUps : MethodName := ⟨RX0, "allUps", "()I"⟩
abbrev cX0_sum : ByteArray := prog_2_method_10_code
def yX0_sum : MethodName := ⟨RX0, "sum", "([I)I"⟩
def RX1 : String := "AHairToTheLeft$Drift"
def TX1 : u_T := fun k => match k with
  | 0 => ("AHairToTheLeft$Drift", "kind", "I", false)
  | _ => ("AHairToTheLeft$Drift", "rate", "I", false)
def tyX1 : Nat → FieldType := fun k => match k with
  | 0 => .int
  | _ => .int
abbrev wsX10 : List Cond := u_ws RX1 TX1 2
theorem nmX1 : ∀ a, a < 2 → ∀ b, b < 2 → a ≠ b → (TX1 a).2.1 ≠ (TX1 b).2.1 := by decide +kernel
theorem tyX1_ok : ∀ k, k < 2 → parseFieldDescriptor (TX1 k).2.2.1 = some (tyX1 k) := by decide +kernel
abbrev cX1_init : ByteArray := prog_3_method_1_code
def yX1_init : MethodName := ⟨RX1, "<init>", "()V"⟩
abbrev cX1_become : ByteArray := prog_3_method_2_code
def yX1_become : MethodName := ⟨RX1, "become", "(LAHairToTheLeft$Drift;)V"⟩
abbrev cX1_amountIn : ByteArray := prog_3_method_3_code
def yX1_amountIn : MethodName := ⟨RX1, "amountIn", "(I)I"⟩
abbrev cX1_swinging : ByteArray := prog_3_method_4_code
def yX1_swinging : MethodName := ⟨RX1, "swinging", "(I)I"⟩
abbrev cX1_cooled : ByteArray := prog_3_method_5_code
def yX1_cooled : MethodName := ⟨RX1, "cooled", "(I)I"⟩
def RX2 : String := "AHairToTheLeft$Parlour"
def TX2 : u_T := fun k => match k with
  | 0 => ("AHairToTheLeft$Parlour", "at", "I", false)
  | 1 => ("AHairToTheLeft$Parlour", "place0", "I", false)
  | 2 => ("AHairToTheLeft$Parlour", "place1", "I", false)
  | 3 => ("AHairToTheLeft$Parlour", "drift", "LAHairToTheLeft$Drift;", true)
  | 4 => ("AHairToTheLeft$Parlour", "rule", "LAHairToTheLeft$Rule;", true)
  | 5 => ("AHairToTheLeft$Parlour", "people", "[LAHairToTheLeft$Person;", true)
  | 6 => ("AHairToTheLeft$Parlour", "peopleSize", "I", false)
  | 7 => ("AHairToTheLeft$Parlour", "turn", "I", false)
  | _ => ("AHairToTheLeft$Parlour", "minute", "I", false)
def tyX2 : Nat → FieldType := fun k => match k with
  | 0 => .int
  | 1 => .int
  | 2 => .int
  | 3 => .object "AHairToTheLeft$Drift"
  | 4 => .object "AHairToTheLeft$Rule"
  | 5 => .array (.object "AHairToTheLeft$Person")
  | 6 => .int
  | 7 => .int
  | _ => .int
abbrev wsX20 : List Cond := u_ws RX2 TX2 9
theorem nmX2 : ∀ a, a < 9 → ∀ b, b < 9 → a ≠ b → (TX2 a).2.1 ≠ (TX2 b).2.1 := by decide +kernel
theorem tyX2_ok : ∀ k, k < 9 → parseFieldDescriptor (TX2 k).2.2.1 = some (tyX2 k) := by decide +kernel
abbrev cX2_init : ByteArray := prog_4_method_1_code
def yX2_init : MethodName := ⟨RX2, "<init>", "()V"⟩
abbrev cX2_become : ByteArray := prog_4_method_2_code
def yX2_become : MethodName := ⟨RX2, "become", "(LAHairToTheLeft$Parlour;)V"⟩
abbrev cX2_has : ByteArray := prog_4_method_3_code
def yX2_has : MethodName := ⟨RX2, "has", "(I)Z"⟩
abbrev cX2_told : ByteArray := prog_4_method_4_code
def yX2_told : MethodName := ⟨RX2, "told", "(I)I"⟩
abbrev cX2_change : ByteArray := prog_4_method_5_code
def yX2_change : MethodName := ⟨RX2, "change", "(II)I"⟩
abbrev cX2_allMinds : ByteArray := prog_4_method_6_code
def yX2_allMinds : MethodName := ⟨RX2, "allMinds", "()I"⟩
abbrev cX2_refineHands : ByteArray := prog_4_method_7_code
def yX2_refineHands : MethodName := ⟨RX2, "refineHands", "(II)V"⟩
abbrev cX2_passMinutes : ByteArray := prog_4_method_8_code
def yX2_passMinutes : MethodName := ⟨RX2, "passMinutes", "(IZLAHairToTheLeft$Account;)V"⟩
abbrev cX2_driftOnce : ByteArray := prog_4_method_9_code
def yX2_driftOnce : MethodName := ⟨RX2, "driftOnce", "()I"⟩
abbrev cX2_isOffEither : ByteArray := prog_4_method_10_code
def yX2_isOffEither : MethodName := ⟨RX2, "isOffEither", "()Z"⟩
abbrev cX2_letOneGetUp : ByteArray := prog_4_method_11_code
def yX2_letOneGetUp : MethodName := ⟨RX2, "letOneGetUp", "(ILAHairToTheLeft$Account;)V"⟩
abbrev cX2_botherAll : ByteArray := prog_4_method_12_code
def yX2_botherAll : MethodName := ⟨RX2, "botherAll", "(LAHairToTheLeft$Account;)V"⟩
abbrev cX2_off : ByteArray := prog_4_method_13_code
def yX2_off : MethodName := ⟨RX2, "off", "(I)I"⟩
def RX3 : String := "AHairToTheLeft$Person"
def TX3 : u_T := fun k => match k with
  | 0 => ("AHairToTheLeft$Person", "kind", "I", false)
  | 1 => ("AHairToTheLeft$Person", "minds", "I", false)
  | 2 => ("AHairToTheLeft$Person", "figure", "I", false)
  | 3 => ("AHairToTheLeft$Person", "station", "I", false)
  | 4 => ("AHairToTheLeft$Person", "hand", "I", false)
  | _ => ("AHairToTheLeft$Person", "price", "I", false)
def tyX3 : Nat → FieldType := fun k => match k with
  | 0 => .int
  | 1 => .int
  | 2 => .int
  | 3 => .int
  | 4 => .int
  | _ => .int
abbrev wsX30 : List Cond := u_ws RX3 TX3 6
theorem nmX3 : ∀ a, a < 6 → ∀ b, b < 6 → a ≠ b → (TX3 a).2.1 ≠ (TX3 b).2.1 := by decide +kernel
theorem tyX3_ok : ∀ k, k < 6 → parseFieldDescriptor (TX3 k).2.2.1 = some (tyX3 k) := by decide +kernel
abbrev cX3_init : ByteArray := prog_5_method_1_code
def yX3_init : MethodName := ⟨RX3, "<init>", "()V"⟩
abbrev cX3_become : ByteArray := prog_5_method_2_code
def yX3_become : MethodName := ⟨RX3, "become", "(LAHairToTheLeft$Person;)V"⟩
abbrev cX3_detail : ByteArray := prog_5_method_3_code
def yX3_detail : MethodName := ⟨RX3, "detail", "(I)I"⟩
abbrev cX3_botheredBy : ByteArray := prog_5_method_4_code
def yX3_botheredBy : MethodName := ⟨RX3, "botheredBy", "(I)I"⟩
abbrev cX3_deafTo : ByteArray := prog_5_method_5_code
def yX3_deafTo : MethodName := ⟨RX3, "deafTo", "(II)I"⟩
abbrev cX3_turned : ByteArray := prog_5_method_6_code
def yX3_turned : MethodName := ⟨RX3, "turned", "(II)I"⟩
def RX4 : String := "AHairToTheLeft$Rule"
def TX4 : u_T := fun k => match k with
  | 0 => ("AHairToTheLeft$Rule", "kind", "I", false)
  | 1 => ("AHairToTheLeft$Rule", "limit", "I", false)
  | _ => ("AHairToTheLeft$Rule", "past", "I", false)
def tyX4 : Nat → FieldType := fun k => match k with
  | 0 => .int
  | 1 => .int
  | _ => .int
abbrev wsX40 : List Cond := u_ws RX4 TX4 3
theorem nmX4 : ∀ a, a < 3 → ∀ b, b < 3 → a ≠ b → (TX4 a).2.1 ≠ (TX4 b).2.1 := by decide +kernel
theorem tyX4_ok : ∀ k, k < 3 → parseFieldDescriptor (TX4 k).2.2.1 = some (tyX4 k) := by decide +kernel
abbrev cX4_init : ByteArray := prog_6_method_1_code
def yX4_init : MethodName := ⟨RX4, "<init>", "()V"⟩
abbrev cX4_become : ByteArray := prog_6_method_2_code
def yX4_become : MethodName := ⟨RX4, "become", "(LAHairToTheLeft$Rule;)V"⟩
abbrev cX4_rouses : ByteArray := prog_6_method_3_code
def yX4_rouses : MethodName := ⟨RX4, "rouses", "(II)Z"⟩
abbrev cX4_aim : ByteArray := prog_6_method_4_code
def yX4_aim : MethodName := ⟨RX4, "aim", "(III)I"⟩
abbrev cX4_against : ByteArray := prog_6_method_5_code
def yX4_against : MethodName := ⟨RX4, "against", "(II)I"⟩
def RX5 : String := "AHairToTheLeft$Telling"
def TX5 : u_T := fun k => match k with
  | 0 => ("AHairToTheLeft$Telling", "letters", "[C", true)
  | _ => ("AHairToTheLeft$Telling", "size", "I", false)
def tyX5 : Nat → FieldType := fun k => match k with
  | 0 => .array .char
  | _ => .int
abbrev wsX50 : List Cond := u_ws RX5 TX5 2
theorem nmX5 : ∀ a, a < 2 → ∀ b, b < 2 → a ≠ b → (TX5 a).2.1 ≠ (TX5 b).2.1 := by decide +kernel
theorem tyX5_ok : ∀ k, k < 2 → parseFieldDescriptor (TX5 k).2.2.1 = some (tyX5 k) := by decide +kernel
abbrev cX5_init : ByteArray := prog_7_method_1_code
def yX5_init : MethodName := ⟨RX5, "<init>", "()V"⟩
abbrev cX5_add : ByteArray := prog_7_method_2_code
def yX5_add : MethodName := ⟨RX5, "add", "(C)V"⟩
abbrev cX5_shapeAt : ByteArray := prog_7_method_3_code
def yX5_shapeAt : MethodName := ⟨RX5, "shapeAt", "(I)Ljava/lang/String;"⟩
abbrev cX5_firstUnfit : ByteArray := prog_7_method_4_code
def yX5_firstUnfit : MethodName := ⟨RX5, "firstUnfit", "()I"⟩
abbrev cX5_tellTo : ByteArray := prog_7_method_5_code
def yX5_tellTo : MethodName := ⟨RX5, "tellTo", "(LAHairToTheLeft$Parlour;ILAHairToTheLeft$Account;)Z"⟩
abbrev cX5_tellPerson : ByteArray := prog_7_method_6_code
def yX5_tellPerson : MethodName := ⟨RX5, "tellPerson", "(LAHairToTheLeft$Parlour;I)Z"⟩
abbrev cX5_tellStation : ByteArray := prog_7_method_7_code
def yX5_tellStation : MethodName := ⟨RX5, "tellStation", "(LAHairToTheLeft$Parlour;I)Z"⟩
abbrev cX5_tellRule : ByteArray := prog_7_method_8_code
def yX5_tellRule : MethodName := ⟨RX5, "tellRule", "(LAHairToTheLeft$Parlour;I)Z"⟩
abbrev cX5_tellMinutes : ByteArray := prog_7_method_9_code
def yX5_tellMinutes : MethodName := ⟨RX5, "tellMinutes", "(LAHairToTheLeft$Parlour;ILAHairToTheLeft$Account;)Z"⟩
abbrev cX5_fits : ByteArray := prog_7_method_10_code
def yX5_fits : MethodName := ⟨RX5, "fits", "(CC)Z"⟩
abbrev cX5_signAt : ByteArray := prog_7_method_11_code
def yX5_signAt : MethodName := ⟨RX5, "signAt", "(I)C"⟩
abbrev cX5_digitAt : ByteArray := prog_7_method_12_code
def yX5_digitAt : MethodName := ⟨RX5, "digitAt", "(I)I"⟩
abbrev cX5_numberAt : ByteArray := prog_7_method_13_code
def yX5_numberAt : MethodName := ⟨RX5, "numberAt", "(I)I"⟩
abbrev cX5_signedAt : ByteArray := prog_7_method_14_code
def yX5_signedAt : MethodName := ⟨RX5, "signedAt", "(II)I"⟩
abbrev cX5_kindAt : ByteArray := prog_7_method_15_code
def yX5_kindAt : MethodName := ⟨RX5, "kindAt", "(Ljava/lang/String;I)I"⟩
def RX6 : String := "AHairToTheLeft"
def TX6 : u_T := fun k => match k with
  | 0 => ("AHairToTheLeft", "now", "LAHairToTheLeft$Parlour;", true)
  | 1 => ("AHairToTheLeft", "mind", "LAHairToTheLeft$Parlour;", true)
  | 2 => ("AHairToTheLeft", "picture", "LAHairToTheLeft$Parlour;", true)
  | 3 => ("AHairToTheLeft", "pictured", "Z", false)
  | 4 => ("AHairToTheLeft", "account", "LAHairToTheLeft$Account;", true)
  | 5 => ("AHairToTheLeft", "telling", "LAHairToTheLeft$Telling;", true)
  | 6 => ("AHairToTheLeft", "numbers", "[I", true)
  | 7 => ("AHairToTheLeft", "numbersSize", "I", false)
  | _ => ("AHairToTheLeft", "refusals", "[I", true)
def tyX6 : Nat → FieldType := fun k => match k with
  | 0 => .object "AHairToTheLeft$Parlour"
  | 1 => .object "AHairToTheLeft$Parlour"
  | 2 => .object "AHairToTheLeft$Parlour"
  | 3 => .boolean
  | 4 => .object "AHairToTheLeft$Account"
  | 5 => .object "AHairToTheLeft$Telling"
  | 6 => .array .int
  | 7 => .int
  | _ => .array .int
abbrev wsX60 : List Cond := u_ws RX6 TX6 9
theorem nmX6 : ∀ a, a < 9 → ∀ b, b < 9 → a ≠ b → (TX6 a).2.1 ≠ (TX6 b).2.1 := by decide +kernel
theorem tyX6_ok : ∀ k, k < 9 → parseFieldDescriptor (TX6 k).2.2.1 = some (tyX6 k) := by decide +kernel
abbrev cX6_init : ByteArray := prog_1_method_1_code
def yX6_init : MethodName := ⟨RX6, "<init>", "()V"⟩
abbrev cX6_letter : ByteArray := prog_1_method_2_code
def yX6_letter : MethodName := ⟨RX6, "letter", "(I)I"⟩
abbrev cX6_parlour : ByteArray := prog_1_method_3_code
def yX6_parlour : MethodName := ⟨RX6, "parlour", "()I"⟩
abbrev cX6_person : ByteArray := prog_1_method_4_code
def yX6_person : MethodName := ⟨RX6, "person", "(II)I"⟩
abbrev cX6_bothers : ByteArray := prog_1_method_5_code
def yX6_bothers : MethodName := ⟨RX6, "bothers", "(II)I"⟩
abbrev cX6_place : ByteArray := prog_1_method_6_code
def yX6_place : MethodName := ⟨RX6, "place", "(I)I"⟩
abbrev cX6_set : ByteArray := prog_1_method_7_code
def yX6_set : MethodName := ⟨RX6, "set", "(II)I"⟩
abbrev cX6_kind : ByteArray := prog_1_method_8_code
def yX6_kind : MethodName := ⟨RX6, "kind", "(II)I"⟩
abbrev cX6_turn : ByteArray := prog_1_method_9_code
def yX6_turn : MethodName := ⟨RX6, "turn", "(I)I"⟩
abbrev cX6_drifts : ByteArray := prog_1_method_10_code
def yX6_drifts : MethodName := ⟨RX6, "drifts", "(I)I"⟩
abbrev cX6_go : ByteArray := prog_1_method_11_code
def yX6_go : MethodName := ⟨RX6, "go", "(I)I"⟩
abbrev cX6_cost : ByteArray := prog_1_method_12_code
def yX6_cost : MethodName := ⟨RX6, "cost", "(II)I"⟩
abbrev cX6_at : ByteArray := prog_1_method_13_code
def yX6_at : MethodName := ⟨RX6, "at", "(I)I"⟩
abbrev cX6_of : ByteArray := prog_1_method_14_code
def yX6_of : MethodName := ⟨RX6, "of", "(III)I"⟩
abbrev cX6_best : ByteArray := prog_1_method_15_code
def yX6_best : MethodName := ⟨RX6, "best", "(II)I"⟩
abbrev cX6_finer : ByteArray := prog_1_method_16_code
def yX6_finer : MethodName := ⟨RX6, "finer", "(II)I"⟩
abbrev cX6_mark : ByteArray := prog_1_method_17_code
def yX6_mark : MethodName := ⟨RX6, "mark", "(I)I"⟩
abbrev cX6_most : ByteArray := prog_1_method_18_code
def yX6_most : MethodName := ⟨RX6, "most", "(I)I"⟩
abbrev cX6_between : ByteArray := prog_1_method_19_code
def yX6_between : MethodName := ⟨RX6, "between", "(I)I"⟩
abbrev cX6_leave : ByteArray := prog_1_method_20_code
def yX6_leave : MethodName := ⟨RX6, "leave", "(I)I"⟩
abbrev cX6_holds : ByteArray := prog_1_method_21_code
def yX6_holds : MethodName := ⟨RX6, "holds", "(I)I"⟩
abbrev cX6_setAt : ByteArray := prog_1_method_22_code
def yX6_setAt : MethodName := ⟨RX6, "setAt", "()I"⟩
abbrev cX6_steadyFrom : ByteArray := prog_1_method_23_code
def yX6_steadyFrom : MethodName := ⟨RX6, "steadyFrom", "()I"⟩
abbrev cX6_whoLast : ByteArray := prog_1_method_24_code
def yX6_whoLast : MethodName := ⟨RX6, "whoLast", "(I)I"⟩
abbrev cX6_when : ByteArray := prog_1_method_25_code
def yX6_when : MethodName := ⟨RX6, "when", "(I)I"⟩
abbrev cX6_row : ByteArray := prog_1_method_26_code
def yX6_row : MethodName := ⟨RX6, "row", "(I)I"⟩
abbrev cX6_kept : ByteArray := prog_1_method_27_code
def yX6_kept : MethodName := ⟨RX6, "kept", "(I)I"⟩
abbrev cX6_judge : ByteArray := prog_1_method_28_code
def yX6_judge : MethodName := ⟨RX6, "judge", "()I"⟩
abbrev cX6_lots : ByteArray := prog_1_method_29_code
def yX6_lots : MethodName := ⟨RX6, "lots", "(II)I"⟩
abbrev cX6_image : ByteArray := prog_1_method_30_code
def yX6_image : MethodName := ⟨RX6, "image", "()I"⟩
abbrev cX6_on : ByteArray := prog_1_method_31_code
def yX6_on : MethodName := ⟨RX6, "on", "()I"⟩
abbrev cX6_count : ByteArray := prog_1_method_32_code
def yX6_count : MethodName := ⟨RX6, "count", "(I)I"⟩
abbrev cX6_outside : ByteArray := prog_1_method_33_code
def yX6_outside : MethodName := ⟨RX6, "outside", "(III)I"⟩
abbrev cX6_refuse : ByteArray := prog_1_method_34_code
def yX6_refuse : MethodName := ⟨RX6, "refuse", "(I)I"⟩
abbrev cX6_refuseTold : ByteArray := prog_1_method_35_code
def yX6_refuseTold : MethodName := ⟨RX6, "refuseTold", "(I)I"⟩
abbrev cX6_tellAll : ByteArray := prog_1_method_36_code
def yX6_tellAll : MethodName := ⟨RX6, "tellAll", "()I"⟩
abbrev cX6_think : ByteArray := prog_1_method_37_code
def yX6_think : MethodName := ⟨RX6, "think", "()V"⟩
abbrev cX6_playInMind : ByteArray := prog_1_method_38_code
def yX6_playInMind : MethodName := ⟨RX6, "playInMind", "(IZ)I"⟩
abbrev cX6_leastCostly : ByteArray := prog_1_method_39_code
def yX6_leastCostly : MethodName := ⟨RX6, "leastCostly", "(IIII)I"⟩
abbrev cX6_savedByFineHands : ByteArray := prog_1_method_40_code
def yX6_savedByFineHands : MethodName := ⟨RX6, "savedByFineHands", "(III)I"⟩
abbrev cX6_minutesHeld : ByteArray := prog_1_method_41_code
def yX6_minutesHeld : MethodName := ⟨RX6, "minutesHeld", "(I)I"⟩
abbrev cX6_firstUnlike : ByteArray := prog_1_method_42_code
def yX6_firstUnlike : MethodName := ⟨RX6, "firstUnlike", "()I"⟩
abbrev cX6_rulesKept : ByteArray := prog_1_method_43_code
def yX6_rulesKept : MethodName := ⟨RX6, "rulesKept", "()I"⟩
abbrev cX6_limitsKept : ByteArray := prog_1_method_44_code
def yX6_limitsKept : MethodName := ⟨RX6, "limitsKept", "()I"⟩
abbrev cX6_held : ByteArray := prog_1_method_45_code
def yX6_held : MethodName := ⟨RX6, "held", "(III)I"⟩
def RX7 : String := "AHairToTheLeftModel"
def TX7 : u_T := fun k => match k with
  | 0 => ("AHairToTheLeftModel", "refused", "[I", true)
  | 1 => ("AHairToTheLeftModel", "setting", "[I", true)
  | 2 => ("AHairToTheLeftModel", "kind", "[I", true)
  | 3 => ("AHairToTheLeftModel", "minds", "[I", true)
  | 4 => ("AHairToTheLeftModel", "figure", "[I", true)
  | 5 => ("AHairToTheLeftModel", "station", "[I", true)
  | 6 => ("AHairToTheLeftModel", "hand", "[I", true)
  | 7 => ("AHairToTheLeftModel", "price", "[I", true)
  | 8 => ("AHairToTheLeftModel", "people", "I", false)
  | 9 => ("AHairToTheLeftModel", "drift", "I", false)
  | 10 => ("AHairToTheLeftModel", "rule", "I", false)
  | 11 => ("AHairToTheLeftModel", "turn", "I", false)
  | 12 => ("AHairToTheLeftModel", "minute", "I", false)
  | 13 => ("AHairToTheLeftModel", "tape", "[I", true)
  | 14 => ("AHairToTheLeftModel", "letter", "[I", true)
  | 15 => ("AHairToTheLeftModel", "letterAt", "[I", true)
  | 16 => ("AHairToTheLeftModel", "told", "[I", true)
  | 17 => ("AHairToTheLeftModel", "taped", "I", false)
  | 18 => ("AHairToTheLeftModel", "reading", "I", false)
  | 19 => ("AHairToTheLeftModel", "statements", "I", false)
  | 20 => ("AHairToTheLeftModel", "saved", "[I", true)
  | 21 => ("AHairToTheLeftModel", "hasImage", "Z", false)
  | 22 => ("AHairToTheLeftModel", "isKeeping", "Z", false)
  | 23 => ("AHairToTheLeftModel", "cursor", "I", false)
  | 24 => ("AHairToTheLeftModel", "botherSum", "[I", true)
  | 25 => ("AHairToTheLeftModel", "upsOf", "[I", true)
  | 26 => ("AHairToTheLeftModel", "placeAt", "[I", true)
  | 27 => ("AHairToTheLeftModel", "upAt", "[I", true)
  | 28 => ("AHairToTheLeftModel", "ups", "I", false)
  | 29 => ("AHairToTheLeftModel", "prices", "I", false)
  | 30 => ("AHairToTheLeftModel", "farthest0", "I", false)
  | 31 => ("AHairToTheLeftModel", "farthest1", "I", false)
  | 32 => ("AHairToTheLeftModel", "lastUp", "I", false)
  | 33 => ("AHairToTheLeftModel", "gone", "I", false)
  | 34 => ("AHairToTheLeftModel", "row", "[I", true)
  | _ => ("AHairToTheLeftModel", "rowMany", "I", false)
def tyX7 : Nat → FieldType := fun k => match k with
  | 0 => .array .int
  | 1 => .array .int
  | 2 => .array .int
  | 3 => .array .int
  | 4 => .array .int
  | 5 => .array .int
  | 6 => .array .int
  | 7 => .array .int
  | 8 => .int
  | 9 => .int
  | 10 => .int
  | 11 => .int
  | 12 => .int
  | 13 => .array .int
  | 14 => .array .int
  | 15 => .array .int
  | 16 => .array .int
  | 17 => .int
  | 18 => .int
  | 19 => .int
  | 20 => .array .int
  | 21 => .boolean
  | 22 => .boolean
  | 23 => .int
  | 24 => .array .int
  | 25 => .array .int
  | 26 => .array .int
  | 27 => .array .int
  | 28 => .int
  | 29 => .int
  | 30 => .int
  | 31 => .int
  | 32 => .int
  | 33 => .int
  | 34 => .array .int
  | _ => .int
abbrev wsX70 : List Cond := u_ws RX7 TX7 36
theorem nmX7 : ∀ a, a < 36 → ∀ b, b < 36 → a ≠ b → (TX7 a).2.1 ≠ (TX7 b).2.1 := by decide +kernel
theorem tyX7_ok : ∀ k, k < 36 → parseFieldDescriptor (TX7 k).2.2.1 = some (tyX7 k) := by decide +kernel
abbrev cX7_init : ByteArray := prog_9_method_1_code
def yX7_init : MethodName := ⟨RX7, "<init>", "()V"⟩
abbrev cX7_no : ByteArray := prog_9_method_2_code
def yX7_no : MethodName := ⟨RX7, "no", "(I)I"⟩
abbrev cX7_lower : ByteArray := prog_9_method_3_code
def yX7_lower : MethodName := ⟨RX7, "lower", "(I)I"⟩
abbrev cX7_isIn : ByteArray := prog_9_method_4_code
def yX7_isIn : MethodName := ⟨RX7, "isIn", "(III)Z"⟩
abbrev cX7_bound : ByteArray := prog_9_method_5_code
def yX7_bound : MethodName := ⟨RX7, "bound", "(III)I"⟩
abbrev cX7_size : ByteArray := prog_9_method_6_code
def yX7_size : MethodName := ⟨RX7, "size", "(I)I"⟩
abbrev cX7_isPerson : ByteArray := prog_9_method_7_code
def yX7_isPerson : MethodName := ⟨RX7, "isPerson", "(I)Z"⟩
abbrev cX7_leastOf : ByteArray := prog_9_method_8_code
def yX7_leastOf : MethodName := ⟨RX7, "leastOf", "(I)I"⟩
abbrev cX7_mostOf : ByteArray := prog_9_method_9_code
def yX7_mostOf : MethodName := ⟨RX7, "mostOf", "(I)I"⟩
abbrev cX7_letter : ByteArray := prog_9_method_10_code
def yX7_letter : MethodName := ⟨RX7, "letter", "(I)I"⟩
abbrev cX7_next : ByteArray := prog_9_method_11_code
def yX7_next : MethodName := ⟨RX7, "next", "()I"⟩
abbrev cX7_readsDigits : ByteArray := prog_9_method_12_code
def yX7_readsDigits : MethodName := ⟨RX7, "readsDigits", "(II)Z"⟩
abbrev cX7_readsSigned : ByteArray := prog_9_method_13_code
def yX7_readsSigned : MethodName := ⟨RX7, "readsSigned", "(II)Z"⟩
abbrev cX7_personOf : ByteArray := prog_9_method_14_code
def yX7_personOf : MethodName := ⟨RX7, "personOf", "(I)I"⟩
abbrev cX7_driftOf : ByteArray := prog_9_method_15_code
def yX7_driftOf : MethodName := ⟨RX7, "driftOf", "(I)I"⟩
abbrev cX7_ruleOf : ByteArray := prog_9_method_16_code
def yX7_ruleOf : MethodName := ⟨RX7, "ruleOf", "(I)I"⟩
abbrev cX7_readsKind : ByteArray := prog_9_method_17_code
def yX7_readsKind : MethodName := ⟨RX7, "readsKind", "(II)Z"⟩
abbrev cX7_readsPerson : ByteArray := prog_9_method_18_code
def yX7_readsPerson : MethodName := ⟨RX7, "readsPerson", "(I)Z"⟩
abbrev cX7_readsAll : ByteArray := prog_9_method_19_code
def yX7_readsAll : MethodName := ⟨RX7, "readsAll", "(II)Z"⟩
abbrev cX7_statement : ByteArray := prog_9_method_20_code
def yX7_statement : MethodName := ⟨RX7, "statement", "()Z"⟩
abbrev cX7_comesPerson : ByteArray := prog_9_method_21_code
def yX7_comesPerson : MethodName := ⟨RX7, "comesPerson", "(I)Z"⟩
abbrev cX7_comesSet : ByteArray := prog_9_method_22_code
def yX7_comesSet : MethodName := ⟨RX7, "comesSet", "(II)Z"⟩
abbrev cX7_comes : ByteArray := prog_9_method_23_code
def yX7_comes : MethodName := ⟨RX7, "comes", "(I)Z"⟩
abbrev cX7_parlour : ByteArray := prog_9_method_24_code
def yX7_parlour : MethodName := ⟨RX7, "parlour", "()I"⟩
abbrev cX7_passes : ByteArray := prog_9_method_25_code
def yX7_passes : MethodName := ⟨RX7, "passes", "([I)V"⟩
abbrev cX7_passOne : ByteArray := prog_9_method_26_code
def yX7_passOne : MethodName := ⟨RX7, "passOne", "(I)I"⟩
abbrev cX7_passesAll : ByteArray := prog_9_method_27_code
def yX7_passesAll : MethodName := ⟨RX7, "passesAll", "(IZ)V"⟩
abbrev cX7_image : ByteArray := prog_9_method_28_code
def yX7_image : MethodName := ⟨RX7, "image", "()I"⟩
abbrev cX7_on : ByteArray := prog_9_method_29_code
def yX7_on : MethodName := ⟨RX7, "on", "()I"⟩
abbrev cX7_swinging : ByteArray := prog_9_method_30_code
def yX7_swinging : MethodName := ⟨RX7, "swinging", "(I)I"⟩
abbrev cX7_cooling : ByteArray := prog_9_method_31_code
def yX7_cooling : MethodName := ⟨RX7, "cooling", "(I)I"⟩
abbrev cX7_driftIn : ByteArray := prog_9_method_32_code
def yX7_driftIn : MethodName := ⟨RX7, "driftIn", "(I)I"⟩
abbrev cX7_botherOf : ByteArray := prog_9_method_33_code
def yX7_botherOf : MethodName := ⟨RX7, "botherOf", "(II)I"⟩
abbrev cX7_placeOf : ByteArray := prog_9_method_34_code
def yX7_placeOf : MethodName := ⟨RX7, "placeOf", "(I)I"⟩
abbrev cX7_isUp : ByteArray := prog_9_method_35_code
def yX7_isUp : MethodName := ⟨RX7, "isUp", "()Z"⟩
abbrev cX7_shouldBe : ByteArray := prog_9_method_36_code
def yX7_shouldBe : MethodName := ⟨RX7, "shouldBe", "()I"⟩
abbrev cX7_turnsTo : ByteArray := prog_9_method_37_code
def yX7_turnsTo : MethodName := ⟨RX7, "turnsTo", "(II)V"⟩
abbrev cX7_begins : ByteArray := prog_9_method_38_code
def yX7_begins : MethodName := ⟨RX7, "begins", "()V"⟩
abbrev cX7_getsUp : ByteArray := prog_9_method_39_code
def yX7_getsUp : MethodName := ⟨RX7, "getsUp", "()V"⟩
abbrev cX7_goesOne : ByteArray := prog_9_method_40_code
def yX7_goesOne : MethodName := ⟨RX7, "goesOne", "()V"⟩
abbrev cX7_goes : ByteArray := prog_9_method_41_code
def yX7_goes : MethodName := ⟨RX7, "goes", "(I)V"⟩
abbrev cX7_costOf : ByteArray := prog_9_method_42_code
def yX7_costOf : MethodName := ⟨RX7, "costOf", "()I"⟩
abbrev cX7_thinks : ByteArray := prog_9_method_43_code
def yX7_thinks : MethodName := ⟨RX7, "thinks", "(I)I"⟩
abbrev cX7_thinksWith : ByteArray := prog_9_method_44_code
def yX7_thinksWith : MethodName := ⟨RX7, "thinksWith", "(III)I"⟩
abbrev cX7_thinksByRule : ByteArray := prog_9_method_45_code
def yX7_thinksByRule : MethodName := ⟨RX7, "thinksByRule", "(II)I"⟩
abbrev cX7_thinksFirst : ByteArray := prog_9_method_46_code
def yX7_thinksFirst : MethodName := ⟨RX7, "thinksFirst", "(II)I"⟩
abbrev cX7_person : ByteArray := prog_9_method_47_code
def yX7_person : MethodName := ⟨RX7, "person", "(II)I"⟩
abbrev cX7_bothers : ByteArray := prog_9_method_48_code
def yX7_bothers : MethodName := ⟨RX7, "bothers", "(II)I"⟩
abbrev cX7_place : ByteArray := prog_9_method_49_code
def yX7_place : MethodName := ⟨RX7, "place", "(I)I"⟩
abbrev cX7_set : ByteArray := prog_9_method_50_code
def yX7_set : MethodName := ⟨RX7, "set", "(II)I"⟩
abbrev cX7_kind : ByteArray := prog_9_method_51_code
def yX7_kind : MethodName := ⟨RX7, "kind", "(II)I"⟩
abbrev cX7_turn : ByteArray := prog_9_method_52_code
def yX7_turn : MethodName := ⟨RX7, "turn", "(I)I"⟩
abbrev cX7_drifts : ByteArray := prog_9_method_53_code
def yX7_drifts : MethodName := ⟨RX7, "drifts", "(I)I"⟩
abbrev cX7_go : ByteArray := prog_9_method_54_code
def yX7_go : MethodName := ⟨RX7, "go", "(I)I"⟩
abbrev cX7_cost : ByteArray := prog_9_method_55_code
def yX7_cost : MethodName := ⟨RX7, "cost", "(II)I"⟩
abbrev cX7_at : ByteArray := prog_9_method_56_code
def yX7_at : MethodName := ⟨RX7, "at", "(I)I"⟩
abbrev cX7_bothOf : ByteArray := prog_9_method_57_code
def yX7_bothOf : MethodName := ⟨RX7, "bothOf", "(I)I"⟩
abbrev cX7_of : ByteArray := prog_9_method_58_code
def yX7_of : MethodName := ⟨RX7, "of", "(III)I"⟩
abbrev cX7_bestSet : ByteArray := prog_9_method_59_code
def yX7_bestSet : MethodName := ⟨RX7, "bestSet", "(II)I"⟩
abbrev cX7_bestRule : ByteArray := prog_9_method_60_code
def yX7_bestRule : MethodName := ⟨RX7, "bestRule", "(I)I"⟩
abbrev cX7_bestFirst : ByteArray := prog_9_method_61_code
def yX7_bestFirst : MethodName := ⟨RX7, "bestFirst", "(I)I"⟩
abbrev cX7_best : ByteArray := prog_9_method_62_code
def yX7_best : MethodName := ⟨RX7, "best", "(II)I"⟩
abbrev cX7_finer : ByteArray := prog_9_method_63_code
def yX7_finer : MethodName := ⟨RX7, "finer", "(II)I"⟩
abbrev cX7_mark : ByteArray := prog_9_method_64_code
def yX7_mark : MethodName := ⟨RX7, "mark", "(I)I"⟩
abbrev cX7_most : ByteArray := prog_9_method_65_code
def yX7_most : MethodName := ⟨RX7, "most", "(I)I"⟩
abbrev cX7_between : ByteArray := prog_9_method_66_code
def yX7_between : MethodName := ⟨RX7, "between", "(I)I"⟩
abbrev cX7_leave : ByteArray := prog_9_method_67_code
def yX7_leave : MethodName := ⟨RX7, "leave", "(I)I"⟩
abbrev cX7_isOff : ByteArray := prog_9_method_68_code
def yX7_isOff : MethodName := ⟨RX7, "isOff", "(I)Z"⟩
abbrev cX7_holdsFrom : ByteArray := prog_9_method_69_code
def yX7_holdsFrom : MethodName := ⟨RX7, "holdsFrom", "(I)I"⟩
abbrev cX7_holds : ByteArray := prog_9_method_70_code
def yX7_holds : MethodName := ⟨RX7, "holds", "(I)I"⟩
abbrev cX7_setAt : ByteArray := prog_9_method_71_code
def yX7_setAt : MethodName := ⟨RX7, "setAt", "()I"⟩
abbrev cX7_isStill : ByteArray := prog_9_method_72_code
def yX7_isStill : MethodName := ⟨RX7, "isStill", "(I)Z"⟩
abbrev cX7_steadyFrom : ByteArray := prog_9_method_73_code
def yX7_steadyFrom : MethodName := ⟨RX7, "steadyFrom", "()I"⟩
abbrev cX7_whoLast : ByteArray := prog_9_method_74_code
def yX7_whoLast : MethodName := ⟨RX7, "whoLast", "(I)I"⟩
abbrev cX7_when : ByteArray := prog_9_method_75_code
def yX7_when : MethodName := ⟨RX7, "when", "(I)I"⟩
abbrev cX7_row : ByteArray := prog_9_method_76_code
def yX7_row : MethodName := ⟨RX7, "row", "(I)I"⟩
abbrev cX7_firstOther : ByteArray := prog_9_method_77_code
def yX7_firstOther : MethodName := ⟨RX7, "firstOther", "()I"⟩
abbrev cX7_kept : ByteArray := prog_9_method_78_code
def yX7_kept : MethodName := ⟨RX7, "kept", "(I)I"⟩
abbrev cX7_judge : ByteArray := prog_9_method_79_code
def yX7_judge : MethodName := ⟨RX7, "judge", "()I"⟩
abbrev cX7_lots : ByteArray := prog_9_method_80_code
def yX7_lots : MethodName := ⟨RX7, "lots", "(II)I"⟩
abbrev cX7_count : ByteArray := prog_9_method_81_code
def yX7_count : MethodName := ⟨RX7, "count", "(I)I"⟩
def RJ11 : String := "java/lang/Character"
def TJ11 : u_T := fun k => match k with
  | _ => ("", "", "", false)
def tyJ11 : Nat → FieldType := fun k => match k with
  | _ => .int
abbrev wsJ110 : List Cond := u_ws RJ11 TJ11 0
theorem nmJ11 : ∀ a, a < 0 → ∀ b, b < 0 → a ≠ b → (TJ11 a).2.1 ≠ (TJ11 b).2.1 := by decide +kernel
theorem tyJ11_ok : ∀ k, k < 0 → parseFieldDescriptor (TJ11 k).2.2.1 = some (tyJ11 k) := by decide +kernel
abbrev cJ11_isValidCodePoint_9a6ad : ByteArray := prog_10_method_11_code
def yJ11_isValidCodePoint_9a6ad : MethodName := ⟨RJ11, "isValidCodePoint", "(I)Z"⟩
abbrev cJ11_highSurrogate_5068e : ByteArray := prog_10_method_28_code
def yJ11_highSurrogate_5068e : MethodName := ⟨RJ11, "highSurrogate", "(I)C"⟩
abbrev cJ11_lowSurrogate_5068e : ByteArray := prog_10_method_29_code
def yJ11_lowSurrogate_5068e : MethodName := ⟨RJ11, "lowSurrogate", "(I)C"⟩
def RJ9 : String := "java/lang/Math"
def TJ9 : u_T := fun k => match k with
  | _ => ("", "", "", false)
def tyJ9 : Nat → FieldType := fun k => match k with
  | _ => .int
abbrev wsJ90 : List Cond := u_ws RJ9 TJ9 0
theorem nmJ9 : ∀ a, a < 0 → ∀ b, b < 0 → a ≠ b → (TJ9 a).2.1 ≠ (TJ9 b).2.1 := by decide +kernel
theorem tyJ9_ok : ∀ k, k < 0 → parseFieldDescriptor (TJ9 k).2.2.1 = some (tyJ9 k) := by decide +kernel
abbrev cJ9_abs_0f7a4 : ByteArray := prog_11_method_59_code
def yJ9_abs_0f7a4 : MethodName := ⟨RJ9, "abs", "(I)I"⟩
abbrev cJ9_max_7cf53 : ByteArray := prog_11_method_65_code
def yJ9_max_7cf53 : MethodName := ⟨RJ9, "max", "(II)I"⟩
abbrev cJ9_min_7cf53 : ByteArray := prog_11_method_69_code
def yJ9_min_7cf53 : MethodName := ⟨RJ9, "min", "(II)I"⟩
def RJ0 : String := "java/lang/String"
def TJ0 : u_T := fun k => match k with
  | _ => ("", "", "", false)
def tyJ0 : Nat → FieldType := fun k => match k with
  | _ => .int
abbrev wsJ00 : List Cond := u_ws RJ0 TJ0 0
theorem nmJ0 : ∀ a, a < 0 → ∀ b, b < 0 → a ≠ b → (TJ0 a).2.1 ≠ (TJ0 b).2.1 := by decide +kernel
theorem tyJ0_ok : ∀ k, k < 0 → parseFieldDescriptor (TJ0 k).2.2.1 = some (tyJ0 k) := by decide +kernel
abbrev cJ0_length_8abf5 : ByteArray := prog_12_method_54_code
def yJ0_length_8abf5 : MethodName := ⟨RJ0, "length", "()I"⟩
abbrev cJ0_isEmpty_aae02 : ByteArray := prog_12_method_55_code
def yJ0_isEmpty_aae02 : MethodName := ⟨RJ0, "isEmpty", "()Z"⟩
abbrev cJ0_charAt_5068e : ByteArray := prog_12_method_56_code
def yJ0_charAt_5068e : MethodName := ⟨RJ0, "charAt", "(I)C"⟩
abbrev cJ0_indexOf_0f7a4 : ByteArray := prog_12_method_79_code
def yJ0_indexOf_0f7a4 : MethodName := ⟨RJ0, "indexOf", "(I)I"⟩
abbrev cJ0_indexOf_7cf53 : ByteArray := prog_12_method_80_code
def yJ0_indexOf_7cf53 : MethodName := ⟨RJ0, "indexOf", "(II)I"⟩
abbrev cJ0_coder_7d493 : ByteArray := prog_12_method_152_code
def yJ0_coder_7d493 : MethodName := ⟨RJ0, "coder", "()B"⟩
abbrev cJ0_isLatin1_aae02 : ByteArray := prog_12_method_154_code
def yJ0_isLatin1_aae02 : MethodName := ⟨RJ0, "isLatin1", "()Z"⟩
abbrev cJ0_checkIndex_df160 : ByteArray := prog_12_method_155_code
def yJ0_checkIndex_df160 : MethodName := ⟨RJ0, "checkIndex", "(II)V"⟩
abbrev cJ0_checkBoundsBeginEnd_23922 : ByteArray := prog_12_method_158_code
def yJ0_checkBoundsBeginEnd_23922 : MethodName := ⟨RJ0, "checkBoundsBeginEnd", "(III)V"⟩
def RJ1 : String := "java/lang/StringLatin1"
def TJ1 : u_T := fun k => match k with
  | _ => ("", "", "", false)
def tyJ1 : Nat → FieldType := fun k => match k with
  | _ => .int
abbrev wsJ10 : List Cond := u_ws RJ1 TJ1 0
theorem nmJ1 : ∀ a, a < 0 → ∀ b, b < 0 → a ≠ b → (TJ1 a).2.1 ≠ (TJ1 b).2.1 := by decide +kernel
theorem tyJ1_ok : ∀ k, k < 0 → parseFieldDescriptor (TJ1 k).2.2.1 = some (tyJ1 k) := by decide +kernel
abbrev cJ1_charAt_3b067 : ByteArray := prog_13_method_2_code
def yJ1_charAt_3b067 : MethodName := ⟨RJ1, "charAt", "([BI)C"⟩
abbrev cJ1_canEncode_9a6ad : ByteArray := prog_13_method_4_code
def yJ1_canEncode_9a6ad : MethodName := ⟨RJ1, "canEncode", "(I)Z"⟩
abbrev cJ1_indexOf_4cfef : ByteArray := prog_13_method_22_code
def yJ1_indexOf_4cfef : MethodName := ⟨RJ1, "indexOf", "([BIII)I"⟩
abbrev cJ1_indexOfChar_4cfef : ByteArray := prog_13_method_23_code
def yJ1_indexOfChar_4cfef : MethodName := ⟨RJ1, "indexOfChar", "([BIII)I"⟩
def RJ2 : String := "java/lang/StringUTF16"
def TJ2 : u_T := fun k => match k with
  | _ => ("", "", "", false)
def tyJ2 : Nat → FieldType := fun k => match k with
  | _ => .int
abbrev wsJ20 : List Cond := u_ws RJ2 TJ2 0
theorem nmJ2 : ∀ a, a < 0 → ∀ b, b < 0 → a ≠ b → (TJ2 a).2.1 ≠ (TJ2 b).2.1 := by decide +kernel
theorem tyJ2_ok : ∀ k, k < 0 → parseFieldDescriptor (TJ2 k).2.2.1 = some (tyJ2 k) := by decide +kernel
abbrev cJ2_getChar_3b067 : ByteArray := prog_14_method_5_code
def yJ2_getChar_3b067 : MethodName := ⟨RJ2, "getChar", "([BI)C"⟩
abbrev cJ2_length_9d52b : ByteArray := prog_14_method_6_code
def yJ2_length_9d52b : MethodName := ⟨RJ2, "length", "([B)I"⟩
abbrev cJ2_indexOf_4cfef : ByteArray := prog_14_method_40_code
def yJ2_indexOf_4cfef : MethodName := ⟨RJ2, "indexOf", "([BIII)I"⟩
abbrev cJ2_indexOfChar_4cfef : ByteArray := prog_14_method_47_code
def yJ2_indexOfChar_4cfef : MethodName := ⟨RJ2, "indexOfChar", "([BIII)I"⟩
abbrev cJ2_indexOfCharUnsafe_4cfef : ByteArray := prog_14_method_48_code
def yJ2_indexOfCharUnsafe_4cfef : MethodName := ⟨RJ2, "indexOfCharUnsafe", "([BIII)I"⟩
abbrev cJ2_indexOfSupplementary_4cfef : ByteArray := prog_14_method_49_code
def yJ2_indexOfSupplementary_4cfef : MethodName := ⟨RJ2, "indexOfSupplementary", "([BIII)I"⟩
abbrev cJ2_charAt_3b067 : ByteArray := prog_14_method_83_code
def yJ2_charAt_3b067 : MethodName := ⟨RJ2, "charAt", "([BI)C"⟩
abbrev cJ2_checkIndex_2214a : ByteArray := prog_14_method_91_code
def yJ2_checkIndex_2214a : MethodName := ⟨RJ2, "checkIndex", "(I[B)V"⟩
abbrev cJ2_checkBoundsBeginEnd_d044e : ByteArray := prog_14_method_93_code
def yJ2_checkBoundsBeginEnd_d044e : MethodName := ⟨RJ2, "checkBoundsBeginEnd", "(II[B)V"⟩
def RJ3 : String := "jdk/internal/util/Preconditions"
def TJ3 : u_T := fun k => match k with
  | _ => ("", "", "", false)
def tyJ3 : Nat → FieldType := fun k => match k with
  | _ => .int
abbrev wsJ30 : List Cond := u_ws RJ3 TJ3 0
theorem nmJ3 : ∀ a, a < 0 → ∀ b, b < 0 → a ≠ b → (TJ3 a).2.1 ≠ (TJ3 b).2.1 := by decide +kernel
theorem tyJ3_ok : ∀ k, k < 0 → parseFieldDescriptor (TJ3 k).2.2.1 = some (tyJ3 k) := by decide +kernel
abbrev cJ3_checkIndex_8e157 : ByteArray := prog_15_method_11_code
def yJ3_checkIndex_8e157 : MethodName := ⟨RJ3, "checkIndex", "(IILjava/util/function/BiFunction;)I"⟩
abbrev cJ3_checkFromToIndex_8c36e : ByteArray := prog_15_method_12_code
def yJ3_checkFromToIndex_8c36e : MethodName := ⟨RJ3, "checkFromToIndex", "(IIILjava/util/function/BiFunction;)I"⟩
def RL : String := "AHairToTheLeftLaw"
abbrev cL_law : ByteArray := code
def yL_law : MethodName := ⟨RL, "law", "([I)Z"⟩
abbrev vwCl : List vw_C := [(RX0, TX0, 6), (RX1, TX1, 2), (RX2, TX2, 9), (RX3, TX3, 6), (RX4, TX4, 3), (RX5, TX5, 2), (RX6, TX6, 9), (RX7, TX7, 36)]
/-- all words of the tables that stay good -/
def zAL : List Cond := lw_tbl.filter goodWord
theorem al_good : GoodIn lw_tbl zAL := fun w h => ⟨(List.mem_filter.mp h).1, good_of_word (List.mem_filter.mp h).2⟩
theorem al_m {w : Cond} (h : w ∈ tables_1) (hg : goodWord w = true) : w ∈ zAL := List.mem_filter.mpr ⟨List.mem_append_right _ h, hg⟩
theorem al_1 {w : Cond} (i : Nat) (h : tables_1_1[i]? = some w ∧ goodWord w = true) : w ∈ zAL := al_m (List.mem_append_left _ (List.mem_of_getElem? h.1)) h.2
theorem al_2 {w : Cond} (i : Nat) (h : tables_1_2[i]? = some w ∧ goodWord w = true) : w ∈ zAL := al_m (List.mem_append_right _ (List.mem_append_left _ (List.mem_of_getElem? h.1))) h.2
theorem al_3 {w : Cond} (i : Nat) (h : tables_1_3[i]? = some w ∧ goodWord w = true) : w ∈ zAL := al_m (List.mem_append_right _ (List.mem_append_right _ (List.mem_append_left _ (List.mem_of_getElem? h.1)))) h.2
theorem al_4 {w : Cond} (i : Nat) (h : tables_1_4[i]? = some w ∧ goodWord w = true) : w ∈ zAL := al_m (List.mem_append_right _ (List.mem_append_right _ (List.mem_append_right _ (List.mem_append_left _ (List.mem_of_getElem? h.1))))) h.2
theorem al_5 {w : Cond} (i : Nat) (h : tables_1_5[i]? = some w ∧ goodWord w = true) : w ∈ zAL := al_m (List.mem_append_right _ (List.mem_append_right _ (List.mem_append_right _ (List.mem_append_right _ (List.mem_of_getElem? h.1))))) h.2
/-- 'selects' of a private method -/
theorem al_s {q : MethodName × Nat} (i : Nat) (h : lw_privs[i]? = some q ∧ goodWord (Cond.selects q.1.cls q.1 q.1) = true) : Cond.selects q.1.cls q.1 q.1 ∈ zAL := List.mem_filter.mpr ⟨List.mem_append_left _ (List.mem_map.mpr ⟨q, List.mem_of_getElem? h.1, rfl⟩), h.2⟩
end
section
theorem dX0_init_0 : decode cX0_init 0 = .ok (.aload_n 0, 1) := by decide +kernel
theorem dX0_init_1 : decode cX0_init 1 = .ok (.invokespecial 3, 3) := by decide +kernel
theorem dX0_init_4 : decode cX0_init 4 = .ok (.aload_n 0, 1) := by decide +kernel
theorem dX0_init_5 : decode cX0_init 5 = .ok (.iconst 5, 1) := by decide +kernel
theorem dX0_init_6 : decode cX0_init 6 = .ok (.newarray .int, 2) := by decide +kernel
theorem dX0_init_8 : decode cX0_init 8 = .ok (.putfield 9, 3) := by decide +kernel
theorem dX0_init_11 : decode cX0_init 11 = .ok (.aload_n 0, 1) := by decide +kernel
theorem dX0_init_12 : decode cX0_init 12 = .ok (.iconst 5, 1) := by decide +kernel
theorem dX0_init_13 : decode cX0_init 13 = .ok (.newarray .int, 2) := by decide +kernel
theorem dX0_init_15 : decode cX0_init 15 = .ok (.putfield 15, 3) := by decide +kernel
theorem dX0_init_18 : decode cX0_init 18 = .ok (.aload_n 0, 1) := by decide +kernel
theorem dX0_init_19 : decode cX0_init 19 = .ok (.iconst 5, 1) := by decide +kernel
theorem dX0_init_20 : decode cX0_init 20 = .ok (.newarray .int, 2) := by decide +kernel
theorem dX0_init_22 : decode cX0_init 22 = .ok (.putfield 18, 3) := by decide +kernel
theorem dX0_init_25 : decode cX0_init 25 = .ok (.aload_n 0, 1) := by decide +kernel
theorem dX0_init_26 : decode cX0_init 26 = .ok (.bipush (-9), 2) := by decide +kernel
theorem dX0_init_28 : decode cX0_init 28 = .ok (.putfield 21, 3) := by decide +kernel
theorem dX0_init_31 : decode cX0_init 31 = .ok (.return_, 1) := by decide +kernel
theorem dX0_clear_0 : decode cX0_clear 0 = .ok (.iconst 0, 1) := by decide +kernel
theorem dX0_clear_1 : decode cX0_clear 1 = .ok (.istore_n 1, 1) := by decide +kernel
theorem dX0_clear_2 : decode cX0_clear 2 = .ok (.iload_n 1, 1) := by decide +kernel
theorem dX0_clear_3 : decode cX0_clear 3 = .ok (.iconst 5, 1) := by decide +kernel
theorem dX0_clear_4 : decode cX0_clear 4 = .ok (.if_icmp .ge 30, 3) := by decide +kernel
theorem dX0_clear_7 : decode cX0_clear 7 = .ok (.aload_n 0, 1) := by decide +kernel
theorem dX0_clear_8 : decode cX0_clear 8 = .ok (.getfield 9, 3) := by decide +kernel
theorem dX0_clear_11 : decode cX0_clear 11 = .ok (.iload_n 1, 1) := by decide +kernel
theorem dX0_clear_12 : decode cX0_clear 12 = .ok (.iconst 0, 1) := by decide +kernel
theorem dX0_clear_13 : decode cX0_clear 13 = .ok (.iastore, 1) := by decide +kernel
theorem dX0_clear_14 : decode cX0_clear 14 = .ok (.aload_n 0, 1) := by decide +kernel
theorem dX0_clear_15 : decode cX0_clear 15 = .ok (.getfield 15, 3) := by decide +kernel
theorem dX0_clear_18 : decode cX0_clear 18 = .ok (.iload_n 1, 1) := by decide +kernel
theorem dX0_clear_19 : decode cX0_clear 19 = .ok (.iconst 0, 1) := by decide +kernel
theorem dX0_clear_20 : decode cX0_clear 20 = .ok (.iastore, 1) := by decide +kernel
theorem dX0_clear_21 : decode cX0_clear 21 = .ok (.aload_n 0, 1) := by decide +kernel
theorem dX0_clear_22 : decode cX0_clear 22 = .ok (.getfield 18, 3) := by decide +kernel
theorem dX0_clear_25 : decode cX0_clear 25 = .ok (.iload_n 1, 1) := by decide +kernel
theorem dX0_clear_26 : decode cX0_clear 26 = .ok (.iconst 0, 1) := by decide +kernel
theorem dX0_clear_27 : decode cX0_clear 27 = .ok (.iastore, 1) := by decide +kernel
theorem dX0_clear_28 : decode cX0_clear 28 = .ok (.iinc 1 1, 3) := by decide +kernel
theorem dX0_clear_31 : decode cX0_clear 31 = .ok (.goto (-29), 3) := by decide +kernel
theorem dX0_clear_34 : decode cX0_clear 34 = .ok (.aload_n 0, 1) := by decide +kernel
theorem dX0_clear_35 : decode cX0_clear 35 = .ok (.iconst 0, 1) := by decide +kernel
theorem dX0_clear_36 : decode cX0_clear 36 = .ok (.putfield 25, 3) := by decide +kernel
theorem dX0_clear_39 : decode cX0_clear 39 = .ok (.aload_n 0, 1) := by decide +kernel
theorem dX0_clear_40 : decode cX0_clear 40 = .ok (.iconst 0, 1) := by decide +kernel
theorem dX0_clear_41 : decode cX0_clear 41 = .ok (.putfield 28, 3) := by decide +kernel
theorem dX0_clear_44 : decode cX0_clear 44 = .ok (.aload_n 0, 1) := by decide +kernel
theorem dX0_clear_45 : decode cX0_clear 45 = .ok (.bipush (-9), 2) := by decide +kernel
theorem dX0_clear_47 : decode cX0_clear 47 = .ok (.putfield 21, 3) := by decide +kernel
theorem dX0_clear_50 : decode cX0_clear 50 = .ok (.return_, 1) := by decide +kernel
theorem dX0_noteUp_0 : decode cX0_noteUp 0 = .ok (.iload_n 1, 1) := by decide +kernel
theorem dX0_noteUp_1 : decode cX0_noteUp 1 = .ok (.ifCond .lt 33, 3) := by decide +kernel
theorem dX0_noteUp_4 : decode cX0_noteUp 4 = .ok (.iload_n 1, 1) := by decide +kernel
theorem dX0_noteUp_5 : decode cX0_noteUp 5 = .ok (.iconst 5, 1) := by decide +kernel
theorem dX0_noteUp_6 : decode cX0_noteUp 6 = .ok (.if_icmp .ge 28, 3) := by decide +kernel
theorem dX0_noteUp_9 : decode cX0_noteUp 9 = .ok (.aload_n 0, 1) := by decide +kernel
theorem dX0_noteUp_10 : decode cX0_noteUp 10 = .ok (.getfield 15, 3) := by decide +kernel
theorem dX0_noteUp_13 : decode cX0_noteUp 13 = .ok (.iload_n 1, 1) := by decide +kernel
theorem dX0_noteUp_14 : decode cX0_noteUp 14 = .ok (.dup2, 1) := by decide +kernel
theorem dX0_noteUp_15 : decode cX0_noteUp 15 = .ok (.iaload, 1) := by decide +kernel
theorem dX0_noteUp_16 : decode cX0_noteUp 16 = .ok (.iconst 1, 1) := by decide +kernel
theorem dX0_noteUp_17 : decode cX0_noteUp 17 = .ok (.iadd, 1) := by decide +kernel
theorem dX0_noteUp_18 : decode cX0_noteUp 18 = .ok (.iastore, 1) := by decide +kernel
theorem dX0_noteUp_19 : decode cX0_noteUp 19 = .ok (.aload_n 0, 1) := by decide +kernel
theorem dX0_noteUp_20 : decode cX0_noteUp 20 = .ok (.getfield 18, 3) := by decide +kernel
theorem dX0_noteUp_23 : decode cX0_noteUp 23 = .ok (.iload_n 1, 1) := by decide +kernel
theorem dX0_noteUp_24 : decode cX0_noteUp 24 = .ok (.dup2, 1) := by decide +kernel
theorem dX0_noteUp_25 : decode cX0_noteUp 25 = .ok (.iaload, 1) := by decide +kernel
theorem dX0_noteUp_26 : decode cX0_noteUp 26 = .ok (.iload_n 2, 1) := by decide +kernel
theorem dX0_noteUp_27 : decode cX0_noteUp 27 = .ok (.iadd, 1) := by decide +kernel
theorem dX0_noteUp_28 : decode cX0_noteUp 28 = .ok (.iastore, 1) := by decide +kernel
theorem dX0_noteUp_29 : decode cX0_noteUp 29 = .ok (.aload_n 0, 1) := by decide +kernel
theorem dX0_noteUp_30 : decode cX0_noteUp 30 = .ok (.iload_n 1, 1) := by decide +kernel
theorem dX0_noteUp_31 : decode cX0_noteUp 31 = .ok (.putfield 21, 3) := by decide +kernel
theorem dX0_noteUp_34 : decode cX0_noteUp 34 = .ok (.return_, 1) := by decide +kernel
theorem dX0_noteBother_0 : decode cX0_noteBother 0 = .ok (.iload_n 1, 1) := by decide +kernel
theorem dX0_noteBother_1 : decode cX0_noteBother 1 = .ok (.ifCond .lt 18, 3) := by decide +kernel
theorem dX0_noteBother_4 : decode cX0_noteBother 4 = .ok (.iload_n 1, 1) := by decide +kernel
theorem dX0_noteBother_5 : decode cX0_noteBother 5 = .ok (.iconst 5, 1) := by decide +kernel
theorem dX0_noteBother_6 : decode cX0_noteBother 6 = .ok (.if_icmp .ge 13, 3) := by decide +kernel
theorem dX0_noteBother_9 : decode cX0_noteBother 9 = .ok (.aload_n 0, 1) := by decide +kernel
theorem dX0_noteBother_10 : decode cX0_noteBother 10 = .ok (.getfield 9, 3) := by decide +kernel
theorem dX0_noteBother_13 : decode cX0_noteBother 13 = .ok (.iload_n 1, 1) := by decide +kernel
theorem dX0_noteBother_14 : decode cX0_noteBother 14 = .ok (.dup2, 1) := by decide +kernel
theorem dX0_noteBother_15 : decode cX0_noteBother 15 = .ok (.iaload, 1) := by decide +kernel
theorem dX0_noteBother_16 : decode cX0_noteBother 16 = .ok (.iload_n 2, 1) := by decide +kernel
theorem dX0_noteBother_17 : decode cX0_noteBother 17 = .ok (.iadd, 1) := by decide +kernel
theorem dX0_noteBother_18 : decode cX0_noteBother 18 = .ok (.iastore, 1) := by decide +kernel
theorem dX0_noteBother_19 : decode cX0_noteBother 19 = .ok (.return_, 1) := by decide +kernel
theorem dX0_noteOff_0 : decode cX0_noteOff 0 = .ok (.aload_n 0, 1) := by decide +kernel
theorem dX0_noteOff_1 : decode cX0_noteOff 1 = .ok (.aload_n 0, 1) := by decide +kernel
theorem dX0_noteOff_2 : decode cX0_noteOff 2 = .ok (.getfield 25, 3) := by decide +kernel
theorem dX0_noteOff_5 : decode cX0_noteOff 5 = .ok (.iload_n 1, 1) := by decide +kernel
theorem dX0_noteOff_6 : decode cX0_noteOff 6 = .ok (.invokestatic 31, 3) := by decide +kernel
theorem dX0_noteOff_9 : decode cX0_noteOff 9 = .ok (.putfield 25, 3) := by decide +kernel
theorem dX0_noteOff_12 : decode cX0_noteOff 12 = .ok (.aload_n 0, 1) := by decide +kernel
theorem dX0_noteOff_13 : decode cX0_noteOff 13 = .ok (.aload_n 0, 1) := by decide +kernel
theorem dX0_noteOff_14 : decode cX0_noteOff 14 = .ok (.getfield 28, 3) := by decide +kernel
theorem dX0_noteOff_17 : decode cX0_noteOff 17 = .ok (.iload_n 2, 1) := by decide +kernel
theorem dX0_noteOff_18 : decode cX0_noteOff 18 = .ok (.invokestatic 31, 3) := by decide +kernel
theorem dX0_noteOff_21 : decode cX0_noteOff 21 = .ok (.putfield 28, 3) := by decide +kernel
theorem dX0_noteOff_24 : decode cX0_noteOff 24 = .ok (.return_, 1) := by decide +kernel
theorem dX0_told_0 : decode cX0_told 0 = .ok (.iload_n 1, 1) := by decide +kernel
theorem dX0_told_1 : decode cX0_told 1 = .ok (.tableswitch 54 0 3 #[31, 36, 41, 49], 31) := by decide +kernel
theorem dX0_told_32 : decode cX0_told 32 = .ok (.aload_n 0, 1) := by decide +kernel
theorem dX0_told_33 : decode cX0_told 33 = .ok (.invokevirtual 37, 3) := by decide +kernel
theorem dX0_told_36 : decode cX0_told 36 = .ok (.ireturn, 1) := by decide +kernel
theorem dX0_told_37 : decode cX0_told 37 = .ok (.aload_n 0, 1) := by decide +kernel
theorem dX0_told_38 : decode cX0_told 38 = .ok (.invokevirtual 41, 3) := by decide +kernel
theorem dX0_told_41 : decode cX0_told 41 = .ok (.ireturn, 1) := by decide +kernel
theorem dX0_told_42 : decode cX0_told 42 = .ok (.aload_n 0, 1) := by decide +kernel
theorem dX0_told_43 : decode cX0_told 43 = .ok (.getfield 18, 3) := by decide +kernel
theorem dX0_told_46 : decode cX0_told 46 = .ok (.invokestatic 44, 3) := by decide +kernel
theorem dX0_told_49 : decode cX0_told 49 = .ok (.ireturn, 1) := by decide +kernel
theorem dX0_told_50 : decode cX0_told 50 = .ok (.aload_n 0, 1) := by decide +kernel
theorem dX0_told_51 : decode cX0_told 51 = .ok (.getfield 25, 3) := by decide +kernel
theorem dX0_told_54 : decode cX0_told 54 = .ok (.ireturn, 1) := by decide +kernel
theorem dX0_told_55 : decode cX0_told 55 = .ok (.aload_n 0, 1) := by decide +kernel
theorem dX0_told_56 : decode cX0_told 56 = .ok (.getfield 28, 3) := by decide +kernel
theorem dX0_told_59 : decode cX0_told 59 = .ok (.ireturn, 1) := by decide +kernel
theorem dX0_toldOf_0 : decode cX0_toldOf 0 = .ok (.iload_n 1, 1) := by decide +kernel
theorem dX0_toldOf_1 : decode cX0_toldOf 1 = .ok (.ifCond .lt 8, 3) := by decide +kernel
theorem dX0_toldOf_4 : decode cX0_toldOf 4 = .ok (.iload_n 1, 1) := by decide +kernel
theorem dX0_toldOf_5 : decode cX0_toldOf 5 = .ok (.iconst 5, 1) := by decide +kernel
theorem dX0_toldOf_6 : decode cX0_toldOf 6 = .ok (.if_icmp .lt 5, 3) := by decide +kernel
theorem dX0_toldOf_9 : decode cX0_toldOf 9 = .ok (.iconst 0, 1) := by decide +kernel
theorem dX0_toldOf_10 : decode cX0_toldOf 10 = .ok (.ireturn, 1) := by decide +kernel
theorem dX0_toldOf_11 : decode cX0_toldOf 11 = .ok (.iload_n 2, 1) := by decide +kernel
theorem dX0_toldOf_12 : decode cX0_toldOf 12 = .ok (.lookupswitch 42 #[(0, 28), (1, 35)], 28) := by decide +kernel
theorem dX0_toldOf_40 : decode cX0_toldOf 40 = .ok (.aload_n 0, 1) := by decide +kernel
theorem dX0_toldOf_41 : decode cX0_toldOf 41 = .ok (.getfield 9, 3) := by decide +kernel
theorem dX0_toldOf_44 : decode cX0_toldOf 44 = .ok (.iload_n 1, 1) := by decide +kernel
theorem dX0_toldOf_45 : decode cX0_toldOf 45 = .ok (.iaload, 1) := by decide +kernel
theorem dX0_toldOf_46 : decode cX0_toldOf 46 = .ok (.ireturn, 1) := by decide +kernel
theorem dX0_toldOf_47 : decode cX0_toldOf 47 = .ok (.aload_n 0, 1) := by decide +kernel
theorem dX0_toldOf_48 : decode cX0_toldOf 48 = .ok (.getfield 15, 3) := by decide +kernel
theorem dX0_toldOf_51 : decode cX0_toldOf 51 = .ok (.iload_n 1, 1) := by decide +kernel
theorem dX0_toldOf_52 : decode cX0_toldOf 52 = .ok (.iaload, 1) := by decide +kernel
theorem dX0_toldOf_53 : decode cX0_toldOf 53 = .ok (.ireturn, 1) := by decide +kernel
theorem dX0_toldOf_54 : decode cX0_toldOf 54 = .ok (.aload_n 0, 1) := by decide +kernel
theorem dX0_toldOf_55 : decode cX0_toldOf 55 = .ok (.getfield 9, 3) := by decide +kernel
theorem dX0_toldOf_58 : decode cX0_toldOf 58 = .ok (.iload_n 1, 1) := by decide +kernel
theorem dX0_toldOf_59 : decode cX0_toldOf 59 = .ok (.iaload, 1) := by decide +kernel
theorem dX0_toldOf_60 : decode cX0_toldOf 60 = .ok (.aload_n 0, 1) := by decide +kernel
theorem dX0_toldOf_61 : decode cX0_toldOf 61 = .ok (.getfield 18, 3) := by decide +kernel
theorem dX0_toldOf_64 : decode cX0_toldOf 64 = .ok (.iload_n 1, 1) := by decide +kernel
theorem dX0_toldOf_65 : decode cX0_toldOf 65 = .ok (.iaload, 1) := by decide +kernel
theorem dX0_toldOf_66 : decode cX0_toldOf 66 = .ok (.iadd, 1) := by decide +kernel
theorem dX0_toldOf_67 : decode cX0_toldOf 67 = .ok (.ireturn, 1) := by decide +kernel
theorem dX0_allCost_0 : decode cX0_allCost 0 = .ok (.aload_n 0, 1) := by decide +kernel
theorem dX0_allCost_1 : decode cX0_allCost 1 = .ok (.getfield 9, 3) := by decide +kernel
theorem dX0_allCost_4 : decode cX0_allCost 4 = .ok (.invokestatic 44, 3) := by decide +kernel
theorem dX0_allCost_7 : decode cX0_allCost 7 = .ok (.aload_n 0, 1) := by decide +kernel
theorem dX0_allCost_8 : decode cX0_allCost 8 = .ok (.getfield 18, 3) := by decide +kernel
theorem dX0_allCost_11 : decode cX0_allCost 11 = .ok (.invokestatic 44, 3) := by decide +kernel
theorem dX0_allCost_14 : decode cX0_allCost 14 = .ok (.iadd, 1) := by decide +kernel
theorem dX0_allCost_15 : decode cX0_allCost 15 = .ok (.ireturn, 1) := by decide +kernel
theorem dX0_allUps_0 : decode cX0_allUps 0 = .ok (.aload_n 0, 1) := by decide +kernel
theorem dX0_allUps_1 : decode cX0_allUps 1 = .ok (.getfield 15, 3) := by decide +kernel
theorem dX0_allUps_4 : decode cX0_allUps 4 = .ok (.invokestatic 44, 3) := by decide +kernel
theorem dX0_allUps_7 : decode cX0_allUps 7 = .ok (.ireturn, 1) := by decide +kernel
theorem dX0_sum_0 : decode cX0_sum 0 = .ok (.iconst 0, 1) := by decide +kernel
theorem dX0_sum_1 : decode cX0_sum 1 = .ok (.istore_n 1, 1) := by decide +kernel
theorem dX0_sum_2 : decode cX0_sum 2 = .ok (.iconst 0, 1) := by decide +kernel
theorem dX0_sum_3 : decode cX0_sum 3 = .ok (.istore_n 2, 1) := by decide +kernel
theorem dX0_sum_4 : decode cX0_sum 4 = .ok (.iload_n 2, 1) := by decide +kernel
theorem dX0_sum_5 : decode cX0_sum 5 = .ok (.aload_n 0, 1) := by decide +kernel
theorem dX0_sum_6 : decode cX0_sum 6 = .ok (.arraylength, 1) := by decide +kernel
theorem dX0_sum_7 : decode cX0_sum 7 = .ok (.if_icmp .ge 15, 3) := by decide +kernel
theorem dX0_sum_10 : decode cX0_sum 10 = .ok (.iload_n 1, 1) := by decide +kernel
theorem dX0_sum_11 : decode cX0_sum 11 = .ok (.aload_n 0, 1) := by decide +kernel
theorem dX0_sum_12 : decode cX0_sum 12 = .ok (.iload_n 2, 1) := by decide +kernel
theorem dX0_sum_13 : decode cX0_sum 13 = .ok (.iaload, 1) := by decide +kernel
theorem dX0_sum_14 : decode cX0_sum 14 = .ok (.iadd, 1) := by decide +kernel
theorem dX0_sum_15 : decode cX0_sum 15 = .ok (.istore_n 1, 1) := by decide +kernel
theorem dX0_sum_16 : decode cX0_sum 16 = .ok (.iinc 2 1, 3) := by decide +kernel
theorem dX0_sum_19 : decode cX0_sum 19 = .ok (.goto (-15), 3) := by decide +kernel
theorem dX0_sum_22 : decode cX0_sum 22 = .ok (.iload_n 1, 1) := by decide +kernel
theorem dX0_sum_23 : decode cX0_sum 23 = .ok (.ireturn, 1) := by decide +kernel
theorem dX1_init_0 : decode cX1_init 0 = .ok (.aload_n 0, 1) := by decide +kernel
theorem dX1_init_1 : decode cX1_init 1 = .ok (.invokespecial 1, 3) := by decide +kernel
theorem dX1_init_4 : decode cX1_init 4 = .ok (.aload_n 0, 1) := by decide +kernel
theorem dX1_init_5 : decode cX1_init 5 = .ok (.iconst 0, 1) := by decide +kernel
theorem dX1_init_6 : decode cX1_init 6 = .ok (.putfield 7, 3) := by decide +kernel
theorem dX1_init_9 : decode cX1_init 9 = .ok (.aload_n 0, 1) := by decide +kernel
theorem dX1_init_10 : decode cX1_init 10 = .ok (.iconst 1, 1) := by decide +kernel
theorem dX1_init_11 : decode cX1_init 11 = .ok (.putfield 13, 3) := by decide +kernel
theorem dX1_init_14 : decode cX1_init 14 = .ok (.return_, 1) := by decide +kernel
theorem dX1_become_0 : decode cX1_become 0 = .ok (.aload_n 0, 1) := by decide +kernel
theorem dX1_become_1 : decode cX1_become 1 = .ok (.aload_n 1, 1) := by decide +kernel
theorem dX1_become_2 : decode cX1_become 2 = .ok (.getfield 7, 3) := by decide +kernel
theorem dX1_become_5 : decode cX1_become 5 = .ok (.putfield 7, 3) := by decide +kernel
theorem dX1_become_8 : decode cX1_become 8 = .ok (.aload_n 0, 1) := by decide +kernel
theorem dX1_become_9 : decode cX1_become 9 = .ok (.aload_n 1, 1) := by decide +kernel
theorem dX1_become_10 : decode cX1_become 10 = .ok (.getfield 13, 3) := by decide +kernel
theorem dX1_become_13 : decode cX1_become 13 = .ok (.putfield 13, 3) := by decide +kernel
theorem dX1_become_16 : decode cX1_become 16 = .ok (.return_, 1) := by decide +kernel
theorem dX1_amountIn_0 : decode cX1_amountIn 0 = .ok (.aload_n 0, 1) := by decide +kernel
theorem dX1_amountIn_1 : decode cX1_amountIn 1 = .ok (.getfield 7, 3) := by decide +kernel
theorem dX1_amountIn_4 : decode cX1_amountIn 4 = .ok (.tableswitch 86 1 4 #[32, 38, 47, 64], 32) := by decide +kernel
theorem dX1_amountIn_36 : decode cX1_amountIn 36 = .ok (.aload_n 0, 1) := by decide +kernel
theorem dX1_amountIn_37 : decode cX1_amountIn 37 = .ok (.iload_n 1, 1) := by decide +kernel
theorem dX1_amountIn_38 : decode cX1_amountIn 38 = .ok (.invokevirtual 16, 3) := by decide +kernel
theorem dX1_amountIn_41 : decode cX1_amountIn 41 = .ok (.ireturn, 1) := by decide +kernel
theorem dX1_amountIn_42 : decode cX1_amountIn 42 = .ok (.aload_n 0, 1) := by decide +kernel
theorem dX1_amountIn_43 : decode cX1_amountIn 43 = .ok (.iload_n 1, 1) := by decide +kernel
theorem dX1_amountIn_44 : decode cX1_amountIn 44 = .ok (.bipush 20, 2) := by decide +kernel
theorem dX1_amountIn_46 : decode cX1_amountIn 46 = .ok (.idiv, 1) := by decide +kernel
theorem dX1_amountIn_47 : decode cX1_amountIn 47 = .ok (.invokevirtual 20, 3) := by decide +kernel
theorem dX1_amountIn_50 : decode cX1_amountIn 50 = .ok (.ireturn, 1) := by decide +kernel
theorem dX1_amountIn_51 : decode cX1_amountIn 51 = .ok (.iload_n 1, 1) := by decide +kernel
theorem dX1_amountIn_52 : decode cX1_amountIn 52 = .ok (.iconst 3, 1) := by decide +kernel
theorem dX1_amountIn_53 : decode cX1_amountIn 53 = .ok (.irem, 1) := by decide +kernel
theorem dX1_amountIn_54 : decode cX1_amountIn 54 = .ok (.ifCond .ne 12, 3) := by decide +kernel
theorem dX1_amountIn_57 : decode cX1_amountIn 57 = .ok (.iconst 3, 1) := by decide +kernel
theorem dX1_amountIn_58 : decode cX1_amountIn 58 = .ok (.aload_n 0, 1) := by decide +kernel
theorem dX1_amountIn_59 : decode cX1_amountIn 59 = .ok (.getfield 13, 3) := by decide +kernel
theorem dX1_amountIn_62 : decode cX1_amountIn 62 = .ok (.imul, 1) := by decide +kernel
theorem dX1_amountIn_63 : decode cX1_amountIn 63 = .ok (.goto 4, 3) := by decide +kernel
theorem dX1_amountIn_66 : decode cX1_amountIn 66 = .ok (.iconst 0, 1) := by decide +kernel
theorem dX1_amountIn_67 : decode cX1_amountIn 67 = .ok (.ireturn, 1) := by decide +kernel
theorem dX1_amountIn_68 : decode cX1_amountIn 68 = .ok (.iload_n 1, 1) := by decide +kernel
theorem dX1_amountIn_69 : decode cX1_amountIn 69 = .ok (.iconst 2, 1) := by decide +kernel
theorem dX1_amountIn_70 : decode cX1_amountIn 70 = .ok (.irem, 1) := by decide +kernel
theorem dX1_amountIn_71 : decode cX1_amountIn 71 = .ok (.ifCond .ne 13, 3) := by decide +kernel
theorem dX1_amountIn_74 : decode cX1_amountIn 74 = .ok (.aload_n 0, 1) := by decide +kernel
theorem dX1_amountIn_75 : decode cX1_amountIn 75 = .ok (.iload_n 1, 1) := by decide +kernel
theorem dX1_amountIn_76 : decode cX1_amountIn 76 = .ok (.invokevirtual 16, 3) := by decide +kernel
theorem dX1_amountIn_79 : decode cX1_amountIn 79 = .ok (.iconst 1, 1) := by decide +kernel
theorem dX1_amountIn_80 : decode cX1_amountIn 80 = .ok (.iadd, 1) := by decide +kernel
theorem dX1_amountIn_81 : decode cX1_amountIn 81 = .ok (.goto 8, 3) := by decide +kernel
theorem dX1_amountIn_84 : decode cX1_amountIn 84 = .ok (.aload_n 0, 1) := by decide +kernel
theorem dX1_amountIn_85 : decode cX1_amountIn 85 = .ok (.iload_n 1, 1) := by decide +kernel
theorem dX1_amountIn_86 : decode cX1_amountIn 86 = .ok (.invokevirtual 16, 3) := by decide +kernel
theorem dX1_amountIn_89 : decode cX1_amountIn 89 = .ok (.ireturn, 1) := by decide +kernel
theorem dX1_amountIn_90 : decode cX1_amountIn 90 = .ok (.aload_n 0, 1) := by decide +kernel
theorem dX1_amountIn_91 : decode cX1_amountIn 91 = .ok (.getfield 13, 3) := by decide +kernel
theorem dX1_amountIn_94 : decode cX1_amountIn 94 = .ok (.ireturn, 1) := by decide +kernel
theorem dX1_swinging_0 : decode cX1_swinging 0 = .ok (.iload_n 1, 1) := by decide +kernel
theorem dX1_swinging_1 : decode cX1_swinging 1 = .ok (.bipush 10, 2) := by decide +kernel
theorem dX1_swinging_3 : decode cX1_swinging 3 = .ok (.idiv, 1) := by decide +kernel
theorem dX1_swinging_4 : decode cX1_swinging 4 = .ok (.iconst 2, 1) := by decide +kernel
theorem dX1_swinging_5 : decode cX1_swinging 5 = .ok (.irem, 1) := by decide +kernel
theorem dX1_swinging_6 : decode cX1_swinging 6 = .ok (.ifCond .ne 10, 3) := by decide +kernel
theorem dX1_swinging_9 : decode cX1_swinging 9 = .ok (.aload_n 0, 1) := by decide +kernel
theorem dX1_swinging_10 : decode cX1_swinging 10 = .ok (.getfield 13, 3) := by decide +kernel
theorem dX1_swinging_13 : decode cX1_swinging 13 = .ok (.goto 8, 3) := by decide +kernel
theorem dX1_swinging_16 : decode cX1_swinging 16 = .ok (.aload_n 0, 1) := by decide +kernel
theorem dX1_swinging_17 : decode cX1_swinging 17 = .ok (.getfield 13, 3) := by decide +kernel
theorem dX1_swinging_20 : decode cX1_swinging 20 = .ok (.ineg, 1) := by decide +kernel
theorem dX1_swinging_21 : decode cX1_swinging 21 = .ok (.ireturn, 1) := by decide +kernel
theorem dX1_cooled_0 : decode cX1_cooled 0 = .ok (.aload_n 0, 1) := by decide +kernel
theorem dX1_cooled_1 : decode cX1_cooled 1 = .ok (.getfield 13, 3) := by decide +kernel
theorem dX1_cooled_4 : decode cX1_cooled 4 = .ok (.ifCond .le 16, 3) := by decide +kernel
theorem dX1_cooled_7 : decode cX1_cooled 7 = .ok (.iconst 0, 1) := by decide +kernel
theorem dX1_cooled_8 : decode cX1_cooled 8 = .ok (.aload_n 0, 1) := by decide +kernel
theorem dX1_cooled_9 : decode cX1_cooled 9 = .ok (.getfield 13, 3) := by decide +kernel
theorem dX1_cooled_12 : decode cX1_cooled 12 = .ok (.iload_n 1, 1) := by decide +kernel
theorem dX1_cooled_13 : decode cX1_cooled 13 = .ok (.isub, 1) := by decide +kernel
theorem dX1_cooled_14 : decode cX1_cooled 14 = .ok (.invokestatic 23, 3) := by decide +kernel
theorem dX1_cooled_17 : decode cX1_cooled 17 = .ok (.goto 13, 3) := by decide +kernel
theorem dX1_cooled_20 : decode cX1_cooled 20 = .ok (.iconst 0, 1) := by decide +kernel
theorem dX1_cooled_21 : decode cX1_cooled 21 = .ok (.aload_n 0, 1) := by decide +kernel
theorem dX1_cooled_22 : decode cX1_cooled 22 = .ok (.getfield 13, 3) := by decide +kernel
theorem dX1_cooled_25 : decode cX1_cooled 25 = .ok (.iload_n 1, 1) := by decide +kernel
theorem dX1_cooled_26 : decode cX1_cooled 26 = .ok (.iadd, 1) := by decide +kernel
theorem dX1_cooled_27 : decode cX1_cooled 27 = .ok (.invokestatic 29, 3) := by decide +kernel
theorem dX1_cooled_30 : decode cX1_cooled 30 = .ok (.ireturn, 1) := by decide +kernel
theorem dX2_init_0 : decode cX2_init 0 = .ok (.aload_n 0, 1) := by decide +kernel
theorem dX2_init_1 : decode cX2_init 1 = .ok (.invokespecial 3, 3) := by decide +kernel
theorem dX2_init_4 : decode cX2_init 4 = .ok (.aload_n 0, 1) := by decide +kernel
theorem dX2_init_5 : decode cX2_init 5 = .ok (.bipush 6, 2) := by decide +kernel
theorem dX2_init_7 : decode cX2_init 7 = .ok (.putfield 9, 3) := by decide +kernel
theorem dX2_init_10 : decode cX2_init 10 = .ok (.aload_n 0, 1) := by decide +kernel
theorem dX2_init_11 : decode cX2_init 11 = .ok (.new 15, 3) := by decide +kernel
theorem dX2_init_14 : decode cX2_init 14 = .ok (.dup, 1) := by decide +kernel
theorem dX2_init_15 : decode cX2_init 15 = .ok (.invokespecial 17, 3) := by decide +kernel
theorem dX2_init_18 : decode cX2_init 18 = .ok (.putfield 18, 3) := by decide +kernel
theorem dX2_init_21 : decode cX2_init 21 = .ok (.aload_n 0, 1) := by decide +kernel
theorem dX2_init_22 : decode cX2_init 22 = .ok (.new 22, 3) := by decide +kernel
theorem dX2_init_25 : decode cX2_init 25 = .ok (.dup, 1) := by decide +kernel
theorem dX2_init_26 : decode cX2_init 26 = .ok (.invokespecial 24, 3) := by decide +kernel
theorem dX2_init_29 : decode cX2_init 29 = .ok (.putfield 25, 3) := by decide +kernel
theorem dX2_init_32 : decode cX2_init 32 = .ok (.aload_n 0, 1) := by decide +kernel
theorem dX2_init_33 : decode cX2_init 33 = .ok (.iconst 5, 1) := by decide +kernel
theorem dX2_init_34 : decode cX2_init 34 = .ok (.anewarray 29, 3) := by decide +kernel
theorem dX2_init_37 : decode cX2_init 37 = .ok (.putfield 31, 3) := by decide +kernel
theorem dX2_init_40 : decode cX2_init 40 = .ok (.iconst 0, 1) := by decide +kernel
theorem dX2_init_41 : decode cX2_init 41 = .ok (.istore_n 1, 1) := by decide +kernel
theorem dX2_init_42 : decode cX2_init 42 = .ok (.iload_n 1, 1) := by decide +kernel
theorem dX2_init_43 : decode cX2_init 43 = .ok (.iconst 5, 1) := by decide +kernel
theorem dX2_init_44 : decode cX2_init 44 = .ok (.if_icmp .ge 22, 3) := by decide +kernel
theorem dX2_init_47 : decode cX2_init 47 = .ok (.aload_n 0, 1) := by decide +kernel
theorem dX2_init_48 : decode cX2_init 48 = .ok (.getfield 31, 3) := by decide +kernel
theorem dX2_init_51 : decode cX2_init 51 = .ok (.iload_n 1, 1) := by decide +kernel
theorem dX2_init_52 : decode cX2_init 52 = .ok (.new 29, 3) := by decide +kernel
theorem dX2_init_55 : decode cX2_init 55 = .ok (.dup, 1) := by decide +kernel
theorem dX2_init_56 : decode cX2_init 56 = .ok (.invokespecial 35, 3) := by decide +kernel
theorem dX2_init_59 : decode cX2_init 59 = .ok (.aastore, 1) := by decide +kernel
theorem dX2_init_60 : decode cX2_init 60 = .ok (.iinc 1 1, 3) := by decide +kernel
theorem dX2_init_63 : decode cX2_init 63 = .ok (.goto (-21), 3) := by decide +kernel
theorem dX2_init_66 : decode cX2_init 66 = .ok (.return_, 1) := by decide +kernel
theorem dX2_become_0 : decode cX2_become 0 = .ok (.aload_n 0, 1) := by decide +kernel
theorem dX2_become_1 : decode cX2_become 1 = .ok (.aload_n 1, 1) := by decide +kernel
theorem dX2_become_2 : decode cX2_become 2 = .ok (.getfield 36, 3) := by decide +kernel
theorem dX2_become_5 : decode cX2_become 5 = .ok (.putfield 36, 3) := by decide +kernel
theorem dX2_become_8 : decode cX2_become 8 = .ok (.aload_n 0, 1) := by decide +kernel
theorem dX2_become_9 : decode cX2_become 9 = .ok (.aload_n 1, 1) := by decide +kernel
theorem dX2_become_10 : decode cX2_become 10 = .ok (.getfield 39, 3) := by decide +kernel
theorem dX2_become_13 : decode cX2_become 13 = .ok (.putfield 39, 3) := by decide +kernel
theorem dX2_become_16 : decode cX2_become 16 = .ok (.aload_n 0, 1) := by decide +kernel
theorem dX2_become_17 : decode cX2_become 17 = .ok (.aload_n 1, 1) := by decide +kernel
theorem dX2_become_18 : decode cX2_become 18 = .ok (.getfield 9, 3) := by decide +kernel
theorem dX2_become_21 : decode cX2_become 21 = .ok (.putfield 9, 3) := by decide +kernel
theorem dX2_become_24 : decode cX2_become 24 = .ok (.aload_n 0, 1) := by decide +kernel
theorem dX2_become_25 : decode cX2_become 25 = .ok (.getfield 18, 3) := by decide +kernel
theorem dX2_become_28 : decode cX2_become 28 = .ok (.aload_n 1, 1) := by decide +kernel
theorem dX2_become_29 : decode cX2_become 29 = .ok (.getfield 18, 3) := by decide +kernel
theorem dX2_become_32 : decode cX2_become 32 = .ok (.invokevirtual 42, 3) := by decide +kernel
theorem dX2_become_35 : decode cX2_become 35 = .ok (.aload_n 0, 1) := by decide +kernel
theorem dX2_become_36 : decode cX2_become 36 = .ok (.getfield 25, 3) := by decide +kernel
theorem dX2_become_39 : decode cX2_become 39 = .ok (.aload_n 1, 1) := by decide +kernel
theorem dX2_become_40 : decode cX2_become 40 = .ok (.getfield 25, 3) := by decide +kernel
theorem dX2_become_43 : decode cX2_become 43 = .ok (.invokevirtual 46, 3) := by decide +kernel
theorem dX2_become_46 : decode cX2_become 46 = .ok (.aload_n 0, 1) := by decide +kernel
theorem dX2_become_47 : decode cX2_become 47 = .ok (.aload_n 1, 1) := by decide +kernel
theorem dX2_become_48 : decode cX2_become 48 = .ok (.getfield 49, 3) := by decide +kernel
theorem dX2_become_51 : decode cX2_become 51 = .ok (.putfield 49, 3) := by decide +kernel
theorem dX2_become_54 : decode cX2_become 54 = .ok (.iconst 0, 1) := by decide +kernel
theorem dX2_become_55 : decode cX2_become 55 = .ok (.istore_n 2, 1) := by decide +kernel
theorem dX2_become_56 : decode cX2_become 56 = .ok (.iload_n 2, 1) := by decide +kernel
theorem dX2_become_57 : decode cX2_become 57 = .ok (.iconst 5, 1) := by decide +kernel
theorem dX2_become_58 : decode cX2_become 58 = .ok (.if_icmp .ge 24, 3) := by decide +kernel
theorem dX2_become_61 : decode cX2_become 61 = .ok (.aload_n 0, 1) := by decide +kernel
theorem dX2_become_62 : decode cX2_become 62 = .ok (.getfield 31, 3) := by decide +kernel
theorem dX2_become_65 : decode cX2_become 65 = .ok (.iload_n 2, 1) := by decide +kernel
theorem dX2_become_66 : decode cX2_become 66 = .ok (.aaload, 1) := by decide +kernel
theorem dX2_become_67 : decode cX2_become 67 = .ok (.aload_n 1, 1) := by decide +kernel
theorem dX2_become_68 : decode cX2_become 68 = .ok (.getfield 31, 3) := by decide +kernel
theorem dX2_become_71 : decode cX2_become 71 = .ok (.iload_n 2, 1) := by decide +kernel
theorem dX2_become_72 : decode cX2_become 72 = .ok (.aaload, 1) := by decide +kernel
theorem dX2_become_73 : decode cX2_become 73 = .ok (.invokevirtual 52, 3) := by decide +kernel
theorem dX2_become_76 : decode cX2_become 76 = .ok (.iinc 2 1, 3) := by decide +kernel
theorem dX2_become_79 : decode cX2_become 79 = .ok (.goto (-23), 3) := by decide +kernel
theorem dX2_become_82 : decode cX2_become 82 = .ok (.aload_n 0, 1) := by decide +kernel
theorem dX2_become_83 : decode cX2_become 83 = .ok (.aload_n 1, 1) := by decide +kernel
theorem dX2_become_84 : decode cX2_become 84 = .ok (.getfield 55, 3) := by decide +kernel
theorem dX2_become_87 : decode cX2_become 87 = .ok (.putfield 55, 3) := by decide +kernel
theorem dX2_become_90 : decode cX2_become 90 = .ok (.aload_n 0, 1) := by decide +kernel
theorem dX2_become_91 : decode cX2_become 91 = .ok (.aload_n 1, 1) := by decide +kernel
theorem dX2_become_92 : decode cX2_become 92 = .ok (.getfield 58, 3) := by decide +kernel
theorem dX2_become_95 : decode cX2_become 95 = .ok (.putfield 58, 3) := by decide +kernel
theorem dX2_become_98 : decode cX2_become 98 = .ok (.return_, 1) := by decide +kernel
theorem dX2_has_0 : decode cX2_has 0 = .ok (.iload_n 1, 1) := by decide +kernel
theorem dX2_has_1 : decode cX2_has 1 = .ok (.ifCond .lt 20, 3) := by decide +kernel
theorem dX2_has_4 : decode cX2_has 4 = .ok (.iload_n 1, 1) := by decide +kernel
theorem dX2_has_5 : decode cX2_has 5 = .ok (.aload_n 0, 1) := by decide +kernel
theorem dX2_has_6 : decode cX2_has 6 = .ok (.getfield 49, 3) := by decide +kernel
theorem dX2_has_9 : decode cX2_has 9 = .ok (.if_icmp .ge 12, 3) := by decide +kernel
theorem dX2_has_12 : decode cX2_has 12 = .ok (.iload_n 1, 1) := by decide +kernel
theorem dX2_has_13 : decode cX2_has 13 = .ok (.iconst 5, 1) := by decide +kernel
theorem dX2_has_14 : decode cX2_has 14 = .ok (.if_icmp .ge 7, 3) := by decide +kernel
theorem dX2_has_17 : decode cX2_has 17 = .ok (.iconst 1, 1) := by decide +kernel
theorem dX2_has_18 : decode cX2_has 18 = .ok (.goto 4, 3) := by decide +kernel
theorem dX2_has_21 : decode cX2_has 21 = .ok (.iconst 0, 1) := by decide +kernel
theorem dX2_has_22 : decode cX2_has 22 = .ok (.ireturn, 1) := by decide +kernel
theorem dX2_told_0 : decode cX2_told 0 = .ok (.iload_n 1, 1) := by decide +kernel
theorem dX2_told_1 : decode cX2_told 1 = .ok (.tableswitch 102 0 7 #[47, 52, 57, 62, 70, 78, 86, 94], 47) := by decide +kernel
theorem dX2_told_48 : decode cX2_told 48 = .ok (.aload_n 0, 1) := by decide +kernel
theorem dX2_told_49 : decode cX2_told 49 = .ok (.getfield 36, 3) := by decide +kernel
theorem dX2_told_52 : decode cX2_told 52 = .ok (.ireturn, 1) := by decide +kernel
theorem dX2_told_53 : decode cX2_told 53 = .ok (.aload_n 0, 1) := by decide +kernel
theorem dX2_told_54 : decode cX2_told 54 = .ok (.getfield 39, 3) := by decide +kernel
theorem dX2_told_57 : decode cX2_told 57 = .ok (.ireturn, 1) := by decide +kernel
theorem dX2_told_58 : decode cX2_told 58 = .ok (.aload_n 0, 1) := by decide +kernel
theorem dX2_told_59 : decode cX2_told 59 = .ok (.getfield 9, 3) := by decide +kernel
theorem dX2_told_62 : decode cX2_told 62 = .ok (.ireturn, 1) := by decide +kernel
theorem dX2_told_63 : decode cX2_told 63 = .ok (.aload_n 0, 1) := by decide +kernel
theorem dX2_told_64 : decode cX2_told 64 = .ok (.getfield 18, 3) := by decide +kernel
theorem dX2_told_67 : decode cX2_told 67 = .ok (.getfield 61, 3) := by decide +kernel
theorem dX2_told_70 : decode cX2_told 70 = .ok (.ireturn, 1) := by decide +kernel
theorem dX2_told_71 : decode cX2_told 71 = .ok (.aload_n 0, 1) := by decide +kernel
theorem dX2_told_72 : decode cX2_told 72 = .ok (.getfield 25, 3) := by decide +kernel
theorem dX2_told_75 : decode cX2_told 75 = .ok (.getfield 64, 3) := by decide +kernel
theorem dX2_told_78 : decode cX2_told 78 = .ok (.ireturn, 1) := by decide +kernel
theorem dX2_told_79 : decode cX2_told 79 = .ok (.aload_n 0, 1) := by decide +kernel
theorem dX2_told_80 : decode cX2_told 80 = .ok (.getfield 25, 3) := by decide +kernel
theorem dX2_told_83 : decode cX2_told 83 = .ok (.getfield 67, 3) := by decide +kernel
theorem dX2_told_86 : decode cX2_told 86 = .ok (.ireturn, 1) := by decide +kernel
theorem dX2_told_87 : decode cX2_told 87 = .ok (.aload_n 0, 1) := by decide +kernel
theorem dX2_told_88 : decode cX2_told 88 = .ok (.getfield 18, 3) := by decide +kernel
theorem dX2_told_91 : decode cX2_told 91 = .ok (.getfield 70, 3) := by decide +kernel
theorem dX2_told_94 : decode cX2_told 94 = .ok (.ireturn, 1) := by decide +kernel
theorem dX2_told_95 : decode cX2_told 95 = .ok (.aload_n 0, 1) := by decide +kernel
theorem dX2_told_96 : decode cX2_told 96 = .ok (.getfield 25, 3) := by decide +kernel
theorem dX2_told_99 : decode cX2_told 99 = .ok (.getfield 73, 3) := by decide +kernel
theorem dX2_told_102 : decode cX2_told 102 = .ok (.ireturn, 1) := by decide +kernel
theorem dX2_told_103 : decode cX2_told 103 = .ok (.aload_n 0, 1) := by decide +kernel
theorem dX2_told_104 : decode cX2_told 104 = .ok (.getfield 55, 3) := by decide +kernel
theorem dX2_told_107 : decode cX2_told 107 = .ok (.ireturn, 1) := by decide +kernel
theorem dX2_change_0 : decode cX2_change 0 = .ok (.aload_n 0, 1) := by decide +kernel
theorem dX2_change_1 : decode cX2_change 1 = .ok (.iload_n 1, 1) := by decide +kernel
theorem dX2_change_2 : decode cX2_change 2 = .ok (.invokevirtual 74, 3) := by decide +kernel
theorem dX2_change_5 : decode cX2_change 5 = .ok (.istore_n 3, 1) := by decide +kernel
theorem dX2_change_6 : decode cX2_change 6 = .ok (.iload_n 1, 1) := by decide +kernel
theorem dX2_change_7 : decode cX2_change 7 = .ok (.tableswitch 124 0 7 #[45, 53, 61, 69, 80, 91, 102, 113], 45) := by decide +kernel
theorem dX2_change_52 : decode cX2_change 52 = .ok (.aload_n 0, 1) := by decide +kernel
theorem dX2_change_53 : decode cX2_change 53 = .ok (.iload_n 2, 1) := by decide +kernel
theorem dX2_change_54 : decode cX2_change 54 = .ok (.putfield 36, 3) := by decide +kernel
theorem dX2_change_57 : decode cX2_change 57 = .ok (.goto 79, 3) := by decide +kernel
theorem dX2_change_60 : decode cX2_change 60 = .ok (.aload_n 0, 1) := by decide +kernel
theorem dX2_change_61 : decode cX2_change 61 = .ok (.iload_n 2, 1) := by decide +kernel
theorem dX2_change_62 : decode cX2_change 62 = .ok (.putfield 39, 3) := by decide +kernel
theorem dX2_change_65 : decode cX2_change 65 = .ok (.goto 71, 3) := by decide +kernel
theorem dX2_change_68 : decode cX2_change 68 = .ok (.aload_n 0, 1) := by decide +kernel
theorem dX2_change_69 : decode cX2_change 69 = .ok (.iload_n 2, 1) := by decide +kernel
theorem dX2_change_70 : decode cX2_change 70 = .ok (.putfield 9, 3) := by decide +kernel
theorem dX2_change_73 : decode cX2_change 73 = .ok (.goto 63, 3) := by decide +kernel
theorem dX2_change_76 : decode cX2_change 76 = .ok (.aload_n 0, 1) := by decide +kernel
theorem dX2_change_77 : decode cX2_change 77 = .ok (.getfield 18, 3) := by decide +kernel
theorem dX2_change_80 : decode cX2_change 80 = .ok (.iload_n 2, 1) := by decide +kernel
theorem dX2_change_81 : decode cX2_change 81 = .ok (.putfield 61, 3) := by decide +kernel
theorem dX2_change_84 : decode cX2_change 84 = .ok (.goto 52, 3) := by decide +kernel
theorem dX2_change_87 : decode cX2_change 87 = .ok (.aload_n 0, 1) := by decide +kernel
theorem dX2_change_88 : decode cX2_change 88 = .ok (.getfield 25, 3) := by decide +kernel
theorem dX2_change_91 : decode cX2_change 91 = .ok (.iload_n 2, 1) := by decide +kernel
theorem dX2_change_92 : decode cX2_change 92 = .ok (.putfield 64, 3) := by decide +kernel
theorem dX2_change_95 : decode cX2_change 95 = .ok (.goto 41, 3) := by decide +kernel
theorem dX2_change_98 : decode cX2_change 98 = .ok (.aload_n 0, 1) := by decide +kernel
theorem dX2_change_99 : decode cX2_change 99 = .ok (.getfield 25, 3) := by decide +kernel
theorem dX2_change_102 : decode cX2_change 102 = .ok (.iload_n 2, 1) := by decide +kernel
theorem dX2_change_103 : decode cX2_change 103 = .ok (.putfield 67, 3) := by decide +kernel
theorem dX2_change_106 : decode cX2_change 106 = .ok (.goto 30, 3) := by decide +kernel
theorem dX2_change_109 : decode cX2_change 109 = .ok (.aload_n 0, 1) := by decide +kernel
theorem dX2_change_110 : decode cX2_change 110 = .ok (.getfield 18, 3) := by decide +kernel
theorem dX2_change_113 : decode cX2_change 113 = .ok (.iload_n 2, 1) := by decide +kernel
theorem dX2_change_114 : decode cX2_change 114 = .ok (.putfield 70, 3) := by decide +kernel
theorem dX2_change_117 : decode cX2_change 117 = .ok (.goto 19, 3) := by decide +kernel
theorem dX2_change_120 : decode cX2_change 120 = .ok (.aload_n 0, 1) := by decide +kernel
theorem dX2_change_121 : decode cX2_change 121 = .ok (.getfield 25, 3) := by decide +kernel
theorem dX2_change_124 : decode cX2_change 124 = .ok (.iload_n 2, 1) := by decide +kernel
theorem dX2_change_125 : decode cX2_change 125 = .ok (.putfield 73, 3) := by decide +kernel
theorem dX2_change_128 : decode cX2_change 128 = .ok (.goto 8, 3) := by decide +kernel
theorem dX2_change_131 : decode cX2_change 131 = .ok (.aload_n 0, 1) := by decide +kernel
theorem dX2_change_132 : decode cX2_change 132 = .ok (.iload_n 2, 1) := by decide +kernel
theorem dX2_change_133 : decode cX2_change 133 = .ok (.putfield 55, 3) := by decide +kernel
theorem dX2_change_136 : decode cX2_change 136 = .ok (.iload_n 3, 1) := by decide +kernel
theorem dX2_change_137 : decode cX2_change 137 = .ok (.ireturn, 1) := by decide +kernel
theorem dX2_allMinds_0 : decode cX2_allMinds 0 = .ok (.iconst 0, 1) := by decide +kernel
theorem dX2_allMinds_1 : decode cX2_allMinds 1 = .ok (.istore_n 1, 1) := by decide +kernel
theorem dX2_allMinds_2 : decode cX2_allMinds 2 = .ok (.iconst 0, 1) := by decide +kernel
theorem dX2_allMinds_3 : decode cX2_allMinds 3 = .ok (.istore_n 2, 1) := by decide +kernel
theorem dX2_allMinds_4 : decode cX2_allMinds 4 = .ok (.iload_n 2, 1) := by decide +kernel
theorem dX2_allMinds_5 : decode cX2_allMinds 5 = .ok (.aload_n 0, 1) := by decide +kernel
theorem dX2_allMinds_6 : decode cX2_allMinds 6 = .ok (.getfield 49, 3) := by decide +kernel
theorem dX2_allMinds_9 : decode cX2_allMinds 9 = .ok (.if_icmp .ge 26, 3) := by decide +kernel
theorem dX2_allMinds_12 : decode cX2_allMinds 12 = .ok (.iload_n 2, 1) := by decide +kernel
theorem dX2_allMinds_13 : decode cX2_allMinds 13 = .ok (.iconst 5, 1) := by decide +kernel
theorem dX2_allMinds_14 : decode cX2_allMinds 14 = .ok (.if_icmp .ge 21, 3) := by decide +kernel
theorem dX2_allMinds_17 : decode cX2_allMinds 17 = .ok (.iload_n 1, 1) := by decide +kernel
theorem dX2_allMinds_18 : decode cX2_allMinds 18 = .ok (.aload_n 0, 1) := by decide +kernel
theorem dX2_allMinds_19 : decode cX2_allMinds 19 = .ok (.getfield 31, 3) := by decide +kernel
theorem dX2_allMinds_22 : decode cX2_allMinds 22 = .ok (.iload_n 2, 1) := by decide +kernel
theorem dX2_allMinds_23 : decode cX2_allMinds 23 = .ok (.aaload, 1) := by decide +kernel
theorem dX2_allMinds_24 : decode cX2_allMinds 24 = .ok (.getfield 78, 3) := by decide +kernel
theorem dX2_allMinds_27 : decode cX2_allMinds 27 = .ok (.iadd, 1) := by decide +kernel
theorem dX2_allMinds_28 : decode cX2_allMinds 28 = .ok (.istore_n 1, 1) := by decide +kernel
theorem dX2_allMinds_29 : decode cX2_allMinds 29 = .ok (.iinc 2 1, 3) := by decide +kernel
theorem dX2_allMinds_32 : decode cX2_allMinds 32 = .ok (.goto (-28), 3) := by decide +kernel
theorem dX2_allMinds_35 : decode cX2_allMinds 35 = .ok (.iload_n 1, 1) := by decide +kernel
theorem dX2_allMinds_36 : decode cX2_allMinds 36 = .ok (.ireturn, 1) := by decide +kernel
theorem dX2_refineHands_0 : decode cX2_refineHands 0 = .ok (.iconst 0, 1) := by decide +kernel
theorem dX2_refineHands_1 : decode cX2_refineHands 1 = .ok (.istore_n 3, 1) := by decide +kernel
theorem dX2_refineHands_2 : decode cX2_refineHands 2 = .ok (.iload_n 3, 1) := by decide +kernel
theorem dX2_refineHands_3 : decode cX2_refineHands 3 = .ok (.aload_n 0, 1) := by decide +kernel
theorem dX2_refineHands_4 : decode cX2_refineHands 4 = .ok (.getfield 49, 3) := by decide +kernel
theorem dX2_refineHands_7 : decode cX2_refineHands 7 = .ok (.if_icmp .ge 34, 3) := by decide +kernel
theorem dX2_refineHands_10 : decode cX2_refineHands 10 = .ok (.iload_n 3, 1) := by decide +kernel
theorem dX2_refineHands_11 : decode cX2_refineHands 11 = .ok (.iconst 5, 1) := by decide +kernel
theorem dX2_refineHands_12 : decode cX2_refineHands 12 = .ok (.if_icmp .ge 29, 3) := by decide +kernel
theorem dX2_refineHands_15 : decode cX2_refineHands 15 = .ok (.iload_n 3, 1) := by decide +kernel
theorem dX2_refineHands_16 : decode cX2_refineHands 16 = .ok (.iload_n 1, 1) := by decide +kernel
theorem dX2_refineHands_17 : decode cX2_refineHands 17 = .ok (.if_icmp .lt 18, 3) := by decide +kernel
theorem dX2_refineHands_20 : decode cX2_refineHands 20 = .ok (.iload_n 3, 1) := by decide +kernel
theorem dX2_refineHands_21 : decode cX2_refineHands 21 = .ok (.iload_n 2, 1) := by decide +kernel
theorem dX2_refineHands_22 : decode cX2_refineHands 22 = .ok (.if_icmp .gt 13, 3) := by decide +kernel
theorem dX2_refineHands_25 : decode cX2_refineHands 25 = .ok (.aload_n 0, 1) := by decide +kernel
theorem dX2_refineHands_26 : decode cX2_refineHands 26 = .ok (.getfield 31, 3) := by decide +kernel
theorem dX2_refineHands_29 : decode cX2_refineHands 29 = .ok (.iload_n 3, 1) := by decide +kernel
theorem dX2_refineHands_30 : decode cX2_refineHands 30 = .ok (.aaload, 1) := by decide +kernel
theorem dX2_refineHands_31 : decode cX2_refineHands 31 = .ok (.iconst 1, 1) := by decide +kernel
theorem dX2_refineHands_32 : decode cX2_refineHands 32 = .ok (.putfield 81, 3) := by decide +kernel
theorem dX2_refineHands_35 : decode cX2_refineHands 35 = .ok (.iinc 3 1, 3) := by decide +kernel
theorem dX2_refineHands_38 : decode cX2_refineHands 38 = .ok (.goto (-36), 3) := by decide +kernel
theorem dX2_refineHands_41 : decode cX2_refineHands 41 = .ok (.return_, 1) := by decide +kernel
theorem dX2_passMinutes_0 : decode cX2_passMinutes 0 = .ok (.iconst 0, 1) := by decide +kernel
theorem dX2_passMinutes_1 : decode cX2_passMinutes 1 = .ok (.istore 4, 2) := by decide +kernel
theorem dX2_passMinutes_3 : decode cX2_passMinutes 3 = .ok (.iload 4, 2) := by decide +kernel
theorem dX2_passMinutes_5 : decode cX2_passMinutes 5 = .ok (.iload_n 1, 1) := by decide +kernel
theorem dX2_passMinutes_6 : decode cX2_passMinutes 6 = .ok (.if_icmp .ge 41, 3) := by decide +kernel
theorem dX2_passMinutes_9 : decode cX2_passMinutes 9 = .ok (.aload_n 0, 1) := by decide +kernel
theorem dX2_passMinutes_10 : decode cX2_passMinutes 10 = .ok (.invokevirtual 84, 3) := by decide +kernel
theorem dX2_passMinutes_13 : decode cX2_passMinutes 13 = .ok (.istore 5, 2) := by decide +kernel
theorem dX2_passMinutes_15 : decode cX2_passMinutes 15 = .ok (.iload_n 2, 1) := by decide +kernel
theorem dX2_passMinutes_16 : decode cX2_passMinutes 16 = .ok (.ifCond .eq 10, 3) := by decide +kernel
theorem dX2_passMinutes_19 : decode cX2_passMinutes 19 = .ok (.aload_n 0, 1) := by decide +kernel
theorem dX2_passMinutes_20 : decode cX2_passMinutes 20 = .ok (.iload 5, 2) := by decide +kernel
theorem dX2_passMinutes_22 : decode cX2_passMinutes 22 = .ok (.aload_n 3, 1) := by decide +kernel
theorem dX2_passMinutes_23 : decode cX2_passMinutes 23 = .ok (.invokevirtual 88, 3) := by decide +kernel
theorem dX2_passMinutes_26 : decode cX2_passMinutes 26 = .ok (.aload_n 0, 1) := by decide +kernel
theorem dX2_passMinutes_27 : decode cX2_passMinutes 27 = .ok (.aload_n 3, 1) := by decide +kernel
theorem dX2_passMinutes_28 : decode cX2_passMinutes 28 = .ok (.invokevirtual 92, 3) := by decide +kernel
theorem dX2_passMinutes_31 : decode cX2_passMinutes 31 = .ok (.aload_n 0, 1) := by decide +kernel
theorem dX2_passMinutes_32 : decode cX2_passMinutes 32 = .ok (.dup, 1) := by decide +kernel
theorem dX2_passMinutes_33 : decode cX2_passMinutes 33 = .ok (.getfield 58, 3) := by decide +kernel
theorem dX2_passMinutes_36 : decode cX2_passMinutes 36 = .ok (.iconst 1, 1) := by decide +kernel
theorem dX2_passMinutes_37 : decode cX2_passMinutes 37 = .ok (.iadd, 1) := by decide +kernel
theorem dX2_passMinutes_38 : decode cX2_passMinutes 38 = .ok (.putfield 58, 3) := by decide +kernel
theorem dX2_passMinutes_41 : decode cX2_passMinutes 41 = .ok (.iinc 4 1, 3) := by decide +kernel
theorem dX2_passMinutes_44 : decode cX2_passMinutes 44 = .ok (.goto (-41), 3) := by decide +kernel
theorem dX2_passMinutes_47 : decode cX2_passMinutes 47 = .ok (.return_, 1) := by decide +kernel
theorem dX2_driftOnce_0 : decode cX2_driftOnce 0 = .ok (.aload_n 0, 1) := by decide +kernel
theorem dX2_driftOnce_1 : decode cX2_driftOnce 1 = .ok (.getfield 18, 3) := by decide +kernel
theorem dX2_driftOnce_4 : decode cX2_driftOnce 4 = .ok (.aload_n 0, 1) := by decide +kernel
theorem dX2_driftOnce_5 : decode cX2_driftOnce 5 = .ok (.getfield 58, 3) := by decide +kernel
theorem dX2_driftOnce_8 : decode cX2_driftOnce 8 = .ok (.invokevirtual 96, 3) := by decide +kernel
theorem dX2_driftOnce_11 : decode cX2_driftOnce 11 = .ok (.istore_n 1, 1) := by decide +kernel
theorem dX2_driftOnce_12 : decode cX2_driftOnce 12 = .ok (.aload_n 0, 1) := by decide +kernel
theorem dX2_driftOnce_13 : decode cX2_driftOnce 13 = .ok (.aload_n 0, 1) := by decide +kernel
theorem dX2_driftOnce_14 : decode cX2_driftOnce 14 = .ok (.getfield 36, 3) := by decide +kernel
theorem dX2_driftOnce_17 : decode cX2_driftOnce 17 = .ok (.iload_n 1, 1) := by decide +kernel
theorem dX2_driftOnce_18 : decode cX2_driftOnce 18 = .ok (.iadd, 1) := by decide +kernel
theorem dX2_driftOnce_19 : decode cX2_driftOnce 19 = .ok (.bipush (-99), 2) := by decide +kernel
theorem dX2_driftOnce_21 : decode cX2_driftOnce 21 = .ok (.bipush 99, 2) := by decide +kernel
theorem dX2_driftOnce_23 : decode cX2_driftOnce 23 = .ok (.invokestatic 99, 3) := by decide +kernel
theorem dX2_driftOnce_26 : decode cX2_driftOnce 26 = .ok (.putfield 36, 3) := by decide +kernel
theorem dX2_driftOnce_29 : decode cX2_driftOnce 29 = .ok (.iload_n 1, 1) := by decide +kernel
theorem dX2_driftOnce_30 : decode cX2_driftOnce 30 = .ok (.ireturn, 1) := by decide +kernel
theorem dX2_isOffEither_0 : decode cX2_isOffEither 0 = .ok (.aload_n 0, 1) := by decide +kernel
theorem dX2_isOffEither_1 : decode cX2_isOffEither 1 = .ok (.iconst 0, 1) := by decide +kernel
theorem dX2_isOffEither_2 : decode cX2_isOffEither 2 = .ok (.invokevirtual 103, 3) := by decide +kernel
theorem dX2_isOffEither_5 : decode cX2_isOffEither 5 = .ok (.aload_n 0, 1) := by decide +kernel
theorem dX2_isOffEither_6 : decode cX2_isOffEither 6 = .ok (.getfield 25, 3) := by decide +kernel
theorem dX2_isOffEither_9 : decode cX2_isOffEither 9 = .ok (.getfield 64, 3) := by decide +kernel
theorem dX2_isOffEither_12 : decode cX2_isOffEither 12 = .ok (.if_icmp .gt 18, 3) := by decide +kernel
theorem dX2_isOffEither_15 : decode cX2_isOffEither 15 = .ok (.aload_n 0, 1) := by decide +kernel
theorem dX2_isOffEither_16 : decode cX2_isOffEither 16 = .ok (.iconst 1, 1) := by decide +kernel
theorem dX2_isOffEither_17 : decode cX2_isOffEither 17 = .ok (.invokevirtual 103, 3) := by decide +kernel
theorem dX2_isOffEither_20 : decode cX2_isOffEither 20 = .ok (.aload_n 0, 1) := by decide +kernel
theorem dX2_isOffEither_21 : decode cX2_isOffEither 21 = .ok (.getfield 25, 3) := by decide +kernel
theorem dX2_isOffEither_24 : decode cX2_isOffEither 24 = .ok (.getfield 64, 3) := by decide +kernel
theorem dX2_isOffEither_27 : decode cX2_isOffEither 27 = .ok (.if_icmp .le 7, 3) := by decide +kernel
theorem dX2_isOffEither_30 : decode cX2_isOffEither 30 = .ok (.iconst 1, 1) := by decide +kernel
theorem dX2_isOffEither_31 : decode cX2_isOffEither 31 = .ok (.goto 4, 3) := by decide +kernel
theorem dX2_isOffEither_34 : decode cX2_isOffEither 34 = .ok (.iconst 0, 1) := by decide +kernel
theorem dX2_isOffEither_35 : decode cX2_isOffEither 35 = .ok (.ireturn, 1) := by decide +kernel
theorem dX2_letOneGetUp_0 : decode cX2_letOneGetUp 0 = .ok (.aload_n 0, 1) := by decide +kernel
theorem dX2_letOneGetUp_1 : decode cX2_letOneGetUp 1 = .ok (.aload_n 0, 1) := by decide +kernel
theorem dX2_letOneGetUp_2 : decode cX2_letOneGetUp 2 = .ok (.getfield 55, 3) := by decide +kernel
theorem dX2_letOneGetUp_5 : decode cX2_letOneGetUp 5 = .ok (.invokevirtual 106, 3) := by decide +kernel
theorem dX2_letOneGetUp_8 : decode cX2_letOneGetUp 8 = .ok (.ifCond .ne 4, 3) := by decide +kernel
theorem dX2_letOneGetUp_11 : decode cX2_letOneGetUp 11 = .ok (.return_, 1) := by decide +kernel
theorem dX2_letOneGetUp_12 : decode cX2_letOneGetUp 12 = .ok (.aload_n 0, 1) := by decide +kernel
theorem dX2_letOneGetUp_13 : decode cX2_letOneGetUp 13 = .ok (.getfield 31, 3) := by decide +kernel
theorem dX2_letOneGetUp_16 : decode cX2_letOneGetUp 16 = .ok (.aload_n 0, 1) := by decide +kernel
theorem dX2_letOneGetUp_17 : decode cX2_letOneGetUp 17 = .ok (.getfield 55, 3) := by decide +kernel
theorem dX2_letOneGetUp_20 : decode cX2_letOneGetUp 20 = .ok (.aaload, 1) := by decide +kernel
theorem dX2_letOneGetUp_21 : decode cX2_letOneGetUp 21 = .ok (.astore_n 3, 1) := by decide +kernel
theorem dX2_letOneGetUp_22 : decode cX2_letOneGetUp 22 = .ok (.aload_n 0, 1) := by decide +kernel
theorem dX2_letOneGetUp_23 : decode cX2_letOneGetUp 23 = .ok (.getfield 25, 3) := by decide +kernel
theorem dX2_letOneGetUp_26 : decode cX2_letOneGetUp 26 = .ok (.aload_n 0, 1) := by decide +kernel
theorem dX2_letOneGetUp_27 : decode cX2_letOneGetUp 27 = .ok (.aload_n 3, 1) := by decide +kernel
theorem dX2_letOneGetUp_28 : decode cX2_letOneGetUp 28 = .ok (.getfield 110, 3) := by decide +kernel
theorem dX2_letOneGetUp_31 : decode cX2_letOneGetUp 31 = .ok (.invokevirtual 103, 3) := by decide +kernel
theorem dX2_letOneGetUp_34 : decode cX2_letOneGetUp 34 = .ok (.aload_n 0, 1) := by decide +kernel
theorem dX2_letOneGetUp_35 : decode cX2_letOneGetUp 35 = .ok (.getfield 58, 3) := by decide +kernel
theorem dX2_letOneGetUp_38 : decode cX2_letOneGetUp 38 = .ok (.invokevirtual 113, 3) := by decide +kernel
theorem dX2_letOneGetUp_41 : decode cX2_letOneGetUp 41 = .ok (.ifCond .ne 4, 3) := by decide +kernel
theorem dX2_letOneGetUp_44 : decode cX2_letOneGetUp 44 = .ok (.return_, 1) := by decide +kernel
theorem dX2_letOneGetUp_45 : decode cX2_letOneGetUp 45 = .ok (.aload_n 3, 1) := by decide +kernel
theorem dX2_letOneGetUp_46 : decode cX2_letOneGetUp 46 = .ok (.getfield 110, 3) := by decide +kernel
theorem dX2_letOneGetUp_49 : decode cX2_letOneGetUp 49 = .ok (.ifCond .ne 10, 3) := by decide +kernel
theorem dX2_letOneGetUp_52 : decode cX2_letOneGetUp 52 = .ok (.aload_n 0, 1) := by decide +kernel
theorem dX2_letOneGetUp_53 : decode cX2_letOneGetUp 53 = .ok (.getfield 39, 3) := by decide +kernel
theorem dX2_letOneGetUp_56 : decode cX2_letOneGetUp 56 = .ok (.goto 7, 3) := by decide +kernel
theorem dX2_letOneGetUp_59 : decode cX2_letOneGetUp 59 = .ok (.aload_n 0, 1) := by decide +kernel
theorem dX2_letOneGetUp_60 : decode cX2_letOneGetUp 60 = .ok (.getfield 9, 3) := by decide +kernel
theorem dX2_letOneGetUp_63 : decode cX2_letOneGetUp 63 = .ok (.istore 4, 2) := by decide +kernel
theorem dX2_letOneGetUp_65 : decode cX2_letOneGetUp 65 = .ok (.aload_n 0, 1) := by decide +kernel
theorem dX2_letOneGetUp_66 : decode cX2_letOneGetUp 66 = .ok (.aload_n 3, 1) := by decide +kernel
theorem dX2_letOneGetUp_67 : decode cX2_letOneGetUp 67 = .ok (.aload_n 0, 1) := by decide +kernel
theorem dX2_letOneGetUp_68 : decode cX2_letOneGetUp 68 = .ok (.getfield 36, 3) := by decide +kernel
theorem dX2_letOneGetUp_71 : decode cX2_letOneGetUp 71 = .ok (.aload_n 0, 1) := by decide +kernel
theorem dX2_letOneGetUp_72 : decode cX2_letOneGetUp 72 = .ok (.getfield 25, 3) := by decide +kernel
theorem dX2_letOneGetUp_75 : decode cX2_letOneGetUp 75 = .ok (.iload 4, 2) := by decide +kernel
theorem dX2_letOneGetUp_77 : decode cX2_letOneGetUp 77 = .ok (.aload_n 0, 1) := by decide +kernel
theorem dX2_letOneGetUp_78 : decode cX2_letOneGetUp 78 = .ok (.getfield 39, 3) := by decide +kernel
theorem dX2_letOneGetUp_81 : decode cX2_letOneGetUp 81 = .ok (.aload_n 0, 1) := by decide +kernel
theorem dX2_letOneGetUp_82 : decode cX2_letOneGetUp 82 = .ok (.getfield 9, 3) := by decide +kernel
theorem dX2_letOneGetUp_85 : decode cX2_letOneGetUp 85 = .ok (.iadd, 1) := by decide +kernel
theorem dX2_letOneGetUp_86 : decode cX2_letOneGetUp 86 = .ok (.iconst 2, 1) := by decide +kernel
theorem dX2_letOneGetUp_87 : decode cX2_letOneGetUp 87 = .ok (.idiv, 1) := by decide +kernel
theorem dX2_letOneGetUp_88 : decode cX2_letOneGetUp 88 = .ok (.iload_n 1, 1) := by decide +kernel
theorem dX2_letOneGetUp_89 : decode cX2_letOneGetUp 89 = .ok (.invokevirtual 117, 3) := by decide +kernel
theorem dX2_letOneGetUp_92 : decode cX2_letOneGetUp 92 = .ok (.invokevirtual 120, 3) := by decide +kernel
theorem dX2_letOneGetUp_95 : decode cX2_letOneGetUp 95 = .ok (.putfield 36, 3) := by decide +kernel
theorem dX2_letOneGetUp_98 : decode cX2_letOneGetUp 98 = .ok (.aload_n 2, 1) := by decide +kernel
theorem dX2_letOneGetUp_99 : decode cX2_letOneGetUp 99 = .ok (.aload_n 0, 1) := by decide +kernel
theorem dX2_letOneGetUp_100 : decode cX2_letOneGetUp 100 = .ok (.getfield 55, 3) := by decide +kernel
theorem dX2_letOneGetUp_103 : decode cX2_letOneGetUp 103 = .ok (.aload_n 3, 1) := by decide +kernel
theorem dX2_letOneGetUp_104 : decode cX2_letOneGetUp 104 = .ok (.getfield 124, 3) := by decide +kernel
theorem dX2_letOneGetUp_107 : decode cX2_letOneGetUp 107 = .ok (.invokevirtual 127, 3) := by decide +kernel
theorem dX2_letOneGetUp_110 : decode cX2_letOneGetUp 110 = .ok (.aload_n 0, 1) := by decide +kernel
theorem dX2_letOneGetUp_111 : decode cX2_letOneGetUp 111 = .ok (.aload_n 0, 1) := by decide +kernel
theorem dX2_letOneGetUp_112 : decode cX2_letOneGetUp 112 = .ok (.getfield 55, 3) := by decide +kernel
theorem dX2_letOneGetUp_115 : decode cX2_letOneGetUp 115 = .ok (.iconst 1, 1) := by decide +kernel
theorem dX2_letOneGetUp_116 : decode cX2_letOneGetUp 116 = .ok (.iadd, 1) := by decide +kernel
theorem dX2_letOneGetUp_117 : decode cX2_letOneGetUp 117 = .ok (.aload_n 0, 1) := by decide +kernel
theorem dX2_letOneGetUp_118 : decode cX2_letOneGetUp 118 = .ok (.getfield 49, 3) := by decide +kernel
theorem dX2_letOneGetUp_121 : decode cX2_letOneGetUp 121 = .ok (.if_icmp .ge 12, 3) := by decide +kernel
theorem dX2_letOneGetUp_124 : decode cX2_letOneGetUp 124 = .ok (.aload_n 0, 1) := by decide +kernel
theorem dX2_letOneGetUp_125 : decode cX2_letOneGetUp 125 = .ok (.getfield 55, 3) := by decide +kernel
theorem dX2_letOneGetUp_128 : decode cX2_letOneGetUp 128 = .ok (.iconst 1, 1) := by decide +kernel
theorem dX2_letOneGetUp_129 : decode cX2_letOneGetUp 129 = .ok (.iadd, 1) := by decide +kernel
theorem dX2_letOneGetUp_130 : decode cX2_letOneGetUp 130 = .ok (.goto 4, 3) := by decide +kernel
theorem dX2_letOneGetUp_133 : decode cX2_letOneGetUp 133 = .ok (.iconst 0, 1) := by decide +kernel
theorem dX2_letOneGetUp_134 : decode cX2_letOneGetUp 134 = .ok (.putfield 55, 3) := by decide +kernel
theorem dX2_letOneGetUp_137 : decode cX2_letOneGetUp 137 = .ok (.return_, 1) := by decide +kernel
theorem dX2_botherAll_0 : decode cX2_botherAll 0 = .ok (.aload_n 0, 1) := by decide +kernel
theorem dX2_botherAll_1 : decode cX2_botherAll 1 = .ok (.iconst 0, 1) := by decide +kernel
theorem dX2_botherAll_2 : decode cX2_botherAll 2 = .ok (.invokevirtual 103, 3) := by decide +kernel
theorem dX2_botherAll_5 : decode cX2_botherAll 5 = .ok (.istore_n 2, 1) := by decide +kernel
theorem dX2_botherAll_6 : decode cX2_botherAll 6 = .ok (.aload_n 0, 1) := by decide +kernel
theorem dX2_botherAll_7 : decode cX2_botherAll 7 = .ok (.iconst 1, 1) := by decide +kernel
theorem dX2_botherAll_8 : decode cX2_botherAll 8 = .ok (.invokevirtual 103, 3) := by decide +kernel
theorem dX2_botherAll_11 : decode cX2_botherAll 11 = .ok (.istore_n 3, 1) := by decide +kernel
theorem dX2_botherAll_12 : decode cX2_botherAll 12 = .ok (.iconst 0, 1) := by decide +kernel
theorem dX2_botherAll_13 : decode cX2_botherAll 13 = .ok (.istore 4, 2) := by decide +kernel
theorem dX2_botherAll_15 : decode cX2_botherAll 15 = .ok (.iload 4, 2) := by decide +kernel
theorem dX2_botherAll_17 : decode cX2_botherAll 17 = .ok (.aload_n 0, 1) := by decide +kernel
theorem dX2_botherAll_18 : decode cX2_botherAll 18 = .ok (.getfield 49, 3) := by decide +kernel
theorem dX2_botherAll_21 : decode cX2_botherAll 21 = .ok (.if_icmp .ge 48, 3) := by decide +kernel
theorem dX2_botherAll_24 : decode cX2_botherAll 24 = .ok (.iload 4, 2) := by decide +kernel
theorem dX2_botherAll_26 : decode cX2_botherAll 26 = .ok (.iconst 5, 1) := by decide +kernel
theorem dX2_botherAll_27 : decode cX2_botherAll 27 = .ok (.if_icmp .ge 42, 3) := by decide +kernel
theorem dX2_botherAll_30 : decode cX2_botherAll 30 = .ok (.aload_n 0, 1) := by decide +kernel
theorem dX2_botherAll_31 : decode cX2_botherAll 31 = .ok (.getfield 31, 3) := by decide +kernel
theorem dX2_botherAll_34 : decode cX2_botherAll 34 = .ok (.iload 4, 2) := by decide +kernel
theorem dX2_botherAll_36 : decode cX2_botherAll 36 = .ok (.aaload, 1) := by decide +kernel
theorem dX2_botherAll_37 : decode cX2_botherAll 37 = .ok (.astore 5, 2) := by decide +kernel
theorem dX2_botherAll_39 : decode cX2_botherAll 39 = .ok (.aload_n 1, 1) := by decide +kernel
theorem dX2_botherAll_40 : decode cX2_botherAll 40 = .ok (.iload 4, 2) := by decide +kernel
theorem dX2_botherAll_42 : decode cX2_botherAll 42 = .ok (.aload 5, 2) := by decide +kernel
theorem dX2_botherAll_44 : decode cX2_botherAll 44 = .ok (.aload 5, 2) := by decide +kernel
theorem dX2_botherAll_46 : decode cX2_botherAll 46 = .ok (.getfield 110, 3) := by decide +kernel
theorem dX2_botherAll_49 : decode cX2_botherAll 49 = .ok (.ifCond .ne 7, 3) := by decide +kernel
theorem dX2_botherAll_52 : decode cX2_botherAll 52 = .ok (.iload_n 2, 1) := by decide +kernel
theorem dX2_botherAll_53 : decode cX2_botherAll 53 = .ok (.goto 4, 3) := by decide +kernel
theorem dX2_botherAll_56 : decode cX2_botherAll 56 = .ok (.iload_n 3, 1) := by decide +kernel
theorem dX2_botherAll_57 : decode cX2_botherAll 57 = .ok (.invokevirtual 133, 3) := by decide +kernel
theorem dX2_botherAll_60 : decode cX2_botherAll 60 = .ok (.invokevirtual 136, 3) := by decide +kernel
theorem dX2_botherAll_63 : decode cX2_botherAll 63 = .ok (.iinc 4 1, 3) := by decide +kernel
theorem dX2_botherAll_66 : decode cX2_botherAll 66 = .ok (.goto (-51), 3) := by decide +kernel
theorem dX2_botherAll_69 : decode cX2_botherAll 69 = .ok (.aload_n 1, 1) := by decide +kernel
theorem dX2_botherAll_70 : decode cX2_botherAll 70 = .ok (.iload_n 2, 1) := by decide +kernel
theorem dX2_botherAll_71 : decode cX2_botherAll 71 = .ok (.iload_n 3, 1) := by decide +kernel
theorem dX2_botherAll_72 : decode cX2_botherAll 72 = .ok (.invokevirtual 139, 3) := by decide +kernel
theorem dX2_botherAll_75 : decode cX2_botherAll 75 = .ok (.return_, 1) := by decide +kernel
theorem dX2_off_0 : decode cX2_off 0 = .ok (.aload_n 0, 1) := by decide +kernel
theorem dX2_off_1 : decode cX2_off 1 = .ok (.getfield 36, 3) := by decide +kernel
theorem dX2_off_4 : decode cX2_off 4 = .ok (.iload_n 1, 1) := by decide +kernel
theorem dX2_off_5 : decode cX2_off 5 = .ok (.ifCond .ne 10, 3) := by decide +kernel
theorem dX2_off_8 : decode cX2_off 8 = .ok (.aload_n 0, 1) := by decide +kernel
theorem dX2_off_9 : decode cX2_off 9 = .ok (.getfield 39, 3) := by decide +kernel
theorem dX2_off_12 : decode cX2_off 12 = .ok (.goto 7, 3) := by decide +kernel
theorem dX2_off_15 : decode cX2_off 15 = .ok (.aload_n 0, 1) := by decide +kernel
theorem dX2_off_16 : decode cX2_off 16 = .ok (.getfield 9, 3) := by decide +kernel
theorem dX2_off_19 : decode cX2_off 19 = .ok (.isub, 1) := by decide +kernel
theorem dX2_off_20 : decode cX2_off 20 = .ok (.invokestatic 142, 3) := by decide +kernel
theorem dX2_off_23 : decode cX2_off 23 = .ok (.ireturn, 1) := by decide +kernel
theorem dX3_init_0 : decode cX3_init 0 = .ok (.aload_n 0, 1) := by decide +kernel
theorem dX3_init_1 : decode cX3_init 1 = .ok (.invokespecial 1, 3) := by decide +kernel
theorem dX3_init_4 : decode cX3_init 4 = .ok (.aload_n 0, 1) := by decide +kernel
theorem dX3_init_5 : decode cX3_init 5 = .ok (.iconst 1, 1) := by decide +kernel
theorem dX3_init_6 : decode cX3_init 6 = .ok (.putfield 7, 3) := by decide +kernel
theorem dX3_init_9 : decode cX3_init 9 = .ok (.return_, 1) := by decide +kernel
theorem dX3_become_0 : decode cX3_become 0 = .ok (.aload_n 0, 1) := by decide +kernel
theorem dX3_become_1 : decode cX3_become 1 = .ok (.aload_n 1, 1) := by decide +kernel
theorem dX3_become_2 : decode cX3_become 2 = .ok (.getfield 13, 3) := by decide +kernel
theorem dX3_become_5 : decode cX3_become 5 = .ok (.putfield 13, 3) := by decide +kernel
theorem dX3_become_8 : decode cX3_become 8 = .ok (.aload_n 0, 1) := by decide +kernel
theorem dX3_become_9 : decode cX3_become 9 = .ok (.aload_n 1, 1) := by decide +kernel
theorem dX3_become_10 : decode cX3_become 10 = .ok (.getfield 16, 3) := by decide +kernel
theorem dX3_become_13 : decode cX3_become 13 = .ok (.putfield 16, 3) := by decide +kernel
theorem dX3_become_16 : decode cX3_become 16 = .ok (.aload_n 0, 1) := by decide +kernel
theorem dX3_become_17 : decode cX3_become 17 = .ok (.aload_n 1, 1) := by decide +kernel
theorem dX3_become_18 : decode cX3_become 18 = .ok (.getfield 19, 3) := by decide +kernel
theorem dX3_become_21 : decode cX3_become 21 = .ok (.putfield 19, 3) := by decide +kernel
theorem dX3_become_24 : decode cX3_become 24 = .ok (.aload_n 0, 1) := by decide +kernel
theorem dX3_become_25 : decode cX3_become 25 = .ok (.aload_n 1, 1) := by decide +kernel
theorem dX3_become_26 : decode cX3_become 26 = .ok (.getfield 22, 3) := by decide +kernel
theorem dX3_become_29 : decode cX3_become 29 = .ok (.putfield 22, 3) := by decide +kernel
theorem dX3_become_32 : decode cX3_become 32 = .ok (.aload_n 0, 1) := by decide +kernel
theorem dX3_become_33 : decode cX3_become 33 = .ok (.aload_n 1, 1) := by decide +kernel
theorem dX3_become_34 : decode cX3_become 34 = .ok (.getfield 7, 3) := by decide +kernel
theorem dX3_become_37 : decode cX3_become 37 = .ok (.putfield 7, 3) := by decide +kernel
theorem dX3_become_40 : decode cX3_become 40 = .ok (.aload_n 0, 1) := by decide +kernel
theorem dX3_become_41 : decode cX3_become 41 = .ok (.aload_n 1, 1) := by decide +kernel
theorem dX3_become_42 : decode cX3_become 42 = .ok (.getfield 25, 3) := by decide +kernel
theorem dX3_become_45 : decode cX3_become 45 = .ok (.putfield 25, 3) := by decide +kernel
theorem dX3_become_48 : decode cX3_become 48 = .ok (.return_, 1) := by decide +kernel
theorem dX3_detail_0 : decode cX3_detail 0 = .ok (.iload_n 1, 1) := by decide +kernel
theorem dX3_detail_1 : decode cX3_detail 1 = .ok (.tableswitch 60 0 4 #[35, 40, 45, 50, 55], 35) := by decide +kernel
theorem dX3_detail_36 : decode cX3_detail 36 = .ok (.aload_n 0, 1) := by decide +kernel
theorem dX3_detail_37 : decode cX3_detail 37 = .ok (.getfield 13, 3) := by decide +kernel
theorem dX3_detail_40 : decode cX3_detail 40 = .ok (.ireturn, 1) := by decide +kernel
theorem dX3_detail_41 : decode cX3_detail 41 = .ok (.aload_n 0, 1) := by decide +kernel
theorem dX3_detail_42 : decode cX3_detail 42 = .ok (.getfield 16, 3) := by decide +kernel
theorem dX3_detail_45 : decode cX3_detail 45 = .ok (.ireturn, 1) := by decide +kernel
theorem dX3_detail_46 : decode cX3_detail 46 = .ok (.aload_n 0, 1) := by decide +kernel
theorem dX3_detail_47 : decode cX3_detail 47 = .ok (.getfield 19, 3) := by decide +kernel
theorem dX3_detail_50 : decode cX3_detail 50 = .ok (.ireturn, 1) := by decide +kernel
theorem dX3_detail_51 : decode cX3_detail 51 = .ok (.aload_n 0, 1) := by decide +kernel
theorem dX3_detail_52 : decode cX3_detail 52 = .ok (.getfield 22, 3) := by decide +kernel
theorem dX3_detail_55 : decode cX3_detail 55 = .ok (.ireturn, 1) := by decide +kernel
theorem dX3_detail_56 : decode cX3_detail 56 = .ok (.aload_n 0, 1) := by decide +kernel
theorem dX3_detail_57 : decode cX3_detail 57 = .ok (.getfield 7, 3) := by decide +kernel
theorem dX3_detail_60 : decode cX3_detail 60 = .ok (.ireturn, 1) := by decide +kernel
theorem dX3_detail_61 : decode cX3_detail 61 = .ok (.aload_n 0, 1) := by decide +kernel
theorem dX3_detail_62 : decode cX3_detail 62 = .ok (.getfield 25, 3) := by decide +kernel
theorem dX3_detail_65 : decode cX3_detail 65 = .ok (.ireturn, 1) := by decide +kernel
theorem dX3_botheredBy_0 : decode cX3_botheredBy 0 = .ok (.aload_n 0, 1) := by decide +kernel
theorem dX3_botheredBy_1 : decode cX3_botheredBy 1 = .ok (.getfield 13, 3) := by decide +kernel
theorem dX3_botheredBy_4 : decode cX3_botheredBy 4 = .ok (.tableswitch 108 1 4 #[32, 42, 51, 81], 32) := by decide +kernel
theorem dX3_botheredBy_36 : decode cX3_botheredBy 36 = .ok (.aload_n 0, 1) := by decide +kernel
theorem dX3_botheredBy_37 : decode cX3_botheredBy 37 = .ok (.iload_n 1, 1) := by decide +kernel
theorem dX3_botheredBy_38 : decode cX3_botheredBy 38 = .ok (.aload_n 0, 1) := by decide +kernel
theorem dX3_botheredBy_39 : decode cX3_botheredBy 39 = .ok (.getfield 19, 3) := by decide +kernel
theorem dX3_botheredBy_42 : decode cX3_botheredBy 42 = .ok (.invokevirtual 28, 3) := by decide +kernel
theorem dX3_botheredBy_45 : decode cX3_botheredBy 45 = .ok (.ireturn, 1) := by decide +kernel
theorem dX3_botheredBy_46 : decode cX3_botheredBy 46 = .ok (.iconst 2, 1) := by decide +kernel
theorem dX3_botheredBy_47 : decode cX3_botheredBy 47 = .ok (.iload_n 1, 1) := by decide +kernel
theorem dX3_botheredBy_48 : decode cX3_botheredBy 48 = .ok (.imul, 1) := by decide +kernel
theorem dX3_botheredBy_49 : decode cX3_botheredBy 49 = .ok (.aload_n 0, 1) := by decide +kernel
theorem dX3_botheredBy_50 : decode cX3_botheredBy 50 = .ok (.getfield 16, 3) := by decide +kernel
theorem dX3_botheredBy_53 : decode cX3_botheredBy 53 = .ok (.imul, 1) := by decide +kernel
theorem dX3_botheredBy_54 : decode cX3_botheredBy 54 = .ok (.ireturn, 1) := by decide +kernel
theorem dX3_botheredBy_55 : decode cX3_botheredBy 55 = .ok (.iload_n 1, 1) := by decide +kernel
theorem dX3_botheredBy_56 : decode cX3_botheredBy 56 = .ok (.iconst 2, 1) := by decide +kernel
theorem dX3_botheredBy_57 : decode cX3_botheredBy 57 = .ok (.if_icmp .le 19, 3) := by decide +kernel
theorem dX3_botheredBy_60 : decode cX3_botheredBy 60 = .ok (.iconst 2, 1) := by decide +kernel
theorem dX3_botheredBy_61 : decode cX3_botheredBy 61 = .ok (.iload_n 1, 1) := by decide +kernel
theorem dX3_botheredBy_62 : decode cX3_botheredBy 62 = .ok (.imul, 1) := by decide +kernel
theorem dX3_botheredBy_63 : decode cX3_botheredBy 63 = .ok (.aload_n 0, 1) := by decide +kernel
theorem dX3_botheredBy_64 : decode cX3_botheredBy 64 = .ok (.getfield 16, 3) := by decide +kernel
theorem dX3_botheredBy_67 : decode cX3_botheredBy 67 = .ok (.imul, 1) := by decide +kernel
theorem dX3_botheredBy_68 : decode cX3_botheredBy 68 = .ok (.aload_n 0, 1) := by decide +kernel
theorem dX3_botheredBy_69 : decode cX3_botheredBy 69 = .ok (.getfield 19, 3) := by decide +kernel
theorem dX3_botheredBy_72 : decode cX3_botheredBy 72 = .ok (.iadd, 1) := by decide +kernel
theorem dX3_botheredBy_73 : decode cX3_botheredBy 73 = .ok (.goto 11, 3) := by decide +kernel
theorem dX3_botheredBy_76 : decode cX3_botheredBy 76 = .ok (.iconst 2, 1) := by decide +kernel
theorem dX3_botheredBy_77 : decode cX3_botheredBy 77 = .ok (.iload_n 1, 1) := by decide +kernel
theorem dX3_botheredBy_78 : decode cX3_botheredBy 78 = .ok (.imul, 1) := by decide +kernel
theorem dX3_botheredBy_79 : decode cX3_botheredBy 79 = .ok (.aload_n 0, 1) := by decide +kernel
theorem dX3_botheredBy_80 : decode cX3_botheredBy 80 = .ok (.getfield 16, 3) := by decide +kernel
theorem dX3_botheredBy_83 : decode cX3_botheredBy 83 = .ok (.imul, 1) := by decide +kernel
theorem dX3_botheredBy_84 : decode cX3_botheredBy 84 = .ok (.ireturn, 1) := by decide +kernel
theorem dX3_botheredBy_85 : decode cX3_botheredBy 85 = .ok (.iload_n 1, 1) := by decide +kernel
theorem dX3_botheredBy_86 : decode cX3_botheredBy 86 = .ok (.bipush 20, 2) := by decide +kernel
theorem dX3_botheredBy_88 : decode cX3_botheredBy 88 = .ok (.if_icmp .lt 12, 3) := by decide +kernel
theorem dX3_botheredBy_91 : decode cX3_botheredBy 91 = .ok (.iload_n 1, 1) := by decide +kernel
theorem dX3_botheredBy_92 : decode cX3_botheredBy 92 = .ok (.aload_n 0, 1) := by decide +kernel
theorem dX3_botheredBy_93 : decode cX3_botheredBy 93 = .ok (.getfield 16, 3) := by decide +kernel
theorem dX3_botheredBy_96 : decode cX3_botheredBy 96 = .ok (.imul, 1) := by decide +kernel
theorem dX3_botheredBy_97 : decode cX3_botheredBy 97 = .ok (.goto 14, 3) := by decide +kernel
theorem dX3_botheredBy_100 : decode cX3_botheredBy 100 = .ok (.aload_n 0, 1) := by decide +kernel
theorem dX3_botheredBy_101 : decode cX3_botheredBy 101 = .ok (.iload_n 1, 1) := by decide +kernel
theorem dX3_botheredBy_102 : decode cX3_botheredBy 102 = .ok (.iconst 2, 1) := by decide +kernel
theorem dX3_botheredBy_103 : decode cX3_botheredBy 103 = .ok (.aload_n 0, 1) := by decide +kernel
theorem dX3_botheredBy_104 : decode cX3_botheredBy 104 = .ok (.getfield 19, 3) := by decide +kernel
theorem dX3_botheredBy_107 : decode cX3_botheredBy 107 = .ok (.imul, 1) := by decide +kernel
theorem dX3_botheredBy_108 : decode cX3_botheredBy 108 = .ok (.invokevirtual 28, 3) := by decide +kernel
theorem dX3_botheredBy_111 : decode cX3_botheredBy 111 = .ok (.ireturn, 1) := by decide +kernel
theorem dX3_botheredBy_112 : decode cX3_botheredBy 112 = .ok (.iload_n 1, 1) := by decide +kernel
theorem dX3_botheredBy_113 : decode cX3_botheredBy 113 = .ok (.aload_n 0, 1) := by decide +kernel
theorem dX3_botheredBy_114 : decode cX3_botheredBy 114 = .ok (.getfield 16, 3) := by decide +kernel
theorem dX3_botheredBy_117 : decode cX3_botheredBy 117 = .ok (.imul, 1) := by decide +kernel
theorem dX3_botheredBy_118 : decode cX3_botheredBy 118 = .ok (.ireturn, 1) := by decide +kernel
theorem dX3_deafTo_0 : decode cX3_deafTo 0 = .ok (.iload_n 1, 1) := by decide +kernel
theorem dX3_deafTo_1 : decode cX3_deafTo 1 = .ok (.iload_n 2, 1) := by decide +kernel
theorem dX3_deafTo_2 : decode cX3_deafTo 2 = .ok (.if_icmp .le 14, 3) := by decide +kernel
theorem dX3_deafTo_5 : decode cX3_deafTo 5 = .ok (.iload_n 1, 1) := by decide +kernel
theorem dX3_deafTo_6 : decode cX3_deafTo 6 = .ok (.iload_n 2, 1) := by decide +kernel
theorem dX3_deafTo_7 : decode cX3_deafTo 7 = .ok (.isub, 1) := by decide +kernel
theorem dX3_deafTo_8 : decode cX3_deafTo 8 = .ok (.aload_n 0, 1) := by decide +kernel
theorem dX3_deafTo_9 : decode cX3_deafTo 9 = .ok (.getfield 16, 3) := by decide +kernel
theorem dX3_deafTo_12 : decode cX3_deafTo 12 = .ok (.imul, 1) := by decide +kernel
theorem dX3_deafTo_13 : decode cX3_deafTo 13 = .ok (.goto 4, 3) := by decide +kernel
theorem dX3_deafTo_16 : decode cX3_deafTo 16 = .ok (.iconst 0, 1) := by decide +kernel
theorem dX3_deafTo_17 : decode cX3_deafTo 17 = .ok (.ireturn, 1) := by decide +kernel
theorem dX3_turned_0 : decode cX3_turned 0 = .ok (.aload_n 0, 1) := by decide +kernel
theorem dX3_turned_1 : decode cX3_turned 1 = .ok (.getfield 7, 3) := by decide +kernel
theorem dX3_turned_4 : decode cX3_turned 4 = .ok (.iconst 1, 1) := by decide +kernel
theorem dX3_turned_5 : decode cX3_turned 5 = .ok (.if_icmp .ge 5, 3) := by decide +kernel
theorem dX3_turned_8 : decode cX3_turned 8 = .ok (.iload_n 1, 1) := by decide +kernel
theorem dX3_turned_9 : decode cX3_turned 9 = .ok (.ireturn, 1) := by decide +kernel
theorem dX3_turned_10 : decode cX3_turned 10 = .ok (.iload_n 2, 1) := by decide +kernel
theorem dX3_turned_11 : decode cX3_turned 11 = .ok (.iload_n 1, 1) := by decide +kernel
theorem dX3_turned_12 : decode cX3_turned 12 = .ok (.isub, 1) := by decide +kernel
theorem dX3_turned_13 : decode cX3_turned 13 = .ok (.invokestatic 32, 3) := by decide +kernel
theorem dX3_turned_16 : decode cX3_turned 16 = .ok (.istore_n 3, 1) := by decide +kernel
theorem dX3_turned_17 : decode cX3_turned 17 = .ok (.iload_n 3, 1) := by decide +kernel
theorem dX3_turned_18 : decode cX3_turned 18 = .ok (.aload_n 0, 1) := by decide +kernel
theorem dX3_turned_19 : decode cX3_turned 19 = .ok (.getfield 7, 3) := by decide +kernel
theorem dX3_turned_22 : decode cX3_turned 22 = .ok (.idiv, 1) := by decide +kernel
theorem dX3_turned_23 : decode cX3_turned 23 = .ok (.istore 4, 2) := by decide +kernel
theorem dX3_turned_25 : decode cX3_turned 25 = .ok (.iconst 2, 1) := by decide +kernel
theorem dX3_turned_26 : decode cX3_turned 26 = .ok (.iload_n 3, 1) := by decide +kernel
theorem dX3_turned_27 : decode cX3_turned 27 = .ok (.aload_n 0, 1) := by decide +kernel
theorem dX3_turned_28 : decode cX3_turned 28 = .ok (.getfield 7, 3) := by decide +kernel
theorem dX3_turned_31 : decode cX3_turned 31 = .ok (.irem, 1) := by decide +kernel
theorem dX3_turned_32 : decode cX3_turned 32 = .ok (.imul, 1) := by decide +kernel
theorem dX3_turned_33 : decode cX3_turned 33 = .ok (.aload_n 0, 1) := by decide +kernel
theorem dX3_turned_34 : decode cX3_turned 34 = .ok (.getfield 7, 3) := by decide +kernel
theorem dX3_turned_37 : decode cX3_turned 37 = .ok (.if_icmp .le 6, 3) := by decide +kernel
theorem dX3_turned_40 : decode cX3_turned 40 = .ok (.iinc 4 1, 3) := by decide +kernel
theorem dX3_turned_43 : decode cX3_turned 43 = .ok (.iload_n 2, 1) := by decide +kernel
theorem dX3_turned_44 : decode cX3_turned 44 = .ok (.iload_n 1, 1) := by decide +kernel
theorem dX3_turned_45 : decode cX3_turned 45 = .ok (.if_icmp .le 15, 3) := by decide +kernel
theorem dX3_turned_48 : decode cX3_turned 48 = .ok (.iload_n 1, 1) := by decide +kernel
theorem dX3_turned_49 : decode cX3_turned 49 = .ok (.iload 4, 2) := by decide +kernel
theorem dX3_turned_51 : decode cX3_turned 51 = .ok (.aload_n 0, 1) := by decide +kernel
theorem dX3_turned_52 : decode cX3_turned 52 = .ok (.getfield 7, 3) := by decide +kernel
theorem dX3_turned_55 : decode cX3_turned 55 = .ok (.imul, 1) := by decide +kernel
theorem dX3_turned_56 : decode cX3_turned 56 = .ok (.iadd, 1) := by decide +kernel
theorem dX3_turned_57 : decode cX3_turned 57 = .ok (.goto 12, 3) := by decide +kernel
theorem dX3_turned_60 : decode cX3_turned 60 = .ok (.iload_n 1, 1) := by decide +kernel
theorem dX3_turned_61 : decode cX3_turned 61 = .ok (.iload 4, 2) := by decide +kernel
theorem dX3_turned_63 : decode cX3_turned 63 = .ok (.aload_n 0, 1) := by decide +kernel
theorem dX3_turned_64 : decode cX3_turned 64 = .ok (.getfield 7, 3) := by decide +kernel
theorem dX3_turned_67 : decode cX3_turned 67 = .ok (.imul, 1) := by decide +kernel
theorem dX3_turned_68 : decode cX3_turned 68 = .ok (.isub, 1) := by decide +kernel
theorem dX3_turned_69 : decode cX3_turned 69 = .ok (.ireturn, 1) := by decide +kernel
theorem dX4_init_0 : decode cX4_init 0 = .ok (.aload_n 0, 1) := by decide +kernel
theorem dX4_init_1 : decode cX4_init 1 = .ok (.invokespecial 1, 3) := by decide +kernel
theorem dX4_init_4 : decode cX4_init 4 = .ok (.aload_n 0, 1) := by decide +kernel
theorem dX4_init_5 : decode cX4_init 5 = .ok (.iconst 0, 1) := by decide +kernel
theorem dX4_init_6 : decode cX4_init 6 = .ok (.putfield 7, 3) := by decide +kernel
theorem dX4_init_9 : decode cX4_init 9 = .ok (.aload_n 0, 1) := by decide +kernel
theorem dX4_init_10 : decode cX4_init 10 = .ok (.iconst 3, 1) := by decide +kernel
theorem dX4_init_11 : decode cX4_init 11 = .ok (.putfield 13, 3) := by decide +kernel
theorem dX4_init_14 : decode cX4_init 14 = .ok (.aload_n 0, 1) := by decide +kernel
theorem dX4_init_15 : decode cX4_init 15 = .ok (.iconst 2, 1) := by decide +kernel
theorem dX4_init_16 : decode cX4_init 16 = .ok (.putfield 16, 3) := by decide +kernel
theorem dX4_init_19 : decode cX4_init 19 = .ok (.return_, 1) := by decide +kernel
theorem dX4_become_0 : decode cX4_become 0 = .ok (.aload_n 0, 1) := by decide +kernel
theorem dX4_become_1 : decode cX4_become 1 = .ok (.aload_n 1, 1) := by decide +kernel
theorem dX4_become_2 : decode cX4_become 2 = .ok (.getfield 7, 3) := by decide +kernel
theorem dX4_become_5 : decode cX4_become 5 = .ok (.putfield 7, 3) := by decide +kernel
theorem dX4_become_8 : decode cX4_become 8 = .ok (.aload_n 0, 1) := by decide +kernel
theorem dX4_become_9 : decode cX4_become 9 = .ok (.aload_n 1, 1) := by decide +kernel
theorem dX4_become_10 : decode cX4_become 10 = .ok (.getfield 13, 3) := by decide +kernel
theorem dX4_become_13 : decode cX4_become 13 = .ok (.putfield 13, 3) := by decide +kernel
theorem dX4_become_16 : decode cX4_become 16 = .ok (.aload_n 0, 1) := by decide +kernel
theorem dX4_become_17 : decode cX4_become 17 = .ok (.aload_n 1, 1) := by decide +kernel
theorem dX4_become_18 : decode cX4_become 18 = .ok (.getfield 16, 3) := by decide +kernel
theorem dX4_become_21 : decode cX4_become 21 = .ok (.putfield 16, 3) := by decide +kernel
theorem dX4_become_24 : decode cX4_become 24 = .ok (.return_, 1) := by decide +kernel
theorem dX4_rouses_0 : decode cX4_rouses 0 = .ok (.aload_n 0, 1) := by decide +kernel
theorem dX4_rouses_1 : decode cX4_rouses 1 = .ok (.getfield 7, 3) := by decide +kernel
theorem dX4_rouses_4 : decode cX4_rouses 4 = .ok (.lookupswitch 66 #[(2, 28), (4, 50)], 28) := by decide +kernel
theorem dX4_rouses_32 : decode cX4_rouses 32 = .ok (.aload_n 0, 1) := by decide +kernel
theorem dX4_rouses_33 : decode cX4_rouses 33 = .ok (.getfield 13, 3) := by decide +kernel
theorem dX4_rouses_36 : decode cX4_rouses 36 = .ok (.ifCond .le 16, 3) := by decide +kernel
theorem dX4_rouses_39 : decode cX4_rouses 39 = .ok (.iload_n 2, 1) := by decide +kernel
theorem dX4_rouses_40 : decode cX4_rouses 40 = .ok (.aload_n 0, 1) := by decide +kernel
theorem dX4_rouses_41 : decode cX4_rouses 41 = .ok (.getfield 13, 3) := by decide +kernel
theorem dX4_rouses_44 : decode cX4_rouses 44 = .ok (.irem, 1) := by decide +kernel
theorem dX4_rouses_45 : decode cX4_rouses 45 = .ok (.ifCond .ne 7, 3) := by decide +kernel
theorem dX4_rouses_48 : decode cX4_rouses 48 = .ok (.iconst 1, 1) := by decide +kernel
theorem dX4_rouses_49 : decode cX4_rouses 49 = .ok (.goto 4, 3) := by decide +kernel
theorem dX4_rouses_52 : decode cX4_rouses 52 = .ok (.iconst 0, 1) := by decide +kernel
theorem dX4_rouses_53 : decode cX4_rouses 53 = .ok (.ireturn, 1) := by decide +kernel
theorem dX4_rouses_54 : decode cX4_rouses 54 = .ok (.iload_n 1, 1) := by decide +kernel
theorem dX4_rouses_55 : decode cX4_rouses 55 = .ok (.iconst 2, 1) := by decide +kernel
theorem dX4_rouses_56 : decode cX4_rouses 56 = .ok (.aload_n 0, 1) := by decide +kernel
theorem dX4_rouses_57 : decode cX4_rouses 57 = .ok (.getfield 13, 3) := by decide +kernel
theorem dX4_rouses_60 : decode cX4_rouses 60 = .ok (.imul, 1) := by decide +kernel
theorem dX4_rouses_61 : decode cX4_rouses 61 = .ok (.if_icmp .le 7, 3) := by decide +kernel
theorem dX4_rouses_64 : decode cX4_rouses 64 = .ok (.iconst 1, 1) := by decide +kernel
theorem dX4_rouses_65 : decode cX4_rouses 65 = .ok (.goto 4, 3) := by decide +kernel
theorem dX4_rouses_68 : decode cX4_rouses 68 = .ok (.iconst 0, 1) := by decide +kernel
theorem dX4_rouses_69 : decode cX4_rouses 69 = .ok (.ireturn, 1) := by decide +kernel
theorem dX4_rouses_70 : decode cX4_rouses 70 = .ok (.iload_n 1, 1) := by decide +kernel
theorem dX4_rouses_71 : decode cX4_rouses 71 = .ok (.aload_n 0, 1) := by decide +kernel
theorem dX4_rouses_72 : decode cX4_rouses 72 = .ok (.getfield 13, 3) := by decide +kernel
theorem dX4_rouses_75 : decode cX4_rouses 75 = .ok (.if_icmp .le 7, 3) := by decide +kernel
theorem dX4_rouses_78 : decode cX4_rouses 78 = .ok (.iconst 1, 1) := by decide +kernel
theorem dX4_rouses_79 : decode cX4_rouses 79 = .ok (.goto 4, 3) := by decide +kernel
theorem dX4_rouses_82 : decode cX4_rouses 82 = .ok (.iconst 0, 1) := by decide +kernel
theorem dX4_rouses_83 : decode cX4_rouses 83 = .ok (.ireturn, 1) := by decide +kernel
theorem dX4_aim_0 : decode cX4_aim 0 = .ok (.aload_n 0, 1) := by decide +kernel
theorem dX4_aim_1 : decode cX4_aim 1 = .ok (.getfield 7, 3) := by decide +kernel
theorem dX4_aim_4 : decode cX4_aim 4 = .ok (.tableswitch 41 1 4 #[32, 41, 39, 32], 32) := by decide +kernel
theorem dX4_aim_36 : decode cX4_aim 36 = .ok (.aload_n 0, 1) := by decide +kernel
theorem dX4_aim_37 : decode cX4_aim 37 = .ok (.iload_n 1, 1) := by decide +kernel
theorem dX4_aim_38 : decode cX4_aim 38 = .ok (.iload_n 3, 1) := by decide +kernel
theorem dX4_aim_39 : decode cX4_aim 39 = .ok (.invokevirtual 19, 3) := by decide +kernel
theorem dX4_aim_42 : decode cX4_aim 42 = .ok (.ireturn, 1) := by decide +kernel
theorem dX4_aim_43 : decode cX4_aim 43 = .ok (.iload_n 2, 1) := by decide +kernel
theorem dX4_aim_44 : decode cX4_aim 44 = .ok (.ireturn, 1) := by decide +kernel
theorem dX4_aim_45 : decode cX4_aim 45 = .ok (.iload_n 1, 1) := by decide +kernel
theorem dX4_aim_46 : decode cX4_aim 46 = .ok (.ireturn, 1) := by decide +kernel
theorem dX4_against_0 : decode cX4_against 0 = .ok (.iload_n 2, 1) := by decide +kernel
theorem dX4_against_1 : decode cX4_against 1 = .ok (.ifCond .ne 5, 3) := by decide +kernel
theorem dX4_against_4 : decode cX4_against 4 = .ok (.iload_n 1, 1) := by decide +kernel
theorem dX4_against_5 : decode cX4_against 5 = .ok (.ireturn, 1) := by decide +kernel
theorem dX4_against_6 : decode cX4_against 6 = .ok (.iload_n 2, 1) := by decide +kernel
theorem dX4_against_7 : decode cX4_against 7 = .ok (.ifCond .le 12, 3) := by decide +kernel
theorem dX4_against_10 : decode cX4_against 10 = .ok (.iload_n 1, 1) := by decide +kernel
theorem dX4_against_11 : decode cX4_against 11 = .ok (.aload_n 0, 1) := by decide +kernel
theorem dX4_against_12 : decode cX4_against 12 = .ok (.getfield 16, 3) := by decide +kernel
theorem dX4_against_15 : decode cX4_against 15 = .ok (.isub, 1) := by decide +kernel
theorem dX4_against_16 : decode cX4_against 16 = .ok (.goto 9, 3) := by decide +kernel
theorem dX4_against_19 : decode cX4_against 19 = .ok (.iload_n 1, 1) := by decide +kernel
theorem dX4_against_20 : decode cX4_against 20 = .ok (.aload_n 0, 1) := by decide +kernel
theorem dX4_against_21 : decode cX4_against 21 = .ok (.getfield 16, 3) := by decide +kernel
theorem dX4_against_24 : decode cX4_against 24 = .ok (.iadd, 1) := by decide +kernel
theorem dX4_against_25 : decode cX4_against 25 = .ok (.ireturn, 1) := by decide +kernel
theorem dX5_init_0 : decode cX5_init 0 = .ok (.aload_n 0, 1) := by decide +kernel
theorem dX5_init_1 : decode cX5_init 1 = .ok (.invokespecial 3, 3) := by decide +kernel
theorem dX5_init_4 : decode cX5_init 4 = .ok (.aload_n 0, 1) := by decide +kernel
theorem dX5_init_5 : decode cX5_init 5 = .ok (.bipush 96, 2) := by decide +kernel
theorem dX5_init_7 : decode cX5_init 7 = .ok (.newarray .char, 2) := by decide +kernel
theorem dX5_init_9 : decode cX5_init 9 = .ok (.putfield 9, 3) := by decide +kernel
theorem dX5_init_12 : decode cX5_init 12 = .ok (.return_, 1) := by decide +kernel
theorem dX5_add_0 : decode cX5_add 0 = .ok (.aload_n 0, 1) := by decide +kernel
theorem dX5_add_1 : decode cX5_add 1 = .ok (.getfield 15, 3) := by decide +kernel
theorem dX5_add_4 : decode cX5_add 4 = .ok (.ifCond .lt 32, 3) := by decide +kernel
theorem dX5_add_7 : decode cX5_add 7 = .ok (.aload_n 0, 1) := by decide +kernel
theorem dX5_add_8 : decode cX5_add 8 = .ok (.getfield 15, 3) := by decide +kernel
theorem dX5_add_11 : decode cX5_add 11 = .ok (.bipush 96, 2) := by decide +kernel
theorem dX5_add_13 : decode cX5_add 13 = .ok (.if_icmp .ge 23, 3) := by decide +kernel
theorem dX5_add_16 : decode cX5_add 16 = .ok (.aload_n 0, 1) := by decide +kernel
theorem dX5_add_17 : decode cX5_add 17 = .ok (.getfield 9, 3) := by decide +kernel
theorem dX5_add_20 : decode cX5_add 20 = .ok (.aload_n 0, 1) := by decide +kernel
theorem dX5_add_21 : decode cX5_add 21 = .ok (.getfield 15, 3) := by decide +kernel
theorem dX5_add_24 : decode cX5_add 24 = .ok (.iload_n 1, 1) := by decide +kernel
theorem dX5_add_25 : decode cX5_add 25 = .ok (.castore, 1) := by decide +kernel
theorem dX5_add_26 : decode cX5_add 26 = .ok (.aload_n 0, 1) := by decide +kernel
theorem dX5_add_27 : decode cX5_add 27 = .ok (.dup, 1) := by decide +kernel
theorem dX5_add_28 : decode cX5_add 28 = .ok (.getfield 15, 3) := by decide +kernel
theorem dX5_add_31 : decode cX5_add 31 = .ok (.iconst 1, 1) := by decide +kernel
theorem dX5_add_32 : decode cX5_add 32 = .ok (.iadd, 1) := by decide +kernel
theorem dX5_add_33 : decode cX5_add 33 = .ok (.putfield 15, 3) := by decide +kernel
theorem dX5_add_36 : decode cX5_add 36 = .ok (.return_, 1) := by decide +kernel
theorem dX5_shapeAt_0 : decode cX5_shapeAt 0 = .ok (.aload_n 0, 1) := by decide +kernel
theorem dX5_shapeAt_1 : decode cX5_shapeAt 1 = .ok (.iload_n 1, 1) := by decide +kernel
theorem dX5_shapeAt_2 : decode cX5_shapeAt 2 = .ok (.invokevirtual 19, 3) := by decide +kernel
theorem dX5_shapeAt_5 : decode cX5_shapeAt 5 = .ok (.tableswitch 113 100 119 #[104, 113, 113, 113, 113, 113, 113, 113, 113, 113, 110, 113, 95, 113, 107, 101, 113, 113, 113, 98], 95) := by decide +kernel
theorem dX5_shapeAt_100 : decode cX5_shapeAt 100 = .ok (.ldc 23, 2) := by decide +kernel
theorem dX5_shapeAt_102 : decode cX5_shapeAt 102 = .ok (.areturn, 1) := by decide +kernel
theorem dX5_shapeAt_103 : decode cX5_shapeAt 103 = .ok (.ldc 25, 2) := by decide +kernel
theorem dX5_shapeAt_105 : decode cX5_shapeAt 105 = .ok (.areturn, 1) := by decide +kernel
theorem dX5_shapeAt_106 : decode cX5_shapeAt 106 = .ok (.ldc 27, 2) := by decide +kernel
theorem dX5_shapeAt_108 : decode cX5_shapeAt 108 = .ok (.areturn, 1) := by decide +kernel
theorem dX5_shapeAt_109 : decode cX5_shapeAt 109 = .ok (.ldc 29, 2) := by decide +kernel
theorem dX5_shapeAt_111 : decode cX5_shapeAt 111 = .ok (.areturn, 1) := by decide +kernel
theorem dX5_shapeAt_112 : decode cX5_shapeAt 112 = .ok (.ldc 31, 2) := by decide +kernel
theorem dX5_shapeAt_114 : decode cX5_shapeAt 114 = .ok (.areturn, 1) := by decide +kernel
theorem dX5_shapeAt_115 : decode cX5_shapeAt 115 = .ok (.ldc 33, 2) := by decide +kernel
theorem dX5_shapeAt_117 : decode cX5_shapeAt 117 = .ok (.areturn, 1) := by decide +kernel
theorem dX5_shapeAt_118 : decode cX5_shapeAt 118 = .ok (.ldc 35, 2) := by decide +kernel
theorem dX5_shapeAt_120 : decode cX5_shapeAt 120 = .ok (.areturn, 1) := by decide +kernel
theorem dX5_firstUnfit_0 : decode cX5_firstUnfit 0 = .ok (.ldc 35, 2) := by decide +kernel
theorem dX5_firstUnfit_2 : decode cX5_firstUnfit 2 = .ok (.astore_n 1, 1) := by decide +kernel
theorem dX5_firstUnfit_3 : decode cX5_firstUnfit 3 = .ok (.iconst 0, 1) := by decide +kernel
theorem dX5_firstUnfit_4 : decode cX5_firstUnfit 4 = .ok (.istore_n 2, 1) := by decide +kernel
theorem dX5_firstUnfit_5 : decode cX5_firstUnfit 5 = .ok (.iconst 0, 1) := by decide +kernel
theorem dX5_firstUnfit_6 : decode cX5_firstUnfit 6 = .ok (.istore_n 3, 1) := by decide +kernel
theorem dX5_firstUnfit_7 : decode cX5_firstUnfit 7 = .ok (.iload_n 3, 1) := by decide +kernel
theorem dX5_firstUnfit_8 : decode cX5_firstUnfit 8 = .ok (.aload_n 0, 1) := by decide +kernel
theorem dX5_firstUnfit_9 : decode cX5_firstUnfit 9 = .ok (.getfield 15, 3) := by decide +kernel
theorem dX5_firstUnfit_12 : decode cX5_firstUnfit 12 = .ok (.if_icmp .ge 58, 3) := by decide +kernel
theorem dX5_firstUnfit_15 : decode cX5_firstUnfit 15 = .ok (.iload_n 2, 1) := by decide +kernel
theorem dX5_firstUnfit_16 : decode cX5_firstUnfit 16 = .ok (.aload_n 1, 1) := by decide +kernel
theorem dX5_firstUnfit_17 : decode cX5_firstUnfit 17 = .ok (.invokevirtual 37, 3) := by decide +kernel
theorem dX5_firstUnfit_20 : decode cX5_firstUnfit 20 = .ok (.if_icmp .ge 27, 3) := by decide +kernel
theorem dX5_firstUnfit_23 : decode cX5_firstUnfit 23 = .ok (.aload_n 1, 1) := by decide +kernel
theorem dX5_firstUnfit_24 : decode cX5_firstUnfit 24 = .ok (.iload_n 2, 1) := by decide +kernel
theorem dX5_firstUnfit_25 : decode cX5_firstUnfit 25 = .ok (.invokevirtual 43, 3) := by decide +kernel
theorem dX5_firstUnfit_28 : decode cX5_firstUnfit 28 = .ok (.aload_n 0, 1) := by decide +kernel
theorem dX5_firstUnfit_29 : decode cX5_firstUnfit 29 = .ok (.iload_n 3, 1) := by decide +kernel
theorem dX5_firstUnfit_30 : decode cX5_firstUnfit 30 = .ok (.invokevirtual 19, 3) := by decide +kernel
theorem dX5_firstUnfit_33 : decode cX5_firstUnfit 33 = .ok (.invokestatic 46, 3) := by decide +kernel
theorem dX5_firstUnfit_36 : decode cX5_firstUnfit 36 = .ok (.ifCond .ne 5, 3) := by decide +kernel
theorem dX5_firstUnfit_39 : decode cX5_firstUnfit 39 = .ok (.iload_n 3, 1) := by decide +kernel
theorem dX5_firstUnfit_40 : decode cX5_firstUnfit 40 = .ok (.ireturn, 1) := by decide +kernel
theorem dX5_firstUnfit_41 : decode cX5_firstUnfit 41 = .ok (.iinc 2 1, 3) := by decide +kernel
theorem dX5_firstUnfit_44 : decode cX5_firstUnfit 44 = .ok (.goto 20, 3) := by decide +kernel
end
section
theorem dX5_firstUnfit_47 : decode cX5_firstUnfit 47 = .ok (.aload_n 0, 1) := by decide +kernel
theorem dX5_firstUnfit_48 : decode cX5_firstUnfit 48 = .ok (.iload_n 3, 1) := by decide +kernel
theorem dX5_firstUnfit_49 : decode cX5_firstUnfit 49 = .ok (.invokevirtual 50, 3) := by decide +kernel
theorem dX5_firstUnfit_52 : decode cX5_firstUnfit 52 = .ok (.astore_n 1, 1) := by decide +kernel
theorem dX5_firstUnfit_53 : decode cX5_firstUnfit 53 = .ok (.iconst 0, 1) := by decide +kernel
theorem dX5_firstUnfit_54 : decode cX5_firstUnfit 54 = .ok (.istore_n 2, 1) := by decide +kernel
theorem dX5_firstUnfit_55 : decode cX5_firstUnfit 55 = .ok (.aload_n 1, 1) := by decide +kernel
theorem dX5_firstUnfit_56 : decode cX5_firstUnfit 56 = .ok (.invokevirtual 54, 3) := by decide +kernel
theorem dX5_firstUnfit_59 : decode cX5_firstUnfit 59 = .ok (.ifCond .eq 5, 3) := by decide +kernel
theorem dX5_firstUnfit_62 : decode cX5_firstUnfit 62 = .ok (.iload_n 3, 1) := by decide +kernel
theorem dX5_firstUnfit_63 : decode cX5_firstUnfit 63 = .ok (.ireturn, 1) := by decide +kernel
theorem dX5_firstUnfit_64 : decode cX5_firstUnfit 64 = .ok (.iinc 3 1, 3) := by decide +kernel
theorem dX5_firstUnfit_67 : decode cX5_firstUnfit 67 = .ok (.goto (-60), 3) := by decide +kernel
theorem dX5_firstUnfit_70 : decode cX5_firstUnfit 70 = .ok (.aload_n 0, 1) := by decide +kernel
theorem dX5_firstUnfit_71 : decode cX5_firstUnfit 71 = .ok (.getfield 15, 3) := by decide +kernel
theorem dX5_firstUnfit_74 : decode cX5_firstUnfit 74 = .ok (.ifCond .eq 11, 3) := by decide +kernel
theorem dX5_firstUnfit_77 : decode cX5_firstUnfit 77 = .ok (.iload_n 2, 1) := by decide +kernel
theorem dX5_firstUnfit_78 : decode cX5_firstUnfit 78 = .ok (.aload_n 1, 1) := by decide +kernel
theorem dX5_firstUnfit_79 : decode cX5_firstUnfit 79 = .ok (.invokevirtual 37, 3) := by decide +kernel
theorem dX5_firstUnfit_82 : decode cX5_firstUnfit 82 = .ok (.if_icmp .ge 10, 3) := by decide +kernel
theorem dX5_firstUnfit_85 : decode cX5_firstUnfit 85 = .ok (.aload_n 0, 1) := by decide +kernel
theorem dX5_firstUnfit_86 : decode cX5_firstUnfit 86 = .ok (.getfield 15, 3) := by decide +kernel
theorem dX5_firstUnfit_89 : decode cX5_firstUnfit 89 = .ok (.goto 5, 3) := by decide +kernel
theorem dX5_firstUnfit_92 : decode cX5_firstUnfit 92 = .ok (.bipush (-9), 2) := by decide +kernel
theorem dX5_firstUnfit_94 : decode cX5_firstUnfit 94 = .ok (.ireturn, 1) := by decide +kernel
theorem dX5_tellTo_0 : decode cX5_tellTo 0 = .ok (.aload_n 0, 1) := by decide +kernel
theorem dX5_tellTo_1 : decode cX5_tellTo 1 = .ok (.iload_n 2, 1) := by decide +kernel
theorem dX5_tellTo_2 : decode cX5_tellTo 2 = .ok (.invokevirtual 19, 3) := by decide +kernel
theorem dX5_tellTo_5 : decode cX5_tellTo 5 = .ok (.lookupswitch 131 #[(100, 85), (112, 51), (114, 124), (115, 78), (119, 58)], 51) := by decide +kernel
theorem dX5_tellTo_56 : decode cX5_tellTo 56 = .ok (.aload_n 0, 1) := by decide +kernel
theorem dX5_tellTo_57 : decode cX5_tellTo 57 = .ok (.aload_n 1, 1) := by decide +kernel
theorem dX5_tellTo_58 : decode cX5_tellTo 58 = .ok (.iload_n 2, 1) := by decide +kernel
theorem dX5_tellTo_59 : decode cX5_tellTo 59 = .ok (.invokevirtual 58, 3) := by decide +kernel
theorem dX5_tellTo_62 : decode cX5_tellTo 62 = .ok (.ireturn, 1) := by decide +kernel
theorem dX5_tellTo_63 : decode cX5_tellTo 63 = .ok (.aload_n 1, 1) := by decide +kernel
theorem dX5_tellTo_64 : decode cX5_tellTo 64 = .ok (.aload_n 0, 1) := by decide +kernel
theorem dX5_tellTo_65 : decode cX5_tellTo 65 = .ok (.iload_n 2, 1) := by decide +kernel
theorem dX5_tellTo_66 : decode cX5_tellTo 66 = .ok (.iconst 1, 1) := by decide +kernel
theorem dX5_tellTo_67 : decode cX5_tellTo 67 = .ok (.iadd, 1) := by decide +kernel
theorem dX5_tellTo_68 : decode cX5_tellTo 68 = .ok (.aload_n 0, 1) := by decide +kernel
theorem dX5_tellTo_69 : decode cX5_tellTo 69 = .ok (.iload_n 2, 1) := by decide +kernel
theorem dX5_tellTo_70 : decode cX5_tellTo 70 = .ok (.iconst 2, 1) := by decide +kernel
theorem dX5_tellTo_71 : decode cX5_tellTo 71 = .ok (.iadd, 1) := by decide +kernel
theorem dX5_tellTo_72 : decode cX5_tellTo 72 = .ok (.invokevirtual 62, 3) := by decide +kernel
theorem dX5_tellTo_75 : decode cX5_tellTo 75 = .ok (.invokevirtual 66, 3) := by decide +kernel
theorem dX5_tellTo_78 : decode cX5_tellTo 78 = .ok (.putfield 70, 3) := by decide +kernel
theorem dX5_tellTo_81 : decode cX5_tellTo 81 = .ok (.iconst 1, 1) := by decide +kernel
theorem dX5_tellTo_82 : decode cX5_tellTo 82 = .ok (.ireturn, 1) := by decide +kernel
theorem dX5_tellTo_83 : decode cX5_tellTo 83 = .ok (.aload_n 0, 1) := by decide +kernel
theorem dX5_tellTo_84 : decode cX5_tellTo 84 = .ok (.aload_n 1, 1) := by decide +kernel
theorem dX5_tellTo_85 : decode cX5_tellTo 85 = .ok (.iload_n 2, 1) := by decide +kernel
theorem dX5_tellTo_86 : decode cX5_tellTo 86 = .ok (.invokevirtual 75, 3) := by decide +kernel
theorem dX5_tellTo_89 : decode cX5_tellTo 89 = .ok (.ireturn, 1) := by decide +kernel
theorem dX5_tellTo_90 : decode cX5_tellTo 90 = .ok (.aload_n 1, 1) := by decide +kernel
theorem dX5_tellTo_91 : decode cX5_tellTo 91 = .ok (.getfield 78, 3) := by decide +kernel
theorem dX5_tellTo_94 : decode cX5_tellTo 94 = .ok (.aload_n 0, 1) := by decide +kernel
theorem dX5_tellTo_95 : decode cX5_tellTo 95 = .ok (.ldc 82, 2) := by decide +kernel
theorem dX5_tellTo_97 : decode cX5_tellTo 97 = .ok (.iload_n 2, 1) := by decide +kernel
theorem dX5_tellTo_98 : decode cX5_tellTo 98 = .ok (.iconst 1, 1) := by decide +kernel
theorem dX5_tellTo_99 : decode cX5_tellTo 99 = .ok (.iadd, 1) := by decide +kernel
theorem dX5_tellTo_100 : decode cX5_tellTo 100 = .ok (.invokevirtual 84, 3) := by decide +kernel
theorem dX5_tellTo_103 : decode cX5_tellTo 103 = .ok (.putfield 88, 3) := by decide +kernel
theorem dX5_tellTo_106 : decode cX5_tellTo 106 = .ok (.aload_n 1, 1) := by decide +kernel
theorem dX5_tellTo_107 : decode cX5_tellTo 107 = .ok (.getfield 78, 3) := by decide +kernel
theorem dX5_tellTo_110 : decode cX5_tellTo 110 = .ok (.aload_n 0, 1) := by decide +kernel
theorem dX5_tellTo_111 : decode cX5_tellTo 111 = .ok (.iload_n 2, 1) := by decide +kernel
theorem dX5_tellTo_112 : decode cX5_tellTo 112 = .ok (.iconst 2, 1) := by decide +kernel
theorem dX5_tellTo_113 : decode cX5_tellTo 113 = .ok (.iadd, 1) := by decide +kernel
theorem dX5_tellTo_114 : decode cX5_tellTo 114 = .ok (.aload_n 0, 1) := by decide +kernel
theorem dX5_tellTo_115 : decode cX5_tellTo 115 = .ok (.iload_n 2, 1) := by decide +kernel
theorem dX5_tellTo_116 : decode cX5_tellTo 116 = .ok (.iconst 3, 1) := by decide +kernel
theorem dX5_tellTo_117 : decode cX5_tellTo 117 = .ok (.iadd, 1) := by decide +kernel
theorem dX5_tellTo_118 : decode cX5_tellTo 118 = .ok (.invokevirtual 93, 3) := by decide +kernel
theorem dX5_tellTo_121 : decode cX5_tellTo 121 = .ok (.invokevirtual 66, 3) := by decide +kernel
theorem dX5_tellTo_124 : decode cX5_tellTo 124 = .ok (.putfield 96, 3) := by decide +kernel
theorem dX5_tellTo_127 : decode cX5_tellTo 127 = .ok (.iconst 1, 1) := by decide +kernel
theorem dX5_tellTo_128 : decode cX5_tellTo 128 = .ok (.ireturn, 1) := by decide +kernel
theorem dX5_tellTo_129 : decode cX5_tellTo 129 = .ok (.aload_n 0, 1) := by decide +kernel
theorem dX5_tellTo_130 : decode cX5_tellTo 130 = .ok (.aload_n 1, 1) := by decide +kernel
theorem dX5_tellTo_131 : decode cX5_tellTo 131 = .ok (.iload_n 2, 1) := by decide +kernel
theorem dX5_tellTo_132 : decode cX5_tellTo 132 = .ok (.invokevirtual 99, 3) := by decide +kernel
theorem dX5_tellTo_135 : decode cX5_tellTo 135 = .ok (.ireturn, 1) := by decide +kernel
theorem dX5_tellTo_136 : decode cX5_tellTo 136 = .ok (.aload_n 0, 1) := by decide +kernel
theorem dX5_tellTo_137 : decode cX5_tellTo 137 = .ok (.aload_n 1, 1) := by decide +kernel
theorem dX5_tellTo_138 : decode cX5_tellTo 138 = .ok (.iload_n 2, 1) := by decide +kernel
theorem dX5_tellTo_139 : decode cX5_tellTo 139 = .ok (.aload_n 3, 1) := by decide +kernel
theorem dX5_tellTo_140 : decode cX5_tellTo 140 = .ok (.invokevirtual 102, 3) := by decide +kernel
theorem dX5_tellTo_143 : decode cX5_tellTo 143 = .ok (.ireturn, 1) := by decide +kernel
theorem dX5_tellPerson_0 : decode cX5_tellPerson 0 = .ok (.aload_n 0, 1) := by decide +kernel
theorem dX5_tellPerson_1 : decode cX5_tellPerson 1 = .ok (.iload_n 2, 1) := by decide +kernel
theorem dX5_tellPerson_2 : decode cX5_tellPerson 2 = .ok (.iconst 4, 1) := by decide +kernel
theorem dX5_tellPerson_3 : decode cX5_tellPerson 3 = .ok (.iadd, 1) := by decide +kernel
theorem dX5_tellPerson_4 : decode cX5_tellPerson 4 = .ok (.invokevirtual 93, 3) := by decide +kernel
theorem dX5_tellPerson_7 : decode cX5_tellPerson 7 = .ok (.istore_n 3, 1) := by decide +kernel
theorem dX5_tellPerson_8 : decode cX5_tellPerson 8 = .ok (.aload_n 0, 1) := by decide +kernel
theorem dX5_tellPerson_9 : decode cX5_tellPerson 9 = .ok (.iload_n 2, 1) := by decide +kernel
theorem dX5_tellPerson_10 : decode cX5_tellPerson 10 = .ok (.iconst 5, 1) := by decide +kernel
theorem dX5_tellPerson_11 : decode cX5_tellPerson 11 = .ok (.iadd, 1) := by decide +kernel
theorem dX5_tellPerson_12 : decode cX5_tellPerson 12 = .ok (.invokevirtual 93, 3) := by decide +kernel
theorem dX5_tellPerson_15 : decode cX5_tellPerson 15 = .ok (.istore 4, 2) := by decide +kernel
theorem dX5_tellPerson_17 : decode cX5_tellPerson 17 = .ok (.aload_n 1, 1) := by decide +kernel
theorem dX5_tellPerson_18 : decode cX5_tellPerson 18 = .ok (.getfield 106, 3) := by decide +kernel
theorem dX5_tellPerson_21 : decode cX5_tellPerson 21 = .ok (.istore 5, 2) := by decide +kernel
theorem dX5_tellPerson_23 : decode cX5_tellPerson 23 = .ok (.iload_n 3, 1) := by decide +kernel
theorem dX5_tellPerson_24 : decode cX5_tellPerson 24 = .ok (.iconst 1, 1) := by decide +kernel
theorem dX5_tellPerson_25 : decode cX5_tellPerson 25 = .ok (.if_icmp .gt 26, 3) := by decide +kernel
theorem dX5_tellPerson_28 : decode cX5_tellPerson 28 = .ok (.iload 4, 2) := by decide +kernel
theorem dX5_tellPerson_30 : decode cX5_tellPerson 30 = .ok (.iconst 1, 1) := by decide +kernel
theorem dX5_tellPerson_31 : decode cX5_tellPerson 31 = .ok (.if_icmp .lt 20, 3) := by decide +kernel
theorem dX5_tellPerson_34 : decode cX5_tellPerson 34 = .ok (.iload 4, 2) := by decide +kernel
theorem dX5_tellPerson_36 : decode cX5_tellPerson 36 = .ok (.iconst 5, 1) := by decide +kernel
theorem dX5_tellPerson_37 : decode cX5_tellPerson 37 = .ok (.if_icmp .gt 14, 3) := by decide +kernel
theorem dX5_tellPerson_40 : decode cX5_tellPerson 40 = .ok (.iload 5, 2) := by decide +kernel
theorem dX5_tellPerson_42 : decode cX5_tellPerson 42 = .ok (.ifCond .lt 9, 3) := by decide +kernel
theorem dX5_tellPerson_45 : decode cX5_tellPerson 45 = .ok (.iload 5, 2) := by decide +kernel
theorem dX5_tellPerson_47 : decode cX5_tellPerson 47 = .ok (.iconst 5, 1) := by decide +kernel
theorem dX5_tellPerson_48 : decode cX5_tellPerson 48 = .ok (.if_icmp .lt 5, 3) := by decide +kernel
theorem dX5_tellPerson_51 : decode cX5_tellPerson 51 = .ok (.iconst 0, 1) := by decide +kernel
theorem dX5_tellPerson_52 : decode cX5_tellPerson 52 = .ok (.ireturn, 1) := by decide +kernel
theorem dX5_tellPerson_53 : decode cX5_tellPerson 53 = .ok (.aload_n 1, 1) := by decide +kernel
theorem dX5_tellPerson_54 : decode cX5_tellPerson 54 = .ok (.getfield 109, 3) := by decide +kernel
theorem dX5_tellPerson_57 : decode cX5_tellPerson 57 = .ok (.iload 5, 2) := by decide +kernel
theorem dX5_tellPerson_59 : decode cX5_tellPerson 59 = .ok (.aaload, 1) := by decide +kernel
theorem dX5_tellPerson_60 : decode cX5_tellPerson 60 = .ok (.astore 6, 2) := by decide +kernel
theorem dX5_tellPerson_62 : decode cX5_tellPerson 62 = .ok (.aload 6, 2) := by decide +kernel
theorem dX5_tellPerson_64 : decode cX5_tellPerson 64 = .ok (.aload_n 0, 1) := by decide +kernel
theorem dX5_tellPerson_65 : decode cX5_tellPerson 65 = .ok (.ldc 113, 2) := by decide +kernel
theorem dX5_tellPerson_67 : decode cX5_tellPerson 67 = .ok (.iload_n 2, 1) := by decide +kernel
theorem dX5_tellPerson_68 : decode cX5_tellPerson 68 = .ok (.iconst 1, 1) := by decide +kernel
theorem dX5_tellPerson_69 : decode cX5_tellPerson 69 = .ok (.iadd, 1) := by decide +kernel
theorem dX5_tellPerson_70 : decode cX5_tellPerson 70 = .ok (.invokevirtual 84, 3) := by decide +kernel
theorem dX5_tellPerson_73 : decode cX5_tellPerson 73 = .ok (.putfield 115, 3) := by decide +kernel
theorem dX5_tellPerson_76 : decode cX5_tellPerson 76 = .ok (.aload 6, 2) := by decide +kernel
theorem dX5_tellPerson_78 : decode cX5_tellPerson 78 = .ok (.aload_n 0, 1) := by decide +kernel
theorem dX5_tellPerson_79 : decode cX5_tellPerson 79 = .ok (.iload_n 2, 1) := by decide +kernel
theorem dX5_tellPerson_80 : decode cX5_tellPerson 80 = .ok (.iconst 2, 1) := by decide +kernel
theorem dX5_tellPerson_81 : decode cX5_tellPerson 81 = .ok (.iadd, 1) := by decide +kernel
theorem dX5_tellPerson_82 : decode cX5_tellPerson 82 = .ok (.invokevirtual 93, 3) := by decide +kernel
theorem dX5_tellPerson_85 : decode cX5_tellPerson 85 = .ok (.putfield 118, 3) := by decide +kernel
theorem dX5_tellPerson_88 : decode cX5_tellPerson 88 = .ok (.aload 6, 2) := by decide +kernel
theorem dX5_tellPerson_90 : decode cX5_tellPerson 90 = .ok (.aload_n 0, 1) := by decide +kernel
theorem dX5_tellPerson_91 : decode cX5_tellPerson 91 = .ok (.iload_n 2, 1) := by decide +kernel
theorem dX5_tellPerson_92 : decode cX5_tellPerson 92 = .ok (.iconst 3, 1) := by decide +kernel
theorem dX5_tellPerson_93 : decode cX5_tellPerson 93 = .ok (.iadd, 1) := by decide +kernel
theorem dX5_tellPerson_94 : decode cX5_tellPerson 94 = .ok (.invokevirtual 93, 3) := by decide +kernel
theorem dX5_tellPerson_97 : decode cX5_tellPerson 97 = .ok (.putfield 121, 3) := by decide +kernel
theorem dX5_tellPerson_100 : decode cX5_tellPerson 100 = .ok (.aload 6, 2) := by decide +kernel
theorem dX5_tellPerson_102 : decode cX5_tellPerson 102 = .ok (.iload_n 3, 1) := by decide +kernel
theorem dX5_tellPerson_103 : decode cX5_tellPerson 103 = .ok (.putfield 124, 3) := by decide +kernel
theorem dX5_tellPerson_106 : decode cX5_tellPerson 106 = .ok (.aload 6, 2) := by decide +kernel
theorem dX5_tellPerson_108 : decode cX5_tellPerson 108 = .ok (.iload 4, 2) := by decide +kernel
theorem dX5_tellPerson_110 : decode cX5_tellPerson 110 = .ok (.putfield 127, 3) := by decide +kernel
theorem dX5_tellPerson_113 : decode cX5_tellPerson 113 = .ok (.aload 6, 2) := by decide +kernel
theorem dX5_tellPerson_115 : decode cX5_tellPerson 115 = .ok (.aload_n 0, 1) := by decide +kernel
theorem dX5_tellPerson_116 : decode cX5_tellPerson 116 = .ok (.iload_n 2, 1) := by decide +kernel
theorem dX5_tellPerson_117 : decode cX5_tellPerson 117 = .ok (.bipush 6, 2) := by decide +kernel
theorem dX5_tellPerson_119 : decode cX5_tellPerson 119 = .ok (.iadd, 1) := by decide +kernel
theorem dX5_tellPerson_120 : decode cX5_tellPerson 120 = .ok (.invokevirtual 93, 3) := by decide +kernel
theorem dX5_tellPerson_123 : decode cX5_tellPerson 123 = .ok (.putfield 130, 3) := by decide +kernel
theorem dX5_tellPerson_126 : decode cX5_tellPerson 126 = .ok (.aload_n 1, 1) := by decide +kernel
theorem dX5_tellPerson_127 : decode cX5_tellPerson 127 = .ok (.dup, 1) := by decide +kernel
theorem dX5_tellPerson_128 : decode cX5_tellPerson 128 = .ok (.getfield 106, 3) := by decide +kernel
theorem dX5_tellPerson_131 : decode cX5_tellPerson 131 = .ok (.iconst 1, 1) := by decide +kernel
theorem dX5_tellPerson_132 : decode cX5_tellPerson 132 = .ok (.iadd, 1) := by decide +kernel
theorem dX5_tellPerson_133 : decode cX5_tellPerson 133 = .ok (.putfield 106, 3) := by decide +kernel
theorem dX5_tellPerson_136 : decode cX5_tellPerson 136 = .ok (.iconst 1, 1) := by decide +kernel
theorem dX5_tellPerson_137 : decode cX5_tellPerson 137 = .ok (.ireturn, 1) := by decide +kernel
theorem dX5_tellStation_0 : decode cX5_tellStation 0 = .ok (.aload_n 0, 1) := by decide +kernel
theorem dX5_tellStation_1 : decode cX5_tellStation 1 = .ok (.iload_n 2, 1) := by decide +kernel
theorem dX5_tellStation_2 : decode cX5_tellStation 2 = .ok (.iconst 1, 1) := by decide +kernel
theorem dX5_tellStation_3 : decode cX5_tellStation 3 = .ok (.iadd, 1) := by decide +kernel
theorem dX5_tellStation_4 : decode cX5_tellStation 4 = .ok (.invokevirtual 93, 3) := by decide +kernel
theorem dX5_tellStation_7 : decode cX5_tellStation 7 = .ok (.istore_n 3, 1) := by decide +kernel
theorem dX5_tellStation_8 : decode cX5_tellStation 8 = .ok (.aload_n 0, 1) := by decide +kernel
theorem dX5_tellStation_9 : decode cX5_tellStation 9 = .ok (.iload_n 2, 1) := by decide +kernel
theorem dX5_tellStation_10 : decode cX5_tellStation 10 = .ok (.iconst 3, 1) := by decide +kernel
theorem dX5_tellStation_11 : decode cX5_tellStation 11 = .ok (.iadd, 1) := by decide +kernel
theorem dX5_tellStation_12 : decode cX5_tellStation 12 = .ok (.invokevirtual 62, 3) := by decide +kernel
theorem dX5_tellStation_15 : decode cX5_tellStation 15 = .ok (.istore 4, 2) := by decide +kernel
theorem dX5_tellStation_17 : decode cX5_tellStation 17 = .ok (.iload_n 3, 1) := by decide +kernel
theorem dX5_tellStation_18 : decode cX5_tellStation 18 = .ok (.iconst 1, 1) := by decide +kernel
theorem dX5_tellStation_19 : decode cX5_tellStation 19 = .ok (.if_icmp .gt 10, 3) := by decide +kernel
theorem dX5_tellStation_22 : decode cX5_tellStation 22 = .ok (.iload 4, 2) := by decide +kernel
theorem dX5_tellStation_24 : decode cX5_tellStation 24 = .ok (.bipush 20, 2) := by decide +kernel
theorem dX5_tellStation_26 : decode cX5_tellStation 26 = .ok (.if_icmp .le 5, 3) := by decide +kernel
theorem dX5_tellStation_29 : decode cX5_tellStation 29 = .ok (.iconst 0, 1) := by decide +kernel
theorem dX5_tellStation_30 : decode cX5_tellStation 30 = .ok (.ireturn, 1) := by decide +kernel
theorem dX5_tellStation_31 : decode cX5_tellStation 31 = .ok (.aload_n 1, 1) := by decide +kernel
theorem dX5_tellStation_32 : decode cX5_tellStation 32 = .ok (.iload_n 3, 1) := by decide +kernel
theorem dX5_tellStation_33 : decode cX5_tellStation 33 = .ok (.ifCond .ne 7, 3) := by decide +kernel
theorem dX5_tellStation_36 : decode cX5_tellStation 36 = .ok (.iconst 1, 1) := by decide +kernel
theorem dX5_tellStation_37 : decode cX5_tellStation 37 = .ok (.goto 4, 3) := by decide +kernel
theorem dX5_tellStation_40 : decode cX5_tellStation 40 = .ok (.iconst 2, 1) := by decide +kernel
theorem dX5_tellStation_41 : decode cX5_tellStation 41 = .ok (.aload_n 0, 1) := by decide +kernel
theorem dX5_tellStation_42 : decode cX5_tellStation 42 = .ok (.iload_n 2, 1) := by decide +kernel
theorem dX5_tellStation_43 : decode cX5_tellStation 43 = .ok (.iconst 2, 1) := by decide +kernel
theorem dX5_tellStation_44 : decode cX5_tellStation 44 = .ok (.iadd, 1) := by decide +kernel
theorem dX5_tellStation_45 : decode cX5_tellStation 45 = .ok (.iload 4, 2) := by decide +kernel
theorem dX5_tellStation_47 : decode cX5_tellStation 47 = .ok (.invokevirtual 66, 3) := by decide +kernel
theorem dX5_tellStation_50 : decode cX5_tellStation 50 = .ok (.invokevirtual 133, 3) := by decide +kernel
theorem dX5_tellStation_53 : decode cX5_tellStation 53 = .ok (.pop, 1) := by decide +kernel
theorem dX5_tellStation_54 : decode cX5_tellStation 54 = .ok (.iconst 1, 1) := by decide +kernel
theorem dX5_tellStation_55 : decode cX5_tellStation 55 = .ok (.ireturn, 1) := by decide +kernel
theorem dX5_tellRule_0 : decode cX5_tellRule 0 = .ok (.aload_n 0, 1) := by decide +kernel
theorem dX5_tellRule_1 : decode cX5_tellRule 1 = .ok (.iload_n 2, 1) := by decide +kernel
theorem dX5_tellRule_2 : decode cX5_tellRule 2 = .ok (.iconst 2, 1) := by decide +kernel
theorem dX5_tellRule_3 : decode cX5_tellRule 3 = .ok (.iadd, 1) := by decide +kernel
theorem dX5_tellRule_4 : decode cX5_tellRule 4 = .ok (.invokevirtual 62, 3) := by decide +kernel
theorem dX5_tellRule_7 : decode cX5_tellRule 7 = .ok (.istore_n 3, 1) := by decide +kernel
theorem dX5_tellRule_8 : decode cX5_tellRule 8 = .ok (.iload_n 3, 1) := by decide +kernel
theorem dX5_tellRule_9 : decode cX5_tellRule 9 = .ok (.getstatic 136, 3) := by decide +kernel
theorem dX5_tellRule_12 : decode cX5_tellRule 12 = .ok (.iconst 4, 1) := by decide +kernel
theorem dX5_tellRule_13 : decode cX5_tellRule 13 = .ok (.iaload, 1) := by decide +kernel
theorem dX5_tellRule_14 : decode cX5_tellRule 14 = .ok (.getstatic 140, 3) := by decide +kernel
theorem dX5_tellRule_17 : decode cX5_tellRule 17 = .ok (.iconst 4, 1) := by decide +kernel
theorem dX5_tellRule_18 : decode cX5_tellRule 18 = .ok (.iaload, 1) := by decide +kernel
theorem dX5_tellRule_19 : decode cX5_tellRule 19 = .ok (.invokestatic 143, 3) := by decide +kernel
theorem dX5_tellRule_22 : decode cX5_tellRule 22 = .ok (.ifCond .eq 5, 3) := by decide +kernel
theorem dX5_tellRule_25 : decode cX5_tellRule 25 = .ok (.iconst 0, 1) := by decide +kernel
theorem dX5_tellRule_26 : decode cX5_tellRule 26 = .ok (.ireturn, 1) := by decide +kernel
theorem dX5_tellRule_27 : decode cX5_tellRule 27 = .ok (.aload_n 1, 1) := by decide +kernel
theorem dX5_tellRule_28 : decode cX5_tellRule 28 = .ok (.getfield 147, 3) := by decide +kernel
theorem dX5_tellRule_31 : decode cX5_tellRule 31 = .ok (.aload_n 0, 1) := by decide +kernel
theorem dX5_tellRule_32 : decode cX5_tellRule 32 = .ok (.ldc 151, 2) := by decide +kernel
theorem dX5_tellRule_34 : decode cX5_tellRule 34 = .ok (.iload_n 2, 1) := by decide +kernel
theorem dX5_tellRule_35 : decode cX5_tellRule 35 = .ok (.iconst 1, 1) := by decide +kernel
theorem dX5_tellRule_36 : decode cX5_tellRule 36 = .ok (.iadd, 1) := by decide +kernel
theorem dX5_tellRule_37 : decode cX5_tellRule 37 = .ok (.invokevirtual 84, 3) := by decide +kernel
theorem dX5_tellRule_40 : decode cX5_tellRule 40 = .ok (.putfield 153, 3) := by decide +kernel
theorem dX5_tellRule_43 : decode cX5_tellRule 43 = .ok (.aload_n 1, 1) := by decide +kernel
theorem dX5_tellRule_44 : decode cX5_tellRule 44 = .ok (.getfield 147, 3) := by decide +kernel
theorem dX5_tellRule_47 : decode cX5_tellRule 47 = .ok (.iload_n 3, 1) := by decide +kernel
theorem dX5_tellRule_48 : decode cX5_tellRule 48 = .ok (.putfield 156, 3) := by decide +kernel
theorem dX5_tellRule_51 : decode cX5_tellRule 51 = .ok (.aload_n 1, 1) := by decide +kernel
theorem dX5_tellRule_52 : decode cX5_tellRule 52 = .ok (.getfield 147, 3) := by decide +kernel
theorem dX5_tellRule_55 : decode cX5_tellRule 55 = .ok (.aload_n 0, 1) := by decide +kernel
theorem dX5_tellRule_56 : decode cX5_tellRule 56 = .ok (.iload_n 2, 1) := by decide +kernel
theorem dX5_tellRule_57 : decode cX5_tellRule 57 = .ok (.iconst 4, 1) := by decide +kernel
theorem dX5_tellRule_58 : decode cX5_tellRule 58 = .ok (.iadd, 1) := by decide +kernel
theorem dX5_tellRule_59 : decode cX5_tellRule 59 = .ok (.invokevirtual 93, 3) := by decide +kernel
theorem dX5_tellRule_62 : decode cX5_tellRule 62 = .ok (.putfield 159, 3) := by decide +kernel
theorem dX5_tellRule_65 : decode cX5_tellRule 65 = .ok (.iconst 1, 1) := by decide +kernel
theorem dX5_tellRule_66 : decode cX5_tellRule 66 = .ok (.ireturn, 1) := by decide +kernel
theorem dX5_tellMinutes_0 : decode cX5_tellMinutes 0 = .ok (.aload_n 0, 1) := by decide +kernel
theorem dX5_tellMinutes_1 : decode cX5_tellMinutes 1 = .ok (.iload_n 2, 1) := by decide +kernel
theorem dX5_tellMinutes_2 : decode cX5_tellMinutes 2 = .ok (.iconst 1, 1) := by decide +kernel
theorem dX5_tellMinutes_3 : decode cX5_tellMinutes 3 = .ok (.iadd, 1) := by decide +kernel
theorem dX5_tellMinutes_4 : decode cX5_tellMinutes 4 = .ok (.invokevirtual 62, 3) := by decide +kernel
theorem dX5_tellMinutes_7 : decode cX5_tellMinutes 7 = .ok (.istore 4, 2) := by decide +kernel
theorem dX5_tellMinutes_9 : decode cX5_tellMinutes 9 = .ok (.iload 4, 2) := by decide +kernel
theorem dX5_tellMinutes_11 : decode cX5_tellMinutes 11 = .ok (.iconst 1, 1) := by decide +kernel
theorem dX5_tellMinutes_12 : decode cX5_tellMinutes 12 = .ok (.if_icmp .lt 23, 3) := by decide +kernel
theorem dX5_tellMinutes_15 : decode cX5_tellMinutes 15 = .ok (.iload 4, 2) := by decide +kernel
theorem dX5_tellMinutes_17 : decode cX5_tellMinutes 17 = .ok (.bipush 60, 2) := by decide +kernel
theorem dX5_tellMinutes_19 : decode cX5_tellMinutes 19 = .ok (.if_icmp .gt 16, 3) := by decide +kernel
theorem dX5_tellMinutes_22 : decode cX5_tellMinutes 22 = .ok (.aload_n 1, 1) := by decide +kernel
theorem dX5_tellMinutes_23 : decode cX5_tellMinutes 23 = .ok (.getfield 162, 3) := by decide +kernel
theorem dX5_tellMinutes_26 : decode cX5_tellMinutes 26 = .ok (.iload 4, 2) := by decide +kernel
theorem dX5_tellMinutes_28 : decode cX5_tellMinutes 28 = .ok (.iadd, 1) := by decide +kernel
theorem dX5_tellMinutes_29 : decode cX5_tellMinutes 29 = .ok (.sipush 9999, 3) := by decide +kernel
theorem dX5_tellMinutes_32 : decode cX5_tellMinutes 32 = .ok (.if_icmp .le 5, 3) := by decide +kernel
theorem dX5_tellMinutes_35 : decode cX5_tellMinutes 35 = .ok (.iconst 0, 1) := by decide +kernel
theorem dX5_tellMinutes_36 : decode cX5_tellMinutes 36 = .ok (.ireturn, 1) := by decide +kernel
theorem dX5_tellMinutes_37 : decode cX5_tellMinutes 37 = .ok (.aload_n 1, 1) := by decide +kernel
theorem dX5_tellMinutes_38 : decode cX5_tellMinutes 38 = .ok (.iload 4, 2) := by decide +kernel
theorem dX5_tellMinutes_40 : decode cX5_tellMinutes 40 = .ok (.iconst 1, 1) := by decide +kernel
theorem dX5_tellMinutes_41 : decode cX5_tellMinutes 41 = .ok (.aload_n 3, 1) := by decide +kernel
theorem dX5_tellMinutes_42 : decode cX5_tellMinutes 42 = .ok (.invokevirtual 165, 3) := by decide +kernel
theorem dX5_tellMinutes_45 : decode cX5_tellMinutes 45 = .ok (.iconst 1, 1) := by decide +kernel
theorem dX5_tellMinutes_46 : decode cX5_tellMinutes 46 = .ok (.ireturn, 1) := by decide +kernel
theorem dX5_fits_0 : decode cX5_fits 0 = .ok (.iload_n 0, 1) := by decide +kernel
theorem dX5_fits_1 : decode cX5_fits 1 = .ok (.lookupswitch 132 #[(35, 51), (43, 69), (68, 102), (80, 87), (82, 117)], 51) := by decide +kernel
theorem dX5_fits_52 : decode cX5_fits 52 = .ok (.iload_n 1, 1) := by decide +kernel
theorem dX5_fits_53 : decode cX5_fits 53 = .ok (.bipush 48, 2) := by decide +kernel
theorem dX5_fits_55 : decode cX5_fits 55 = .ok (.if_icmp .lt 13, 3) := by decide +kernel
theorem dX5_fits_58 : decode cX5_fits 58 = .ok (.iload_n 1, 1) := by decide +kernel
theorem dX5_fits_59 : decode cX5_fits 59 = .ok (.bipush 57, 2) := by decide +kernel
theorem dX5_fits_61 : decode cX5_fits 61 = .ok (.if_icmp .gt 7, 3) := by decide +kernel
theorem dX5_fits_64 : decode cX5_fits 64 = .ok (.iconst 1, 1) := by decide +kernel
theorem dX5_fits_65 : decode cX5_fits 65 = .ok (.goto 4, 3) := by decide +kernel
theorem dX5_fits_68 : decode cX5_fits 68 = .ok (.iconst 0, 1) := by decide +kernel
theorem dX5_fits_69 : decode cX5_fits 69 = .ok (.ireturn, 1) := by decide +kernel
theorem dX5_fits_70 : decode cX5_fits 70 = .ok (.iload_n 1, 1) := by decide +kernel
theorem dX5_fits_71 : decode cX5_fits 71 = .ok (.bipush 43, 2) := by decide +kernel
theorem dX5_fits_73 : decode cX5_fits 73 = .ok (.if_icmp .eq 9, 3) := by decide +kernel
theorem dX5_fits_76 : decode cX5_fits 76 = .ok (.iload_n 1, 1) := by decide +kernel
theorem dX5_fits_77 : decode cX5_fits 77 = .ok (.bipush 45, 2) := by decide +kernel
theorem dX5_fits_79 : decode cX5_fits 79 = .ok (.if_icmp .ne 7, 3) := by decide +kernel
theorem dX5_fits_82 : decode cX5_fits 82 = .ok (.iconst 1, 1) := by decide +kernel
theorem dX5_fits_83 : decode cX5_fits 83 = .ok (.goto 4, 3) := by decide +kernel
theorem dX5_fits_86 : decode cX5_fits 86 = .ok (.iconst 0, 1) := by decide +kernel
theorem dX5_fits_87 : decode cX5_fits 87 = .ok (.ireturn, 1) := by decide +kernel
theorem dX5_fits_88 : decode cX5_fits 88 = .ok (.ldc 113, 2) := by decide +kernel
theorem dX5_fits_90 : decode cX5_fits 90 = .ok (.iload_n 1, 1) := by decide +kernel
theorem dX5_fits_91 : decode cX5_fits 91 = .ok (.invokevirtual 169, 3) := by decide +kernel
theorem dX5_fits_94 : decode cX5_fits 94 = .ok (.ifCond .lt 7, 3) := by decide +kernel
theorem dX5_fits_97 : decode cX5_fits 97 = .ok (.iconst 1, 1) := by decide +kernel
theorem dX5_fits_98 : decode cX5_fits 98 = .ok (.goto 4, 3) := by decide +kernel
theorem dX5_fits_101 : decode cX5_fits 101 = .ok (.iconst 0, 1) := by decide +kernel
theorem dX5_fits_102 : decode cX5_fits 102 = .ok (.ireturn, 1) := by decide +kernel
theorem dX5_fits_103 : decode cX5_fits 103 = .ok (.ldc 82, 2) := by decide +kernel
theorem dX5_fits_105 : decode cX5_fits 105 = .ok (.iload_n 1, 1) := by decide +kernel
theorem dX5_fits_106 : decode cX5_fits 106 = .ok (.invokevirtual 169, 3) := by decide +kernel
theorem dX5_fits_109 : decode cX5_fits 109 = .ok (.ifCond .lt 7, 3) := by decide +kernel
theorem dX5_fits_112 : decode cX5_fits 112 = .ok (.iconst 1, 1) := by decide +kernel
theorem dX5_fits_113 : decode cX5_fits 113 = .ok (.goto 4, 3) := by decide +kernel
theorem dX5_fits_116 : decode cX5_fits 116 = .ok (.iconst 0, 1) := by decide +kernel
theorem dX5_fits_117 : decode cX5_fits 117 = .ok (.ireturn, 1) := by decide +kernel
theorem dX5_fits_118 : decode cX5_fits 118 = .ok (.ldc 151, 2) := by decide +kernel
theorem dX5_fits_120 : decode cX5_fits 120 = .ok (.iload_n 1, 1) := by decide +kernel
theorem dX5_fits_121 : decode cX5_fits 121 = .ok (.invokevirtual 169, 3) := by decide +kernel
theorem dX5_fits_124 : decode cX5_fits 124 = .ok (.ifCond .lt 7, 3) := by decide +kernel
theorem dX5_fits_127 : decode cX5_fits 127 = .ok (.iconst 1, 1) := by decide +kernel
theorem dX5_fits_128 : decode cX5_fits 128 = .ok (.goto 4, 3) := by decide +kernel
theorem dX5_fits_131 : decode cX5_fits 131 = .ok (.iconst 0, 1) := by decide +kernel
theorem dX5_fits_132 : decode cX5_fits 132 = .ok (.ireturn, 1) := by decide +kernel
theorem dX5_fits_133 : decode cX5_fits 133 = .ok (.iload_n 1, 1) := by decide +kernel
theorem dX5_fits_134 : decode cX5_fits 134 = .ok (.iload_n 0, 1) := by decide +kernel
theorem dX5_fits_135 : decode cX5_fits 135 = .ok (.if_icmp .ne 7, 3) := by decide +kernel
theorem dX5_fits_138 : decode cX5_fits 138 = .ok (.iconst 1, 1) := by decide +kernel
theorem dX5_fits_139 : decode cX5_fits 139 = .ok (.goto 4, 3) := by decide +kernel
theorem dX5_fits_142 : decode cX5_fits 142 = .ok (.iconst 0, 1) := by decide +kernel
theorem dX5_fits_143 : decode cX5_fits 143 = .ok (.ireturn, 1) := by decide +kernel
theorem dX5_signAt_0 : decode cX5_signAt 0 = .ok (.iload_n 1, 1) := by decide +kernel
theorem dX5_signAt_1 : decode cX5_signAt 1 = .ok (.ifCond .lt 26, 3) := by decide +kernel
theorem dX5_signAt_4 : decode cX5_signAt 4 = .ok (.iload_n 1, 1) := by decide +kernel
theorem dX5_signAt_5 : decode cX5_signAt 5 = .ok (.aload_n 0, 1) := by decide +kernel
theorem dX5_signAt_6 : decode cX5_signAt 6 = .ok (.getfield 15, 3) := by decide +kernel
theorem dX5_signAt_9 : decode cX5_signAt 9 = .ok (.if_icmp .ge 18, 3) := by decide +kernel
theorem dX5_signAt_12 : decode cX5_signAt 12 = .ok (.iload_n 1, 1) := by decide +kernel
theorem dX5_signAt_13 : decode cX5_signAt 13 = .ok (.bipush 96, 2) := by decide +kernel
theorem dX5_signAt_15 : decode cX5_signAt 15 = .ok (.if_icmp .ge 12, 3) := by decide +kernel
theorem dX5_signAt_18 : decode cX5_signAt 18 = .ok (.aload_n 0, 1) := by decide +kernel
theorem dX5_signAt_19 : decode cX5_signAt 19 = .ok (.getfield 9, 3) := by decide +kernel
theorem dX5_signAt_22 : decode cX5_signAt 22 = .ok (.iload_n 1, 1) := by decide +kernel
theorem dX5_signAt_23 : decode cX5_signAt 23 = .ok (.caload, 1) := by decide +kernel
theorem dX5_signAt_24 : decode cX5_signAt 24 = .ok (.goto 4, 3) := by decide +kernel
theorem dX5_signAt_27 : decode cX5_signAt 27 = .ok (.iconst 0, 1) := by decide +kernel
theorem dX5_signAt_28 : decode cX5_signAt 28 = .ok (.ireturn, 1) := by decide +kernel
theorem dX5_digitAt_0 : decode cX5_digitAt 0 = .ok (.aload_n 0, 1) := by decide +kernel
theorem dX5_digitAt_1 : decode cX5_digitAt 1 = .ok (.iload_n 1, 1) := by decide +kernel
theorem dX5_digitAt_2 : decode cX5_digitAt 2 = .ok (.invokevirtual 19, 3) := by decide +kernel
theorem dX5_digitAt_5 : decode cX5_digitAt 5 = .ok (.bipush 48, 2) := by decide +kernel
theorem dX5_digitAt_7 : decode cX5_digitAt 7 = .ok (.isub, 1) := by decide +kernel
theorem dX5_digitAt_8 : decode cX5_digitAt 8 = .ok (.ireturn, 1) := by decide +kernel
theorem dX5_numberAt_0 : decode cX5_numberAt 0 = .ok (.bipush 10, 2) := by decide +kernel
theorem dX5_numberAt_2 : decode cX5_numberAt 2 = .ok (.aload_n 0, 1) := by decide +kernel
theorem dX5_numberAt_3 : decode cX5_numberAt 3 = .ok (.iload_n 1, 1) := by decide +kernel
theorem dX5_numberAt_4 : decode cX5_numberAt 4 = .ok (.invokevirtual 93, 3) := by decide +kernel
theorem dX5_numberAt_7 : decode cX5_numberAt 7 = .ok (.imul, 1) := by decide +kernel
theorem dX5_numberAt_8 : decode cX5_numberAt 8 = .ok (.aload_n 0, 1) := by decide +kernel
theorem dX5_numberAt_9 : decode cX5_numberAt 9 = .ok (.iload_n 1, 1) := by decide +kernel
theorem dX5_numberAt_10 : decode cX5_numberAt 10 = .ok (.iconst 1, 1) := by decide +kernel
theorem dX5_numberAt_11 : decode cX5_numberAt 11 = .ok (.iadd, 1) := by decide +kernel
theorem dX5_numberAt_12 : decode cX5_numberAt 12 = .ok (.invokevirtual 93, 3) := by decide +kernel
theorem dX5_numberAt_15 : decode cX5_numberAt 15 = .ok (.iadd, 1) := by decide +kernel
theorem dX5_numberAt_16 : decode cX5_numberAt 16 = .ok (.ireturn, 1) := by decide +kernel
theorem dX5_signedAt_0 : decode cX5_signedAt 0 = .ok (.aload_n 0, 1) := by decide +kernel
theorem dX5_signedAt_1 : decode cX5_signedAt 1 = .ok (.iload_n 1, 1) := by decide +kernel
theorem dX5_signedAt_2 : decode cX5_signedAt 2 = .ok (.invokevirtual 19, 3) := by decide +kernel
theorem dX5_signedAt_5 : decode cX5_signedAt 5 = .ok (.bipush 45, 2) := by decide +kernel
theorem dX5_signedAt_7 : decode cX5_signedAt 7 = .ok (.if_icmp .ne 8, 3) := by decide +kernel
theorem dX5_signedAt_10 : decode cX5_signedAt 10 = .ok (.iload_n 2, 1) := by decide +kernel
theorem dX5_signedAt_11 : decode cX5_signedAt 11 = .ok (.ineg, 1) := by decide +kernel
theorem dX5_signedAt_12 : decode cX5_signedAt 12 = .ok (.goto 4, 3) := by decide +kernel
theorem dX5_signedAt_15 : decode cX5_signedAt 15 = .ok (.iload_n 2, 1) := by decide +kernel
theorem dX5_signedAt_16 : decode cX5_signedAt 16 = .ok (.ireturn, 1) := by decide +kernel
theorem dX5_kindAt_0 : decode cX5_kindAt 0 = .ok (.aload_n 1, 1) := by decide +kernel
theorem dX5_kindAt_1 : decode cX5_kindAt 1 = .ok (.aload_n 0, 1) := by decide +kernel
theorem dX5_kindAt_2 : decode cX5_kindAt 2 = .ok (.iload_n 2, 1) := by decide +kernel
theorem dX5_kindAt_3 : decode cX5_kindAt 3 = .ok (.invokevirtual 19, 3) := by decide +kernel
theorem dX5_kindAt_6 : decode cX5_kindAt 6 = .ok (.invokevirtual 169, 3) := by decide +kernel
theorem dX5_kindAt_9 : decode cX5_kindAt 9 = .ok (.ireturn, 1) := by decide +kernel
theorem dX6_init_0 : decode cX6_init 0 = .ok (.aload_n 0, 1) := by decide +kernel
theorem dX6_init_1 : decode cX6_init 1 = .ok (.invokespecial 1, 3) := by decide +kernel
theorem dX6_init_4 : decode cX6_init 4 = .ok (.aload_n 0, 1) := by decide +kernel
theorem dX6_init_5 : decode cX6_init 5 = .ok (.new 7, 3) := by decide +kernel
theorem dX6_init_8 : decode cX6_init 8 = .ok (.dup, 1) := by decide +kernel
theorem dX6_init_9 : decode cX6_init 9 = .ok (.invokespecial 9, 3) := by decide +kernel
theorem dX6_init_12 : decode cX6_init 12 = .ok (.putfield 10, 3) := by decide +kernel
theorem dX6_init_15 : decode cX6_init 15 = .ok (.aload_n 0, 1) := by decide +kernel
theorem dX6_init_16 : decode cX6_init 16 = .ok (.new 7, 3) := by decide +kernel
theorem dX6_init_19 : decode cX6_init 19 = .ok (.dup, 1) := by decide +kernel
theorem dX6_init_20 : decode cX6_init 20 = .ok (.invokespecial 9, 3) := by decide +kernel
theorem dX6_init_23 : decode cX6_init 23 = .ok (.putfield 16, 3) := by decide +kernel
theorem dX6_init_26 : decode cX6_init 26 = .ok (.aload_n 0, 1) := by decide +kernel
theorem dX6_init_27 : decode cX6_init 27 = .ok (.new 7, 3) := by decide +kernel
theorem dX6_init_30 : decode cX6_init 30 = .ok (.dup, 1) := by decide +kernel
theorem dX6_init_31 : decode cX6_init 31 = .ok (.invokespecial 9, 3) := by decide +kernel
theorem dX6_init_34 : decode cX6_init 34 = .ok (.putfield 19, 3) := by decide +kernel
theorem dX6_init_37 : decode cX6_init 37 = .ok (.aload_n 0, 1) := by decide +kernel
theorem dX6_init_38 : decode cX6_init 38 = .ok (.new 22, 3) := by decide +kernel
theorem dX6_init_41 : decode cX6_init 41 = .ok (.dup, 1) := by decide +kernel
theorem dX6_init_42 : decode cX6_init 42 = .ok (.invokespecial 24, 3) := by decide +kernel
theorem dX6_init_45 : decode cX6_init 45 = .ok (.putfield 25, 3) := by decide +kernel
theorem dX6_init_48 : decode cX6_init 48 = .ok (.aload_n 0, 1) := by decide +kernel
theorem dX6_init_49 : decode cX6_init 49 = .ok (.new 29, 3) := by decide +kernel
theorem dX6_init_52 : decode cX6_init 52 = .ok (.dup, 1) := by decide +kernel
theorem dX6_init_53 : decode cX6_init 53 = .ok (.invokespecial 31, 3) := by decide +kernel
theorem dX6_init_56 : decode cX6_init 56 = .ok (.putfield 32, 3) := by decide +kernel
theorem dX6_init_59 : decode cX6_init 59 = .ok (.aload_n 0, 1) := by decide +kernel
theorem dX6_init_60 : decode cX6_init 60 = .ok (.bipush 12, 2) := by decide +kernel
theorem dX6_init_62 : decode cX6_init 62 = .ok (.newarray .int, 2) := by decide +kernel
theorem dX6_init_64 : decode cX6_init 64 = .ok (.putfield 36, 3) := by decide +kernel
theorem dX6_init_67 : decode cX6_init 67 = .ok (.aload_n 0, 1) := by decide +kernel
theorem dX6_init_68 : decode cX6_init 68 = .ok (.bipush 7, 2) := by decide +kernel
theorem dX6_init_70 : decode cX6_init 70 = .ok (.newarray .int, 2) := by decide +kernel
theorem dX6_init_72 : decode cX6_init 72 = .ok (.putfield 40, 3) := by decide +kernel
theorem dX6_init_75 : decode cX6_init 75 = .ok (.return_, 1) := by decide +kernel
theorem dX6_letter_0 : decode cX6_letter 0 = .ok (.iload_n 1, 1) := by decide +kernel
theorem dX6_letter_1 : decode cX6_letter 1 = .ok (.iconst 0, 1) := by decide +kernel
theorem dX6_letter_2 : decode cX6_letter 2 = .ok (.sipush 255, 3) := by decide +kernel
theorem dX6_letter_5 : decode cX6_letter 5 = .ok (.invokestatic 43, 3) := by decide +kernel
theorem dX6_letter_8 : decode cX6_letter 8 = .ok (.istore_n 2, 1) := by decide +kernel
theorem dX6_letter_9 : decode cX6_letter 9 = .ok (.iload_n 2, 1) := by decide +kernel
theorem dX6_letter_10 : decode cX6_letter 10 = .ok (.ifCond .ne 18, 3) := by decide +kernel
theorem dX6_letter_13 : decode cX6_letter 13 = .ok (.aload_n 0, 1) := by decide +kernel
theorem dX6_letter_14 : decode cX6_letter 14 = .ok (.getfield 32, 3) := by decide +kernel
theorem dX6_letter_17 : decode cX6_letter 17 = .ok (.getfield 47, 3) := by decide +kernel
theorem dX6_letter_20 : decode cX6_letter 20 = .ok (.bipush 96, 2) := by decide +kernel
theorem dX6_letter_22 : decode cX6_letter 22 = .ok (.if_icmp .lt 6, 3) := by decide +kernel
theorem dX6_letter_25 : decode cX6_letter 25 = .ok (.bipush (-6), 2) := by decide +kernel
theorem dX6_letter_27 : decode cX6_letter 27 = .ok (.istore_n 2, 1) := by decide +kernel
theorem dX6_letter_28 : decode cX6_letter 28 = .ok (.iload_n 2, 1) := by decide +kernel
theorem dX6_letter_29 : decode cX6_letter 29 = .ok (.ifCond .eq 9, 3) := by decide +kernel
theorem dX6_letter_32 : decode cX6_letter 32 = .ok (.aload_n 0, 1) := by decide +kernel
theorem dX6_letter_33 : decode cX6_letter 33 = .ok (.iload_n 2, 1) := by decide +kernel
theorem dX6_letter_34 : decode cX6_letter 34 = .ok (.invokevirtual 51, 3) := by decide +kernel
theorem dX6_letter_37 : decode cX6_letter 37 = .ok (.ireturn, 1) := by decide +kernel
theorem dX6_letter_38 : decode cX6_letter 38 = .ok (.aload_n 0, 1) := by decide +kernel
theorem dX6_letter_39 : decode cX6_letter 39 = .ok (.getfield 32, 3) := by decide +kernel
theorem dX6_letter_42 : decode cX6_letter 42 = .ok (.iload_n 1, 1) := by decide +kernel
theorem dX6_letter_43 : decode cX6_letter 43 = .ok (.i2c, 1) := by decide +kernel
theorem dX6_letter_44 : decode cX6_letter 44 = .ok (.invokevirtual 55, 3) := by decide +kernel
theorem dX6_letter_47 : decode cX6_letter 47 = .ok (.aload_n 0, 1) := by decide +kernel
theorem dX6_letter_48 : decode cX6_letter 48 = .ok (.getfield 32, 3) := by decide +kernel
theorem dX6_letter_51 : decode cX6_letter 51 = .ok (.getfield 47, 3) := by decide +kernel
theorem dX6_letter_54 : decode cX6_letter 54 = .ok (.ireturn, 1) := by decide +kernel
theorem dX6_parlour_0 : decode cX6_parlour 0 = .ok (.aload_n 0, 1) := by decide +kernel
theorem dX6_parlour_1 : decode cX6_parlour 1 = .ok (.getfield 32, 3) := by decide +kernel
theorem dX6_parlour_4 : decode cX6_parlour 4 = .ok (.invokevirtual 59, 3) := by decide +kernel
theorem dX6_parlour_7 : decode cX6_parlour 7 = .ok (.istore_n 1, 1) := by decide +kernel
theorem dX6_parlour_8 : decode cX6_parlour 8 = .ok (.iload_n 1, 1) := by decide +kernel
theorem dX6_parlour_9 : decode cX6_parlour 9 = .ok (.bipush (-9), 2) := by decide +kernel
theorem dX6_parlour_11 : decode cX6_parlour 11 = .ok (.if_icmp .ne 10, 3) := by decide +kernel
theorem dX6_parlour_14 : decode cX6_parlour 14 = .ok (.aload_n 0, 1) := by decide +kernel
theorem dX6_parlour_15 : decode cX6_parlour 15 = .ok (.invokevirtual 63, 3) := by decide +kernel
theorem dX6_parlour_18 : decode cX6_parlour 18 = .ok (.goto 8, 3) := by decide +kernel
theorem dX6_parlour_21 : decode cX6_parlour 21 = .ok (.sipush (-1000), 3) := by decide +kernel
theorem dX6_parlour_24 : decode cX6_parlour 24 = .ok (.iload_n 1, 1) := by decide +kernel
theorem dX6_parlour_25 : decode cX6_parlour 25 = .ok (.isub, 1) := by decide +kernel
theorem dX6_parlour_26 : decode cX6_parlour 26 = .ok (.istore_n 2, 1) := by decide +kernel
theorem dX6_parlour_27 : decode cX6_parlour 27 = .ok (.aload_n 0, 1) := by decide +kernel
theorem dX6_parlour_28 : decode cX6_parlour 28 = .ok (.getfield 32, 3) := by decide +kernel
theorem dX6_parlour_31 : decode cX6_parlour 31 = .ok (.iconst 0, 1) := by decide +kernel
theorem dX6_parlour_32 : decode cX6_parlour 32 = .ok (.putfield 47, 3) := by decide +kernel
theorem dX6_parlour_35 : decode cX6_parlour 35 = .ok (.iload_n 2, 1) := by decide +kernel
theorem dX6_parlour_36 : decode cX6_parlour 36 = .ok (.ireturn, 1) := by decide +kernel
theorem dX6_person_0 : decode cX6_person 0 = .ok (.aload_n 0, 1) := by decide +kernel
theorem dX6_person_1 : decode cX6_person 1 = .ok (.getfield 10, 3) := by decide +kernel
theorem dX6_person_4 : decode cX6_person 4 = .ok (.iload_n 1, 1) := by decide +kernel
theorem dX6_person_5 : decode cX6_person 5 = .ok (.invokevirtual 66, 3) := by decide +kernel
theorem dX6_person_8 : decode cX6_person 8 = .ok (.ifCond .ne 9, 3) := by decide +kernel
theorem dX6_person_11 : decode cX6_person 11 = .ok (.aload_n 0, 1) := by decide +kernel
theorem dX6_person_12 : decode cX6_person 12 = .ok (.iconst (-1), 1) := by decide +kernel
theorem dX6_person_13 : decode cX6_person 13 = .ok (.invokevirtual 51, 3) := by decide +kernel
theorem dX6_person_16 : decode cX6_person 16 = .ok (.ireturn, 1) := by decide +kernel
theorem dX6_person_17 : decode cX6_person 17 = .ok (.iload_n 2, 1) := by decide +kernel
theorem dX6_person_18 : decode cX6_person 18 = .ok (.ifCond .lt 8, 3) := by decide +kernel
theorem dX6_person_21 : decode cX6_person 21 = .ok (.iload_n 2, 1) := by decide +kernel
theorem dX6_person_22 : decode cX6_person 22 = .ok (.iconst 5, 1) := by decide +kernel
theorem dX6_person_23 : decode cX6_person 23 = .ok (.if_icmp .le 10, 3) := by decide +kernel
theorem dX6_person_26 : decode cX6_person 26 = .ok (.aload_n 0, 1) := by decide +kernel
theorem dX6_person_27 : decode cX6_person 27 = .ok (.bipush (-2), 2) := by decide +kernel
theorem dX6_person_29 : decode cX6_person 29 = .ok (.invokevirtual 51, 3) := by decide +kernel
theorem dX6_person_32 : decode cX6_person 32 = .ok (.ireturn, 1) := by decide +kernel
theorem dX6_person_33 : decode cX6_person 33 = .ok (.aload_n 0, 1) := by decide +kernel
theorem dX6_person_34 : decode cX6_person 34 = .ok (.getfield 10, 3) := by decide +kernel
theorem dX6_person_37 : decode cX6_person 37 = .ok (.getfield 70, 3) := by decide +kernel
theorem dX6_person_40 : decode cX6_person 40 = .ok (.iload_n 1, 1) := by decide +kernel
theorem dX6_person_41 : decode cX6_person 41 = .ok (.aaload, 1) := by decide +kernel
theorem dX6_person_42 : decode cX6_person 42 = .ok (.iload_n 2, 1) := by decide +kernel
theorem dX6_person_43 : decode cX6_person 43 = .ok (.invokevirtual 74, 3) := by decide +kernel
theorem dX6_person_46 : decode cX6_person 46 = .ok (.ireturn, 1) := by decide +kernel
theorem dX6_bothers_0 : decode cX6_bothers 0 = .ok (.aload_n 0, 1) := by decide +kernel
theorem dX6_bothers_1 : decode cX6_bothers 1 = .ok (.getfield 10, 3) := by decide +kernel
theorem dX6_bothers_4 : decode cX6_bothers 4 = .ok (.iload_n 1, 1) := by decide +kernel
theorem dX6_bothers_5 : decode cX6_bothers 5 = .ok (.invokevirtual 66, 3) := by decide +kernel
theorem dX6_bothers_8 : decode cX6_bothers 8 = .ok (.ifCond .eq 14, 3) := by decide +kernel
theorem dX6_bothers_11 : decode cX6_bothers 11 = .ok (.iload_n 2, 1) := by decide +kernel
theorem dX6_bothers_12 : decode cX6_bothers 12 = .ok (.iconst 0, 1) := by decide +kernel
theorem dX6_bothers_13 : decode cX6_bothers 13 = .ok (.sipush 199, 3) := by decide +kernel
theorem dX6_bothers_16 : decode cX6_bothers 16 = .ok (.invokestatic 43, 3) := by decide +kernel
theorem dX6_bothers_19 : decode cX6_bothers 19 = .ok (.goto 4, 3) := by decide +kernel
theorem dX6_bothers_22 : decode cX6_bothers 22 = .ok (.iconst (-1), 1) := by decide +kernel
theorem dX6_bothers_23 : decode cX6_bothers 23 = .ok (.istore_n 3, 1) := by decide +kernel
theorem dX6_bothers_24 : decode cX6_bothers 24 = .ok (.iload_n 3, 1) := by decide +kernel
theorem dX6_bothers_25 : decode cX6_bothers 25 = .ok (.ifCond .eq 9, 3) := by decide +kernel
theorem dX6_bothers_28 : decode cX6_bothers 28 = .ok (.aload_n 0, 1) := by decide +kernel
theorem dX6_bothers_29 : decode cX6_bothers 29 = .ok (.iload_n 3, 1) := by decide +kernel
theorem dX6_bothers_30 : decode cX6_bothers 30 = .ok (.invokevirtual 51, 3) := by decide +kernel
theorem dX6_bothers_33 : decode cX6_bothers 33 = .ok (.ireturn, 1) := by decide +kernel
theorem dX6_bothers_34 : decode cX6_bothers 34 = .ok (.aload_n 0, 1) := by decide +kernel
theorem dX6_bothers_35 : decode cX6_bothers 35 = .ok (.getfield 10, 3) := by decide +kernel
theorem dX6_bothers_38 : decode cX6_bothers 38 = .ok (.getfield 70, 3) := by decide +kernel
theorem dX6_bothers_41 : decode cX6_bothers 41 = .ok (.iload_n 1, 1) := by decide +kernel
theorem dX6_bothers_42 : decode cX6_bothers 42 = .ok (.aaload, 1) := by decide +kernel
theorem dX6_bothers_43 : decode cX6_bothers 43 = .ok (.iload_n 2, 1) := by decide +kernel
theorem dX6_bothers_44 : decode cX6_bothers 44 = .ok (.invokevirtual 79, 3) := by decide +kernel
theorem dX6_bothers_47 : decode cX6_bothers 47 = .ok (.ireturn, 1) := by decide +kernel
theorem dX6_place_0 : decode cX6_place 0 = .ok (.iload_n 1, 1) := by decide +kernel
theorem dX6_place_1 : decode cX6_place 1 = .ok (.ifCond .lt 8, 3) := by decide +kernel
theorem dX6_place_4 : decode cX6_place 4 = .ok (.iload_n 1, 1) := by decide +kernel
theorem dX6_place_5 : decode cX6_place 5 = .ok (.iconst 2, 1) := by decide +kernel
theorem dX6_place_6 : decode cX6_place 6 = .ok (.if_icmp .le 10, 3) := by decide +kernel
theorem dX6_place_9 : decode cX6_place 9 = .ok (.aload_n 0, 1) := by decide +kernel
theorem dX6_place_10 : decode cX6_place 10 = .ok (.bipush (-2), 2) := by decide +kernel
theorem dX6_place_12 : decode cX6_place 12 = .ok (.invokevirtual 82, 3) := by decide +kernel
theorem dX6_place_15 : decode cX6_place 15 = .ok (.ireturn, 1) := by decide +kernel
theorem dX6_place_16 : decode cX6_place 16 = .ok (.aload_n 0, 1) := by decide +kernel
theorem dX6_place_17 : decode cX6_place 17 = .ok (.getfield 10, 3) := by decide +kernel
theorem dX6_place_20 : decode cX6_place 20 = .ok (.iload_n 1, 1) := by decide +kernel
theorem dX6_place_21 : decode cX6_place 21 = .ok (.invokevirtual 85, 3) := by decide +kernel
theorem dX6_place_24 : decode cX6_place 24 = .ok (.ireturn, 1) := by decide +kernel
theorem dX6_set_0 : decode cX6_set 0 = .ok (.iload_n 1, 1) := by decide +kernel
theorem dX6_set_1 : decode cX6_set 1 = .ok (.ifCond .lt 8, 3) := by decide +kernel
theorem dX6_set_4 : decode cX6_set 4 = .ok (.iload_n 1, 1) := by decide +kernel
theorem dX6_set_5 : decode cX6_set 5 = .ok (.iconst 5, 1) := by decide +kernel
theorem dX6_set_6 : decode cX6_set 6 = .ok (.if_icmp .le 10, 3) := by decide +kernel
theorem dX6_set_9 : decode cX6_set 9 = .ok (.aload_n 0, 1) := by decide +kernel
theorem dX6_set_10 : decode cX6_set 10 = .ok (.bipush (-2), 2) := by decide +kernel
theorem dX6_set_12 : decode cX6_set 12 = .ok (.invokevirtual 82, 3) := by decide +kernel
theorem dX6_set_15 : decode cX6_set 15 = .ok (.ireturn, 1) := by decide +kernel
theorem dX6_set_16 : decode cX6_set 16 = .ok (.iload_n 2, 1) := by decide +kernel
theorem dX6_set_17 : decode cX6_set 17 = .ok (.getstatic 88, 3) := by decide +kernel
theorem dX6_set_20 : decode cX6_set 20 = .ok (.iload_n 1, 1) := by decide +kernel
theorem dX6_set_21 : decode cX6_set 21 = .ok (.iaload, 1) := by decide +kernel
theorem dX6_set_22 : decode cX6_set 22 = .ok (.getstatic 91, 3) := by decide +kernel
theorem dX6_set_25 : decode cX6_set 25 = .ok (.iload_n 1, 1) := by decide +kernel
theorem dX6_set_26 : decode cX6_set 26 = .ok (.iaload, 1) := by decide +kernel
theorem dX6_set_27 : decode cX6_set 27 = .ok (.invokestatic 43, 3) := by decide +kernel
theorem dX6_set_30 : decode cX6_set 30 = .ok (.istore_n 3, 1) := by decide +kernel
theorem dX6_set_31 : decode cX6_set 31 = .ok (.iload_n 3, 1) := by decide +kernel
theorem dX6_set_32 : decode cX6_set 32 = .ok (.ifCond .eq 9, 3) := by decide +kernel
theorem dX6_set_35 : decode cX6_set 35 = .ok (.aload_n 0, 1) := by decide +kernel
theorem dX6_set_36 : decode cX6_set 36 = .ok (.iload_n 3, 1) := by decide +kernel
theorem dX6_set_37 : decode cX6_set 37 = .ok (.invokevirtual 82, 3) := by decide +kernel
theorem dX6_set_40 : decode cX6_set 40 = .ok (.ireturn, 1) := by decide +kernel
theorem dX6_set_41 : decode cX6_set 41 = .ok (.aload_n 0, 1) := by decide +kernel
theorem dX6_set_42 : decode cX6_set 42 = .ok (.getfield 10, 3) := by decide +kernel
theorem dX6_set_45 : decode cX6_set 45 = .ok (.iload_n 1, 1) := by decide +kernel
theorem dX6_set_46 : decode cX6_set 46 = .ok (.iload_n 2, 1) := by decide +kernel
theorem dX6_set_47 : decode cX6_set 47 = .ok (.invokevirtual 94, 3) := by decide +kernel
theorem dX6_set_50 : decode cX6_set 50 = .ok (.ireturn, 1) := by decide +kernel
theorem dX6_kind_0 : decode cX6_kind 0 = .ok (.iload_n 1, 1) := by decide +kernel
theorem dX6_kind_1 : decode cX6_kind 1 = .ok (.ifCond .lt 17, 3) := by decide +kernel
theorem dX6_kind_4 : decode cX6_kind 4 = .ok (.iload_n 1, 1) := by decide +kernel
theorem dX6_kind_5 : decode cX6_kind 5 = .ok (.iconst 1, 1) := by decide +kernel
theorem dX6_kind_6 : decode cX6_kind 6 = .ok (.if_icmp .gt 12, 3) := by decide +kernel
theorem dX6_kind_9 : decode cX6_kind 9 = .ok (.iload_n 2, 1) := by decide +kernel
theorem dX6_kind_10 : decode cX6_kind 10 = .ok (.ifCond .lt 8, 3) := by decide +kernel
theorem dX6_kind_13 : decode cX6_kind 13 = .ok (.iload_n 2, 1) := by decide +kernel
theorem dX6_kind_14 : decode cX6_kind 14 = .ok (.iconst 5, 1) := by decide +kernel
theorem dX6_kind_15 : decode cX6_kind 15 = .ok (.if_icmp .lt 10, 3) := by decide +kernel
theorem dX6_kind_18 : decode cX6_kind 18 = .ok (.aload_n 0, 1) := by decide +kernel
theorem dX6_kind_19 : decode cX6_kind 19 = .ok (.bipush (-2), 2) := by decide +kernel
theorem dX6_kind_21 : decode cX6_kind 21 = .ok (.invokevirtual 51, 3) := by decide +kernel
theorem dX6_kind_24 : decode cX6_kind 24 = .ok (.ireturn, 1) := by decide +kernel
theorem dX6_kind_25 : decode cX6_kind 25 = .ok (.aload_n 0, 1) := by decide +kernel
theorem dX6_kind_26 : decode cX6_kind 26 = .ok (.getfield 10, 3) := by decide +kernel
theorem dX6_kind_29 : decode cX6_kind 29 = .ok (.iload_n 1, 1) := by decide +kernel
theorem dX6_kind_30 : decode cX6_kind 30 = .ok (.ifCond .ne 8, 3) := by decide +kernel
theorem dX6_kind_33 : decode cX6_kind 33 = .ok (.bipush 6, 2) := by decide +kernel
theorem dX6_kind_35 : decode cX6_kind 35 = .ok (.goto 5, 3) := by decide +kernel
theorem dX6_kind_38 : decode cX6_kind 38 = .ok (.bipush 7, 2) := by decide +kernel
theorem dX6_kind_40 : decode cX6_kind 40 = .ok (.iload_n 2, 1) := by decide +kernel
theorem dX6_kind_41 : decode cX6_kind 41 = .ok (.invokevirtual 94, 3) := by decide +kernel
theorem dX6_kind_44 : decode cX6_kind 44 = .ok (.ireturn, 1) := by decide +kernel
theorem dX6_turn_0 : decode cX6_turn 0 = .ok (.aload_n 0, 1) := by decide +kernel
theorem dX6_turn_1 : decode cX6_turn 1 = .ok (.getfield 10, 3) := by decide +kernel
theorem dX6_turn_4 : decode cX6_turn 4 = .ok (.iload_n 1, 1) := by decide +kernel
theorem dX6_turn_5 : decode cX6_turn 5 = .ok (.invokevirtual 66, 3) := by decide +kernel
theorem dX6_turn_8 : decode cX6_turn 8 = .ok (.ifCond .ne 9, 3) := by decide +kernel
theorem dX6_turn_11 : decode cX6_turn 11 = .ok (.aload_n 0, 1) := by decide +kernel
theorem dX6_turn_12 : decode cX6_turn 12 = .ok (.iconst (-1), 1) := by decide +kernel
theorem dX6_turn_13 : decode cX6_turn 13 = .ok (.invokevirtual 51, 3) := by decide +kernel
theorem dX6_turn_16 : decode cX6_turn 16 = .ok (.ireturn, 1) := by decide +kernel
theorem dX6_turn_17 : decode cX6_turn 17 = .ok (.aload_n 0, 1) := by decide +kernel
theorem dX6_turn_18 : decode cX6_turn 18 = .ok (.getfield 10, 3) := by decide +kernel
theorem dX6_turn_21 : decode cX6_turn 21 = .ok (.bipush 8, 2) := by decide +kernel
theorem dX6_turn_23 : decode cX6_turn 23 = .ok (.iload_n 1, 1) := by decide +kernel
theorem dX6_turn_24 : decode cX6_turn 24 = .ok (.invokevirtual 94, 3) := by decide +kernel
theorem dX6_turn_27 : decode cX6_turn 27 = .ok (.ireturn, 1) := by decide +kernel
theorem dX6_drifts_0 : decode cX6_drifts 0 = .ok (.iload_n 1, 1) := by decide +kernel
theorem dX6_drifts_1 : decode cX6_drifts 1 = .ok (.iconst 0, 1) := by decide +kernel
theorem dX6_drifts_2 : decode cX6_drifts 2 = .ok (.sipush 9999, 3) := by decide +kernel
theorem dX6_drifts_5 : decode cX6_drifts 5 = .ok (.invokestatic 43, 3) := by decide +kernel
theorem dX6_drifts_8 : decode cX6_drifts 8 = .ok (.istore_n 2, 1) := by decide +kernel
theorem dX6_drifts_9 : decode cX6_drifts 9 = .ok (.iload_n 2, 1) := by decide +kernel
theorem dX6_drifts_10 : decode cX6_drifts 10 = .ok (.ifCond .eq 9, 3) := by decide +kernel
theorem dX6_drifts_13 : decode cX6_drifts 13 = .ok (.aload_n 0, 1) := by decide +kernel
theorem dX6_drifts_14 : decode cX6_drifts 14 = .ok (.iload_n 2, 1) := by decide +kernel
theorem dX6_drifts_15 : decode cX6_drifts 15 = .ok (.invokevirtual 82, 3) := by decide +kernel
theorem dX6_drifts_18 : decode cX6_drifts 18 = .ok (.ireturn, 1) := by decide +kernel
theorem dX6_drifts_19 : decode cX6_drifts 19 = .ok (.aload_n 0, 1) := by decide +kernel
theorem dX6_drifts_20 : decode cX6_drifts 20 = .ok (.getfield 10, 3) := by decide +kernel
theorem dX6_drifts_23 : decode cX6_drifts 23 = .ok (.getfield 98, 3) := by decide +kernel
theorem dX6_drifts_26 : decode cX6_drifts 26 = .ok (.iload_n 1, 1) := by decide +kernel
theorem dX6_drifts_27 : decode cX6_drifts 27 = .ok (.invokevirtual 102, 3) := by decide +kernel
theorem dX6_drifts_30 : decode cX6_drifts 30 = .ok (.ireturn, 1) := by decide +kernel
theorem dX6_go_0 : decode cX6_go 0 = .ok (.iload_n 1, 1) := by decide +kernel
theorem dX6_go_1 : decode cX6_go 1 = .ok (.iconst 1, 1) := by decide +kernel
theorem dX6_go_2 : decode cX6_go 2 = .ok (.bipush 60, 2) := by decide +kernel
theorem dX6_go_4 : decode cX6_go 4 = .ok (.invokestatic 43, 3) := by decide +kernel
theorem dX6_go_7 : decode cX6_go 7 = .ok (.istore_n 2, 1) := by decide +kernel
theorem dX6_go_8 : decode cX6_go 8 = .ok (.iload_n 2, 1) := by decide +kernel
theorem dX6_go_9 : decode cX6_go 9 = .ok (.ifCond .ne 21, 3) := by decide +kernel
theorem dX6_go_12 : decode cX6_go 12 = .ok (.aload_n 0, 1) := by decide +kernel
theorem dX6_go_13 : decode cX6_go 13 = .ok (.getfield 10, 3) := by decide +kernel
theorem dX6_go_16 : decode cX6_go 16 = .ok (.getfield 107, 3) := by decide +kernel
theorem dX6_go_19 : decode cX6_go 19 = .ok (.iload_n 1, 1) := by decide +kernel
theorem dX6_go_20 : decode cX6_go 20 = .ok (.iadd, 1) := by decide +kernel
theorem dX6_go_21 : decode cX6_go 21 = .ok (.sipush 9999, 3) := by decide +kernel
theorem dX6_go_24 : decode cX6_go 24 = .ok (.if_icmp .le 6, 3) := by decide +kernel
theorem dX6_go_27 : decode cX6_go 27 = .ok (.bipush (-6), 2) := by decide +kernel
theorem dX6_go_29 : decode cX6_go 29 = .ok (.istore_n 2, 1) := by decide +kernel
theorem dX6_go_30 : decode cX6_go 30 = .ok (.iload_n 2, 1) := by decide +kernel
theorem dX6_go_31 : decode cX6_go 31 = .ok (.ifCond .eq 9, 3) := by decide +kernel
theorem dX6_go_34 : decode cX6_go 34 = .ok (.aload_n 0, 1) := by decide +kernel
theorem dX6_go_35 : decode cX6_go 35 = .ok (.iload_n 2, 1) := by decide +kernel
theorem dX6_go_36 : decode cX6_go 36 = .ok (.invokevirtual 51, 3) := by decide +kernel
theorem dX6_go_39 : decode cX6_go 39 = .ok (.ireturn, 1) := by decide +kernel
theorem dX6_go_40 : decode cX6_go 40 = .ok (.aload_n 0, 1) := by decide +kernel
theorem dX6_go_41 : decode cX6_go 41 = .ok (.getfield 25, 3) := by decide +kernel
theorem dX6_go_44 : decode cX6_go 44 = .ok (.invokevirtual 110, 3) := by decide +kernel
theorem dX6_go_47 : decode cX6_go 47 = .ok (.aload_n 0, 1) := by decide +kernel
theorem dX6_go_48 : decode cX6_go 48 = .ok (.getfield 10, 3) := by decide +kernel
theorem dX6_go_51 : decode cX6_go 51 = .ok (.iload_n 1, 1) := by decide +kernel
theorem dX6_go_52 : decode cX6_go 52 = .ok (.iconst 1, 1) := by decide +kernel
theorem dX6_go_53 : decode cX6_go 53 = .ok (.aload_n 0, 1) := by decide +kernel
theorem dX6_go_54 : decode cX6_go 54 = .ok (.getfield 25, 3) := by decide +kernel
theorem dX6_go_57 : decode cX6_go 57 = .ok (.invokevirtual 113, 3) := by decide +kernel
theorem dX6_go_60 : decode cX6_go 60 = .ok (.aload_n 0, 1) := by decide +kernel
theorem dX6_go_61 : decode cX6_go 61 = .ok (.getfield 25, 3) := by decide +kernel
theorem dX6_go_64 : decode cX6_go 64 = .ok (.invokevirtual 117, 3) := by decide +kernel
theorem dX6_go_67 : decode cX6_go 67 = .ok (.ireturn, 1) := by decide +kernel
theorem dX6_cost_0 : decode cX6_cost 0 = .ok (.iload_n 1, 1) := by decide +kernel
theorem dX6_cost_1 : decode cX6_cost 1 = .ok (.iconst 0, 1) := by decide +kernel
theorem dX6_cost_2 : decode cX6_cost 2 = .ok (.sipush 240, 3) := by decide +kernel
theorem dX6_cost_5 : decode cX6_cost 5 = .ok (.invokestatic 43, 3) := by decide +kernel
theorem dX6_cost_8 : decode cX6_cost 8 = .ok (.istore_n 3, 1) := by decide +kernel
theorem dX6_cost_9 : decode cX6_cost 9 = .ok (.iload_n 3, 1) := by decide +kernel
theorem dX6_cost_10 : decode cX6_cost 10 = .ok (.ifCond .ne 15, 3) := by decide +kernel
theorem dX6_cost_13 : decode cX6_cost 13 = .ok (.iload_n 2, 1) := by decide +kernel
theorem dX6_cost_14 : decode cX6_cost 14 = .ok (.ifCond .lt 8, 3) := by decide +kernel
theorem dX6_cost_17 : decode cX6_cost 17 = .ok (.iload_n 2, 1) := by decide +kernel
theorem dX6_cost_18 : decode cX6_cost 18 = .ok (.iconst 4, 1) := by decide +kernel
theorem dX6_cost_19 : decode cX6_cost 19 = .ok (.if_icmp .le 6, 3) := by decide +kernel
theorem dX6_cost_22 : decode cX6_cost 22 = .ok (.bipush (-2), 2) := by decide +kernel
theorem dX6_cost_24 : decode cX6_cost 24 = .ok (.istore_n 3, 1) := by decide +kernel
theorem dX6_cost_25 : decode cX6_cost 25 = .ok (.iload_n 3, 1) := by decide +kernel
theorem dX6_cost_26 : decode cX6_cost 26 = .ok (.ifCond .eq 9, 3) := by decide +kernel
theorem dX6_cost_29 : decode cX6_cost 29 = .ok (.aload_n 0, 1) := by decide +kernel
theorem dX6_cost_30 : decode cX6_cost 30 = .ok (.iload_n 3, 1) := by decide +kernel
theorem dX6_cost_31 : decode cX6_cost 31 = .ok (.invokevirtual 51, 3) := by decide +kernel
theorem dX6_cost_34 : decode cX6_cost 34 = .ok (.ireturn, 1) := by decide +kernel
theorem dX6_cost_35 : decode cX6_cost 35 = .ok (.aload_n 0, 1) := by decide +kernel
theorem dX6_cost_36 : decode cX6_cost 36 = .ok (.invokevirtual 120, 3) := by decide +kernel
theorem dX6_cost_39 : decode cX6_cost 39 = .ok (.aload_n 0, 1) := by decide +kernel
theorem dX6_cost_40 : decode cX6_cost 40 = .ok (.iload_n 1, 1) := by decide +kernel
theorem dX6_cost_41 : decode cX6_cost 41 = .ok (.iconst 1, 1) := by decide +kernel
theorem dX6_cost_42 : decode cX6_cost 42 = .ok (.invokevirtual 123, 3) := by decide +kernel
theorem dX6_cost_45 : decode cX6_cost 45 = .ok (.pop, 1) := by decide +kernel
theorem dX6_cost_46 : decode cX6_cost 46 = .ok (.aload_n 0, 1) := by decide +kernel
theorem dX6_cost_47 : decode cX6_cost 47 = .ok (.getfield 25, 3) := by decide +kernel
theorem dX6_cost_50 : decode cX6_cost 50 = .ok (.iload_n 2, 1) := by decide +kernel
theorem dX6_cost_51 : decode cX6_cost 51 = .ok (.invokevirtual 127, 3) := by decide +kernel
theorem dX6_cost_54 : decode cX6_cost 54 = .ok (.ireturn, 1) := by decide +kernel
theorem dX6_at_0 : decode cX6_at 0 = .ok (.iload_n 1, 1) := by decide +kernel
theorem dX6_at_1 : decode cX6_at 1 = .ok (.iconst 0, 1) := by decide +kernel
theorem dX6_at_2 : decode cX6_at 2 = .ok (.sipush 240, 3) := by decide +kernel
theorem dX6_at_5 : decode cX6_at 5 = .ok (.invokestatic 43, 3) := by decide +kernel
theorem dX6_at_8 : decode cX6_at 8 = .ok (.istore_n 2, 1) := by decide +kernel
theorem dX6_at_9 : decode cX6_at 9 = .ok (.iload_n 2, 1) := by decide +kernel
theorem dX6_at_10 : decode cX6_at 10 = .ok (.ifCond .eq 9, 3) := by decide +kernel
theorem dX6_at_13 : decode cX6_at 13 = .ok (.aload_n 0, 1) := by decide +kernel
theorem dX6_at_14 : decode cX6_at 14 = .ok (.iload_n 2, 1) := by decide +kernel
theorem dX6_at_15 : decode cX6_at 15 = .ok (.invokevirtual 82, 3) := by decide +kernel
theorem dX6_at_18 : decode cX6_at 18 = .ok (.ireturn, 1) := by decide +kernel
theorem dX6_at_19 : decode cX6_at 19 = .ok (.aload_n 0, 1) := by decide +kernel
theorem dX6_at_20 : decode cX6_at 20 = .ok (.invokevirtual 120, 3) := by decide +kernel
theorem dX6_at_23 : decode cX6_at 23 = .ok (.aload_n 0, 1) := by decide +kernel
theorem dX6_at_24 : decode cX6_at 24 = .ok (.iload_n 1, 1) := by decide +kernel
theorem dX6_at_25 : decode cX6_at 25 = .ok (.iconst 1, 1) := by decide +kernel
theorem dX6_at_26 : decode cX6_at 26 = .ok (.invokevirtual 123, 3) := by decide +kernel
theorem dX6_at_29 : decode cX6_at 29 = .ok (.pop, 1) := by decide +kernel
theorem dX6_at_30 : decode cX6_at 30 = .ok (.aload_n 0, 1) := by decide +kernel
theorem dX6_at_31 : decode cX6_at 31 = .ok (.getfield 16, 3) := by decide +kernel
theorem dX6_at_34 : decode cX6_at 34 = .ok (.getfield 128, 3) := by decide +kernel
theorem dX6_at_37 : decode cX6_at 37 = .ok (.ireturn, 1) := by decide +kernel
theorem dX6_of_0 : decode cX6_of 0 = .ok (.aload_n 0, 1) := by decide +kernel
theorem dX6_of_1 : decode cX6_of 1 = .ok (.getfield 10, 3) := by decide +kernel
theorem dX6_of_4 : decode cX6_of 4 = .ok (.iload_n 1, 1) := by decide +kernel
theorem dX6_of_5 : decode cX6_of 5 = .ok (.invokevirtual 66, 3) := by decide +kernel
theorem dX6_of_8 : decode cX6_of 8 = .ok (.ifCond .eq 14, 3) := by decide +kernel
theorem dX6_of_11 : decode cX6_of 11 = .ok (.iload_n 2, 1) := by decide +kernel
theorem dX6_of_12 : decode cX6_of 12 = .ok (.iconst 0, 1) := by decide +kernel
theorem dX6_of_13 : decode cX6_of 13 = .ok (.sipush 240, 3) := by decide +kernel
theorem dX6_of_16 : decode cX6_of 16 = .ok (.invokestatic 43, 3) := by decide +kernel
theorem dX6_of_19 : decode cX6_of 19 = .ok (.goto 4, 3) := by decide +kernel
theorem dX6_of_22 : decode cX6_of 22 = .ok (.iconst (-1), 1) := by decide +kernel
theorem dX6_of_23 : decode cX6_of 23 = .ok (.istore 4, 2) := by decide +kernel
theorem dX6_of_25 : decode cX6_of 25 = .ok (.iload 4, 2) := by decide +kernel
theorem dX6_of_27 : decode cX6_of 27 = .ok (.ifCond .ne 16, 3) := by decide +kernel
theorem dX6_of_30 : decode cX6_of 30 = .ok (.iload_n 3, 1) := by decide +kernel
theorem dX6_of_31 : decode cX6_of 31 = .ok (.ifCond .lt 8, 3) := by decide +kernel
theorem dX6_of_34 : decode cX6_of 34 = .ok (.iload_n 3, 1) := by decide +kernel
theorem dX6_of_35 : decode cX6_of 35 = .ok (.iconst 2, 1) := by decide +kernel
theorem dX6_of_36 : decode cX6_of 36 = .ok (.if_icmp .le 7, 3) := by decide +kernel
theorem dX6_of_39 : decode cX6_of 39 = .ok (.bipush (-2), 2) := by decide +kernel
theorem dX6_of_41 : decode cX6_of 41 = .ok (.istore 4, 2) := by decide +kernel
theorem dX6_of_43 : decode cX6_of 43 = .ok (.iload 4, 2) := by decide +kernel
theorem dX6_of_45 : decode cX6_of 45 = .ok (.ifCond .eq 10, 3) := by decide +kernel
theorem dX6_of_48 : decode cX6_of 48 = .ok (.aload_n 0, 1) := by decide +kernel
theorem dX6_of_49 : decode cX6_of 49 = .ok (.iload 4, 2) := by decide +kernel
theorem dX6_of_51 : decode cX6_of 51 = .ok (.invokevirtual 51, 3) := by decide +kernel
theorem dX6_of_54 : decode cX6_of 54 = .ok (.ireturn, 1) := by decide +kernel
theorem dX6_of_55 : decode cX6_of 55 = .ok (.aload_n 0, 1) := by decide +kernel
theorem dX6_of_56 : decode cX6_of 56 = .ok (.invokevirtual 120, 3) := by decide +kernel
theorem dX6_of_59 : decode cX6_of 59 = .ok (.aload_n 0, 1) := by decide +kernel
theorem dX6_of_60 : decode cX6_of 60 = .ok (.iload_n 2, 1) := by decide +kernel
theorem dX6_of_61 : decode cX6_of 61 = .ok (.iconst 1, 1) := by decide +kernel
theorem dX6_of_62 : decode cX6_of 62 = .ok (.invokevirtual 123, 3) := by decide +kernel
theorem dX6_of_65 : decode cX6_of 65 = .ok (.pop, 1) := by decide +kernel
theorem dX6_of_66 : decode cX6_of 66 = .ok (.aload_n 0, 1) := by decide +kernel
theorem dX6_of_67 : decode cX6_of 67 = .ok (.getfield 25, 3) := by decide +kernel
theorem dX6_of_70 : decode cX6_of 70 = .ok (.iload_n 1, 1) := by decide +kernel
theorem dX6_of_71 : decode cX6_of 71 = .ok (.iload_n 3, 1) := by decide +kernel
theorem dX6_of_72 : decode cX6_of 72 = .ok (.invokevirtual 131, 3) := by decide +kernel
theorem dX6_of_75 : decode cX6_of 75 = .ok (.ireturn, 1) := by decide +kernel
theorem dX6_best_0 : decode cX6_best 0 = .ok (.iload_n 1, 1) := by decide +kernel
theorem dX6_best_1 : decode cX6_best 1 = .ok (.iconst 0, 1) := by decide +kernel
theorem dX6_best_2 : decode cX6_best 2 = .ok (.sipush 240, 3) := by decide +kernel
theorem dX6_best_5 : decode cX6_best 5 = .ok (.invokestatic 43, 3) := by decide +kernel
theorem dX6_best_8 : decode cX6_best 8 = .ok (.istore_n 3, 1) := by decide +kernel
theorem dX6_best_9 : decode cX6_best 9 = .ok (.iload_n 3, 1) := by decide +kernel
theorem dX6_best_10 : decode cX6_best 10 = .ok (.ifCond .ne 15, 3) := by decide +kernel
theorem dX6_best_13 : decode cX6_best 13 = .ok (.iload_n 2, 1) := by decide +kernel
theorem dX6_best_14 : decode cX6_best 14 = .ok (.ifCond .lt 8, 3) := by decide +kernel
theorem dX6_best_17 : decode cX6_best 17 = .ok (.iload_n 2, 1) := by decide +kernel
theorem dX6_best_18 : decode cX6_best 18 = .ok (.iconst 3, 1) := by decide +kernel
theorem dX6_best_19 : decode cX6_best 19 = .ok (.if_icmp .le 6, 3) := by decide +kernel
theorem dX6_best_22 : decode cX6_best 22 = .ok (.bipush (-2), 2) := by decide +kernel
theorem dX6_best_24 : decode cX6_best 24 = .ok (.istore_n 3, 1) := by decide +kernel
theorem dX6_best_25 : decode cX6_best 25 = .ok (.iload_n 3, 1) := by decide +kernel
theorem dX6_best_26 : decode cX6_best 26 = .ok (.ifCond .eq 9, 3) := by decide +kernel
theorem dX6_best_29 : decode cX6_best 29 = .ok (.aload_n 0, 1) := by decide +kernel
theorem dX6_best_30 : decode cX6_best 30 = .ok (.iload_n 3, 1) := by decide +kernel
theorem dX6_best_31 : decode cX6_best 31 = .ok (.invokevirtual 51, 3) := by decide +kernel
theorem dX6_best_34 : decode cX6_best 34 = .ok (.ireturn, 1) := by decide +kernel
theorem dX6_best_35 : decode cX6_best 35 = .ok (.iload_n 2, 1) := by decide +kernel
theorem dX6_best_36 : decode cX6_best 36 = .ok (.tableswitch 72 0 2 #[28, 45, 62], 28) := by decide +kernel
theorem dX6_best_64 : decode cX6_best 64 = .ok (.aload_n 0, 1) := by decide +kernel
theorem dX6_best_65 : decode cX6_best 65 = .ok (.iload_n 1, 1) := by decide +kernel
theorem dX6_best_66 : decode cX6_best 66 = .ok (.iconst 4, 1) := by decide +kernel
theorem dX6_best_67 : decode cX6_best 67 = .ok (.getstatic 88, 3) := by decide +kernel
theorem dX6_best_70 : decode cX6_best 70 = .ok (.iconst 4, 1) := by decide +kernel
theorem dX6_best_71 : decode cX6_best 71 = .ok (.iaload, 1) := by decide +kernel
theorem dX6_best_72 : decode cX6_best 72 = .ok (.getstatic 91, 3) := by decide +kernel
theorem dX6_best_75 : decode cX6_best 75 = .ok (.iconst 4, 1) := by decide +kernel
theorem dX6_best_76 : decode cX6_best 76 = .ok (.iaload, 1) := by decide +kernel
theorem dX6_best_77 : decode cX6_best 77 = .ok (.invokevirtual 134, 3) := by decide +kernel
theorem dX6_best_80 : decode cX6_best 80 = .ok (.ireturn, 1) := by decide +kernel
theorem dX6_best_81 : decode cX6_best 81 = .ok (.aload_n 0, 1) := by decide +kernel
theorem dX6_best_82 : decode cX6_best 82 = .ok (.iload_n 1, 1) := by decide +kernel
theorem dX6_best_83 : decode cX6_best 83 = .ok (.iconst 5, 1) := by decide +kernel
theorem dX6_best_84 : decode cX6_best 84 = .ok (.getstatic 88, 3) := by decide +kernel
theorem dX6_best_87 : decode cX6_best 87 = .ok (.iconst 5, 1) := by decide +kernel
theorem dX6_best_88 : decode cX6_best 88 = .ok (.iaload, 1) := by decide +kernel
theorem dX6_best_89 : decode cX6_best 89 = .ok (.getstatic 91, 3) := by decide +kernel
theorem dX6_best_92 : decode cX6_best 92 = .ok (.iconst 5, 1) := by decide +kernel
theorem dX6_best_93 : decode cX6_best 93 = .ok (.iaload, 1) := by decide +kernel
theorem dX6_best_94 : decode cX6_best 94 = .ok (.invokevirtual 134, 3) := by decide +kernel
theorem dX6_best_97 : decode cX6_best 97 = .ok (.ireturn, 1) := by decide +kernel
theorem dX6_best_98 : decode cX6_best 98 = .ok (.aload_n 0, 1) := by decide +kernel
theorem dX6_best_99 : decode cX6_best 99 = .ok (.iload_n 1, 1) := by decide +kernel
theorem dX6_best_100 : decode cX6_best 100 = .ok (.bipush 7, 2) := by decide +kernel
theorem dX6_best_102 : decode cX6_best 102 = .ok (.iconst 0, 1) := by decide +kernel
theorem dX6_best_103 : decode cX6_best 103 = .ok (.iconst 4, 1) := by decide +kernel
theorem dX6_best_104 : decode cX6_best 104 = .ok (.invokevirtual 134, 3) := by decide +kernel
theorem dX6_best_107 : decode cX6_best 107 = .ok (.ireturn, 1) := by decide +kernel
theorem dX6_best_108 : decode cX6_best 108 = .ok (.aload_n 0, 1) := by decide +kernel
theorem dX6_best_109 : decode cX6_best 109 = .ok (.getfield 10, 3) := by decide +kernel
theorem dX6_best_112 : decode cX6_best 112 = .ok (.getfield 138, 3) := by decide +kernel
theorem dX6_best_115 : decode cX6_best 115 = .ok (.ifCond .ne 8, 3) := by decide +kernel
theorem dX6_best_118 : decode cX6_best 118 = .ok (.bipush (-9), 2) := by decide +kernel
theorem dX6_best_120 : decode cX6_best 120 = .ok (.goto 20, 3) := by decide +kernel
theorem dX6_best_123 : decode cX6_best 123 = .ok (.aload_n 0, 1) := by decide +kernel
theorem dX6_best_124 : decode cX6_best 124 = .ok (.iload_n 1, 1) := by decide +kernel
theorem dX6_best_125 : decode cX6_best 125 = .ok (.bipush 8, 2) := by decide +kernel
theorem dX6_best_127 : decode cX6_best 127 = .ok (.iconst 0, 1) := by decide +kernel
theorem dX6_best_128 : decode cX6_best 128 = .ok (.aload_n 0, 1) := by decide +kernel
theorem dX6_best_129 : decode cX6_best 129 = .ok (.getfield 10, 3) := by decide +kernel
theorem dX6_best_132 : decode cX6_best 132 = .ok (.getfield 138, 3) := by decide +kernel
theorem dX6_best_135 : decode cX6_best 135 = .ok (.iconst 1, 1) := by decide +kernel
theorem dX6_best_136 : decode cX6_best 136 = .ok (.isub, 1) := by decide +kernel
theorem dX6_best_137 : decode cX6_best 137 = .ok (.invokevirtual 134, 3) := by decide +kernel
theorem dX6_best_140 : decode cX6_best 140 = .ok (.ireturn, 1) := by decide +kernel
theorem dX6_finer_0 : decode cX6_finer 0 = .ok (.iload_n 1, 1) := by decide +kernel
theorem dX6_finer_1 : decode cX6_finer 1 = .ok (.iconst 0, 1) := by decide +kernel
theorem dX6_finer_2 : decode cX6_finer 2 = .ok (.sipush 240, 3) := by decide +kernel
theorem dX6_finer_5 : decode cX6_finer 5 = .ok (.invokestatic 43, 3) := by decide +kernel
theorem dX6_finer_8 : decode cX6_finer 8 = .ok (.istore_n 3, 1) := by decide +kernel
theorem dX6_finer_9 : decode cX6_finer 9 = .ok (.iload_n 3, 1) := by decide +kernel
theorem dX6_finer_10 : decode cX6_finer 10 = .ok (.ifCond .ne 16, 3) := by decide +kernel
theorem dX6_finer_13 : decode cX6_finer 13 = .ok (.aload_n 0, 1) := by decide +kernel
theorem dX6_finer_14 : decode cX6_finer 14 = .ok (.getfield 10, 3) := by decide +kernel
theorem dX6_finer_17 : decode cX6_finer 17 = .ok (.iload_n 2, 1) := by decide +kernel
theorem dX6_finer_18 : decode cX6_finer 18 = .ok (.invokevirtual 66, 3) := by decide +kernel
theorem dX6_finer_21 : decode cX6_finer 21 = .ok (.ifCond .ne 5, 3) := by decide +kernel
theorem dX6_finer_24 : decode cX6_finer 24 = .ok (.iconst (-1), 1) := by decide +kernel
theorem dX6_finer_25 : decode cX6_finer 25 = .ok (.istore_n 3, 1) := by decide +kernel
theorem dX6_finer_26 : decode cX6_finer 26 = .ok (.iload_n 3, 1) := by decide +kernel
theorem dX6_finer_27 : decode cX6_finer 27 = .ok (.ifCond .eq 9, 3) := by decide +kernel
theorem dX6_finer_30 : decode cX6_finer 30 = .ok (.aload_n 0, 1) := by decide +kernel
theorem dX6_finer_31 : decode cX6_finer 31 = .ok (.iload_n 3, 1) := by decide +kernel
theorem dX6_finer_32 : decode cX6_finer 32 = .ok (.invokevirtual 82, 3) := by decide +kernel
theorem dX6_finer_35 : decode cX6_finer 35 = .ok (.ireturn, 1) := by decide +kernel
theorem dX6_finer_36 : decode cX6_finer 36 = .ok (.aload_n 0, 1) := by decide +kernel
theorem dX6_finer_37 : decode cX6_finer 37 = .ok (.iload_n 1, 1) := by decide +kernel
theorem dX6_finer_38 : decode cX6_finer 38 = .ok (.iload_n 2, 1) := by decide +kernel
theorem dX6_finer_39 : decode cX6_finer 39 = .ok (.iload_n 2, 1) := by decide +kernel
theorem dX6_finer_40 : decode cX6_finer 40 = .ok (.invokevirtual 141, 3) := by decide +kernel
theorem dX6_finer_43 : decode cX6_finer 43 = .ok (.ireturn, 1) := by decide +kernel
theorem dX6_mark_0 : decode cX6_mark 0 = .ok (.iload_n 1, 1) := by decide +kernel
theorem dX6_mark_1 : decode cX6_mark 1 = .ok (.iconst 0, 1) := by decide +kernel
theorem dX6_mark_2 : decode cX6_mark 2 = .ok (.sipush 240, 3) := by decide +kernel
theorem dX6_mark_5 : decode cX6_mark 5 = .ok (.invokestatic 43, 3) := by decide +kernel
theorem dX6_mark_8 : decode cX6_mark 8 = .ok (.istore_n 2, 1) := by decide +kernel
theorem dX6_mark_9 : decode cX6_mark 9 = .ok (.iload_n 2, 1) := by decide +kernel
theorem dX6_mark_10 : decode cX6_mark 10 = .ok (.ifCond .eq 9, 3) := by decide +kernel
theorem dX6_mark_13 : decode cX6_mark 13 = .ok (.aload_n 0, 1) := by decide +kernel
theorem dX6_mark_14 : decode cX6_mark 14 = .ok (.iload_n 2, 1) := by decide +kernel
theorem dX6_mark_15 : decode cX6_mark 15 = .ok (.invokevirtual 82, 3) := by decide +kernel
theorem dX6_mark_18 : decode cX6_mark 18 = .ok (.ireturn, 1) := by decide +kernel
theorem dX6_mark_19 : decode cX6_mark 19 = .ok (.aload_n 0, 1) := by decide +kernel
theorem dX6_mark_20 : decode cX6_mark 20 = .ok (.iload_n 1, 1) := by decide +kernel
theorem dX6_mark_21 : decode cX6_mark 21 = .ok (.iconst 0, 1) := by decide +kernel
theorem dX6_mark_22 : decode cX6_mark 22 = .ok (.aload_n 0, 1) := by decide +kernel
theorem dX6_mark_23 : decode cX6_mark 23 = .ok (.getfield 10, 3) := by decide +kernel
theorem dX6_mark_26 : decode cX6_mark 26 = .ok (.getfield 138, 3) := by decide +kernel
theorem dX6_mark_29 : decode cX6_mark 29 = .ok (.iconst 1, 1) := by decide +kernel
theorem dX6_mark_30 : decode cX6_mark 30 = .ok (.isub, 1) := by decide +kernel
theorem dX6_mark_31 : decode cX6_mark 31 = .ok (.invokevirtual 141, 3) := by decide +kernel
theorem dX6_mark_34 : decode cX6_mark 34 = .ok (.ireturn, 1) := by decide +kernel
theorem dX6_most_0 : decode cX6_most 0 = .ok (.iload_n 1, 1) := by decide +kernel
theorem dX6_most_1 : decode cX6_most 1 = .ok (.iconst 0, 1) := by decide +kernel
theorem dX6_most_2 : decode cX6_most 2 = .ok (.sipush 240, 3) := by decide +kernel
theorem dX6_most_5 : decode cX6_most 5 = .ok (.invokestatic 43, 3) := by decide +kernel
theorem dX6_most_8 : decode cX6_most 8 = .ok (.istore_n 2, 1) := by decide +kernel
theorem dX6_most_9 : decode cX6_most 9 = .ok (.iload_n 2, 1) := by decide +kernel
theorem dX6_most_10 : decode cX6_most 10 = .ok (.ifCond .eq 9, 3) := by decide +kernel
theorem dX6_most_13 : decode cX6_most 13 = .ok (.aload_n 0, 1) := by decide +kernel
theorem dX6_most_14 : decode cX6_most 14 = .ok (.iload_n 2, 1) := by decide +kernel
theorem dX6_most_15 : decode cX6_most 15 = .ok (.invokevirtual 51, 3) := by decide +kernel
theorem dX6_most_18 : decode cX6_most 18 = .ok (.ireturn, 1) := by decide +kernel
theorem dX6_most_19 : decode cX6_most 19 = .ok (.aload_n 0, 1) := by decide +kernel
theorem dX6_most_20 : decode cX6_most 20 = .ok (.invokevirtual 120, 3) := by decide +kernel
theorem dX6_most_23 : decode cX6_most 23 = .ok (.aload_n 0, 1) := by decide +kernel
theorem dX6_most_24 : decode cX6_most 24 = .ok (.iload_n 1, 1) := by decide +kernel
theorem dX6_most_25 : decode cX6_most 25 = .ok (.iconst 1, 1) := by decide +kernel
theorem dX6_most_26 : decode cX6_most 26 = .ok (.invokevirtual 123, 3) := by decide +kernel
theorem dX6_most_29 : decode cX6_most 29 = .ok (.pop, 1) := by decide +kernel
theorem dX6_most_30 : decode cX6_most 30 = .ok (.bipush (-9), 2) := by decide +kernel
theorem dX6_most_32 : decode cX6_most 32 = .ok (.istore_n 3, 1) := by decide +kernel
theorem dX6_most_33 : decode cX6_most 33 = .ok (.iconst (-1), 1) := by decide +kernel
theorem dX6_most_34 : decode cX6_most 34 = .ok (.istore 4, 2) := by decide +kernel
theorem dX6_most_36 : decode cX6_most 36 = .ok (.iconst 0, 1) := by decide +kernel
theorem dX6_most_37 : decode cX6_most 37 = .ok (.istore 5, 2) := by decide +kernel
theorem dX6_most_39 : decode cX6_most 39 = .ok (.iload 5, 2) := by decide +kernel
theorem dX6_most_41 : decode cX6_most 41 = .ok (.aload_n 0, 1) := by decide +kernel
theorem dX6_most_42 : decode cX6_most 42 = .ok (.getfield 10, 3) := by decide +kernel
theorem dX6_most_45 : decode cX6_most 45 = .ok (.getfield 138, 3) := by decide +kernel
theorem dX6_most_48 : decode cX6_most 48 = .ok (.if_icmp .ge 35, 3) := by decide +kernel
theorem dX6_most_51 : decode cX6_most 51 = .ok (.aload_n 0, 1) := by decide +kernel
theorem dX6_most_52 : decode cX6_most 52 = .ok (.getfield 25, 3) := by decide +kernel
theorem dX6_most_55 : decode cX6_most 55 = .ok (.iload 5, 2) := by decide +kernel
theorem dX6_most_57 : decode cX6_most 57 = .ok (.iconst 2, 1) := by decide +kernel
theorem dX6_most_58 : decode cX6_most 58 = .ok (.invokevirtual 131, 3) := by decide +kernel
theorem dX6_most_61 : decode cX6_most 61 = .ok (.istore 6, 2) := by decide +kernel
theorem dX6_most_63 : decode cX6_most 63 = .ok (.iload 6, 2) := by decide +kernel
theorem dX6_most_65 : decode cX6_most 65 = .ok (.iload 4, 2) := by decide +kernel
theorem dX6_most_67 : decode cX6_most 67 = .ok (.if_icmp .le 10, 3) := by decide +kernel
theorem dX6_most_70 : decode cX6_most 70 = .ok (.iload 6, 2) := by decide +kernel
theorem dX6_most_72 : decode cX6_most 72 = .ok (.istore 4, 2) := by decide +kernel
theorem dX6_most_74 : decode cX6_most 74 = .ok (.iload 5, 2) := by decide +kernel
theorem dX6_most_76 : decode cX6_most 76 = .ok (.istore_n 3, 1) := by decide +kernel
theorem dX6_most_77 : decode cX6_most 77 = .ok (.iinc 5 1, 3) := by decide +kernel
theorem dX6_most_80 : decode cX6_most 80 = .ok (.goto (-41), 3) := by decide +kernel
theorem dX6_most_83 : decode cX6_most 83 = .ok (.iload_n 3, 1) := by decide +kernel
theorem dX6_most_84 : decode cX6_most 84 = .ok (.ireturn, 1) := by decide +kernel
theorem dX6_between_0 : decode cX6_between 0 = .ok (.iload_n 1, 1) := by decide +kernel
theorem dX6_between_1 : decode cX6_between 1 = .ok (.iconst 0, 1) := by decide +kernel
theorem dX6_between_2 : decode cX6_between 2 = .ok (.sipush 240, 3) := by decide +kernel
theorem dX6_between_5 : decode cX6_between 5 = .ok (.invokestatic 43, 3) := by decide +kernel
theorem dX6_between_8 : decode cX6_between 8 = .ok (.istore_n 2, 1) := by decide +kernel
theorem dX6_between_9 : decode cX6_between 9 = .ok (.iload_n 2, 1) := by decide +kernel
theorem dX6_between_10 : decode cX6_between 10 = .ok (.ifCond .eq 9, 3) := by decide +kernel
theorem dX6_between_13 : decode cX6_between 13 = .ok (.aload_n 0, 1) := by decide +kernel
theorem dX6_between_14 : decode cX6_between 14 = .ok (.iload_n 2, 1) := by decide +kernel
theorem dX6_between_15 : decode cX6_between 15 = .ok (.invokevirtual 51, 3) := by decide +kernel
theorem dX6_between_18 : decode cX6_between 18 = .ok (.ireturn, 1) := by decide +kernel
theorem dX6_between_19 : decode cX6_between 19 = .ok (.aload_n 0, 1) := by decide +kernel
theorem dX6_between_20 : decode cX6_between 20 = .ok (.iload_n 1, 1) := by decide +kernel
theorem dX6_between_21 : decode cX6_between 21 = .ok (.iconst 1, 1) := by decide +kernel
theorem dX6_between_22 : decode cX6_between 22 = .ok (.bipush (-20), 2) := by decide +kernel
theorem dX6_between_24 : decode cX6_between 24 = .ok (.bipush 20, 2) := by decide +kernel
theorem dX6_between_26 : decode cX6_between 26 = .ok (.invokevirtual 134, 3) := by decide +kernel
theorem dX6_between_29 : decode cX6_between 29 = .ok (.bipush 20, 2) := by decide +kernel
theorem dX6_between_31 : decode cX6_between 31 = .ok (.iadd, 1) := by decide +kernel
theorem dX6_between_32 : decode cX6_between 32 = .ok (.ireturn, 1) := by decide +kernel
theorem dX6_leave_0 : decode cX6_leave 0 = .ok (.iload_n 1, 1) := by decide +kernel
theorem dX6_leave_1 : decode cX6_leave 1 = .ok (.iconst 0, 1) := by decide +kernel
theorem dX6_leave_2 : decode cX6_leave 2 = .ok (.sipush 240, 3) := by decide +kernel
theorem dX6_leave_5 : decode cX6_leave 5 = .ok (.invokestatic 43, 3) := by decide +kernel
theorem dX6_leave_8 : decode cX6_leave 8 = .ok (.istore_n 2, 1) := by decide +kernel
theorem dX6_leave_9 : decode cX6_leave 9 = .ok (.iload_n 2, 1) := by decide +kernel
theorem dX6_leave_10 : decode cX6_leave 10 = .ok (.ifCond .eq 9, 3) := by decide +kernel
theorem dX6_leave_13 : decode cX6_leave 13 = .ok (.aload_n 0, 1) := by decide +kernel
theorem dX6_leave_14 : decode cX6_leave 14 = .ok (.iload_n 2, 1) := by decide +kernel
theorem dX6_leave_15 : decode cX6_leave 15 = .ok (.invokevirtual 82, 3) := by decide +kernel
theorem dX6_leave_18 : decode cX6_leave 18 = .ok (.ireturn, 1) := by decide +kernel
theorem dX6_leave_19 : decode cX6_leave 19 = .ok (.aload_n 0, 1) := by decide +kernel
theorem dX6_leave_20 : decode cX6_leave 20 = .ok (.invokevirtual 120, 3) := by decide +kernel
theorem dX6_leave_23 : decode cX6_leave 23 = .ok (.aload_n 0, 1) := by decide +kernel
theorem dX6_leave_24 : decode cX6_leave 24 = .ok (.iload_n 1, 1) := by decide +kernel
theorem dX6_leave_25 : decode cX6_leave 25 = .ok (.iconst 1, 1) := by decide +kernel
theorem dX6_leave_26 : decode cX6_leave 26 = .ok (.invokevirtual 123, 3) := by decide +kernel
theorem dX6_leave_29 : decode cX6_leave 29 = .ok (.istore_n 3, 1) := by decide +kernel
theorem dX6_leave_30 : decode cX6_leave 30 = .ok (.aload_n 0, 1) := by decide +kernel
theorem dX6_leave_31 : decode cX6_leave 31 = .ok (.invokevirtual 120, 3) := by decide +kernel
theorem dX6_leave_34 : decode cX6_leave 34 = .ok (.aload_n 0, 1) := by decide +kernel
theorem dX6_leave_35 : decode cX6_leave 35 = .ok (.iload_n 1, 1) := by decide +kernel
theorem dX6_leave_36 : decode cX6_leave 36 = .ok (.iconst 0, 1) := by decide +kernel
theorem dX6_leave_37 : decode cX6_leave 37 = .ok (.invokevirtual 123, 3) := by decide +kernel
theorem dX6_leave_40 : decode cX6_leave 40 = .ok (.iload_n 3, 1) := by decide +kernel
theorem dX6_leave_41 : decode cX6_leave 41 = .ok (.isub, 1) := by decide +kernel
theorem dX6_leave_42 : decode cX6_leave 42 = .ok (.ireturn, 1) := by decide +kernel
theorem dX6_holds_0 : decode cX6_holds 0 = .ok (.iload_n 1, 1) := by decide +kernel
theorem dX6_holds_1 : decode cX6_holds 1 = .ok (.bipush (-99), 2) := by decide +kernel
theorem dX6_holds_3 : decode cX6_holds 3 = .ok (.bipush 99, 2) := by decide +kernel
theorem dX6_holds_5 : decode cX6_holds 5 = .ok (.invokestatic 43, 3) := by decide +kernel
theorem dX6_holds_8 : decode cX6_holds 8 = .ok (.istore_n 2, 1) := by decide +kernel
theorem dX6_holds_9 : decode cX6_holds 9 = .ok (.iload_n 2, 1) := by decide +kernel
theorem dX6_holds_10 : decode cX6_holds 10 = .ok (.ifCond .eq 9, 3) := by decide +kernel
theorem dX6_holds_13 : decode cX6_holds 13 = .ok (.aload_n 0, 1) := by decide +kernel
theorem dX6_holds_14 : decode cX6_holds 14 = .ok (.iload_n 2, 1) := by decide +kernel
theorem dX6_holds_15 : decode cX6_holds 15 = .ok (.invokevirtual 51, 3) := by decide +kernel
theorem dX6_holds_18 : decode cX6_holds 18 = .ok (.ireturn, 1) := by decide +kernel
theorem dX6_holds_19 : decode cX6_holds 19 = .ok (.aload_n 0, 1) := by decide +kernel
theorem dX6_holds_20 : decode cX6_holds 20 = .ok (.iload_n 1, 1) := by decide +kernel
theorem dX6_holds_21 : decode cX6_holds 21 = .ok (.invokevirtual 144, 3) := by decide +kernel
theorem dX6_holds_24 : decode cX6_holds 24 = .ok (.istore_n 3, 1) := by decide +kernel
theorem dX6_holds_25 : decode cX6_holds 25 = .ok (.iload_n 3, 1) := by decide +kernel
theorem dX6_holds_26 : decode cX6_holds 26 = .ok (.sipush 240, 3) := by decide +kernel
theorem dX6_holds_29 : decode cX6_holds 29 = .ok (.if_icmp .ge 7, 3) := by decide +kernel
theorem dX6_holds_32 : decode cX6_holds 32 = .ok (.iload_n 3, 1) := by decide +kernel
theorem dX6_holds_33 : decode cX6_holds 33 = .ok (.goto 5, 3) := by decide +kernel
theorem dX6_holds_36 : decode cX6_holds 36 = .ok (.bipush (-9), 2) := by decide +kernel
theorem dX6_holds_38 : decode cX6_holds 38 = .ok (.ireturn, 1) := by decide +kernel
theorem dX6_setAt_0 : decode cX6_setAt 0 = .ok (.iconst (-1), 1) := by decide +kernel
theorem dX6_setAt_1 : decode cX6_setAt 1 = .ok (.istore_n 1, 1) := by decide +kernel
theorem dX6_setAt_2 : decode cX6_setAt 2 = .ok (.bipush (-20), 2) := by decide +kernel
theorem dX6_setAt_4 : decode cX6_setAt 4 = .ok (.istore_n 2, 1) := by decide +kernel
theorem dX6_setAt_5 : decode cX6_setAt 5 = .ok (.bipush (-20), 2) := by decide +kernel
theorem dX6_setAt_7 : decode cX6_setAt 7 = .ok (.istore_n 3, 1) := by decide +kernel
theorem dX6_setAt_8 : decode cX6_setAt 8 = .ok (.iload_n 3, 1) := by decide +kernel
theorem dX6_setAt_9 : decode cX6_setAt 9 = .ok (.bipush 20, 2) := by decide +kernel
theorem dX6_setAt_11 : decode cX6_setAt 11 = .ok (.if_icmp .gt 27, 3) := by decide +kernel
theorem dX6_setAt_14 : decode cX6_setAt 14 = .ok (.aload_n 0, 1) := by decide +kernel
theorem dX6_setAt_15 : decode cX6_setAt 15 = .ok (.iload_n 3, 1) := by decide +kernel
theorem dX6_setAt_16 : decode cX6_setAt 16 = .ok (.invokevirtual 144, 3) := by decide +kernel
theorem dX6_setAt_19 : decode cX6_setAt 19 = .ok (.istore 4, 2) := by decide +kernel
theorem dX6_setAt_21 : decode cX6_setAt 21 = .ok (.iload 4, 2) := by decide +kernel
theorem dX6_setAt_23 : decode cX6_setAt 23 = .ok (.iload_n 1, 1) := by decide +kernel
theorem dX6_setAt_24 : decode cX6_setAt 24 = .ok (.if_icmp .le 8, 3) := by decide +kernel
theorem dX6_setAt_27 : decode cX6_setAt 27 = .ok (.iload 4, 2) := by decide +kernel
theorem dX6_setAt_29 : decode cX6_setAt 29 = .ok (.istore_n 1, 1) := by decide +kernel
theorem dX6_setAt_30 : decode cX6_setAt 30 = .ok (.iload_n 3, 1) := by decide +kernel
theorem dX6_setAt_31 : decode cX6_setAt 31 = .ok (.istore_n 2, 1) := by decide +kernel
theorem dX6_setAt_32 : decode cX6_setAt 32 = .ok (.iinc 3 1, 3) := by decide +kernel
theorem dX6_setAt_35 : decode cX6_setAt 35 = .ok (.goto (-27), 3) := by decide +kernel
theorem dX6_setAt_38 : decode cX6_setAt 38 = .ok (.iload_n 2, 1) := by decide +kernel
theorem dX6_setAt_39 : decode cX6_setAt 39 = .ok (.bipush 20, 2) := by decide +kernel
theorem dX6_setAt_41 : decode cX6_setAt 41 = .ok (.iadd, 1) := by decide +kernel
theorem dX6_setAt_42 : decode cX6_setAt 42 = .ok (.ireturn, 1) := by decide +kernel
theorem dX6_steadyFrom_0 : decode cX6_steadyFrom 0 = .ok (.iconst 0, 1) := by decide +kernel
theorem dX6_steadyFrom_1 : decode cX6_steadyFrom 1 = .ok (.istore_n 1, 1) := by decide +kernel
theorem dX6_steadyFrom_2 : decode cX6_steadyFrom 2 = .ok (.iconst 0, 1) := by decide +kernel
theorem dX6_steadyFrom_3 : decode cX6_steadyFrom 3 = .ok (.istore_n 2, 1) := by decide +kernel
end
section
theorem dX6_steadyFrom_4 : decode cX6_steadyFrom 4 = .ok (.iload_n 2, 1) := by decide +kernel
theorem dX6_steadyFrom_5 : decode cX6_steadyFrom 5 = .ok (.sipush 250, 3) := by decide +kernel
theorem dX6_steadyFrom_8 : decode cX6_steadyFrom 8 = .ok (.if_icmp .ge 52, 3) := by decide +kernel
theorem dX6_steadyFrom_11 : decode cX6_steadyFrom 11 = .ok (.aload_n 0, 1) := by decide +kernel
theorem dX6_steadyFrom_12 : decode cX6_steadyFrom 12 = .ok (.getfield 10, 3) := by decide +kernel
theorem dX6_steadyFrom_15 : decode cX6_steadyFrom 15 = .ok (.getfield 98, 3) := by decide +kernel
theorem dX6_steadyFrom_18 : decode cX6_steadyFrom 18 = .ok (.aload_n 0, 1) := by decide +kernel
theorem dX6_steadyFrom_19 : decode cX6_steadyFrom 19 = .ok (.getfield 10, 3) := by decide +kernel
theorem dX6_steadyFrom_22 : decode cX6_steadyFrom 22 = .ok (.getfield 107, 3) := by decide +kernel
theorem dX6_steadyFrom_25 : decode cX6_steadyFrom 25 = .ok (.iload_n 2, 1) := by decide +kernel
theorem dX6_steadyFrom_26 : decode cX6_steadyFrom 26 = .ok (.iadd, 1) := by decide +kernel
theorem dX6_steadyFrom_27 : decode cX6_steadyFrom 27 = .ok (.invokevirtual 102, 3) := by decide +kernel
theorem dX6_steadyFrom_30 : decode cX6_steadyFrom 30 = .ok (.ifCond .ne 9, 3) := by decide +kernel
theorem dX6_steadyFrom_33 : decode cX6_steadyFrom 33 = .ok (.iload_n 1, 1) := by decide +kernel
theorem dX6_steadyFrom_34 : decode cX6_steadyFrom 34 = .ok (.iconst 1, 1) := by decide +kernel
theorem dX6_steadyFrom_35 : decode cX6_steadyFrom 35 = .ok (.iadd, 1) := by decide +kernel
theorem dX6_steadyFrom_36 : decode cX6_steadyFrom 36 = .ok (.goto 4, 3) := by decide +kernel
theorem dX6_steadyFrom_39 : decode cX6_steadyFrom 39 = .ok (.iconst 0, 1) := by decide +kernel
theorem dX6_steadyFrom_40 : decode cX6_steadyFrom 40 = .ok (.istore_n 1, 1) := by decide +kernel
theorem dX6_steadyFrom_41 : decode cX6_steadyFrom 41 = .ok (.iload_n 1, 1) := by decide +kernel
theorem dX6_steadyFrom_42 : decode cX6_steadyFrom 42 = .ok (.bipush 10, 2) := by decide +kernel
theorem dX6_steadyFrom_44 : decode cX6_steadyFrom 44 = .ok (.if_icmp .ne 10, 3) := by decide +kernel
theorem dX6_steadyFrom_47 : decode cX6_steadyFrom 47 = .ok (.iload_n 2, 1) := by decide +kernel
theorem dX6_steadyFrom_48 : decode cX6_steadyFrom 48 = .ok (.bipush 10, 2) := by decide +kernel
theorem dX6_steadyFrom_50 : decode cX6_steadyFrom 50 = .ok (.isub, 1) := by decide +kernel
theorem dX6_steadyFrom_51 : decode cX6_steadyFrom 51 = .ok (.iconst 1, 1) := by decide +kernel
theorem dX6_steadyFrom_52 : decode cX6_steadyFrom 52 = .ok (.iadd, 1) := by decide +kernel
theorem dX6_steadyFrom_53 : decode cX6_steadyFrom 53 = .ok (.ireturn, 1) := by decide +kernel
theorem dX6_steadyFrom_54 : decode cX6_steadyFrom 54 = .ok (.iinc 2 1, 3) := by decide +kernel
theorem dX6_steadyFrom_57 : decode cX6_steadyFrom 57 = .ok (.goto (-53), 3) := by decide +kernel
theorem dX6_steadyFrom_60 : decode cX6_steadyFrom 60 = .ok (.bipush (-9), 2) := by decide +kernel
theorem dX6_steadyFrom_62 : decode cX6_steadyFrom 62 = .ok (.ireturn, 1) := by decide +kernel
theorem dX6_whoLast_0 : decode cX6_whoLast 0 = .ok (.iload_n 1, 1) := by decide +kernel
theorem dX6_whoLast_1 : decode cX6_whoLast 1 = .ok (.iconst 0, 1) := by decide +kernel
theorem dX6_whoLast_2 : decode cX6_whoLast 2 = .ok (.sipush 240, 3) := by decide +kernel
theorem dX6_whoLast_5 : decode cX6_whoLast 5 = .ok (.invokestatic 43, 3) := by decide +kernel
theorem dX6_whoLast_8 : decode cX6_whoLast 8 = .ok (.istore_n 2, 1) := by decide +kernel
theorem dX6_whoLast_9 : decode cX6_whoLast 9 = .ok (.iload_n 2, 1) := by decide +kernel
theorem dX6_whoLast_10 : decode cX6_whoLast 10 = .ok (.ifCond .eq 9, 3) := by decide +kernel
theorem dX6_whoLast_13 : decode cX6_whoLast 13 = .ok (.aload_n 0, 1) := by decide +kernel
theorem dX6_whoLast_14 : decode cX6_whoLast 14 = .ok (.iload_n 2, 1) := by decide +kernel
theorem dX6_whoLast_15 : decode cX6_whoLast 15 = .ok (.invokevirtual 51, 3) := by decide +kernel
theorem dX6_whoLast_18 : decode cX6_whoLast 18 = .ok (.ireturn, 1) := by decide +kernel
theorem dX6_whoLast_19 : decode cX6_whoLast 19 = .ok (.aload_n 0, 1) := by decide +kernel
theorem dX6_whoLast_20 : decode cX6_whoLast 20 = .ok (.invokevirtual 120, 3) := by decide +kernel
theorem dX6_whoLast_23 : decode cX6_whoLast 23 = .ok (.aload_n 0, 1) := by decide +kernel
theorem dX6_whoLast_24 : decode cX6_whoLast 24 = .ok (.iload_n 1, 1) := by decide +kernel
theorem dX6_whoLast_25 : decode cX6_whoLast 25 = .ok (.iconst 1, 1) := by decide +kernel
theorem dX6_whoLast_26 : decode cX6_whoLast 26 = .ok (.invokevirtual 123, 3) := by decide +kernel
theorem dX6_whoLast_29 : decode cX6_whoLast 29 = .ok (.pop, 1) := by decide +kernel
theorem dX6_whoLast_30 : decode cX6_whoLast 30 = .ok (.aload_n 0, 1) := by decide +kernel
theorem dX6_whoLast_31 : decode cX6_whoLast 31 = .ok (.getfield 25, 3) := by decide +kernel
theorem dX6_whoLast_34 : decode cX6_whoLast 34 = .ok (.getfield 147, 3) := by decide +kernel
theorem dX6_whoLast_37 : decode cX6_whoLast 37 = .ok (.ireturn, 1) := by decide +kernel
theorem dX6_when_0 : decode cX6_when 0 = .ok (.iload_n 1, 1) := by decide +kernel
theorem dX6_when_1 : decode cX6_when 1 = .ok (.ifCond .ge 10, 3) := by decide +kernel
theorem dX6_when_4 : decode cX6_when 4 = .ok (.aload_n 0, 1) := by decide +kernel
theorem dX6_when_5 : decode cX6_when 5 = .ok (.bipush (-4), 2) := by decide +kernel
theorem dX6_when_7 : decode cX6_when 7 = .ok (.invokevirtual 51, 3) := by decide +kernel
theorem dX6_when_10 : decode cX6_when 10 = .ok (.ireturn, 1) := by decide +kernel
theorem dX6_when_11 : decode cX6_when 11 = .ok (.aload_n 0, 1) := by decide +kernel
theorem dX6_when_12 : decode cX6_when 12 = .ok (.invokevirtual 120, 3) := by decide +kernel
theorem dX6_when_15 : decode cX6_when 15 = .ok (.iconst 0, 1) := by decide +kernel
theorem dX6_when_16 : decode cX6_when 16 = .ok (.istore_n 2, 1) := by decide +kernel
theorem dX6_when_17 : decode cX6_when 17 = .ok (.iload_n 2, 1) := by decide +kernel
theorem dX6_when_18 : decode cX6_when 18 = .ok (.sipush 240, 3) := by decide +kernel
theorem dX6_when_21 : decode cX6_when 21 = .ok (.if_icmp .ge 35, 3) := by decide +kernel
theorem dX6_when_24 : decode cX6_when 24 = .ok (.aload_n 0, 1) := by decide +kernel
theorem dX6_when_25 : decode cX6_when 25 = .ok (.getfield 16, 3) := by decide +kernel
theorem dX6_when_28 : decode cX6_when 28 = .ok (.iconst 1, 1) := by decide +kernel
theorem dX6_when_29 : decode cX6_when 29 = .ok (.iconst 1, 1) := by decide +kernel
theorem dX6_when_30 : decode cX6_when 30 = .ok (.aload_n 0, 1) := by decide +kernel
theorem dX6_when_31 : decode cX6_when 31 = .ok (.getfield 25, 3) := by decide +kernel
theorem dX6_when_34 : decode cX6_when 34 = .ok (.invokevirtual 113, 3) := by decide +kernel
theorem dX6_when_37 : decode cX6_when 37 = .ok (.aload_n 0, 1) := by decide +kernel
theorem dX6_when_38 : decode cX6_when 38 = .ok (.getfield 25, 3) := by decide +kernel
theorem dX6_when_41 : decode cX6_when 41 = .ok (.invokevirtual 117, 3) := by decide +kernel
theorem dX6_when_44 : decode cX6_when 44 = .ok (.iload_n 1, 1) := by decide +kernel
theorem dX6_when_45 : decode cX6_when 45 = .ok (.if_icmp .le 5, 3) := by decide +kernel
theorem dX6_when_48 : decode cX6_when 48 = .ok (.iload_n 2, 1) := by decide +kernel
theorem dX6_when_49 : decode cX6_when 49 = .ok (.ireturn, 1) := by decide +kernel
theorem dX6_when_50 : decode cX6_when 50 = .ok (.iinc 2 1, 3) := by decide +kernel
theorem dX6_when_53 : decode cX6_when 53 = .ok (.goto (-36), 3) := by decide +kernel
theorem dX6_when_56 : decode cX6_when 56 = .ok (.bipush (-9), 2) := by decide +kernel
theorem dX6_when_58 : decode cX6_when 58 = .ok (.ireturn, 1) := by decide +kernel
theorem dX6_row_0 : decode cX6_row 0 = .ok (.iload_n 1, 1) := by decide +kernel
theorem dX6_row_1 : decode cX6_row 1 = .ok (.iconst 0, 1) := by decide +kernel
theorem dX6_row_2 : decode cX6_row 2 = .ok (.bipush 99, 2) := by decide +kernel
theorem dX6_row_4 : decode cX6_row 4 = .ok (.invokestatic 43, 3) := by decide +kernel
theorem dX6_row_7 : decode cX6_row 7 = .ok (.istore_n 2, 1) := by decide +kernel
theorem dX6_row_8 : decode cX6_row 8 = .ok (.iload_n 2, 1) := by decide +kernel
theorem dX6_row_9 : decode cX6_row 9 = .ok (.ifCond .ne 18, 3) := by decide +kernel
theorem dX6_row_12 : decode cX6_row 12 = .ok (.aload_n 0, 1) := by decide +kernel
theorem dX6_row_13 : decode cX6_row 13 = .ok (.getfield 150, 3) := by decide +kernel
theorem dX6_row_16 : decode cX6_row 16 = .ok (.aload_n 0, 1) := by decide +kernel
theorem dX6_row_17 : decode cX6_row 17 = .ok (.getfield 36, 3) := by decide +kernel
theorem dX6_row_20 : decode cX6_row 20 = .ok (.arraylength, 1) := by decide +kernel
theorem dX6_row_21 : decode cX6_row 21 = .ok (.if_icmp .lt 6, 3) := by decide +kernel
theorem dX6_row_24 : decode cX6_row 24 = .ok (.bipush (-6), 2) := by decide +kernel
theorem dX6_row_26 : decode cX6_row 26 = .ok (.istore_n 2, 1) := by decide +kernel
theorem dX6_row_27 : decode cX6_row 27 = .ok (.iload_n 2, 1) := by decide +kernel
theorem dX6_row_28 : decode cX6_row 28 = .ok (.ifCond .eq 9, 3) := by decide +kernel
theorem dX6_row_31 : decode cX6_row 31 = .ok (.aload_n 0, 1) := by decide +kernel
theorem dX6_row_32 : decode cX6_row 32 = .ok (.iload_n 2, 1) := by decide +kernel
theorem dX6_row_33 : decode cX6_row 33 = .ok (.invokevirtual 51, 3) := by decide +kernel
theorem dX6_row_36 : decode cX6_row 36 = .ok (.ireturn, 1) := by decide +kernel
theorem dX6_row_37 : decode cX6_row 37 = .ok (.aload_n 0, 1) := by decide +kernel
theorem dX6_row_38 : decode cX6_row 38 = .ok (.getfield 36, 3) := by decide +kernel
theorem dX6_row_41 : decode cX6_row 41 = .ok (.aload_n 0, 1) := by decide +kernel
theorem dX6_row_42 : decode cX6_row 42 = .ok (.getfield 150, 3) := by decide +kernel
theorem dX6_row_45 : decode cX6_row 45 = .ok (.iload_n 1, 1) := by decide +kernel
theorem dX6_row_46 : decode cX6_row 46 = .ok (.iastore, 1) := by decide +kernel
theorem dX6_row_47 : decode cX6_row 47 = .ok (.aload_n 0, 1) := by decide +kernel
theorem dX6_row_48 : decode cX6_row 48 = .ok (.dup, 1) := by decide +kernel
theorem dX6_row_49 : decode cX6_row 49 = .ok (.getfield 150, 3) := by decide +kernel
theorem dX6_row_52 : decode cX6_row 52 = .ok (.iconst 1, 1) := by decide +kernel
theorem dX6_row_53 : decode cX6_row 53 = .ok (.iadd, 1) := by decide +kernel
theorem dX6_row_54 : decode cX6_row 54 = .ok (.putfield 150, 3) := by decide +kernel
theorem dX6_row_57 : decode cX6_row 57 = .ok (.aload_n 0, 1) := by decide +kernel
theorem dX6_row_58 : decode cX6_row 58 = .ok (.getfield 150, 3) := by decide +kernel
theorem dX6_row_61 : decode cX6_row 61 = .ok (.ireturn, 1) := by decide +kernel
theorem dX6_kept_0 : decode cX6_kept 0 = .ok (.iload_n 1, 1) := by decide +kernel
theorem dX6_kept_1 : decode cX6_kept 1 = .ok (.ifCond .lt 8, 3) := by decide +kernel
theorem dX6_kept_4 : decode cX6_kept 4 = .ok (.iload_n 1, 1) := by decide +kernel
theorem dX6_kept_5 : decode cX6_kept 5 = .ok (.iconst 1, 1) := by decide +kernel
theorem dX6_kept_6 : decode cX6_kept 6 = .ok (.if_icmp .le 10, 3) := by decide +kernel
theorem dX6_kept_9 : decode cX6_kept 9 = .ok (.aload_n 0, 1) := by decide +kernel
theorem dX6_kept_10 : decode cX6_kept 10 = .ok (.bipush (-2), 2) := by decide +kernel
theorem dX6_kept_12 : decode cX6_kept 12 = .ok (.invokevirtual 51, 3) := by decide +kernel
theorem dX6_kept_15 : decode cX6_kept 15 = .ok (.ireturn, 1) := by decide +kernel
theorem dX6_kept_16 : decode cX6_kept 16 = .ok (.iload_n 1, 1) := by decide +kernel
theorem dX6_kept_17 : decode cX6_kept 17 = .ok (.ifCond .ne 10, 3) := by decide +kernel
theorem dX6_kept_20 : decode cX6_kept 20 = .ok (.aload_n 0, 1) := by decide +kernel
theorem dX6_kept_21 : decode cX6_kept 21 = .ok (.invokevirtual 153, 3) := by decide +kernel
theorem dX6_kept_24 : decode cX6_kept 24 = .ok (.goto 7, 3) := by decide +kernel
theorem dX6_kept_27 : decode cX6_kept 27 = .ok (.aload_n 0, 1) := by decide +kernel
theorem dX6_kept_28 : decode cX6_kept 28 = .ok (.invokevirtual 156, 3) := by decide +kernel
theorem dX6_kept_31 : decode cX6_kept 31 = .ok (.ireturn, 1) := by decide +kernel
theorem dX6_judge_0 : decode cX6_judge 0 = .ok (.aload_n 0, 1) := by decide +kernel
theorem dX6_judge_1 : decode cX6_judge 1 = .ok (.invokevirtual 120, 3) := by decide +kernel
theorem dX6_judge_4 : decode cX6_judge 4 = .ok (.aload_n 0, 1) := by decide +kernel
theorem dX6_judge_5 : decode cX6_judge 5 = .ok (.invokevirtual 159, 3) := by decide +kernel
theorem dX6_judge_8 : decode cX6_judge 8 = .ok (.istore_n 1, 1) := by decide +kernel
theorem dX6_judge_9 : decode cX6_judge 9 = .ok (.aload_n 0, 1) := by decide +kernel
theorem dX6_judge_10 : decode cX6_judge 10 = .ok (.iconst 0, 1) := by decide +kernel
theorem dX6_judge_11 : decode cX6_judge 11 = .ok (.putfield 150, 3) := by decide +kernel
theorem dX6_judge_14 : decode cX6_judge 14 = .ok (.iload_n 1, 1) := by decide +kernel
theorem dX6_judge_15 : decode cX6_judge 15 = .ok (.ireturn, 1) := by decide +kernel
theorem dX6_lots_0 : decode cX6_lots 0 = .ok (.iload_n 1, 1) := by decide +kernel
theorem dX6_lots_1 : decode cX6_lots 1 = .ok (.iconst 1, 1) := by decide +kernel
theorem dX6_lots_2 : decode cX6_lots 2 = .ok (.bipush 20, 2) := by decide +kernel
theorem dX6_lots_4 : decode cX6_lots 4 = .ok (.invokestatic 43, 3) := by decide +kernel
theorem dX6_lots_7 : decode cX6_lots 7 = .ok (.istore_n 3, 1) := by decide +kernel
theorem dX6_lots_8 : decode cX6_lots 8 = .ok (.iload_n 3, 1) := by decide +kernel
theorem dX6_lots_9 : decode cX6_lots 9 = .ok (.ifCond .eq 9, 3) := by decide +kernel
theorem dX6_lots_12 : decode cX6_lots 12 = .ok (.aload_n 0, 1) := by decide +kernel
theorem dX6_lots_13 : decode cX6_lots 13 = .ok (.iload_n 3, 1) := by decide +kernel
theorem dX6_lots_14 : decode cX6_lots 14 = .ok (.invokevirtual 51, 3) := by decide +kernel
theorem dX6_lots_17 : decode cX6_lots 17 = .ok (.ireturn, 1) := by decide +kernel
theorem dX6_lots_18 : decode cX6_lots 18 = .ok (.iload_n 2, 1) := by decide +kernel
theorem dX6_lots_19 : decode cX6_lots 19 = .ok (.istore 4, 2) := by decide +kernel
theorem dX6_lots_21 : decode cX6_lots 21 = .ok (.iconst 0, 1) := by decide +kernel
theorem dX6_lots_22 : decode cX6_lots 22 = .ok (.istore 5, 2) := by decide +kernel
theorem dX6_lots_24 : decode cX6_lots 24 = .ok (.iconst 0, 1) := by decide +kernel
theorem dX6_lots_25 : decode cX6_lots 25 = .ok (.istore 6, 2) := by decide +kernel
theorem dX6_lots_27 : decode cX6_lots 27 = .ok (.iload 6, 2) := by decide +kernel
theorem dX6_lots_29 : decode cX6_lots 29 = .ok (.iload_n 1, 1) := by decide +kernel
theorem dX6_lots_30 : decode cX6_lots 30 = .ok (.if_icmp .ge 57, 3) := by decide +kernel
theorem dX6_lots_33 : decode cX6_lots 33 = .ok (.iload 4, 2) := by decide +kernel
theorem dX6_lots_35 : decode cX6_lots 35 = .ok (.ldc 162, 2) := by decide +kernel
theorem dX6_lots_37 : decode cX6_lots 37 = .ok (.imul, 1) := by decide +kernel
theorem dX6_lots_38 : decode cX6_lots 38 = .ok (.ldc 163, 2) := by decide +kernel
theorem dX6_lots_40 : decode cX6_lots 40 = .ok (.iadd, 1) := by decide +kernel
theorem dX6_lots_41 : decode cX6_lots 41 = .ok (.istore 4, 2) := by decide +kernel
theorem dX6_lots_43 : decode cX6_lots 43 = .ok (.aload_n 0, 1) := by decide +kernel
theorem dX6_lots_44 : decode cX6_lots 44 = .ok (.invokevirtual 120, 3) := by decide +kernel
theorem dX6_lots_47 : decode cX6_lots 47 = .ok (.aload_n 0, 1) := by decide +kernel
theorem dX6_lots_48 : decode cX6_lots 48 = .ok (.getfield 16, 3) := by decide +kernel
theorem dX6_lots_51 : decode cX6_lots 51 = .ok (.iload 4, 2) := by decide +kernel
theorem dX6_lots_53 : decode cX6_lots 53 = .ok (.ldc 164, 2) := by decide +kernel
theorem dX6_lots_55 : decode cX6_lots 55 = .ok (.iand, 1) := by decide +kernel
theorem dX6_lots_56 : decode cX6_lots 56 = .ok (.sipush 256, 3) := by decide +kernel
theorem dX6_lots_59 : decode cX6_lots 59 = .ok (.idiv, 1) := by decide +kernel
theorem dX6_lots_60 : decode cX6_lots 60 = .ok (.bipush 41, 2) := by decide +kernel
theorem dX6_lots_62 : decode cX6_lots 62 = .ok (.irem, 1) := by decide +kernel
theorem dX6_lots_63 : decode cX6_lots 63 = .ok (.bipush 20, 2) := by decide +kernel
theorem dX6_lots_65 : decode cX6_lots 65 = .ok (.isub, 1) := by decide +kernel
theorem dX6_lots_66 : decode cX6_lots 66 = .ok (.putfield 128, 3) := by decide +kernel
theorem dX6_lots_69 : decode cX6_lots 69 = .ok (.iload 5, 2) := by decide +kernel
theorem dX6_lots_71 : decode cX6_lots 71 = .ok (.aload_n 0, 1) := by decide +kernel
theorem dX6_lots_72 : decode cX6_lots 72 = .ok (.bipush 60, 2) := by decide +kernel
theorem dX6_lots_74 : decode cX6_lots 74 = .ok (.iconst 1, 1) := by decide +kernel
theorem dX6_lots_75 : decode cX6_lots 75 = .ok (.invokevirtual 123, 3) := by decide +kernel
theorem dX6_lots_78 : decode cX6_lots 78 = .ok (.iadd, 1) := by decide +kernel
theorem dX6_lots_79 : decode cX6_lots 79 = .ok (.istore 5, 2) := by decide +kernel
theorem dX6_lots_81 : decode cX6_lots 81 = .ok (.iinc 6 1, 3) := by decide +kernel
theorem dX6_lots_84 : decode cX6_lots 84 = .ok (.goto (-57), 3) := by decide +kernel
theorem dX6_lots_87 : decode cX6_lots 87 = .ok (.iload 5, 2) := by decide +kernel
theorem dX6_lots_89 : decode cX6_lots 89 = .ok (.ireturn, 1) := by decide +kernel
theorem dX6_image_0 : decode cX6_image 0 = .ok (.aload_n 0, 1) := by decide +kernel
theorem dX6_image_1 : decode cX6_image 1 = .ok (.getfield 19, 3) := by decide +kernel
theorem dX6_image_4 : decode cX6_image 4 = .ok (.aload_n 0, 1) := by decide +kernel
theorem dX6_image_5 : decode cX6_image 5 = .ok (.getfield 10, 3) := by decide +kernel
theorem dX6_image_8 : decode cX6_image 8 = .ok (.invokevirtual 165, 3) := by decide +kernel
theorem dX6_image_11 : decode cX6_image 11 = .ok (.aload_n 0, 1) := by decide +kernel
theorem dX6_image_12 : decode cX6_image 12 = .ok (.iconst 1, 1) := by decide +kernel
theorem dX6_image_13 : decode cX6_image 13 = .ok (.putfield 169, 3) := by decide +kernel
theorem dX6_image_16 : decode cX6_image 16 = .ok (.aload_n 0, 1) := by decide +kernel
theorem dX6_image_17 : decode cX6_image 17 = .ok (.getfield 10, 3) := by decide +kernel
theorem dX6_image_20 : decode cX6_image 20 = .ok (.getfield 107, 3) := by decide +kernel
theorem dX6_image_23 : decode cX6_image 23 = .ok (.ireturn, 1) := by decide +kernel
theorem dX6_on_0 : decode cX6_on 0 = .ok (.aload_n 0, 1) := by decide +kernel
theorem dX6_on_1 : decode cX6_on 1 = .ok (.getfield 169, 3) := by decide +kernel
theorem dX6_on_4 : decode cX6_on 4 = .ok (.ifCond .ne 10, 3) := by decide +kernel
theorem dX6_on_7 : decode cX6_on 7 = .ok (.aload_n 0, 1) := by decide +kernel
theorem dX6_on_8 : decode cX6_on 8 = .ok (.bipush (-3), 2) := by decide +kernel
theorem dX6_on_10 : decode cX6_on 10 = .ok (.invokevirtual 51, 3) := by decide +kernel
theorem dX6_on_13 : decode cX6_on 13 = .ok (.ireturn, 1) := by decide +kernel
theorem dX6_on_14 : decode cX6_on 14 = .ok (.aload_n 0, 1) := by decide +kernel
theorem dX6_on_15 : decode cX6_on 15 = .ok (.getfield 10, 3) := by decide +kernel
theorem dX6_on_18 : decode cX6_on 18 = .ok (.aload_n 0, 1) := by decide +kernel
theorem dX6_on_19 : decode cX6_on 19 = .ok (.getfield 19, 3) := by decide +kernel
theorem dX6_on_22 : decode cX6_on 22 = .ok (.invokevirtual 165, 3) := by decide +kernel
theorem dX6_on_25 : decode cX6_on 25 = .ok (.aload_n 0, 1) := by decide +kernel
theorem dX6_on_26 : decode cX6_on 26 = .ok (.getfield 10, 3) := by decide +kernel
theorem dX6_on_29 : decode cX6_on 29 = .ok (.getfield 107, 3) := by decide +kernel
theorem dX6_on_32 : decode cX6_on 32 = .ok (.ireturn, 1) := by decide +kernel
theorem dX6_count_0 : decode cX6_count 0 = .ok (.iload_n 1, 1) := by decide +kernel
theorem dX6_count_1 : decode cX6_count 1 = .ok (.tableswitch 144 0 9 #[55, 63, 71, 82, 93, 104, 115, 123, 131, 136], 55) := by decide +kernel
theorem dX6_count_56 : decode cX6_count 56 = .ok (.aload_n 0, 1) := by decide +kernel
theorem dX6_count_57 : decode cX6_count 57 = .ok (.getfield 10, 3) := by decide +kernel
theorem dX6_count_60 : decode cX6_count 60 = .ok (.getfield 138, 3) := by decide +kernel
theorem dX6_count_63 : decode cX6_count 63 = .ok (.ireturn, 1) := by decide +kernel
theorem dX6_count_64 : decode cX6_count 64 = .ok (.aload_n 0, 1) := by decide +kernel
theorem dX6_count_65 : decode cX6_count 65 = .ok (.getfield 10, 3) := by decide +kernel
theorem dX6_count_68 : decode cX6_count 68 = .ok (.getfield 107, 3) := by decide +kernel
theorem dX6_count_71 : decode cX6_count 71 = .ok (.ireturn, 1) := by decide +kernel
theorem dX6_count_72 : decode cX6_count 72 = .ok (.aload_n 0, 1) := by decide +kernel
theorem dX6_count_73 : decode cX6_count 73 = .ok (.getfield 10, 3) := by decide +kernel
theorem dX6_count_76 : decode cX6_count 76 = .ok (.getfield 98, 3) := by decide +kernel
theorem dX6_count_79 : decode cX6_count 79 = .ok (.getfield 173, 3) := by decide +kernel
theorem dX6_count_82 : decode cX6_count 82 = .ok (.ireturn, 1) := by decide +kernel
theorem dX6_count_83 : decode cX6_count 83 = .ok (.aload_n 0, 1) := by decide +kernel
theorem dX6_count_84 : decode cX6_count 84 = .ok (.getfield 10, 3) := by decide +kernel
theorem dX6_count_87 : decode cX6_count 87 = .ok (.getfield 176, 3) := by decide +kernel
theorem dX6_count_90 : decode cX6_count 90 = .ok (.getfield 180, 3) := by decide +kernel
theorem dX6_count_93 : decode cX6_count 93 = .ok (.ireturn, 1) := by decide +kernel
theorem dX6_count_94 : decode cX6_count 94 = .ok (.aload_n 0, 1) := by decide +kernel
theorem dX6_count_95 : decode cX6_count 95 = .ok (.getfield 10, 3) := by decide +kernel
theorem dX6_count_98 : decode cX6_count 98 = .ok (.getfield 176, 3) := by decide +kernel
theorem dX6_count_101 : decode cX6_count 101 = .ok (.getfield 183, 3) := by decide +kernel
theorem dX6_count_104 : decode cX6_count 104 = .ok (.ireturn, 1) := by decide +kernel
theorem dX6_count_105 : decode cX6_count 105 = .ok (.aload_n 0, 1) := by decide +kernel
theorem dX6_count_106 : decode cX6_count 106 = .ok (.getfield 10, 3) := by decide +kernel
theorem dX6_count_109 : decode cX6_count 109 = .ok (.getfield 176, 3) := by decide +kernel
theorem dX6_count_112 : decode cX6_count 112 = .ok (.getfield 186, 3) := by decide +kernel
theorem dX6_count_115 : decode cX6_count 115 = .ok (.ireturn, 1) := by decide +kernel
theorem dX6_count_116 : decode cX6_count 116 = .ok (.aload_n 0, 1) := by decide +kernel
theorem dX6_count_117 : decode cX6_count 117 = .ok (.getfield 10, 3) := by decide +kernel
theorem dX6_count_120 : decode cX6_count 120 = .ok (.getfield 189, 3) := by decide +kernel
theorem dX6_count_123 : decode cX6_count 123 = .ok (.ireturn, 1) := by decide +kernel
theorem dX6_count_124 : decode cX6_count 124 = .ok (.aload_n 0, 1) := by decide +kernel
theorem dX6_count_125 : decode cX6_count 125 = .ok (.getfield 10, 3) := by decide +kernel
theorem dX6_count_128 : decode cX6_count 128 = .ok (.invokevirtual 192, 3) := by decide +kernel
theorem dX6_count_131 : decode cX6_count 131 = .ok (.ireturn, 1) := by decide +kernel
theorem dX6_count_132 : decode cX6_count 132 = .ok (.aload_n 0, 1) := by decide +kernel
theorem dX6_count_133 : decode cX6_count 133 = .ok (.getfield 150, 3) := by decide +kernel
theorem dX6_count_136 : decode cX6_count 136 = .ok (.ireturn, 1) := by decide +kernel
theorem dX6_count_137 : decode cX6_count 137 = .ok (.aload_n 0, 1) := by decide +kernel
theorem dX6_count_138 : decode cX6_count 138 = .ok (.getfield 32, 3) := by decide +kernel
theorem dX6_count_141 : decode cX6_count 141 = .ok (.getfield 47, 3) := by decide +kernel
theorem dX6_count_144 : decode cX6_count 144 = .ok (.ireturn, 1) := by decide +kernel
theorem dX6_count_145 : decode cX6_count 145 = .ok (.iload_n 1, 1) := by decide +kernel
theorem dX6_count_146 : decode cX6_count 146 = .ok (.bipush 11, 2) := by decide +kernel
theorem dX6_count_148 : decode cX6_count 148 = .ok (.if_icmp .lt 21, 3) := by decide +kernel
theorem dX6_count_151 : decode cX6_count 151 = .ok (.iload_n 1, 1) := by decide +kernel
theorem dX6_count_152 : decode cX6_count 152 = .ok (.bipush 16, 2) := by decide +kernel
theorem dX6_count_154 : decode cX6_count 154 = .ok (.if_icmp .gt 15, 3) := by decide +kernel
theorem dX6_count_157 : decode cX6_count 157 = .ok (.aload_n 0, 1) := by decide +kernel
theorem dX6_count_158 : decode cX6_count 158 = .ok (.getfield 40, 3) := by decide +kernel
theorem dX6_count_161 : decode cX6_count 161 = .ok (.iload_n 1, 1) := by decide +kernel
theorem dX6_count_162 : decode cX6_count 162 = .ok (.bipush 10, 2) := by decide +kernel
theorem dX6_count_164 : decode cX6_count 164 = .ok (.isub, 1) := by decide +kernel
theorem dX6_count_165 : decode cX6_count 165 = .ok (.iaload, 1) := by decide +kernel
theorem dX6_count_166 : decode cX6_count 166 = .ok (.goto 5, 3) := by decide +kernel
theorem dX6_count_169 : decode cX6_count 169 = .ok (.bipush (-9), 2) := by decide +kernel
theorem dX6_count_171 : decode cX6_count 171 = .ok (.ireturn, 1) := by decide +kernel
theorem dX6_outside_0 : decode cX6_outside 0 = .ok (.iload_n 0, 1) := by decide +kernel
theorem dX6_outside_1 : decode cX6_outside 1 = .ok (.iload_n 1, 1) := by decide +kernel
theorem dX6_outside_2 : decode cX6_outside 2 = .ok (.if_icmp .ge 6, 3) := by decide +kernel
theorem dX6_outside_5 : decode cX6_outside 5 = .ok (.bipush (-4), 2) := by decide +kernel
theorem dX6_outside_7 : decode cX6_outside 7 = .ok (.ireturn, 1) := by decide +kernel
theorem dX6_outside_8 : decode cX6_outside 8 = .ok (.iload_n 0, 1) := by decide +kernel
theorem dX6_outside_9 : decode cX6_outside 9 = .ok (.iload_n 2, 1) := by decide +kernel
theorem dX6_outside_10 : decode cX6_outside 10 = .ok (.if_icmp .le 8, 3) := by decide +kernel
theorem dX6_outside_13 : decode cX6_outside 13 = .ok (.bipush (-6), 2) := by decide +kernel
theorem dX6_outside_15 : decode cX6_outside 15 = .ok (.goto 4, 3) := by decide +kernel
theorem dX6_outside_18 : decode cX6_outside 18 = .ok (.iconst 0, 1) := by decide +kernel
theorem dX6_outside_19 : decode cX6_outside 19 = .ok (.ireturn, 1) := by decide +kernel
theorem dX6_refuse_0 : decode cX6_refuse 0 = .ok (.iload_n 1, 1) := by decide +kernel
theorem dX6_refuse_1 : decode cX6_refuse 1 = .ok (.ineg, 1) := by decide +kernel
theorem dX6_refuse_2 : decode cX6_refuse 2 = .ok (.istore_n 2, 1) := by decide +kernel
theorem dX6_refuse_3 : decode cX6_refuse 3 = .ok (.iload_n 2, 1) := by decide +kernel
theorem dX6_refuse_4 : decode cX6_refuse 4 = .ok (.ifCond .lt 22, 3) := by decide +kernel
theorem dX6_refuse_7 : decode cX6_refuse 7 = .ok (.iload_n 2, 1) := by decide +kernel
theorem dX6_refuse_8 : decode cX6_refuse 8 = .ok (.aload_n 0, 1) := by decide +kernel
theorem dX6_refuse_9 : decode cX6_refuse 9 = .ok (.getfield 40, 3) := by decide +kernel
theorem dX6_refuse_12 : decode cX6_refuse 12 = .ok (.arraylength, 1) := by decide +kernel
theorem dX6_refuse_13 : decode cX6_refuse 13 = .ok (.if_icmp .ge 13, 3) := by decide +kernel
theorem dX6_refuse_16 : decode cX6_refuse 16 = .ok (.aload_n 0, 1) := by decide +kernel
theorem dX6_refuse_17 : decode cX6_refuse 17 = .ok (.getfield 40, 3) := by decide +kernel
theorem dX6_refuse_20 : decode cX6_refuse 20 = .ok (.iload_n 2, 1) := by decide +kernel
theorem dX6_refuse_21 : decode cX6_refuse 21 = .ok (.dup2, 1) := by decide +kernel
theorem dX6_refuse_22 : decode cX6_refuse 22 = .ok (.iaload, 1) := by decide +kernel
theorem dX6_refuse_23 : decode cX6_refuse 23 = .ok (.iconst 1, 1) := by decide +kernel
theorem dX6_refuse_24 : decode cX6_refuse 24 = .ok (.iadd, 1) := by decide +kernel
theorem dX6_refuse_25 : decode cX6_refuse 25 = .ok (.iastore, 1) := by decide +kernel
theorem dX6_refuse_26 : decode cX6_refuse 26 = .ok (.iload_n 1, 1) := by decide +kernel
theorem dX6_refuse_27 : decode cX6_refuse 27 = .ok (.ireturn, 1) := by decide +kernel
theorem dX6_refuseTold_0 : decode cX6_refuseTold 0 = .ok (.ldc 195, 2) := by decide +kernel
theorem dX6_refuseTold_2 : decode cX6_refuseTold 2 = .ok (.aload_n 0, 1) := by decide +kernel
theorem dX6_refuseTold_3 : decode cX6_refuseTold 3 = .ok (.iload_n 1, 1) := by decide +kernel
theorem dX6_refuseTold_4 : decode cX6_refuseTold 4 = .ok (.invokevirtual 51, 3) := by decide +kernel
theorem dX6_refuseTold_7 : decode cX6_refuseTold 7 = .ok (.isub, 1) := by decide +kernel
theorem dX6_refuseTold_8 : decode cX6_refuseTold 8 = .ok (.ireturn, 1) := by decide +kernel
theorem dX6_tellAll_0 : decode cX6_tellAll 0 = .ok (.aload_n 0, 1) := by decide +kernel
theorem dX6_tellAll_1 : decode cX6_tellAll 1 = .ok (.invokevirtual 120, 3) := by decide +kernel
theorem dX6_tellAll_4 : decode cX6_tellAll 4 = .ok (.iconst 0, 1) := by decide +kernel
theorem dX6_tellAll_5 : decode cX6_tellAll 5 = .ok (.istore_n 1, 1) := by decide +kernel
theorem dX6_tellAll_6 : decode cX6_tellAll 6 = .ok (.iconst 0, 1) := by decide +kernel
theorem dX6_tellAll_7 : decode cX6_tellAll 7 = .ok (.istore_n 2, 1) := by decide +kernel
theorem dX6_tellAll_8 : decode cX6_tellAll 8 = .ok (.iload_n 2, 1) := by decide +kernel
theorem dX6_tellAll_9 : decode cX6_tellAll 9 = .ok (.aload_n 0, 1) := by decide +kernel
theorem dX6_tellAll_10 : decode cX6_tellAll 10 = .ok (.getfield 32, 3) := by decide +kernel
theorem dX6_tellAll_13 : decode cX6_tellAll 13 = .ok (.getfield 47, 3) := by decide +kernel
theorem dX6_tellAll_16 : decode cX6_tellAll 16 = .ok (.if_icmp .ge 50, 3) := by decide +kernel
theorem dX6_tellAll_19 : decode cX6_tellAll 19 = .ok (.aload_n 0, 1) := by decide +kernel
theorem dX6_tellAll_20 : decode cX6_tellAll 20 = .ok (.getfield 32, 3) := by decide +kernel
theorem dX6_tellAll_23 : decode cX6_tellAll 23 = .ok (.aload_n 0, 1) := by decide +kernel
theorem dX6_tellAll_24 : decode cX6_tellAll 24 = .ok (.getfield 16, 3) := by decide +kernel
theorem dX6_tellAll_27 : decode cX6_tellAll 27 = .ok (.iload_n 2, 1) := by decide +kernel
theorem dX6_tellAll_28 : decode cX6_tellAll 28 = .ok (.aload_n 0, 1) := by decide +kernel
theorem dX6_tellAll_29 : decode cX6_tellAll 29 = .ok (.getfield 25, 3) := by decide +kernel
theorem dX6_tellAll_32 : decode cX6_tellAll 32 = .ok (.invokevirtual 196, 3) := by decide +kernel
theorem dX6_tellAll_35 : decode cX6_tellAll 35 = .ok (.ifCond .ne 9, 3) := by decide +kernel
theorem dX6_tellAll_38 : decode cX6_tellAll 38 = .ok (.sipush (-2000), 3) := by decide +kernel
theorem dX6_tellAll_41 : decode cX6_tellAll 41 = .ok (.iload_n 2, 1) := by decide +kernel
theorem dX6_tellAll_42 : decode cX6_tellAll 42 = .ok (.isub, 1) := by decide +kernel
theorem dX6_tellAll_43 : decode cX6_tellAll 43 = .ok (.ireturn, 1) := by decide +kernel
theorem dX6_tellAll_44 : decode cX6_tellAll 44 = .ok (.iinc 1 1, 3) := by decide +kernel
theorem dX6_tellAll_47 : decode cX6_tellAll 47 = .ok (.iload_n 2, 1) := by decide +kernel
theorem dX6_tellAll_48 : decode cX6_tellAll 48 = .ok (.iconst 1, 1) := by decide +kernel
theorem dX6_tellAll_49 : decode cX6_tellAll 49 = .ok (.aload_n 0, 1) := by decide +kernel
theorem dX6_tellAll_50 : decode cX6_tellAll 50 = .ok (.getfield 32, 3) := by decide +kernel
theorem dX6_tellAll_53 : decode cX6_tellAll 53 = .ok (.iload_n 2, 1) := by decide +kernel
theorem dX6_tellAll_54 : decode cX6_tellAll 54 = .ok (.invokevirtual 200, 3) := by decide +kernel
theorem dX6_tellAll_57 : decode cX6_tellAll 57 = .ok (.invokevirtual 204, 3) := by decide +kernel
theorem dX6_tellAll_60 : decode cX6_tellAll 60 = .ok (.iadd, 1) := by decide +kernel
theorem dX6_tellAll_61 : decode cX6_tellAll 61 = .ok (.iadd, 1) := by decide +kernel
theorem dX6_tellAll_62 : decode cX6_tellAll 62 = .ok (.istore_n 2, 1) := by decide +kernel
theorem dX6_tellAll_63 : decode cX6_tellAll 63 = .ok (.goto (-55), 3) := by decide +kernel
theorem dX6_tellAll_66 : decode cX6_tellAll 66 = .ok (.aload_n 0, 1) := by decide +kernel
theorem dX6_tellAll_67 : decode cX6_tellAll 67 = .ok (.getfield 10, 3) := by decide +kernel
theorem dX6_tellAll_70 : decode cX6_tellAll 70 = .ok (.aload_n 0, 1) := by decide +kernel
theorem dX6_tellAll_71 : decode cX6_tellAll 71 = .ok (.getfield 16, 3) := by decide +kernel
theorem dX6_tellAll_74 : decode cX6_tellAll 74 = .ok (.invokevirtual 165, 3) := by decide +kernel
theorem dX6_tellAll_77 : decode cX6_tellAll 77 = .ok (.iload_n 1, 1) := by decide +kernel
theorem dX6_tellAll_78 : decode cX6_tellAll 78 = .ok (.ireturn, 1) := by decide +kernel
theorem dX6_think_0 : decode cX6_think 0 = .ok (.aload_n 0, 1) := by decide +kernel
theorem dX6_think_1 : decode cX6_think 1 = .ok (.getfield 16, 3) := by decide +kernel
theorem dX6_think_4 : decode cX6_think 4 = .ok (.aload_n 0, 1) := by decide +kernel
theorem dX6_think_5 : decode cX6_think 5 = .ok (.getfield 10, 3) := by decide +kernel
theorem dX6_think_8 : decode cX6_think 8 = .ok (.invokevirtual 165, 3) := by decide +kernel
theorem dX6_think_11 : decode cX6_think 11 = .ok (.aload_n 0, 1) := by decide +kernel
theorem dX6_think_12 : decode cX6_think 12 = .ok (.getfield 25, 3) := by decide +kernel
theorem dX6_think_15 : decode cX6_think 15 = .ok (.invokevirtual 110, 3) := by decide +kernel
theorem dX6_think_18 : decode cX6_think 18 = .ok (.return_, 1) := by decide +kernel
theorem dX6_playInMind_0 : decode cX6_playInMind 0 = .ok (.aload_n 0, 1) := by decide +kernel
theorem dX6_playInMind_1 : decode cX6_playInMind 1 = .ok (.getfield 16, 3) := by decide +kernel
theorem dX6_playInMind_4 : decode cX6_playInMind 4 = .ok (.iload_n 1, 1) := by decide +kernel
theorem dX6_playInMind_5 : decode cX6_playInMind 5 = .ok (.iload_n 2, 1) := by decide +kernel
theorem dX6_playInMind_6 : decode cX6_playInMind 6 = .ok (.aload_n 0, 1) := by decide +kernel
theorem dX6_playInMind_7 : decode cX6_playInMind 7 = .ok (.getfield 25, 3) := by decide +kernel
theorem dX6_playInMind_10 : decode cX6_playInMind 10 = .ok (.invokevirtual 113, 3) := by decide +kernel
theorem dX6_playInMind_13 : decode cX6_playInMind 13 = .ok (.aload_n 0, 1) := by decide +kernel
theorem dX6_playInMind_14 : decode cX6_playInMind 14 = .ok (.getfield 25, 3) := by decide +kernel
theorem dX6_playInMind_17 : decode cX6_playInMind 17 = .ok (.invokevirtual 209, 3) := by decide +kernel
theorem dX6_playInMind_20 : decode cX6_playInMind 20 = .ok (.ireturn, 1) := by decide +kernel
theorem dX6_leastCostly_0 : decode cX6_leastCostly 0 = .ok (.iload_n 3, 1) := by decide +kernel
theorem dX6_leastCostly_1 : decode cX6_leastCostly 1 = .ok (.istore 5, 2) := by decide +kernel
theorem dX6_leastCostly_3 : decode cX6_leastCostly 3 = .ok (.iconst (-1), 1) := by decide +kernel
theorem dX6_leastCostly_4 : decode cX6_leastCostly 4 = .ok (.istore 6, 2) := by decide +kernel
theorem dX6_leastCostly_6 : decode cX6_leastCostly 6 = .ok (.iload_n 3, 1) := by decide +kernel
theorem dX6_leastCostly_7 : decode cX6_leastCostly 7 = .ok (.istore 7, 2) := by decide +kernel
theorem dX6_leastCostly_9 : decode cX6_leastCostly 9 = .ok (.iload 7, 2) := by decide +kernel
theorem dX6_leastCostly_11 : decode cX6_leastCostly 11 = .ok (.iload 4, 2) := by decide +kernel
theorem dX6_leastCostly_13 : decode cX6_leastCostly 13 = .ok (.if_icmp .gt 52, 3) := by decide +kernel
theorem dX6_leastCostly_16 : decode cX6_leastCostly 16 = .ok (.aload_n 0, 1) := by decide +kernel
theorem dX6_leastCostly_17 : decode cX6_leastCostly 17 = .ok (.invokevirtual 120, 3) := by decide +kernel
theorem dX6_leastCostly_20 : decode cX6_leastCostly 20 = .ok (.aload_n 0, 1) := by decide +kernel
theorem dX6_leastCostly_21 : decode cX6_leastCostly 21 = .ok (.getfield 16, 3) := by decide +kernel
theorem dX6_leastCostly_24 : decode cX6_leastCostly 24 = .ok (.iload_n 2, 1) := by decide +kernel
theorem dX6_leastCostly_25 : decode cX6_leastCostly 25 = .ok (.iload 7, 2) := by decide +kernel
theorem dX6_leastCostly_27 : decode cX6_leastCostly 27 = .ok (.invokevirtual 94, 3) := by decide +kernel
theorem dX6_leastCostly_30 : decode cX6_leastCostly 30 = .ok (.pop, 1) := by decide +kernel
theorem dX6_leastCostly_31 : decode cX6_leastCostly 31 = .ok (.aload_n 0, 1) := by decide +kernel
theorem dX6_leastCostly_32 : decode cX6_leastCostly 32 = .ok (.iload_n 1, 1) := by decide +kernel
theorem dX6_leastCostly_33 : decode cX6_leastCostly 33 = .ok (.iconst 1, 1) := by decide +kernel
theorem dX6_leastCostly_34 : decode cX6_leastCostly 34 = .ok (.invokevirtual 123, 3) := by decide +kernel
theorem dX6_leastCostly_37 : decode cX6_leastCostly 37 = .ok (.istore 8, 2) := by decide +kernel
theorem dX6_leastCostly_39 : decode cX6_leastCostly 39 = .ok (.iload 6, 2) := by decide +kernel
theorem dX6_leastCostly_41 : decode cX6_leastCostly 41 = .ok (.ifCond .lt 10, 3) := by decide +kernel
theorem dX6_leastCostly_44 : decode cX6_leastCostly 44 = .ok (.iload 8, 2) := by decide +kernel
theorem dX6_leastCostly_46 : decode cX6_leastCostly 46 = .ok (.iload 6, 2) := by decide +kernel
theorem dX6_leastCostly_48 : decode cX6_leastCostly 48 = .ok (.if_icmp .ge 11, 3) := by decide +kernel
theorem dX6_leastCostly_51 : decode cX6_leastCostly 51 = .ok (.iload 8, 2) := by decide +kernel
theorem dX6_leastCostly_53 : decode cX6_leastCostly 53 = .ok (.istore 6, 2) := by decide +kernel
theorem dX6_leastCostly_55 : decode cX6_leastCostly 55 = .ok (.iload 7, 2) := by decide +kernel
theorem dX6_leastCostly_57 : decode cX6_leastCostly 57 = .ok (.istore 5, 2) := by decide +kernel
theorem dX6_leastCostly_59 : decode cX6_leastCostly 59 = .ok (.iinc 7 1, 3) := by decide +kernel
theorem dX6_leastCostly_62 : decode cX6_leastCostly 62 = .ok (.goto (-53), 3) := by decide +kernel
theorem dX6_leastCostly_65 : decode cX6_leastCostly 65 = .ok (.iload 5, 2) := by decide +kernel
theorem dX6_leastCostly_67 : decode cX6_leastCostly 67 = .ok (.ireturn, 1) := by decide +kernel
theorem dX6_savedByFineHands_0 : decode cX6_savedByFineHands 0 = .ok (.aload_n 0, 1) := by decide +kernel
theorem dX6_savedByFineHands_1 : decode cX6_savedByFineHands 1 = .ok (.invokevirtual 120, 3) := by decide +kernel
theorem dX6_savedByFineHands_4 : decode cX6_savedByFineHands 4 = .ok (.aload_n 0, 1) := by decide +kernel
theorem dX6_savedByFineHands_5 : decode cX6_savedByFineHands 5 = .ok (.iload_n 1, 1) := by decide +kernel
theorem dX6_savedByFineHands_6 : decode cX6_savedByFineHands 6 = .ok (.iconst 1, 1) := by decide +kernel
theorem dX6_savedByFineHands_7 : decode cX6_savedByFineHands 7 = .ok (.invokevirtual 123, 3) := by decide +kernel
theorem dX6_savedByFineHands_10 : decode cX6_savedByFineHands 10 = .ok (.istore 4, 2) := by decide +kernel
theorem dX6_savedByFineHands_12 : decode cX6_savedByFineHands 12 = .ok (.aload_n 0, 1) := by decide +kernel
theorem dX6_savedByFineHands_13 : decode cX6_savedByFineHands 13 = .ok (.invokevirtual 120, 3) := by decide +kernel
theorem dX6_savedByFineHands_16 : decode cX6_savedByFineHands 16 = .ok (.aload_n 0, 1) := by decide +kernel
theorem dX6_savedByFineHands_17 : decode cX6_savedByFineHands 17 = .ok (.getfield 16, 3) := by decide +kernel
theorem dX6_savedByFineHands_20 : decode cX6_savedByFineHands 20 = .ok (.iload_n 2, 1) := by decide +kernel
theorem dX6_savedByFineHands_21 : decode cX6_savedByFineHands 21 = .ok (.iload_n 3, 1) := by decide +kernel
theorem dX6_savedByFineHands_22 : decode cX6_savedByFineHands 22 = .ok (.invokevirtual 212, 3) := by decide +kernel
theorem dX6_savedByFineHands_25 : decode cX6_savedByFineHands 25 = .ok (.iload 4, 2) := by decide +kernel
theorem dX6_savedByFineHands_27 : decode cX6_savedByFineHands 27 = .ok (.aload_n 0, 1) := by decide +kernel
theorem dX6_savedByFineHands_28 : decode cX6_savedByFineHands 28 = .ok (.iload_n 1, 1) := by decide +kernel
theorem dX6_savedByFineHands_29 : decode cX6_savedByFineHands 29 = .ok (.iconst 1, 1) := by decide +kernel
theorem dX6_savedByFineHands_30 : decode cX6_savedByFineHands 30 = .ok (.invokevirtual 123, 3) := by decide +kernel
theorem dX6_savedByFineHands_33 : decode cX6_savedByFineHands 33 = .ok (.isub, 1) := by decide +kernel
theorem dX6_savedByFineHands_34 : decode cX6_savedByFineHands 34 = .ok (.ireturn, 1) := by decide +kernel
theorem dX6_minutesHeld_0 : decode cX6_minutesHeld 0 = .ok (.aload_n 0, 1) := by decide +kernel
theorem dX6_minutesHeld_1 : decode cX6_minutesHeld 1 = .ok (.invokevirtual 120, 3) := by decide +kernel
theorem dX6_minutesHeld_4 : decode cX6_minutesHeld 4 = .ok (.aload_n 0, 1) := by decide +kernel
theorem dX6_minutesHeld_5 : decode cX6_minutesHeld 5 = .ok (.getfield 16, 3) := by decide +kernel
theorem dX6_minutesHeld_8 : decode cX6_minutesHeld 8 = .ok (.iload_n 1, 1) := by decide +kernel
theorem dX6_minutesHeld_9 : decode cX6_minutesHeld 9 = .ok (.putfield 128, 3) := by decide +kernel
theorem dX6_minutesHeld_12 : decode cX6_minutesHeld 12 = .ok (.iconst 0, 1) := by decide +kernel
theorem dX6_minutesHeld_13 : decode cX6_minutesHeld 13 = .ok (.istore_n 2, 1) := by decide +kernel
theorem dX6_minutesHeld_14 : decode cX6_minutesHeld 14 = .ok (.iload_n 2, 1) := by decide +kernel
theorem dX6_minutesHeld_15 : decode cX6_minutesHeld 15 = .ok (.sipush 240, 3) := by decide +kernel
theorem dX6_minutesHeld_18 : decode cX6_minutesHeld 18 = .ok (.if_icmp .ge 42, 3) := by decide +kernel
theorem dX6_minutesHeld_21 : decode cX6_minutesHeld 21 = .ok (.aload_n 0, 1) := by decide +kernel
theorem dX6_minutesHeld_22 : decode cX6_minutesHeld 22 = .ok (.getfield 16, 3) := by decide +kernel
theorem dX6_minutesHeld_25 : decode cX6_minutesHeld 25 = .ok (.invokevirtual 216, 3) := by decide +kernel
theorem dX6_minutesHeld_28 : decode cX6_minutesHeld 28 = .ok (.pop, 1) := by decide +kernel
theorem dX6_minutesHeld_29 : decode cX6_minutesHeld 29 = .ok (.aload_n 0, 1) := by decide +kernel
theorem dX6_minutesHeld_30 : decode cX6_minutesHeld 30 = .ok (.getfield 16, 3) := by decide +kernel
theorem dX6_minutesHeld_33 : decode cX6_minutesHeld 33 = .ok (.dup, 1) := by decide +kernel
theorem dX6_minutesHeld_34 : decode cX6_minutesHeld 34 = .ok (.getfield 107, 3) := by decide +kernel
theorem dX6_minutesHeld_37 : decode cX6_minutesHeld 37 = .ok (.iconst 1, 1) := by decide +kernel
theorem dX6_minutesHeld_38 : decode cX6_minutesHeld 38 = .ok (.iadd, 1) := by decide +kernel
theorem dX6_minutesHeld_39 : decode cX6_minutesHeld 39 = .ok (.putfield 107, 3) := by decide +kernel
theorem dX6_minutesHeld_42 : decode cX6_minutesHeld 42 = .ok (.aload_n 0, 1) := by decide +kernel
theorem dX6_minutesHeld_43 : decode cX6_minutesHeld 43 = .ok (.getfield 16, 3) := by decide +kernel
theorem dX6_minutesHeld_46 : decode cX6_minutesHeld 46 = .ok (.invokevirtual 219, 3) := by decide +kernel
theorem dX6_minutesHeld_49 : decode cX6_minutesHeld 49 = .ok (.ifCond .eq 5, 3) := by decide +kernel
theorem dX6_minutesHeld_52 : decode cX6_minutesHeld 52 = .ok (.iload_n 2, 1) := by decide +kernel
theorem dX6_minutesHeld_53 : decode cX6_minutesHeld 53 = .ok (.ireturn, 1) := by decide +kernel
theorem dX6_minutesHeld_54 : decode cX6_minutesHeld 54 = .ok (.iinc 2 1, 3) := by decide +kernel
theorem dX6_minutesHeld_57 : decode cX6_minutesHeld 57 = .ok (.goto (-43), 3) := by decide +kernel
theorem dX6_minutesHeld_60 : decode cX6_minutesHeld 60 = .ok (.sipush 240, 3) := by decide +kernel
theorem dX6_minutesHeld_63 : decode cX6_minutesHeld 63 = .ok (.ireturn, 1) := by decide +kernel
theorem dX6_firstUnlike_0 : decode cX6_firstUnlike 0 = .ok (.iconst 0, 1) := by decide +kernel
theorem dX6_firstUnlike_1 : decode cX6_firstUnlike 1 = .ok (.istore_n 1, 1) := by decide +kernel
theorem dX6_firstUnlike_2 : decode cX6_firstUnlike 2 = .ok (.iload_n 1, 1) := by decide +kernel
theorem dX6_firstUnlike_3 : decode cX6_firstUnlike 3 = .ok (.aload_n 0, 1) := by decide +kernel
theorem dX6_firstUnlike_4 : decode cX6_firstUnlike 4 = .ok (.getfield 150, 3) := by decide +kernel
theorem dX6_firstUnlike_7 : decode cX6_firstUnlike 7 = .ok (.if_icmp .ge 58, 3) := by decide +kernel
theorem dX6_firstUnlike_10 : decode cX6_firstUnlike 10 = .ok (.iload_n 1, 1) := by decide +kernel
theorem dX6_firstUnlike_11 : decode cX6_firstUnlike 11 = .ok (.aload_n 0, 1) := by decide +kernel
theorem dX6_firstUnlike_12 : decode cX6_firstUnlike 12 = .ok (.getfield 36, 3) := by decide +kernel
theorem dX6_firstUnlike_15 : decode cX6_firstUnlike 15 = .ok (.arraylength, 1) := by decide +kernel
theorem dX6_firstUnlike_16 : decode cX6_firstUnlike 16 = .ok (.if_icmp .ge 49, 3) := by decide +kernel
theorem dX6_firstUnlike_19 : decode cX6_firstUnlike 19 = .ok (.aload_n 0, 1) := by decide +kernel
theorem dX6_firstUnlike_20 : decode cX6_firstUnlike 20 = .ok (.getfield 16, 3) := by decide +kernel
theorem dX6_firstUnlike_23 : decode cX6_firstUnlike 23 = .ok (.iconst 1, 1) := by decide +kernel
theorem dX6_firstUnlike_24 : decode cX6_firstUnlike 24 = .ok (.iconst 1, 1) := by decide +kernel
theorem dX6_firstUnlike_25 : decode cX6_firstUnlike 25 = .ok (.aload_n 0, 1) := by decide +kernel
theorem dX6_firstUnlike_26 : decode cX6_firstUnlike 26 = .ok (.getfield 25, 3) := by decide +kernel
theorem dX6_firstUnlike_29 : decode cX6_firstUnlike 29 = .ok (.invokevirtual 113, 3) := by decide +kernel
theorem dX6_firstUnlike_32 : decode cX6_firstUnlike 32 = .ok (.aload_n 0, 1) := by decide +kernel
theorem dX6_firstUnlike_33 : decode cX6_firstUnlike 33 = .ok (.getfield 16, 3) := by decide +kernel
theorem dX6_firstUnlike_36 : decode cX6_firstUnlike 36 = .ok (.getfield 128, 3) := by decide +kernel
theorem dX6_firstUnlike_39 : decode cX6_firstUnlike 39 = .ok (.bipush 50, 2) := by decide +kernel
theorem dX6_firstUnlike_41 : decode cX6_firstUnlike 41 = .ok (.iadd, 1) := by decide +kernel
theorem dX6_firstUnlike_42 : decode cX6_firstUnlike 42 = .ok (.iconst 0, 1) := by decide +kernel
theorem dX6_firstUnlike_43 : decode cX6_firstUnlike 43 = .ok (.bipush 99, 2) := by decide +kernel
theorem dX6_firstUnlike_45 : decode cX6_firstUnlike 45 = .ok (.invokestatic 223, 3) := by decide +kernel
theorem dX6_firstUnlike_48 : decode cX6_firstUnlike 48 = .ok (.aload_n 0, 1) := by decide +kernel
theorem dX6_firstUnlike_49 : decode cX6_firstUnlike 49 = .ok (.getfield 36, 3) := by decide +kernel
theorem dX6_firstUnlike_52 : decode cX6_firstUnlike 52 = .ok (.iload_n 1, 1) := by decide +kernel
theorem dX6_firstUnlike_53 : decode cX6_firstUnlike 53 = .ok (.iaload, 1) := by decide +kernel
theorem dX6_firstUnlike_54 : decode cX6_firstUnlike 54 = .ok (.if_icmp .eq 5, 3) := by decide +kernel
theorem dX6_firstUnlike_57 : decode cX6_firstUnlike 57 = .ok (.iload_n 1, 1) := by decide +kernel
theorem dX6_firstUnlike_58 : decode cX6_firstUnlike 58 = .ok (.ireturn, 1) := by decide +kernel
theorem dX6_firstUnlike_59 : decode cX6_firstUnlike 59 = .ok (.iinc 1 1, 3) := by decide +kernel
theorem dX6_firstUnlike_62 : decode cX6_firstUnlike 62 = .ok (.goto (-60), 3) := by decide +kernel
theorem dX6_firstUnlike_65 : decode cX6_firstUnlike 65 = .ok (.bipush (-9), 2) := by decide +kernel
theorem dX6_firstUnlike_67 : decode cX6_firstUnlike 67 = .ok (.ireturn, 1) := by decide +kernel
theorem dX6_rulesKept_0 : decode cX6_rulesKept 0 = .ok (.iconst 0, 1) := by decide +kernel
theorem dX6_rulesKept_1 : decode cX6_rulesKept 1 = .ok (.istore_n 1, 1) := by decide +kernel
theorem dX6_rulesKept_2 : decode cX6_rulesKept 2 = .ok (.iconst 0, 1) := by decide +kernel
theorem dX6_rulesKept_3 : decode cX6_rulesKept 3 = .ok (.istore_n 2, 1) := by decide +kernel
theorem dX6_rulesKept_4 : decode cX6_rulesKept 4 = .ok (.iload_n 2, 1) := by decide +kernel
theorem dX6_rulesKept_5 : decode cX6_rulesKept 5 = .ok (.iconst 5, 1) := by decide +kernel
theorem dX6_rulesKept_6 : decode cX6_rulesKept 6 = .ok (.if_icmp .ge 39, 3) := by decide +kernel
theorem dX6_rulesKept_9 : decode cX6_rulesKept 9 = .ok (.aload_n 0, 1) := by decide +kernel
theorem dX6_rulesKept_10 : decode cX6_rulesKept 10 = .ok (.invokevirtual 120, 3) := by decide +kernel
theorem dX6_rulesKept_13 : decode cX6_rulesKept 13 = .ok (.aload_n 0, 1) := by decide +kernel
theorem dX6_rulesKept_14 : decode cX6_rulesKept 14 = .ok (.getfield 16, 3) := by decide +kernel
theorem dX6_rulesKept_17 : decode cX6_rulesKept 17 = .ok (.getfield 176, 3) := by decide +kernel
theorem dX6_rulesKept_20 : decode cX6_rulesKept 20 = .ok (.iload_n 2, 1) := by decide +kernel
theorem dX6_rulesKept_21 : decode cX6_rulesKept 21 = .ok (.putfield 180, 3) := by decide +kernel
theorem dX6_rulesKept_24 : decode cX6_rulesKept 24 = .ok (.aload_n 0, 1) := by decide +kernel
theorem dX6_rulesKept_25 : decode cX6_rulesKept 25 = .ok (.invokevirtual 159, 3) := by decide +kernel
theorem dX6_rulesKept_28 : decode cX6_rulesKept 28 = .ok (.bipush (-9), 2) := by decide +kernel
theorem dX6_rulesKept_30 : decode cX6_rulesKept 30 = .ok (.if_icmp .ne 9, 3) := by decide +kernel
theorem dX6_rulesKept_33 : decode cX6_rulesKept 33 = .ok (.iload_n 1, 1) := by decide +kernel
theorem dX6_rulesKept_34 : decode cX6_rulesKept 34 = .ok (.iconst 1, 1) := by decide +kernel
theorem dX6_rulesKept_35 : decode cX6_rulesKept 35 = .ok (.iload_n 2, 1) := by decide +kernel
theorem dX6_rulesKept_36 : decode cX6_rulesKept 36 = .ok (.ishl, 1) := by decide +kernel
theorem dX6_rulesKept_37 : decode cX6_rulesKept 37 = .ok (.ior, 1) := by decide +kernel
theorem dX6_rulesKept_38 : decode cX6_rulesKept 38 = .ok (.istore_n 1, 1) := by decide +kernel
theorem dX6_rulesKept_39 : decode cX6_rulesKept 39 = .ok (.iinc 2 1, 3) := by decide +kernel
theorem dX6_rulesKept_42 : decode cX6_rulesKept 42 = .ok (.goto (-38), 3) := by decide +kernel
theorem dX6_rulesKept_45 : decode cX6_rulesKept 45 = .ok (.iload_n 1, 1) := by decide +kernel
theorem dX6_rulesKept_46 : decode cX6_rulesKept 46 = .ok (.ireturn, 1) := by decide +kernel
theorem dX6_limitsKept_0 : decode cX6_limitsKept 0 = .ok (.iconst 0, 1) := by decide +kernel
theorem dX6_limitsKept_1 : decode cX6_limitsKept 1 = .ok (.istore_n 1, 1) := by decide +kernel
theorem dX6_limitsKept_2 : decode cX6_limitsKept 2 = .ok (.getstatic 88, 3) := by decide +kernel
theorem dX6_limitsKept_5 : decode cX6_limitsKept 5 = .ok (.iconst 4, 1) := by decide +kernel
theorem dX6_limitsKept_6 : decode cX6_limitsKept 6 = .ok (.iaload, 1) := by decide +kernel
theorem dX6_limitsKept_7 : decode cX6_limitsKept 7 = .ok (.istore_n 2, 1) := by decide +kernel
theorem dX6_limitsKept_8 : decode cX6_limitsKept 8 = .ok (.iload_n 2, 1) := by decide +kernel
theorem dX6_limitsKept_9 : decode cX6_limitsKept 9 = .ok (.getstatic 91, 3) := by decide +kernel
theorem dX6_limitsKept_12 : decode cX6_limitsKept 12 = .ok (.iconst 4, 1) := by decide +kernel
theorem dX6_limitsKept_13 : decode cX6_limitsKept 13 = .ok (.iaload, 1) := by decide +kernel
theorem dX6_limitsKept_14 : decode cX6_limitsKept 14 = .ok (.if_icmp .gt 36, 3) := by decide +kernel
theorem dX6_limitsKept_17 : decode cX6_limitsKept 17 = .ok (.aload_n 0, 1) := by decide +kernel
theorem dX6_limitsKept_18 : decode cX6_limitsKept 18 = .ok (.invokevirtual 120, 3) := by decide +kernel
theorem dX6_limitsKept_21 : decode cX6_limitsKept 21 = .ok (.aload_n 0, 1) := by decide +kernel
theorem dX6_limitsKept_22 : decode cX6_limitsKept 22 = .ok (.getfield 16, 3) := by decide +kernel
theorem dX6_limitsKept_25 : decode cX6_limitsKept 25 = .ok (.getfield 176, 3) := by decide +kernel
theorem dX6_limitsKept_28 : decode cX6_limitsKept 28 = .ok (.iload_n 2, 1) := by decide +kernel
theorem dX6_limitsKept_29 : decode cX6_limitsKept 29 = .ok (.putfield 183, 3) := by decide +kernel
theorem dX6_limitsKept_32 : decode cX6_limitsKept 32 = .ok (.aload_n 0, 1) := by decide +kernel
theorem dX6_limitsKept_33 : decode cX6_limitsKept 33 = .ok (.invokevirtual 159, 3) := by decide +kernel
theorem dX6_limitsKept_36 : decode cX6_limitsKept 36 = .ok (.bipush (-9), 2) := by decide +kernel
theorem dX6_limitsKept_38 : decode cX6_limitsKept 38 = .ok (.if_icmp .ne 6, 3) := by decide +kernel
theorem dX6_limitsKept_41 : decode cX6_limitsKept 41 = .ok (.iinc 1 1, 3) := by decide +kernel
theorem dX6_limitsKept_44 : decode cX6_limitsKept 44 = .ok (.iinc 2 1, 3) := by decide +kernel
theorem dX6_limitsKept_47 : decode cX6_limitsKept 47 = .ok (.goto (-39), 3) := by decide +kernel
theorem dX6_limitsKept_50 : decode cX6_limitsKept 50 = .ok (.iload_n 1, 1) := by decide +kernel
theorem dX6_limitsKept_51 : decode cX6_limitsKept 51 = .ok (.ireturn, 1) := by decide +kernel
theorem dX6_held_0 : decode cX6_held 0 = .ok (.iload_n 1, 1) := by decide +kernel
theorem dX6_held_1 : decode cX6_held 1 = .ok (.iload_n 2, 1) := by decide +kernel
theorem dX6_held_2 : decode cX6_held 2 = .ok (.iload_n 0, 1) := by decide +kernel
theorem dX6_held_3 : decode cX6_held 3 = .ok (.invokestatic 226, 3) := by decide +kernel
theorem dX6_held_6 : decode cX6_held 6 = .ok (.invokestatic 231, 3) := by decide +kernel
theorem dX6_held_9 : decode cX6_held 9 = .ok (.ireturn, 1) := by decide +kernel
theorem dX7_init_0 : decode cX7_init 0 = .ok (.aload_n 0, 1) := by decide +kernel
theorem dX7_init_1 : decode cX7_init 1 = .ok (.invokespecial 1, 3) := by decide +kernel
theorem dX7_init_4 : decode cX7_init 4 = .ok (.aload_n 0, 1) := by decide +kernel
theorem dX7_init_5 : decode cX7_init 5 = .ok (.bipush 7, 2) := by decide +kernel
theorem dX7_init_7 : decode cX7_init 7 = .ok (.newarray .int, 2) := by decide +kernel
theorem dX7_init_9 : decode cX7_init 9 = .ok (.putfield 7, 3) := by decide +kernel
theorem dX7_init_12 : decode cX7_init 12 = .ok (.aload_n 0, 1) := by decide +kernel
theorem dX7_init_13 : decode cX7_init 13 = .ok (.bipush 6, 2) := by decide +kernel
theorem dX7_init_15 : decode cX7_init 15 = .ok (.newarray .int, 2) := by decide +kernel
theorem dX7_init_17 : decode cX7_init 17 = .ok (.putfield 13, 3) := by decide +kernel
theorem dX7_init_20 : decode cX7_init 20 = .ok (.aload_n 0, 1) := by decide +kernel
theorem dX7_init_21 : decode cX7_init 21 = .ok (.iconst 5, 1) := by decide +kernel
theorem dX7_init_22 : decode cX7_init 22 = .ok (.newarray .int, 2) := by decide +kernel
theorem dX7_init_24 : decode cX7_init 24 = .ok (.putfield 16, 3) := by decide +kernel
theorem dX7_init_27 : decode cX7_init 27 = .ok (.aload_n 0, 1) := by decide +kernel
theorem dX7_init_28 : decode cX7_init 28 = .ok (.iconst 5, 1) := by decide +kernel
theorem dX7_init_29 : decode cX7_init 29 = .ok (.newarray .int, 2) := by decide +kernel
theorem dX7_init_31 : decode cX7_init 31 = .ok (.putfield 19, 3) := by decide +kernel
theorem dX7_init_34 : decode cX7_init 34 = .ok (.aload_n 0, 1) := by decide +kernel
theorem dX7_init_35 : decode cX7_init 35 = .ok (.iconst 5, 1) := by decide +kernel
theorem dX7_init_36 : decode cX7_init 36 = .ok (.newarray .int, 2) := by decide +kernel
theorem dX7_init_38 : decode cX7_init 38 = .ok (.putfield 22, 3) := by decide +kernel
theorem dX7_init_41 : decode cX7_init 41 = .ok (.aload_n 0, 1) := by decide +kernel
theorem dX7_init_42 : decode cX7_init 42 = .ok (.iconst 5, 1) := by decide +kernel
theorem dX7_init_43 : decode cX7_init 43 = .ok (.newarray .int, 2) := by decide +kernel
theorem dX7_init_45 : decode cX7_init 45 = .ok (.putfield 25, 3) := by decide +kernel
theorem dX7_init_48 : decode cX7_init 48 = .ok (.aload_n 0, 1) := by decide +kernel
theorem dX7_init_49 : decode cX7_init 49 = .ok (.iconst 5, 1) := by decide +kernel
theorem dX7_init_50 : decode cX7_init 50 = .ok (.newarray .int, 2) := by decide +kernel
theorem dX7_init_52 : decode cX7_init 52 = .ok (.putfield 28, 3) := by decide +kernel
theorem dX7_init_55 : decode cX7_init 55 = .ok (.aload_n 0, 1) := by decide +kernel
theorem dX7_init_56 : decode cX7_init 56 = .ok (.iconst 5, 1) := by decide +kernel
theorem dX7_init_57 : decode cX7_init 57 = .ok (.newarray .int, 2) := by decide +kernel
theorem dX7_init_59 : decode cX7_init 59 = .ok (.putfield 31, 3) := by decide +kernel
theorem dX7_init_62 : decode cX7_init 62 = .ok (.aload_n 0, 1) := by decide +kernel
theorem dX7_init_63 : decode cX7_init 63 = .ok (.bipush 96, 2) := by decide +kernel
theorem dX7_init_65 : decode cX7_init 65 = .ok (.newarray .int, 2) := by decide +kernel
theorem dX7_init_67 : decode cX7_init 67 = .ok (.putfield 34, 3) := by decide +kernel
theorem dX7_init_70 : decode cX7_init 70 = .ok (.aload_n 0, 1) := by decide +kernel
theorem dX7_init_71 : decode cX7_init 71 = .ok (.bipush 48, 2) := by decide +kernel
theorem dX7_init_73 : decode cX7_init 73 = .ok (.newarray .int, 2) := by decide +kernel
theorem dX7_init_75 : decode cX7_init 75 = .ok (.putfield 37, 3) := by decide +kernel
theorem dX7_init_78 : decode cX7_init 78 = .ok (.aload_n 0, 1) := by decide +kernel
theorem dX7_init_79 : decode cX7_init 79 = .ok (.bipush 48, 2) := by decide +kernel
theorem dX7_init_81 : decode cX7_init 81 = .ok (.newarray .int, 2) := by decide +kernel
theorem dX7_init_83 : decode cX7_init 83 = .ok (.putfield 40, 3) := by decide +kernel
theorem dX7_init_86 : decode cX7_init 86 = .ok (.aload_n 0, 1) := by decide +kernel
theorem dX7_init_87 : decode cX7_init 87 = .ok (.sipush 288, 3) := by decide +kernel
theorem dX7_init_90 : decode cX7_init 90 = .ok (.newarray .int, 2) := by decide +kernel
theorem dX7_init_92 : decode cX7_init 92 = .ok (.putfield 43, 3) := by decide +kernel
theorem dX7_init_95 : decode cX7_init 95 = .ok (.aload_n 0, 1) := by decide +kernel
theorem dX7_init_96 : decode cX7_init 96 = .ok (.sipush 150, 3) := by decide +kernel
theorem dX7_init_99 : decode cX7_init 99 = .ok (.newarray .int, 2) := by decide +kernel
theorem dX7_init_101 : decode cX7_init 101 = .ok (.putfield 46, 3) := by decide +kernel
theorem dX7_init_104 : decode cX7_init 104 = .ok (.aload_n 0, 1) := by decide +kernel
theorem dX7_init_105 : decode cX7_init 105 = .ok (.iconst 5, 1) := by decide +kernel
theorem dX7_init_106 : decode cX7_init 106 = .ok (.newarray .int, 2) := by decide +kernel
theorem dX7_init_108 : decode cX7_init 108 = .ok (.putfield 49, 3) := by decide +kernel
theorem dX7_init_111 : decode cX7_init 111 = .ok (.aload_n 0, 1) := by decide +kernel
theorem dX7_init_112 : decode cX7_init 112 = .ok (.iconst 5, 1) := by decide +kernel
theorem dX7_init_113 : decode cX7_init 113 = .ok (.newarray .int, 2) := by decide +kernel
theorem dX7_init_115 : decode cX7_init 115 = .ok (.putfield 52, 3) := by decide +kernel
theorem dX7_init_118 : decode cX7_init 118 = .ok (.aload_n 0, 1) := by decide +kernel
theorem dX7_init_119 : decode cX7_init 119 = .ok (.sipush 240, 3) := by decide +kernel
theorem dX7_init_122 : decode cX7_init 122 = .ok (.newarray .int, 2) := by decide +kernel
theorem dX7_init_124 : decode cX7_init 124 = .ok (.putfield 55, 3) := by decide +kernel
theorem dX7_init_127 : decode cX7_init 127 = .ok (.aload_n 0, 1) := by decide +kernel
theorem dX7_init_128 : decode cX7_init 128 = .ok (.sipush 240, 3) := by decide +kernel
theorem dX7_init_131 : decode cX7_init 131 = .ok (.newarray .int, 2) := by decide +kernel
theorem dX7_init_133 : decode cX7_init 133 = .ok (.putfield 58, 3) := by decide +kernel
theorem dX7_init_136 : decode cX7_init 136 = .ok (.aload_n 0, 1) := by decide +kernel
theorem dX7_init_137 : decode cX7_init 137 = .ok (.bipush 12, 2) := by decide +kernel
theorem dX7_init_139 : decode cX7_init 139 = .ok (.newarray .int, 2) := by decide +kernel
theorem dX7_init_141 : decode cX7_init 141 = .ok (.putfield 61, 3) := by decide +kernel
theorem dX7_init_144 : decode cX7_init 144 = .ok (.aload_n 0, 1) := by decide +kernel
theorem dX7_init_145 : decode cX7_init 145 = .ok (.getfield 13, 3) := by decide +kernel
theorem dX7_init_148 : decode cX7_init 148 = .ok (.iconst 2, 1) := by decide +kernel
theorem dX7_init_149 : decode cX7_init 149 = .ok (.bipush 6, 2) := by decide +kernel
theorem dX7_init_151 : decode cX7_init 151 = .ok (.iastore, 1) := by decide +kernel
theorem dX7_init_152 : decode cX7_init 152 = .ok (.aload_n 0, 1) := by decide +kernel
theorem dX7_init_153 : decode cX7_init 153 = .ok (.getfield 13, 3) := by decide +kernel
theorem dX7_init_156 : decode cX7_init 156 = .ok (.iconst 3, 1) := by decide +kernel
theorem dX7_init_157 : decode cX7_init 157 = .ok (.iconst 1, 1) := by decide +kernel
theorem dX7_init_158 : decode cX7_init 158 = .ok (.iastore, 1) := by decide +kernel
theorem dX7_init_159 : decode cX7_init 159 = .ok (.aload_n 0, 1) := by decide +kernel
theorem dX7_init_160 : decode cX7_init 160 = .ok (.getfield 13, 3) := by decide +kernel
theorem dX7_init_163 : decode cX7_init 163 = .ok (.iconst 4, 1) := by decide +kernel
theorem dX7_init_164 : decode cX7_init 164 = .ok (.iconst 3, 1) := by decide +kernel
theorem dX7_init_165 : decode cX7_init 165 = .ok (.iastore, 1) := by decide +kernel
theorem dX7_init_166 : decode cX7_init 166 = .ok (.aload_n 0, 1) := by decide +kernel
theorem dX7_init_167 : decode cX7_init 167 = .ok (.getfield 13, 3) := by decide +kernel
theorem dX7_init_170 : decode cX7_init 170 = .ok (.iconst 5, 1) := by decide +kernel
theorem dX7_init_171 : decode cX7_init 171 = .ok (.iconst 2, 1) := by decide +kernel
theorem dX7_init_172 : decode cX7_init 172 = .ok (.iastore, 1) := by decide +kernel
theorem dX7_init_173 : decode cX7_init 173 = .ok (.return_, 1) := by decide +kernel
theorem dX7_no_0 : decode cX7_no 0 = .ok (.aload_n 0, 1) := by decide +kernel
theorem dX7_no_1 : decode cX7_no 1 = .ok (.getfield 7, 3) := by decide +kernel
theorem dX7_no_4 : decode cX7_no 4 = .ok (.iload_n 1, 1) := by decide +kernel
theorem dX7_no_5 : decode cX7_no 5 = .ok (.ineg, 1) := by decide +kernel
theorem dX7_no_6 : decode cX7_no 6 = .ok (.dup2, 1) := by decide +kernel
theorem dX7_no_7 : decode cX7_no 7 = .ok (.iaload, 1) := by decide +kernel
theorem dX7_no_8 : decode cX7_no 8 = .ok (.iconst 1, 1) := by decide +kernel
theorem dX7_no_9 : decode cX7_no 9 = .ok (.iadd, 1) := by decide +kernel
theorem dX7_no_10 : decode cX7_no 10 = .ok (.iastore, 1) := by decide +kernel
theorem dX7_no_11 : decode cX7_no 11 = .ok (.iload_n 1, 1) := by decide +kernel
theorem dX7_no_12 : decode cX7_no 12 = .ok (.ireturn, 1) := by decide +kernel
theorem dX7_lower_0 : decode cX7_lower 0 = .ok (.aload_n 0, 1) := by decide +kernel
theorem dX7_lower_1 : decode cX7_lower 1 = .ok (.getfield 7, 3) := by decide +kernel
theorem dX7_lower_4 : decode cX7_lower 4 = .ok (.iload_n 1, 1) := by decide +kernel
theorem dX7_lower_5 : decode cX7_lower 5 = .ok (.ineg, 1) := by decide +kernel
theorem dX7_lower_6 : decode cX7_lower 6 = .ok (.dup2, 1) := by decide +kernel
theorem dX7_lower_7 : decode cX7_lower 7 = .ok (.iaload, 1) := by decide +kernel
theorem dX7_lower_8 : decode cX7_lower 8 = .ok (.iconst 1, 1) := by decide +kernel
theorem dX7_lower_9 : decode cX7_lower 9 = .ok (.iadd, 1) := by decide +kernel
theorem dX7_lower_10 : decode cX7_lower 10 = .ok (.iastore, 1) := by decide +kernel
theorem dX7_lower_11 : decode cX7_lower 11 = .ok (.ldc 64, 2) := by decide +kernel
theorem dX7_lower_13 : decode cX7_lower 13 = .ok (.iload_n 1, 1) := by decide +kernel
theorem dX7_lower_14 : decode cX7_lower 14 = .ok (.isub, 1) := by decide +kernel
theorem dX7_lower_15 : decode cX7_lower 15 = .ok (.ireturn, 1) := by decide +kernel
theorem dX7_isIn_0 : decode cX7_isIn 0 = .ok (.iload_n 0, 1) := by decide +kernel
theorem dX7_isIn_1 : decode cX7_isIn 1 = .ok (.iload_n 1, 1) := by decide +kernel
theorem dX7_isIn_2 : decode cX7_isIn 2 = .ok (.if_icmp .lt 12, 3) := by decide +kernel
theorem dX7_isIn_5 : decode cX7_isIn 5 = .ok (.iload_n 0, 1) := by decide +kernel
theorem dX7_isIn_6 : decode cX7_isIn 6 = .ok (.iload_n 2, 1) := by decide +kernel
theorem dX7_isIn_7 : decode cX7_isIn 7 = .ok (.if_icmp .gt 7, 3) := by decide +kernel
theorem dX7_isIn_10 : decode cX7_isIn 10 = .ok (.iconst 1, 1) := by decide +kernel
theorem dX7_isIn_11 : decode cX7_isIn 11 = .ok (.goto 4, 3) := by decide +kernel
theorem dX7_isIn_14 : decode cX7_isIn 14 = .ok (.iconst 0, 1) := by decide +kernel
theorem dX7_isIn_15 : decode cX7_isIn 15 = .ok (.ireturn, 1) := by decide +kernel
theorem dX7_bound_0 : decode cX7_bound 0 = .ok (.iload_n 0, 1) := by decide +kernel
theorem dX7_bound_1 : decode cX7_bound 1 = .ok (.iload_n 1, 1) := by decide +kernel
theorem dX7_bound_2 : decode cX7_bound 2 = .ok (.if_icmp .ge 8, 3) := by decide +kernel
theorem dX7_bound_5 : decode cX7_bound 5 = .ok (.bipush (-4), 2) := by decide +kernel
theorem dX7_bound_7 : decode cX7_bound 7 = .ok (.goto 14, 3) := by decide +kernel
theorem dX7_bound_10 : decode cX7_bound 10 = .ok (.iload_n 0, 1) := by decide +kernel
theorem dX7_bound_11 : decode cX7_bound 11 = .ok (.iload_n 2, 1) := by decide +kernel
theorem dX7_bound_12 : decode cX7_bound 12 = .ok (.if_icmp .le 8, 3) := by decide +kernel
theorem dX7_bound_15 : decode cX7_bound 15 = .ok (.bipush (-6), 2) := by decide +kernel
theorem dX7_bound_17 : decode cX7_bound 17 = .ok (.goto 4, 3) := by decide +kernel
theorem dX7_bound_20 : decode cX7_bound 20 = .ok (.iconst 0, 1) := by decide +kernel
theorem dX7_bound_21 : decode cX7_bound 21 = .ok (.ireturn, 1) := by decide +kernel
theorem dX7_size_0 : decode cX7_size 0 = .ok (.iload_n 0, 1) := by decide +kernel
theorem dX7_size_1 : decode cX7_size 1 = .ok (.ifCond .ge 8, 3) := by decide +kernel
theorem dX7_size_4 : decode cX7_size 4 = .ok (.iload_n 0, 1) := by decide +kernel
theorem dX7_size_5 : decode cX7_size 5 = .ok (.ineg, 1) := by decide +kernel
theorem dX7_size_6 : decode cX7_size 6 = .ok (.goto 4, 3) := by decide +kernel
theorem dX7_size_9 : decode cX7_size 9 = .ok (.iload_n 0, 1) := by decide +kernel
theorem dX7_size_10 : decode cX7_size 10 = .ok (.ireturn, 1) := by decide +kernel
theorem dX7_isPerson_0 : decode cX7_isPerson 0 = .ok (.iload_n 1, 1) := by decide +kernel
theorem dX7_isPerson_1 : decode cX7_isPerson 1 = .ok (.ifCond .lt 15, 3) := by decide +kernel
theorem dX7_isPerson_4 : decode cX7_isPerson 4 = .ok (.iload_n 1, 1) := by decide +kernel
theorem dX7_isPerson_5 : decode cX7_isPerson 5 = .ok (.aload_n 0, 1) := by decide +kernel
theorem dX7_isPerson_6 : decode cX7_isPerson 6 = .ok (.getfield 65, 3) := by decide +kernel
theorem dX7_isPerson_9 : decode cX7_isPerson 9 = .ok (.if_icmp .ge 7, 3) := by decide +kernel
theorem dX7_isPerson_12 : decode cX7_isPerson 12 = .ok (.iconst 1, 1) := by decide +kernel
theorem dX7_isPerson_13 : decode cX7_isPerson 13 = .ok (.goto 4, 3) := by decide +kernel
theorem dX7_isPerson_16 : decode cX7_isPerson 16 = .ok (.iconst 0, 1) := by decide +kernel
theorem dX7_isPerson_17 : decode cX7_isPerson 17 = .ok (.ireturn, 1) := by decide +kernel
theorem dX7_leastOf_0 : decode cX7_leastOf 0 = .ok (.iload_n 0, 1) := by decide +kernel
theorem dX7_leastOf_1 : decode cX7_leastOf 1 = .ok (.ifCond .ne 8, 3) := by decide +kernel
theorem dX7_leastOf_4 : decode cX7_leastOf 4 = .ok (.bipush (-99), 2) := by decide +kernel
theorem dX7_leastOf_6 : decode cX7_leastOf 6 = .ok (.goto 33, 3) := by decide +kernel
theorem dX7_leastOf_9 : decode cX7_leastOf 9 = .ok (.iload_n 0, 1) := by decide +kernel
theorem dX7_leastOf_10 : decode cX7_leastOf 10 = .ok (.iconst 3, 1) := by decide +kernel
theorem dX7_leastOf_11 : decode cX7_leastOf 11 = .ok (.if_icmp .ge 8, 3) := by decide +kernel
theorem dX7_leastOf_14 : decode cX7_leastOf 14 = .ok (.bipush (-20), 2) := by decide +kernel
theorem dX7_leastOf_16 : decode cX7_leastOf 16 = .ok (.goto 23, 3) := by decide +kernel
theorem dX7_leastOf_19 : decode cX7_leastOf 19 = .ok (.iload_n 0, 1) := by decide +kernel
theorem dX7_leastOf_20 : decode cX7_leastOf 20 = .ok (.iconst 3, 1) := by decide +kernel
theorem dX7_leastOf_21 : decode cX7_leastOf 21 = .ok (.if_icmp .ne 8, 3) := by decide +kernel
theorem dX7_leastOf_24 : decode cX7_leastOf 24 = .ok (.bipush (-9), 2) := by decide +kernel
theorem dX7_leastOf_26 : decode cX7_leastOf 26 = .ok (.goto 13, 3) := by decide +kernel
theorem dX7_leastOf_29 : decode cX7_leastOf 29 = .ok (.iload_n 0, 1) := by decide +kernel
theorem dX7_leastOf_30 : decode cX7_leastOf 30 = .ok (.iconst 4, 1) := by decide +kernel
theorem dX7_leastOf_31 : decode cX7_leastOf 31 = .ok (.if_icmp .ne 7, 3) := by decide +kernel
theorem dX7_leastOf_34 : decode cX7_leastOf 34 = .ok (.iconst 1, 1) := by decide +kernel
theorem dX7_leastOf_35 : decode cX7_leastOf 35 = .ok (.goto 4, 3) := by decide +kernel
theorem dX7_leastOf_38 : decode cX7_leastOf 38 = .ok (.iconst 0, 1) := by decide +kernel
theorem dX7_leastOf_39 : decode cX7_leastOf 39 = .ok (.ireturn, 1) := by decide +kernel
theorem dX7_mostOf_0 : decode cX7_mostOf 0 = .ok (.iload_n 0, 1) := by decide +kernel
theorem dX7_mostOf_1 : decode cX7_mostOf 1 = .ok (.ifCond .ne 8, 3) := by decide +kernel
theorem dX7_mostOf_4 : decode cX7_mostOf 4 = .ok (.bipush 99, 2) := by decide +kernel
theorem dX7_mostOf_6 : decode cX7_mostOf 6 = .ok (.goto 25, 3) := by decide +kernel
theorem dX7_mostOf_9 : decode cX7_mostOf 9 = .ok (.iload_n 0, 1) := by decide +kernel
theorem dX7_mostOf_10 : decode cX7_mostOf 10 = .ok (.iconst 3, 1) := by decide +kernel
theorem dX7_mostOf_11 : decode cX7_mostOf 11 = .ok (.if_icmp .ge 8, 3) := by decide +kernel
theorem dX7_mostOf_14 : decode cX7_mostOf 14 = .ok (.bipush 20, 2) := by decide +kernel
theorem dX7_mostOf_16 : decode cX7_mostOf 16 = .ok (.goto 15, 3) := by decide +kernel
theorem dX7_mostOf_19 : decode cX7_mostOf 19 = .ok (.iload_n 0, 1) := by decide +kernel
theorem dX7_mostOf_20 : decode cX7_mostOf 20 = .ok (.iconst 4, 1) := by decide +kernel
theorem dX7_mostOf_21 : decode cX7_mostOf 21 = .ok (.if_icmp .ne 8, 3) := by decide +kernel
theorem dX7_mostOf_24 : decode cX7_mostOf 24 = .ok (.bipush 20, 2) := by decide +kernel
theorem dX7_mostOf_26 : decode cX7_mostOf 26 = .ok (.goto 5, 3) := by decide +kernel
theorem dX7_mostOf_29 : decode cX7_mostOf 29 = .ok (.bipush 9, 2) := by decide +kernel
theorem dX7_mostOf_31 : decode cX7_mostOf 31 = .ok (.ireturn, 1) := by decide +kernel
theorem dX7_letter_0 : decode cX7_letter 0 = .ok (.iload_n 1, 1) := by decide +kernel
theorem dX7_letter_1 : decode cX7_letter 1 = .ok (.iconst 0, 1) := by decide +kernel
theorem dX7_letter_2 : decode cX7_letter 2 = .ok (.sipush 255, 3) := by decide +kernel
theorem dX7_letter_5 : decode cX7_letter 5 = .ok (.invokestatic 69, 3) := by decide +kernel
theorem dX7_letter_8 : decode cX7_letter 8 = .ok (.istore_n 2, 1) := by decide +kernel
theorem dX7_letter_9 : decode cX7_letter 9 = .ok (.iload_n 2, 1) := by decide +kernel
theorem dX7_letter_10 : decode cX7_letter 10 = .ok (.ifCond .ne 15, 3) := by decide +kernel
theorem dX7_letter_13 : decode cX7_letter 13 = .ok (.aload_n 0, 1) := by decide +kernel
theorem dX7_letter_14 : decode cX7_letter 14 = .ok (.getfield 73, 3) := by decide +kernel
theorem dX7_letter_17 : decode cX7_letter 17 = .ok (.bipush 96, 2) := by decide +kernel
theorem dX7_letter_19 : decode cX7_letter 19 = .ok (.if_icmp .ne 6, 3) := by decide +kernel
theorem dX7_letter_22 : decode cX7_letter 22 = .ok (.bipush (-6), 2) := by decide +kernel
theorem dX7_letter_24 : decode cX7_letter 24 = .ok (.istore_n 2, 1) := by decide +kernel
theorem dX7_letter_25 : decode cX7_letter 25 = .ok (.iload_n 2, 1) := by decide +kernel
theorem dX7_letter_26 : decode cX7_letter 26 = .ok (.ifCond .eq 9, 3) := by decide +kernel
theorem dX7_letter_29 : decode cX7_letter 29 = .ok (.aload_n 0, 1) := by decide +kernel
theorem dX7_letter_30 : decode cX7_letter 30 = .ok (.iload_n 2, 1) := by decide +kernel
theorem dX7_letter_31 : decode cX7_letter 31 = .ok (.invokevirtual 76, 3) := by decide +kernel
theorem dX7_letter_34 : decode cX7_letter 34 = .ok (.ireturn, 1) := by decide +kernel
theorem dX7_letter_35 : decode cX7_letter 35 = .ok (.aload_n 0, 1) := by decide +kernel
theorem dX7_letter_36 : decode cX7_letter 36 = .ok (.getfield 34, 3) := by decide +kernel
theorem dX7_letter_39 : decode cX7_letter 39 = .ok (.aload_n 0, 1) := by decide +kernel
theorem dX7_letter_40 : decode cX7_letter 40 = .ok (.getfield 73, 3) := by decide +kernel
theorem dX7_letter_43 : decode cX7_letter 43 = .ok (.iload_n 1, 1) := by decide +kernel
theorem dX7_letter_44 : decode cX7_letter 44 = .ok (.iastore, 1) := by decide +kernel
theorem dX7_letter_45 : decode cX7_letter 45 = .ok (.aload_n 0, 1) := by decide +kernel
theorem dX7_letter_46 : decode cX7_letter 46 = .ok (.dup, 1) := by decide +kernel
theorem dX7_letter_47 : decode cX7_letter 47 = .ok (.getfield 73, 3) := by decide +kernel
theorem dX7_letter_50 : decode cX7_letter 50 = .ok (.iconst 1, 1) := by decide +kernel
theorem dX7_letter_51 : decode cX7_letter 51 = .ok (.iadd, 1) := by decide +kernel
theorem dX7_letter_52 : decode cX7_letter 52 = .ok (.putfield 73, 3) := by decide +kernel
theorem dX7_letter_55 : decode cX7_letter 55 = .ok (.aload_n 0, 1) := by decide +kernel
theorem dX7_letter_56 : decode cX7_letter 56 = .ok (.getfield 73, 3) := by decide +kernel
theorem dX7_letter_59 : decode cX7_letter 59 = .ok (.ireturn, 1) := by decide +kernel
theorem dX7_next_0 : decode cX7_next 0 = .ok (.aload_n 0, 1) := by decide +kernel
theorem dX7_next_1 : decode cX7_next 1 = .ok (.getfield 80, 3) := by decide +kernel
theorem dX7_next_4 : decode cX7_next 4 = .ok (.aload_n 0, 1) := by decide +kernel
theorem dX7_next_5 : decode cX7_next 5 = .ok (.getfield 73, 3) := by decide +kernel
theorem dX7_next_8 : decode cX7_next 8 = .ok (.if_icmp .ge 15, 3) := by decide +kernel
theorem dX7_next_11 : decode cX7_next 11 = .ok (.aload_n 0, 1) := by decide +kernel
theorem dX7_next_12 : decode cX7_next 12 = .ok (.getfield 34, 3) := by decide +kernel
theorem dX7_next_15 : decode cX7_next 15 = .ok (.aload_n 0, 1) := by decide +kernel
theorem dX7_next_16 : decode cX7_next 16 = .ok (.getfield 80, 3) := by decide +kernel
theorem dX7_next_19 : decode cX7_next 19 = .ok (.iaload, 1) := by decide +kernel
theorem dX7_next_20 : decode cX7_next 20 = .ok (.goto 4, 3) := by decide +kernel
theorem dX7_next_23 : decode cX7_next 23 = .ok (.iconst (-1), 1) := by decide +kernel
theorem dX7_next_24 : decode cX7_next 24 = .ok (.ireturn, 1) := by decide +kernel
theorem dX7_readsDigits_0 : decode cX7_readsDigits 0 = .ok (.iconst 0, 1) := by decide +kernel
theorem dX7_readsDigits_1 : decode cX7_readsDigits 1 = .ok (.istore_n 3, 1) := by decide +kernel
theorem dX7_readsDigits_2 : decode cX7_readsDigits 2 = .ok (.iconst 0, 1) := by decide +kernel
theorem dX7_readsDigits_3 : decode cX7_readsDigits 3 = .ok (.istore 4, 2) := by decide +kernel
theorem dX7_readsDigits_5 : decode cX7_readsDigits 5 = .ok (.iload 4, 2) := by decide +kernel
theorem dX7_readsDigits_7 : decode cX7_readsDigits 7 = .ok (.iload_n 2, 1) := by decide +kernel
theorem dX7_readsDigits_8 : decode cX7_readsDigits 8 = .ok (.if_icmp .ge 48, 3) := by decide +kernel
theorem dX7_readsDigits_11 : decode cX7_readsDigits 11 = .ok (.aload_n 0, 1) := by decide +kernel
theorem dX7_readsDigits_12 : decode cX7_readsDigits 12 = .ok (.invokevirtual 83, 3) := by decide +kernel
theorem dX7_readsDigits_15 : decode cX7_readsDigits 15 = .ok (.bipush 48, 2) := by decide +kernel
theorem dX7_readsDigits_17 : decode cX7_readsDigits 17 = .ok (.bipush 57, 2) := by decide +kernel
theorem dX7_readsDigits_19 : decode cX7_readsDigits 19 = .ok (.invokestatic 87, 3) := by decide +kernel
theorem dX7_readsDigits_22 : decode cX7_readsDigits 22 = .ok (.ifCond .ne 5, 3) := by decide +kernel
theorem dX7_readsDigits_25 : decode cX7_readsDigits 25 = .ok (.iconst 0, 1) := by decide +kernel
theorem dX7_readsDigits_26 : decode cX7_readsDigits 26 = .ok (.ireturn, 1) := by decide +kernel
theorem dX7_readsDigits_27 : decode cX7_readsDigits 27 = .ok (.bipush 10, 2) := by decide +kernel
theorem dX7_readsDigits_29 : decode cX7_readsDigits 29 = .ok (.iload_n 3, 1) := by decide +kernel
theorem dX7_readsDigits_30 : decode cX7_readsDigits 30 = .ok (.imul, 1) := by decide +kernel
theorem dX7_readsDigits_31 : decode cX7_readsDigits 31 = .ok (.aload_n 0, 1) := by decide +kernel
theorem dX7_readsDigits_32 : decode cX7_readsDigits 32 = .ok (.invokevirtual 83, 3) := by decide +kernel
theorem dX7_readsDigits_35 : decode cX7_readsDigits 35 = .ok (.iadd, 1) := by decide +kernel
theorem dX7_readsDigits_36 : decode cX7_readsDigits 36 = .ok (.bipush 48, 2) := by decide +kernel
theorem dX7_readsDigits_38 : decode cX7_readsDigits 38 = .ok (.isub, 1) := by decide +kernel
theorem dX7_readsDigits_39 : decode cX7_readsDigits 39 = .ok (.istore_n 3, 1) := by decide +kernel
theorem dX7_readsDigits_40 : decode cX7_readsDigits 40 = .ok (.aload_n 0, 1) := by decide +kernel
theorem dX7_readsDigits_41 : decode cX7_readsDigits 41 = .ok (.dup, 1) := by decide +kernel
theorem dX7_readsDigits_42 : decode cX7_readsDigits 42 = .ok (.getfield 80, 3) := by decide +kernel
theorem dX7_readsDigits_45 : decode cX7_readsDigits 45 = .ok (.iconst 1, 1) := by decide +kernel
theorem dX7_readsDigits_46 : decode cX7_readsDigits 46 = .ok (.iadd, 1) := by decide +kernel
theorem dX7_readsDigits_47 : decode cX7_readsDigits 47 = .ok (.putfield 80, 3) := by decide +kernel
theorem dX7_readsDigits_50 : decode cX7_readsDigits 50 = .ok (.iinc 4 1, 3) := by decide +kernel
theorem dX7_readsDigits_53 : decode cX7_readsDigits 53 = .ok (.goto (-48), 3) := by decide +kernel
theorem dX7_readsDigits_56 : decode cX7_readsDigits 56 = .ok (.aload_n 0, 1) := by decide +kernel
theorem dX7_readsDigits_57 : decode cX7_readsDigits 57 = .ok (.getfield 43, 3) := by decide +kernel
theorem dX7_readsDigits_60 : decode cX7_readsDigits 60 = .ok (.iload_n 1, 1) := by decide +kernel
theorem dX7_readsDigits_61 : decode cX7_readsDigits 61 = .ok (.iload_n 3, 1) := by decide +kernel
theorem dX7_readsDigits_62 : decode cX7_readsDigits 62 = .ok (.iastore, 1) := by decide +kernel
theorem dX7_readsDigits_63 : decode cX7_readsDigits 63 = .ok (.iconst 1, 1) := by decide +kernel
theorem dX7_readsDigits_64 : decode cX7_readsDigits 64 = .ok (.ireturn, 1) := by decide +kernel
theorem dX7_readsSigned_0 : decode cX7_readsSigned 0 = .ok (.aload_n 0, 1) := by decide +kernel
theorem dX7_readsSigned_1 : decode cX7_readsSigned 1 = .ok (.invokevirtual 83, 3) := by decide +kernel
theorem dX7_readsSigned_4 : decode cX7_readsSigned 4 = .ok (.istore_n 3, 1) := by decide +kernel
theorem dX7_readsSigned_5 : decode cX7_readsSigned 5 = .ok (.iload_n 3, 1) := by decide +kernel
theorem dX7_readsSigned_6 : decode cX7_readsSigned 6 = .ok (.bipush 43, 2) := by decide +kernel
theorem dX7_readsSigned_8 : decode cX7_readsSigned 8 = .ok (.if_icmp .eq 11, 3) := by decide +kernel
theorem dX7_readsSigned_11 : decode cX7_readsSigned 11 = .ok (.iload_n 3, 1) := by decide +kernel
theorem dX7_readsSigned_12 : decode cX7_readsSigned 12 = .ok (.bipush 45, 2) := by decide +kernel
theorem dX7_readsSigned_14 : decode cX7_readsSigned 14 = .ok (.if_icmp .eq 5, 3) := by decide +kernel
theorem dX7_readsSigned_17 : decode cX7_readsSigned 17 = .ok (.iconst 0, 1) := by decide +kernel
theorem dX7_readsSigned_18 : decode cX7_readsSigned 18 = .ok (.ireturn, 1) := by decide +kernel
theorem dX7_readsSigned_19 : decode cX7_readsSigned 19 = .ok (.aload_n 0, 1) := by decide +kernel
theorem dX7_readsSigned_20 : decode cX7_readsSigned 20 = .ok (.dup, 1) := by decide +kernel
theorem dX7_readsSigned_21 : decode cX7_readsSigned 21 = .ok (.getfield 80, 3) := by decide +kernel
theorem dX7_readsSigned_24 : decode cX7_readsSigned 24 = .ok (.iconst 1, 1) := by decide +kernel
theorem dX7_readsSigned_25 : decode cX7_readsSigned 25 = .ok (.iadd, 1) := by decide +kernel
theorem dX7_readsSigned_26 : decode cX7_readsSigned 26 = .ok (.putfield 80, 3) := by decide +kernel
theorem dX7_readsSigned_29 : decode cX7_readsSigned 29 = .ok (.aload_n 0, 1) := by decide +kernel
theorem dX7_readsSigned_30 : decode cX7_readsSigned 30 = .ok (.iload_n 1, 1) := by decide +kernel
theorem dX7_readsSigned_31 : decode cX7_readsSigned 31 = .ok (.iload_n 2, 1) := by decide +kernel
theorem dX7_readsSigned_32 : decode cX7_readsSigned 32 = .ok (.invokevirtual 91, 3) := by decide +kernel
theorem dX7_readsSigned_35 : decode cX7_readsSigned 35 = .ok (.ifCond .ne 5, 3) := by decide +kernel
theorem dX7_readsSigned_38 : decode cX7_readsSigned 38 = .ok (.iconst 0, 1) := by decide +kernel
theorem dX7_readsSigned_39 : decode cX7_readsSigned 39 = .ok (.ireturn, 1) := by decide +kernel
theorem dX7_readsSigned_40 : decode cX7_readsSigned 40 = .ok (.aload_n 0, 1) := by decide +kernel
theorem dX7_readsSigned_41 : decode cX7_readsSigned 41 = .ok (.getfield 43, 3) := by decide +kernel
theorem dX7_readsSigned_44 : decode cX7_readsSigned 44 = .ok (.iload_n 1, 1) := by decide +kernel
theorem dX7_readsSigned_45 : decode cX7_readsSigned 45 = .ok (.iload_n 3, 1) := by decide +kernel
theorem dX7_readsSigned_46 : decode cX7_readsSigned 46 = .ok (.bipush 45, 2) := by decide +kernel
theorem dX7_readsSigned_48 : decode cX7_readsSigned 48 = .ok (.if_icmp .ne 13, 3) := by decide +kernel
theorem dX7_readsSigned_51 : decode cX7_readsSigned 51 = .ok (.aload_n 0, 1) := by decide +kernel
theorem dX7_readsSigned_52 : decode cX7_readsSigned 52 = .ok (.getfield 43, 3) := by decide +kernel
theorem dX7_readsSigned_55 : decode cX7_readsSigned 55 = .ok (.iload_n 1, 1) := by decide +kernel
theorem dX7_readsSigned_56 : decode cX7_readsSigned 56 = .ok (.iaload, 1) := by decide +kernel
theorem dX7_readsSigned_57 : decode cX7_readsSigned 57 = .ok (.ineg, 1) := by decide +kernel
theorem dX7_readsSigned_58 : decode cX7_readsSigned 58 = .ok (.goto 9, 3) := by decide +kernel
theorem dX7_readsSigned_61 : decode cX7_readsSigned 61 = .ok (.aload_n 0, 1) := by decide +kernel
theorem dX7_readsSigned_62 : decode cX7_readsSigned 62 = .ok (.getfield 43, 3) := by decide +kernel
theorem dX7_readsSigned_65 : decode cX7_readsSigned 65 = .ok (.iload_n 1, 1) := by decide +kernel
theorem dX7_readsSigned_66 : decode cX7_readsSigned 66 = .ok (.iaload, 1) := by decide +kernel
theorem dX7_readsSigned_67 : decode cX7_readsSigned 67 = .ok (.iastore, 1) := by decide +kernel
theorem dX7_readsSigned_68 : decode cX7_readsSigned 68 = .ok (.iconst 1, 1) := by decide +kernel
theorem dX7_readsSigned_69 : decode cX7_readsSigned 69 = .ok (.ireturn, 1) := by decide +kernel
theorem dX7_personOf_0 : decode cX7_personOf 0 = .ok (.iload_n 0, 1) := by decide +kernel
theorem dX7_personOf_1 : decode cX7_personOf 1 = .ok (.tableswitch 81 99 112 #[79, 73, 81, 75, 81, 81, 81, 81, 81, 81, 77, 81, 81, 71], 71) := by decide +kernel
theorem dX7_personOf_72 : decode cX7_personOf 72 = .ok (.iconst 0, 1) := by decide +kernel
theorem dX7_personOf_73 : decode cX7_personOf 73 = .ok (.ireturn, 1) := by decide +kernel
theorem dX7_personOf_74 : decode cX7_personOf 74 = .ok (.iconst 1, 1) := by decide +kernel
theorem dX7_personOf_75 : decode cX7_personOf 75 = .ok (.ireturn, 1) := by decide +kernel
theorem dX7_personOf_76 : decode cX7_personOf 76 = .ok (.iconst 2, 1) := by decide +kernel
theorem dX7_personOf_77 : decode cX7_personOf 77 = .ok (.ireturn, 1) := by decide +kernel
theorem dX7_personOf_78 : decode cX7_personOf 78 = .ok (.iconst 3, 1) := by decide +kernel
theorem dX7_personOf_79 : decode cX7_personOf 79 = .ok (.ireturn, 1) := by decide +kernel
theorem dX7_personOf_80 : decode cX7_personOf 80 = .ok (.iconst 4, 1) := by decide +kernel
theorem dX7_personOf_81 : decode cX7_personOf 81 = .ok (.ireturn, 1) := by decide +kernel
theorem dX7_personOf_82 : decode cX7_personOf 82 = .ok (.iconst (-1), 1) := by decide +kernel
theorem dX7_personOf_83 : decode cX7_personOf 83 = .ok (.ireturn, 1) := by decide +kernel
theorem dX7_driftOf_0 : decode cX7_driftOf 0 = .ok (.iload_n 0, 1) := by decide +kernel
theorem dX7_driftOf_1 : decode cX7_driftOf 1 = .ok (.lookupswitch 61 #[(99, 55), (106, 57), (115, 51), (117, 59), (119, 53)], 51) := by decide +kernel
theorem dX7_driftOf_52 : decode cX7_driftOf 52 = .ok (.iconst 0, 1) := by decide +kernel
theorem dX7_driftOf_53 : decode cX7_driftOf 53 = .ok (.ireturn, 1) := by decide +kernel
theorem dX7_driftOf_54 : decode cX7_driftOf 54 = .ok (.iconst 1, 1) := by decide +kernel
theorem dX7_driftOf_55 : decode cX7_driftOf 55 = .ok (.ireturn, 1) := by decide +kernel
theorem dX7_driftOf_56 : decode cX7_driftOf 56 = .ok (.iconst 2, 1) := by decide +kernel
theorem dX7_driftOf_57 : decode cX7_driftOf 57 = .ok (.ireturn, 1) := by decide +kernel
theorem dX7_driftOf_58 : decode cX7_driftOf 58 = .ok (.iconst 3, 1) := by decide +kernel
theorem dX7_driftOf_59 : decode cX7_driftOf 59 = .ok (.ireturn, 1) := by decide +kernel
theorem dX7_driftOf_60 : decode cX7_driftOf 60 = .ok (.iconst 4, 1) := by decide +kernel
theorem dX7_driftOf_61 : decode cX7_driftOf 61 = .ok (.ireturn, 1) := by decide +kernel
theorem dX7_driftOf_62 : decode cX7_driftOf 62 = .ok (.iconst (-1), 1) := by decide +kernel
theorem dX7_driftOf_63 : decode cX7_driftOf 63 = .ok (.ireturn, 1) := by decide +kernel
theorem dX7_ruleOf_0 : decode cX7_ruleOf 0 = .ok (.iload_n 0, 1) := by decide +kernel
theorem dX7_ruleOf_1 : decode cX7_ruleOf 1 = .ok (.tableswitch 81 98 111 #[77, 81, 81, 71, 81, 81, 81, 81, 81, 75, 79, 81, 81, 73], 71) := by decide +kernel
theorem dX7_ruleOf_72 : decode cX7_ruleOf 72 = .ok (.iconst 0, 1) := by decide +kernel
theorem dX7_ruleOf_73 : decode cX7_ruleOf 73 = .ok (.ireturn, 1) := by decide +kernel
theorem dX7_ruleOf_74 : decode cX7_ruleOf 74 = .ok (.iconst 1, 1) := by decide +kernel
theorem dX7_ruleOf_75 : decode cX7_ruleOf 75 = .ok (.ireturn, 1) := by decide +kernel
theorem dX7_ruleOf_76 : decode cX7_ruleOf 76 = .ok (.iconst 2, 1) := by decide +kernel
theorem dX7_ruleOf_77 : decode cX7_ruleOf 77 = .ok (.ireturn, 1) := by decide +kernel
theorem dX7_ruleOf_78 : decode cX7_ruleOf 78 = .ok (.iconst 3, 1) := by decide +kernel
theorem dX7_ruleOf_79 : decode cX7_ruleOf 79 = .ok (.ireturn, 1) := by decide +kernel
theorem dX7_ruleOf_80 : decode cX7_ruleOf 80 = .ok (.iconst 4, 1) := by decide +kernel
theorem dX7_ruleOf_81 : decode cX7_ruleOf 81 = .ok (.ireturn, 1) := by decide +kernel
theorem dX7_ruleOf_82 : decode cX7_ruleOf 82 = .ok (.iconst (-1), 1) := by decide +kernel
theorem dX7_ruleOf_83 : decode cX7_ruleOf 83 = .ok (.ireturn, 1) := by decide +kernel
theorem dX7_readsKind_0 : decode cX7_readsKind 0 = .ok (.iload_n 2, 1) := by decide +kernel
theorem dX7_readsKind_1 : decode cX7_readsKind 1 = .ok (.ifCond .ge 5, 3) := by decide +kernel
theorem dX7_readsKind_4 : decode cX7_readsKind 4 = .ok (.iconst 0, 1) := by decide +kernel
theorem dX7_readsKind_5 : decode cX7_readsKind 5 = .ok (.ireturn, 1) := by decide +kernel
theorem dX7_readsKind_6 : decode cX7_readsKind 6 = .ok (.aload_n 0, 1) := by decide +kernel
theorem dX7_readsKind_7 : decode cX7_readsKind 7 = .ok (.getfield 43, 3) := by decide +kernel
theorem dX7_readsKind_10 : decode cX7_readsKind 10 = .ok (.iload_n 1, 1) := by decide +kernel
theorem dX7_readsKind_11 : decode cX7_readsKind 11 = .ok (.iload_n 2, 1) := by decide +kernel
theorem dX7_readsKind_12 : decode cX7_readsKind 12 = .ok (.iastore, 1) := by decide +kernel
theorem dX7_readsKind_13 : decode cX7_readsKind 13 = .ok (.aload_n 0, 1) := by decide +kernel
theorem dX7_readsKind_14 : decode cX7_readsKind 14 = .ok (.dup, 1) := by decide +kernel
theorem dX7_readsKind_15 : decode cX7_readsKind 15 = .ok (.getfield 80, 3) := by decide +kernel
theorem dX7_readsKind_18 : decode cX7_readsKind 18 = .ok (.iconst 1, 1) := by decide +kernel
theorem dX7_readsKind_19 : decode cX7_readsKind 19 = .ok (.iadd, 1) := by decide +kernel
theorem dX7_readsKind_20 : decode cX7_readsKind 20 = .ok (.putfield 80, 3) := by decide +kernel
theorem dX7_readsKind_23 : decode cX7_readsKind 23 = .ok (.iconst 1, 1) := by decide +kernel
theorem dX7_readsKind_24 : decode cX7_readsKind 24 = .ok (.ireturn, 1) := by decide +kernel
theorem dX7_readsPerson_0 : decode cX7_readsPerson 0 = .ok (.aload_n 0, 1) := by decide +kernel
theorem dX7_readsPerson_1 : decode cX7_readsPerson 1 = .ok (.iload_n 1, 1) := by decide +kernel
theorem dX7_readsPerson_2 : decode cX7_readsPerson 2 = .ok (.aload_n 0, 1) := by decide +kernel
theorem dX7_readsPerson_3 : decode cX7_readsPerson 3 = .ok (.invokevirtual 83, 3) := by decide +kernel
theorem dX7_readsPerson_6 : decode cX7_readsPerson 6 = .ok (.invokestatic 95, 3) := by decide +kernel
theorem dX7_readsPerson_9 : decode cX7_readsPerson 9 = .ok (.invokevirtual 98, 3) := by decide +kernel
theorem dX7_readsPerson_12 : decode cX7_readsPerson 12 = .ok (.ifCond .ne 5, 3) := by decide +kernel
theorem dX7_readsPerson_15 : decode cX7_readsPerson 15 = .ok (.iconst 0, 1) := by decide +kernel
theorem dX7_readsPerson_16 : decode cX7_readsPerson 16 = .ok (.ireturn, 1) := by decide +kernel
theorem dX7_readsPerson_17 : decode cX7_readsPerson 17 = .ok (.iconst 1, 1) := by decide +kernel
theorem dX7_readsPerson_18 : decode cX7_readsPerson 18 = .ok (.istore_n 2, 1) := by decide +kernel
theorem dX7_readsPerson_19 : decode cX7_readsPerson 19 = .ok (.iload_n 2, 1) := by decide +kernel
theorem dX7_readsPerson_20 : decode cX7_readsPerson 20 = .ok (.bipush 6, 2) := by decide +kernel
theorem dX7_readsPerson_22 : decode cX7_readsPerson 22 = .ok (.if_icmp .ge 22, 3) := by decide +kernel
theorem dX7_readsPerson_25 : decode cX7_readsPerson 25 = .ok (.aload_n 0, 1) := by decide +kernel
theorem dX7_readsPerson_26 : decode cX7_readsPerson 26 = .ok (.iload_n 1, 1) := by decide +kernel
theorem dX7_readsPerson_27 : decode cX7_readsPerson 27 = .ok (.iload_n 2, 1) := by decide +kernel
theorem dX7_readsPerson_28 : decode cX7_readsPerson 28 = .ok (.iadd, 1) := by decide +kernel
theorem dX7_readsPerson_29 : decode cX7_readsPerson 29 = .ok (.iconst 1, 1) := by decide +kernel
theorem dX7_readsPerson_30 : decode cX7_readsPerson 30 = .ok (.invokevirtual 91, 3) := by decide +kernel
theorem dX7_readsPerson_33 : decode cX7_readsPerson 33 = .ok (.ifCond .ne 5, 3) := by decide +kernel
theorem dX7_readsPerson_36 : decode cX7_readsPerson 36 = .ok (.iconst 0, 1) := by decide +kernel
theorem dX7_readsPerson_37 : decode cX7_readsPerson 37 = .ok (.ireturn, 1) := by decide +kernel
theorem dX7_readsPerson_38 : decode cX7_readsPerson 38 = .ok (.iinc 2 1, 3) := by decide +kernel
theorem dX7_readsPerson_41 : decode cX7_readsPerson 41 = .ok (.goto (-22), 3) := by decide +kernel
theorem dX7_readsPerson_44 : decode cX7_readsPerson 44 = .ok (.iconst 1, 1) := by decide +kernel
theorem dX7_readsPerson_45 : decode cX7_readsPerson 45 = .ok (.ireturn, 1) := by decide +kernel
theorem dX7_readsAll_0 : decode cX7_readsAll 0 = .ok (.iload_n 1, 1) := by decide +kernel
theorem dX7_readsAll_1 : decode cX7_readsAll 1 = .ok (.lookupswitch 165 #[(100, 90), (112, 51), (114, 122), (115, 64), (119, 57)], 51) := by decide +kernel
theorem dX7_readsAll_52 : decode cX7_readsAll 52 = .ok (.aload_n 0, 1) := by decide +kernel
theorem dX7_readsAll_53 : decode cX7_readsAll 53 = .ok (.iload_n 2, 1) := by decide +kernel
theorem dX7_readsAll_54 : decode cX7_readsAll 54 = .ok (.invokevirtual 101, 3) := by decide +kernel
theorem dX7_readsAll_57 : decode cX7_readsAll 57 = .ok (.ireturn, 1) := by decide +kernel
theorem dX7_readsAll_58 : decode cX7_readsAll 58 = .ok (.aload_n 0, 1) := by decide +kernel
theorem dX7_readsAll_59 : decode cX7_readsAll 59 = .ok (.iload_n 2, 1) := by decide +kernel
theorem dX7_readsAll_60 : decode cX7_readsAll 60 = .ok (.iconst 2, 1) := by decide +kernel
theorem dX7_readsAll_61 : decode cX7_readsAll 61 = .ok (.invokevirtual 105, 3) := by decide +kernel
theorem dX7_readsAll_64 : decode cX7_readsAll 64 = .ok (.ireturn, 1) := by decide +kernel
theorem dX7_readsAll_65 : decode cX7_readsAll 65 = .ok (.aload_n 0, 1) := by decide +kernel
theorem dX7_readsAll_66 : decode cX7_readsAll 66 = .ok (.iload_n 2, 1) := by decide +kernel
theorem dX7_readsAll_67 : decode cX7_readsAll 67 = .ok (.iconst 1, 1) := by decide +kernel
theorem dX7_readsAll_68 : decode cX7_readsAll 68 = .ok (.invokevirtual 91, 3) := by decide +kernel
theorem dX7_readsAll_71 : decode cX7_readsAll 71 = .ok (.ifCond .eq 18, 3) := by decide +kernel
end
section
theorem dX7_readsAll_74 : decode cX7_readsAll 74 = .ok (.aload_n 0, 1) := by decide +kernel
theorem dX7_readsAll_75 : decode cX7_readsAll 75 = .ok (.iload_n 2, 1) := by decide +kernel
theorem dX7_readsAll_76 : decode cX7_readsAll 76 = .ok (.iconst 1, 1) := by decide +kernel
theorem dX7_readsAll_77 : decode cX7_readsAll 77 = .ok (.iadd, 1) := by decide +kernel
theorem dX7_readsAll_78 : decode cX7_readsAll 78 = .ok (.iconst 2, 1) := by decide +kernel
theorem dX7_readsAll_79 : decode cX7_readsAll 79 = .ok (.invokevirtual 105, 3) := by decide +kernel
theorem dX7_readsAll_82 : decode cX7_readsAll 82 = .ok (.ifCond .eq 7, 3) := by decide +kernel
theorem dX7_readsAll_85 : decode cX7_readsAll 85 = .ok (.iconst 1, 1) := by decide +kernel
theorem dX7_readsAll_86 : decode cX7_readsAll 86 = .ok (.goto 4, 3) := by decide +kernel
theorem dX7_readsAll_89 : decode cX7_readsAll 89 = .ok (.iconst 0, 1) := by decide +kernel
theorem dX7_readsAll_90 : decode cX7_readsAll 90 = .ok (.ireturn, 1) := by decide +kernel
theorem dX7_readsAll_91 : decode cX7_readsAll 91 = .ok (.aload_n 0, 1) := by decide +kernel
theorem dX7_readsAll_92 : decode cX7_readsAll 92 = .ok (.iload_n 2, 1) := by decide +kernel
theorem dX7_readsAll_93 : decode cX7_readsAll 93 = .ok (.aload_n 0, 1) := by decide +kernel
theorem dX7_readsAll_94 : decode cX7_readsAll 94 = .ok (.invokevirtual 83, 3) := by decide +kernel
theorem dX7_readsAll_97 : decode cX7_readsAll 97 = .ok (.invokestatic 108, 3) := by decide +kernel
theorem dX7_readsAll_100 : decode cX7_readsAll 100 = .ok (.invokevirtual 98, 3) := by decide +kernel
theorem dX7_readsAll_103 : decode cX7_readsAll 103 = .ok (.ifCond .eq 18, 3) := by decide +kernel
theorem dX7_readsAll_106 : decode cX7_readsAll 106 = .ok (.aload_n 0, 1) := by decide +kernel
theorem dX7_readsAll_107 : decode cX7_readsAll 107 = .ok (.iload_n 2, 1) := by decide +kernel
theorem dX7_readsAll_108 : decode cX7_readsAll 108 = .ok (.iconst 1, 1) := by decide +kernel
theorem dX7_readsAll_109 : decode cX7_readsAll 109 = .ok (.iadd, 1) := by decide +kernel
theorem dX7_readsAll_110 : decode cX7_readsAll 110 = .ok (.iconst 1, 1) := by decide +kernel
theorem dX7_readsAll_111 : decode cX7_readsAll 111 = .ok (.invokevirtual 105, 3) := by decide +kernel
theorem dX7_readsAll_114 : decode cX7_readsAll 114 = .ok (.ifCond .eq 7, 3) := by decide +kernel
theorem dX7_readsAll_117 : decode cX7_readsAll 117 = .ok (.iconst 1, 1) := by decide +kernel
theorem dX7_readsAll_118 : decode cX7_readsAll 118 = .ok (.goto 4, 3) := by decide +kernel
theorem dX7_readsAll_121 : decode cX7_readsAll 121 = .ok (.iconst 0, 1) := by decide +kernel
theorem dX7_readsAll_122 : decode cX7_readsAll 122 = .ok (.ireturn, 1) := by decide +kernel
theorem dX7_readsAll_123 : decode cX7_readsAll 123 = .ok (.aload_n 0, 1) := by decide +kernel
theorem dX7_readsAll_124 : decode cX7_readsAll 124 = .ok (.iload_n 2, 1) := by decide +kernel
theorem dX7_readsAll_125 : decode cX7_readsAll 125 = .ok (.aload_n 0, 1) := by decide +kernel
theorem dX7_readsAll_126 : decode cX7_readsAll 126 = .ok (.invokevirtual 83, 3) := by decide +kernel
theorem dX7_readsAll_129 : decode cX7_readsAll 129 = .ok (.invokestatic 111, 3) := by decide +kernel
theorem dX7_readsAll_132 : decode cX7_readsAll 132 = .ok (.invokevirtual 98, 3) := by decide +kernel
theorem dX7_readsAll_135 : decode cX7_readsAll 135 = .ok (.ifCond .eq 29, 3) := by decide +kernel
theorem dX7_readsAll_138 : decode cX7_readsAll 138 = .ok (.aload_n 0, 1) := by decide +kernel
theorem dX7_readsAll_139 : decode cX7_readsAll 139 = .ok (.iload_n 2, 1) := by decide +kernel
theorem dX7_readsAll_140 : decode cX7_readsAll 140 = .ok (.iconst 1, 1) := by decide +kernel
theorem dX7_readsAll_141 : decode cX7_readsAll 141 = .ok (.iadd, 1) := by decide +kernel
theorem dX7_readsAll_142 : decode cX7_readsAll 142 = .ok (.iconst 2, 1) := by decide +kernel
theorem dX7_readsAll_143 : decode cX7_readsAll 143 = .ok (.invokevirtual 91, 3) := by decide +kernel
theorem dX7_readsAll_146 : decode cX7_readsAll 146 = .ok (.ifCond .eq 18, 3) := by decide +kernel
theorem dX7_readsAll_149 : decode cX7_readsAll 149 = .ok (.aload_n 0, 1) := by decide +kernel
theorem dX7_readsAll_150 : decode cX7_readsAll 150 = .ok (.iload_n 2, 1) := by decide +kernel
theorem dX7_readsAll_151 : decode cX7_readsAll 151 = .ok (.iconst 2, 1) := by decide +kernel
theorem dX7_readsAll_152 : decode cX7_readsAll 152 = .ok (.iadd, 1) := by decide +kernel
theorem dX7_readsAll_153 : decode cX7_readsAll 153 = .ok (.iconst 1, 1) := by decide +kernel
theorem dX7_readsAll_154 : decode cX7_readsAll 154 = .ok (.invokevirtual 91, 3) := by decide +kernel
theorem dX7_readsAll_157 : decode cX7_readsAll 157 = .ok (.ifCond .eq 7, 3) := by decide +kernel
theorem dX7_readsAll_160 : decode cX7_readsAll 160 = .ok (.iconst 1, 1) := by decide +kernel
theorem dX7_readsAll_161 : decode cX7_readsAll 161 = .ok (.goto 4, 3) := by decide +kernel
theorem dX7_readsAll_164 : decode cX7_readsAll 164 = .ok (.iconst 0, 1) := by decide +kernel
theorem dX7_readsAll_165 : decode cX7_readsAll 165 = .ok (.ireturn, 1) := by decide +kernel
theorem dX7_readsAll_166 : decode cX7_readsAll 166 = .ok (.aload_n 0, 1) := by decide +kernel
theorem dX7_readsAll_167 : decode cX7_readsAll 167 = .ok (.iload_n 2, 1) := by decide +kernel
theorem dX7_readsAll_168 : decode cX7_readsAll 168 = .ok (.iconst 2, 1) := by decide +kernel
theorem dX7_readsAll_169 : decode cX7_readsAll 169 = .ok (.invokevirtual 91, 3) := by decide +kernel
theorem dX7_readsAll_172 : decode cX7_readsAll 172 = .ok (.ireturn, 1) := by decide +kernel
theorem dX7_statement_0 : decode cX7_statement 0 = .ok (.aload_n 0, 1) := by decide +kernel
theorem dX7_statement_1 : decode cX7_statement 1 = .ok (.invokevirtual 83, 3) := by decide +kernel
theorem dX7_statement_4 : decode cX7_statement 4 = .ok (.istore_n 1, 1) := by decide +kernel
theorem dX7_statement_5 : decode cX7_statement 5 = .ok (.iload_n 1, 1) := by decide +kernel
theorem dX7_statement_6 : decode cX7_statement 6 = .ok (.bipush 112, 2) := by decide +kernel
theorem dX7_statement_8 : decode cX7_statement 8 = .ok (.if_icmp .eq 35, 3) := by decide +kernel
theorem dX7_statement_11 : decode cX7_statement 11 = .ok (.iload_n 1, 1) := by decide +kernel
theorem dX7_statement_12 : decode cX7_statement 12 = .ok (.bipush 119, 2) := by decide +kernel
theorem dX7_statement_14 : decode cX7_statement 14 = .ok (.if_icmp .eq 29, 3) := by decide +kernel
theorem dX7_statement_17 : decode cX7_statement 17 = .ok (.iload_n 1, 1) := by decide +kernel
theorem dX7_statement_18 : decode cX7_statement 18 = .ok (.bipush 115, 2) := by decide +kernel
theorem dX7_statement_20 : decode cX7_statement 20 = .ok (.if_icmp .eq 23, 3) := by decide +kernel
theorem dX7_statement_23 : decode cX7_statement 23 = .ok (.iload_n 1, 1) := by decide +kernel
theorem dX7_statement_24 : decode cX7_statement 24 = .ok (.bipush 100, 2) := by decide +kernel
theorem dX7_statement_26 : decode cX7_statement 26 = .ok (.if_icmp .eq 17, 3) := by decide +kernel
theorem dX7_statement_29 : decode cX7_statement 29 = .ok (.iload_n 1, 1) := by decide +kernel
theorem dX7_statement_30 : decode cX7_statement 30 = .ok (.bipush 114, 2) := by decide +kernel
theorem dX7_statement_32 : decode cX7_statement 32 = .ok (.if_icmp .eq 11, 3) := by decide +kernel
theorem dX7_statement_35 : decode cX7_statement 35 = .ok (.iload_n 1, 1) := by decide +kernel
theorem dX7_statement_36 : decode cX7_statement 36 = .ok (.bipush 110, 2) := by decide +kernel
theorem dX7_statement_38 : decode cX7_statement 38 = .ok (.if_icmp .eq 5, 3) := by decide +kernel
theorem dX7_statement_41 : decode cX7_statement 41 = .ok (.iconst 0, 1) := by decide +kernel
theorem dX7_statement_42 : decode cX7_statement 42 = .ok (.ireturn, 1) := by decide +kernel
theorem dX7_statement_43 : decode cX7_statement 43 = .ok (.aload_n 0, 1) := by decide +kernel
theorem dX7_statement_44 : decode cX7_statement 44 = .ok (.getfield 37, 3) := by decide +kernel
theorem dX7_statement_47 : decode cX7_statement 47 = .ok (.aload_n 0, 1) := by decide +kernel
theorem dX7_statement_48 : decode cX7_statement 48 = .ok (.getfield 114, 3) := by decide +kernel
theorem dX7_statement_51 : decode cX7_statement 51 = .ok (.iload_n 1, 1) := by decide +kernel
theorem dX7_statement_52 : decode cX7_statement 52 = .ok (.iastore, 1) := by decide +kernel
theorem dX7_statement_53 : decode cX7_statement 53 = .ok (.aload_n 0, 1) := by decide +kernel
theorem dX7_statement_54 : decode cX7_statement 54 = .ok (.getfield 40, 3) := by decide +kernel
theorem dX7_statement_57 : decode cX7_statement 57 = .ok (.aload_n 0, 1) := by decide +kernel
theorem dX7_statement_58 : decode cX7_statement 58 = .ok (.getfield 114, 3) := by decide +kernel
theorem dX7_statement_61 : decode cX7_statement 61 = .ok (.aload_n 0, 1) := by decide +kernel
theorem dX7_statement_62 : decode cX7_statement 62 = .ok (.getfield 80, 3) := by decide +kernel
theorem dX7_statement_65 : decode cX7_statement 65 = .ok (.iastore, 1) := by decide +kernel
theorem dX7_statement_66 : decode cX7_statement 66 = .ok (.aload_n 0, 1) := by decide +kernel
theorem dX7_statement_67 : decode cX7_statement 67 = .ok (.dup, 1) := by decide +kernel
theorem dX7_statement_68 : decode cX7_statement 68 = .ok (.getfield 80, 3) := by decide +kernel
theorem dX7_statement_71 : decode cX7_statement 71 = .ok (.iconst 1, 1) := by decide +kernel
theorem dX7_statement_72 : decode cX7_statement 72 = .ok (.iadd, 1) := by decide +kernel
theorem dX7_statement_73 : decode cX7_statement 73 = .ok (.putfield 80, 3) := by decide +kernel
theorem dX7_statement_76 : decode cX7_statement 76 = .ok (.aload_n 0, 1) := by decide +kernel
theorem dX7_statement_77 : decode cX7_statement 77 = .ok (.iload_n 1, 1) := by decide +kernel
theorem dX7_statement_78 : decode cX7_statement 78 = .ok (.bipush 6, 2) := by decide +kernel
theorem dX7_statement_80 : decode cX7_statement 80 = .ok (.aload_n 0, 1) := by decide +kernel
theorem dX7_statement_81 : decode cX7_statement 81 = .ok (.getfield 114, 3) := by decide +kernel
theorem dX7_statement_84 : decode cX7_statement 84 = .ok (.imul, 1) := by decide +kernel
theorem dX7_statement_85 : decode cX7_statement 85 = .ok (.invokevirtual 117, 3) := by decide +kernel
theorem dX7_statement_88 : decode cX7_statement 88 = .ok (.ifCond .eq 12, 3) := by decide +kernel
theorem dX7_statement_91 : decode cX7_statement 91 = .ok (.aload_n 0, 1) := by decide +kernel
theorem dX7_statement_92 : decode cX7_statement 92 = .ok (.invokevirtual 83, 3) := by decide +kernel
theorem dX7_statement_95 : decode cX7_statement 95 = .ok (.bipush 59, 2) := by decide +kernel
theorem dX7_statement_97 : decode cX7_statement 97 = .ok (.if_icmp .eq 5, 3) := by decide +kernel
theorem dX7_statement_100 : decode cX7_statement 100 = .ok (.iconst 0, 1) := by decide +kernel
theorem dX7_statement_101 : decode cX7_statement 101 = .ok (.ireturn, 1) := by decide +kernel
theorem dX7_statement_102 : decode cX7_statement 102 = .ok (.aload_n 0, 1) := by decide +kernel
theorem dX7_statement_103 : decode cX7_statement 103 = .ok (.dup, 1) := by decide +kernel
theorem dX7_statement_104 : decode cX7_statement 104 = .ok (.getfield 80, 3) := by decide +kernel
theorem dX7_statement_107 : decode cX7_statement 107 = .ok (.iconst 1, 1) := by decide +kernel
theorem dX7_statement_108 : decode cX7_statement 108 = .ok (.iadd, 1) := by decide +kernel
theorem dX7_statement_109 : decode cX7_statement 109 = .ok (.putfield 80, 3) := by decide +kernel
theorem dX7_statement_112 : decode cX7_statement 112 = .ok (.iconst 1, 1) := by decide +kernel
theorem dX7_statement_113 : decode cX7_statement 113 = .ok (.ireturn, 1) := by decide +kernel
theorem dX7_comesPerson_0 : decode cX7_comesPerson 0 = .ok (.aload_n 0, 1) := by decide +kernel
theorem dX7_comesPerson_1 : decode cX7_comesPerson 1 = .ok (.getfield 43, 3) := by decide +kernel
theorem dX7_comesPerson_4 : decode cX7_comesPerson 4 = .ok (.iload_n 1, 1) := by decide +kernel
theorem dX7_comesPerson_5 : decode cX7_comesPerson 5 = .ok (.iconst 3, 1) := by decide +kernel
theorem dX7_comesPerson_6 : decode cX7_comesPerson 6 = .ok (.iadd, 1) := by decide +kernel
theorem dX7_comesPerson_7 : decode cX7_comesPerson 7 = .ok (.iaload, 1) := by decide +kernel
theorem dX7_comesPerson_8 : decode cX7_comesPerson 8 = .ok (.iconst 1, 1) := by decide +kernel
theorem dX7_comesPerson_9 : decode cX7_comesPerson 9 = .ok (.if_icmp .gt 27, 3) := by decide +kernel
theorem dX7_comesPerson_12 : decode cX7_comesPerson 12 = .ok (.aload_n 0, 1) := by decide +kernel
theorem dX7_comesPerson_13 : decode cX7_comesPerson 13 = .ok (.getfield 43, 3) := by decide +kernel
theorem dX7_comesPerson_16 : decode cX7_comesPerson 16 = .ok (.iload_n 1, 1) := by decide +kernel
theorem dX7_comesPerson_17 : decode cX7_comesPerson 17 = .ok (.iconst 4, 1) := by decide +kernel
theorem dX7_comesPerson_18 : decode cX7_comesPerson 18 = .ok (.iadd, 1) := by decide +kernel
theorem dX7_comesPerson_19 : decode cX7_comesPerson 19 = .ok (.iaload, 1) := by decide +kernel
theorem dX7_comesPerson_20 : decode cX7_comesPerson 20 = .ok (.iconst 1, 1) := by decide +kernel
theorem dX7_comesPerson_21 : decode cX7_comesPerson 21 = .ok (.iconst 5, 1) := by decide +kernel
theorem dX7_comesPerson_22 : decode cX7_comesPerson 22 = .ok (.invokestatic 87, 3) := by decide +kernel
theorem dX7_comesPerson_25 : decode cX7_comesPerson 25 = .ok (.ifCond .eq 11, 3) := by decide +kernel
theorem dX7_comesPerson_28 : decode cX7_comesPerson 28 = .ok (.aload_n 0, 1) := by decide +kernel
theorem dX7_comesPerson_29 : decode cX7_comesPerson 29 = .ok (.getfield 65, 3) := by decide +kernel
theorem dX7_comesPerson_32 : decode cX7_comesPerson 32 = .ok (.iconst 5, 1) := by decide +kernel
theorem dX7_comesPerson_33 : decode cX7_comesPerson 33 = .ok (.if_icmp .ne 5, 3) := by decide +kernel
theorem dX7_comesPerson_36 : decode cX7_comesPerson 36 = .ok (.iconst 0, 1) := by decide +kernel
theorem dX7_comesPerson_37 : decode cX7_comesPerson 37 = .ok (.ireturn, 1) := by decide +kernel
theorem dX7_comesPerson_38 : decode cX7_comesPerson 38 = .ok (.aload_n 0, 1) := by decide +kernel
theorem dX7_comesPerson_39 : decode cX7_comesPerson 39 = .ok (.getfield 16, 3) := by decide +kernel
theorem dX7_comesPerson_42 : decode cX7_comesPerson 42 = .ok (.aload_n 0, 1) := by decide +kernel
theorem dX7_comesPerson_43 : decode cX7_comesPerson 43 = .ok (.getfield 65, 3) := by decide +kernel
theorem dX7_comesPerson_46 : decode cX7_comesPerson 46 = .ok (.aload_n 0, 1) := by decide +kernel
theorem dX7_comesPerson_47 : decode cX7_comesPerson 47 = .ok (.getfield 43, 3) := by decide +kernel
theorem dX7_comesPerson_50 : decode cX7_comesPerson 50 = .ok (.iload_n 1, 1) := by decide +kernel
theorem dX7_comesPerson_51 : decode cX7_comesPerson 51 = .ok (.iaload, 1) := by decide +kernel
theorem dX7_comesPerson_52 : decode cX7_comesPerson 52 = .ok (.iastore, 1) := by decide +kernel
theorem dX7_comesPerson_53 : decode cX7_comesPerson 53 = .ok (.aload_n 0, 1) := by decide +kernel
theorem dX7_comesPerson_54 : decode cX7_comesPerson 54 = .ok (.getfield 19, 3) := by decide +kernel
theorem dX7_comesPerson_57 : decode cX7_comesPerson 57 = .ok (.aload_n 0, 1) := by decide +kernel
theorem dX7_comesPerson_58 : decode cX7_comesPerson 58 = .ok (.getfield 65, 3) := by decide +kernel
theorem dX7_comesPerson_61 : decode cX7_comesPerson 61 = .ok (.aload_n 0, 1) := by decide +kernel
theorem dX7_comesPerson_62 : decode cX7_comesPerson 62 = .ok (.getfield 43, 3) := by decide +kernel
theorem dX7_comesPerson_65 : decode cX7_comesPerson 65 = .ok (.iload_n 1, 1) := by decide +kernel
theorem dX7_comesPerson_66 : decode cX7_comesPerson 66 = .ok (.iconst 1, 1) := by decide +kernel
theorem dX7_comesPerson_67 : decode cX7_comesPerson 67 = .ok (.iadd, 1) := by decide +kernel
theorem dX7_comesPerson_68 : decode cX7_comesPerson 68 = .ok (.iaload, 1) := by decide +kernel
theorem dX7_comesPerson_69 : decode cX7_comesPerson 69 = .ok (.iastore, 1) := by decide +kernel
theorem dX7_comesPerson_70 : decode cX7_comesPerson 70 = .ok (.aload_n 0, 1) := by decide +kernel
theorem dX7_comesPerson_71 : decode cX7_comesPerson 71 = .ok (.getfield 22, 3) := by decide +kernel
theorem dX7_comesPerson_74 : decode cX7_comesPerson 74 = .ok (.aload_n 0, 1) := by decide +kernel
theorem dX7_comesPerson_75 : decode cX7_comesPerson 75 = .ok (.getfield 65, 3) := by decide +kernel
theorem dX7_comesPerson_78 : decode cX7_comesPerson 78 = .ok (.aload_n 0, 1) := by decide +kernel
theorem dX7_comesPerson_79 : decode cX7_comesPerson 79 = .ok (.getfield 43, 3) := by decide +kernel
theorem dX7_comesPerson_82 : decode cX7_comesPerson 82 = .ok (.iload_n 1, 1) := by decide +kernel
theorem dX7_comesPerson_83 : decode cX7_comesPerson 83 = .ok (.iconst 2, 1) := by decide +kernel
theorem dX7_comesPerson_84 : decode cX7_comesPerson 84 = .ok (.iadd, 1) := by decide +kernel
theorem dX7_comesPerson_85 : decode cX7_comesPerson 85 = .ok (.iaload, 1) := by decide +kernel
theorem dX7_comesPerson_86 : decode cX7_comesPerson 86 = .ok (.iastore, 1) := by decide +kernel
theorem dX7_comesPerson_87 : decode cX7_comesPerson 87 = .ok (.aload_n 0, 1) := by decide +kernel
theorem dX7_comesPerson_88 : decode cX7_comesPerson 88 = .ok (.getfield 25, 3) := by decide +kernel
theorem dX7_comesPerson_91 : decode cX7_comesPerson 91 = .ok (.aload_n 0, 1) := by decide +kernel
theorem dX7_comesPerson_92 : decode cX7_comesPerson 92 = .ok (.getfield 65, 3) := by decide +kernel
theorem dX7_comesPerson_95 : decode cX7_comesPerson 95 = .ok (.aload_n 0, 1) := by decide +kernel
theorem dX7_comesPerson_96 : decode cX7_comesPerson 96 = .ok (.getfield 43, 3) := by decide +kernel
theorem dX7_comesPerson_99 : decode cX7_comesPerson 99 = .ok (.iload_n 1, 1) := by decide +kernel
theorem dX7_comesPerson_100 : decode cX7_comesPerson 100 = .ok (.iconst 3, 1) := by decide +kernel
theorem dX7_comesPerson_101 : decode cX7_comesPerson 101 = .ok (.iadd, 1) := by decide +kernel
theorem dX7_comesPerson_102 : decode cX7_comesPerson 102 = .ok (.iaload, 1) := by decide +kernel
theorem dX7_comesPerson_103 : decode cX7_comesPerson 103 = .ok (.iastore, 1) := by decide +kernel
theorem dX7_comesPerson_104 : decode cX7_comesPerson 104 = .ok (.aload_n 0, 1) := by decide +kernel
theorem dX7_comesPerson_105 : decode cX7_comesPerson 105 = .ok (.getfield 28, 3) := by decide +kernel
theorem dX7_comesPerson_108 : decode cX7_comesPerson 108 = .ok (.aload_n 0, 1) := by decide +kernel
theorem dX7_comesPerson_109 : decode cX7_comesPerson 109 = .ok (.getfield 65, 3) := by decide +kernel
theorem dX7_comesPerson_112 : decode cX7_comesPerson 112 = .ok (.aload_n 0, 1) := by decide +kernel
theorem dX7_comesPerson_113 : decode cX7_comesPerson 113 = .ok (.getfield 43, 3) := by decide +kernel
theorem dX7_comesPerson_116 : decode cX7_comesPerson 116 = .ok (.iload_n 1, 1) := by decide +kernel
theorem dX7_comesPerson_117 : decode cX7_comesPerson 117 = .ok (.iconst 4, 1) := by decide +kernel
theorem dX7_comesPerson_118 : decode cX7_comesPerson 118 = .ok (.iadd, 1) := by decide +kernel
theorem dX7_comesPerson_119 : decode cX7_comesPerson 119 = .ok (.iaload, 1) := by decide +kernel
theorem dX7_comesPerson_120 : decode cX7_comesPerson 120 = .ok (.iastore, 1) := by decide +kernel
theorem dX7_comesPerson_121 : decode cX7_comesPerson 121 = .ok (.aload_n 0, 1) := by decide +kernel
theorem dX7_comesPerson_122 : decode cX7_comesPerson 122 = .ok (.getfield 31, 3) := by decide +kernel
theorem dX7_comesPerson_125 : decode cX7_comesPerson 125 = .ok (.aload_n 0, 1) := by decide +kernel
theorem dX7_comesPerson_126 : decode cX7_comesPerson 126 = .ok (.getfield 65, 3) := by decide +kernel
theorem dX7_comesPerson_129 : decode cX7_comesPerson 129 = .ok (.aload_n 0, 1) := by decide +kernel
theorem dX7_comesPerson_130 : decode cX7_comesPerson 130 = .ok (.getfield 43, 3) := by decide +kernel
theorem dX7_comesPerson_133 : decode cX7_comesPerson 133 = .ok (.iload_n 1, 1) := by decide +kernel
theorem dX7_comesPerson_134 : decode cX7_comesPerson 134 = .ok (.iconst 5, 1) := by decide +kernel
theorem dX7_comesPerson_135 : decode cX7_comesPerson 135 = .ok (.iadd, 1) := by decide +kernel
theorem dX7_comesPerson_136 : decode cX7_comesPerson 136 = .ok (.iaload, 1) := by decide +kernel
theorem dX7_comesPerson_137 : decode cX7_comesPerson 137 = .ok (.iastore, 1) := by decide +kernel
theorem dX7_comesPerson_138 : decode cX7_comesPerson 138 = .ok (.aload_n 0, 1) := by decide +kernel
theorem dX7_comesPerson_139 : decode cX7_comesPerson 139 = .ok (.dup, 1) := by decide +kernel
theorem dX7_comesPerson_140 : decode cX7_comesPerson 140 = .ok (.getfield 65, 3) := by decide +kernel
theorem dX7_comesPerson_143 : decode cX7_comesPerson 143 = .ok (.iconst 1, 1) := by decide +kernel
theorem dX7_comesPerson_144 : decode cX7_comesPerson 144 = .ok (.iadd, 1) := by decide +kernel
theorem dX7_comesPerson_145 : decode cX7_comesPerson 145 = .ok (.putfield 65, 3) := by decide +kernel
theorem dX7_comesPerson_148 : decode cX7_comesPerson 148 = .ok (.iconst 1, 1) := by decide +kernel
theorem dX7_comesPerson_149 : decode cX7_comesPerson 149 = .ok (.ireturn, 1) := by decide +kernel
theorem dX7_comesSet_0 : decode cX7_comesSet 0 = .ok (.iload_n 2, 1) := by decide +kernel
theorem dX7_comesSet_1 : decode cX7_comesSet 1 = .ok (.iload_n 1, 1) := by decide +kernel
theorem dX7_comesSet_2 : decode cX7_comesSet 2 = .ok (.invokestatic 120, 3) := by decide +kernel
theorem dX7_comesSet_5 : decode cX7_comesSet 5 = .ok (.iload_n 1, 1) := by decide +kernel
theorem dX7_comesSet_6 : decode cX7_comesSet 6 = .ok (.invokestatic 123, 3) := by decide +kernel
theorem dX7_comesSet_9 : decode cX7_comesSet 9 = .ok (.invokestatic 87, 3) := by decide +kernel
theorem dX7_comesSet_12 : decode cX7_comesSet 12 = .ok (.ifCond .ne 5, 3) := by decide +kernel
theorem dX7_comesSet_15 : decode cX7_comesSet 15 = .ok (.iconst 0, 1) := by decide +kernel
theorem dX7_comesSet_16 : decode cX7_comesSet 16 = .ok (.ireturn, 1) := by decide +kernel
theorem dX7_comesSet_17 : decode cX7_comesSet 17 = .ok (.aload_n 0, 1) := by decide +kernel
theorem dX7_comesSet_18 : decode cX7_comesSet 18 = .ok (.getfield 13, 3) := by decide +kernel
theorem dX7_comesSet_21 : decode cX7_comesSet 21 = .ok (.iload_n 1, 1) := by decide +kernel
theorem dX7_comesSet_22 : decode cX7_comesSet 22 = .ok (.iload_n 2, 1) := by decide +kernel
theorem dX7_comesSet_23 : decode cX7_comesSet 23 = .ok (.iastore, 1) := by decide +kernel
theorem dX7_comesSet_24 : decode cX7_comesSet 24 = .ok (.iconst 1, 1) := by decide +kernel
theorem dX7_comesSet_25 : decode cX7_comesSet 25 = .ok (.ireturn, 1) := by decide +kernel
theorem dX7_comes_0 : decode cX7_comes 0 = .ok (.bipush 6, 2) := by decide +kernel
theorem dX7_comes_2 : decode cX7_comes 2 = .ok (.iload_n 1, 1) := by decide +kernel
theorem dX7_comes_3 : decode cX7_comes 3 = .ok (.imul, 1) := by decide +kernel
theorem dX7_comes_4 : decode cX7_comes 4 = .ok (.istore_n 2, 1) := by decide +kernel
theorem dX7_comes_5 : decode cX7_comes 5 = .ok (.aload_n 0, 1) := by decide +kernel
theorem dX7_comes_6 : decode cX7_comes 6 = .ok (.getfield 43, 3) := by decide +kernel
theorem dX7_comes_9 : decode cX7_comes 9 = .ok (.iload_n 2, 1) := by decide +kernel
theorem dX7_comes_10 : decode cX7_comes 10 = .ok (.iaload, 1) := by decide +kernel
theorem dX7_comes_11 : decode cX7_comes 11 = .ok (.istore_n 3, 1) := by decide +kernel
theorem dX7_comes_12 : decode cX7_comes 12 = .ok (.aload_n 0, 1) := by decide +kernel
theorem dX7_comes_13 : decode cX7_comes 13 = .ok (.getfield 37, 3) := by decide +kernel
theorem dX7_comes_16 : decode cX7_comes 16 = .ok (.iload_n 1, 1) := by decide +kernel
theorem dX7_comes_17 : decode cX7_comes 17 = .ok (.iaload, 1) := by decide +kernel
theorem dX7_comes_18 : decode cX7_comes 18 = .ok (.lookupswitch 154 #[(100, 92), (112, 50), (114, 111), (115, 63), (119, 56)], 50) := by decide +kernel
theorem dX7_comes_68 : decode cX7_comes 68 = .ok (.aload_n 0, 1) := by decide +kernel
theorem dX7_comes_69 : decode cX7_comes 69 = .ok (.iload_n 2, 1) := by decide +kernel
theorem dX7_comes_70 : decode cX7_comes 70 = .ok (.invokevirtual 126, 3) := by decide +kernel
theorem dX7_comes_73 : decode cX7_comes 73 = .ok (.ireturn, 1) := by decide +kernel
theorem dX7_comes_74 : decode cX7_comes 74 = .ok (.aload_n 0, 1) := by decide +kernel
theorem dX7_comes_75 : decode cX7_comes 75 = .ok (.iconst 0, 1) := by decide +kernel
theorem dX7_comes_76 : decode cX7_comes 76 = .ok (.iload_n 3, 1) := by decide +kernel
theorem dX7_comes_77 : decode cX7_comes 77 = .ok (.invokevirtual 129, 3) := by decide +kernel
theorem dX7_comes_80 : decode cX7_comes 80 = .ok (.ireturn, 1) := by decide +kernel
theorem dX7_comes_81 : decode cX7_comes 81 = .ok (.iload_n 3, 1) := by decide +kernel
theorem dX7_comes_82 : decode cX7_comes 82 = .ok (.iconst 2, 1) := by decide +kernel
theorem dX7_comes_83 : decode cX7_comes 83 = .ok (.if_icmp .ge 25, 3) := by decide +kernel
theorem dX7_comes_86 : decode cX7_comes 86 = .ok (.aload_n 0, 1) := by decide +kernel
theorem dX7_comes_87 : decode cX7_comes 87 = .ok (.iconst 1, 1) := by decide +kernel
theorem dX7_comes_88 : decode cX7_comes 88 = .ok (.iload_n 3, 1) := by decide +kernel
theorem dX7_comes_89 : decode cX7_comes 89 = .ok (.iadd, 1) := by decide +kernel
theorem dX7_comes_90 : decode cX7_comes 90 = .ok (.aload_n 0, 1) := by decide +kernel
theorem dX7_comes_91 : decode cX7_comes 91 = .ok (.getfield 43, 3) := by decide +kernel
theorem dX7_comes_94 : decode cX7_comes 94 = .ok (.iload_n 2, 1) := by decide +kernel
theorem dX7_comes_95 : decode cX7_comes 95 = .ok (.iconst 1, 1) := by decide +kernel
theorem dX7_comes_96 : decode cX7_comes 96 = .ok (.iadd, 1) := by decide +kernel
theorem dX7_comes_97 : decode cX7_comes 97 = .ok (.iaload, 1) := by decide +kernel
theorem dX7_comes_98 : decode cX7_comes 98 = .ok (.invokevirtual 129, 3) := by decide +kernel
theorem dX7_comes_101 : decode cX7_comes 101 = .ok (.ifCond .eq 7, 3) := by decide +kernel
theorem dX7_comes_104 : decode cX7_comes 104 = .ok (.iconst 1, 1) := by decide +kernel
theorem dX7_comes_105 : decode cX7_comes 105 = .ok (.goto 4, 3) := by decide +kernel
theorem dX7_comes_108 : decode cX7_comes 108 = .ok (.iconst 0, 1) := by decide +kernel
theorem dX7_comes_109 : decode cX7_comes 109 = .ok (.ireturn, 1) := by decide +kernel
theorem dX7_comes_110 : decode cX7_comes 110 = .ok (.aload_n 0, 1) := by decide +kernel
theorem dX7_comes_111 : decode cX7_comes 111 = .ok (.iload_n 3, 1) := by decide +kernel
theorem dX7_comes_112 : decode cX7_comes 112 = .ok (.putfield 132, 3) := by decide +kernel
theorem dX7_comes_115 : decode cX7_comes 115 = .ok (.aload_n 0, 1) := by decide +kernel
theorem dX7_comes_116 : decode cX7_comes 116 = .ok (.iconst 3, 1) := by decide +kernel
theorem dX7_comes_117 : decode cX7_comes 117 = .ok (.aload_n 0, 1) := by decide +kernel
theorem dX7_comes_118 : decode cX7_comes 118 = .ok (.getfield 43, 3) := by decide +kernel
theorem dX7_comes_121 : decode cX7_comes 121 = .ok (.iload_n 2, 1) := by decide +kernel
theorem dX7_comes_122 : decode cX7_comes 122 = .ok (.iconst 1, 1) := by decide +kernel
theorem dX7_comes_123 : decode cX7_comes 123 = .ok (.iadd, 1) := by decide +kernel
theorem dX7_comes_124 : decode cX7_comes 124 = .ok (.iaload, 1) := by decide +kernel
theorem dX7_comes_125 : decode cX7_comes 125 = .ok (.invokevirtual 129, 3) := by decide +kernel
theorem dX7_comes_128 : decode cX7_comes 128 = .ok (.ireturn, 1) := by decide +kernel
theorem dX7_comes_129 : decode cX7_comes 129 = .ok (.aload_n 0, 1) := by decide +kernel
theorem dX7_comes_130 : decode cX7_comes 130 = .ok (.iload_n 3, 1) := by decide +kernel
theorem dX7_comes_131 : decode cX7_comes 131 = .ok (.putfield 135, 3) := by decide +kernel
theorem dX7_comes_134 : decode cX7_comes 134 = .ok (.aload_n 0, 1) := by decide +kernel
theorem dX7_comes_135 : decode cX7_comes 135 = .ok (.iconst 4, 1) := by decide +kernel
theorem dX7_comes_136 : decode cX7_comes 136 = .ok (.aload_n 0, 1) := by decide +kernel
theorem dX7_comes_137 : decode cX7_comes 137 = .ok (.getfield 43, 3) := by decide +kernel
theorem dX7_comes_140 : decode cX7_comes 140 = .ok (.iload_n 2, 1) := by decide +kernel
theorem dX7_comes_141 : decode cX7_comes 141 = .ok (.iconst 1, 1) := by decide +kernel
theorem dX7_comes_142 : decode cX7_comes 142 = .ok (.iadd, 1) := by decide +kernel
theorem dX7_comes_143 : decode cX7_comes 143 = .ok (.iaload, 1) := by decide +kernel
theorem dX7_comes_144 : decode cX7_comes 144 = .ok (.invokevirtual 129, 3) := by decide +kernel
theorem dX7_comes_147 : decode cX7_comes 147 = .ok (.ifCond .eq 23, 3) := by decide +kernel
theorem dX7_comes_150 : decode cX7_comes 150 = .ok (.aload_n 0, 1) := by decide +kernel
theorem dX7_comes_151 : decode cX7_comes 151 = .ok (.iconst 5, 1) := by decide +kernel
theorem dX7_comes_152 : decode cX7_comes 152 = .ok (.aload_n 0, 1) := by decide +kernel
theorem dX7_comes_153 : decode cX7_comes 153 = .ok (.getfield 43, 3) := by decide +kernel
theorem dX7_comes_156 : decode cX7_comes 156 = .ok (.iload_n 2, 1) := by decide +kernel
theorem dX7_comes_157 : decode cX7_comes 157 = .ok (.iconst 2, 1) := by decide +kernel
theorem dX7_comes_158 : decode cX7_comes 158 = .ok (.iadd, 1) := by decide +kernel
theorem dX7_comes_159 : decode cX7_comes 159 = .ok (.iaload, 1) := by decide +kernel
theorem dX7_comes_160 : decode cX7_comes 160 = .ok (.invokevirtual 129, 3) := by decide +kernel
theorem dX7_comes_163 : decode cX7_comes 163 = .ok (.ifCond .eq 7, 3) := by decide +kernel
theorem dX7_comes_166 : decode cX7_comes 166 = .ok (.iconst 1, 1) := by decide +kernel
theorem dX7_comes_167 : decode cX7_comes 167 = .ok (.goto 4, 3) := by decide +kernel
theorem dX7_comes_170 : decode cX7_comes 170 = .ok (.iconst 0, 1) := by decide +kernel
theorem dX7_comes_171 : decode cX7_comes 171 = .ok (.ireturn, 1) := by decide +kernel
theorem dX7_comes_172 : decode cX7_comes 172 = .ok (.iload_n 3, 1) := by decide +kernel
theorem dX7_comes_173 : decode cX7_comes 173 = .ok (.iconst 1, 1) := by decide +kernel
theorem dX7_comes_174 : decode cX7_comes 174 = .ok (.bipush 60, 2) := by decide +kernel
theorem dX7_comes_176 : decode cX7_comes 176 = .ok (.invokestatic 87, 3) := by decide +kernel
theorem dX7_comes_179 : decode cX7_comes 179 = .ok (.ifCond .eq 15, 3) := by decide +kernel
theorem dX7_comes_182 : decode cX7_comes 182 = .ok (.aload_n 0, 1) := by decide +kernel
theorem dX7_comes_183 : decode cX7_comes 183 = .ok (.getfield 138, 3) := by decide +kernel
theorem dX7_comes_186 : decode cX7_comes 186 = .ok (.iload_n 3, 1) := by decide +kernel
theorem dX7_comes_187 : decode cX7_comes 187 = .ok (.iadd, 1) := by decide +kernel
theorem dX7_comes_188 : decode cX7_comes 188 = .ok (.sipush 9999, 3) := by decide +kernel
theorem dX7_comes_191 : decode cX7_comes 191 = .ok (.if_icmp .le 5, 3) := by decide +kernel
theorem dX7_comes_194 : decode cX7_comes 194 = .ok (.iconst 0, 1) := by decide +kernel
theorem dX7_comes_195 : decode cX7_comes 195 = .ok (.ireturn, 1) := by decide +kernel
theorem dX7_comes_196 : decode cX7_comes 196 = .ok (.aload_n 0, 1) := by decide +kernel
theorem dX7_comes_197 : decode cX7_comes 197 = .ok (.iload_n 3, 1) := by decide +kernel
theorem dX7_comes_198 : decode cX7_comes 198 = .ok (.invokevirtual 141, 3) := by decide +kernel
theorem dX7_comes_201 : decode cX7_comes 201 = .ok (.iconst 1, 1) := by decide +kernel
theorem dX7_comes_202 : decode cX7_comes 202 = .ok (.ireturn, 1) := by decide +kernel
theorem dX7_parlour_0 : decode cX7_parlour 0 = .ok (.aload_n 0, 1) := by decide +kernel
theorem dX7_parlour_1 : decode cX7_parlour 1 = .ok (.iconst 0, 1) := by decide +kernel
theorem dX7_parlour_2 : decode cX7_parlour 2 = .ok (.putfield 80, 3) := by decide +kernel
theorem dX7_parlour_5 : decode cX7_parlour 5 = .ok (.aload_n 0, 1) := by decide +kernel
theorem dX7_parlour_6 : decode cX7_parlour 6 = .ok (.iconst 0, 1) := by decide +kernel
theorem dX7_parlour_7 : decode cX7_parlour 7 = .ok (.putfield 114, 3) := by decide +kernel
theorem dX7_parlour_10 : decode cX7_parlour 10 = .ok (.iconst 1, 1) := by decide +kernel
theorem dX7_parlour_11 : decode cX7_parlour 11 = .ok (.istore_n 1, 1) := by decide +kernel
theorem dX7_parlour_12 : decode cX7_parlour 12 = .ok (.iload_n 1, 1) := by decide +kernel
theorem dX7_parlour_13 : decode cX7_parlour 13 = .ok (.ifCond .eq 47, 3) := by decide +kernel
theorem dX7_parlour_16 : decode cX7_parlour 16 = .ok (.aload_n 0, 1) := by decide +kernel
theorem dX7_parlour_17 : decode cX7_parlour 17 = .ok (.getfield 80, 3) := by decide +kernel
theorem dX7_parlour_20 : decode cX7_parlour 20 = .ok (.aload_n 0, 1) := by decide +kernel
theorem dX7_parlour_21 : decode cX7_parlour 21 = .ok (.getfield 73, 3) := by decide +kernel
theorem dX7_parlour_24 : decode cX7_parlour 24 = .ok (.if_icmp .lt 10, 3) := by decide +kernel
theorem dX7_parlour_27 : decode cX7_parlour 27 = .ok (.aload_n 0, 1) := by decide +kernel
theorem dX7_parlour_28 : decode cX7_parlour 28 = .ok (.getfield 114, 3) := by decide +kernel
theorem dX7_parlour_31 : decode cX7_parlour 31 = .ok (.ifCond .ne 29, 3) := by decide +kernel
theorem dX7_parlour_34 : decode cX7_parlour 34 = .ok (.aload_n 0, 1) := by decide +kernel
theorem dX7_parlour_35 : decode cX7_parlour 35 = .ok (.invokevirtual 145, 3) := by decide +kernel
theorem dX7_parlour_38 : decode cX7_parlour 38 = .ok (.istore_n 1, 1) := by decide +kernel
theorem dX7_parlour_39 : decode cX7_parlour 39 = .ok (.aload_n 0, 1) := by decide +kernel
theorem dX7_parlour_40 : decode cX7_parlour 40 = .ok (.dup, 1) := by decide +kernel
theorem dX7_parlour_41 : decode cX7_parlour 41 = .ok (.getfield 114, 3) := by decide +kernel
theorem dX7_parlour_44 : decode cX7_parlour 44 = .ok (.iload_n 1, 1) := by decide +kernel
theorem dX7_parlour_45 : decode cX7_parlour 45 = .ok (.ifCond .eq 7, 3) := by decide +kernel
theorem dX7_parlour_48 : decode cX7_parlour 48 = .ok (.iconst 1, 1) := by decide +kernel
theorem dX7_parlour_49 : decode cX7_parlour 49 = .ok (.goto 4, 3) := by decide +kernel
theorem dX7_parlour_52 : decode cX7_parlour 52 = .ok (.iconst 0, 1) := by decide +kernel
theorem dX7_parlour_53 : decode cX7_parlour 53 = .ok (.iadd, 1) := by decide +kernel
theorem dX7_parlour_54 : decode cX7_parlour 54 = .ok (.putfield 114, 3) := by decide +kernel
theorem dX7_parlour_57 : decode cX7_parlour 57 = .ok (.goto (-45), 3) := by decide +kernel
theorem dX7_parlour_60 : decode cX7_parlour 60 = .ok (.aload_n 0, 1) := by decide +kernel
theorem dX7_parlour_61 : decode cX7_parlour 61 = .ok (.iconst 0, 1) := by decide +kernel
theorem dX7_parlour_62 : decode cX7_parlour 62 = .ok (.putfield 73, 3) := by decide +kernel
theorem dX7_parlour_65 : decode cX7_parlour 65 = .ok (.iload_n 1, 1) := by decide +kernel
theorem dX7_parlour_66 : decode cX7_parlour 66 = .ok (.ifCond .ne 12, 3) := by decide +kernel
theorem dX7_parlour_69 : decode cX7_parlour 69 = .ok (.sipush (-1000), 3) := by decide +kernel
theorem dX7_parlour_72 : decode cX7_parlour 72 = .ok (.aload_n 0, 1) := by decide +kernel
theorem dX7_parlour_73 : decode cX7_parlour 73 = .ok (.getfield 80, 3) := by decide +kernel
theorem dX7_parlour_76 : decode cX7_parlour 76 = .ok (.isub, 1) := by decide +kernel
theorem dX7_parlour_77 : decode cX7_parlour 77 = .ok (.ireturn, 1) := by decide +kernel
theorem dX7_parlour_78 : decode cX7_parlour 78 = .ok (.aload_n 0, 1) := by decide +kernel
theorem dX7_parlour_79 : decode cX7_parlour 79 = .ok (.iconst 1, 1) := by decide +kernel
theorem dX7_parlour_80 : decode cX7_parlour 80 = .ok (.iconst 1, 1) := by decide +kernel
theorem dX7_parlour_81 : decode cX7_parlour 81 = .ok (.invokevirtual 149, 3) := by decide +kernel
theorem dX7_parlour_84 : decode cX7_parlour 84 = .ok (.iconst 0, 1) := by decide +kernel
theorem dX7_parlour_85 : decode cX7_parlour 85 = .ok (.istore_n 2, 1) := by decide +kernel
theorem dX7_parlour_86 : decode cX7_parlour 86 = .ok (.iload_n 2, 1) := by decide +kernel
theorem dX7_parlour_87 : decode cX7_parlour 87 = .ok (.aload_n 0, 1) := by decide +kernel
theorem dX7_parlour_88 : decode cX7_parlour 88 = .ok (.getfield 114, 3) := by decide +kernel
theorem dX7_parlour_91 : decode cX7_parlour 91 = .ok (.if_icmp .ge 37, 3) := by decide +kernel
theorem dX7_parlour_94 : decode cX7_parlour 94 = .ok (.aload_n 0, 1) := by decide +kernel
theorem dX7_parlour_95 : decode cX7_parlour 95 = .ok (.iload_n 2, 1) := by decide +kernel
theorem dX7_parlour_96 : decode cX7_parlour 96 = .ok (.invokevirtual 153, 3) := by decide +kernel
theorem dX7_parlour_99 : decode cX7_parlour 99 = .ok (.ifCond .eq 6, 3) := by decide +kernel
theorem dX7_parlour_102 : decode cX7_parlour 102 = .ok (.goto 20, 3) := by decide +kernel
theorem dX7_parlour_105 : decode cX7_parlour 105 = .ok (.aload_n 0, 1) := by decide +kernel
theorem dX7_parlour_106 : decode cX7_parlour 106 = .ok (.iconst 1, 1) := by decide +kernel
theorem dX7_parlour_107 : decode cX7_parlour 107 = .ok (.iconst 0, 1) := by decide +kernel
theorem dX7_parlour_108 : decode cX7_parlour 108 = .ok (.invokevirtual 149, 3) := by decide +kernel
theorem dX7_parlour_111 : decode cX7_parlour 111 = .ok (.sipush (-2000), 3) := by decide +kernel
theorem dX7_parlour_114 : decode cX7_parlour 114 = .ok (.aload_n 0, 1) := by decide +kernel
theorem dX7_parlour_115 : decode cX7_parlour 115 = .ok (.getfield 40, 3) := by decide +kernel
theorem dX7_parlour_118 : decode cX7_parlour 118 = .ok (.iload_n 2, 1) := by decide +kernel
theorem dX7_parlour_119 : decode cX7_parlour 119 = .ok (.iaload, 1) := by decide +kernel
theorem dX7_parlour_120 : decode cX7_parlour 120 = .ok (.isub, 1) := by decide +kernel
theorem dX7_parlour_121 : decode cX7_parlour 121 = .ok (.ireturn, 1) := by decide +kernel
theorem dX7_parlour_122 : decode cX7_parlour 122 = .ok (.iinc 2 1, 3) := by decide +kernel
theorem dX7_parlour_125 : decode cX7_parlour 125 = .ok (.goto (-39), 3) := by decide +kernel
theorem dX7_parlour_128 : decode cX7_parlour 128 = .ok (.aload_n 0, 1) := by decide +kernel
theorem dX7_parlour_129 : decode cX7_parlour 129 = .ok (.getfield 114, 3) := by decide +kernel
theorem dX7_parlour_132 : decode cX7_parlour 132 = .ok (.ireturn, 1) := by decide +kernel
theorem dX7_passes_0 : decode cX7_passes 0 = .ok (.iconst 0, 1) := by decide +kernel
theorem dX7_passes_1 : decode cX7_passes 1 = .ok (.istore_n 2, 1) := by decide +kernel
theorem dX7_passes_2 : decode cX7_passes 2 = .ok (.iload_n 2, 1) := by decide +kernel
theorem dX7_passes_3 : decode cX7_passes 3 = .ok (.aload_n 1, 1) := by decide +kernel
theorem dX7_passes_4 : decode cX7_passes 4 = .ok (.arraylength, 1) := by decide +kernel
theorem dX7_passes_5 : decode cX7_passes 5 = .ok (.if_icmp .ge 53, 3) := by decide +kernel
theorem dX7_passes_8 : decode cX7_passes 8 = .ok (.aload_n 0, 1) := by decide +kernel
theorem dX7_passes_9 : decode cX7_passes 9 = .ok (.getfield 156, 3) := by decide +kernel
theorem dX7_passes_12 : decode cX7_passes 12 = .ok (.ifCond .eq 18, 3) := by decide +kernel
theorem dX7_passes_15 : decode cX7_passes 15 = .ok (.aload_n 0, 1) := by decide +kernel
theorem dX7_passes_16 : decode cX7_passes 16 = .ok (.getfield 46, 3) := by decide +kernel
theorem dX7_passes_19 : decode cX7_passes 19 = .ok (.aload_n 0, 1) := by decide +kernel
theorem dX7_passes_20 : decode cX7_passes 20 = .ok (.getfield 160, 3) := by decide +kernel
theorem dX7_passes_23 : decode cX7_passes 23 = .ok (.aload_n 1, 1) := by decide +kernel
theorem dX7_passes_24 : decode cX7_passes 24 = .ok (.iload_n 2, 1) := by decide +kernel
theorem dX7_passes_25 : decode cX7_passes 25 = .ok (.iaload, 1) := by decide +kernel
theorem dX7_passes_26 : decode cX7_passes 26 = .ok (.iastore, 1) := by decide +kernel
theorem dX7_passes_27 : decode cX7_passes 27 = .ok (.goto 15, 3) := by decide +kernel
theorem dX7_passes_30 : decode cX7_passes 30 = .ok (.aload_n 1, 1) := by decide +kernel
theorem dX7_passes_31 : decode cX7_passes 31 = .ok (.iload_n 2, 1) := by decide +kernel
theorem dX7_passes_32 : decode cX7_passes 32 = .ok (.aload_n 0, 1) := by decide +kernel
theorem dX7_passes_33 : decode cX7_passes 33 = .ok (.getfield 46, 3) := by decide +kernel
theorem dX7_passes_36 : decode cX7_passes 36 = .ok (.aload_n 0, 1) := by decide +kernel
theorem dX7_passes_37 : decode cX7_passes 37 = .ok (.getfield 160, 3) := by decide +kernel
theorem dX7_passes_40 : decode cX7_passes 40 = .ok (.iaload, 1) := by decide +kernel
theorem dX7_passes_41 : decode cX7_passes 41 = .ok (.iastore, 1) := by decide +kernel
theorem dX7_passes_42 : decode cX7_passes 42 = .ok (.aload_n 0, 1) := by decide +kernel
theorem dX7_passes_43 : decode cX7_passes 43 = .ok (.dup, 1) := by decide +kernel
theorem dX7_passes_44 : decode cX7_passes 44 = .ok (.getfield 160, 3) := by decide +kernel
theorem dX7_passes_47 : decode cX7_passes 47 = .ok (.iconst 1, 1) := by decide +kernel
theorem dX7_passes_48 : decode cX7_passes 48 = .ok (.iadd, 1) := by decide +kernel
theorem dX7_passes_49 : decode cX7_passes 49 = .ok (.putfield 160, 3) := by decide +kernel
theorem dX7_passes_52 : decode cX7_passes 52 = .ok (.iinc 2 1, 3) := by decide +kernel
theorem dX7_passes_55 : decode cX7_passes 55 = .ok (.goto (-53), 3) := by decide +kernel
theorem dX7_passes_58 : decode cX7_passes 58 = .ok (.return_, 1) := by decide +kernel
theorem dX7_passOne_0 : decode cX7_passOne 0 = .ok (.aload_n 0, 1) := by decide +kernel
theorem dX7_passOne_1 : decode cX7_passOne 1 = .ok (.getfield 156, 3) := by decide +kernel
theorem dX7_passOne_4 : decode cX7_passOne 4 = .ok (.ifCond .eq 7, 3) := by decide +kernel
theorem dX7_passOne_7 : decode cX7_passOne 7 = .ok (.iload_n 1, 1) := by decide +kernel
theorem dX7_passOne_8 : decode cX7_passOne 8 = .ok (.goto 12, 3) := by decide +kernel
theorem dX7_passOne_11 : decode cX7_passOne 11 = .ok (.aload_n 0, 1) := by decide +kernel
theorem dX7_passOne_12 : decode cX7_passOne 12 = .ok (.getfield 46, 3) := by decide +kernel
theorem dX7_passOne_15 : decode cX7_passOne 15 = .ok (.aload_n 0, 1) := by decide +kernel
theorem dX7_passOne_16 : decode cX7_passOne 16 = .ok (.getfield 160, 3) := by decide +kernel
theorem dX7_passOne_19 : decode cX7_passOne 19 = .ok (.iaload, 1) := by decide +kernel
theorem dX7_passOne_20 : decode cX7_passOne 20 = .ok (.istore_n 2, 1) := by decide +kernel
theorem dX7_passOne_21 : decode cX7_passOne 21 = .ok (.aload_n 0, 1) := by decide +kernel
theorem dX7_passOne_22 : decode cX7_passOne 22 = .ok (.getfield 156, 3) := by decide +kernel
theorem dX7_passOne_25 : decode cX7_passOne 25 = .ok (.ifCond .eq 13, 3) := by decide +kernel
theorem dX7_passOne_28 : decode cX7_passOne 28 = .ok (.aload_n 0, 1) := by decide +kernel
theorem dX7_passOne_29 : decode cX7_passOne 29 = .ok (.getfield 46, 3) := by decide +kernel
theorem dX7_passOne_32 : decode cX7_passOne 32 = .ok (.aload_n 0, 1) := by decide +kernel
theorem dX7_passOne_33 : decode cX7_passOne 33 = .ok (.getfield 160, 3) := by decide +kernel
theorem dX7_passOne_36 : decode cX7_passOne 36 = .ok (.iload_n 1, 1) := by decide +kernel
theorem dX7_passOne_37 : decode cX7_passOne 37 = .ok (.iastore, 1) := by decide +kernel
theorem dX7_passOne_38 : decode cX7_passOne 38 = .ok (.aload_n 0, 1) := by decide +kernel
theorem dX7_passOne_39 : decode cX7_passOne 39 = .ok (.dup, 1) := by decide +kernel
theorem dX7_passOne_40 : decode cX7_passOne 40 = .ok (.getfield 160, 3) := by decide +kernel
theorem dX7_passOne_43 : decode cX7_passOne 43 = .ok (.iconst 1, 1) := by decide +kernel
theorem dX7_passOne_44 : decode cX7_passOne 44 = .ok (.iadd, 1) := by decide +kernel
theorem dX7_passOne_45 : decode cX7_passOne 45 = .ok (.putfield 160, 3) := by decide +kernel
theorem dX7_passOne_48 : decode cX7_passOne 48 = .ok (.iload_n 2, 1) := by decide +kernel
theorem dX7_passOne_49 : decode cX7_passOne 49 = .ok (.ireturn, 1) := by decide +kernel
theorem dX7_passesAll_0 : decode cX7_passesAll 0 = .ok (.aload_n 0, 1) := by decide +kernel
theorem dX7_passesAll_1 : decode cX7_passesAll 1 = .ok (.bipush 50, 2) := by decide +kernel
theorem dX7_passesAll_3 : decode cX7_passesAll 3 = .ok (.iload_n 1, 1) := by decide +kernel
theorem dX7_passesAll_4 : decode cX7_passesAll 4 = .ok (.imul, 1) := by decide +kernel
theorem dX7_passesAll_5 : decode cX7_passesAll 5 = .ok (.putfield 160, 3) := by decide +kernel
theorem dX7_passesAll_8 : decode cX7_passesAll 8 = .ok (.aload_n 0, 1) := by decide +kernel
theorem dX7_passesAll_9 : decode cX7_passesAll 9 = .ok (.iload_n 2, 1) := by decide +kernel
theorem dX7_passesAll_10 : decode cX7_passesAll 10 = .ok (.putfield 156, 3) := by decide +kernel
theorem dX7_passesAll_13 : decode cX7_passesAll 13 = .ok (.aload_n 0, 1) := by decide +kernel
theorem dX7_passesAll_14 : decode cX7_passesAll 14 = .ok (.aload_n 0, 1) := by decide +kernel
theorem dX7_passesAll_15 : decode cX7_passesAll 15 = .ok (.getfield 13, 3) := by decide +kernel
theorem dX7_passesAll_18 : decode cX7_passesAll 18 = .ok (.invokevirtual 163, 3) := by decide +kernel
theorem dX7_passesAll_21 : decode cX7_passesAll 21 = .ok (.aload_n 0, 1) := by decide +kernel
theorem dX7_passesAll_22 : decode cX7_passesAll 22 = .ok (.aload_n 0, 1) := by decide +kernel
theorem dX7_passesAll_23 : decode cX7_passesAll 23 = .ok (.getfield 16, 3) := by decide +kernel
theorem dX7_passesAll_26 : decode cX7_passesAll 26 = .ok (.invokevirtual 163, 3) := by decide +kernel
theorem dX7_passesAll_29 : decode cX7_passesAll 29 = .ok (.aload_n 0, 1) := by decide +kernel
theorem dX7_passesAll_30 : decode cX7_passesAll 30 = .ok (.aload_n 0, 1) := by decide +kernel
theorem dX7_passesAll_31 : decode cX7_passesAll 31 = .ok (.getfield 19, 3) := by decide +kernel
theorem dX7_passesAll_34 : decode cX7_passesAll 34 = .ok (.invokevirtual 163, 3) := by decide +kernel
theorem dX7_passesAll_37 : decode cX7_passesAll 37 = .ok (.aload_n 0, 1) := by decide +kernel
theorem dX7_passesAll_38 : decode cX7_passesAll 38 = .ok (.aload_n 0, 1) := by decide +kernel
theorem dX7_passesAll_39 : decode cX7_passesAll 39 = .ok (.getfield 22, 3) := by decide +kernel
theorem dX7_passesAll_42 : decode cX7_passesAll 42 = .ok (.invokevirtual 163, 3) := by decide +kernel
theorem dX7_passesAll_45 : decode cX7_passesAll 45 = .ok (.aload_n 0, 1) := by decide +kernel
theorem dX7_passesAll_46 : decode cX7_passesAll 46 = .ok (.aload_n 0, 1) := by decide +kernel
theorem dX7_passesAll_47 : decode cX7_passesAll 47 = .ok (.getfield 25, 3) := by decide +kernel
theorem dX7_passesAll_50 : decode cX7_passesAll 50 = .ok (.invokevirtual 163, 3) := by decide +kernel
theorem dX7_passesAll_53 : decode cX7_passesAll 53 = .ok (.aload_n 0, 1) := by decide +kernel
theorem dX7_passesAll_54 : decode cX7_passesAll 54 = .ok (.aload_n 0, 1) := by decide +kernel
theorem dX7_passesAll_55 : decode cX7_passesAll 55 = .ok (.getfield 28, 3) := by decide +kernel
theorem dX7_passesAll_58 : decode cX7_passesAll 58 = .ok (.invokevirtual 163, 3) := by decide +kernel
theorem dX7_passesAll_61 : decode cX7_passesAll 61 = .ok (.aload_n 0, 1) := by decide +kernel
theorem dX7_passesAll_62 : decode cX7_passesAll 62 = .ok (.aload_n 0, 1) := by decide +kernel
theorem dX7_passesAll_63 : decode cX7_passesAll 63 = .ok (.getfield 31, 3) := by decide +kernel
theorem dX7_passesAll_66 : decode cX7_passesAll 66 = .ok (.invokevirtual 163, 3) := by decide +kernel
theorem dX7_passesAll_69 : decode cX7_passesAll 69 = .ok (.aload_n 0, 1) := by decide +kernel
theorem dX7_passesAll_70 : decode cX7_passesAll 70 = .ok (.aload_n 0, 1) := by decide +kernel
theorem dX7_passesAll_71 : decode cX7_passesAll 71 = .ok (.aload_n 0, 1) := by decide +kernel
theorem dX7_passesAll_72 : decode cX7_passesAll 72 = .ok (.getfield 65, 3) := by decide +kernel
theorem dX7_passesAll_75 : decode cX7_passesAll 75 = .ok (.invokevirtual 167, 3) := by decide +kernel
theorem dX7_passesAll_78 : decode cX7_passesAll 78 = .ok (.putfield 65, 3) := by decide +kernel
theorem dX7_passesAll_81 : decode cX7_passesAll 81 = .ok (.aload_n 0, 1) := by decide +kernel
theorem dX7_passesAll_82 : decode cX7_passesAll 82 = .ok (.aload_n 0, 1) := by decide +kernel
theorem dX7_passesAll_83 : decode cX7_passesAll 83 = .ok (.aload_n 0, 1) := by decide +kernel
theorem dX7_passesAll_84 : decode cX7_passesAll 84 = .ok (.getfield 132, 3) := by decide +kernel
theorem dX7_passesAll_87 : decode cX7_passesAll 87 = .ok (.invokevirtual 167, 3) := by decide +kernel
theorem dX7_passesAll_90 : decode cX7_passesAll 90 = .ok (.putfield 132, 3) := by decide +kernel
theorem dX7_passesAll_93 : decode cX7_passesAll 93 = .ok (.aload_n 0, 1) := by decide +kernel
theorem dX7_passesAll_94 : decode cX7_passesAll 94 = .ok (.aload_n 0, 1) := by decide +kernel
theorem dX7_passesAll_95 : decode cX7_passesAll 95 = .ok (.aload_n 0, 1) := by decide +kernel
theorem dX7_passesAll_96 : decode cX7_passesAll 96 = .ok (.getfield 135, 3) := by decide +kernel
theorem dX7_passesAll_99 : decode cX7_passesAll 99 = .ok (.invokevirtual 167, 3) := by decide +kernel
theorem dX7_passesAll_102 : decode cX7_passesAll 102 = .ok (.putfield 135, 3) := by decide +kernel
theorem dX7_passesAll_105 : decode cX7_passesAll 105 = .ok (.aload_n 0, 1) := by decide +kernel
theorem dX7_passesAll_106 : decode cX7_passesAll 106 = .ok (.aload_n 0, 1) := by decide +kernel
theorem dX7_passesAll_107 : decode cX7_passesAll 107 = .ok (.aload_n 0, 1) := by decide +kernel
theorem dX7_passesAll_108 : decode cX7_passesAll 108 = .ok (.getfield 170, 3) := by decide +kernel
theorem dX7_passesAll_111 : decode cX7_passesAll 111 = .ok (.invokevirtual 167, 3) := by decide +kernel
theorem dX7_passesAll_114 : decode cX7_passesAll 114 = .ok (.putfield 170, 3) := by decide +kernel
theorem dX7_passesAll_117 : decode cX7_passesAll 117 = .ok (.aload_n 0, 1) := by decide +kernel
theorem dX7_passesAll_118 : decode cX7_passesAll 118 = .ok (.aload_n 0, 1) := by decide +kernel
theorem dX7_passesAll_119 : decode cX7_passesAll 119 = .ok (.aload_n 0, 1) := by decide +kernel
theorem dX7_passesAll_120 : decode cX7_passesAll 120 = .ok (.getfield 138, 3) := by decide +kernel
theorem dX7_passesAll_123 : decode cX7_passesAll 123 = .ok (.invokevirtual 167, 3) := by decide +kernel
theorem dX7_passesAll_126 : decode cX7_passesAll 126 = .ok (.putfield 138, 3) := by decide +kernel
theorem dX7_passesAll_129 : decode cX7_passesAll 129 = .ok (.return_, 1) := by decide +kernel
theorem dX7_image_0 : decode cX7_image 0 = .ok (.aload_n 0, 1) := by decide +kernel
theorem dX7_image_1 : decode cX7_image 1 = .ok (.iconst 1, 1) := by decide +kernel
theorem dX7_image_2 : decode cX7_image 2 = .ok (.putfield 173, 3) := by decide +kernel
theorem dX7_image_5 : decode cX7_image 5 = .ok (.aload_n 0, 1) := by decide +kernel
theorem dX7_image_6 : decode cX7_image 6 = .ok (.iconst 0, 1) := by decide +kernel
theorem dX7_image_7 : decode cX7_image 7 = .ok (.iconst 1, 1) := by decide +kernel
theorem dX7_image_8 : decode cX7_image 8 = .ok (.invokevirtual 149, 3) := by decide +kernel
theorem dX7_image_11 : decode cX7_image 11 = .ok (.aload_n 0, 1) := by decide +kernel
theorem dX7_image_12 : decode cX7_image 12 = .ok (.getfield 138, 3) := by decide +kernel
theorem dX7_image_15 : decode cX7_image 15 = .ok (.ireturn, 1) := by decide +kernel
theorem dX7_on_0 : decode cX7_on 0 = .ok (.aload_n 0, 1) := by decide +kernel
theorem dX7_on_1 : decode cX7_on 1 = .ok (.getfield 173, 3) := by decide +kernel
theorem dX7_on_4 : decode cX7_on 4 = .ok (.ifCond .ne 10, 3) := by decide +kernel
theorem dX7_on_7 : decode cX7_on 7 = .ok (.aload_n 0, 1) := by decide +kernel
theorem dX7_on_8 : decode cX7_on 8 = .ok (.bipush (-3), 2) := by decide +kernel
theorem dX7_on_10 : decode cX7_on 10 = .ok (.invokevirtual 76, 3) := by decide +kernel
theorem dX7_on_13 : decode cX7_on 13 = .ok (.ireturn, 1) := by decide +kernel
theorem dX7_on_14 : decode cX7_on 14 = .ok (.aload_n 0, 1) := by decide +kernel
theorem dX7_on_15 : decode cX7_on 15 = .ok (.iconst 0, 1) := by decide +kernel
theorem dX7_on_16 : decode cX7_on 16 = .ok (.iconst 0, 1) := by decide +kernel
theorem dX7_on_17 : decode cX7_on 17 = .ok (.invokevirtual 149, 3) := by decide +kernel
theorem dX7_on_20 : decode cX7_on 20 = .ok (.aload_n 0, 1) := by decide +kernel
theorem dX7_on_21 : decode cX7_on 21 = .ok (.getfield 138, 3) := by decide +kernel
theorem dX7_on_24 : decode cX7_on 24 = .ok (.ireturn, 1) := by decide +kernel
theorem dX7_swinging_0 : decode cX7_swinging 0 = .ok (.iload_n 1, 1) := by decide +kernel
theorem dX7_swinging_1 : decode cX7_swinging 1 = .ok (.bipush 10, 2) := by decide +kernel
theorem dX7_swinging_3 : decode cX7_swinging 3 = .ok (.idiv, 1) := by decide +kernel
theorem dX7_swinging_4 : decode cX7_swinging 4 = .ok (.iconst 2, 1) := by decide +kernel
theorem dX7_swinging_5 : decode cX7_swinging 5 = .ok (.irem, 1) := by decide +kernel
theorem dX7_swinging_6 : decode cX7_swinging 6 = .ok (.ifCond .ne 12, 3) := by decide +kernel
theorem dX7_swinging_9 : decode cX7_swinging 9 = .ok (.aload_n 0, 1) := by decide +kernel
theorem dX7_swinging_10 : decode cX7_swinging 10 = .ok (.getfield 13, 3) := by decide +kernel
theorem dX7_swinging_13 : decode cX7_swinging 13 = .ok (.iconst 3, 1) := by decide +kernel
theorem dX7_swinging_14 : decode cX7_swinging 14 = .ok (.iaload, 1) := by decide +kernel
theorem dX7_swinging_15 : decode cX7_swinging 15 = .ok (.goto 10, 3) := by decide +kernel
theorem dX7_swinging_18 : decode cX7_swinging 18 = .ok (.aload_n 0, 1) := by decide +kernel
theorem dX7_swinging_19 : decode cX7_swinging 19 = .ok (.getfield 13, 3) := by decide +kernel
theorem dX7_swinging_22 : decode cX7_swinging 22 = .ok (.iconst 3, 1) := by decide +kernel
theorem dX7_swinging_23 : decode cX7_swinging 23 = .ok (.iaload, 1) := by decide +kernel
theorem dX7_swinging_24 : decode cX7_swinging 24 = .ok (.ineg, 1) := by decide +kernel
theorem dX7_swinging_25 : decode cX7_swinging 25 = .ok (.ireturn, 1) := by decide +kernel
theorem dX7_cooling_0 : decode cX7_cooling 0 = .ok (.aload_n 0, 1) := by decide +kernel
theorem dX7_cooling_1 : decode cX7_cooling 1 = .ok (.getfield 13, 3) := by decide +kernel
theorem dX7_cooling_4 : decode cX7_cooling 4 = .ok (.iconst 3, 1) := by decide +kernel
theorem dX7_cooling_5 : decode cX7_cooling 5 = .ok (.iaload, 1) := by decide +kernel
theorem dX7_cooling_6 : decode cX7_cooling 6 = .ok (.invokestatic 176, 3) := by decide +kernel
theorem dX7_cooling_9 : decode cX7_cooling 9 = .ok (.iload_n 1, 1) := by decide +kernel
theorem dX7_cooling_10 : decode cX7_cooling 10 = .ok (.bipush 20, 2) := by decide +kernel
theorem dX7_cooling_12 : decode cX7_cooling 12 = .ok (.idiv, 1) := by decide +kernel
theorem dX7_cooling_13 : decode cX7_cooling 13 = .ok (.isub, 1) := by decide +kernel
theorem dX7_cooling_14 : decode cX7_cooling 14 = .ok (.istore_n 2, 1) := by decide +kernel
theorem dX7_cooling_15 : decode cX7_cooling 15 = .ok (.iload_n 2, 1) := by decide +kernel
theorem dX7_cooling_16 : decode cX7_cooling 16 = .ok (.ifCond .gt 7, 3) := by decide +kernel
theorem dX7_cooling_19 : decode cX7_cooling 19 = .ok (.iconst 0, 1) := by decide +kernel
theorem dX7_cooling_20 : decode cX7_cooling 20 = .ok (.goto 18, 3) := by decide +kernel
theorem dX7_cooling_23 : decode cX7_cooling 23 = .ok (.aload_n 0, 1) := by decide +kernel
theorem dX7_cooling_24 : decode cX7_cooling 24 = .ok (.getfield 13, 3) := by decide +kernel
theorem dX7_cooling_27 : decode cX7_cooling 27 = .ok (.iconst 3, 1) := by decide +kernel
theorem dX7_cooling_28 : decode cX7_cooling 28 = .ok (.iaload, 1) := by decide +kernel
theorem dX7_cooling_29 : decode cX7_cooling 29 = .ok (.ifCond .ge 8, 3) := by decide +kernel
theorem dX7_cooling_32 : decode cX7_cooling 32 = .ok (.iload_n 2, 1) := by decide +kernel
theorem dX7_cooling_33 : decode cX7_cooling 33 = .ok (.ineg, 1) := by decide +kernel
theorem dX7_cooling_34 : decode cX7_cooling 34 = .ok (.goto 4, 3) := by decide +kernel
theorem dX7_cooling_37 : decode cX7_cooling 37 = .ok (.iload_n 2, 1) := by decide +kernel
theorem dX7_cooling_38 : decode cX7_cooling 38 = .ok (.ireturn, 1) := by decide +kernel
theorem dX7_driftIn_0 : decode cX7_driftIn 0 = .ok (.aload_n 0, 1) := by decide +kernel
theorem dX7_driftIn_1 : decode cX7_driftIn 1 = .ok (.getfield 132, 3) := by decide +kernel
theorem dX7_driftIn_4 : decode cX7_driftIn 4 = .ok (.tableswitch 81 1 4 #[32, 38, 44, 63], 32) := by decide +kernel
theorem dX7_driftIn_36 : decode cX7_driftIn 36 = .ok (.aload_n 0, 1) := by decide +kernel
theorem dX7_driftIn_37 : decode cX7_driftIn 37 = .ok (.iload_n 1, 1) := by decide +kernel
theorem dX7_driftIn_38 : decode cX7_driftIn 38 = .ok (.invokevirtual 179, 3) := by decide +kernel
theorem dX7_driftIn_41 : decode cX7_driftIn 41 = .ok (.ireturn, 1) := by decide +kernel
theorem dX7_driftIn_42 : decode cX7_driftIn 42 = .ok (.aload_n 0, 1) := by decide +kernel
theorem dX7_driftIn_43 : decode cX7_driftIn 43 = .ok (.iload_n 1, 1) := by decide +kernel
theorem dX7_driftIn_44 : decode cX7_driftIn 44 = .ok (.invokevirtual 182, 3) := by decide +kernel
theorem dX7_driftIn_47 : decode cX7_driftIn 47 = .ok (.ireturn, 1) := by decide +kernel
theorem dX7_driftIn_48 : decode cX7_driftIn 48 = .ok (.iload_n 1, 1) := by decide +kernel
theorem dX7_driftIn_49 : decode cX7_driftIn 49 = .ok (.iconst 3, 1) := by decide +kernel
theorem dX7_driftIn_50 : decode cX7_driftIn 50 = .ok (.irem, 1) := by decide +kernel
theorem dX7_driftIn_51 : decode cX7_driftIn 51 = .ok (.ifCond .ne 14, 3) := by decide +kernel
theorem dX7_driftIn_54 : decode cX7_driftIn 54 = .ok (.iconst 3, 1) := by decide +kernel
theorem dX7_driftIn_55 : decode cX7_driftIn 55 = .ok (.aload_n 0, 1) := by decide +kernel
theorem dX7_driftIn_56 : decode cX7_driftIn 56 = .ok (.getfield 13, 3) := by decide +kernel
theorem dX7_driftIn_59 : decode cX7_driftIn 59 = .ok (.iconst 3, 1) := by decide +kernel
theorem dX7_driftIn_60 : decode cX7_driftIn 60 = .ok (.iaload, 1) := by decide +kernel
theorem dX7_driftIn_61 : decode cX7_driftIn 61 = .ok (.imul, 1) := by decide +kernel
theorem dX7_driftIn_62 : decode cX7_driftIn 62 = .ok (.goto 4, 3) := by decide +kernel
theorem dX7_driftIn_65 : decode cX7_driftIn 65 = .ok (.iconst 0, 1) := by decide +kernel
theorem dX7_driftIn_66 : decode cX7_driftIn 66 = .ok (.ireturn, 1) := by decide +kernel
theorem dX7_driftIn_67 : decode cX7_driftIn 67 = .ok (.aload_n 0, 1) := by decide +kernel
theorem dX7_driftIn_68 : decode cX7_driftIn 68 = .ok (.iload_n 1, 1) := by decide +kernel
theorem dX7_driftIn_69 : decode cX7_driftIn 69 = .ok (.invokevirtual 179, 3) := by decide +kernel
theorem dX7_driftIn_72 : decode cX7_driftIn 72 = .ok (.iload_n 1, 1) := by decide +kernel
theorem dX7_driftIn_73 : decode cX7_driftIn 73 = .ok (.iconst 2, 1) := by decide +kernel
theorem dX7_driftIn_74 : decode cX7_driftIn 74 = .ok (.irem, 1) := by decide +kernel
theorem dX7_driftIn_75 : decode cX7_driftIn 75 = .ok (.ifCond .ne 7, 3) := by decide +kernel
theorem dX7_driftIn_78 : decode cX7_driftIn 78 = .ok (.iconst 1, 1) := by decide +kernel
theorem dX7_driftIn_79 : decode cX7_driftIn 79 = .ok (.goto 4, 3) := by decide +kernel
theorem dX7_driftIn_82 : decode cX7_driftIn 82 = .ok (.iconst 0, 1) := by decide +kernel
theorem dX7_driftIn_83 : decode cX7_driftIn 83 = .ok (.iadd, 1) := by decide +kernel
theorem dX7_driftIn_84 : decode cX7_driftIn 84 = .ok (.ireturn, 1) := by decide +kernel
theorem dX7_driftIn_85 : decode cX7_driftIn 85 = .ok (.aload_n 0, 1) := by decide +kernel
theorem dX7_driftIn_86 : decode cX7_driftIn 86 = .ok (.getfield 13, 3) := by decide +kernel
theorem dX7_driftIn_89 : decode cX7_driftIn 89 = .ok (.iconst 3, 1) := by decide +kernel
theorem dX7_driftIn_90 : decode cX7_driftIn 90 = .ok (.iaload, 1) := by decide +kernel
theorem dX7_driftIn_91 : decode cX7_driftIn 91 = .ok (.ireturn, 1) := by decide +kernel
theorem dX7_botherOf_0 : decode cX7_botherOf 0 = .ok (.iload_n 2, 1) := by decide +kernel
theorem dX7_botherOf_1 : decode cX7_botherOf 1 = .ok (.aload_n 0, 1) := by decide +kernel
theorem dX7_botherOf_2 : decode cX7_botherOf 2 = .ok (.getfield 19, 3) := by decide +kernel
theorem dX7_botherOf_5 : decode cX7_botherOf 5 = .ok (.iload_n 1, 1) := by decide +kernel
theorem dX7_botherOf_6 : decode cX7_botherOf 6 = .ok (.iaload, 1) := by decide +kernel
theorem dX7_botherOf_7 : decode cX7_botherOf 7 = .ok (.imul, 1) := by decide +kernel
theorem dX7_botherOf_8 : decode cX7_botherOf 8 = .ok (.istore_n 3, 1) := by decide +kernel
theorem dX7_botherOf_9 : decode cX7_botherOf 9 = .ok (.aload_n 0, 1) := by decide +kernel
theorem dX7_botherOf_10 : decode cX7_botherOf 10 = .ok (.getfield 16, 3) := by decide +kernel
theorem dX7_botherOf_13 : decode cX7_botherOf 13 = .ok (.iload_n 1, 1) := by decide +kernel
theorem dX7_botherOf_14 : decode cX7_botherOf 14 = .ok (.iaload, 1) := by decide +kernel
theorem dX7_botherOf_15 : decode cX7_botherOf 15 = .ok (.tableswitch 127 1 4 #[29, 59, 63, 83], 29) := by decide +kernel
theorem dX7_botherOf_44 : decode cX7_botherOf 44 = .ok (.iload_n 2, 1) := by decide +kernel
theorem dX7_botherOf_45 : decode cX7_botherOf 45 = .ok (.aload_n 0, 1) := by decide +kernel
theorem dX7_botherOf_46 : decode cX7_botherOf 46 = .ok (.getfield 22, 3) := by decide +kernel
theorem dX7_botherOf_49 : decode cX7_botherOf 49 = .ok (.iload_n 1, 1) := by decide +kernel
theorem dX7_botherOf_50 : decode cX7_botherOf 50 = .ok (.iaload, 1) := by decide +kernel
theorem dX7_botherOf_51 : decode cX7_botherOf 51 = .ok (.if_icmp .ge 7, 3) := by decide +kernel
theorem dX7_botherOf_54 : decode cX7_botherOf 54 = .ok (.iconst 0, 1) := by decide +kernel
theorem dX7_botherOf_55 : decode cX7_botherOf 55 = .ok (.goto 18, 3) := by decide +kernel
theorem dX7_botherOf_58 : decode cX7_botherOf 58 = .ok (.iload_n 2, 1) := by decide +kernel
theorem dX7_botherOf_59 : decode cX7_botherOf 59 = .ok (.aload_n 0, 1) := by decide +kernel
theorem dX7_botherOf_60 : decode cX7_botherOf 60 = .ok (.getfield 22, 3) := by decide +kernel
theorem dX7_botherOf_63 : decode cX7_botherOf 63 = .ok (.iload_n 1, 1) := by decide +kernel
theorem dX7_botherOf_64 : decode cX7_botherOf 64 = .ok (.iaload, 1) := by decide +kernel
theorem dX7_botherOf_65 : decode cX7_botherOf 65 = .ok (.isub, 1) := by decide +kernel
theorem dX7_botherOf_66 : decode cX7_botherOf 66 = .ok (.aload_n 0, 1) := by decide +kernel
theorem dX7_botherOf_67 : decode cX7_botherOf 67 = .ok (.getfield 19, 3) := by decide +kernel
theorem dX7_botherOf_70 : decode cX7_botherOf 70 = .ok (.iload_n 1, 1) := by decide +kernel
theorem dX7_botherOf_71 : decode cX7_botherOf 71 = .ok (.iaload, 1) := by decide +kernel
theorem dX7_botherOf_72 : decode cX7_botherOf 72 = .ok (.imul, 1) := by decide +kernel
theorem dX7_botherOf_73 : decode cX7_botherOf 73 = .ok (.ireturn, 1) := by decide +kernel
theorem dX7_botherOf_74 : decode cX7_botherOf 74 = .ok (.iconst 2, 1) := by decide +kernel
theorem dX7_botherOf_75 : decode cX7_botherOf 75 = .ok (.iload_n 3, 1) := by decide +kernel
theorem dX7_botherOf_76 : decode cX7_botherOf 76 = .ok (.imul, 1) := by decide +kernel
theorem dX7_botherOf_77 : decode cX7_botherOf 77 = .ok (.ireturn, 1) := by decide +kernel
theorem dX7_botherOf_78 : decode cX7_botherOf 78 = .ok (.iconst 2, 1) := by decide +kernel
theorem dX7_botherOf_79 : decode cX7_botherOf 79 = .ok (.iload_n 3, 1) := by decide +kernel
theorem dX7_botherOf_80 : decode cX7_botherOf 80 = .ok (.imul, 1) := by decide +kernel
theorem dX7_botherOf_81 : decode cX7_botherOf 81 = .ok (.iload_n 2, 1) := by decide +kernel
theorem dX7_botherOf_82 : decode cX7_botherOf 82 = .ok (.iconst 2, 1) := by decide +kernel
theorem dX7_botherOf_83 : decode cX7_botherOf 83 = .ok (.if_icmp .le 12, 3) := by decide +kernel
theorem dX7_botherOf_86 : decode cX7_botherOf 86 = .ok (.aload_n 0, 1) := by decide +kernel
theorem dX7_botherOf_87 : decode cX7_botherOf 87 = .ok (.getfield 22, 3) := by decide +kernel
theorem dX7_botherOf_90 : decode cX7_botherOf 90 = .ok (.iload_n 1, 1) := by decide +kernel
theorem dX7_botherOf_91 : decode cX7_botherOf 91 = .ok (.iaload, 1) := by decide +kernel
theorem dX7_botherOf_92 : decode cX7_botherOf 92 = .ok (.goto 4, 3) := by decide +kernel
theorem dX7_botherOf_95 : decode cX7_botherOf 95 = .ok (.iconst 0, 1) := by decide +kernel
theorem dX7_botherOf_96 : decode cX7_botherOf 96 = .ok (.iadd, 1) := by decide +kernel
theorem dX7_botherOf_97 : decode cX7_botherOf 97 = .ok (.ireturn, 1) := by decide +kernel
theorem dX7_botherOf_98 : decode cX7_botherOf 98 = .ok (.iload_n 2, 1) := by decide +kernel
theorem dX7_botherOf_99 : decode cX7_botherOf 99 = .ok (.bipush 20, 2) := by decide +kernel
theorem dX7_botherOf_101 : decode cX7_botherOf 101 = .ok (.if_icmp .lt 7, 3) := by decide +kernel
theorem dX7_botherOf_104 : decode cX7_botherOf 104 = .ok (.iload_n 3, 1) := by decide +kernel
theorem dX7_botherOf_105 : decode cX7_botherOf 105 = .ok (.goto 36, 3) := by decide +kernel
theorem dX7_botherOf_108 : decode cX7_botherOf 108 = .ok (.iload_n 2, 1) := by decide +kernel
theorem dX7_botherOf_109 : decode cX7_botherOf 109 = .ok (.iconst 2, 1) := by decide +kernel
theorem dX7_botherOf_110 : decode cX7_botherOf 110 = .ok (.aload_n 0, 1) := by decide +kernel
theorem dX7_botherOf_111 : decode cX7_botherOf 111 = .ok (.getfield 22, 3) := by decide +kernel
theorem dX7_botherOf_114 : decode cX7_botherOf 114 = .ok (.iload_n 1, 1) := by decide +kernel
theorem dX7_botherOf_115 : decode cX7_botherOf 115 = .ok (.iaload, 1) := by decide +kernel
theorem dX7_botherOf_116 : decode cX7_botherOf 116 = .ok (.imul, 1) := by decide +kernel
theorem dX7_botherOf_117 : decode cX7_botherOf 117 = .ok (.if_icmp .ge 7, 3) := by decide +kernel
theorem dX7_botherOf_120 : decode cX7_botherOf 120 = .ok (.iconst 0, 1) := by decide +kernel
theorem dX7_botherOf_121 : decode cX7_botherOf 121 = .ok (.goto 20, 3) := by decide +kernel
theorem dX7_botherOf_124 : decode cX7_botherOf 124 = .ok (.iload_n 2, 1) := by decide +kernel
theorem dX7_botherOf_125 : decode cX7_botherOf 125 = .ok (.iconst 2, 1) := by decide +kernel
theorem dX7_botherOf_126 : decode cX7_botherOf 126 = .ok (.aload_n 0, 1) := by decide +kernel
theorem dX7_botherOf_127 : decode cX7_botherOf 127 = .ok (.getfield 22, 3) := by decide +kernel
theorem dX7_botherOf_130 : decode cX7_botherOf 130 = .ok (.iload_n 1, 1) := by decide +kernel
theorem dX7_botherOf_131 : decode cX7_botherOf 131 = .ok (.iaload, 1) := by decide +kernel
theorem dX7_botherOf_132 : decode cX7_botherOf 132 = .ok (.imul, 1) := by decide +kernel
theorem dX7_botherOf_133 : decode cX7_botherOf 133 = .ok (.isub, 1) := by decide +kernel
theorem dX7_botherOf_134 : decode cX7_botherOf 134 = .ok (.aload_n 0, 1) := by decide +kernel
theorem dX7_botherOf_135 : decode cX7_botherOf 135 = .ok (.getfield 19, 3) := by decide +kernel
theorem dX7_botherOf_138 : decode cX7_botherOf 138 = .ok (.iload_n 1, 1) := by decide +kernel
theorem dX7_botherOf_139 : decode cX7_botherOf 139 = .ok (.iaload, 1) := by decide +kernel
theorem dX7_botherOf_140 : decode cX7_botherOf 140 = .ok (.imul, 1) := by decide +kernel
theorem dX7_botherOf_141 : decode cX7_botherOf 141 = .ok (.ireturn, 1) := by decide +kernel
theorem dX7_botherOf_142 : decode cX7_botherOf 142 = .ok (.iload_n 3, 1) := by decide +kernel
theorem dX7_botherOf_143 : decode cX7_botherOf 143 = .ok (.ireturn, 1) := by decide +kernel
theorem dX7_placeOf_0 : decode cX7_placeOf 0 = .ok (.aload_n 0, 1) := by decide +kernel
theorem dX7_placeOf_1 : decode cX7_placeOf 1 = .ok (.getfield 13, 3) := by decide +kernel
theorem dX7_placeOf_4 : decode cX7_placeOf 4 = .ok (.iconst 1, 1) := by decide +kernel
theorem dX7_placeOf_5 : decode cX7_placeOf 5 = .ok (.iload_n 1, 1) := by decide +kernel
theorem dX7_placeOf_6 : decode cX7_placeOf 6 = .ok (.iadd, 1) := by decide +kernel
theorem dX7_placeOf_7 : decode cX7_placeOf 7 = .ok (.iaload, 1) := by decide +kernel
theorem dX7_placeOf_8 : decode cX7_placeOf 8 = .ok (.ireturn, 1) := by decide +kernel
theorem dX7_isUp_0 : decode cX7_isUp 0 = .ok (.aload_n 0, 1) := by decide +kernel
theorem dX7_isUp_1 : decode cX7_isUp 1 = .ok (.getfield 13, 3) := by decide +kernel
theorem dX7_isUp_4 : decode cX7_isUp 4 = .ok (.iconst 0, 1) := by decide +kernel
theorem dX7_isUp_5 : decode cX7_isUp 5 = .ok (.iaload, 1) := by decide +kernel
theorem dX7_isUp_6 : decode cX7_isUp 6 = .ok (.aload_n 0, 1) := by decide +kernel
theorem dX7_isUp_7 : decode cX7_isUp 7 = .ok (.aload_n 0, 1) := by decide +kernel
theorem dX7_isUp_8 : decode cX7_isUp 8 = .ok (.getfield 25, 3) := by decide +kernel
theorem dX7_isUp_11 : decode cX7_isUp 11 = .ok (.aload_n 0, 1) := by decide +kernel
theorem dX7_isUp_12 : decode cX7_isUp 12 = .ok (.getfield 170, 3) := by decide +kernel
theorem dX7_isUp_15 : decode cX7_isUp 15 = .ok (.iaload, 1) := by decide +kernel
theorem dX7_isUp_16 : decode cX7_isUp 16 = .ok (.invokevirtual 185, 3) := by decide +kernel
theorem dX7_isUp_19 : decode cX7_isUp 19 = .ok (.isub, 1) := by decide +kernel
theorem dX7_isUp_20 : decode cX7_isUp 20 = .ok (.invokestatic 176, 3) := by decide +kernel
theorem dX7_isUp_23 : decode cX7_isUp 23 = .ok (.istore_n 1, 1) := by decide +kernel
theorem dX7_isUp_24 : decode cX7_isUp 24 = .ok (.aload_n 0, 1) := by decide +kernel
theorem dX7_isUp_25 : decode cX7_isUp 25 = .ok (.getfield 135, 3) := by decide +kernel
theorem dX7_isUp_28 : decode cX7_isUp 28 = .ok (.tableswitch 72 2 5 #[32, 72, 52, 70], 32) := by decide +kernel
theorem dX7_isUp_60 : decode cX7_isUp 60 = .ok (.aload_n 0, 1) := by decide +kernel
theorem dX7_isUp_61 : decode cX7_isUp 61 = .ok (.getfield 138, 3) := by decide +kernel
theorem dX7_isUp_64 : decode cX7_isUp 64 = .ok (.aload_n 0, 1) := by decide +kernel
theorem dX7_isUp_65 : decode cX7_isUp 65 = .ok (.getfield 13, 3) := by decide +kernel
theorem dX7_isUp_68 : decode cX7_isUp 68 = .ok (.iconst 4, 1) := by decide +kernel
theorem dX7_isUp_69 : decode cX7_isUp 69 = .ok (.iaload, 1) := by decide +kernel
theorem dX7_isUp_70 : decode cX7_isUp 70 = .ok (.irem, 1) := by decide +kernel
theorem dX7_isUp_71 : decode cX7_isUp 71 = .ok (.ifCond .ne 7, 3) := by decide +kernel
theorem dX7_isUp_74 : decode cX7_isUp 74 = .ok (.iconst 1, 1) := by decide +kernel
theorem dX7_isUp_75 : decode cX7_isUp 75 = .ok (.goto 4, 3) := by decide +kernel
theorem dX7_isUp_78 : decode cX7_isUp 78 = .ok (.iconst 0, 1) := by decide +kernel
theorem dX7_isUp_79 : decode cX7_isUp 79 = .ok (.ireturn, 1) := by decide +kernel
theorem dX7_isUp_80 : decode cX7_isUp 80 = .ok (.iload_n 1, 1) := by decide +kernel
theorem dX7_isUp_81 : decode cX7_isUp 81 = .ok (.iconst 2, 1) := by decide +kernel
theorem dX7_isUp_82 : decode cX7_isUp 82 = .ok (.aload_n 0, 1) := by decide +kernel
theorem dX7_isUp_83 : decode cX7_isUp 83 = .ok (.getfield 13, 3) := by decide +kernel
theorem dX7_isUp_86 : decode cX7_isUp 86 = .ok (.iconst 4, 1) := by decide +kernel
theorem dX7_isUp_87 : decode cX7_isUp 87 = .ok (.iaload, 1) := by decide +kernel
theorem dX7_isUp_88 : decode cX7_isUp 88 = .ok (.imul, 1) := by decide +kernel
theorem dX7_isUp_89 : decode cX7_isUp 89 = .ok (.if_icmp .le 7, 3) := by decide +kernel
theorem dX7_isUp_92 : decode cX7_isUp 92 = .ok (.iconst 1, 1) := by decide +kernel
theorem dX7_isUp_93 : decode cX7_isUp 93 = .ok (.goto 4, 3) := by decide +kernel
theorem dX7_isUp_96 : decode cX7_isUp 96 = .ok (.iconst 0, 1) := by decide +kernel
theorem dX7_isUp_97 : decode cX7_isUp 97 = .ok (.ireturn, 1) := by decide +kernel
theorem dX7_isUp_98 : decode cX7_isUp 98 = .ok (.iconst 0, 1) := by decide +kernel
theorem dX7_isUp_99 : decode cX7_isUp 99 = .ok (.ireturn, 1) := by decide +kernel
theorem dX7_isUp_100 : decode cX7_isUp 100 = .ok (.iload_n 1, 1) := by decide +kernel
theorem dX7_isUp_101 : decode cX7_isUp 101 = .ok (.aload_n 0, 1) := by decide +kernel
theorem dX7_isUp_102 : decode cX7_isUp 102 = .ok (.getfield 13, 3) := by decide +kernel
theorem dX7_isUp_105 : decode cX7_isUp 105 = .ok (.iconst 4, 1) := by decide +kernel
theorem dX7_isUp_106 : decode cX7_isUp 106 = .ok (.iaload, 1) := by decide +kernel
theorem dX7_isUp_107 : decode cX7_isUp 107 = .ok (.if_icmp .le 7, 3) := by decide +kernel
theorem dX7_isUp_110 : decode cX7_isUp 110 = .ok (.iconst 1, 1) := by decide +kernel
theorem dX7_isUp_111 : decode cX7_isUp 111 = .ok (.goto 4, 3) := by decide +kernel
theorem dX7_isUp_114 : decode cX7_isUp 114 = .ok (.iconst 0, 1) := by decide +kernel
theorem dX7_isUp_115 : decode cX7_isUp 115 = .ok (.ireturn, 1) := by decide +kernel
theorem dX7_shouldBe_0 : decode cX7_shouldBe 0 = .ok (.aload_n 0, 1) := by decide +kernel
theorem dX7_shouldBe_1 : decode cX7_shouldBe 1 = .ok (.aload_n 0, 1) := by decide +kernel
theorem dX7_shouldBe_2 : decode cX7_shouldBe 2 = .ok (.getfield 25, 3) := by decide +kernel
theorem dX7_shouldBe_5 : decode cX7_shouldBe 5 = .ok (.aload_n 0, 1) := by decide +kernel
theorem dX7_shouldBe_6 : decode cX7_shouldBe 6 = .ok (.getfield 170, 3) := by decide +kernel
theorem dX7_shouldBe_9 : decode cX7_shouldBe 9 = .ok (.iaload, 1) := by decide +kernel
theorem dX7_shouldBe_10 : decode cX7_shouldBe 10 = .ok (.invokevirtual 185, 3) := by decide +kernel
theorem dX7_shouldBe_13 : decode cX7_shouldBe 13 = .ok (.istore_n 1, 1) := by decide +kernel
theorem dX7_shouldBe_14 : decode cX7_shouldBe 14 = .ok (.aload_n 0, 1) := by decide +kernel
theorem dX7_shouldBe_15 : decode cX7_shouldBe 15 = .ok (.aload_n 0, 1) := by decide +kernel
theorem dX7_shouldBe_16 : decode cX7_shouldBe 16 = .ok (.getfield 138, 3) := by decide +kernel
theorem dX7_shouldBe_19 : decode cX7_shouldBe 19 = .ok (.invokevirtual 188, 3) := by decide +kernel
theorem dX7_shouldBe_22 : decode cX7_shouldBe 22 = .ok (.istore_n 2, 1) := by decide +kernel
theorem dX7_shouldBe_23 : decode cX7_shouldBe 23 = .ok (.aload_n 0, 1) := by decide +kernel
theorem dX7_shouldBe_24 : decode cX7_shouldBe 24 = .ok (.getfield 135, 3) := by decide +kernel
theorem dX7_shouldBe_27 : decode cX7_shouldBe 27 = .ok (.iconst 3, 1) := by decide +kernel
theorem dX7_shouldBe_28 : decode cX7_shouldBe 28 = .ok (.if_icmp .ne 19, 3) := by decide +kernel
theorem dX7_shouldBe_31 : decode cX7_shouldBe 31 = .ok (.aload_n 0, 1) := by decide +kernel
theorem dX7_shouldBe_32 : decode cX7_shouldBe 32 = .ok (.getfield 13, 3) := by decide +kernel
theorem dX7_shouldBe_35 : decode cX7_shouldBe 35 = .ok (.iconst 1, 1) := by decide +kernel
theorem dX7_shouldBe_36 : decode cX7_shouldBe 36 = .ok (.iaload, 1) := by decide +kernel
theorem dX7_shouldBe_37 : decode cX7_shouldBe 37 = .ok (.aload_n 0, 1) := by decide +kernel
theorem dX7_shouldBe_38 : decode cX7_shouldBe 38 = .ok (.getfield 13, 3) := by decide +kernel
theorem dX7_shouldBe_41 : decode cX7_shouldBe 41 = .ok (.iconst 2, 1) := by decide +kernel
theorem dX7_shouldBe_42 : decode cX7_shouldBe 42 = .ok (.iaload, 1) := by decide +kernel
theorem dX7_shouldBe_43 : decode cX7_shouldBe 43 = .ok (.iadd, 1) := by decide +kernel
theorem dX7_shouldBe_44 : decode cX7_shouldBe 44 = .ok (.iconst 2, 1) := by decide +kernel
theorem dX7_shouldBe_45 : decode cX7_shouldBe 45 = .ok (.idiv, 1) := by decide +kernel
theorem dX7_shouldBe_46 : decode cX7_shouldBe 46 = .ok (.ireturn, 1) := by decide +kernel
theorem dX7_shouldBe_47 : decode cX7_shouldBe 47 = .ok (.aload_n 0, 1) := by decide +kernel
theorem dX7_shouldBe_48 : decode cX7_shouldBe 48 = .ok (.getfield 135, 3) := by decide +kernel
theorem dX7_shouldBe_51 : decode cX7_shouldBe 51 = .ok (.iconst 1, 1) := by decide +kernel
theorem dX7_shouldBe_52 : decode cX7_shouldBe 52 = .ok (.if_icmp .eq 13, 3) := by decide +kernel
theorem dX7_shouldBe_55 : decode cX7_shouldBe 55 = .ok (.aload_n 0, 1) := by decide +kernel
theorem dX7_shouldBe_56 : decode cX7_shouldBe 56 = .ok (.getfield 135, 3) := by decide +kernel
theorem dX7_shouldBe_59 : decode cX7_shouldBe 59 = .ok (.iconst 4, 1) := by decide +kernel
theorem dX7_shouldBe_60 : decode cX7_shouldBe 60 = .ok (.if_icmp .eq 5, 3) := by decide +kernel
theorem dX7_shouldBe_63 : decode cX7_shouldBe 63 = .ok (.iload_n 1, 1) := by decide +kernel
theorem dX7_shouldBe_64 : decode cX7_shouldBe 64 = .ok (.ireturn, 1) := by decide +kernel
theorem dX7_shouldBe_65 : decode cX7_shouldBe 65 = .ok (.iload_n 2, 1) := by decide +kernel
theorem dX7_shouldBe_66 : decode cX7_shouldBe 66 = .ok (.ifCond .le 14, 3) := by decide +kernel
theorem dX7_shouldBe_69 : decode cX7_shouldBe 69 = .ok (.iload_n 1, 1) := by decide +kernel
theorem dX7_shouldBe_70 : decode cX7_shouldBe 70 = .ok (.aload_n 0, 1) := by decide +kernel
theorem dX7_shouldBe_71 : decode cX7_shouldBe 71 = .ok (.getfield 13, 3) := by decide +kernel
theorem dX7_shouldBe_74 : decode cX7_shouldBe 74 = .ok (.iconst 5, 1) := by decide +kernel
theorem dX7_shouldBe_75 : decode cX7_shouldBe 75 = .ok (.iaload, 1) := by decide +kernel
theorem dX7_shouldBe_76 : decode cX7_shouldBe 76 = .ok (.isub, 1) := by decide +kernel
theorem dX7_shouldBe_77 : decode cX7_shouldBe 77 = .ok (.goto 19, 3) := by decide +kernel
theorem dX7_shouldBe_80 : decode cX7_shouldBe 80 = .ok (.iload_n 2, 1) := by decide +kernel
theorem dX7_shouldBe_81 : decode cX7_shouldBe 81 = .ok (.ifCond .ge 14, 3) := by decide +kernel
theorem dX7_shouldBe_84 : decode cX7_shouldBe 84 = .ok (.iload_n 1, 1) := by decide +kernel
theorem dX7_shouldBe_85 : decode cX7_shouldBe 85 = .ok (.aload_n 0, 1) := by decide +kernel
theorem dX7_shouldBe_86 : decode cX7_shouldBe 86 = .ok (.getfield 13, 3) := by decide +kernel
theorem dX7_shouldBe_89 : decode cX7_shouldBe 89 = .ok (.iconst 5, 1) := by decide +kernel
theorem dX7_shouldBe_90 : decode cX7_shouldBe 90 = .ok (.iaload, 1) := by decide +kernel
theorem dX7_shouldBe_91 : decode cX7_shouldBe 91 = .ok (.iadd, 1) := by decide +kernel
theorem dX7_shouldBe_92 : decode cX7_shouldBe 92 = .ok (.goto 4, 3) := by decide +kernel
theorem dX7_shouldBe_95 : decode cX7_shouldBe 95 = .ok (.iload_n 1, 1) := by decide +kernel
theorem dX7_shouldBe_96 : decode cX7_shouldBe 96 = .ok (.ireturn, 1) := by decide +kernel
theorem dX7_turnsTo_0 : decode cX7_turnsTo 0 = .ok (.iload_n 1, 1) := by decide +kernel
theorem dX7_turnsTo_1 : decode cX7_turnsTo 1 = .ok (.aload_n 0, 1) := by decide +kernel
theorem dX7_turnsTo_2 : decode cX7_turnsTo 2 = .ok (.getfield 13, 3) := by decide +kernel
theorem dX7_turnsTo_5 : decode cX7_turnsTo 5 = .ok (.iconst 0, 1) := by decide +kernel
theorem dX7_turnsTo_6 : decode cX7_turnsTo 6 = .ok (.iaload, 1) := by decide +kernel
theorem dX7_turnsTo_7 : decode cX7_turnsTo 7 = .ok (.isub, 1) := by decide +kernel
theorem dX7_turnsTo_8 : decode cX7_turnsTo 8 = .ok (.invokestatic 176, 3) := by decide +kernel
theorem dX7_turnsTo_11 : decode cX7_turnsTo 11 = .ok (.istore_n 3, 1) := by decide +kernel
theorem dX7_turnsTo_12 : decode cX7_turnsTo 12 = .ok (.iload_n 3, 1) := by decide +kernel
theorem dX7_turnsTo_13 : decode cX7_turnsTo 13 = .ok (.iload_n 2, 1) := by decide +kernel
theorem dX7_turnsTo_14 : decode cX7_turnsTo 14 = .ok (.idiv, 1) := by decide +kernel
theorem dX7_turnsTo_15 : decode cX7_turnsTo 15 = .ok (.iconst 2, 1) := by decide +kernel
theorem dX7_turnsTo_16 : decode cX7_turnsTo 16 = .ok (.iload_n 3, 1) := by decide +kernel
theorem dX7_turnsTo_17 : decode cX7_turnsTo 17 = .ok (.iload_n 2, 1) := by decide +kernel
theorem dX7_turnsTo_18 : decode cX7_turnsTo 18 = .ok (.irem, 1) := by decide +kernel
theorem dX7_turnsTo_19 : decode cX7_turnsTo 19 = .ok (.imul, 1) := by decide +kernel
theorem dX7_turnsTo_20 : decode cX7_turnsTo 20 = .ok (.iload_n 2, 1) := by decide +kernel
theorem dX7_turnsTo_21 : decode cX7_turnsTo 21 = .ok (.if_icmp .le 7, 3) := by decide +kernel
theorem dX7_turnsTo_24 : decode cX7_turnsTo 24 = .ok (.iconst 1, 1) := by decide +kernel
theorem dX7_turnsTo_25 : decode cX7_turnsTo 25 = .ok (.goto 4, 3) := by decide +kernel
theorem dX7_turnsTo_28 : decode cX7_turnsTo 28 = .ok (.iconst 0, 1) := by decide +kernel
theorem dX7_turnsTo_29 : decode cX7_turnsTo 29 = .ok (.iadd, 1) := by decide +kernel
theorem dX7_turnsTo_30 : decode cX7_turnsTo 30 = .ok (.istore 4, 2) := by decide +kernel
theorem dX7_turnsTo_32 : decode cX7_turnsTo 32 = .ok (.aload_n 0, 1) := by decide +kernel
theorem dX7_turnsTo_33 : decode cX7_turnsTo 33 = .ok (.getfield 13, 3) := by decide +kernel
theorem dX7_turnsTo_36 : decode cX7_turnsTo 36 = .ok (.iconst 0, 1) := by decide +kernel
theorem dX7_turnsTo_37 : decode cX7_turnsTo 37 = .ok (.dup2, 1) := by decide +kernel
theorem dX7_turnsTo_38 : decode cX7_turnsTo 38 = .ok (.iaload, 1) := by decide +kernel
theorem dX7_turnsTo_39 : decode cX7_turnsTo 39 = .ok (.iload_n 1, 1) := by decide +kernel
theorem dX7_turnsTo_40 : decode cX7_turnsTo 40 = .ok (.aload_n 0, 1) := by decide +kernel
theorem dX7_turnsTo_41 : decode cX7_turnsTo 41 = .ok (.getfield 13, 3) := by decide +kernel
theorem dX7_turnsTo_44 : decode cX7_turnsTo 44 = .ok (.iconst 0, 1) := by decide +kernel
theorem dX7_turnsTo_45 : decode cX7_turnsTo 45 = .ok (.iaload, 1) := by decide +kernel
theorem dX7_turnsTo_46 : decode cX7_turnsTo 46 = .ok (.if_icmp .ge 11, 3) := by decide +kernel
theorem dX7_turnsTo_49 : decode cX7_turnsTo 49 = .ok (.iload 4, 2) := by decide +kernel
theorem dX7_turnsTo_51 : decode cX7_turnsTo 51 = .ok (.ineg, 1) := by decide +kernel
theorem dX7_turnsTo_52 : decode cX7_turnsTo 52 = .ok (.iload_n 2, 1) := by decide +kernel
theorem dX7_turnsTo_53 : decode cX7_turnsTo 53 = .ok (.imul, 1) := by decide +kernel
theorem dX7_turnsTo_54 : decode cX7_turnsTo 54 = .ok (.goto 7, 3) := by decide +kernel
theorem dX7_turnsTo_57 : decode cX7_turnsTo 57 = .ok (.iload 4, 2) := by decide +kernel
theorem dX7_turnsTo_59 : decode cX7_turnsTo 59 = .ok (.iload_n 2, 1) := by decide +kernel
theorem dX7_turnsTo_60 : decode cX7_turnsTo 60 = .ok (.imul, 1) := by decide +kernel
theorem dX7_turnsTo_61 : decode cX7_turnsTo 61 = .ok (.iadd, 1) := by decide +kernel
theorem dX7_turnsTo_62 : decode cX7_turnsTo 62 = .ok (.iastore, 1) := by decide +kernel
theorem dX7_turnsTo_63 : decode cX7_turnsTo 63 = .ok (.return_, 1) := by decide +kernel
theorem dX7_begins_0 : decode cX7_begins 0 = .ok (.iconst 0, 1) := by decide +kernel
theorem dX7_begins_1 : decode cX7_begins 1 = .ok (.istore_n 1, 1) := by decide +kernel
theorem dX7_begins_2 : decode cX7_begins 2 = .ok (.iload_n 1, 1) := by decide +kernel
theorem dX7_begins_3 : decode cX7_begins 3 = .ok (.iconst 5, 1) := by decide +kernel
theorem dX7_begins_4 : decode cX7_begins 4 = .ok (.if_icmp .ge 23, 3) := by decide +kernel
theorem dX7_begins_7 : decode cX7_begins 7 = .ok (.aload_n 0, 1) := by decide +kernel
theorem dX7_begins_8 : decode cX7_begins 8 = .ok (.getfield 49, 3) := by decide +kernel
theorem dX7_begins_11 : decode cX7_begins 11 = .ok (.iload_n 1, 1) := by decide +kernel
theorem dX7_begins_12 : decode cX7_begins 12 = .ok (.iconst 0, 1) := by decide +kernel
theorem dX7_begins_13 : decode cX7_begins 13 = .ok (.iastore, 1) := by decide +kernel
theorem dX7_begins_14 : decode cX7_begins 14 = .ok (.aload_n 0, 1) := by decide +kernel
theorem dX7_begins_15 : decode cX7_begins 15 = .ok (.getfield 52, 3) := by decide +kernel
theorem dX7_begins_18 : decode cX7_begins 18 = .ok (.iload_n 1, 1) := by decide +kernel
theorem dX7_begins_19 : decode cX7_begins 19 = .ok (.iconst 0, 1) := by decide +kernel
theorem dX7_begins_20 : decode cX7_begins 20 = .ok (.iastore, 1) := by decide +kernel
theorem dX7_begins_21 : decode cX7_begins 21 = .ok (.iinc 1 1, 3) := by decide +kernel
theorem dX7_begins_24 : decode cX7_begins 24 = .ok (.goto (-22), 3) := by decide +kernel
theorem dX7_begins_27 : decode cX7_begins 27 = .ok (.aload_n 0, 1) := by decide +kernel
theorem dX7_begins_28 : decode cX7_begins 28 = .ok (.iconst 0, 1) := by decide +kernel
theorem dX7_begins_29 : decode cX7_begins 29 = .ok (.putfield 191, 3) := by decide +kernel
theorem dX7_begins_32 : decode cX7_begins 32 = .ok (.aload_n 0, 1) := by decide +kernel
theorem dX7_begins_33 : decode cX7_begins 33 = .ok (.iconst 0, 1) := by decide +kernel
theorem dX7_begins_34 : decode cX7_begins 34 = .ok (.putfield 194, 3) := by decide +kernel
theorem dX7_begins_37 : decode cX7_begins 37 = .ok (.aload_n 0, 1) := by decide +kernel
theorem dX7_begins_38 : decode cX7_begins 38 = .ok (.iconst 0, 1) := by decide +kernel
theorem dX7_begins_39 : decode cX7_begins 39 = .ok (.putfield 197, 3) := by decide +kernel
theorem dX7_begins_42 : decode cX7_begins 42 = .ok (.aload_n 0, 1) := by decide +kernel
theorem dX7_begins_43 : decode cX7_begins 43 = .ok (.iconst 0, 1) := by decide +kernel
theorem dX7_begins_44 : decode cX7_begins 44 = .ok (.putfield 200, 3) := by decide +kernel
theorem dX7_begins_47 : decode cX7_begins 47 = .ok (.aload_n 0, 1) := by decide +kernel
theorem dX7_begins_48 : decode cX7_begins 48 = .ok (.bipush (-9), 2) := by decide +kernel
theorem dX7_begins_50 : decode cX7_begins 50 = .ok (.putfield 203, 3) := by decide +kernel
theorem dX7_begins_53 : decode cX7_begins 53 = .ok (.aload_n 0, 1) := by decide +kernel
theorem dX7_begins_54 : decode cX7_begins 54 = .ok (.iconst 0, 1) := by decide +kernel
theorem dX7_begins_55 : decode cX7_begins 55 = .ok (.putfield 206, 3) := by decide +kernel
theorem dX7_begins_58 : decode cX7_begins 58 = .ok (.return_, 1) := by decide +kernel
theorem dX7_getsUp_0 : decode cX7_getsUp 0 = .ok (.aload_n 0, 1) := by decide +kernel
theorem dX7_getsUp_1 : decode cX7_getsUp 1 = .ok (.aload_n 0, 1) := by decide +kernel
theorem dX7_getsUp_2 : decode cX7_getsUp 2 = .ok (.invokevirtual 209, 3) := by decide +kernel
theorem dX7_getsUp_5 : decode cX7_getsUp 5 = .ok (.aload_n 0, 1) := by decide +kernel
theorem dX7_getsUp_6 : decode cX7_getsUp 6 = .ok (.getfield 28, 3) := by decide +kernel
theorem dX7_getsUp_9 : decode cX7_getsUp 9 = .ok (.aload_n 0, 1) := by decide +kernel
theorem dX7_getsUp_10 : decode cX7_getsUp 10 = .ok (.getfield 170, 3) := by decide +kernel
theorem dX7_getsUp_13 : decode cX7_getsUp 13 = .ok (.iaload, 1) := by decide +kernel
theorem dX7_getsUp_14 : decode cX7_getsUp 14 = .ok (.invokevirtual 212, 3) := by decide +kernel
theorem dX7_getsUp_17 : decode cX7_getsUp 17 = .ok (.aload_n 0, 1) := by decide +kernel
theorem dX7_getsUp_18 : decode cX7_getsUp 18 = .ok (.getfield 52, 3) := by decide +kernel
theorem dX7_getsUp_21 : decode cX7_getsUp 21 = .ok (.aload_n 0, 1) := by decide +kernel
theorem dX7_getsUp_22 : decode cX7_getsUp 22 = .ok (.getfield 170, 3) := by decide +kernel
theorem dX7_getsUp_25 : decode cX7_getsUp 25 = .ok (.dup2, 1) := by decide +kernel
theorem dX7_getsUp_26 : decode cX7_getsUp 26 = .ok (.iaload, 1) := by decide +kernel
theorem dX7_getsUp_27 : decode cX7_getsUp 27 = .ok (.iconst 1, 1) := by decide +kernel
theorem dX7_getsUp_28 : decode cX7_getsUp 28 = .ok (.iadd, 1) := by decide +kernel
theorem dX7_getsUp_29 : decode cX7_getsUp 29 = .ok (.iastore, 1) := by decide +kernel
theorem dX7_getsUp_30 : decode cX7_getsUp 30 = .ok (.aload_n 0, 1) := by decide +kernel
theorem dX7_getsUp_31 : decode cX7_getsUp 31 = .ok (.dup, 1) := by decide +kernel
theorem dX7_getsUp_32 : decode cX7_getsUp 32 = .ok (.getfield 194, 3) := by decide +kernel
theorem dX7_getsUp_35 : decode cX7_getsUp 35 = .ok (.aload_n 0, 1) := by decide +kernel
theorem dX7_getsUp_36 : decode cX7_getsUp 36 = .ok (.getfield 31, 3) := by decide +kernel
theorem dX7_getsUp_39 : decode cX7_getsUp 39 = .ok (.aload_n 0, 1) := by decide +kernel
theorem dX7_getsUp_40 : decode cX7_getsUp 40 = .ok (.getfield 170, 3) := by decide +kernel
theorem dX7_getsUp_43 : decode cX7_getsUp 43 = .ok (.iaload, 1) := by decide +kernel
theorem dX7_getsUp_44 : decode cX7_getsUp 44 = .ok (.iadd, 1) := by decide +kernel
theorem dX7_getsUp_45 : decode cX7_getsUp 45 = .ok (.putfield 194, 3) := by decide +kernel
theorem dX7_getsUp_48 : decode cX7_getsUp 48 = .ok (.aload_n 0, 1) := by decide +kernel
theorem dX7_getsUp_49 : decode cX7_getsUp 49 = .ok (.getfield 58, 3) := by decide +kernel
theorem dX7_getsUp_52 : decode cX7_getsUp 52 = .ok (.aload_n 0, 1) := by decide +kernel
theorem dX7_getsUp_53 : decode cX7_getsUp 53 = .ok (.getfield 191, 3) := by decide +kernel
theorem dX7_getsUp_56 : decode cX7_getsUp 56 = .ok (.aload_n 0, 1) := by decide +kernel
theorem dX7_getsUp_57 : decode cX7_getsUp 57 = .ok (.getfield 206, 3) := by decide +kernel
theorem dX7_getsUp_60 : decode cX7_getsUp 60 = .ok (.iastore, 1) := by decide +kernel
theorem dX7_getsUp_61 : decode cX7_getsUp 61 = .ok (.aload_n 0, 1) := by decide +kernel
theorem dX7_getsUp_62 : decode cX7_getsUp 62 = .ok (.dup, 1) := by decide +kernel
theorem dX7_getsUp_63 : decode cX7_getsUp 63 = .ok (.getfield 191, 3) := by decide +kernel
theorem dX7_getsUp_66 : decode cX7_getsUp 66 = .ok (.iconst 1, 1) := by decide +kernel
theorem dX7_getsUp_67 : decode cX7_getsUp 67 = .ok (.iadd, 1) := by decide +kernel
theorem dX7_getsUp_68 : decode cX7_getsUp 68 = .ok (.putfield 191, 3) := by decide +kernel
theorem dX7_getsUp_71 : decode cX7_getsUp 71 = .ok (.aload_n 0, 1) := by decide +kernel
theorem dX7_getsUp_72 : decode cX7_getsUp 72 = .ok (.aload_n 0, 1) := by decide +kernel
theorem dX7_getsUp_73 : decode cX7_getsUp 73 = .ok (.getfield 170, 3) := by decide +kernel
theorem dX7_getsUp_76 : decode cX7_getsUp 76 = .ok (.putfield 203, 3) := by decide +kernel
theorem dX7_getsUp_79 : decode cX7_getsUp 79 = .ok (.aload_n 0, 1) := by decide +kernel
theorem dX7_getsUp_80 : decode cX7_getsUp 80 = .ok (.aload_n 0, 1) := by decide +kernel
theorem dX7_getsUp_81 : decode cX7_getsUp 81 = .ok (.getfield 170, 3) := by decide +kernel
theorem dX7_getsUp_84 : decode cX7_getsUp 84 = .ok (.iconst 1, 1) := by decide +kernel
theorem dX7_getsUp_85 : decode cX7_getsUp 85 = .ok (.iadd, 1) := by decide +kernel
theorem dX7_getsUp_86 : decode cX7_getsUp 86 = .ok (.aload_n 0, 1) := by decide +kernel
theorem dX7_getsUp_87 : decode cX7_getsUp 87 = .ok (.getfield 65, 3) := by decide +kernel
theorem dX7_getsUp_90 : decode cX7_getsUp 90 = .ok (.irem, 1) := by decide +kernel
theorem dX7_getsUp_91 : decode cX7_getsUp 91 = .ok (.putfield 170, 3) := by decide +kernel
theorem dX7_getsUp_94 : decode cX7_getsUp 94 = .ok (.return_, 1) := by decide +kernel
theorem dX7_goesOne_0 : decode cX7_goesOne 0 = .ok (.aload_n 0, 1) := by decide +kernel
theorem dX7_goesOne_1 : decode cX7_goesOne 1 = .ok (.getfield 13, 3) := by decide +kernel
theorem dX7_goesOne_4 : decode cX7_goesOne 4 = .ok (.iconst 0, 1) := by decide +kernel
theorem dX7_goesOne_5 : decode cX7_goesOne 5 = .ok (.iaload, 1) := by decide +kernel
theorem dX7_goesOne_6 : decode cX7_goesOne 6 = .ok (.aload_n 0, 1) := by decide +kernel
theorem dX7_goesOne_7 : decode cX7_goesOne 7 = .ok (.aload_n 0, 1) := by decide +kernel
theorem dX7_goesOne_8 : decode cX7_goesOne 8 = .ok (.getfield 138, 3) := by decide +kernel
theorem dX7_goesOne_11 : decode cX7_goesOne 11 = .ok (.invokevirtual 188, 3) := by decide +kernel
theorem dX7_goesOne_14 : decode cX7_goesOne 14 = .ok (.iadd, 1) := by decide +kernel
theorem dX7_goesOne_15 : decode cX7_goesOne 15 = .ok (.istore_n 1, 1) := by decide +kernel
theorem dX7_goesOne_16 : decode cX7_goesOne 16 = .ok (.aload_n 0, 1) := by decide +kernel
theorem dX7_goesOne_17 : decode cX7_goesOne 17 = .ok (.getfield 13, 3) := by decide +kernel
theorem dX7_goesOne_20 : decode cX7_goesOne 20 = .ok (.iconst 0, 1) := by decide +kernel
theorem dX7_goesOne_21 : decode cX7_goesOne 21 = .ok (.iload_n 1, 1) := by decide +kernel
theorem dX7_goesOne_22 : decode cX7_goesOne 22 = .ok (.bipush (-99), 2) := by decide +kernel
theorem dX7_goesOne_24 : decode cX7_goesOne 24 = .ok (.if_icmp .ge 8, 3) := by decide +kernel
theorem dX7_goesOne_27 : decode cX7_goesOne 27 = .ok (.bipush (-99), 2) := by decide +kernel
theorem dX7_goesOne_29 : decode cX7_goesOne 29 = .ok (.goto 15, 3) := by decide +kernel
theorem dX7_goesOne_32 : decode cX7_goesOne 32 = .ok (.iload_n 1, 1) := by decide +kernel
theorem dX7_goesOne_33 : decode cX7_goesOne 33 = .ok (.bipush 99, 2) := by decide +kernel
end
section
theorem dX7_goesOne_35 : decode cX7_goesOne 35 = .ok (.if_icmp .le 8, 3) := by decide +kernel
theorem dX7_goesOne_38 : decode cX7_goesOne 38 = .ok (.bipush 99, 2) := by decide +kernel
theorem dX7_goesOne_40 : decode cX7_goesOne 40 = .ok (.goto 4, 3) := by decide +kernel
theorem dX7_goesOne_43 : decode cX7_goesOne 43 = .ok (.iload_n 1, 1) := by decide +kernel
theorem dX7_goesOne_44 : decode cX7_goesOne 44 = .ok (.iastore, 1) := by decide +kernel
theorem dX7_goesOne_45 : decode cX7_goesOne 45 = .ok (.aload_n 0, 1) := by decide +kernel
theorem dX7_goesOne_46 : decode cX7_goesOne 46 = .ok (.getfield 65, 3) := by decide +kernel
theorem dX7_goesOne_49 : decode cX7_goesOne 49 = .ok (.ifCond .le 14, 3) := by decide +kernel
theorem dX7_goesOne_52 : decode cX7_goesOne 52 = .ok (.aload_n 0, 1) := by decide +kernel
theorem dX7_goesOne_53 : decode cX7_goesOne 53 = .ok (.invokevirtual 216, 3) := by decide +kernel
theorem dX7_goesOne_56 : decode cX7_goesOne 56 = .ok (.ifCond .eq 7, 3) := by decide +kernel
theorem dX7_goesOne_59 : decode cX7_goesOne 59 = .ok (.aload_n 0, 1) := by decide +kernel
theorem dX7_goesOne_60 : decode cX7_goesOne 60 = .ok (.invokevirtual 219, 3) := by decide +kernel
theorem dX7_goesOne_63 : decode cX7_goesOne 63 = .ok (.iconst 0, 1) := by decide +kernel
theorem dX7_goesOne_64 : decode cX7_goesOne 64 = .ok (.istore_n 2, 1) := by decide +kernel
theorem dX7_goesOne_65 : decode cX7_goesOne 65 = .ok (.iload_n 2, 1) := by decide +kernel
theorem dX7_goesOne_66 : decode cX7_goesOne 66 = .ok (.aload_n 0, 1) := by decide +kernel
theorem dX7_goesOne_67 : decode cX7_goesOne 67 = .ok (.getfield 65, 3) := by decide +kernel
theorem dX7_goesOne_70 : decode cX7_goesOne 70 = .ok (.if_icmp .ge 43, 3) := by decide +kernel
theorem dX7_goesOne_73 : decode cX7_goesOne 73 = .ok (.aload_n 0, 1) := by decide +kernel
theorem dX7_goesOne_74 : decode cX7_goesOne 74 = .ok (.getfield 49, 3) := by decide +kernel
theorem dX7_goesOne_77 : decode cX7_goesOne 77 = .ok (.iload_n 2, 1) := by decide +kernel
theorem dX7_goesOne_78 : decode cX7_goesOne 78 = .ok (.dup2, 1) := by decide +kernel
theorem dX7_goesOne_79 : decode cX7_goesOne 79 = .ok (.iaload, 1) := by decide +kernel
theorem dX7_goesOne_80 : decode cX7_goesOne 80 = .ok (.aload_n 0, 1) := by decide +kernel
theorem dX7_goesOne_81 : decode cX7_goesOne 81 = .ok (.iload_n 2, 1) := by decide +kernel
theorem dX7_goesOne_82 : decode cX7_goesOne 82 = .ok (.aload_n 0, 1) := by decide +kernel
theorem dX7_goesOne_83 : decode cX7_goesOne 83 = .ok (.getfield 13, 3) := by decide +kernel
theorem dX7_goesOne_86 : decode cX7_goesOne 86 = .ok (.iconst 0, 1) := by decide +kernel
theorem dX7_goesOne_87 : decode cX7_goesOne 87 = .ok (.iaload, 1) := by decide +kernel
theorem dX7_goesOne_88 : decode cX7_goesOne 88 = .ok (.aload_n 0, 1) := by decide +kernel
theorem dX7_goesOne_89 : decode cX7_goesOne 89 = .ok (.aload_n 0, 1) := by decide +kernel
theorem dX7_goesOne_90 : decode cX7_goesOne 90 = .ok (.getfield 25, 3) := by decide +kernel
theorem dX7_goesOne_93 : decode cX7_goesOne 93 = .ok (.iload_n 2, 1) := by decide +kernel
theorem dX7_goesOne_94 : decode cX7_goesOne 94 = .ok (.iaload, 1) := by decide +kernel
theorem dX7_goesOne_95 : decode cX7_goesOne 95 = .ok (.invokevirtual 185, 3) := by decide +kernel
theorem dX7_goesOne_98 : decode cX7_goesOne 98 = .ok (.isub, 1) := by decide +kernel
theorem dX7_goesOne_99 : decode cX7_goesOne 99 = .ok (.invokestatic 176, 3) := by decide +kernel
theorem dX7_goesOne_102 : decode cX7_goesOne 102 = .ok (.invokevirtual 222, 3) := by decide +kernel
theorem dX7_goesOne_105 : decode cX7_goesOne 105 = .ok (.iadd, 1) := by decide +kernel
theorem dX7_goesOne_106 : decode cX7_goesOne 106 = .ok (.iastore, 1) := by decide +kernel
theorem dX7_goesOne_107 : decode cX7_goesOne 107 = .ok (.iinc 2 1, 3) := by decide +kernel
theorem dX7_goesOne_110 : decode cX7_goesOne 110 = .ok (.goto (-45), 3) := by decide +kernel
theorem dX7_goesOne_113 : decode cX7_goesOne 113 = .ok (.aload_n 0, 1) := by decide +kernel
theorem dX7_goesOne_114 : decode cX7_goesOne 114 = .ok (.getfield 13, 3) := by decide +kernel
theorem dX7_goesOne_117 : decode cX7_goesOne 117 = .ok (.iconst 0, 1) := by decide +kernel
theorem dX7_goesOne_118 : decode cX7_goesOne 118 = .ok (.iaload, 1) := by decide +kernel
theorem dX7_goesOne_119 : decode cX7_goesOne 119 = .ok (.aload_n 0, 1) := by decide +kernel
theorem dX7_goesOne_120 : decode cX7_goesOne 120 = .ok (.getfield 13, 3) := by decide +kernel
theorem dX7_goesOne_123 : decode cX7_goesOne 123 = .ok (.iconst 1, 1) := by decide +kernel
theorem dX7_goesOne_124 : decode cX7_goesOne 124 = .ok (.iaload, 1) := by decide +kernel
theorem dX7_goesOne_125 : decode cX7_goesOne 125 = .ok (.isub, 1) := by decide +kernel
theorem dX7_goesOne_126 : decode cX7_goesOne 126 = .ok (.invokestatic 176, 3) := by decide +kernel
theorem dX7_goesOne_129 : decode cX7_goesOne 129 = .ok (.istore_n 2, 1) := by decide +kernel
theorem dX7_goesOne_130 : decode cX7_goesOne 130 = .ok (.aload_n 0, 1) := by decide +kernel
theorem dX7_goesOne_131 : decode cX7_goesOne 131 = .ok (.getfield 13, 3) := by decide +kernel
theorem dX7_goesOne_134 : decode cX7_goesOne 134 = .ok (.iconst 0, 1) := by decide +kernel
theorem dX7_goesOne_135 : decode cX7_goesOne 135 = .ok (.iaload, 1) := by decide +kernel
theorem dX7_goesOne_136 : decode cX7_goesOne 136 = .ok (.aload_n 0, 1) := by decide +kernel
theorem dX7_goesOne_137 : decode cX7_goesOne 137 = .ok (.getfield 13, 3) := by decide +kernel
theorem dX7_goesOne_140 : decode cX7_goesOne 140 = .ok (.iconst 2, 1) := by decide +kernel
theorem dX7_goesOne_141 : decode cX7_goesOne 141 = .ok (.iaload, 1) := by decide +kernel
theorem dX7_goesOne_142 : decode cX7_goesOne 142 = .ok (.isub, 1) := by decide +kernel
theorem dX7_goesOne_143 : decode cX7_goesOne 143 = .ok (.invokestatic 176, 3) := by decide +kernel
theorem dX7_goesOne_146 : decode cX7_goesOne 146 = .ok (.istore_n 3, 1) := by decide +kernel
theorem dX7_goesOne_147 : decode cX7_goesOne 147 = .ok (.aload_n 0, 1) := by decide +kernel
theorem dX7_goesOne_148 : decode cX7_goesOne 148 = .ok (.iload_n 2, 1) := by decide +kernel
theorem dX7_goesOne_149 : decode cX7_goesOne 149 = .ok (.aload_n 0, 1) := by decide +kernel
theorem dX7_goesOne_150 : decode cX7_goesOne 150 = .ok (.getfield 197, 3) := by decide +kernel
theorem dX7_goesOne_153 : decode cX7_goesOne 153 = .ok (.if_icmp .le 7, 3) := by decide +kernel
theorem dX7_goesOne_156 : decode cX7_goesOne 156 = .ok (.iload_n 2, 1) := by decide +kernel
theorem dX7_goesOne_157 : decode cX7_goesOne 157 = .ok (.goto 7, 3) := by decide +kernel
theorem dX7_goesOne_160 : decode cX7_goesOne 160 = .ok (.aload_n 0, 1) := by decide +kernel
theorem dX7_goesOne_161 : decode cX7_goesOne 161 = .ok (.getfield 197, 3) := by decide +kernel
theorem dX7_goesOne_164 : decode cX7_goesOne 164 = .ok (.putfield 197, 3) := by decide +kernel
theorem dX7_goesOne_167 : decode cX7_goesOne 167 = .ok (.aload_n 0, 1) := by decide +kernel
theorem dX7_goesOne_168 : decode cX7_goesOne 168 = .ok (.iload_n 3, 1) := by decide +kernel
theorem dX7_goesOne_169 : decode cX7_goesOne 169 = .ok (.aload_n 0, 1) := by decide +kernel
theorem dX7_goesOne_170 : decode cX7_goesOne 170 = .ok (.getfield 200, 3) := by decide +kernel
theorem dX7_goesOne_173 : decode cX7_goesOne 173 = .ok (.if_icmp .le 7, 3) := by decide +kernel
theorem dX7_goesOne_176 : decode cX7_goesOne 176 = .ok (.iload_n 3, 1) := by decide +kernel
theorem dX7_goesOne_177 : decode cX7_goesOne 177 = .ok (.goto 7, 3) := by decide +kernel
theorem dX7_goesOne_180 : decode cX7_goesOne 180 = .ok (.aload_n 0, 1) := by decide +kernel
theorem dX7_goesOne_181 : decode cX7_goesOne 181 = .ok (.getfield 200, 3) := by decide +kernel
theorem dX7_goesOne_184 : decode cX7_goesOne 184 = .ok (.putfield 200, 3) := by decide +kernel
theorem dX7_goesOne_187 : decode cX7_goesOne 187 = .ok (.aload_n 0, 1) := by decide +kernel
theorem dX7_goesOne_188 : decode cX7_goesOne 188 = .ok (.getfield 55, 3) := by decide +kernel
theorem dX7_goesOne_191 : decode cX7_goesOne 191 = .ok (.aload_n 0, 1) := by decide +kernel
theorem dX7_goesOne_192 : decode cX7_goesOne 192 = .ok (.getfield 206, 3) := by decide +kernel
theorem dX7_goesOne_195 : decode cX7_goesOne 195 = .ok (.aload_n 0, 1) := by decide +kernel
theorem dX7_goesOne_196 : decode cX7_goesOne 196 = .ok (.getfield 13, 3) := by decide +kernel
theorem dX7_goesOne_199 : decode cX7_goesOne 199 = .ok (.iconst 0, 1) := by decide +kernel
theorem dX7_goesOne_200 : decode cX7_goesOne 200 = .ok (.iaload, 1) := by decide +kernel
theorem dX7_goesOne_201 : decode cX7_goesOne 201 = .ok (.iastore, 1) := by decide +kernel
theorem dX7_goesOne_202 : decode cX7_goesOne 202 = .ok (.aload_n 0, 1) := by decide +kernel
theorem dX7_goesOne_203 : decode cX7_goesOne 203 = .ok (.dup, 1) := by decide +kernel
theorem dX7_goesOne_204 : decode cX7_goesOne 204 = .ok (.getfield 138, 3) := by decide +kernel
theorem dX7_goesOne_207 : decode cX7_goesOne 207 = .ok (.iconst 1, 1) := by decide +kernel
theorem dX7_goesOne_208 : decode cX7_goesOne 208 = .ok (.iadd, 1) := by decide +kernel
theorem dX7_goesOne_209 : decode cX7_goesOne 209 = .ok (.putfield 138, 3) := by decide +kernel
theorem dX7_goesOne_212 : decode cX7_goesOne 212 = .ok (.aload_n 0, 1) := by decide +kernel
theorem dX7_goesOne_213 : decode cX7_goesOne 213 = .ok (.dup, 1) := by decide +kernel
theorem dX7_goesOne_214 : decode cX7_goesOne 214 = .ok (.getfield 206, 3) := by decide +kernel
theorem dX7_goesOne_217 : decode cX7_goesOne 217 = .ok (.iconst 1, 1) := by decide +kernel
theorem dX7_goesOne_218 : decode cX7_goesOne 218 = .ok (.iadd, 1) := by decide +kernel
theorem dX7_goesOne_219 : decode cX7_goesOne 219 = .ok (.putfield 206, 3) := by decide +kernel
theorem dX7_goesOne_222 : decode cX7_goesOne 222 = .ok (.return_, 1) := by decide +kernel
theorem dX7_goes_0 : decode cX7_goes 0 = .ok (.aload_n 0, 1) := by decide +kernel
theorem dX7_goes_1 : decode cX7_goes 1 = .ok (.invokevirtual 226, 3) := by decide +kernel
theorem dX7_goes_4 : decode cX7_goes 4 = .ok (.iconst 0, 1) := by decide +kernel
theorem dX7_goes_5 : decode cX7_goes 5 = .ok (.istore_n 2, 1) := by decide +kernel
theorem dX7_goes_6 : decode cX7_goes 6 = .ok (.iload_n 2, 1) := by decide +kernel
theorem dX7_goes_7 : decode cX7_goes 7 = .ok (.iload_n 1, 1) := by decide +kernel
theorem dX7_goes_8 : decode cX7_goes 8 = .ok (.if_icmp .ge 13, 3) := by decide +kernel
theorem dX7_goes_11 : decode cX7_goes 11 = .ok (.aload_n 0, 1) := by decide +kernel
theorem dX7_goes_12 : decode cX7_goes 12 = .ok (.invokevirtual 229, 3) := by decide +kernel
theorem dX7_goes_15 : decode cX7_goes 15 = .ok (.iinc 2 1, 3) := by decide +kernel
theorem dX7_goes_18 : decode cX7_goes 18 = .ok (.goto (-12), 3) := by decide +kernel
theorem dX7_goes_21 : decode cX7_goes 21 = .ok (.return_, 1) := by decide +kernel
theorem dX7_costOf_0 : decode cX7_costOf 0 = .ok (.aload_n 0, 1) := by decide +kernel
theorem dX7_costOf_1 : decode cX7_costOf 1 = .ok (.getfield 194, 3) := by decide +kernel
theorem dX7_costOf_4 : decode cX7_costOf 4 = .ok (.istore_n 1, 1) := by decide +kernel
theorem dX7_costOf_5 : decode cX7_costOf 5 = .ok (.iconst 0, 1) := by decide +kernel
theorem dX7_costOf_6 : decode cX7_costOf 6 = .ok (.istore_n 2, 1) := by decide +kernel
theorem dX7_costOf_7 : decode cX7_costOf 7 = .ok (.iload_n 2, 1) := by decide +kernel
theorem dX7_costOf_8 : decode cX7_costOf 8 = .ok (.aload_n 0, 1) := by decide +kernel
theorem dX7_costOf_9 : decode cX7_costOf 9 = .ok (.getfield 65, 3) := by decide +kernel
theorem dX7_costOf_12 : decode cX7_costOf 12 = .ok (.if_icmp .ge 18, 3) := by decide +kernel
theorem dX7_costOf_15 : decode cX7_costOf 15 = .ok (.iload_n 1, 1) := by decide +kernel
theorem dX7_costOf_16 : decode cX7_costOf 16 = .ok (.aload_n 0, 1) := by decide +kernel
theorem dX7_costOf_17 : decode cX7_costOf 17 = .ok (.getfield 49, 3) := by decide +kernel
theorem dX7_costOf_20 : decode cX7_costOf 20 = .ok (.iload_n 2, 1) := by decide +kernel
theorem dX7_costOf_21 : decode cX7_costOf 21 = .ok (.iaload, 1) := by decide +kernel
theorem dX7_costOf_22 : decode cX7_costOf 22 = .ok (.iadd, 1) := by decide +kernel
theorem dX7_costOf_23 : decode cX7_costOf 23 = .ok (.istore_n 1, 1) := by decide +kernel
theorem dX7_costOf_24 : decode cX7_costOf 24 = .ok (.iinc 2 1, 3) := by decide +kernel
theorem dX7_costOf_27 : decode cX7_costOf 27 = .ok (.goto (-20), 3) := by decide +kernel
theorem dX7_costOf_30 : decode cX7_costOf 30 = .ok (.iload_n 1, 1) := by decide +kernel
theorem dX7_costOf_31 : decode cX7_costOf 31 = .ok (.ireturn, 1) := by decide +kernel
theorem dX7_thinks_0 : decode cX7_thinks 0 = .ok (.aload_n 0, 1) := by decide +kernel
theorem dX7_thinks_1 : decode cX7_thinks 1 = .ok (.getfield 13, 3) := by decide +kernel
theorem dX7_thinks_4 : decode cX7_thinks 4 = .ok (.iconst 0, 1) := by decide +kernel
theorem dX7_thinks_5 : decode cX7_thinks 5 = .ok (.iaload, 1) := by decide +kernel
theorem dX7_thinks_6 : decode cX7_thinks 6 = .ok (.istore_n 2, 1) := by decide +kernel
theorem dX7_thinks_7 : decode cX7_thinks 7 = .ok (.aload_n 0, 1) := by decide +kernel
theorem dX7_thinks_8 : decode cX7_thinks 8 = .ok (.getfield 138, 3) := by decide +kernel
theorem dX7_thinks_11 : decode cX7_thinks 11 = .ok (.istore_n 3, 1) := by decide +kernel
theorem dX7_thinks_12 : decode cX7_thinks 12 = .ok (.aload_n 0, 1) := by decide +kernel
theorem dX7_thinks_13 : decode cX7_thinks 13 = .ok (.getfield 170, 3) := by decide +kernel
theorem dX7_thinks_16 : decode cX7_thinks 16 = .ok (.istore 4, 2) := by decide +kernel
theorem dX7_thinks_18 : decode cX7_thinks 18 = .ok (.aload_n 0, 1) := by decide +kernel
theorem dX7_thinks_19 : decode cX7_thinks 19 = .ok (.iload_n 1, 1) := by decide +kernel
theorem dX7_thinks_20 : decode cX7_thinks 20 = .ok (.invokevirtual 141, 3) := by decide +kernel
theorem dX7_thinks_23 : decode cX7_thinks 23 = .ok (.aload_n 0, 1) := by decide +kernel
theorem dX7_thinks_24 : decode cX7_thinks 24 = .ok (.getfield 13, 3) := by decide +kernel
theorem dX7_thinks_27 : decode cX7_thinks 27 = .ok (.iconst 0, 1) := by decide +kernel
theorem dX7_thinks_28 : decode cX7_thinks 28 = .ok (.iload_n 2, 1) := by decide +kernel
theorem dX7_thinks_29 : decode cX7_thinks 29 = .ok (.iastore, 1) := by decide +kernel
theorem dX7_thinks_30 : decode cX7_thinks 30 = .ok (.aload_n 0, 1) := by decide +kernel
theorem dX7_thinks_31 : decode cX7_thinks 31 = .ok (.iload_n 3, 1) := by decide +kernel
theorem dX7_thinks_32 : decode cX7_thinks 32 = .ok (.putfield 138, 3) := by decide +kernel
theorem dX7_thinks_35 : decode cX7_thinks 35 = .ok (.aload_n 0, 1) := by decide +kernel
theorem dX7_thinks_36 : decode cX7_thinks 36 = .ok (.iload 4, 2) := by decide +kernel
theorem dX7_thinks_38 : decode cX7_thinks 38 = .ok (.putfield 170, 3) := by decide +kernel
theorem dX7_thinks_41 : decode cX7_thinks 41 = .ok (.aload_n 0, 1) := by decide +kernel
theorem dX7_thinks_42 : decode cX7_thinks 42 = .ok (.invokevirtual 232, 3) := by decide +kernel
theorem dX7_thinks_45 : decode cX7_thinks 45 = .ok (.ireturn, 1) := by decide +kernel
theorem dX7_thinksWith_0 : decode cX7_thinksWith 0 = .ok (.aload_n 0, 1) := by decide +kernel
theorem dX7_thinksWith_1 : decode cX7_thinksWith 1 = .ok (.getfield 13, 3) := by decide +kernel
theorem dX7_thinksWith_4 : decode cX7_thinksWith 4 = .ok (.iload_n 1, 1) := by decide +kernel
theorem dX7_thinksWith_5 : decode cX7_thinksWith 5 = .ok (.iaload, 1) := by decide +kernel
theorem dX7_thinksWith_6 : decode cX7_thinksWith 6 = .ok (.istore 4, 2) := by decide +kernel
theorem dX7_thinksWith_8 : decode cX7_thinksWith 8 = .ok (.aload_n 0, 1) := by decide +kernel
theorem dX7_thinksWith_9 : decode cX7_thinksWith 9 = .ok (.getfield 13, 3) := by decide +kernel
theorem dX7_thinksWith_12 : decode cX7_thinksWith 12 = .ok (.iload_n 1, 1) := by decide +kernel
theorem dX7_thinksWith_13 : decode cX7_thinksWith 13 = .ok (.iload_n 2, 1) := by decide +kernel
theorem dX7_thinksWith_14 : decode cX7_thinksWith 14 = .ok (.iastore, 1) := by decide +kernel
theorem dX7_thinksWith_15 : decode cX7_thinksWith 15 = .ok (.aload_n 0, 1) := by decide +kernel
theorem dX7_thinksWith_16 : decode cX7_thinksWith 16 = .ok (.iload_n 3, 1) := by decide +kernel
theorem dX7_thinksWith_17 : decode cX7_thinksWith 17 = .ok (.invokevirtual 235, 3) := by decide +kernel
theorem dX7_thinksWith_20 : decode cX7_thinksWith 20 = .ok (.istore 5, 2) := by decide +kernel
theorem dX7_thinksWith_22 : decode cX7_thinksWith 22 = .ok (.aload_n 0, 1) := by decide +kernel
theorem dX7_thinksWith_23 : decode cX7_thinksWith 23 = .ok (.getfield 13, 3) := by decide +kernel
theorem dX7_thinksWith_26 : decode cX7_thinksWith 26 = .ok (.iload_n 1, 1) := by decide +kernel
theorem dX7_thinksWith_27 : decode cX7_thinksWith 27 = .ok (.iload 4, 2) := by decide +kernel
theorem dX7_thinksWith_29 : decode cX7_thinksWith 29 = .ok (.iastore, 1) := by decide +kernel
theorem dX7_thinksWith_30 : decode cX7_thinksWith 30 = .ok (.iload 5, 2) := by decide +kernel
theorem dX7_thinksWith_32 : decode cX7_thinksWith 32 = .ok (.ireturn, 1) := by decide +kernel
theorem dX7_thinksByRule_0 : decode cX7_thinksByRule 0 = .ok (.aload_n 0, 1) := by decide +kernel
theorem dX7_thinksByRule_1 : decode cX7_thinksByRule 1 = .ok (.getfield 135, 3) := by decide +kernel
theorem dX7_thinksByRule_4 : decode cX7_thinksByRule 4 = .ok (.istore_n 3, 1) := by decide +kernel
theorem dX7_thinksByRule_5 : decode cX7_thinksByRule 5 = .ok (.aload_n 0, 1) := by decide +kernel
theorem dX7_thinksByRule_6 : decode cX7_thinksByRule 6 = .ok (.iload_n 1, 1) := by decide +kernel
theorem dX7_thinksByRule_7 : decode cX7_thinksByRule 7 = .ok (.putfield 135, 3) := by decide +kernel
theorem dX7_thinksByRule_10 : decode cX7_thinksByRule 10 = .ok (.aload_n 0, 1) := by decide +kernel
theorem dX7_thinksByRule_11 : decode cX7_thinksByRule 11 = .ok (.iload_n 2, 1) := by decide +kernel
theorem dX7_thinksByRule_12 : decode cX7_thinksByRule 12 = .ok (.invokevirtual 235, 3) := by decide +kernel
theorem dX7_thinksByRule_15 : decode cX7_thinksByRule 15 = .ok (.istore 4, 2) := by decide +kernel
theorem dX7_thinksByRule_17 : decode cX7_thinksByRule 17 = .ok (.aload_n 0, 1) := by decide +kernel
theorem dX7_thinksByRule_18 : decode cX7_thinksByRule 18 = .ok (.iload_n 3, 1) := by decide +kernel
theorem dX7_thinksByRule_19 : decode cX7_thinksByRule 19 = .ok (.putfield 135, 3) := by decide +kernel
theorem dX7_thinksByRule_22 : decode cX7_thinksByRule 22 = .ok (.iload 4, 2) := by decide +kernel
theorem dX7_thinksByRule_24 : decode cX7_thinksByRule 24 = .ok (.ireturn, 1) := by decide +kernel
theorem dX7_thinksFirst_0 : decode cX7_thinksFirst 0 = .ok (.aload_n 0, 1) := by decide +kernel
theorem dX7_thinksFirst_1 : decode cX7_thinksFirst 1 = .ok (.getfield 170, 3) := by decide +kernel
theorem dX7_thinksFirst_4 : decode cX7_thinksFirst 4 = .ok (.istore_n 3, 1) := by decide +kernel
theorem dX7_thinksFirst_5 : decode cX7_thinksFirst 5 = .ok (.aload_n 0, 1) := by decide +kernel
theorem dX7_thinksFirst_6 : decode cX7_thinksFirst 6 = .ok (.iload_n 1, 1) := by decide +kernel
theorem dX7_thinksFirst_7 : decode cX7_thinksFirst 7 = .ok (.putfield 170, 3) := by decide +kernel
theorem dX7_thinksFirst_10 : decode cX7_thinksFirst 10 = .ok (.aload_n 0, 1) := by decide +kernel
theorem dX7_thinksFirst_11 : decode cX7_thinksFirst 11 = .ok (.iload_n 2, 1) := by decide +kernel
theorem dX7_thinksFirst_12 : decode cX7_thinksFirst 12 = .ok (.invokevirtual 235, 3) := by decide +kernel
theorem dX7_thinksFirst_15 : decode cX7_thinksFirst 15 = .ok (.istore 4, 2) := by decide +kernel
theorem dX7_thinksFirst_17 : decode cX7_thinksFirst 17 = .ok (.aload_n 0, 1) := by decide +kernel
theorem dX7_thinksFirst_18 : decode cX7_thinksFirst 18 = .ok (.iload_n 3, 1) := by decide +kernel
theorem dX7_thinksFirst_19 : decode cX7_thinksFirst 19 = .ok (.putfield 170, 3) := by decide +kernel
theorem dX7_thinksFirst_22 : decode cX7_thinksFirst 22 = .ok (.iload 4, 2) := by decide +kernel
theorem dX7_thinksFirst_24 : decode cX7_thinksFirst 24 = .ok (.ireturn, 1) := by decide +kernel
theorem dX7_person_0 : decode cX7_person 0 = .ok (.aload_n 0, 1) := by decide +kernel
theorem dX7_person_1 : decode cX7_person 1 = .ok (.iload_n 1, 1) := by decide +kernel
theorem dX7_person_2 : decode cX7_person 2 = .ok (.invokevirtual 238, 3) := by decide +kernel
theorem dX7_person_5 : decode cX7_person 5 = .ok (.ifCond .ne 9, 3) := by decide +kernel
theorem dX7_person_8 : decode cX7_person 8 = .ok (.aload_n 0, 1) := by decide +kernel
theorem dX7_person_9 : decode cX7_person 9 = .ok (.iconst (-1), 1) := by decide +kernel
theorem dX7_person_10 : decode cX7_person 10 = .ok (.invokevirtual 76, 3) := by decide +kernel
theorem dX7_person_13 : decode cX7_person 13 = .ok (.ireturn, 1) := by decide +kernel
theorem dX7_person_14 : decode cX7_person 14 = .ok (.iload_n 2, 1) := by decide +kernel
theorem dX7_person_15 : decode cX7_person 15 = .ok (.tableswitch 79 0 5 #[37, 44, 51, 58, 65, 72], 37) := by decide +kernel
theorem dX7_person_52 : decode cX7_person 52 = .ok (.aload_n 0, 1) := by decide +kernel
theorem dX7_person_53 : decode cX7_person 53 = .ok (.getfield 16, 3) := by decide +kernel
theorem dX7_person_56 : decode cX7_person 56 = .ok (.iload_n 1, 1) := by decide +kernel
theorem dX7_person_57 : decode cX7_person 57 = .ok (.iaload, 1) := by decide +kernel
theorem dX7_person_58 : decode cX7_person 58 = .ok (.ireturn, 1) := by decide +kernel
theorem dX7_person_59 : decode cX7_person 59 = .ok (.aload_n 0, 1) := by decide +kernel
theorem dX7_person_60 : decode cX7_person 60 = .ok (.getfield 19, 3) := by decide +kernel
theorem dX7_person_63 : decode cX7_person 63 = .ok (.iload_n 1, 1) := by decide +kernel
theorem dX7_person_64 : decode cX7_person 64 = .ok (.iaload, 1) := by decide +kernel
theorem dX7_person_65 : decode cX7_person 65 = .ok (.ireturn, 1) := by decide +kernel
theorem dX7_person_66 : decode cX7_person 66 = .ok (.aload_n 0, 1) := by decide +kernel
theorem dX7_person_67 : decode cX7_person 67 = .ok (.getfield 22, 3) := by decide +kernel
theorem dX7_person_70 : decode cX7_person 70 = .ok (.iload_n 1, 1) := by decide +kernel
theorem dX7_person_71 : decode cX7_person 71 = .ok (.iaload, 1) := by decide +kernel
theorem dX7_person_72 : decode cX7_person 72 = .ok (.ireturn, 1) := by decide +kernel
theorem dX7_person_73 : decode cX7_person 73 = .ok (.aload_n 0, 1) := by decide +kernel
theorem dX7_person_74 : decode cX7_person 74 = .ok (.getfield 25, 3) := by decide +kernel
theorem dX7_person_77 : decode cX7_person 77 = .ok (.iload_n 1, 1) := by decide +kernel
theorem dX7_person_78 : decode cX7_person 78 = .ok (.iaload, 1) := by decide +kernel
theorem dX7_person_79 : decode cX7_person 79 = .ok (.ireturn, 1) := by decide +kernel
theorem dX7_person_80 : decode cX7_person 80 = .ok (.aload_n 0, 1) := by decide +kernel
theorem dX7_person_81 : decode cX7_person 81 = .ok (.getfield 28, 3) := by decide +kernel
theorem dX7_person_84 : decode cX7_person 84 = .ok (.iload_n 1, 1) := by decide +kernel
theorem dX7_person_85 : decode cX7_person 85 = .ok (.iaload, 1) := by decide +kernel
theorem dX7_person_86 : decode cX7_person 86 = .ok (.ireturn, 1) := by decide +kernel
theorem dX7_person_87 : decode cX7_person 87 = .ok (.aload_n 0, 1) := by decide +kernel
theorem dX7_person_88 : decode cX7_person 88 = .ok (.getfield 31, 3) := by decide +kernel
theorem dX7_person_91 : decode cX7_person 91 = .ok (.iload_n 1, 1) := by decide +kernel
theorem dX7_person_92 : decode cX7_person 92 = .ok (.iaload, 1) := by decide +kernel
theorem dX7_person_93 : decode cX7_person 93 = .ok (.ireturn, 1) := by decide +kernel
theorem dX7_person_94 : decode cX7_person 94 = .ok (.aload_n 0, 1) := by decide +kernel
theorem dX7_person_95 : decode cX7_person 95 = .ok (.bipush (-2), 2) := by decide +kernel
theorem dX7_person_97 : decode cX7_person 97 = .ok (.invokevirtual 76, 3) := by decide +kernel
theorem dX7_person_100 : decode cX7_person 100 = .ok (.ireturn, 1) := by decide +kernel
theorem dX7_bothers_0 : decode cX7_bothers 0 = .ok (.aload_n 0, 1) := by decide +kernel
theorem dX7_bothers_1 : decode cX7_bothers 1 = .ok (.iload_n 1, 1) := by decide +kernel
theorem dX7_bothers_2 : decode cX7_bothers 2 = .ok (.invokevirtual 238, 3) := by decide +kernel
theorem dX7_bothers_5 : decode cX7_bothers 5 = .ok (.ifCond .ne 7, 3) := by decide +kernel
theorem dX7_bothers_8 : decode cX7_bothers 8 = .ok (.iconst (-1), 1) := by decide +kernel
theorem dX7_bothers_9 : decode cX7_bothers 9 = .ok (.goto 11, 3) := by decide +kernel
theorem dX7_bothers_12 : decode cX7_bothers 12 = .ok (.iload_n 2, 1) := by decide +kernel
theorem dX7_bothers_13 : decode cX7_bothers 13 = .ok (.iconst 0, 1) := by decide +kernel
theorem dX7_bothers_14 : decode cX7_bothers 14 = .ok (.sipush 199, 3) := by decide +kernel
theorem dX7_bothers_17 : decode cX7_bothers 17 = .ok (.invokestatic 69, 3) := by decide +kernel
theorem dX7_bothers_20 : decode cX7_bothers 20 = .ok (.istore_n 3, 1) := by decide +kernel
theorem dX7_bothers_21 : decode cX7_bothers 21 = .ok (.iload_n 3, 1) := by decide +kernel
theorem dX7_bothers_22 : decode cX7_bothers 22 = .ok (.ifCond .eq 11, 3) := by decide +kernel
theorem dX7_bothers_25 : decode cX7_bothers 25 = .ok (.aload_n 0, 1) := by decide +kernel
theorem dX7_bothers_26 : decode cX7_bothers 26 = .ok (.iload_n 3, 1) := by decide +kernel
theorem dX7_bothers_27 : decode cX7_bothers 27 = .ok (.invokevirtual 76, 3) := by decide +kernel
theorem dX7_bothers_30 : decode cX7_bothers 30 = .ok (.goto 9, 3) := by decide +kernel
theorem dX7_bothers_33 : decode cX7_bothers 33 = .ok (.aload_n 0, 1) := by decide +kernel
theorem dX7_bothers_34 : decode cX7_bothers 34 = .ok (.iload_n 1, 1) := by decide +kernel
theorem dX7_bothers_35 : decode cX7_bothers 35 = .ok (.iload_n 2, 1) := by decide +kernel
theorem dX7_bothers_36 : decode cX7_bothers 36 = .ok (.invokevirtual 222, 3) := by decide +kernel
theorem dX7_bothers_39 : decode cX7_bothers 39 = .ok (.ireturn, 1) := by decide +kernel
theorem dX7_place_0 : decode cX7_place 0 = .ok (.iload_n 1, 1) := by decide +kernel
theorem dX7_place_1 : decode cX7_place 1 = .ok (.iconst 0, 1) := by decide +kernel
theorem dX7_place_2 : decode cX7_place 2 = .ok (.iconst 2, 1) := by decide +kernel
theorem dX7_place_3 : decode cX7_place 3 = .ok (.invokestatic 87, 3) := by decide +kernel
theorem dX7_place_6 : decode cX7_place 6 = .ok (.ifCond .eq 12, 3) := by decide +kernel
theorem dX7_place_9 : decode cX7_place 9 = .ok (.aload_n 0, 1) := by decide +kernel
theorem dX7_place_10 : decode cX7_place 10 = .ok (.getfield 13, 3) := by decide +kernel
theorem dX7_place_13 : decode cX7_place 13 = .ok (.iload_n 1, 1) := by decide +kernel
theorem dX7_place_14 : decode cX7_place 14 = .ok (.iaload, 1) := by decide +kernel
theorem dX7_place_15 : decode cX7_place 15 = .ok (.goto 9, 3) := by decide +kernel
theorem dX7_place_18 : decode cX7_place 18 = .ok (.aload_n 0, 1) := by decide +kernel
theorem dX7_place_19 : decode cX7_place 19 = .ok (.bipush (-2), 2) := by decide +kernel
theorem dX7_place_21 : decode cX7_place 21 = .ok (.invokevirtual 241, 3) := by decide +kernel
theorem dX7_place_24 : decode cX7_place 24 = .ok (.ireturn, 1) := by decide +kernel
theorem dX7_set_0 : decode cX7_set 0 = .ok (.iload_n 1, 1) := by decide +kernel
theorem dX7_set_1 : decode cX7_set 1 = .ok (.iconst 0, 1) := by decide +kernel
theorem dX7_set_2 : decode cX7_set 2 = .ok (.iconst 5, 1) := by decide +kernel
theorem dX7_set_3 : decode cX7_set 3 = .ok (.invokestatic 87, 3) := by decide +kernel
theorem dX7_set_6 : decode cX7_set 6 = .ok (.ifCond .ne 8, 3) := by decide +kernel
theorem dX7_set_9 : decode cX7_set 9 = .ok (.bipush (-2), 2) := by decide +kernel
theorem dX7_set_11 : decode cX7_set 11 = .ok (.goto 15, 3) := by decide +kernel
theorem dX7_set_14 : decode cX7_set 14 = .ok (.iload_n 2, 1) := by decide +kernel
theorem dX7_set_15 : decode cX7_set 15 = .ok (.iload_n 1, 1) := by decide +kernel
theorem dX7_set_16 : decode cX7_set 16 = .ok (.invokestatic 120, 3) := by decide +kernel
theorem dX7_set_19 : decode cX7_set 19 = .ok (.iload_n 1, 1) := by decide +kernel
theorem dX7_set_20 : decode cX7_set 20 = .ok (.invokestatic 123, 3) := by decide +kernel
theorem dX7_set_23 : decode cX7_set 23 = .ok (.invokestatic 69, 3) := by decide +kernel
theorem dX7_set_26 : decode cX7_set 26 = .ok (.istore_n 3, 1) := by decide +kernel
theorem dX7_set_27 : decode cX7_set 27 = .ok (.iload_n 3, 1) := by decide +kernel
theorem dX7_set_28 : decode cX7_set 28 = .ok (.ifCond .eq 9, 3) := by decide +kernel
theorem dX7_set_31 : decode cX7_set 31 = .ok (.aload_n 0, 1) := by decide +kernel
theorem dX7_set_32 : decode cX7_set 32 = .ok (.iload_n 3, 1) := by decide +kernel
theorem dX7_set_33 : decode cX7_set 33 = .ok (.invokevirtual 241, 3) := by decide +kernel
theorem dX7_set_36 : decode cX7_set 36 = .ok (.ireturn, 1) := by decide +kernel
theorem dX7_set_37 : decode cX7_set 37 = .ok (.aload_n 0, 1) := by decide +kernel
theorem dX7_set_38 : decode cX7_set 38 = .ok (.getfield 13, 3) := by decide +kernel
theorem dX7_set_41 : decode cX7_set 41 = .ok (.iload_n 1, 1) := by decide +kernel
theorem dX7_set_42 : decode cX7_set 42 = .ok (.iaload, 1) := by decide +kernel
theorem dX7_set_43 : decode cX7_set 43 = .ok (.istore 4, 2) := by decide +kernel
theorem dX7_set_45 : decode cX7_set 45 = .ok (.aload_n 0, 1) := by decide +kernel
theorem dX7_set_46 : decode cX7_set 46 = .ok (.getfield 13, 3) := by decide +kernel
theorem dX7_set_49 : decode cX7_set 49 = .ok (.iload_n 1, 1) := by decide +kernel
theorem dX7_set_50 : decode cX7_set 50 = .ok (.iload_n 2, 1) := by decide +kernel
theorem dX7_set_51 : decode cX7_set 51 = .ok (.iastore, 1) := by decide +kernel
theorem dX7_set_52 : decode cX7_set 52 = .ok (.iload 4, 2) := by decide +kernel
theorem dX7_set_54 : decode cX7_set 54 = .ok (.ireturn, 1) := by decide +kernel
theorem dX7_kind_0 : decode cX7_kind 0 = .ok (.iload_n 1, 1) := by decide +kernel
theorem dX7_kind_1 : decode cX7_kind 1 = .ok (.iconst 0, 1) := by decide +kernel
theorem dX7_kind_2 : decode cX7_kind 2 = .ok (.iconst 1, 1) := by decide +kernel
theorem dX7_kind_3 : decode cX7_kind 3 = .ok (.invokestatic 87, 3) := by decide +kernel
theorem dX7_kind_6 : decode cX7_kind 6 = .ok (.ifCond .eq 12, 3) := by decide +kernel
theorem dX7_kind_9 : decode cX7_kind 9 = .ok (.iload_n 2, 1) := by decide +kernel
theorem dX7_kind_10 : decode cX7_kind 10 = .ok (.iconst 0, 1) := by decide +kernel
theorem dX7_kind_11 : decode cX7_kind 11 = .ok (.iconst 4, 1) := by decide +kernel
theorem dX7_kind_12 : decode cX7_kind 12 = .ok (.invokestatic 87, 3) := by decide +kernel
theorem dX7_kind_15 : decode cX7_kind 15 = .ok (.ifCond .ne 10, 3) := by decide +kernel
theorem dX7_kind_18 : decode cX7_kind 18 = .ok (.aload_n 0, 1) := by decide +kernel
theorem dX7_kind_19 : decode cX7_kind 19 = .ok (.bipush (-2), 2) := by decide +kernel
theorem dX7_kind_21 : decode cX7_kind 21 = .ok (.invokevirtual 76, 3) := by decide +kernel
theorem dX7_kind_24 : decode cX7_kind 24 = .ok (.ireturn, 1) := by decide +kernel
theorem dX7_kind_25 : decode cX7_kind 25 = .ok (.iload_n 1, 1) := by decide +kernel
theorem dX7_kind_26 : decode cX7_kind 26 = .ok (.ifCond .ne 10, 3) := by decide +kernel
theorem dX7_kind_29 : decode cX7_kind 29 = .ok (.aload_n 0, 1) := by decide +kernel
theorem dX7_kind_30 : decode cX7_kind 30 = .ok (.getfield 132, 3) := by decide +kernel
theorem dX7_kind_33 : decode cX7_kind 33 = .ok (.goto 7, 3) := by decide +kernel
theorem dX7_kind_36 : decode cX7_kind 36 = .ok (.aload_n 0, 1) := by decide +kernel
theorem dX7_kind_37 : decode cX7_kind 37 = .ok (.getfield 135, 3) := by decide +kernel
theorem dX7_kind_40 : decode cX7_kind 40 = .ok (.istore_n 3, 1) := by decide +kernel
theorem dX7_kind_41 : decode cX7_kind 41 = .ok (.iload_n 1, 1) := by decide +kernel
theorem dX7_kind_42 : decode cX7_kind 42 = .ok (.ifCond .ne 11, 3) := by decide +kernel
theorem dX7_kind_45 : decode cX7_kind 45 = .ok (.aload_n 0, 1) := by decide +kernel
theorem dX7_kind_46 : decode cX7_kind 46 = .ok (.iload_n 2, 1) := by decide +kernel
theorem dX7_kind_47 : decode cX7_kind 47 = .ok (.putfield 132, 3) := by decide +kernel
theorem dX7_kind_50 : decode cX7_kind 50 = .ok (.goto 8, 3) := by decide +kernel
theorem dX7_kind_53 : decode cX7_kind 53 = .ok (.aload_n 0, 1) := by decide +kernel
theorem dX7_kind_54 : decode cX7_kind 54 = .ok (.iload_n 2, 1) := by decide +kernel
theorem dX7_kind_55 : decode cX7_kind 55 = .ok (.putfield 135, 3) := by decide +kernel
theorem dX7_kind_58 : decode cX7_kind 58 = .ok (.iload_n 3, 1) := by decide +kernel
theorem dX7_kind_59 : decode cX7_kind 59 = .ok (.ireturn, 1) := by decide +kernel
theorem dX7_turn_0 : decode cX7_turn 0 = .ok (.aload_n 0, 1) := by decide +kernel
theorem dX7_turn_1 : decode cX7_turn 1 = .ok (.iload_n 1, 1) := by decide +kernel
theorem dX7_turn_2 : decode cX7_turn 2 = .ok (.invokevirtual 238, 3) := by decide +kernel
theorem dX7_turn_5 : decode cX7_turn 5 = .ok (.ifCond .ne 9, 3) := by decide +kernel
theorem dX7_turn_8 : decode cX7_turn 8 = .ok (.aload_n 0, 1) := by decide +kernel
theorem dX7_turn_9 : decode cX7_turn 9 = .ok (.iconst (-1), 1) := by decide +kernel
theorem dX7_turn_10 : decode cX7_turn 10 = .ok (.invokevirtual 76, 3) := by decide +kernel
theorem dX7_turn_13 : decode cX7_turn 13 = .ok (.ireturn, 1) := by decide +kernel
theorem dX7_turn_14 : decode cX7_turn 14 = .ok (.aload_n 0, 1) := by decide +kernel
theorem dX7_turn_15 : decode cX7_turn 15 = .ok (.getfield 170, 3) := by decide +kernel
theorem dX7_turn_18 : decode cX7_turn 18 = .ok (.istore_n 2, 1) := by decide +kernel
theorem dX7_turn_19 : decode cX7_turn 19 = .ok (.aload_n 0, 1) := by decide +kernel
theorem dX7_turn_20 : decode cX7_turn 20 = .ok (.iload_n 1, 1) := by decide +kernel
theorem dX7_turn_21 : decode cX7_turn 21 = .ok (.putfield 170, 3) := by decide +kernel
theorem dX7_turn_24 : decode cX7_turn 24 = .ok (.iload_n 2, 1) := by decide +kernel
theorem dX7_turn_25 : decode cX7_turn 25 = .ok (.ireturn, 1) := by decide +kernel
theorem dX7_drifts_0 : decode cX7_drifts 0 = .ok (.iload_n 1, 1) := by decide +kernel
theorem dX7_drifts_1 : decode cX7_drifts 1 = .ok (.iconst 0, 1) := by decide +kernel
theorem dX7_drifts_2 : decode cX7_drifts 2 = .ok (.sipush 9999, 3) := by decide +kernel
theorem dX7_drifts_5 : decode cX7_drifts 5 = .ok (.invokestatic 69, 3) := by decide +kernel
theorem dX7_drifts_8 : decode cX7_drifts 8 = .ok (.istore_n 2, 1) := by decide +kernel
theorem dX7_drifts_9 : decode cX7_drifts 9 = .ok (.iload_n 2, 1) := by decide +kernel
theorem dX7_drifts_10 : decode cX7_drifts 10 = .ok (.ifCond .eq 11, 3) := by decide +kernel
theorem dX7_drifts_13 : decode cX7_drifts 13 = .ok (.aload_n 0, 1) := by decide +kernel
theorem dX7_drifts_14 : decode cX7_drifts 14 = .ok (.iload_n 2, 1) := by decide +kernel
theorem dX7_drifts_15 : decode cX7_drifts 15 = .ok (.invokevirtual 241, 3) := by decide +kernel
theorem dX7_drifts_18 : decode cX7_drifts 18 = .ok (.goto 8, 3) := by decide +kernel
theorem dX7_drifts_21 : decode cX7_drifts 21 = .ok (.aload_n 0, 1) := by decide +kernel
theorem dX7_drifts_22 : decode cX7_drifts 22 = .ok (.iload_n 1, 1) := by decide +kernel
theorem dX7_drifts_23 : decode cX7_drifts 23 = .ok (.invokevirtual 188, 3) := by decide +kernel
theorem dX7_drifts_26 : decode cX7_drifts 26 = .ok (.ireturn, 1) := by decide +kernel
theorem dX7_go_0 : decode cX7_go 0 = .ok (.iload_n 1, 1) := by decide +kernel
theorem dX7_go_1 : decode cX7_go 1 = .ok (.iconst 1, 1) := by decide +kernel
theorem dX7_go_2 : decode cX7_go 2 = .ok (.bipush 60, 2) := by decide +kernel
theorem dX7_go_4 : decode cX7_go 4 = .ok (.invokestatic 69, 3) := by decide +kernel
theorem dX7_go_7 : decode cX7_go 7 = .ok (.istore_n 2, 1) := by decide +kernel
theorem dX7_go_8 : decode cX7_go 8 = .ok (.iload_n 2, 1) := by decide +kernel
theorem dX7_go_9 : decode cX7_go 9 = .ok (.ifCond .ne 18, 3) := by decide +kernel
theorem dX7_go_12 : decode cX7_go 12 = .ok (.aload_n 0, 1) := by decide +kernel
theorem dX7_go_13 : decode cX7_go 13 = .ok (.getfield 138, 3) := by decide +kernel
theorem dX7_go_16 : decode cX7_go 16 = .ok (.iload_n 1, 1) := by decide +kernel
theorem dX7_go_17 : decode cX7_go 17 = .ok (.iadd, 1) := by decide +kernel
theorem dX7_go_18 : decode cX7_go 18 = .ok (.sipush 9999, 3) := by decide +kernel
theorem dX7_go_21 : decode cX7_go 21 = .ok (.if_icmp .le 6, 3) := by decide +kernel
theorem dX7_go_24 : decode cX7_go 24 = .ok (.bipush (-6), 2) := by decide +kernel
theorem dX7_go_26 : decode cX7_go 26 = .ok (.istore_n 2, 1) := by decide +kernel
theorem dX7_go_27 : decode cX7_go 27 = .ok (.iload_n 2, 1) := by decide +kernel
theorem dX7_go_28 : decode cX7_go 28 = .ok (.ifCond .eq 9, 3) := by decide +kernel
theorem dX7_go_31 : decode cX7_go 31 = .ok (.aload_n 0, 1) := by decide +kernel
theorem dX7_go_32 : decode cX7_go 32 = .ok (.iload_n 2, 1) := by decide +kernel
theorem dX7_go_33 : decode cX7_go 33 = .ok (.invokevirtual 76, 3) := by decide +kernel
theorem dX7_go_36 : decode cX7_go 36 = .ok (.ireturn, 1) := by decide +kernel
theorem dX7_go_37 : decode cX7_go 37 = .ok (.aload_n 0, 1) := by decide +kernel
theorem dX7_go_38 : decode cX7_go 38 = .ok (.iload_n 1, 1) := by decide +kernel
theorem dX7_go_39 : decode cX7_go 39 = .ok (.invokevirtual 141, 3) := by decide +kernel
theorem dX7_go_42 : decode cX7_go 42 = .ok (.aload_n 0, 1) := by decide +kernel
theorem dX7_go_43 : decode cX7_go 43 = .ok (.getfield 191, 3) := by decide +kernel
theorem dX7_go_46 : decode cX7_go 46 = .ok (.ireturn, 1) := by decide +kernel
theorem dX7_cost_0 : decode cX7_cost 0 = .ok (.iload_n 1, 1) := by decide +kernel
theorem dX7_cost_1 : decode cX7_cost 1 = .ok (.iconst 0, 1) := by decide +kernel
theorem dX7_cost_2 : decode cX7_cost 2 = .ok (.sipush 240, 3) := by decide +kernel
theorem dX7_cost_5 : decode cX7_cost 5 = .ok (.invokestatic 69, 3) := by decide +kernel
theorem dX7_cost_8 : decode cX7_cost 8 = .ok (.istore_n 3, 1) := by decide +kernel
theorem dX7_cost_9 : decode cX7_cost 9 = .ok (.iload_n 3, 1) := by decide +kernel
theorem dX7_cost_10 : decode cX7_cost 10 = .ok (.ifCond .ne 15, 3) := by decide +kernel
theorem dX7_cost_13 : decode cX7_cost 13 = .ok (.iload_n 2, 1) := by decide +kernel
theorem dX7_cost_14 : decode cX7_cost 14 = .ok (.iconst 0, 1) := by decide +kernel
theorem dX7_cost_15 : decode cX7_cost 15 = .ok (.iconst 4, 1) := by decide +kernel
theorem dX7_cost_16 : decode cX7_cost 16 = .ok (.invokestatic 87, 3) := by decide +kernel
theorem dX7_cost_19 : decode cX7_cost 19 = .ok (.ifCond .ne 6, 3) := by decide +kernel
theorem dX7_cost_22 : decode cX7_cost 22 = .ok (.bipush (-2), 2) := by decide +kernel
theorem dX7_cost_24 : decode cX7_cost 24 = .ok (.istore_n 3, 1) := by decide +kernel
theorem dX7_cost_25 : decode cX7_cost 25 = .ok (.iload_n 3, 1) := by decide +kernel
theorem dX7_cost_26 : decode cX7_cost 26 = .ok (.ifCond .eq 9, 3) := by decide +kernel
theorem dX7_cost_29 : decode cX7_cost 29 = .ok (.aload_n 0, 1) := by decide +kernel
theorem dX7_cost_30 : decode cX7_cost 30 = .ok (.iload_n 3, 1) := by decide +kernel
theorem dX7_cost_31 : decode cX7_cost 31 = .ok (.invokevirtual 76, 3) := by decide +kernel
theorem dX7_cost_34 : decode cX7_cost 34 = .ok (.ireturn, 1) := by decide +kernel
theorem dX7_cost_35 : decode cX7_cost 35 = .ok (.aload_n 0, 1) := by decide +kernel
theorem dX7_cost_36 : decode cX7_cost 36 = .ok (.iload_n 1, 1) := by decide +kernel
theorem dX7_cost_37 : decode cX7_cost 37 = .ok (.invokevirtual 235, 3) := by decide +kernel
theorem dX7_cost_40 : decode cX7_cost 40 = .ok (.istore 4, 2) := by decide +kernel
theorem dX7_cost_42 : decode cX7_cost 42 = .ok (.iload_n 2, 1) := by decide +kernel
theorem dX7_cost_43 : decode cX7_cost 43 = .ok (.ifCond .ne 8, 3) := by decide +kernel
theorem dX7_cost_46 : decode cX7_cost 46 = .ok (.iload 4, 2) := by decide +kernel
theorem dX7_cost_48 : decode cX7_cost 48 = .ok (.goto 43, 3) := by decide +kernel
theorem dX7_cost_51 : decode cX7_cost 51 = .ok (.iload_n 2, 1) := by decide +kernel
theorem dX7_cost_52 : decode cX7_cost 52 = .ok (.iconst 1, 1) := by decide +kernel
theorem dX7_cost_53 : decode cX7_cost 53 = .ok (.if_icmp .ne 10, 3) := by decide +kernel
theorem dX7_cost_56 : decode cX7_cost 56 = .ok (.aload_n 0, 1) := by decide +kernel
theorem dX7_cost_57 : decode cX7_cost 57 = .ok (.getfield 191, 3) := by decide +kernel
theorem dX7_cost_60 : decode cX7_cost 60 = .ok (.goto 31, 3) := by decide +kernel
theorem dX7_cost_63 : decode cX7_cost 63 = .ok (.iload_n 2, 1) := by decide +kernel
theorem dX7_cost_64 : decode cX7_cost 64 = .ok (.iconst 2, 1) := by decide +kernel
theorem dX7_cost_65 : decode cX7_cost 65 = .ok (.if_icmp .ne 10, 3) := by decide +kernel
theorem dX7_cost_68 : decode cX7_cost 68 = .ok (.aload_n 0, 1) := by decide +kernel
theorem dX7_cost_69 : decode cX7_cost 69 = .ok (.getfield 194, 3) := by decide +kernel
theorem dX7_cost_72 : decode cX7_cost 72 = .ok (.goto 19, 3) := by decide +kernel
theorem dX7_cost_75 : decode cX7_cost 75 = .ok (.iload_n 2, 1) := by decide +kernel
theorem dX7_cost_76 : decode cX7_cost 76 = .ok (.iconst 3, 1) := by decide +kernel
theorem dX7_cost_77 : decode cX7_cost 77 = .ok (.if_icmp .ne 10, 3) := by decide +kernel
theorem dX7_cost_80 : decode cX7_cost 80 = .ok (.aload_n 0, 1) := by decide +kernel
theorem dX7_cost_81 : decode cX7_cost 81 = .ok (.getfield 197, 3) := by decide +kernel
theorem dX7_cost_84 : decode cX7_cost 84 = .ok (.goto 7, 3) := by decide +kernel
theorem dX7_cost_87 : decode cX7_cost 87 = .ok (.aload_n 0, 1) := by decide +kernel
theorem dX7_cost_88 : decode cX7_cost 88 = .ok (.getfield 200, 3) := by decide +kernel
theorem dX7_cost_91 : decode cX7_cost 91 = .ok (.ireturn, 1) := by decide +kernel
theorem dX7_at_0 : decode cX7_at 0 = .ok (.iload_n 1, 1) := by decide +kernel
theorem dX7_at_1 : decode cX7_at 1 = .ok (.iconst 0, 1) := by decide +kernel
theorem dX7_at_2 : decode cX7_at 2 = .ok (.sipush 240, 3) := by decide +kernel
theorem dX7_at_5 : decode cX7_at 5 = .ok (.invokestatic 69, 3) := by decide +kernel
theorem dX7_at_8 : decode cX7_at 8 = .ok (.istore_n 2, 1) := by decide +kernel
theorem dX7_at_9 : decode cX7_at 9 = .ok (.iload_n 2, 1) := by decide +kernel
theorem dX7_at_10 : decode cX7_at 10 = .ok (.ifCond .eq 9, 3) := by decide +kernel
theorem dX7_at_13 : decode cX7_at 13 = .ok (.aload_n 0, 1) := by decide +kernel
theorem dX7_at_14 : decode cX7_at 14 = .ok (.iload_n 2, 1) := by decide +kernel
theorem dX7_at_15 : decode cX7_at 15 = .ok (.invokevirtual 241, 3) := by decide +kernel
theorem dX7_at_18 : decode cX7_at 18 = .ok (.ireturn, 1) := by decide +kernel
theorem dX7_at_19 : decode cX7_at 19 = .ok (.aload_n 0, 1) := by decide +kernel
theorem dX7_at_20 : decode cX7_at 20 = .ok (.iload_n 1, 1) := by decide +kernel
theorem dX7_at_21 : decode cX7_at 21 = .ok (.invokevirtual 235, 3) := by decide +kernel
theorem dX7_at_24 : decode cX7_at 24 = .ok (.pop, 1) := by decide +kernel
theorem dX7_at_25 : decode cX7_at 25 = .ok (.iload_n 1, 1) := by decide +kernel
theorem dX7_at_26 : decode cX7_at 26 = .ok (.ifCond .ne 12, 3) := by decide +kernel
theorem dX7_at_29 : decode cX7_at 29 = .ok (.aload_n 0, 1) := by decide +kernel
theorem dX7_at_30 : decode cX7_at 30 = .ok (.getfield 13, 3) := by decide +kernel
theorem dX7_at_33 : decode cX7_at 33 = .ok (.iconst 0, 1) := by decide +kernel
theorem dX7_at_34 : decode cX7_at 34 = .ok (.iaload, 1) := by decide +kernel
theorem dX7_at_35 : decode cX7_at 35 = .ok (.goto 11, 3) := by decide +kernel
theorem dX7_at_38 : decode cX7_at 38 = .ok (.aload_n 0, 1) := by decide +kernel
theorem dX7_at_39 : decode cX7_at 39 = .ok (.getfield 55, 3) := by decide +kernel
theorem dX7_at_42 : decode cX7_at 42 = .ok (.iload_n 1, 1) := by decide +kernel
theorem dX7_at_43 : decode cX7_at 43 = .ok (.iconst 1, 1) := by decide +kernel
theorem dX7_at_44 : decode cX7_at 44 = .ok (.isub, 1) := by decide +kernel
theorem dX7_at_45 : decode cX7_at 45 = .ok (.iaload, 1) := by decide +kernel
theorem dX7_at_46 : decode cX7_at 46 = .ok (.ireturn, 1) := by decide +kernel
theorem dX7_bothOf_0 : decode cX7_bothOf 0 = .ok (.aload_n 0, 1) := by decide +kernel
theorem dX7_bothOf_1 : decode cX7_bothOf 1 = .ok (.getfield 49, 3) := by decide +kernel
theorem dX7_bothOf_4 : decode cX7_bothOf 4 = .ok (.iload_n 1, 1) := by decide +kernel
theorem dX7_bothOf_5 : decode cX7_bothOf 5 = .ok (.iaload, 1) := by decide +kernel
theorem dX7_bothOf_6 : decode cX7_bothOf 6 = .ok (.aload_n 0, 1) := by decide +kernel
theorem dX7_bothOf_7 : decode cX7_bothOf 7 = .ok (.getfield 52, 3) := by decide +kernel
theorem dX7_bothOf_10 : decode cX7_bothOf 10 = .ok (.iload_n 1, 1) := by decide +kernel
theorem dX7_bothOf_11 : decode cX7_bothOf 11 = .ok (.iaload, 1) := by decide +kernel
theorem dX7_bothOf_12 : decode cX7_bothOf 12 = .ok (.aload_n 0, 1) := by decide +kernel
theorem dX7_bothOf_13 : decode cX7_bothOf 13 = .ok (.getfield 31, 3) := by decide +kernel
theorem dX7_bothOf_16 : decode cX7_bothOf 16 = .ok (.iload_n 1, 1) := by decide +kernel
theorem dX7_bothOf_17 : decode cX7_bothOf 17 = .ok (.iaload, 1) := by decide +kernel
theorem dX7_bothOf_18 : decode cX7_bothOf 18 = .ok (.imul, 1) := by decide +kernel
theorem dX7_bothOf_19 : decode cX7_bothOf 19 = .ok (.iadd, 1) := by decide +kernel
theorem dX7_bothOf_20 : decode cX7_bothOf 20 = .ok (.ireturn, 1) := by decide +kernel
theorem dX7_of_0 : decode cX7_of 0 = .ok (.aload_n 0, 1) := by decide +kernel
theorem dX7_of_1 : decode cX7_of 1 = .ok (.iload_n 1, 1) := by decide +kernel
theorem dX7_of_2 : decode cX7_of 2 = .ok (.invokevirtual 238, 3) := by decide +kernel
theorem dX7_of_5 : decode cX7_of 5 = .ok (.ifCond .ne 7, 3) := by decide +kernel
theorem dX7_of_8 : decode cX7_of 8 = .ok (.iconst (-1), 1) := by decide +kernel
theorem dX7_of_9 : decode cX7_of 9 = .ok (.goto 11, 3) := by decide +kernel
theorem dX7_of_12 : decode cX7_of 12 = .ok (.iload_n 2, 1) := by decide +kernel
theorem dX7_of_13 : decode cX7_of 13 = .ok (.iconst 0, 1) := by decide +kernel
theorem dX7_of_14 : decode cX7_of 14 = .ok (.sipush 240, 3) := by decide +kernel
theorem dX7_of_17 : decode cX7_of 17 = .ok (.invokestatic 69, 3) := by decide +kernel
theorem dX7_of_20 : decode cX7_of 20 = .ok (.istore 4, 2) := by decide +kernel
theorem dX7_of_22 : decode cX7_of 22 = .ok (.iload 4, 2) := by decide +kernel
theorem dX7_of_24 : decode cX7_of 24 = .ok (.ifCond .ne 16, 3) := by decide +kernel
theorem dX7_of_27 : decode cX7_of 27 = .ok (.iload_n 3, 1) := by decide +kernel
theorem dX7_of_28 : decode cX7_of 28 = .ok (.iconst 0, 1) := by decide +kernel
theorem dX7_of_29 : decode cX7_of 29 = .ok (.iconst 2, 1) := by decide +kernel
theorem dX7_of_30 : decode cX7_of 30 = .ok (.invokestatic 87, 3) := by decide +kernel
theorem dX7_of_33 : decode cX7_of 33 = .ok (.ifCond .ne 7, 3) := by decide +kernel
theorem dX7_of_36 : decode cX7_of 36 = .ok (.bipush (-2), 2) := by decide +kernel
theorem dX7_of_38 : decode cX7_of 38 = .ok (.istore 4, 2) := by decide +kernel
theorem dX7_of_40 : decode cX7_of 40 = .ok (.iload 4, 2) := by decide +kernel
theorem dX7_of_42 : decode cX7_of 42 = .ok (.ifCond .eq 10, 3) := by decide +kernel
theorem dX7_of_45 : decode cX7_of 45 = .ok (.aload_n 0, 1) := by decide +kernel
theorem dX7_of_46 : decode cX7_of 46 = .ok (.iload 4, 2) := by decide +kernel
theorem dX7_of_48 : decode cX7_of 48 = .ok (.invokevirtual 76, 3) := by decide +kernel
theorem dX7_of_51 : decode cX7_of 51 = .ok (.ireturn, 1) := by decide +kernel
theorem dX7_of_52 : decode cX7_of 52 = .ok (.aload_n 0, 1) := by decide +kernel
theorem dX7_of_53 : decode cX7_of 53 = .ok (.iload_n 2, 1) := by decide +kernel
theorem dX7_of_54 : decode cX7_of 54 = .ok (.invokevirtual 235, 3) := by decide +kernel
theorem dX7_of_57 : decode cX7_of 57 = .ok (.pop, 1) := by decide +kernel
theorem dX7_of_58 : decode cX7_of 58 = .ok (.iload_n 3, 1) := by decide +kernel
theorem dX7_of_59 : decode cX7_of 59 = .ok (.ifCond .ne 12, 3) := by decide +kernel
theorem dX7_of_62 : decode cX7_of 62 = .ok (.aload_n 0, 1) := by decide +kernel
theorem dX7_of_63 : decode cX7_of 63 = .ok (.getfield 49, 3) := by decide +kernel
theorem dX7_of_66 : decode cX7_of 66 = .ok (.iload_n 1, 1) := by decide +kernel
theorem dX7_of_67 : decode cX7_of 67 = .ok (.iaload, 1) := by decide +kernel
theorem dX7_of_68 : decode cX7_of 68 = .ok (.goto 22, 3) := by decide +kernel
theorem dX7_of_71 : decode cX7_of 71 = .ok (.iload_n 3, 1) := by decide +kernel
theorem dX7_of_72 : decode cX7_of 72 = .ok (.iconst 1, 1) := by decide +kernel
theorem dX7_of_73 : decode cX7_of 73 = .ok (.if_icmp .ne 12, 3) := by decide +kernel
theorem dX7_of_76 : decode cX7_of 76 = .ok (.aload_n 0, 1) := by decide +kernel
theorem dX7_of_77 : decode cX7_of 77 = .ok (.getfield 52, 3) := by decide +kernel
theorem dX7_of_80 : decode cX7_of 80 = .ok (.iload_n 1, 1) := by decide +kernel
theorem dX7_of_81 : decode cX7_of 81 = .ok (.iaload, 1) := by decide +kernel
theorem dX7_of_82 : decode cX7_of 82 = .ok (.goto 8, 3) := by decide +kernel
theorem dX7_of_85 : decode cX7_of 85 = .ok (.aload_n 0, 1) := by decide +kernel
theorem dX7_of_86 : decode cX7_of 86 = .ok (.iload_n 1, 1) := by decide +kernel
theorem dX7_of_87 : decode cX7_of 87 = .ok (.invokevirtual 244, 3) := by decide +kernel
theorem dX7_of_90 : decode cX7_of 90 = .ok (.ireturn, 1) := by decide +kernel
theorem dX7_bestSet_0 : decode cX7_bestSet 0 = .ok (.iload_n 1, 1) := by decide +kernel
theorem dX7_bestSet_1 : decode cX7_bestSet 1 = .ok (.invokestatic 120, 3) := by decide +kernel
theorem dX7_bestSet_4 : decode cX7_bestSet 4 = .ok (.istore_n 3, 1) := by decide +kernel
theorem dX7_bestSet_5 : decode cX7_bestSet 5 = .ok (.aload_n 0, 1) := by decide +kernel
theorem dX7_bestSet_6 : decode cX7_bestSet 6 = .ok (.iload_n 1, 1) := by decide +kernel
theorem dX7_bestSet_7 : decode cX7_bestSet 7 = .ok (.iload_n 3, 1) := by decide +kernel
theorem dX7_bestSet_8 : decode cX7_bestSet 8 = .ok (.iload_n 2, 1) := by decide +kernel
theorem dX7_bestSet_9 : decode cX7_bestSet 9 = .ok (.invokevirtual 247, 3) := by decide +kernel
theorem dX7_bestSet_12 : decode cX7_bestSet 12 = .ok (.istore 4, 2) := by decide +kernel
theorem dX7_bestSet_14 : decode cX7_bestSet 14 = .ok (.iload_n 3, 1) := by decide +kernel
theorem dX7_bestSet_15 : decode cX7_bestSet 15 = .ok (.iconst 1, 1) := by decide +kernel
theorem dX7_bestSet_16 : decode cX7_bestSet 16 = .ok (.iadd, 1) := by decide +kernel
theorem dX7_bestSet_17 : decode cX7_bestSet 17 = .ok (.istore 5, 2) := by decide +kernel
theorem dX7_bestSet_19 : decode cX7_bestSet 19 = .ok (.iload 5, 2) := by decide +kernel
theorem dX7_bestSet_21 : decode cX7_bestSet 21 = .ok (.iload_n 1, 1) := by decide +kernel
theorem dX7_bestSet_22 : decode cX7_bestSet 22 = .ok (.invokestatic 123, 3) := by decide +kernel
theorem dX7_bestSet_25 : decode cX7_bestSet 25 = .ok (.if_icmp .gt 36, 3) := by decide +kernel
theorem dX7_bestSet_28 : decode cX7_bestSet 28 = .ok (.aload_n 0, 1) := by decide +kernel
theorem dX7_bestSet_29 : decode cX7_bestSet 29 = .ok (.iload_n 1, 1) := by decide +kernel
theorem dX7_bestSet_30 : decode cX7_bestSet 30 = .ok (.iload 5, 2) := by decide +kernel
theorem dX7_bestSet_32 : decode cX7_bestSet 32 = .ok (.iload_n 2, 1) := by decide +kernel
theorem dX7_bestSet_33 : decode cX7_bestSet 33 = .ok (.invokevirtual 247, 3) := by decide +kernel
theorem dX7_bestSet_36 : decode cX7_bestSet 36 = .ok (.istore 6, 2) := by decide +kernel
theorem dX7_bestSet_38 : decode cX7_bestSet 38 = .ok (.iload 6, 2) := by decide +kernel
theorem dX7_bestSet_40 : decode cX7_bestSet 40 = .ok (.iload 4, 2) := by decide +kernel
theorem dX7_bestSet_42 : decode cX7_bestSet 42 = .ok (.if_icmp .lt 6, 3) := by decide +kernel
theorem dX7_bestSet_45 : decode cX7_bestSet 45 = .ok (.goto 10, 3) := by decide +kernel
theorem dX7_bestSet_48 : decode cX7_bestSet 48 = .ok (.iload 5, 2) := by decide +kernel
theorem dX7_bestSet_50 : decode cX7_bestSet 50 = .ok (.istore_n 3, 1) := by decide +kernel
theorem dX7_bestSet_51 : decode cX7_bestSet 51 = .ok (.iload 6, 2) := by decide +kernel
theorem dX7_bestSet_53 : decode cX7_bestSet 53 = .ok (.istore 4, 2) := by decide +kernel
theorem dX7_bestSet_55 : decode cX7_bestSet 55 = .ok (.iinc 5 1, 3) := by decide +kernel
theorem dX7_bestSet_58 : decode cX7_bestSet 58 = .ok (.goto (-39), 3) := by decide +kernel
theorem dX7_bestSet_61 : decode cX7_bestSet 61 = .ok (.iload_n 3, 1) := by decide +kernel
theorem dX7_bestSet_62 : decode cX7_bestSet 62 = .ok (.ireturn, 1) := by decide +kernel
theorem dX7_bestRule_0 : decode cX7_bestRule 0 = .ok (.iconst 0, 1) := by decide +kernel
theorem dX7_bestRule_1 : decode cX7_bestRule 1 = .ok (.istore_n 2, 1) := by decide +kernel
theorem dX7_bestRule_2 : decode cX7_bestRule 2 = .ok (.iconst 1, 1) := by decide +kernel
theorem dX7_bestRule_3 : decode cX7_bestRule 3 = .ok (.istore_n 3, 1) := by decide +kernel
theorem dX7_bestRule_4 : decode cX7_bestRule 4 = .ok (.iload_n 3, 1) := by decide +kernel
theorem dX7_bestRule_5 : decode cX7_bestRule 5 = .ok (.iconst 5, 1) := by decide +kernel
theorem dX7_bestRule_6 : decode cX7_bestRule 6 = .ok (.if_icmp .ge 30, 3) := by decide +kernel
theorem dX7_bestRule_9 : decode cX7_bestRule 9 = .ok (.aload_n 0, 1) := by decide +kernel
theorem dX7_bestRule_10 : decode cX7_bestRule 10 = .ok (.iload_n 3, 1) := by decide +kernel
theorem dX7_bestRule_11 : decode cX7_bestRule 11 = .ok (.iload_n 1, 1) := by decide +kernel
theorem dX7_bestRule_12 : decode cX7_bestRule 12 = .ok (.invokevirtual 250, 3) := by decide +kernel
theorem dX7_bestRule_15 : decode cX7_bestRule 15 = .ok (.aload_n 0, 1) := by decide +kernel
theorem dX7_bestRule_16 : decode cX7_bestRule 16 = .ok (.iload_n 2, 1) := by decide +kernel
theorem dX7_bestRule_17 : decode cX7_bestRule 17 = .ok (.iload_n 1, 1) := by decide +kernel
theorem dX7_bestRule_18 : decode cX7_bestRule 18 = .ok (.invokevirtual 250, 3) := by decide +kernel
theorem dX7_bestRule_21 : decode cX7_bestRule 21 = .ok (.if_icmp .ge 7, 3) := by decide +kernel
theorem dX7_bestRule_24 : decode cX7_bestRule 24 = .ok (.iload_n 3, 1) := by decide +kernel
theorem dX7_bestRule_25 : decode cX7_bestRule 25 = .ok (.goto 4, 3) := by decide +kernel
theorem dX7_bestRule_28 : decode cX7_bestRule 28 = .ok (.iload_n 2, 1) := by decide +kernel
theorem dX7_bestRule_29 : decode cX7_bestRule 29 = .ok (.istore_n 2, 1) := by decide +kernel
theorem dX7_bestRule_30 : decode cX7_bestRule 30 = .ok (.iinc 3 1, 3) := by decide +kernel
theorem dX7_bestRule_33 : decode cX7_bestRule 33 = .ok (.goto (-29), 3) := by decide +kernel
theorem dX7_bestRule_36 : decode cX7_bestRule 36 = .ok (.iload_n 2, 1) := by decide +kernel
theorem dX7_bestRule_37 : decode cX7_bestRule 37 = .ok (.ireturn, 1) := by decide +kernel
theorem dX7_bestFirst_0 : decode cX7_bestFirst 0 = .ok (.aload_n 0, 1) := by decide +kernel
theorem dX7_bestFirst_1 : decode cX7_bestFirst 1 = .ok (.getfield 65, 3) := by decide +kernel
theorem dX7_bestFirst_4 : decode cX7_bestFirst 4 = .ok (.ifCond .ne 8, 3) := by decide +kernel
theorem dX7_bestFirst_7 : decode cX7_bestFirst 7 = .ok (.bipush (-9), 2) := by decide +kernel
theorem dX7_bestFirst_9 : decode cX7_bestFirst 9 = .ok (.goto 4, 3) := by decide +kernel
theorem dX7_bestFirst_12 : decode cX7_bestFirst 12 = .ok (.iconst 0, 1) := by decide +kernel
theorem dX7_bestFirst_13 : decode cX7_bestFirst 13 = .ok (.istore_n 2, 1) := by decide +kernel
theorem dX7_bestFirst_14 : decode cX7_bestFirst 14 = .ok (.iconst 1, 1) := by decide +kernel
theorem dX7_bestFirst_15 : decode cX7_bestFirst 15 = .ok (.istore_n 3, 1) := by decide +kernel
theorem dX7_bestFirst_16 : decode cX7_bestFirst 16 = .ok (.iload_n 3, 1) := by decide +kernel
theorem dX7_bestFirst_17 : decode cX7_bestFirst 17 = .ok (.aload_n 0, 1) := by decide +kernel
theorem dX7_bestFirst_18 : decode cX7_bestFirst 18 = .ok (.getfield 65, 3) := by decide +kernel
theorem dX7_bestFirst_21 : decode cX7_bestFirst 21 = .ok (.if_icmp .ge 30, 3) := by decide +kernel
theorem dX7_bestFirst_24 : decode cX7_bestFirst 24 = .ok (.aload_n 0, 1) := by decide +kernel
theorem dX7_bestFirst_25 : decode cX7_bestFirst 25 = .ok (.iload_n 3, 1) := by decide +kernel
theorem dX7_bestFirst_26 : decode cX7_bestFirst 26 = .ok (.iload_n 1, 1) := by decide +kernel
theorem dX7_bestFirst_27 : decode cX7_bestFirst 27 = .ok (.invokevirtual 253, 3) := by decide +kernel
theorem dX7_bestFirst_30 : decode cX7_bestFirst 30 = .ok (.aload_n 0, 1) := by decide +kernel
theorem dX7_bestFirst_31 : decode cX7_bestFirst 31 = .ok (.iload_n 2, 1) := by decide +kernel
theorem dX7_bestFirst_32 : decode cX7_bestFirst 32 = .ok (.iload_n 1, 1) := by decide +kernel
theorem dX7_bestFirst_33 : decode cX7_bestFirst 33 = .ok (.invokevirtual 253, 3) := by decide +kernel
theorem dX7_bestFirst_36 : decode cX7_bestFirst 36 = .ok (.if_icmp .ge 7, 3) := by decide +kernel
theorem dX7_bestFirst_39 : decode cX7_bestFirst 39 = .ok (.iload_n 3, 1) := by decide +kernel
theorem dX7_bestFirst_40 : decode cX7_bestFirst 40 = .ok (.goto 4, 3) := by decide +kernel
theorem dX7_bestFirst_43 : decode cX7_bestFirst 43 = .ok (.iload_n 2, 1) := by decide +kernel
theorem dX7_bestFirst_44 : decode cX7_bestFirst 44 = .ok (.istore_n 2, 1) := by decide +kernel
theorem dX7_bestFirst_45 : decode cX7_bestFirst 45 = .ok (.iinc 3 1, 3) := by decide +kernel
theorem dX7_bestFirst_48 : decode cX7_bestFirst 48 = .ok (.goto (-32), 3) := by decide +kernel
theorem dX7_bestFirst_51 : decode cX7_bestFirst 51 = .ok (.iload_n 2, 1) := by decide +kernel
theorem dX7_bestFirst_52 : decode cX7_bestFirst 52 = .ok (.ireturn, 1) := by decide +kernel
theorem dX7_best_0 : decode cX7_best 0 = .ok (.iload_n 1, 1) := by decide +kernel
theorem dX7_best_1 : decode cX7_best 1 = .ok (.iconst 0, 1) := by decide +kernel
theorem dX7_best_2 : decode cX7_best 2 = .ok (.sipush 240, 3) := by decide +kernel
theorem dX7_best_5 : decode cX7_best 5 = .ok (.invokestatic 69, 3) := by decide +kernel
theorem dX7_best_8 : decode cX7_best 8 = .ok (.istore_n 3, 1) := by decide +kernel
theorem dX7_best_9 : decode cX7_best 9 = .ok (.iload_n 3, 1) := by decide +kernel
theorem dX7_best_10 : decode cX7_best 10 = .ok (.ifCond .ne 15, 3) := by decide +kernel
theorem dX7_best_13 : decode cX7_best 13 = .ok (.iload_n 2, 1) := by decide +kernel
theorem dX7_best_14 : decode cX7_best 14 = .ok (.iconst 0, 1) := by decide +kernel
theorem dX7_best_15 : decode cX7_best 15 = .ok (.iconst 3, 1) := by decide +kernel
theorem dX7_best_16 : decode cX7_best 16 = .ok (.invokestatic 87, 3) := by decide +kernel
theorem dX7_best_19 : decode cX7_best 19 = .ok (.ifCond .ne 6, 3) := by decide +kernel
theorem dX7_best_22 : decode cX7_best 22 = .ok (.bipush (-2), 2) := by decide +kernel
theorem dX7_best_24 : decode cX7_best 24 = .ok (.istore_n 3, 1) := by decide +kernel
theorem dX7_best_25 : decode cX7_best 25 = .ok (.iload_n 3, 1) := by decide +kernel
theorem dX7_best_26 : decode cX7_best 26 = .ok (.ifCond .eq 9, 3) := by decide +kernel
theorem dX7_best_29 : decode cX7_best 29 = .ok (.aload_n 0, 1) := by decide +kernel
theorem dX7_best_30 : decode cX7_best 30 = .ok (.iload_n 3, 1) := by decide +kernel
theorem dX7_best_31 : decode cX7_best 31 = .ok (.invokevirtual 76, 3) := by decide +kernel
theorem dX7_best_34 : decode cX7_best 34 = .ok (.ireturn, 1) := by decide +kernel
theorem dX7_best_35 : decode cX7_best 35 = .ok (.iload_n 2, 1) := by decide +kernel
theorem dX7_best_36 : decode cX7_best 36 = .ok (.ifCond .ne 12, 3) := by decide +kernel
theorem dX7_best_39 : decode cX7_best 39 = .ok (.aload_n 0, 1) := by decide +kernel
theorem dX7_best_40 : decode cX7_best 40 = .ok (.iconst 4, 1) := by decide +kernel
theorem dX7_best_41 : decode cX7_best 41 = .ok (.iload_n 1, 1) := by decide +kernel
theorem dX7_best_42 : decode cX7_best 42 = .ok (.invokevirtual 256, 3) := by decide +kernel
theorem dX7_best_45 : decode cX7_best 45 = .ok (.goto 35, 3) := by decide +kernel
theorem dX7_best_48 : decode cX7_best 48 = .ok (.iload_n 2, 1) := by decide +kernel
theorem dX7_best_49 : decode cX7_best 49 = .ok (.iconst 1, 1) := by decide +kernel
theorem dX7_best_50 : decode cX7_best 50 = .ok (.if_icmp .ne 12, 3) := by decide +kernel
theorem dX7_best_53 : decode cX7_best 53 = .ok (.aload_n 0, 1) := by decide +kernel
theorem dX7_best_54 : decode cX7_best 54 = .ok (.iconst 5, 1) := by decide +kernel
theorem dX7_best_55 : decode cX7_best 55 = .ok (.iload_n 1, 1) := by decide +kernel
theorem dX7_best_56 : decode cX7_best 56 = .ok (.invokevirtual 256, 3) := by decide +kernel
theorem dX7_best_59 : decode cX7_best 59 = .ok (.goto 21, 3) := by decide +kernel
theorem dX7_best_62 : decode cX7_best 62 = .ok (.iload_n 2, 1) := by decide +kernel
theorem dX7_best_63 : decode cX7_best 63 = .ok (.iconst 2, 1) := by decide +kernel
theorem dX7_best_64 : decode cX7_best 64 = .ok (.if_icmp .ne 11, 3) := by decide +kernel
theorem dX7_best_67 : decode cX7_best 67 = .ok (.aload_n 0, 1) := by decide +kernel
theorem dX7_best_68 : decode cX7_best 68 = .ok (.iload_n 1, 1) := by decide +kernel
theorem dX7_best_69 : decode cX7_best 69 = .ok (.invokevirtual 259, 3) := by decide +kernel
theorem dX7_best_72 : decode cX7_best 72 = .ok (.goto 8, 3) := by decide +kernel
theorem dX7_best_75 : decode cX7_best 75 = .ok (.aload_n 0, 1) := by decide +kernel
theorem dX7_best_76 : decode cX7_best 76 = .ok (.iload_n 1, 1) := by decide +kernel
theorem dX7_best_77 : decode cX7_best 77 = .ok (.invokevirtual 262, 3) := by decide +kernel
theorem dX7_best_80 : decode cX7_best 80 = .ok (.ireturn, 1) := by decide +kernel
theorem dX7_finer_0 : decode cX7_finer 0 = .ok (.iload_n 1, 1) := by decide +kernel
theorem dX7_finer_1 : decode cX7_finer 1 = .ok (.iconst 0, 1) := by decide +kernel
theorem dX7_finer_2 : decode cX7_finer 2 = .ok (.sipush 240, 3) := by decide +kernel
theorem dX7_finer_5 : decode cX7_finer 5 = .ok (.invokestatic 69, 3) := by decide +kernel
theorem dX7_finer_8 : decode cX7_finer 8 = .ok (.istore_n 3, 1) := by decide +kernel
theorem dX7_finer_9 : decode cX7_finer 9 = .ok (.iload_n 3, 1) := by decide +kernel
theorem dX7_finer_10 : decode cX7_finer 10 = .ok (.ifCond .ne 13, 3) := by decide +kernel
theorem dX7_finer_13 : decode cX7_finer 13 = .ok (.aload_n 0, 1) := by decide +kernel
theorem dX7_finer_14 : decode cX7_finer 14 = .ok (.iload_n 2, 1) := by decide +kernel
theorem dX7_finer_15 : decode cX7_finer 15 = .ok (.invokevirtual 238, 3) := by decide +kernel
theorem dX7_finer_18 : decode cX7_finer 18 = .ok (.ifCond .ne 5, 3) := by decide +kernel
theorem dX7_finer_21 : decode cX7_finer 21 = .ok (.iconst (-1), 1) := by decide +kernel
theorem dX7_finer_22 : decode cX7_finer 22 = .ok (.istore_n 3, 1) := by decide +kernel
theorem dX7_finer_23 : decode cX7_finer 23 = .ok (.iload_n 3, 1) := by decide +kernel
theorem dX7_finer_24 : decode cX7_finer 24 = .ok (.ifCond .eq 9, 3) := by decide +kernel
theorem dX7_finer_27 : decode cX7_finer 27 = .ok (.aload_n 0, 1) := by decide +kernel
theorem dX7_finer_28 : decode cX7_finer 28 = .ok (.iload_n 3, 1) := by decide +kernel
theorem dX7_finer_29 : decode cX7_finer 29 = .ok (.invokevirtual 241, 3) := by decide +kernel
theorem dX7_finer_32 : decode cX7_finer 32 = .ok (.ireturn, 1) := by decide +kernel
theorem dX7_finer_33 : decode cX7_finer 33 = .ok (.aload_n 0, 1) := by decide +kernel
theorem dX7_finer_34 : decode cX7_finer 34 = .ok (.iload_n 1, 1) := by decide +kernel
theorem dX7_finer_35 : decode cX7_finer 35 = .ok (.invokevirtual 235, 3) := by decide +kernel
theorem dX7_finer_38 : decode cX7_finer 38 = .ok (.istore 4, 2) := by decide +kernel
theorem dX7_finer_40 : decode cX7_finer 40 = .ok (.aload_n 0, 1) := by decide +kernel
theorem dX7_finer_41 : decode cX7_finer 41 = .ok (.getfield 28, 3) := by decide +kernel
theorem dX7_finer_44 : decode cX7_finer 44 = .ok (.iload_n 2, 1) := by decide +kernel
theorem dX7_finer_45 : decode cX7_finer 45 = .ok (.iaload, 1) := by decide +kernel
theorem dX7_finer_46 : decode cX7_finer 46 = .ok (.istore 5, 2) := by decide +kernel
theorem dX7_finer_48 : decode cX7_finer 48 = .ok (.aload_n 0, 1) := by decide +kernel
theorem dX7_finer_49 : decode cX7_finer 49 = .ok (.getfield 28, 3) := by decide +kernel
theorem dX7_finer_52 : decode cX7_finer 52 = .ok (.iload_n 2, 1) := by decide +kernel
theorem dX7_finer_53 : decode cX7_finer 53 = .ok (.iconst 1, 1) := by decide +kernel
theorem dX7_finer_54 : decode cX7_finer 54 = .ok (.iastore, 1) := by decide +kernel
theorem dX7_finer_55 : decode cX7_finer 55 = .ok (.aload_n 0, 1) := by decide +kernel
theorem dX7_finer_56 : decode cX7_finer 56 = .ok (.iload_n 1, 1) := by decide +kernel
theorem dX7_finer_57 : decode cX7_finer 57 = .ok (.invokevirtual 235, 3) := by decide +kernel
theorem dX7_finer_60 : decode cX7_finer 60 = .ok (.istore 6, 2) := by decide +kernel
theorem dX7_finer_62 : decode cX7_finer 62 = .ok (.aload_n 0, 1) := by decide +kernel
theorem dX7_finer_63 : decode cX7_finer 63 = .ok (.getfield 28, 3) := by decide +kernel
theorem dX7_finer_66 : decode cX7_finer 66 = .ok (.iload_n 2, 1) := by decide +kernel
theorem dX7_finer_67 : decode cX7_finer 67 = .ok (.iload 5, 2) := by decide +kernel
theorem dX7_finer_69 : decode cX7_finer 69 = .ok (.iastore, 1) := by decide +kernel
theorem dX7_finer_70 : decode cX7_finer 70 = .ok (.iload 4, 2) := by decide +kernel
theorem dX7_finer_72 : decode cX7_finer 72 = .ok (.iload 6, 2) := by decide +kernel
theorem dX7_finer_74 : decode cX7_finer 74 = .ok (.isub, 1) := by decide +kernel
theorem dX7_finer_75 : decode cX7_finer 75 = .ok (.ireturn, 1) := by decide +kernel
theorem dX7_mark_0 : decode cX7_mark 0 = .ok (.iload_n 1, 1) := by decide +kernel
theorem dX7_mark_1 : decode cX7_mark 1 = .ok (.iconst 0, 1) := by decide +kernel
theorem dX7_mark_2 : decode cX7_mark 2 = .ok (.sipush 240, 3) := by decide +kernel
theorem dX7_mark_5 : decode cX7_mark 5 = .ok (.invokestatic 69, 3) := by decide +kernel
theorem dX7_mark_8 : decode cX7_mark 8 = .ok (.istore_n 2, 1) := by decide +kernel
theorem dX7_mark_9 : decode cX7_mark 9 = .ok (.iload_n 2, 1) := by decide +kernel
theorem dX7_mark_10 : decode cX7_mark 10 = .ok (.ifCond .eq 9, 3) := by decide +kernel
theorem dX7_mark_13 : decode cX7_mark 13 = .ok (.aload_n 0, 1) := by decide +kernel
theorem dX7_mark_14 : decode cX7_mark 14 = .ok (.iload_n 2, 1) := by decide +kernel
theorem dX7_mark_15 : decode cX7_mark 15 = .ok (.invokevirtual 241, 3) := by decide +kernel
theorem dX7_mark_18 : decode cX7_mark 18 = .ok (.ireturn, 1) := by decide +kernel
theorem dX7_mark_19 : decode cX7_mark 19 = .ok (.aload_n 0, 1) := by decide +kernel
theorem dX7_mark_20 : decode cX7_mark 20 = .ok (.iload_n 1, 1) := by decide +kernel
theorem dX7_mark_21 : decode cX7_mark 21 = .ok (.invokevirtual 235, 3) := by decide +kernel
theorem dX7_mark_24 : decode cX7_mark 24 = .ok (.istore_n 3, 1) := by decide +kernel
theorem dX7_mark_25 : decode cX7_mark 25 = .ok (.aload_n 0, 1) := by decide +kernel
theorem dX7_mark_26 : decode cX7_mark 26 = .ok (.iconst 2, 1) := by decide +kernel
theorem dX7_mark_27 : decode cX7_mark 27 = .ok (.iconst 1, 1) := by decide +kernel
theorem dX7_mark_28 : decode cX7_mark 28 = .ok (.invokevirtual 149, 3) := by decide +kernel
theorem dX7_mark_31 : decode cX7_mark 31 = .ok (.iconst 0, 1) := by decide +kernel
theorem dX7_mark_32 : decode cX7_mark 32 = .ok (.istore 4, 2) := by decide +kernel
theorem dX7_mark_34 : decode cX7_mark 34 = .ok (.iload 4, 2) := by decide +kernel
theorem dX7_mark_36 : decode cX7_mark 36 = .ok (.aload_n 0, 1) := by decide +kernel
theorem dX7_mark_37 : decode cX7_mark 37 = .ok (.getfield 65, 3) := by decide +kernel
theorem dX7_mark_40 : decode cX7_mark 40 = .ok (.if_icmp .ge 17, 3) := by decide +kernel
theorem dX7_mark_43 : decode cX7_mark 43 = .ok (.aload_n 0, 1) := by decide +kernel
theorem dX7_mark_44 : decode cX7_mark 44 = .ok (.getfield 28, 3) := by decide +kernel
theorem dX7_mark_47 : decode cX7_mark 47 = .ok (.iload 4, 2) := by decide +kernel
theorem dX7_mark_49 : decode cX7_mark 49 = .ok (.iconst 1, 1) := by decide +kernel
theorem dX7_mark_50 : decode cX7_mark 50 = .ok (.iastore, 1) := by decide +kernel
theorem dX7_mark_51 : decode cX7_mark 51 = .ok (.iinc 4 1, 3) := by decide +kernel
theorem dX7_mark_54 : decode cX7_mark 54 = .ok (.goto (-20), 3) := by decide +kernel
theorem dX7_mark_57 : decode cX7_mark 57 = .ok (.aload_n 0, 1) := by decide +kernel
theorem dX7_mark_58 : decode cX7_mark 58 = .ok (.iload_n 1, 1) := by decide +kernel
theorem dX7_mark_59 : decode cX7_mark 59 = .ok (.invokevirtual 235, 3) := by decide +kernel
theorem dX7_mark_62 : decode cX7_mark 62 = .ok (.istore 4, 2) := by decide +kernel
theorem dX7_mark_64 : decode cX7_mark 64 = .ok (.aload_n 0, 1) := by decide +kernel
theorem dX7_mark_65 : decode cX7_mark 65 = .ok (.iconst 2, 1) := by decide +kernel
theorem dX7_mark_66 : decode cX7_mark 66 = .ok (.iconst 0, 1) := by decide +kernel
theorem dX7_mark_67 : decode cX7_mark 67 = .ok (.invokevirtual 149, 3) := by decide +kernel
theorem dX7_mark_70 : decode cX7_mark 70 = .ok (.iload_n 3, 1) := by decide +kernel
theorem dX7_mark_71 : decode cX7_mark 71 = .ok (.iload 4, 2) := by decide +kernel
theorem dX7_mark_73 : decode cX7_mark 73 = .ok (.isub, 1) := by decide +kernel
theorem dX7_mark_74 : decode cX7_mark 74 = .ok (.ireturn, 1) := by decide +kernel
theorem dX7_most_0 : decode cX7_most 0 = .ok (.iload_n 1, 1) := by decide +kernel
theorem dX7_most_1 : decode cX7_most 1 = .ok (.iconst 0, 1) := by decide +kernel
theorem dX7_most_2 : decode cX7_most 2 = .ok (.sipush 240, 3) := by decide +kernel
theorem dX7_most_5 : decode cX7_most 5 = .ok (.invokestatic 69, 3) := by decide +kernel
theorem dX7_most_8 : decode cX7_most 8 = .ok (.istore_n 2, 1) := by decide +kernel
theorem dX7_most_9 : decode cX7_most 9 = .ok (.iload_n 2, 1) := by decide +kernel
theorem dX7_most_10 : decode cX7_most 10 = .ok (.ifCond .eq 9, 3) := by decide +kernel
theorem dX7_most_13 : decode cX7_most 13 = .ok (.aload_n 0, 1) := by decide +kernel
theorem dX7_most_14 : decode cX7_most 14 = .ok (.iload_n 2, 1) := by decide +kernel
theorem dX7_most_15 : decode cX7_most 15 = .ok (.invokevirtual 76, 3) := by decide +kernel
theorem dX7_most_18 : decode cX7_most 18 = .ok (.ireturn, 1) := by decide +kernel
theorem dX7_most_19 : decode cX7_most 19 = .ok (.aload_n 0, 1) := by decide +kernel
theorem dX7_most_20 : decode cX7_most 20 = .ok (.iload_n 1, 1) := by decide +kernel
theorem dX7_most_21 : decode cX7_most 21 = .ok (.invokevirtual 235, 3) := by decide +kernel
theorem dX7_most_24 : decode cX7_most 24 = .ok (.pop, 1) := by decide +kernel
theorem dX7_most_25 : decode cX7_most 25 = .ok (.aload_n 0, 1) := by decide +kernel
theorem dX7_most_26 : decode cX7_most 26 = .ok (.getfield 65, 3) := by decide +kernel
theorem dX7_most_29 : decode cX7_most 29 = .ok (.ifCond .ne 8, 3) := by decide +kernel
theorem dX7_most_32 : decode cX7_most 32 = .ok (.bipush (-9), 2) := by decide +kernel
theorem dX7_most_34 : decode cX7_most 34 = .ok (.goto 4, 3) := by decide +kernel
theorem dX7_most_37 : decode cX7_most 37 = .ok (.iconst 0, 1) := by decide +kernel
theorem dX7_most_38 : decode cX7_most 38 = .ok (.istore_n 3, 1) := by decide +kernel
theorem dX7_most_39 : decode cX7_most 39 = .ok (.iconst 1, 1) := by decide +kernel
theorem dX7_most_40 : decode cX7_most 40 = .ok (.istore 4, 2) := by decide +kernel
theorem dX7_most_42 : decode cX7_most 42 = .ok (.iload 4, 2) := by decide +kernel
theorem dX7_most_44 : decode cX7_most 44 = .ok (.aload_n 0, 1) := by decide +kernel
theorem dX7_most_45 : decode cX7_most 45 = .ok (.getfield 65, 3) := by decide +kernel
theorem dX7_most_48 : decode cX7_most 48 = .ok (.if_icmp .ge 30, 3) := by decide +kernel
theorem dX7_most_51 : decode cX7_most 51 = .ok (.aload_n 0, 1) := by decide +kernel
theorem dX7_most_52 : decode cX7_most 52 = .ok (.iload 4, 2) := by decide +kernel
theorem dX7_most_54 : decode cX7_most 54 = .ok (.invokevirtual 244, 3) := by decide +kernel
theorem dX7_most_57 : decode cX7_most 57 = .ok (.aload_n 0, 1) := by decide +kernel
theorem dX7_most_58 : decode cX7_most 58 = .ok (.iload_n 3, 1) := by decide +kernel
theorem dX7_most_59 : decode cX7_most 59 = .ok (.invokevirtual 244, 3) := by decide +kernel
theorem dX7_most_62 : decode cX7_most 62 = .ok (.if_icmp .le 8, 3) := by decide +kernel
theorem dX7_most_65 : decode cX7_most 65 = .ok (.iload 4, 2) := by decide +kernel
theorem dX7_most_67 : decode cX7_most 67 = .ok (.goto 4, 3) := by decide +kernel
theorem dX7_most_70 : decode cX7_most 70 = .ok (.iload_n 3, 1) := by decide +kernel
theorem dX7_most_71 : decode cX7_most 71 = .ok (.istore_n 3, 1) := by decide +kernel
theorem dX7_most_72 : decode cX7_most 72 = .ok (.iinc 4 1, 3) := by decide +kernel
theorem dX7_most_75 : decode cX7_most 75 = .ok (.goto (-33), 3) := by decide +kernel
theorem dX7_most_78 : decode cX7_most 78 = .ok (.iload_n 3, 1) := by decide +kernel
theorem dX7_most_79 : decode cX7_most 79 = .ok (.ireturn, 1) := by decide +kernel
theorem dX7_between_0 : decode cX7_between 0 = .ok (.iload_n 1, 1) := by decide +kernel
theorem dX7_between_1 : decode cX7_between 1 = .ok (.iconst 0, 1) := by decide +kernel
theorem dX7_between_2 : decode cX7_between 2 = .ok (.sipush 240, 3) := by decide +kernel
theorem dX7_between_5 : decode cX7_between 5 = .ok (.invokestatic 69, 3) := by decide +kernel
theorem dX7_between_8 : decode cX7_between 8 = .ok (.istore_n 2, 1) := by decide +kernel
theorem dX7_between_9 : decode cX7_between 9 = .ok (.iload_n 2, 1) := by decide +kernel
theorem dX7_between_10 : decode cX7_between 10 = .ok (.ifCond .eq 11, 3) := by decide +kernel
theorem dX7_between_13 : decode cX7_between 13 = .ok (.aload_n 0, 1) := by decide +kernel
theorem dX7_between_14 : decode cX7_between 14 = .ok (.iload_n 2, 1) := by decide +kernel
theorem dX7_between_15 : decode cX7_between 15 = .ok (.invokevirtual 76, 3) := by decide +kernel
theorem dX7_between_18 : decode cX7_between 18 = .ok (.goto 12, 3) := by decide +kernel
theorem dX7_between_21 : decode cX7_between 21 = .ok (.bipush 20, 2) := by decide +kernel
theorem dX7_between_23 : decode cX7_between 23 = .ok (.aload_n 0, 1) := by decide +kernel
theorem dX7_between_24 : decode cX7_between 24 = .ok (.iconst 1, 1) := by decide +kernel
theorem dX7_between_25 : decode cX7_between 25 = .ok (.iload_n 1, 1) := by decide +kernel
theorem dX7_between_26 : decode cX7_between 26 = .ok (.invokevirtual 256, 3) := by decide +kernel
theorem dX7_between_29 : decode cX7_between 29 = .ok (.iadd, 1) := by decide +kernel
theorem dX7_between_30 : decode cX7_between 30 = .ok (.ireturn, 1) := by decide +kernel
theorem dX7_leave_0 : decode cX7_leave 0 = .ok (.iload_n 1, 1) := by decide +kernel
theorem dX7_leave_1 : decode cX7_leave 1 = .ok (.iconst 0, 1) := by decide +kernel
theorem dX7_leave_2 : decode cX7_leave 2 = .ok (.sipush 240, 3) := by decide +kernel
theorem dX7_leave_5 : decode cX7_leave 5 = .ok (.invokestatic 69, 3) := by decide +kernel
theorem dX7_leave_8 : decode cX7_leave 8 = .ok (.istore_n 2, 1) := by decide +kernel
theorem dX7_leave_9 : decode cX7_leave 9 = .ok (.iload_n 2, 1) := by decide +kernel
theorem dX7_leave_10 : decode cX7_leave 10 = .ok (.ifCond .eq 9, 3) := by decide +kernel
theorem dX7_leave_13 : decode cX7_leave 13 = .ok (.aload_n 0, 1) := by decide +kernel
theorem dX7_leave_14 : decode cX7_leave 14 = .ok (.iload_n 2, 1) := by decide +kernel
theorem dX7_leave_15 : decode cX7_leave 15 = .ok (.invokevirtual 241, 3) := by decide +kernel
theorem dX7_leave_18 : decode cX7_leave 18 = .ok (.ireturn, 1) := by decide +kernel
theorem dX7_leave_19 : decode cX7_leave 19 = .ok (.aload_n 0, 1) := by decide +kernel
theorem dX7_leave_20 : decode cX7_leave 20 = .ok (.iload_n 1, 1) := by decide +kernel
theorem dX7_leave_21 : decode cX7_leave 21 = .ok (.invokevirtual 235, 3) := by decide +kernel
theorem dX7_leave_24 : decode cX7_leave 24 = .ok (.istore_n 3, 1) := by decide +kernel
theorem dX7_leave_25 : decode cX7_leave 25 = .ok (.aload_n 0, 1) := by decide +kernel
theorem dX7_leave_26 : decode cX7_leave 26 = .ok (.iconst 5, 1) := by decide +kernel
theorem dX7_leave_27 : decode cX7_leave 27 = .ok (.iload_n 1, 1) := by decide +kernel
theorem dX7_leave_28 : decode cX7_leave 28 = .ok (.invokevirtual 250, 3) := by decide +kernel
theorem dX7_leave_31 : decode cX7_leave 31 = .ok (.iload_n 3, 1) := by decide +kernel
theorem dX7_leave_32 : decode cX7_leave 32 = .ok (.isub, 1) := by decide +kernel
theorem dX7_leave_33 : decode cX7_leave 33 = .ok (.ireturn, 1) := by decide +kernel
theorem dX7_isOff_0 : decode cX7_isOff 0 = .ok (.iload_n 1, 1) := by decide +kernel
theorem dX7_isOff_1 : decode cX7_isOff 1 = .ok (.aload_n 0, 1) := by decide +kernel
theorem dX7_isOff_2 : decode cX7_isOff 2 = .ok (.getfield 13, 3) := by decide +kernel
theorem dX7_isOff_5 : decode cX7_isOff 5 = .ok (.iconst 1, 1) := by decide +kernel
theorem dX7_isOff_6 : decode cX7_isOff 6 = .ok (.iaload, 1) := by decide +kernel
theorem dX7_isOff_7 : decode cX7_isOff 7 = .ok (.isub, 1) := by decide +kernel
theorem dX7_isOff_8 : decode cX7_isOff 8 = .ok (.invokestatic 176, 3) := by decide +kernel
theorem dX7_isOff_11 : decode cX7_isOff 11 = .ok (.aload_n 0, 1) := by decide +kernel
theorem dX7_isOff_12 : decode cX7_isOff 12 = .ok (.getfield 13, 3) := by decide +kernel
theorem dX7_isOff_15 : decode cX7_isOff 15 = .ok (.iconst 4, 1) := by decide +kernel
theorem dX7_isOff_16 : decode cX7_isOff 16 = .ok (.iaload, 1) := by decide +kernel
theorem dX7_isOff_17 : decode cX7_isOff 17 = .ok (.if_icmp .gt 23, 3) := by decide +kernel
theorem dX7_isOff_20 : decode cX7_isOff 20 = .ok (.iload_n 1, 1) := by decide +kernel
theorem dX7_isOff_21 : decode cX7_isOff 21 = .ok (.aload_n 0, 1) := by decide +kernel
theorem dX7_isOff_22 : decode cX7_isOff 22 = .ok (.getfield 13, 3) := by decide +kernel
theorem dX7_isOff_25 : decode cX7_isOff 25 = .ok (.iconst 2, 1) := by decide +kernel
theorem dX7_isOff_26 : decode cX7_isOff 26 = .ok (.iaload, 1) := by decide +kernel
theorem dX7_isOff_27 : decode cX7_isOff 27 = .ok (.isub, 1) := by decide +kernel
theorem dX7_isOff_28 : decode cX7_isOff 28 = .ok (.invokestatic 176, 3) := by decide +kernel
theorem dX7_isOff_31 : decode cX7_isOff 31 = .ok (.aload_n 0, 1) := by decide +kernel
theorem dX7_isOff_32 : decode cX7_isOff 32 = .ok (.getfield 13, 3) := by decide +kernel
theorem dX7_isOff_35 : decode cX7_isOff 35 = .ok (.iconst 4, 1) := by decide +kernel
theorem dX7_isOff_36 : decode cX7_isOff 36 = .ok (.iaload, 1) := by decide +kernel
theorem dX7_isOff_37 : decode cX7_isOff 37 = .ok (.if_icmp .le 7, 3) := by decide +kernel
theorem dX7_isOff_40 : decode cX7_isOff 40 = .ok (.iconst 1, 1) := by decide +kernel
theorem dX7_isOff_41 : decode cX7_isOff 41 = .ok (.goto 4, 3) := by decide +kernel
theorem dX7_isOff_44 : decode cX7_isOff 44 = .ok (.iconst 0, 1) := by decide +kernel
theorem dX7_isOff_45 : decode cX7_isOff 45 = .ok (.ireturn, 1) := by decide +kernel
theorem dX7_holdsFrom_0 : decode cX7_holdsFrom 0 = .ok (.aload_n 0, 1) := by decide +kernel
theorem dX7_holdsFrom_1 : decode cX7_holdsFrom 1 = .ok (.getfield 135, 3) := by decide +kernel
theorem dX7_holdsFrom_4 : decode cX7_holdsFrom 4 = .ok (.istore_n 2, 1) := by decide +kernel
theorem dX7_holdsFrom_5 : decode cX7_holdsFrom 5 = .ok (.aload_n 0, 1) := by decide +kernel
theorem dX7_holdsFrom_6 : decode cX7_holdsFrom 6 = .ok (.iconst 5, 1) := by decide +kernel
theorem dX7_holdsFrom_7 : decode cX7_holdsFrom 7 = .ok (.putfield 135, 3) := by decide +kernel
theorem dX7_holdsFrom_10 : decode cX7_holdsFrom 10 = .ok (.aload_n 0, 1) := by decide +kernel
theorem dX7_holdsFrom_11 : decode cX7_holdsFrom 11 = .ok (.iconst 0, 1) := by decide +kernel
theorem dX7_holdsFrom_12 : decode cX7_holdsFrom 12 = .ok (.iload_n 1, 1) := by decide +kernel
theorem dX7_holdsFrom_13 : decode cX7_holdsFrom 13 = .ok (.sipush 240, 3) := by decide +kernel
theorem dX7_holdsFrom_16 : decode cX7_holdsFrom 16 = .ok (.invokevirtual 247, 3) := by decide +kernel
theorem dX7_holdsFrom_19 : decode cX7_holdsFrom 19 = .ok (.pop, 1) := by decide +kernel
theorem dX7_holdsFrom_20 : decode cX7_holdsFrom 20 = .ok (.aload_n 0, 1) := by decide +kernel
theorem dX7_holdsFrom_21 : decode cX7_holdsFrom 21 = .ok (.iload_n 2, 1) := by decide +kernel
theorem dX7_holdsFrom_22 : decode cX7_holdsFrom 22 = .ok (.putfield 135, 3) := by decide +kernel
theorem dX7_holdsFrom_25 : decode cX7_holdsFrom 25 = .ok (.iconst 0, 1) := by decide +kernel
theorem dX7_holdsFrom_26 : decode cX7_holdsFrom 26 = .ok (.istore_n 3, 1) := by decide +kernel
theorem dX7_holdsFrom_27 : decode cX7_holdsFrom 27 = .ok (.iload_n 3, 1) := by decide +kernel
theorem dX7_holdsFrom_28 : decode cX7_holdsFrom 28 = .ok (.sipush 240, 3) := by decide +kernel
theorem dX7_holdsFrom_31 : decode cX7_holdsFrom 31 = .ok (.if_icmp .ge 24, 3) := by decide +kernel
theorem dX7_holdsFrom_34 : decode cX7_holdsFrom 34 = .ok (.aload_n 0, 1) := by decide +kernel
theorem dX7_holdsFrom_35 : decode cX7_holdsFrom 35 = .ok (.aload_n 0, 1) := by decide +kernel
theorem dX7_holdsFrom_36 : decode cX7_holdsFrom 36 = .ok (.getfield 55, 3) := by decide +kernel
theorem dX7_holdsFrom_39 : decode cX7_holdsFrom 39 = .ok (.iload_n 3, 1) := by decide +kernel
theorem dX7_holdsFrom_40 : decode cX7_holdsFrom 40 = .ok (.iaload, 1) := by decide +kernel
theorem dX7_holdsFrom_41 : decode cX7_holdsFrom 41 = .ok (.invokevirtual 265, 3) := by decide +kernel
theorem dX7_holdsFrom_44 : decode cX7_holdsFrom 44 = .ok (.ifCond .eq 5, 3) := by decide +kernel
theorem dX7_holdsFrom_47 : decode cX7_holdsFrom 47 = .ok (.iload_n 3, 1) := by decide +kernel
theorem dX7_holdsFrom_48 : decode cX7_holdsFrom 48 = .ok (.ireturn, 1) := by decide +kernel
theorem dX7_holdsFrom_49 : decode cX7_holdsFrom 49 = .ok (.iinc 3 1, 3) := by decide +kernel
theorem dX7_holdsFrom_52 : decode cX7_holdsFrom 52 = .ok (.goto (-25), 3) := by decide +kernel
theorem dX7_holdsFrom_55 : decode cX7_holdsFrom 55 = .ok (.bipush (-9), 2) := by decide +kernel
theorem dX7_holdsFrom_57 : decode cX7_holdsFrom 57 = .ok (.ireturn, 1) := by decide +kernel
theorem dX7_holds_0 : decode cX7_holds 0 = .ok (.iload_n 1, 1) := by decide +kernel
theorem dX7_holds_1 : decode cX7_holds 1 = .ok (.bipush (-99), 2) := by decide +kernel
theorem dX7_holds_3 : decode cX7_holds 3 = .ok (.bipush 99, 2) := by decide +kernel
theorem dX7_holds_5 : decode cX7_holds 5 = .ok (.invokestatic 69, 3) := by decide +kernel
theorem dX7_holds_8 : decode cX7_holds 8 = .ok (.istore_n 2, 1) := by decide +kernel
theorem dX7_holds_9 : decode cX7_holds 9 = .ok (.iload_n 2, 1) := by decide +kernel
theorem dX7_holds_10 : decode cX7_holds 10 = .ok (.ifCond .eq 11, 3) := by decide +kernel
theorem dX7_holds_13 : decode cX7_holds 13 = .ok (.aload_n 0, 1) := by decide +kernel
theorem dX7_holds_14 : decode cX7_holds 14 = .ok (.iload_n 2, 1) := by decide +kernel
theorem dX7_holds_15 : decode cX7_holds 15 = .ok (.invokevirtual 76, 3) := by decide +kernel
theorem dX7_holds_18 : decode cX7_holds 18 = .ok (.goto 8, 3) := by decide +kernel
theorem dX7_holds_21 : decode cX7_holds 21 = .ok (.aload_n 0, 1) := by decide +kernel
theorem dX7_holds_22 : decode cX7_holds 22 = .ok (.iload_n 1, 1) := by decide +kernel
theorem dX7_holds_23 : decode cX7_holds 23 = .ok (.invokevirtual 268, 3) := by decide +kernel
theorem dX7_holds_26 : decode cX7_holds 26 = .ok (.ireturn, 1) := by decide +kernel
theorem dX7_setAt_0 : decode cX7_setAt 0 = .ok (.iconst 0, 1) := by decide +kernel
theorem dX7_setAt_1 : decode cX7_setAt 1 = .ok (.istore_n 1, 1) := by decide +kernel
theorem dX7_setAt_2 : decode cX7_setAt 2 = .ok (.iconst (-1), 1) := by decide +kernel
theorem dX7_setAt_3 : decode cX7_setAt 3 = .ok (.istore_n 2, 1) := by decide +kernel
theorem dX7_setAt_4 : decode cX7_setAt 4 = .ok (.bipush (-20), 2) := by decide +kernel
theorem dX7_setAt_6 : decode cX7_setAt 6 = .ok (.istore_n 3, 1) := by decide +kernel
theorem dX7_setAt_7 : decode cX7_setAt 7 = .ok (.iload_n 3, 1) := by decide +kernel
theorem dX7_setAt_8 : decode cX7_setAt 8 = .ok (.bipush 20, 2) := by decide +kernel
theorem dX7_setAt_10 : decode cX7_setAt 10 = .ok (.if_icmp .gt 45, 3) := by decide +kernel
theorem dX7_setAt_13 : decode cX7_setAt 13 = .ok (.aload_n 0, 1) := by decide +kernel
theorem dX7_setAt_14 : decode cX7_setAt 14 = .ok (.iload_n 3, 1) := by decide +kernel
theorem dX7_setAt_15 : decode cX7_setAt 15 = .ok (.invokevirtual 268, 3) := by decide +kernel
theorem dX7_setAt_18 : decode cX7_setAt 18 = .ok (.istore 4, 2) := by decide +kernel
theorem dX7_setAt_20 : decode cX7_setAt 20 = .ok (.iload 4, 2) := by decide +kernel
theorem dX7_setAt_22 : decode cX7_setAt 22 = .ok (.ifCond .ge 9, 3) := by decide +kernel
theorem dX7_setAt_25 : decode cX7_setAt 25 = .ok (.sipush 240, 3) := by decide +kernel
theorem dX7_setAt_28 : decode cX7_setAt 28 = .ok (.goto 5, 3) := by decide +kernel
theorem dX7_setAt_31 : decode cX7_setAt 31 = .ok (.iload 4, 2) := by decide +kernel
theorem dX7_setAt_33 : decode cX7_setAt 33 = .ok (.istore 4, 2) := by decide +kernel
theorem dX7_setAt_35 : decode cX7_setAt 35 = .ok (.iload 4, 2) := by decide +kernel
theorem dX7_setAt_37 : decode cX7_setAt 37 = .ok (.iload_n 2, 1) := by decide +kernel
theorem dX7_setAt_38 : decode cX7_setAt 38 = .ok (.if_icmp .gt 6, 3) := by decide +kernel
theorem dX7_setAt_41 : decode cX7_setAt 41 = .ok (.goto 8, 3) := by decide +kernel
theorem dX7_setAt_44 : decode cX7_setAt 44 = .ok (.iload_n 3, 1) := by decide +kernel
theorem dX7_setAt_45 : decode cX7_setAt 45 = .ok (.istore_n 1, 1) := by decide +kernel
theorem dX7_setAt_46 : decode cX7_setAt 46 = .ok (.iload 4, 2) := by decide +kernel
theorem dX7_setAt_48 : decode cX7_setAt 48 = .ok (.istore_n 2, 1) := by decide +kernel
theorem dX7_setAt_49 : decode cX7_setAt 49 = .ok (.iinc 3 1, 3) := by decide +kernel
theorem dX7_setAt_52 : decode cX7_setAt 52 = .ok (.goto (-45), 3) := by decide +kernel
theorem dX7_setAt_55 : decode cX7_setAt 55 = .ok (.iload_n 1, 1) := by decide +kernel
theorem dX7_setAt_56 : decode cX7_setAt 56 = .ok (.bipush 20, 2) := by decide +kernel
theorem dX7_setAt_58 : decode cX7_setAt 58 = .ok (.iadd, 1) := by decide +kernel
theorem dX7_setAt_59 : decode cX7_setAt 59 = .ok (.ireturn, 1) := by decide +kernel
theorem dX7_isStill_0 : decode cX7_isStill 0 = .ok (.iconst 0, 1) := by decide +kernel
theorem dX7_isStill_1 : decode cX7_isStill 1 = .ok (.istore_n 2, 1) := by decide +kernel
theorem dX7_isStill_2 : decode cX7_isStill 2 = .ok (.iload_n 2, 1) := by decide +kernel
theorem dX7_isStill_3 : decode cX7_isStill 3 = .ok (.bipush 10, 2) := by decide +kernel
theorem dX7_isStill_5 : decode cX7_isStill 5 = .ok (.if_icmp .ge 21, 3) := by decide +kernel
theorem dX7_isStill_8 : decode cX7_isStill 8 = .ok (.aload_n 0, 1) := by decide +kernel
theorem dX7_isStill_9 : decode cX7_isStill 9 = .ok (.iload_n 1, 1) := by decide +kernel
theorem dX7_isStill_10 : decode cX7_isStill 10 = .ok (.iload_n 2, 1) := by decide +kernel
theorem dX7_isStill_11 : decode cX7_isStill 11 = .ok (.iadd, 1) := by decide +kernel
theorem dX7_isStill_12 : decode cX7_isStill 12 = .ok (.invokevirtual 188, 3) := by decide +kernel
theorem dX7_isStill_15 : decode cX7_isStill 15 = .ok (.ifCond .eq 5, 3) := by decide +kernel
theorem dX7_isStill_18 : decode cX7_isStill 18 = .ok (.iconst 0, 1) := by decide +kernel
theorem dX7_isStill_19 : decode cX7_isStill 19 = .ok (.ireturn, 1) := by decide +kernel
theorem dX7_isStill_20 : decode cX7_isStill 20 = .ok (.iinc 2 1, 3) := by decide +kernel
theorem dX7_isStill_23 : decode cX7_isStill 23 = .ok (.goto (-21), 3) := by decide +kernel
theorem dX7_isStill_26 : decode cX7_isStill 26 = .ok (.iconst 1, 1) := by decide +kernel
theorem dX7_isStill_27 : decode cX7_isStill 27 = .ok (.ireturn, 1) := by decide +kernel
theorem dX7_steadyFrom_0 : decode cX7_steadyFrom 0 = .ok (.iconst 0, 1) := by decide +kernel
theorem dX7_steadyFrom_1 : decode cX7_steadyFrom 1 = .ok (.istore_n 1, 1) := by decide +kernel
theorem dX7_steadyFrom_2 : decode cX7_steadyFrom 2 = .ok (.iload_n 1, 1) := by decide +kernel
end
section
theorem dX7_steadyFrom_3 : decode cX7_steadyFrom 3 = .ok (.sipush 240, 3) := by decide +kernel
theorem dX7_steadyFrom_6 : decode cX7_steadyFrom 6 = .ok (.if_icmp .gt 24, 3) := by decide +kernel
theorem dX7_steadyFrom_9 : decode cX7_steadyFrom 9 = .ok (.aload_n 0, 1) := by decide +kernel
theorem dX7_steadyFrom_10 : decode cX7_steadyFrom 10 = .ok (.aload_n 0, 1) := by decide +kernel
theorem dX7_steadyFrom_11 : decode cX7_steadyFrom 11 = .ok (.getfield 138, 3) := by decide +kernel
theorem dX7_steadyFrom_14 : decode cX7_steadyFrom 14 = .ok (.iload_n 1, 1) := by decide +kernel
theorem dX7_steadyFrom_15 : decode cX7_steadyFrom 15 = .ok (.iadd, 1) := by decide +kernel
theorem dX7_steadyFrom_16 : decode cX7_steadyFrom 16 = .ok (.invokevirtual 271, 3) := by decide +kernel
theorem dX7_steadyFrom_19 : decode cX7_steadyFrom 19 = .ok (.ifCond .eq 5, 3) := by decide +kernel
theorem dX7_steadyFrom_22 : decode cX7_steadyFrom 22 = .ok (.iload_n 1, 1) := by decide +kernel
theorem dX7_steadyFrom_23 : decode cX7_steadyFrom 23 = .ok (.ireturn, 1) := by decide +kernel
theorem dX7_steadyFrom_24 : decode cX7_steadyFrom 24 = .ok (.iinc 1 1, 3) := by decide +kernel
theorem dX7_steadyFrom_27 : decode cX7_steadyFrom 27 = .ok (.goto (-25), 3) := by decide +kernel
theorem dX7_steadyFrom_30 : decode cX7_steadyFrom 30 = .ok (.bipush (-9), 2) := by decide +kernel
theorem dX7_steadyFrom_32 : decode cX7_steadyFrom 32 = .ok (.ireturn, 1) := by decide +kernel
theorem dX7_whoLast_0 : decode cX7_whoLast 0 = .ok (.iload_n 1, 1) := by decide +kernel
theorem dX7_whoLast_1 : decode cX7_whoLast 1 = .ok (.iconst 0, 1) := by decide +kernel
theorem dX7_whoLast_2 : decode cX7_whoLast 2 = .ok (.sipush 240, 3) := by decide +kernel
theorem dX7_whoLast_5 : decode cX7_whoLast 5 = .ok (.invokestatic 69, 3) := by decide +kernel
theorem dX7_whoLast_8 : decode cX7_whoLast 8 = .ok (.istore_n 2, 1) := by decide +kernel
theorem dX7_whoLast_9 : decode cX7_whoLast 9 = .ok (.iload_n 2, 1) := by decide +kernel
theorem dX7_whoLast_10 : decode cX7_whoLast 10 = .ok (.ifCond .eq 9, 3) := by decide +kernel
theorem dX7_whoLast_13 : decode cX7_whoLast 13 = .ok (.aload_n 0, 1) := by decide +kernel
theorem dX7_whoLast_14 : decode cX7_whoLast 14 = .ok (.iload_n 2, 1) := by decide +kernel
theorem dX7_whoLast_15 : decode cX7_whoLast 15 = .ok (.invokevirtual 76, 3) := by decide +kernel
theorem dX7_whoLast_18 : decode cX7_whoLast 18 = .ok (.ireturn, 1) := by decide +kernel
theorem dX7_whoLast_19 : decode cX7_whoLast 19 = .ok (.aload_n 0, 1) := by decide +kernel
theorem dX7_whoLast_20 : decode cX7_whoLast 20 = .ok (.iload_n 1, 1) := by decide +kernel
theorem dX7_whoLast_21 : decode cX7_whoLast 21 = .ok (.invokevirtual 235, 3) := by decide +kernel
theorem dX7_whoLast_24 : decode cX7_whoLast 24 = .ok (.pop, 1) := by decide +kernel
theorem dX7_whoLast_25 : decode cX7_whoLast 25 = .ok (.aload_n 0, 1) := by decide +kernel
theorem dX7_whoLast_26 : decode cX7_whoLast 26 = .ok (.getfield 203, 3) := by decide +kernel
theorem dX7_whoLast_29 : decode cX7_whoLast 29 = .ok (.ireturn, 1) := by decide +kernel
theorem dX7_when_0 : decode cX7_when 0 = .ok (.iload_n 1, 1) := by decide +kernel
theorem dX7_when_1 : decode cX7_when 1 = .ok (.ifCond .ge 10, 3) := by decide +kernel
theorem dX7_when_4 : decode cX7_when 4 = .ok (.aload_n 0, 1) := by decide +kernel
theorem dX7_when_5 : decode cX7_when 5 = .ok (.bipush (-4), 2) := by decide +kernel
theorem dX7_when_7 : decode cX7_when 7 = .ok (.invokevirtual 76, 3) := by decide +kernel
theorem dX7_when_10 : decode cX7_when 10 = .ok (.ireturn, 1) := by decide +kernel
theorem dX7_when_11 : decode cX7_when 11 = .ok (.aload_n 0, 1) := by decide +kernel
theorem dX7_when_12 : decode cX7_when 12 = .ok (.sipush 240, 3) := by decide +kernel
theorem dX7_when_15 : decode cX7_when 15 = .ok (.invokevirtual 235, 3) := by decide +kernel
theorem dX7_when_18 : decode cX7_when 18 = .ok (.pop, 1) := by decide +kernel
theorem dX7_when_19 : decode cX7_when 19 = .ok (.iload_n 1, 1) := by decide +kernel
theorem dX7_when_20 : decode cX7_when 20 = .ok (.aload_n 0, 1) := by decide +kernel
theorem dX7_when_21 : decode cX7_when 21 = .ok (.getfield 191, 3) := by decide +kernel
theorem dX7_when_24 : decode cX7_when 24 = .ok (.if_icmp .ge 12, 3) := by decide +kernel
theorem dX7_when_27 : decode cX7_when 27 = .ok (.aload_n 0, 1) := by decide +kernel
theorem dX7_when_28 : decode cX7_when 28 = .ok (.getfield 58, 3) := by decide +kernel
theorem dX7_when_31 : decode cX7_when 31 = .ok (.iload_n 1, 1) := by decide +kernel
theorem dX7_when_32 : decode cX7_when 32 = .ok (.iaload, 1) := by decide +kernel
theorem dX7_when_33 : decode cX7_when 33 = .ok (.goto 5, 3) := by decide +kernel
theorem dX7_when_36 : decode cX7_when 36 = .ok (.bipush (-9), 2) := by decide +kernel
theorem dX7_when_38 : decode cX7_when 38 = .ok (.ireturn, 1) := by decide +kernel
theorem dX7_row_0 : decode cX7_row 0 = .ok (.iload_n 1, 1) := by decide +kernel
theorem dX7_row_1 : decode cX7_row 1 = .ok (.iconst 0, 1) := by decide +kernel
theorem dX7_row_2 : decode cX7_row 2 = .ok (.bipush 99, 2) := by decide +kernel
theorem dX7_row_4 : decode cX7_row 4 = .ok (.invokestatic 69, 3) := by decide +kernel
theorem dX7_row_7 : decode cX7_row 7 = .ok (.istore_n 2, 1) := by decide +kernel
theorem dX7_row_8 : decode cX7_row 8 = .ok (.iload_n 2, 1) := by decide +kernel
theorem dX7_row_9 : decode cX7_row 9 = .ok (.ifCond .ne 15, 3) := by decide +kernel
theorem dX7_row_12 : decode cX7_row 12 = .ok (.aload_n 0, 1) := by decide +kernel
theorem dX7_row_13 : decode cX7_row 13 = .ok (.getfield 274, 3) := by decide +kernel
theorem dX7_row_16 : decode cX7_row 16 = .ok (.bipush 12, 2) := by decide +kernel
theorem dX7_row_18 : decode cX7_row 18 = .ok (.if_icmp .ne 6, 3) := by decide +kernel
theorem dX7_row_21 : decode cX7_row 21 = .ok (.bipush (-6), 2) := by decide +kernel
theorem dX7_row_23 : decode cX7_row 23 = .ok (.istore_n 2, 1) := by decide +kernel
theorem dX7_row_24 : decode cX7_row 24 = .ok (.iload_n 2, 1) := by decide +kernel
theorem dX7_row_25 : decode cX7_row 25 = .ok (.ifCond .eq 9, 3) := by decide +kernel
theorem dX7_row_28 : decode cX7_row 28 = .ok (.aload_n 0, 1) := by decide +kernel
theorem dX7_row_29 : decode cX7_row 29 = .ok (.iload_n 2, 1) := by decide +kernel
theorem dX7_row_30 : decode cX7_row 30 = .ok (.invokevirtual 76, 3) := by decide +kernel
theorem dX7_row_33 : decode cX7_row 33 = .ok (.ireturn, 1) := by decide +kernel
theorem dX7_row_34 : decode cX7_row 34 = .ok (.aload_n 0, 1) := by decide +kernel
theorem dX7_row_35 : decode cX7_row 35 = .ok (.getfield 61, 3) := by decide +kernel
theorem dX7_row_38 : decode cX7_row 38 = .ok (.aload_n 0, 1) := by decide +kernel
theorem dX7_row_39 : decode cX7_row 39 = .ok (.getfield 274, 3) := by decide +kernel
theorem dX7_row_42 : decode cX7_row 42 = .ok (.iload_n 1, 1) := by decide +kernel
theorem dX7_row_43 : decode cX7_row 43 = .ok (.iastore, 1) := by decide +kernel
theorem dX7_row_44 : decode cX7_row 44 = .ok (.aload_n 0, 1) := by decide +kernel
theorem dX7_row_45 : decode cX7_row 45 = .ok (.dup, 1) := by decide +kernel
theorem dX7_row_46 : decode cX7_row 46 = .ok (.getfield 274, 3) := by decide +kernel
theorem dX7_row_49 : decode cX7_row 49 = .ok (.iconst 1, 1) := by decide +kernel
theorem dX7_row_50 : decode cX7_row 50 = .ok (.iadd, 1) := by decide +kernel
theorem dX7_row_51 : decode cX7_row 51 = .ok (.putfield 274, 3) := by decide +kernel
theorem dX7_row_54 : decode cX7_row 54 = .ok (.aload_n 0, 1) := by decide +kernel
theorem dX7_row_55 : decode cX7_row 55 = .ok (.getfield 274, 3) := by decide +kernel
theorem dX7_row_58 : decode cX7_row 58 = .ok (.ireturn, 1) := by decide +kernel
theorem dX7_firstOther_0 : decode cX7_firstOther 0 = .ok (.iconst 0, 1) := by decide +kernel
theorem dX7_firstOther_1 : decode cX7_firstOther 1 = .ok (.istore_n 1, 1) := by decide +kernel
theorem dX7_firstOther_2 : decode cX7_firstOther 2 = .ok (.iload_n 1, 1) := by decide +kernel
theorem dX7_firstOther_3 : decode cX7_firstOther 3 = .ok (.aload_n 0, 1) := by decide +kernel
theorem dX7_firstOther_4 : decode cX7_firstOther 4 = .ok (.getfield 274, 3) := by decide +kernel
theorem dX7_firstOther_7 : decode cX7_firstOther 7 = .ok (.if_icmp .ge 52, 3) := by decide +kernel
theorem dX7_firstOther_10 : decode cX7_firstOther 10 = .ok (.aload_n 0, 1) := by decide +kernel
theorem dX7_firstOther_11 : decode cX7_firstOther 11 = .ok (.getfield 55, 3) := by decide +kernel
theorem dX7_firstOther_14 : decode cX7_firstOther 14 = .ok (.iload_n 1, 1) := by decide +kernel
theorem dX7_firstOther_15 : decode cX7_firstOther 15 = .ok (.iaload, 1) := by decide +kernel
theorem dX7_firstOther_16 : decode cX7_firstOther 16 = .ok (.bipush 50, 2) := by decide +kernel
theorem dX7_firstOther_18 : decode cX7_firstOther 18 = .ok (.iadd, 1) := by decide +kernel
theorem dX7_firstOther_19 : decode cX7_firstOther 19 = .ok (.istore_n 2, 1) := by decide +kernel
theorem dX7_firstOther_20 : decode cX7_firstOther 20 = .ok (.iload_n 2, 1) := by decide +kernel
theorem dX7_firstOther_21 : decode cX7_firstOther 21 = .ok (.ifCond .ge 7, 3) := by decide +kernel
theorem dX7_firstOther_24 : decode cX7_firstOther 24 = .ok (.iconst 0, 1) := by decide +kernel
theorem dX7_firstOther_25 : decode cX7_firstOther 25 = .ok (.goto 15, 3) := by decide +kernel
theorem dX7_firstOther_28 : decode cX7_firstOther 28 = .ok (.iload_n 2, 1) := by decide +kernel
theorem dX7_firstOther_29 : decode cX7_firstOther 29 = .ok (.bipush 99, 2) := by decide +kernel
theorem dX7_firstOther_31 : decode cX7_firstOther 31 = .ok (.if_icmp .le 8, 3) := by decide +kernel
theorem dX7_firstOther_34 : decode cX7_firstOther 34 = .ok (.bipush 99, 2) := by decide +kernel
theorem dX7_firstOther_36 : decode cX7_firstOther 36 = .ok (.goto 4, 3) := by decide +kernel
theorem dX7_firstOther_39 : decode cX7_firstOther 39 = .ok (.iload_n 2, 1) := by decide +kernel
theorem dX7_firstOther_40 : decode cX7_firstOther 40 = .ok (.istore_n 2, 1) := by decide +kernel
theorem dX7_firstOther_41 : decode cX7_firstOther 41 = .ok (.iload_n 2, 1) := by decide +kernel
theorem dX7_firstOther_42 : decode cX7_firstOther 42 = .ok (.aload_n 0, 1) := by decide +kernel
theorem dX7_firstOther_43 : decode cX7_firstOther 43 = .ok (.getfield 61, 3) := by decide +kernel
theorem dX7_firstOther_46 : decode cX7_firstOther 46 = .ok (.iload_n 1, 1) := by decide +kernel
theorem dX7_firstOther_47 : decode cX7_firstOther 47 = .ok (.iaload, 1) := by decide +kernel
theorem dX7_firstOther_48 : decode cX7_firstOther 48 = .ok (.if_icmp .eq 5, 3) := by decide +kernel
theorem dX7_firstOther_51 : decode cX7_firstOther 51 = .ok (.iload_n 1, 1) := by decide +kernel
theorem dX7_firstOther_52 : decode cX7_firstOther 52 = .ok (.ireturn, 1) := by decide +kernel
theorem dX7_firstOther_53 : decode cX7_firstOther 53 = .ok (.iinc 1 1, 3) := by decide +kernel
theorem dX7_firstOther_56 : decode cX7_firstOther 56 = .ok (.goto (-54), 3) := by decide +kernel
theorem dX7_firstOther_59 : decode cX7_firstOther 59 = .ok (.bipush (-9), 2) := by decide +kernel
theorem dX7_firstOther_61 : decode cX7_firstOther 61 = .ok (.ireturn, 1) := by decide +kernel
theorem dX7_kept_0 : decode cX7_kept 0 = .ok (.iload_n 1, 1) := by decide +kernel
theorem dX7_kept_1 : decode cX7_kept 1 = .ok (.iconst 0, 1) := by decide +kernel
theorem dX7_kept_2 : decode cX7_kept 2 = .ok (.iconst 1, 1) := by decide +kernel
theorem dX7_kept_3 : decode cX7_kept 3 = .ok (.invokestatic 87, 3) := by decide +kernel
theorem dX7_kept_6 : decode cX7_kept 6 = .ok (.ifCond .ne 10, 3) := by decide +kernel
theorem dX7_kept_9 : decode cX7_kept 9 = .ok (.aload_n 0, 1) := by decide +kernel
theorem dX7_kept_10 : decode cX7_kept 10 = .ok (.bipush (-2), 2) := by decide +kernel
theorem dX7_kept_12 : decode cX7_kept 12 = .ok (.invokevirtual 76, 3) := by decide +kernel
theorem dX7_kept_15 : decode cX7_kept 15 = .ok (.ireturn, 1) := by decide +kernel
theorem dX7_kept_16 : decode cX7_kept 16 = .ok (.iconst 0, 1) := by decide +kernel
theorem dX7_kept_17 : decode cX7_kept 17 = .ok (.istore_n 2, 1) := by decide +kernel
theorem dX7_kept_18 : decode cX7_kept 18 = .ok (.iconst 0, 1) := by decide +kernel
theorem dX7_kept_19 : decode cX7_kept 19 = .ok (.istore_n 3, 1) := by decide +kernel
theorem dX7_kept_20 : decode cX7_kept 20 = .ok (.iconst 0, 1) := by decide +kernel
theorem dX7_kept_21 : decode cX7_kept 21 = .ok (.istore 4, 2) := by decide +kernel
theorem dX7_kept_23 : decode cX7_kept 23 = .ok (.iload 4, 2) := by decide +kernel
theorem dX7_kept_25 : decode cX7_kept 25 = .ok (.iconst 5, 1) := by decide +kernel
theorem dX7_kept_26 : decode cX7_kept 26 = .ok (.if_icmp .ge 38, 3) := by decide +kernel
theorem dX7_kept_29 : decode cX7_kept 29 = .ok (.aload_n 0, 1) := by decide +kernel
theorem dX7_kept_30 : decode cX7_kept 30 = .ok (.iload 4, 2) := by decide +kernel
theorem dX7_kept_32 : decode cX7_kept 32 = .ok (.aload_n 0, 1) := by decide +kernel
theorem dX7_kept_33 : decode cX7_kept 33 = .ok (.getfield 274, 3) := by decide +kernel
theorem dX7_kept_36 : decode cX7_kept 36 = .ok (.invokevirtual 250, 3) := by decide +kernel
theorem dX7_kept_39 : decode cX7_kept 39 = .ok (.pop, 1) := by decide +kernel
theorem dX7_kept_40 : decode cX7_kept 40 = .ok (.iload_n 2, 1) := by decide +kernel
theorem dX7_kept_41 : decode cX7_kept 41 = .ok (.aload_n 0, 1) := by decide +kernel
theorem dX7_kept_42 : decode cX7_kept 42 = .ok (.invokevirtual 277, 3) := by decide +kernel
theorem dX7_kept_45 : decode cX7_kept 45 = .ok (.ifCond .ge 10, 3) := by decide +kernel
theorem dX7_kept_48 : decode cX7_kept 48 = .ok (.iconst 1, 1) := by decide +kernel
theorem dX7_kept_49 : decode cX7_kept 49 = .ok (.iload 4, 2) := by decide +kernel
theorem dX7_kept_51 : decode cX7_kept 51 = .ok (.ishl, 1) := by decide +kernel
theorem dX7_kept_52 : decode cX7_kept 52 = .ok (.goto 4, 3) := by decide +kernel
theorem dX7_kept_55 : decode cX7_kept 55 = .ok (.iconst 0, 1) := by decide +kernel
theorem dX7_kept_56 : decode cX7_kept 56 = .ok (.ior, 1) := by decide +kernel
theorem dX7_kept_57 : decode cX7_kept 57 = .ok (.istore_n 2, 1) := by decide +kernel
theorem dX7_kept_58 : decode cX7_kept 58 = .ok (.iinc 4 1, 3) := by decide +kernel
theorem dX7_kept_61 : decode cX7_kept 61 = .ok (.goto (-38), 3) := by decide +kernel
theorem dX7_kept_64 : decode cX7_kept 64 = .ok (.iconst 1, 1) := by decide +kernel
theorem dX7_kept_65 : decode cX7_kept 65 = .ok (.istore 4, 2) := by decide +kernel
theorem dX7_kept_67 : decode cX7_kept 67 = .ok (.iload 4, 2) := by decide +kernel
theorem dX7_kept_69 : decode cX7_kept 69 = .ok (.bipush 21, 2) := by decide +kernel
theorem dX7_kept_71 : decode cX7_kept 71 = .ok (.if_icmp .ge 36, 3) := by decide +kernel
theorem dX7_kept_74 : decode cX7_kept 74 = .ok (.aload_n 0, 1) := by decide +kernel
theorem dX7_kept_75 : decode cX7_kept 75 = .ok (.iconst 4, 1) := by decide +kernel
theorem dX7_kept_76 : decode cX7_kept 76 = .ok (.iload 4, 2) := by decide +kernel
theorem dX7_kept_78 : decode cX7_kept 78 = .ok (.aload_n 0, 1) := by decide +kernel
theorem dX7_kept_79 : decode cX7_kept 79 = .ok (.getfield 274, 3) := by decide +kernel
theorem dX7_kept_82 : decode cX7_kept 82 = .ok (.invokevirtual 247, 3) := by decide +kernel
theorem dX7_kept_85 : decode cX7_kept 85 = .ok (.pop, 1) := by decide +kernel
theorem dX7_kept_86 : decode cX7_kept 86 = .ok (.iload_n 3, 1) := by decide +kernel
theorem dX7_kept_87 : decode cX7_kept 87 = .ok (.aload_n 0, 1) := by decide +kernel
theorem dX7_kept_88 : decode cX7_kept 88 = .ok (.invokevirtual 277, 3) := by decide +kernel
theorem dX7_kept_91 : decode cX7_kept 91 = .ok (.ifCond .ge 7, 3) := by decide +kernel
theorem dX7_kept_94 : decode cX7_kept 94 = .ok (.iconst 1, 1) := by decide +kernel
theorem dX7_kept_95 : decode cX7_kept 95 = .ok (.goto 4, 3) := by decide +kernel
theorem dX7_kept_98 : decode cX7_kept 98 = .ok (.iconst 0, 1) := by decide +kernel
theorem dX7_kept_99 : decode cX7_kept 99 = .ok (.iadd, 1) := by decide +kernel
theorem dX7_kept_100 : decode cX7_kept 100 = .ok (.istore_n 3, 1) := by decide +kernel
theorem dX7_kept_101 : decode cX7_kept 101 = .ok (.iinc 4 1, 3) := by decide +kernel
theorem dX7_kept_104 : decode cX7_kept 104 = .ok (.goto (-37), 3) := by decide +kernel
theorem dX7_kept_107 : decode cX7_kept 107 = .ok (.iload_n 1, 1) := by decide +kernel
theorem dX7_kept_108 : decode cX7_kept 108 = .ok (.ifCond .ne 7, 3) := by decide +kernel
theorem dX7_kept_111 : decode cX7_kept 111 = .ok (.iload_n 2, 1) := by decide +kernel
theorem dX7_kept_112 : decode cX7_kept 112 = .ok (.goto 4, 3) := by decide +kernel
theorem dX7_kept_115 : decode cX7_kept 115 = .ok (.iload_n 3, 1) := by decide +kernel
theorem dX7_kept_116 : decode cX7_kept 116 = .ok (.ireturn, 1) := by decide +kernel
theorem dX7_judge_0 : decode cX7_judge 0 = .ok (.aload_n 0, 1) := by decide +kernel
theorem dX7_judge_1 : decode cX7_judge 1 = .ok (.aload_n 0, 1) := by decide +kernel
theorem dX7_judge_2 : decode cX7_judge 2 = .ok (.getfield 274, 3) := by decide +kernel
theorem dX7_judge_5 : decode cX7_judge 5 = .ok (.invokevirtual 235, 3) := by decide +kernel
theorem dX7_judge_8 : decode cX7_judge 8 = .ok (.pop, 1) := by decide +kernel
theorem dX7_judge_9 : decode cX7_judge 9 = .ok (.aload_n 0, 1) := by decide +kernel
theorem dX7_judge_10 : decode cX7_judge 10 = .ok (.invokevirtual 277, 3) := by decide +kernel
theorem dX7_judge_13 : decode cX7_judge 13 = .ok (.istore_n 1, 1) := by decide +kernel
theorem dX7_judge_14 : decode cX7_judge 14 = .ok (.aload_n 0, 1) := by decide +kernel
theorem dX7_judge_15 : decode cX7_judge 15 = .ok (.iconst 0, 1) := by decide +kernel
theorem dX7_judge_16 : decode cX7_judge 16 = .ok (.putfield 274, 3) := by decide +kernel
theorem dX7_judge_19 : decode cX7_judge 19 = .ok (.iload_n 1, 1) := by decide +kernel
theorem dX7_judge_20 : decode cX7_judge 20 = .ok (.ireturn, 1) := by decide +kernel
theorem dX7_lots_0 : decode cX7_lots 0 = .ok (.iload_n 1, 1) := by decide +kernel
theorem dX7_lots_1 : decode cX7_lots 1 = .ok (.iconst 1, 1) := by decide +kernel
theorem dX7_lots_2 : decode cX7_lots 2 = .ok (.bipush 20, 2) := by decide +kernel
theorem dX7_lots_4 : decode cX7_lots 4 = .ok (.invokestatic 69, 3) := by decide +kernel
theorem dX7_lots_7 : decode cX7_lots 7 = .ok (.istore_n 3, 1) := by decide +kernel
theorem dX7_lots_8 : decode cX7_lots 8 = .ok (.iload_n 3, 1) := by decide +kernel
theorem dX7_lots_9 : decode cX7_lots 9 = .ok (.ifCond .eq 9, 3) := by decide +kernel
theorem dX7_lots_12 : decode cX7_lots 12 = .ok (.aload_n 0, 1) := by decide +kernel
theorem dX7_lots_13 : decode cX7_lots 13 = .ok (.iload_n 3, 1) := by decide +kernel
theorem dX7_lots_14 : decode cX7_lots 14 = .ok (.invokevirtual 76, 3) := by decide +kernel
theorem dX7_lots_17 : decode cX7_lots 17 = .ok (.ireturn, 1) := by decide +kernel
theorem dX7_lots_18 : decode cX7_lots 18 = .ok (.iload_n 2, 1) := by decide +kernel
theorem dX7_lots_19 : decode cX7_lots 19 = .ok (.istore 4, 2) := by decide +kernel
theorem dX7_lots_21 : decode cX7_lots 21 = .ok (.iconst 0, 1) := by decide +kernel
theorem dX7_lots_22 : decode cX7_lots 22 = .ok (.istore 5, 2) := by decide +kernel
theorem dX7_lots_24 : decode cX7_lots 24 = .ok (.iconst 0, 1) := by decide +kernel
theorem dX7_lots_25 : decode cX7_lots 25 = .ok (.istore 6, 2) := by decide +kernel
theorem dX7_lots_27 : decode cX7_lots 27 = .ok (.iload 6, 2) := by decide +kernel
theorem dX7_lots_29 : decode cX7_lots 29 = .ok (.iload_n 1, 1) := by decide +kernel
theorem dX7_lots_30 : decode cX7_lots 30 = .ok (.if_icmp .ge 49, 3) := by decide +kernel
theorem dX7_lots_33 : decode cX7_lots 33 = .ok (.iload 4, 2) := by decide +kernel
theorem dX7_lots_35 : decode cX7_lots 35 = .ok (.ldc_w 280, 3) := by decide +kernel
theorem dX7_lots_38 : decode cX7_lots 38 = .ok (.imul, 1) := by decide +kernel
theorem dX7_lots_39 : decode cX7_lots 39 = .ok (.ldc_w 281, 3) := by decide +kernel
theorem dX7_lots_42 : decode cX7_lots 42 = .ok (.iadd, 1) := by decide +kernel
theorem dX7_lots_43 : decode cX7_lots 43 = .ok (.istore 4, 2) := by decide +kernel
theorem dX7_lots_45 : decode cX7_lots 45 = .ok (.iload 5, 2) := by decide +kernel
theorem dX7_lots_47 : decode cX7_lots 47 = .ok (.aload_n 0, 1) := by decide +kernel
theorem dX7_lots_48 : decode cX7_lots 48 = .ok (.iconst 0, 1) := by decide +kernel
theorem dX7_lots_49 : decode cX7_lots 49 = .ok (.iload 4, 2) := by decide +kernel
theorem dX7_lots_51 : decode cX7_lots 51 = .ok (.ldc_w 282, 3) := by decide +kernel
theorem dX7_lots_54 : decode cX7_lots 54 = .ok (.iand, 1) := by decide +kernel
theorem dX7_lots_55 : decode cX7_lots 55 = .ok (.sipush 256, 3) := by decide +kernel
theorem dX7_lots_58 : decode cX7_lots 58 = .ok (.idiv, 1) := by decide +kernel
theorem dX7_lots_59 : decode cX7_lots 59 = .ok (.bipush 41, 2) := by decide +kernel
theorem dX7_lots_61 : decode cX7_lots 61 = .ok (.irem, 1) := by decide +kernel
theorem dX7_lots_62 : decode cX7_lots 62 = .ok (.bipush 20, 2) := by decide +kernel
theorem dX7_lots_64 : decode cX7_lots 64 = .ok (.isub, 1) := by decide +kernel
theorem dX7_lots_65 : decode cX7_lots 65 = .ok (.bipush 60, 2) := by decide +kernel
theorem dX7_lots_67 : decode cX7_lots 67 = .ok (.invokevirtual 247, 3) := by decide +kernel
theorem dX7_lots_70 : decode cX7_lots 70 = .ok (.iadd, 1) := by decide +kernel
theorem dX7_lots_71 : decode cX7_lots 71 = .ok (.istore 5, 2) := by decide +kernel
theorem dX7_lots_73 : decode cX7_lots 73 = .ok (.iinc 6 1, 3) := by decide +kernel
theorem dX7_lots_76 : decode cX7_lots 76 = .ok (.goto (-49), 3) := by decide +kernel
theorem dX7_lots_79 : decode cX7_lots 79 = .ok (.iload 5, 2) := by decide +kernel
theorem dX7_lots_81 : decode cX7_lots 81 = .ok (.ireturn, 1) := by decide +kernel
theorem dX7_count_0 : decode cX7_count 0 = .ok (.iload_n 1, 1) := by decide +kernel
theorem dX7_count_1 : decode cX7_count 1 = .ok (.bipush 11, 2) := by decide +kernel
theorem dX7_count_3 : decode cX7_count 3 = .ok (.bipush 16, 2) := by decide +kernel
theorem dX7_count_5 : decode cX7_count 5 = .ok (.invokestatic 87, 3) := by decide +kernel
theorem dX7_count_8 : decode cX7_count 8 = .ok (.ifCond .eq 13, 3) := by decide +kernel
theorem dX7_count_11 : decode cX7_count 11 = .ok (.aload_n 0, 1) := by decide +kernel
theorem dX7_count_12 : decode cX7_count 12 = .ok (.getfield 7, 3) := by decide +kernel
theorem dX7_count_15 : decode cX7_count 15 = .ok (.iload_n 1, 1) := by decide +kernel
theorem dX7_count_16 : decode cX7_count 16 = .ok (.bipush 10, 2) := by decide +kernel
theorem dX7_count_18 : decode cX7_count 18 = .ok (.isub, 1) := by decide +kernel
theorem dX7_count_19 : decode cX7_count 19 = .ok (.iaload, 1) := by decide +kernel
theorem dX7_count_20 : decode cX7_count 20 = .ok (.ireturn, 1) := by decide +kernel
theorem dX7_count_21 : decode cX7_count 21 = .ok (.iconst 0, 1) := by decide +kernel
theorem dX7_count_22 : decode cX7_count 22 = .ok (.istore_n 2, 1) := by decide +kernel
theorem dX7_count_23 : decode cX7_count 23 = .ok (.iload_n 1, 1) := by decide +kernel
theorem dX7_count_24 : decode cX7_count 24 = .ok (.tableswitch 132 0 9 #[56, 61, 66, 71, 76, 83, 90, 95, 122, 127], 56) := by decide +kernel
theorem dX7_count_80 : decode cX7_count 80 = .ok (.aload_n 0, 1) := by decide +kernel
theorem dX7_count_81 : decode cX7_count 81 = .ok (.getfield 65, 3) := by decide +kernel
theorem dX7_count_84 : decode cX7_count 84 = .ok (.ireturn, 1) := by decide +kernel
theorem dX7_count_85 : decode cX7_count 85 = .ok (.aload_n 0, 1) := by decide +kernel
theorem dX7_count_86 : decode cX7_count 86 = .ok (.getfield 138, 3) := by decide +kernel
theorem dX7_count_89 : decode cX7_count 89 = .ok (.ireturn, 1) := by decide +kernel
theorem dX7_count_90 : decode cX7_count 90 = .ok (.aload_n 0, 1) := by decide +kernel
theorem dX7_count_91 : decode cX7_count 91 = .ok (.getfield 132, 3) := by decide +kernel
theorem dX7_count_94 : decode cX7_count 94 = .ok (.ireturn, 1) := by decide +kernel
theorem dX7_count_95 : decode cX7_count 95 = .ok (.aload_n 0, 1) := by decide +kernel
theorem dX7_count_96 : decode cX7_count 96 = .ok (.getfield 135, 3) := by decide +kernel
theorem dX7_count_99 : decode cX7_count 99 = .ok (.ireturn, 1) := by decide +kernel
theorem dX7_count_100 : decode cX7_count 100 = .ok (.aload_n 0, 1) := by decide +kernel
theorem dX7_count_101 : decode cX7_count 101 = .ok (.getfield 13, 3) := by decide +kernel
theorem dX7_count_104 : decode cX7_count 104 = .ok (.iconst 4, 1) := by decide +kernel
theorem dX7_count_105 : decode cX7_count 105 = .ok (.iaload, 1) := by decide +kernel
theorem dX7_count_106 : decode cX7_count 106 = .ok (.ireturn, 1) := by decide +kernel
theorem dX7_count_107 : decode cX7_count 107 = .ok (.aload_n 0, 1) := by decide +kernel
theorem dX7_count_108 : decode cX7_count 108 = .ok (.getfield 13, 3) := by decide +kernel
theorem dX7_count_111 : decode cX7_count 111 = .ok (.iconst 5, 1) := by decide +kernel
theorem dX7_count_112 : decode cX7_count 112 = .ok (.iaload, 1) := by decide +kernel
theorem dX7_count_113 : decode cX7_count 113 = .ok (.ireturn, 1) := by decide +kernel
theorem dX7_count_114 : decode cX7_count 114 = .ok (.aload_n 0, 1) := by decide +kernel
theorem dX7_count_115 : decode cX7_count 115 = .ok (.getfield 170, 3) := by decide +kernel
theorem dX7_count_118 : decode cX7_count 118 = .ok (.ireturn, 1) := by decide +kernel
theorem dX7_count_119 : decode cX7_count 119 = .ok (.iconst 0, 1) := by decide +kernel
theorem dX7_count_120 : decode cX7_count 120 = .ok (.istore_n 3, 1) := by decide +kernel
theorem dX7_count_121 : decode cX7_count 121 = .ok (.iload_n 3, 1) := by decide +kernel
theorem dX7_count_122 : decode cX7_count 122 = .ok (.aload_n 0, 1) := by decide +kernel
theorem dX7_count_123 : decode cX7_count 123 = .ok (.getfield 65, 3) := by decide +kernel
theorem dX7_count_126 : decode cX7_count 126 = .ok (.if_icmp .ge 18, 3) := by decide +kernel
theorem dX7_count_129 : decode cX7_count 129 = .ok (.iload_n 2, 1) := by decide +kernel
theorem dX7_count_130 : decode cX7_count 130 = .ok (.aload_n 0, 1) := by decide +kernel
theorem dX7_count_131 : decode cX7_count 131 = .ok (.getfield 19, 3) := by decide +kernel
theorem dX7_count_134 : decode cX7_count 134 = .ok (.iload_n 3, 1) := by decide +kernel
theorem dX7_count_135 : decode cX7_count 135 = .ok (.iaload, 1) := by decide +kernel
theorem dX7_count_136 : decode cX7_count 136 = .ok (.iadd, 1) := by decide +kernel
theorem dX7_count_137 : decode cX7_count 137 = .ok (.istore_n 2, 1) := by decide +kernel
theorem dX7_count_138 : decode cX7_count 138 = .ok (.iinc 3 1, 3) := by decide +kernel
theorem dX7_count_141 : decode cX7_count 141 = .ok (.goto (-20), 3) := by decide +kernel
theorem dX7_count_144 : decode cX7_count 144 = .ok (.iload_n 2, 1) := by decide +kernel
theorem dX7_count_145 : decode cX7_count 145 = .ok (.ireturn, 1) := by decide +kernel
theorem dX7_count_146 : decode cX7_count 146 = .ok (.aload_n 0, 1) := by decide +kernel
theorem dX7_count_147 : decode cX7_count 147 = .ok (.getfield 274, 3) := by decide +kernel
theorem dX7_count_150 : decode cX7_count 150 = .ok (.ireturn, 1) := by decide +kernel
theorem dX7_count_151 : decode cX7_count 151 = .ok (.aload_n 0, 1) := by decide +kernel
theorem dX7_count_152 : decode cX7_count 152 = .ok (.getfield 73, 3) := by decide +kernel
theorem dX7_count_155 : decode cX7_count 155 = .ok (.ireturn, 1) := by decide +kernel
theorem dX7_count_156 : decode cX7_count 156 = .ok (.bipush (-9), 2) := by decide +kernel
theorem dX7_count_158 : decode cX7_count 158 = .ok (.ireturn, 1) := by decide +kernel
theorem dJ11_isValidCodePoint_9a6ad_0 : decode cJ11_isValidCodePoint_9a6ad 0 = .ok (.iload_n 0, 1) := by decide +kernel
theorem dJ11_isValidCodePoint_9a6ad_1 : decode cJ11_isValidCodePoint_9a6ad 1 = .ok (.bipush 16, 2) := by decide +kernel
theorem dJ11_isValidCodePoint_9a6ad_3 : decode cJ11_isValidCodePoint_9a6ad 3 = .ok (.iushr, 1) := by decide +kernel
theorem dJ11_isValidCodePoint_9a6ad_4 : decode cJ11_isValidCodePoint_9a6ad 4 = .ok (.istore_n 1, 1) := by decide +kernel
theorem dJ11_isValidCodePoint_9a6ad_5 : decode cJ11_isValidCodePoint_9a6ad 5 = .ok (.iload_n 1, 1) := by decide +kernel
theorem dJ11_isValidCodePoint_9a6ad_6 : decode cJ11_isValidCodePoint_9a6ad 6 = .ok (.bipush 17, 2) := by decide +kernel
theorem dJ11_isValidCodePoint_9a6ad_8 : decode cJ11_isValidCodePoint_9a6ad 8 = .ok (.if_icmp .ge 7, 3) := by decide +kernel
theorem dJ11_isValidCodePoint_9a6ad_11 : decode cJ11_isValidCodePoint_9a6ad 11 = .ok (.iconst 1, 1) := by decide +kernel
theorem dJ11_isValidCodePoint_9a6ad_12 : decode cJ11_isValidCodePoint_9a6ad 12 = .ok (.goto 4, 3) := by decide +kernel
theorem dJ11_isValidCodePoint_9a6ad_15 : decode cJ11_isValidCodePoint_9a6ad 15 = .ok (.iconst 0, 1) := by decide +kernel
theorem dJ11_isValidCodePoint_9a6ad_16 : decode cJ11_isValidCodePoint_9a6ad 16 = .ok (.ireturn, 1) := by decide +kernel
theorem dJ11_highSurrogate_5068e_0 : decode cJ11_highSurrogate_5068e 0 = .ok (.iload_n 0, 1) := by decide +kernel
theorem dJ11_highSurrogate_5068e_1 : decode cJ11_highSurrogate_5068e 1 = .ok (.bipush 10, 2) := by decide +kernel
theorem dJ11_highSurrogate_5068e_3 : decode cJ11_highSurrogate_5068e 3 = .ok (.iushr, 1) := by decide +kernel
theorem dJ11_highSurrogate_5068e_4 : decode cJ11_highSurrogate_5068e 4 = .ok (.ldc 110, 2) := by decide +kernel
theorem dJ11_highSurrogate_5068e_6 : decode cJ11_highSurrogate_5068e 6 = .ok (.iadd, 1) := by decide +kernel
theorem dJ11_highSurrogate_5068e_7 : decode cJ11_highSurrogate_5068e 7 = .ok (.i2c, 1) := by decide +kernel
theorem dJ11_highSurrogate_5068e_8 : decode cJ11_highSurrogate_5068e 8 = .ok (.ireturn, 1) := by decide +kernel
theorem dJ11_lowSurrogate_5068e_0 : decode cJ11_lowSurrogate_5068e 0 = .ok (.iload_n 0, 1) := by decide +kernel
theorem dJ11_lowSurrogate_5068e_1 : decode cJ11_lowSurrogate_5068e 1 = .ok (.sipush 1023, 3) := by decide +kernel
theorem dJ11_lowSurrogate_5068e_4 : decode cJ11_lowSurrogate_5068e 4 = .ok (.iand, 1) := by decide +kernel
theorem dJ11_lowSurrogate_5068e_5 : decode cJ11_lowSurrogate_5068e 5 = .ok (.ldc 76, 2) := by decide +kernel
theorem dJ11_lowSurrogate_5068e_7 : decode cJ11_lowSurrogate_5068e 7 = .ok (.iadd, 1) := by decide +kernel
theorem dJ11_lowSurrogate_5068e_8 : decode cJ11_lowSurrogate_5068e 8 = .ok (.i2c, 1) := by decide +kernel
theorem dJ11_lowSurrogate_5068e_9 : decode cJ11_lowSurrogate_5068e 9 = .ok (.ireturn, 1) := by decide +kernel
theorem dJ9_abs_0f7a4_0 : decode cJ9_abs_0f7a4 0 = .ok (.iload_n 0, 1) := by decide +kernel
theorem dJ9_abs_0f7a4_1 : decode cJ9_abs_0f7a4 1 = .ok (.ifCond .ge 8, 3) := by decide +kernel
theorem dJ9_abs_0f7a4_4 : decode cJ9_abs_0f7a4 4 = .ok (.iload_n 0, 1) := by decide +kernel
theorem dJ9_abs_0f7a4_5 : decode cJ9_abs_0f7a4 5 = .ok (.ineg, 1) := by decide +kernel
theorem dJ9_abs_0f7a4_6 : decode cJ9_abs_0f7a4 6 = .ok (.goto 4, 3) := by decide +kernel
theorem dJ9_abs_0f7a4_9 : decode cJ9_abs_0f7a4 9 = .ok (.iload_n 0, 1) := by decide +kernel
theorem dJ9_abs_0f7a4_10 : decode cJ9_abs_0f7a4 10 = .ok (.ireturn, 1) := by decide +kernel
theorem dJ9_max_7cf53_0 : decode cJ9_max_7cf53 0 = .ok (.iload_n 0, 1) := by decide +kernel
theorem dJ9_max_7cf53_1 : decode cJ9_max_7cf53 1 = .ok (.iload_n 1, 1) := by decide +kernel
theorem dJ9_max_7cf53_2 : decode cJ9_max_7cf53 2 = .ok (.if_icmp .lt 7, 3) := by decide +kernel
theorem dJ9_max_7cf53_5 : decode cJ9_max_7cf53 5 = .ok (.iload_n 0, 1) := by decide +kernel
theorem dJ9_max_7cf53_6 : decode cJ9_max_7cf53 6 = .ok (.goto 4, 3) := by decide +kernel
theorem dJ9_max_7cf53_9 : decode cJ9_max_7cf53 9 = .ok (.iload_n 1, 1) := by decide +kernel
theorem dJ9_max_7cf53_10 : decode cJ9_max_7cf53 10 = .ok (.ireturn, 1) := by decide +kernel
theorem dJ9_min_7cf53_0 : decode cJ9_min_7cf53 0 = .ok (.iload_n 0, 1) := by decide +kernel
theorem dJ9_min_7cf53_1 : decode cJ9_min_7cf53 1 = .ok (.iload_n 1, 1) := by decide +kernel
theorem dJ9_min_7cf53_2 : decode cJ9_min_7cf53 2 = .ok (.if_icmp .gt 7, 3) := by decide +kernel
theorem dJ9_min_7cf53_5 : decode cJ9_min_7cf53 5 = .ok (.iload_n 0, 1) := by decide +kernel
theorem dJ9_min_7cf53_6 : decode cJ9_min_7cf53 6 = .ok (.goto 4, 3) := by decide +kernel
theorem dJ9_min_7cf53_9 : decode cJ9_min_7cf53 9 = .ok (.iload_n 1, 1) := by decide +kernel
theorem dJ9_min_7cf53_10 : decode cJ9_min_7cf53 10 = .ok (.ireturn, 1) := by decide +kernel
theorem dJ0_length_8abf5_0 : decode cJ0_length_8abf5 0 = .ok (.aload_n 0, 1) := by decide +kernel
theorem dJ0_length_8abf5_1 : decode cJ0_length_8abf5 1 = .ok (.getfield 9, 3) := by decide +kernel
theorem dJ0_length_8abf5_4 : decode cJ0_length_8abf5 4 = .ok (.arraylength, 1) := by decide +kernel
theorem dJ0_length_8abf5_5 : decode cJ0_length_8abf5 5 = .ok (.aload_n 0, 1) := by decide +kernel
theorem dJ0_length_8abf5_6 : decode cJ0_length_8abf5 6 = .ok (.invokevirtual 335, 3) := by decide +kernel
theorem dJ0_length_8abf5_9 : decode cJ0_length_8abf5 9 = .ok (.ishr, 1) := by decide +kernel
theorem dJ0_length_8abf5_10 : decode cJ0_length_8abf5 10 = .ok (.ireturn, 1) := by decide +kernel
theorem dJ0_isEmpty_aae02_0 : decode cJ0_isEmpty_aae02 0 = .ok (.aload_n 0, 1) := by decide +kernel
theorem dJ0_isEmpty_aae02_1 : decode cJ0_isEmpty_aae02 1 = .ok (.getfield 9, 3) := by decide +kernel
theorem dJ0_isEmpty_aae02_4 : decode cJ0_isEmpty_aae02 4 = .ok (.arraylength, 1) := by decide +kernel
theorem dJ0_isEmpty_aae02_5 : decode cJ0_isEmpty_aae02 5 = .ok (.ifCond .ne 7, 3) := by decide +kernel
theorem dJ0_isEmpty_aae02_8 : decode cJ0_isEmpty_aae02 8 = .ok (.iconst 1, 1) := by decide +kernel
theorem dJ0_isEmpty_aae02_9 : decode cJ0_isEmpty_aae02 9 = .ok (.goto 4, 3) := by decide +kernel
theorem dJ0_isEmpty_aae02_12 : decode cJ0_isEmpty_aae02 12 = .ok (.iconst 0, 1) := by decide +kernel
theorem dJ0_isEmpty_aae02_13 : decode cJ0_isEmpty_aae02 13 = .ok (.ireturn, 1) := by decide +kernel
theorem dJ0_charAt_5068e_0 : decode cJ0_charAt_5068e 0 = .ok (.aload_n 0, 1) := by decide +kernel
theorem dJ0_charAt_5068e_1 : decode cJ0_charAt_5068e 1 = .ok (.invokevirtual 492, 3) := by decide +kernel
theorem dJ0_charAt_5068e_4 : decode cJ0_charAt_5068e 4 = .ok (.ifCond .eq 12, 3) := by decide +kernel
theorem dJ0_charAt_5068e_7 : decode cJ0_charAt_5068e 7 = .ok (.aload_n 0, 1) := by decide +kernel
theorem dJ0_charAt_5068e_8 : decode cJ0_charAt_5068e 8 = .ok (.getfield 9, 3) := by decide +kernel
theorem dJ0_charAt_5068e_11 : decode cJ0_charAt_5068e 11 = .ok (.iload_n 1, 1) := by decide +kernel
theorem dJ0_charAt_5068e_12 : decode cJ0_charAt_5068e 12 = .ok (.invokestatic 495, 3) := by decide +kernel
theorem dJ0_charAt_5068e_15 : decode cJ0_charAt_5068e 15 = .ok (.ireturn, 1) := by decide +kernel
theorem dJ0_charAt_5068e_16 : decode cJ0_charAt_5068e 16 = .ok (.aload_n 0, 1) := by decide +kernel
theorem dJ0_charAt_5068e_17 : decode cJ0_charAt_5068e 17 = .ok (.getfield 9, 3) := by decide +kernel
theorem dJ0_charAt_5068e_20 : decode cJ0_charAt_5068e 20 = .ok (.iload_n 1, 1) := by decide +kernel
theorem dJ0_charAt_5068e_21 : decode cJ0_charAt_5068e 21 = .ok (.invokestatic 498, 3) := by decide +kernel
theorem dJ0_charAt_5068e_24 : decode cJ0_charAt_5068e 24 = .ok (.ireturn, 1) := by decide +kernel
theorem dJ0_indexOf_0f7a4_0 : decode cJ0_indexOf_0f7a4 0 = .ok (.aload_n 0, 1) := by decide +kernel
theorem dJ0_indexOf_0f7a4_1 : decode cJ0_indexOf_0f7a4 1 = .ok (.iload_n 1, 1) := by decide +kernel
theorem dJ0_indexOf_0f7a4_2 : decode cJ0_indexOf_0f7a4 2 = .ok (.iconst 0, 1) := by decide +kernel
theorem dJ0_indexOf_0f7a4_3 : decode cJ0_indexOf_0f7a4 3 = .ok (.invokevirtual 633, 3) := by decide +kernel
theorem dJ0_indexOf_0f7a4_6 : decode cJ0_indexOf_0f7a4 6 = .ok (.ireturn, 1) := by decide +kernel
theorem dJ0_indexOf_7cf53_0 : decode cJ0_indexOf_7cf53 0 = .ok (.aload_n 0, 1) := by decide +kernel
theorem dJ0_indexOf_7cf53_1 : decode cJ0_indexOf_7cf53 1 = .ok (.invokevirtual 492, 3) := by decide +kernel
theorem dJ0_indexOf_7cf53_4 : decode cJ0_indexOf_7cf53 4 = .ok (.ifCond .eq 19, 3) := by decide +kernel
theorem dJ0_indexOf_7cf53_7 : decode cJ0_indexOf_7cf53 7 = .ok (.aload_n 0, 1) := by decide +kernel
theorem dJ0_indexOf_7cf53_8 : decode cJ0_indexOf_7cf53 8 = .ok (.getfield 9, 3) := by decide +kernel
theorem dJ0_indexOf_7cf53_11 : decode cJ0_indexOf_7cf53 11 = .ok (.iload_n 1, 1) := by decide +kernel
theorem dJ0_indexOf_7cf53_12 : decode cJ0_indexOf_7cf53 12 = .ok (.iload_n 2, 1) := by decide +kernel
theorem dJ0_indexOf_7cf53_13 : decode cJ0_indexOf_7cf53 13 = .ok (.aload_n 0, 1) := by decide +kernel
theorem dJ0_indexOf_7cf53_14 : decode cJ0_indexOf_7cf53 14 = .ok (.invokevirtual 505, 3) := by decide +kernel
theorem dJ0_indexOf_7cf53_17 : decode cJ0_indexOf_7cf53 17 = .ok (.invokestatic 637, 3) := by decide +kernel
theorem dJ0_indexOf_7cf53_20 : decode cJ0_indexOf_7cf53 20 = .ok (.goto 16, 3) := by decide +kernel
theorem dJ0_indexOf_7cf53_23 : decode cJ0_indexOf_7cf53 23 = .ok (.aload_n 0, 1) := by decide +kernel
theorem dJ0_indexOf_7cf53_24 : decode cJ0_indexOf_7cf53 24 = .ok (.getfield 9, 3) := by decide +kernel
theorem dJ0_indexOf_7cf53_27 : decode cJ0_indexOf_7cf53 27 = .ok (.iload_n 1, 1) := by decide +kernel
theorem dJ0_indexOf_7cf53_28 : decode cJ0_indexOf_7cf53 28 = .ok (.iload_n 2, 1) := by decide +kernel
theorem dJ0_indexOf_7cf53_29 : decode cJ0_indexOf_7cf53 29 = .ok (.aload_n 0, 1) := by decide +kernel
theorem dJ0_indexOf_7cf53_30 : decode cJ0_indexOf_7cf53 30 = .ok (.invokevirtual 505, 3) := by decide +kernel
theorem dJ0_indexOf_7cf53_33 : decode cJ0_indexOf_7cf53 33 = .ok (.invokestatic 640, 3) := by decide +kernel
theorem dJ0_indexOf_7cf53_36 : decode cJ0_indexOf_7cf53 36 = .ok (.ireturn, 1) := by decide +kernel
theorem dJ0_coder_7d493_0 : decode cJ0_coder_7d493 0 = .ok (.getstatic 38, 3) := by decide +kernel
theorem dJ0_coder_7d493_3 : decode cJ0_coder_7d493 3 = .ok (.ifCond .eq 10, 3) := by decide +kernel
theorem dJ0_coder_7d493_6 : decode cJ0_coder_7d493 6 = .ok (.aload_n 0, 1) := by decide +kernel
theorem dJ0_coder_7d493_7 : decode cJ0_coder_7d493 7 = .ok (.getfield 15, 3) := by decide +kernel
theorem dJ0_coder_7d493_10 : decode cJ0_coder_7d493 10 = .ok (.goto 4, 3) := by decide +kernel
theorem dJ0_coder_7d493_13 : decode cJ0_coder_7d493 13 = .ok (.iconst 1, 1) := by decide +kernel
theorem dJ0_coder_7d493_14 : decode cJ0_coder_7d493 14 = .ok (.ireturn, 1) := by decide +kernel
theorem dJ0_isLatin1_aae02_0 : decode cJ0_isLatin1_aae02 0 = .ok (.getstatic 38, 3) := by decide +kernel
theorem dJ0_isLatin1_aae02_3 : decode cJ0_isLatin1_aae02 3 = .ok (.ifCond .eq 14, 3) := by decide +kernel
theorem dJ0_isLatin1_aae02_6 : decode cJ0_isLatin1_aae02 6 = .ok (.aload_n 0, 1) := by decide +kernel
theorem dJ0_isLatin1_aae02_7 : decode cJ0_isLatin1_aae02 7 = .ok (.getfield 15, 3) := by decide +kernel
theorem dJ0_isLatin1_aae02_10 : decode cJ0_isLatin1_aae02 10 = .ok (.ifCond .ne 7, 3) := by decide +kernel
theorem dJ0_isLatin1_aae02_13 : decode cJ0_isLatin1_aae02 13 = .ok (.iconst 1, 1) := by decide +kernel
theorem dJ0_isLatin1_aae02_14 : decode cJ0_isLatin1_aae02 14 = .ok (.goto 4, 3) := by decide +kernel
theorem dJ0_isLatin1_aae02_17 : decode cJ0_isLatin1_aae02 17 = .ok (.iconst 0, 1) := by decide +kernel
theorem dJ0_isLatin1_aae02_18 : decode cJ0_isLatin1_aae02 18 = .ok (.ireturn, 1) := by decide +kernel
theorem dJ0_checkIndex_df160_0 : decode cJ0_checkIndex_df160 0 = .ok (.iload_n 0, 1) := by decide +kernel
theorem dJ0_checkIndex_df160_1 : decode cJ0_checkIndex_df160 1 = .ok (.iload_n 1, 1) := by decide +kernel
theorem dJ0_checkIndex_df160_2 : decode cJ0_checkIndex_df160 2 = .ok (.getstatic 1053, 3) := by decide +kernel
theorem dJ0_checkIndex_df160_5 : decode cJ0_checkIndex_df160 5 = .ok (.invokestatic 1059, 3) := by decide +kernel
theorem dJ0_checkIndex_df160_8 : decode cJ0_checkIndex_df160 8 = .ok (.pop, 1) := by decide +kernel
theorem dJ0_checkIndex_df160_9 : decode cJ0_checkIndex_df160 9 = .ok (.return_, 1) := by decide +kernel
theorem dJ0_checkBoundsBeginEnd_23922_0 : decode cJ0_checkBoundsBeginEnd_23922 0 = .ok (.iload_n 0, 1) := by decide +kernel
theorem dJ0_checkBoundsBeginEnd_23922_1 : decode cJ0_checkBoundsBeginEnd_23922 1 = .ok (.iload_n 1, 1) := by decide +kernel
theorem dJ0_checkBoundsBeginEnd_23922_2 : decode cJ0_checkBoundsBeginEnd_23922 2 = .ok (.iload_n 2, 1) := by decide +kernel
theorem dJ0_checkBoundsBeginEnd_23922_3 : decode cJ0_checkBoundsBeginEnd_23922 3 = .ok (.getstatic 1053, 3) := by decide +kernel
theorem dJ0_checkBoundsBeginEnd_23922_6 : decode cJ0_checkBoundsBeginEnd_23922 6 = .ok (.invokestatic 1062, 3) := by decide +kernel
theorem dJ0_checkBoundsBeginEnd_23922_9 : decode cJ0_checkBoundsBeginEnd_23922 9 = .ok (.pop, 1) := by decide +kernel
theorem dJ0_checkBoundsBeginEnd_23922_10 : decode cJ0_checkBoundsBeginEnd_23922 10 = .ok (.return_, 1) := by decide +kernel
theorem dJ1_charAt_3b067_0 : decode cJ1_charAt_3b067 0 = .ok (.iload_n 1, 1) := by decide +kernel
theorem dJ1_charAt_3b067_1 : decode cJ1_charAt_3b067 1 = .ok (.aload_n 0, 1) := by decide +kernel
theorem dJ1_charAt_3b067_2 : decode cJ1_charAt_3b067 2 = .ok (.arraylength, 1) := by decide +kernel
theorem dJ1_charAt_3b067_3 : decode cJ1_charAt_3b067 3 = .ok (.invokestatic 9, 3) := by decide +kernel
theorem dJ1_charAt_3b067_6 : decode cJ1_charAt_3b067 6 = .ok (.aload_n 0, 1) := by decide +kernel
theorem dJ1_charAt_3b067_7 : decode cJ1_charAt_3b067 7 = .ok (.iload_n 1, 1) := by decide +kernel
theorem dJ1_charAt_3b067_8 : decode cJ1_charAt_3b067 8 = .ok (.baload, 1) := by decide +kernel
theorem dJ1_charAt_3b067_9 : decode cJ1_charAt_3b067 9 = .ok (.sipush 255, 3) := by decide +kernel
theorem dJ1_charAt_3b067_12 : decode cJ1_charAt_3b067 12 = .ok (.iand, 1) := by decide +kernel
theorem dJ1_charAt_3b067_13 : decode cJ1_charAt_3b067 13 = .ok (.i2c, 1) := by decide +kernel
theorem dJ1_charAt_3b067_14 : decode cJ1_charAt_3b067 14 = .ok (.ireturn, 1) := by decide +kernel
theorem dJ1_canEncode_9a6ad_0 : decode cJ1_canEncode_9a6ad 0 = .ok (.iload_n 0, 1) := by decide +kernel
theorem dJ1_canEncode_9a6ad_1 : decode cJ1_canEncode_9a6ad 1 = .ok (.ifCond .lt 14, 3) := by decide +kernel
theorem dJ1_canEncode_9a6ad_4 : decode cJ1_canEncode_9a6ad 4 = .ok (.iload_n 0, 1) := by decide +kernel
theorem dJ1_canEncode_9a6ad_5 : decode cJ1_canEncode_9a6ad 5 = .ok (.sipush 255, 3) := by decide +kernel
theorem dJ1_canEncode_9a6ad_8 : decode cJ1_canEncode_9a6ad 8 = .ok (.if_icmp .gt 7, 3) := by decide +kernel
theorem dJ1_canEncode_9a6ad_11 : decode cJ1_canEncode_9a6ad 11 = .ok (.iconst 1, 1) := by decide +kernel
theorem dJ1_canEncode_9a6ad_12 : decode cJ1_canEncode_9a6ad 12 = .ok (.goto 4, 3) := by decide +kernel
theorem dJ1_canEncode_9a6ad_15 : decode cJ1_canEncode_9a6ad 15 = .ok (.iconst 0, 1) := by decide +kernel
theorem dJ1_canEncode_9a6ad_16 : decode cJ1_canEncode_9a6ad 16 = .ok (.ireturn, 1) := by decide +kernel
theorem dJ1_indexOf_4cfef_0 : decode cJ1_indexOf_4cfef 0 = .ok (.iload_n 1, 1) := by decide +kernel
theorem dJ1_indexOf_4cfef_1 : decode cJ1_indexOf_4cfef 1 = .ok (.invokestatic 88, 3) := by decide +kernel
theorem dJ1_indexOf_4cfef_4 : decode cJ1_indexOf_4cfef 4 = .ok (.ifCond .ne 5, 3) := by decide +kernel
theorem dJ1_indexOf_4cfef_7 : decode cJ1_indexOf_4cfef 7 = .ok (.iconst (-1), 1) := by decide +kernel
theorem dJ1_indexOf_4cfef_8 : decode cJ1_indexOf_4cfef 8 = .ok (.ireturn, 1) := by decide +kernel
theorem dJ1_indexOf_4cfef_9 : decode cJ1_indexOf_4cfef 9 = .ok (.iload_n 2, 1) := by decide +kernel
theorem dJ1_indexOf_4cfef_10 : decode cJ1_indexOf_4cfef 10 = .ok (.iconst 0, 1) := by decide +kernel
theorem dJ1_indexOf_4cfef_11 : decode cJ1_indexOf_4cfef 11 = .ok (.invokestatic 92, 3) := by decide +kernel
theorem dJ1_indexOf_4cfef_14 : decode cJ1_indexOf_4cfef 14 = .ok (.istore_n 2, 1) := by decide +kernel
theorem dJ1_indexOf_4cfef_15 : decode cJ1_indexOf_4cfef 15 = .ok (.iload_n 3, 1) := by decide +kernel
theorem dJ1_indexOf_4cfef_16 : decode cJ1_indexOf_4cfef 16 = .ok (.aload_n 0, 1) := by decide +kernel
theorem dJ1_indexOf_4cfef_17 : decode cJ1_indexOf_4cfef 17 = .ok (.arraylength, 1) := by decide +kernel
theorem dJ1_indexOf_4cfef_18 : decode cJ1_indexOf_4cfef 18 = .ok (.invokestatic 38, 3) := by decide +kernel
theorem dJ1_indexOf_4cfef_21 : decode cJ1_indexOf_4cfef 21 = .ok (.istore_n 3, 1) := by decide +kernel
theorem dJ1_indexOf_4cfef_22 : decode cJ1_indexOf_4cfef 22 = .ok (.iload_n 2, 1) := by decide +kernel
theorem dJ1_indexOf_4cfef_23 : decode cJ1_indexOf_4cfef 23 = .ok (.iload_n 3, 1) := by decide +kernel
theorem dJ1_indexOf_4cfef_24 : decode cJ1_indexOf_4cfef 24 = .ok (.if_icmp .lt 5, 3) := by decide +kernel
theorem dJ1_indexOf_4cfef_27 : decode cJ1_indexOf_4cfef 27 = .ok (.iconst (-1), 1) := by decide +kernel
theorem dJ1_indexOf_4cfef_28 : decode cJ1_indexOf_4cfef 28 = .ok (.ireturn, 1) := by decide +kernel
theorem dJ1_indexOf_4cfef_29 : decode cJ1_indexOf_4cfef 29 = .ok (.aload_n 0, 1) := by decide +kernel
theorem dJ1_indexOf_4cfef_30 : decode cJ1_indexOf_4cfef 30 = .ok (.iload_n 1, 1) := by decide +kernel
theorem dJ1_indexOf_4cfef_31 : decode cJ1_indexOf_4cfef 31 = .ok (.iload_n 2, 1) := by decide +kernel
theorem dJ1_indexOf_4cfef_32 : decode cJ1_indexOf_4cfef 32 = .ok (.iload_n 3, 1) := by decide +kernel
theorem dJ1_indexOf_4cfef_33 : decode cJ1_indexOf_4cfef 33 = .ok (.invokestatic 95, 3) := by decide +kernel
theorem dJ1_indexOf_4cfef_36 : decode cJ1_indexOf_4cfef 36 = .ok (.ireturn, 1) := by decide +kernel
theorem dJ1_indexOfChar_4cfef_0 : decode cJ1_indexOfChar_4cfef 0 = .ok (.iload_n 1, 1) := by decide +kernel
theorem dJ1_indexOfChar_4cfef_1 : decode cJ1_indexOfChar_4cfef 1 = .ok (.i2b, 1) := by decide +kernel
theorem dJ1_indexOfChar_4cfef_2 : decode cJ1_indexOfChar_4cfef 2 = .ok (.istore 4, 2) := by decide +kernel
theorem dJ1_indexOfChar_4cfef_4 : decode cJ1_indexOfChar_4cfef 4 = .ok (.iload_n 2, 1) := by decide +kernel
theorem dJ1_indexOfChar_4cfef_5 : decode cJ1_indexOfChar_4cfef 5 = .ok (.istore 5, 2) := by decide +kernel
theorem dJ1_indexOfChar_4cfef_7 : decode cJ1_indexOfChar_4cfef 7 = .ok (.iload 5, 2) := by decide +kernel
theorem dJ1_indexOfChar_4cfef_9 : decode cJ1_indexOfChar_4cfef 9 = .ok (.iload_n 3, 1) := by decide +kernel
theorem dJ1_indexOfChar_4cfef_10 : decode cJ1_indexOfChar_4cfef 10 = .ok (.if_icmp .ge 21, 3) := by decide +kernel
theorem dJ1_indexOfChar_4cfef_13 : decode cJ1_indexOfChar_4cfef 13 = .ok (.aload_n 0, 1) := by decide +kernel
theorem dJ1_indexOfChar_4cfef_14 : decode cJ1_indexOfChar_4cfef 14 = .ok (.iload 5, 2) := by decide +kernel
theorem dJ1_indexOfChar_4cfef_16 : decode cJ1_indexOfChar_4cfef 16 = .ok (.baload, 1) := by decide +kernel
theorem dJ1_indexOfChar_4cfef_17 : decode cJ1_indexOfChar_4cfef 17 = .ok (.iload 4, 2) := by decide +kernel
theorem dJ1_indexOfChar_4cfef_19 : decode cJ1_indexOfChar_4cfef 19 = .ok (.if_icmp .ne 6, 3) := by decide +kernel
theorem dJ1_indexOfChar_4cfef_22 : decode cJ1_indexOfChar_4cfef 22 = .ok (.iload 5, 2) := by decide +kernel
theorem dJ1_indexOfChar_4cfef_24 : decode cJ1_indexOfChar_4cfef 24 = .ok (.ireturn, 1) := by decide +kernel
theorem dJ1_indexOfChar_4cfef_25 : decode cJ1_indexOfChar_4cfef 25 = .ok (.iinc 5 1, 3) := by decide +kernel
theorem dJ1_indexOfChar_4cfef_28 : decode cJ1_indexOfChar_4cfef 28 = .ok (.goto (-21), 3) := by decide +kernel
theorem dJ1_indexOfChar_4cfef_31 : decode cJ1_indexOfChar_4cfef 31 = .ok (.iconst (-1), 1) := by decide +kernel
theorem dJ1_indexOfChar_4cfef_32 : decode cJ1_indexOfChar_4cfef 32 = .ok (.ireturn, 1) := by decide +kernel
theorem dJ2_getChar_3b067_0 : decode cJ2_getChar_3b067 0 = .ok (.getstatic 44, 3) := by decide +kernel
theorem dJ2_getChar_3b067_3 : decode cJ2_getChar_3b067 3 = .ok (.ifCond .ne 25, 3) := by decide +kernel
theorem dJ2_getChar_3b067_6 : decode cJ2_getChar_3b067 6 = .ok (.iload_n 1, 1) := by decide +kernel
theorem dJ2_getChar_3b067_7 : decode cJ2_getChar_3b067 7 = .ok (.ifCond .lt 11, 3) := by decide +kernel
theorem dJ2_getChar_3b067_10 : decode cJ2_getChar_3b067 10 = .ok (.iload_n 1, 1) := by decide +kernel
theorem dJ2_getChar_3b067_11 : decode cJ2_getChar_3b067 11 = .ok (.aload_n 0, 1) := by decide +kernel
theorem dJ2_getChar_3b067_12 : decode cJ2_getChar_3b067 12 = .ok (.invokestatic 48, 3) := by decide +kernel
theorem dJ2_getChar_3b067_15 : decode cJ2_getChar_3b067 15 = .ok (.if_icmp .lt 13, 3) := by decide +kernel
theorem dJ2_getChar_3b067_18 : decode cJ2_getChar_3b067 18 = .ok (.new 52, 3) := by decide +kernel
theorem dJ2_getChar_3b067_21 : decode cJ2_getChar_3b067 21 = .ok (.dup, 1) := by decide +kernel
theorem dJ2_getChar_3b067_22 : decode cJ2_getChar_3b067 22 = .ok (.ldc 54, 2) := by decide +kernel
theorem dJ2_getChar_3b067_24 : decode cJ2_getChar_3b067 24 = .ok (.invokespecial 56, 3) := by decide +kernel
theorem dJ2_getChar_3b067_27 : decode cJ2_getChar_3b067 27 = .ok (.athrow, 1) := by decide +kernel
theorem dJ2_getChar_3b067_28 : decode cJ2_getChar_3b067 28 = .ok (.iload_n 1, 1) := by decide +kernel
theorem dJ2_getChar_3b067_29 : decode cJ2_getChar_3b067 29 = .ok (.iconst 1, 1) := by decide +kernel
theorem dJ2_getChar_3b067_30 : decode cJ2_getChar_3b067 30 = .ok (.ishl, 1) := by decide +kernel
theorem dJ2_getChar_3b067_31 : decode cJ2_getChar_3b067 31 = .ok (.istore_n 1, 1) := by decide +kernel
theorem dJ2_getChar_3b067_32 : decode cJ2_getChar_3b067 32 = .ok (.aload_n 0, 1) := by decide +kernel
theorem dJ2_getChar_3b067_33 : decode cJ2_getChar_3b067 33 = .ok (.iload_n 1, 1) := by decide +kernel
theorem dJ2_getChar_3b067_34 : decode cJ2_getChar_3b067 34 = .ok (.iinc 1 1, 3) := by decide +kernel
theorem dJ2_getChar_3b067_37 : decode cJ2_getChar_3b067 37 = .ok (.baload, 1) := by decide +kernel
theorem dJ2_getChar_3b067_38 : decode cJ2_getChar_3b067 38 = .ok (.sipush 255, 3) := by decide +kernel
theorem dJ2_getChar_3b067_41 : decode cJ2_getChar_3b067 41 = .ok (.iand, 1) := by decide +kernel
theorem dJ2_getChar_3b067_42 : decode cJ2_getChar_3b067 42 = .ok (.getstatic 59, 3) := by decide +kernel
theorem dJ2_getChar_3b067_45 : decode cJ2_getChar_3b067 45 = .ok (.ishl, 1) := by decide +kernel
theorem dJ2_getChar_3b067_46 : decode cJ2_getChar_3b067 46 = .ok (.aload_n 0, 1) := by decide +kernel
theorem dJ2_getChar_3b067_47 : decode cJ2_getChar_3b067 47 = .ok (.iload_n 1, 1) := by decide +kernel
theorem dJ2_getChar_3b067_48 : decode cJ2_getChar_3b067 48 = .ok (.baload, 1) := by decide +kernel
theorem dJ2_getChar_3b067_49 : decode cJ2_getChar_3b067 49 = .ok (.sipush 255, 3) := by decide +kernel
theorem dJ2_getChar_3b067_52 : decode cJ2_getChar_3b067 52 = .ok (.iand, 1) := by decide +kernel
theorem dJ2_getChar_3b067_53 : decode cJ2_getChar_3b067 53 = .ok (.getstatic 63, 3) := by decide +kernel
theorem dJ2_getChar_3b067_56 : decode cJ2_getChar_3b067 56 = .ok (.ishl, 1) := by decide +kernel
theorem dJ2_getChar_3b067_57 : decode cJ2_getChar_3b067 57 = .ok (.ior, 1) := by decide +kernel
theorem dJ2_getChar_3b067_58 : decode cJ2_getChar_3b067 58 = .ok (.i2c, 1) := by decide +kernel
theorem dJ2_getChar_3b067_59 : decode cJ2_getChar_3b067 59 = .ok (.ireturn, 1) := by decide +kernel
theorem dJ2_length_9d52b_0 : decode cJ2_length_9d52b 0 = .ok (.aload_n 0, 1) := by decide +kernel
theorem dJ2_length_9d52b_1 : decode cJ2_length_9d52b 1 = .ok (.arraylength, 1) := by decide +kernel
theorem dJ2_length_9d52b_2 : decode cJ2_length_9d52b 2 = .ok (.iconst 1, 1) := by decide +kernel
theorem dJ2_length_9d52b_3 : decode cJ2_length_9d52b 3 = .ok (.ishr, 1) := by decide +kernel
theorem dJ2_length_9d52b_4 : decode cJ2_length_9d52b 4 = .ok (.ireturn, 1) := by decide +kernel
theorem dJ2_indexOf_4cfef_0 : decode cJ2_indexOf_4cfef 0 = .ok (.iload_n 2, 1) := by decide +kernel
theorem dJ2_indexOf_4cfef_1 : decode cJ2_indexOf_4cfef 1 = .ok (.iconst 0, 1) := by decide +kernel
theorem dJ2_indexOf_4cfef_2 : decode cJ2_indexOf_4cfef 2 = .ok (.invokestatic 224, 3) := by decide +kernel
theorem dJ2_indexOf_4cfef_5 : decode cJ2_indexOf_4cfef 5 = .ok (.istore_n 2, 1) := by decide +kernel
theorem dJ2_indexOf_4cfef_6 : decode cJ2_indexOf_4cfef 6 = .ok (.iload_n 3, 1) := by decide +kernel
theorem dJ2_indexOf_4cfef_7 : decode cJ2_indexOf_4cfef 7 = .ok (.aload_n 0, 1) := by decide +kernel
theorem dJ2_indexOf_4cfef_8 : decode cJ2_indexOf_4cfef 8 = .ok (.arraylength, 1) := by decide +kernel
theorem dJ2_indexOf_4cfef_9 : decode cJ2_indexOf_4cfef 9 = .ok (.iconst 1, 1) := by decide +kernel
theorem dJ2_indexOf_4cfef_10 : decode cJ2_indexOf_4cfef 10 = .ok (.ishr, 1) := by decide +kernel
theorem dJ2_indexOf_4cfef_11 : decode cJ2_indexOf_4cfef 11 = .ok (.invokestatic 183, 3) := by decide +kernel
theorem dJ2_indexOf_4cfef_14 : decode cJ2_indexOf_4cfef 14 = .ok (.istore_n 3, 1) := by decide +kernel
theorem dJ2_indexOf_4cfef_15 : decode cJ2_indexOf_4cfef 15 = .ok (.iload_n 2, 1) := by decide +kernel
theorem dJ2_indexOf_4cfef_16 : decode cJ2_indexOf_4cfef 16 = .ok (.iload_n 3, 1) := by decide +kernel
theorem dJ2_indexOf_4cfef_17 : decode cJ2_indexOf_4cfef 17 = .ok (.if_icmp .lt 5, 3) := by decide +kernel
theorem dJ2_indexOf_4cfef_20 : decode cJ2_indexOf_4cfef 20 = .ok (.iconst (-1), 1) := by decide +kernel
theorem dJ2_indexOf_4cfef_21 : decode cJ2_indexOf_4cfef 21 = .ok (.ireturn, 1) := by decide +kernel
theorem dJ2_indexOf_4cfef_22 : decode cJ2_indexOf_4cfef 22 = .ok (.iload_n 1, 1) := by decide +kernel
theorem dJ2_indexOf_4cfef_23 : decode cJ2_indexOf_4cfef 23 = .ok (.ldc 227, 2) := by decide +kernel
theorem dJ2_indexOf_4cfef_25 : decode cJ2_indexOf_4cfef 25 = .ok (.if_icmp .ge 11, 3) := by decide +kernel
theorem dJ2_indexOf_4cfef_28 : decode cJ2_indexOf_4cfef 28 = .ok (.aload_n 0, 1) := by decide +kernel
theorem dJ2_indexOf_4cfef_29 : decode cJ2_indexOf_4cfef 29 = .ok (.iload_n 1, 1) := by decide +kernel
theorem dJ2_indexOf_4cfef_30 : decode cJ2_indexOf_4cfef 30 = .ok (.iload_n 2, 1) := by decide +kernel
theorem dJ2_indexOf_4cfef_31 : decode cJ2_indexOf_4cfef 31 = .ok (.iload_n 3, 1) := by decide +kernel
theorem dJ2_indexOf_4cfef_32 : decode cJ2_indexOf_4cfef 32 = .ok (.invokestatic 228, 3) := by decide +kernel
theorem dJ2_indexOf_4cfef_35 : decode cJ2_indexOf_4cfef 35 = .ok (.ireturn, 1) := by decide +kernel
theorem dJ2_indexOf_4cfef_36 : decode cJ2_indexOf_4cfef 36 = .ok (.aload_n 0, 1) := by decide +kernel
theorem dJ2_indexOf_4cfef_37 : decode cJ2_indexOf_4cfef 37 = .ok (.iload_n 1, 1) := by decide +kernel
theorem dJ2_indexOf_4cfef_38 : decode cJ2_indexOf_4cfef 38 = .ok (.iload_n 2, 1) := by decide +kernel
theorem dJ2_indexOf_4cfef_39 : decode cJ2_indexOf_4cfef 39 = .ok (.iload_n 3, 1) := by decide +kernel
theorem dJ2_indexOf_4cfef_40 : decode cJ2_indexOf_4cfef 40 = .ok (.invokestatic 232, 3) := by decide +kernel
theorem dJ2_indexOf_4cfef_43 : decode cJ2_indexOf_4cfef 43 = .ok (.ireturn, 1) := by decide +kernel
theorem dJ2_indexOfChar_4cfef_0 : decode cJ2_indexOfChar_4cfef 0 = .ok (.iload_n 2, 1) := by decide +kernel
theorem dJ2_indexOfChar_4cfef_1 : decode cJ2_indexOfChar_4cfef 1 = .ok (.iload_n 3, 1) := by decide +kernel
theorem dJ2_indexOfChar_4cfef_2 : decode cJ2_indexOfChar_4cfef 2 = .ok (.aload_n 0, 1) := by decide +kernel
theorem dJ2_indexOfChar_4cfef_3 : decode cJ2_indexOfChar_4cfef 3 = .ok (.invokestatic 96, 3) := by decide +kernel
theorem dJ2_indexOfChar_4cfef_6 : decode cJ2_indexOfChar_4cfef 6 = .ok (.aload_n 0, 1) := by decide +kernel
theorem dJ2_indexOfChar_4cfef_7 : decode cJ2_indexOfChar_4cfef 7 = .ok (.iload_n 1, 1) := by decide +kernel
theorem dJ2_indexOfChar_4cfef_8 : decode cJ2_indexOfChar_4cfef 8 = .ok (.iload_n 2, 1) := by decide +kernel
theorem dJ2_indexOfChar_4cfef_9 : decode cJ2_indexOfChar_4cfef 9 = .ok (.iload_n 3, 1) := by decide +kernel
theorem dJ2_indexOfChar_4cfef_10 : decode cJ2_indexOfChar_4cfef 10 = .ok (.invokestatic 244, 3) := by decide +kernel
theorem dJ2_indexOfChar_4cfef_13 : decode cJ2_indexOfChar_4cfef 13 = .ok (.ireturn, 1) := by decide +kernel
theorem dJ2_indexOfCharUnsafe_4cfef_0 : decode cJ2_indexOfCharUnsafe_4cfef 0 = .ok (.iload_n 2, 1) := by decide +kernel
theorem dJ2_indexOfCharUnsafe_4cfef_1 : decode cJ2_indexOfCharUnsafe_4cfef 1 = .ok (.istore 4, 2) := by decide +kernel
theorem dJ2_indexOfCharUnsafe_4cfef_3 : decode cJ2_indexOfCharUnsafe_4cfef 3 = .ok (.iload 4, 2) := by decide +kernel
theorem dJ2_indexOfCharUnsafe_4cfef_5 : decode cJ2_indexOfCharUnsafe_4cfef 5 = .ok (.iload_n 3, 1) := by decide +kernel
theorem dJ2_indexOfCharUnsafe_4cfef_6 : decode cJ2_indexOfCharUnsafe_4cfef 6 = .ok (.if_icmp .ge 22, 3) := by decide +kernel
theorem dJ2_indexOfCharUnsafe_4cfef_9 : decode cJ2_indexOfCharUnsafe_4cfef 9 = .ok (.aload_n 0, 1) := by decide +kernel
theorem dJ2_indexOfCharUnsafe_4cfef_10 : decode cJ2_indexOfCharUnsafe_4cfef 10 = .ok (.iload 4, 2) := by decide +kernel
theorem dJ2_indexOfCharUnsafe_4cfef_12 : decode cJ2_indexOfCharUnsafe_4cfef 12 = .ok (.invokestatic 71, 3) := by decide +kernel
theorem dJ2_indexOfCharUnsafe_4cfef_15 : decode cJ2_indexOfCharUnsafe_4cfef 15 = .ok (.iload_n 1, 1) := by decide +kernel
theorem dJ2_indexOfCharUnsafe_4cfef_16 : decode cJ2_indexOfCharUnsafe_4cfef 16 = .ok (.if_icmp .ne 6, 3) := by decide +kernel
theorem dJ2_indexOfCharUnsafe_4cfef_19 : decode cJ2_indexOfCharUnsafe_4cfef 19 = .ok (.iload 4, 2) := by decide +kernel
theorem dJ2_indexOfCharUnsafe_4cfef_21 : decode cJ2_indexOfCharUnsafe_4cfef 21 = .ok (.ireturn, 1) := by decide +kernel
theorem dJ2_indexOfCharUnsafe_4cfef_22 : decode cJ2_indexOfCharUnsafe_4cfef 22 = .ok (.iinc 4 1, 3) := by decide +kernel
theorem dJ2_indexOfCharUnsafe_4cfef_25 : decode cJ2_indexOfCharUnsafe_4cfef 25 = .ok (.goto (-22), 3) := by decide +kernel
theorem dJ2_indexOfCharUnsafe_4cfef_28 : decode cJ2_indexOfCharUnsafe_4cfef 28 = .ok (.iconst (-1), 1) := by decide +kernel
theorem dJ2_indexOfCharUnsafe_4cfef_29 : decode cJ2_indexOfCharUnsafe_4cfef 29 = .ok (.ireturn, 1) := by decide +kernel
theorem dJ2_indexOfSupplementary_4cfef_0 : decode cJ2_indexOfSupplementary_4cfef 0 = .ok (.iload_n 1, 1) := by decide +kernel
theorem dJ2_indexOfSupplementary_4cfef_1 : decode cJ2_indexOfSupplementary_4cfef 1 = .ok (.invokestatic 164, 3) := by decide +kernel
theorem dJ2_indexOfSupplementary_4cfef_4 : decode cJ2_indexOfSupplementary_4cfef 4 = .ok (.ifCond .eq 65, 3) := by decide +kernel
theorem dJ2_indexOfSupplementary_4cfef_7 : decode cJ2_indexOfSupplementary_4cfef 7 = .ok (.iload_n 1, 1) := by decide +kernel
theorem dJ2_indexOfSupplementary_4cfef_8 : decode cJ2_indexOfSupplementary_4cfef 8 = .ok (.invokestatic 157, 3) := by decide +kernel
theorem dJ2_indexOfSupplementary_4cfef_11 : decode cJ2_indexOfSupplementary_4cfef 11 = .ok (.istore 4, 2) := by decide +kernel
theorem dJ2_indexOfSupplementary_4cfef_13 : decode cJ2_indexOfSupplementary_4cfef 13 = .ok (.iload_n 1, 1) := by decide +kernel
theorem dJ2_indexOfSupplementary_4cfef_14 : decode cJ2_indexOfSupplementary_4cfef 14 = .ok (.invokestatic 161, 3) := by decide +kernel
theorem dJ2_indexOfSupplementary_4cfef_17 : decode cJ2_indexOfSupplementary_4cfef 17 = .ok (.istore 5, 2) := by decide +kernel
theorem dJ2_indexOfSupplementary_4cfef_19 : decode cJ2_indexOfSupplementary_4cfef 19 = .ok (.iload_n 2, 1) := by decide +kernel
theorem dJ2_indexOfSupplementary_4cfef_20 : decode cJ2_indexOfSupplementary_4cfef 20 = .ok (.iload_n 3, 1) := by decide +kernel
theorem dJ2_indexOfSupplementary_4cfef_21 : decode cJ2_indexOfSupplementary_4cfef 21 = .ok (.aload_n 0, 1) := by decide +kernel
theorem dJ2_indexOfSupplementary_4cfef_22 : decode cJ2_indexOfSupplementary_4cfef 22 = .ok (.invokestatic 96, 3) := by decide +kernel
theorem dJ2_indexOfSupplementary_4cfef_25 : decode cJ2_indexOfSupplementary_4cfef 25 = .ok (.iload_n 2, 1) := by decide +kernel
theorem dJ2_indexOfSupplementary_4cfef_26 : decode cJ2_indexOfSupplementary_4cfef 26 = .ok (.istore 6, 2) := by decide +kernel
theorem dJ2_indexOfSupplementary_4cfef_28 : decode cJ2_indexOfSupplementary_4cfef 28 = .ok (.iload 6, 2) := by decide +kernel
theorem dJ2_indexOfSupplementary_4cfef_30 : decode cJ2_indexOfSupplementary_4cfef 30 = .ok (.iload_n 3, 1) := by decide +kernel
theorem dJ2_indexOfSupplementary_4cfef_31 : decode cJ2_indexOfSupplementary_4cfef 31 = .ok (.iconst 1, 1) := by decide +kernel
theorem dJ2_indexOfSupplementary_4cfef_32 : decode cJ2_indexOfSupplementary_4cfef 32 = .ok (.isub, 1) := by decide +kernel
theorem dJ2_indexOfSupplementary_4cfef_33 : decode cJ2_indexOfSupplementary_4cfef 33 = .ok (.if_icmp .ge 36, 3) := by decide +kernel
theorem dJ2_indexOfSupplementary_4cfef_36 : decode cJ2_indexOfSupplementary_4cfef 36 = .ok (.aload_n 0, 1) := by decide +kernel
theorem dJ2_indexOfSupplementary_4cfef_37 : decode cJ2_indexOfSupplementary_4cfef 37 = .ok (.iload 6, 2) := by decide +kernel
theorem dJ2_indexOfSupplementary_4cfef_39 : decode cJ2_indexOfSupplementary_4cfef 39 = .ok (.invokestatic 71, 3) := by decide +kernel
theorem dJ2_indexOfSupplementary_4cfef_42 : decode cJ2_indexOfSupplementary_4cfef 42 = .ok (.iload 4, 2) := by decide +kernel
theorem dJ2_indexOfSupplementary_4cfef_44 : decode cJ2_indexOfSupplementary_4cfef 44 = .ok (.if_icmp .ne 19, 3) := by decide +kernel
theorem dJ2_indexOfSupplementary_4cfef_47 : decode cJ2_indexOfSupplementary_4cfef 47 = .ok (.aload_n 0, 1) := by decide +kernel
theorem dJ2_indexOfSupplementary_4cfef_48 : decode cJ2_indexOfSupplementary_4cfef 48 = .ok (.iload 6, 2) := by decide +kernel
theorem dJ2_indexOfSupplementary_4cfef_50 : decode cJ2_indexOfSupplementary_4cfef 50 = .ok (.iconst 1, 1) := by decide +kernel
theorem dJ2_indexOfSupplementary_4cfef_51 : decode cJ2_indexOfSupplementary_4cfef 51 = .ok (.iadd, 1) := by decide +kernel
theorem dJ2_indexOfSupplementary_4cfef_52 : decode cJ2_indexOfSupplementary_4cfef 52 = .ok (.invokestatic 71, 3) := by decide +kernel
theorem dJ2_indexOfSupplementary_4cfef_55 : decode cJ2_indexOfSupplementary_4cfef 55 = .ok (.iload 5, 2) := by decide +kernel
theorem dJ2_indexOfSupplementary_4cfef_57 : decode cJ2_indexOfSupplementary_4cfef 57 = .ok (.if_icmp .ne 6, 3) := by decide +kernel
theorem dJ2_indexOfSupplementary_4cfef_60 : decode cJ2_indexOfSupplementary_4cfef 60 = .ok (.iload 6, 2) := by decide +kernel
theorem dJ2_indexOfSupplementary_4cfef_62 : decode cJ2_indexOfSupplementary_4cfef 62 = .ok (.ireturn, 1) := by decide +kernel
theorem dJ2_indexOfSupplementary_4cfef_63 : decode cJ2_indexOfSupplementary_4cfef 63 = .ok (.iinc 6 1, 3) := by decide +kernel
theorem dJ2_indexOfSupplementary_4cfef_66 : decode cJ2_indexOfSupplementary_4cfef 66 = .ok (.goto (-38), 3) := by decide +kernel
theorem dJ2_indexOfSupplementary_4cfef_69 : decode cJ2_indexOfSupplementary_4cfef 69 = .ok (.iconst (-1), 1) := by decide +kernel
theorem dJ2_indexOfSupplementary_4cfef_70 : decode cJ2_indexOfSupplementary_4cfef 70 = .ok (.ireturn, 1) := by decide +kernel
theorem dJ2_charAt_3b067_0 : decode cJ2_charAt_3b067 0 = .ok (.iload_n 1, 1) := by decide +kernel
theorem dJ2_charAt_3b067_1 : decode cJ2_charAt_3b067 1 = .ok (.aload_n 0, 1) := by decide +kernel
theorem dJ2_charAt_3b067_2 : decode cJ2_charAt_3b067 2 = .ok (.invokestatic 67, 3) := by decide +kernel
theorem dJ2_charAt_3b067_5 : decode cJ2_charAt_3b067 5 = .ok (.aload_n 0, 1) := by decide +kernel
theorem dJ2_charAt_3b067_6 : decode cJ2_charAt_3b067 6 = .ok (.iload_n 1, 1) := by decide +kernel
theorem dJ2_charAt_3b067_7 : decode cJ2_charAt_3b067 7 = .ok (.invokestatic 71, 3) := by decide +kernel
theorem dJ2_charAt_3b067_10 : decode cJ2_charAt_3b067 10 = .ok (.ireturn, 1) := by decide +kernel
theorem dJ2_checkIndex_2214a_0 : decode cJ2_checkIndex_2214a 0 = .ok (.iload_n 0, 1) := by decide +kernel
theorem dJ2_checkIndex_2214a_1 : decode cJ2_checkIndex_2214a 1 = .ok (.aload_n 1, 1) := by decide +kernel
theorem dJ2_checkIndex_2214a_2 : decode cJ2_checkIndex_2214a 2 = .ok (.invokestatic 48, 3) := by decide +kernel
theorem dJ2_checkIndex_2214a_5 : decode cJ2_checkIndex_2214a 5 = .ok (.invokestatic 414, 3) := by decide +kernel
theorem dJ2_checkIndex_2214a_8 : decode cJ2_checkIndex_2214a 8 = .ok (.return_, 1) := by decide +kernel
theorem dJ2_checkBoundsBeginEnd_d044e_0 : decode cJ2_checkBoundsBeginEnd_d044e 0 = .ok (.iload_n 0, 1) := by decide +kernel
theorem dJ2_checkBoundsBeginEnd_d044e_1 : decode cJ2_checkBoundsBeginEnd_d044e 1 = .ok (.iload_n 1, 1) := by decide +kernel
theorem dJ2_checkBoundsBeginEnd_d044e_2 : decode cJ2_checkBoundsBeginEnd_d044e 2 = .ok (.aload_n 2, 1) := by decide +kernel
theorem dJ2_checkBoundsBeginEnd_d044e_3 : decode cJ2_checkBoundsBeginEnd_d044e 3 = .ok (.invokestatic 48, 3) := by decide +kernel
theorem dJ2_checkBoundsBeginEnd_d044e_6 : decode cJ2_checkBoundsBeginEnd_d044e 6 = .ok (.invokestatic 241, 3) := by decide +kernel
theorem dJ2_checkBoundsBeginEnd_d044e_9 : decode cJ2_checkBoundsBeginEnd_d044e 9 = .ok (.return_, 1) := by decide +kernel
theorem dJ3_checkIndex_8e157_0 : decode cJ3_checkIndex_8e157 0 = .ok (.iload_n 0, 1) := by decide +kernel
theorem dJ3_checkIndex_8e157_1 : decode cJ3_checkIndex_8e157 1 = .ok (.ifCond .lt 8, 3) := by decide +kernel
theorem dJ3_checkIndex_8e157_4 : decode cJ3_checkIndex_8e157 4 = .ok (.iload_n 0, 1) := by decide +kernel
theorem dJ3_checkIndex_8e157_5 : decode cJ3_checkIndex_8e157 5 = .ok (.iload_n 1, 1) := by decide +kernel
theorem dJ3_checkIndex_8e157_6 : decode cJ3_checkIndex_8e157 6 = .ok (.if_icmp .lt 10, 3) := by decide +kernel
theorem dJ3_checkIndex_8e157_9 : decode cJ3_checkIndex_8e157 9 = .ok (.aload_n 2, 1) := by decide +kernel
theorem dJ3_checkIndex_8e157_10 : decode cJ3_checkIndex_8e157 10 = .ok (.iload_n 0, 1) := by decide +kernel
theorem dJ3_checkIndex_8e157_11 : decode cJ3_checkIndex_8e157 11 = .ok (.iload_n 1, 1) := by decide +kernel
theorem dJ3_checkIndex_8e157_12 : decode cJ3_checkIndex_8e157 12 = .ok (.invokestatic 95, 3) := by decide +kernel
theorem dJ3_checkIndex_8e157_15 : decode cJ3_checkIndex_8e157 15 = .ok (.athrow, 1) := by decide +kernel
theorem dJ3_checkIndex_8e157_16 : decode cJ3_checkIndex_8e157 16 = .ok (.iload_n 0, 1) := by decide +kernel
theorem dJ3_checkIndex_8e157_17 : decode cJ3_checkIndex_8e157 17 = .ok (.ireturn, 1) := by decide +kernel
theorem dJ3_checkFromToIndex_8c36e_0 : decode cJ3_checkFromToIndex_8c36e 0 = .ok (.iload_n 0, 1) := by decide +kernel
theorem dJ3_checkFromToIndex_8c36e_1 : decode cJ3_checkFromToIndex_8c36e 1 = .ok (.ifCond .lt 13, 3) := by decide +kernel
theorem dJ3_checkFromToIndex_8c36e_4 : decode cJ3_checkFromToIndex_8c36e 4 = .ok (.iload_n 0, 1) := by decide +kernel
theorem dJ3_checkFromToIndex_8c36e_5 : decode cJ3_checkFromToIndex_8c36e 5 = .ok (.iload_n 1, 1) := by decide +kernel
theorem dJ3_checkFromToIndex_8c36e_6 : decode cJ3_checkFromToIndex_8c36e 6 = .ok (.if_icmp .gt 8, 3) := by decide +kernel
theorem dJ3_checkFromToIndex_8c36e_9 : decode cJ3_checkFromToIndex_8c36e 9 = .ok (.iload_n 1, 1) := by decide +kernel
theorem dJ3_checkFromToIndex_8c36e_10 : decode cJ3_checkFromToIndex_8c36e 10 = .ok (.iload_n 2, 1) := by decide +kernel
theorem dJ3_checkFromToIndex_8c36e_11 : decode cJ3_checkFromToIndex_8c36e 11 = .ok (.if_icmp .le 11, 3) := by decide +kernel
theorem dJ3_checkFromToIndex_8c36e_14 : decode cJ3_checkFromToIndex_8c36e 14 = .ok (.aload_n 3, 1) := by decide +kernel
theorem dJ3_checkFromToIndex_8c36e_15 : decode cJ3_checkFromToIndex_8c36e 15 = .ok (.iload_n 0, 1) := by decide +kernel
theorem dJ3_checkFromToIndex_8c36e_16 : decode cJ3_checkFromToIndex_8c36e 16 = .ok (.iload_n 1, 1) := by decide +kernel
theorem dJ3_checkFromToIndex_8c36e_17 : decode cJ3_checkFromToIndex_8c36e 17 = .ok (.iload_n 2, 1) := by decide +kernel
theorem dJ3_checkFromToIndex_8c36e_18 : decode cJ3_checkFromToIndex_8c36e 18 = .ok (.invokestatic 99, 3) := by decide +kernel
theorem dJ3_checkFromToIndex_8c36e_21 : decode cJ3_checkFromToIndex_8c36e 21 = .ok (.athrow, 1) := by decide +kernel
theorem dJ3_checkFromToIndex_8c36e_22 : decode cJ3_checkFromToIndex_8c36e 22 = .ok (.iload_n 0, 1) := by decide +kernel
theorem dJ3_checkFromToIndex_8c36e_23 : decode cJ3_checkFromToIndex_8c36e 23 = .ok (.ireturn, 1) := by decide +kernel
theorem dL_law_0 : decode cL_law 0 = .ok (.new 7, 3) := by decide +kernel
theorem dL_law_3 : decode cL_law 3 = .ok (.dup, 1) := by decide +kernel
theorem dL_law_4 : decode cL_law 4 = .ok (.invokespecial 9, 3) := by decide +kernel
theorem dL_law_7 : decode cL_law 7 = .ok (.astore_n 1, 1) := by decide +kernel
theorem dL_law_8 : decode cL_law 8 = .ok (.new 10, 3) := by decide +kernel
theorem dL_law_11 : decode cL_law 11 = .ok (.dup, 1) := by decide +kernel
theorem dL_law_12 : decode cL_law 12 = .ok (.invokespecial 12, 3) := by decide +kernel
theorem dL_law_15 : decode cL_law 15 = .ok (.astore_n 2, 1) := by decide +kernel
theorem dL_law_16 : decode cL_law 16 = .ok (.iconst 0, 1) := by decide +kernel
theorem dL_law_17 : decode cL_law 17 = .ok (.istore_n 3, 1) := by decide +kernel
theorem dL_law_18 : decode cL_law 18 = .ok (.iload_n 3, 1) := by decide +kernel
theorem dL_law_19 : decode cL_law 19 = .ok (.aload_n 0, 1) := by decide +kernel
theorem dL_law_20 : decode cL_law 20 = .ok (.arraylength, 1) := by decide +kernel
theorem dL_law_21 : decode cL_law 21 = .ok (.iconst 4, 1) := by decide +kernel
theorem dL_law_22 : decode cL_law 22 = .ok (.isub, 1) := by decide +kernel
theorem dL_law_23 : decode cL_law 23 = .ok (.if_icmp .gt 908, 3) := by decide +kernel
theorem dL_law_26 : decode cL_law 26 = .ok (.aload_n 0, 1) := by decide +kernel
theorem dL_law_27 : decode cL_law 27 = .ok (.iload_n 3, 1) := by decide +kernel
theorem dL_law_28 : decode cL_law 28 = .ok (.iaload, 1) := by decide +kernel
theorem dL_law_29 : decode cL_law 29 = .ok (.bipush 31, 2) := by decide +kernel
theorem dL_law_31 : decode cL_law 31 = .ok (.iand, 1) := by decide +kernel
theorem dL_law_32 : decode cL_law 32 = .ok (.tableswitch 893 0 30 #[140, 163, 176, 209, 242, 265, 298, 331, 354, 377, 400, 433, 456, 499, 532, 565, 588, 611, 634, 657, 680, 693, 706, 729, 752, 775, 798, 811, 844, 857, 870], 140) := by decide +kernel
theorem dL_law_172 : decode cL_law 172 = .ok (.aload_n 1, 1) := by decide +kernel
theorem dL_law_173 : decode cL_law 173 = .ok (.aload_n 0, 1) := by decide +kernel
theorem dL_law_174 : decode cL_law 174 = .ok (.iload_n 3, 1) := by decide +kernel
theorem dL_law_175 : decode cL_law 175 = .ok (.iconst 1, 1) := by decide +kernel
theorem dL_law_176 : decode cL_law 176 = .ok (.iadd, 1) := by decide +kernel
theorem dL_law_177 : decode cL_law 177 = .ok (.iaload, 1) := by decide +kernel
theorem dL_law_178 : decode cL_law 178 = .ok (.invokevirtual 13, 3) := by decide +kernel
theorem dL_law_181 : decode cL_law 181 = .ok (.aload_n 2, 1) := by decide +kernel
theorem dL_law_182 : decode cL_law 182 = .ok (.aload_n 0, 1) := by decide +kernel
theorem dL_law_183 : decode cL_law 183 = .ok (.iload_n 3, 1) := by decide +kernel
theorem dL_law_184 : decode cL_law 184 = .ok (.iconst 1, 1) := by decide +kernel
theorem dL_law_185 : decode cL_law 185 = .ok (.iadd, 1) := by decide +kernel
theorem dL_law_186 : decode cL_law 186 = .ok (.iaload, 1) := by decide +kernel
theorem dL_law_187 : decode cL_law 187 = .ok (.invokevirtual 17, 3) := by decide +kernel
theorem dL_law_190 : decode cL_law 190 = .ok (.if_icmp .eq 735, 3) := by decide +kernel
theorem dL_law_193 : decode cL_law 193 = .ok (.iconst 0, 1) := by decide +kernel
theorem dL_law_194 : decode cL_law 194 = .ok (.ireturn, 1) := by decide +kernel
theorem dL_law_195 : decode cL_law 195 = .ok (.aload_n 1, 1) := by decide +kernel
theorem dL_law_196 : decode cL_law 196 = .ok (.invokevirtual 18, 3) := by decide +kernel
theorem dL_law_199 : decode cL_law 199 = .ok (.aload_n 2, 1) := by decide +kernel
theorem dL_law_200 : decode cL_law 200 = .ok (.invokevirtual 22, 3) := by decide +kernel
theorem dL_law_203 : decode cL_law 203 = .ok (.if_icmp .eq 722, 3) := by decide +kernel
theorem dL_law_206 : decode cL_law 206 = .ok (.iconst 0, 1) := by decide +kernel
theorem dL_law_207 : decode cL_law 207 = .ok (.ireturn, 1) := by decide +kernel
theorem dL_law_208 : decode cL_law 208 = .ok (.aload_n 1, 1) := by decide +kernel
theorem dL_law_209 : decode cL_law 209 = .ok (.aload_n 0, 1) := by decide +kernel
theorem dL_law_210 : decode cL_law 210 = .ok (.iload_n 3, 1) := by decide +kernel
theorem dL_law_211 : decode cL_law 211 = .ok (.iconst 1, 1) := by decide +kernel
theorem dL_law_212 : decode cL_law 212 = .ok (.iadd, 1) := by decide +kernel
theorem dL_law_213 : decode cL_law 213 = .ok (.iaload, 1) := by decide +kernel
theorem dL_law_214 : decode cL_law 214 = .ok (.aload_n 0, 1) := by decide +kernel
theorem dL_law_215 : decode cL_law 215 = .ok (.iload_n 3, 1) := by decide +kernel
theorem dL_law_216 : decode cL_law 216 = .ok (.iconst 2, 1) := by decide +kernel
theorem dL_law_217 : decode cL_law 217 = .ok (.iadd, 1) := by decide +kernel
theorem dL_law_218 : decode cL_law 218 = .ok (.iaload, 1) := by decide +kernel
theorem dL_law_219 : decode cL_law 219 = .ok (.invokevirtual 23, 3) := by decide +kernel
theorem dL_law_222 : decode cL_law 222 = .ok (.aload_n 2, 1) := by decide +kernel
theorem dL_law_223 : decode cL_law 223 = .ok (.aload_n 0, 1) := by decide +kernel
theorem dL_law_224 : decode cL_law 224 = .ok (.iload_n 3, 1) := by decide +kernel
theorem dL_law_225 : decode cL_law 225 = .ok (.iconst 1, 1) := by decide +kernel
theorem dL_law_226 : decode cL_law 226 = .ok (.iadd, 1) := by decide +kernel
theorem dL_law_227 : decode cL_law 227 = .ok (.iaload, 1) := by decide +kernel
theorem dL_law_228 : decode cL_law 228 = .ok (.aload_n 0, 1) := by decide +kernel
theorem dL_law_229 : decode cL_law 229 = .ok (.iload_n 3, 1) := by decide +kernel
theorem dL_law_230 : decode cL_law 230 = .ok (.iconst 2, 1) := by decide +kernel
theorem dL_law_231 : decode cL_law 231 = .ok (.iadd, 1) := by decide +kernel
theorem dL_law_232 : decode cL_law 232 = .ok (.iaload, 1) := by decide +kernel
theorem dL_law_233 : decode cL_law 233 = .ok (.invokevirtual 27, 3) := by decide +kernel
theorem dL_law_236 : decode cL_law 236 = .ok (.if_icmp .eq 689, 3) := by decide +kernel
theorem dL_law_239 : decode cL_law 239 = .ok (.iconst 0, 1) := by decide +kernel
theorem dL_law_240 : decode cL_law 240 = .ok (.ireturn, 1) := by decide +kernel
theorem dL_law_241 : decode cL_law 241 = .ok (.aload_n 1, 1) := by decide +kernel
theorem dL_law_242 : decode cL_law 242 = .ok (.aload_n 0, 1) := by decide +kernel
theorem dL_law_243 : decode cL_law 243 = .ok (.iload_n 3, 1) := by decide +kernel
theorem dL_law_244 : decode cL_law 244 = .ok (.iconst 1, 1) := by decide +kernel
theorem dL_law_245 : decode cL_law 245 = .ok (.iadd, 1) := by decide +kernel
theorem dL_law_246 : decode cL_law 246 = .ok (.iaload, 1) := by decide +kernel
theorem dL_law_247 : decode cL_law 247 = .ok (.aload_n 0, 1) := by decide +kernel
theorem dL_law_248 : decode cL_law 248 = .ok (.iload_n 3, 1) := by decide +kernel
theorem dL_law_249 : decode cL_law 249 = .ok (.iconst 2, 1) := by decide +kernel
theorem dL_law_250 : decode cL_law 250 = .ok (.iadd, 1) := by decide +kernel
theorem dL_law_251 : decode cL_law 251 = .ok (.iaload, 1) := by decide +kernel
theorem dL_law_252 : decode cL_law 252 = .ok (.invokevirtual 28, 3) := by decide +kernel
theorem dL_law_255 : decode cL_law 255 = .ok (.aload_n 2, 1) := by decide +kernel
theorem dL_law_256 : decode cL_law 256 = .ok (.aload_n 0, 1) := by decide +kernel
theorem dL_law_257 : decode cL_law 257 = .ok (.iload_n 3, 1) := by decide +kernel
theorem dL_law_258 : decode cL_law 258 = .ok (.iconst 1, 1) := by decide +kernel
theorem dL_law_259 : decode cL_law 259 = .ok (.iadd, 1) := by decide +kernel
theorem dL_law_260 : decode cL_law 260 = .ok (.iaload, 1) := by decide +kernel
theorem dL_law_261 : decode cL_law 261 = .ok (.aload_n 0, 1) := by decide +kernel
theorem dL_law_262 : decode cL_law 262 = .ok (.iload_n 3, 1) := by decide +kernel
theorem dL_law_263 : decode cL_law 263 = .ok (.iconst 2, 1) := by decide +kernel
theorem dL_law_264 : decode cL_law 264 = .ok (.iadd, 1) := by decide +kernel
theorem dL_law_265 : decode cL_law 265 = .ok (.iaload, 1) := by decide +kernel
theorem dL_law_266 : decode cL_law 266 = .ok (.invokevirtual 31, 3) := by decide +kernel
theorem dL_law_269 : decode cL_law 269 = .ok (.if_icmp .eq 656, 3) := by decide +kernel
theorem dL_law_272 : decode cL_law 272 = .ok (.iconst 0, 1) := by decide +kernel
theorem dL_law_273 : decode cL_law 273 = .ok (.ireturn, 1) := by decide +kernel
theorem dL_law_274 : decode cL_law 274 = .ok (.aload_n 1, 1) := by decide +kernel
theorem dL_law_275 : decode cL_law 275 = .ok (.aload_n 0, 1) := by decide +kernel
theorem dL_law_276 : decode cL_law 276 = .ok (.iload_n 3, 1) := by decide +kernel
theorem dL_law_277 : decode cL_law 277 = .ok (.iconst 1, 1) := by decide +kernel
theorem dL_law_278 : decode cL_law 278 = .ok (.iadd, 1) := by decide +kernel
theorem dL_law_279 : decode cL_law 279 = .ok (.iaload, 1) := by decide +kernel
theorem dL_law_280 : decode cL_law 280 = .ok (.invokevirtual 32, 3) := by decide +kernel
theorem dL_law_283 : decode cL_law 283 = .ok (.aload_n 2, 1) := by decide +kernel
theorem dL_law_284 : decode cL_law 284 = .ok (.aload_n 0, 1) := by decide +kernel
theorem dL_law_285 : decode cL_law 285 = .ok (.iload_n 3, 1) := by decide +kernel
theorem dL_law_286 : decode cL_law 286 = .ok (.iconst 1, 1) := by decide +kernel
theorem dL_law_287 : decode cL_law 287 = .ok (.iadd, 1) := by decide +kernel
theorem dL_law_288 : decode cL_law 288 = .ok (.iaload, 1) := by decide +kernel
theorem dL_law_289 : decode cL_law 289 = .ok (.invokevirtual 35, 3) := by decide +kernel
theorem dL_law_292 : decode cL_law 292 = .ok (.if_icmp .eq 633, 3) := by decide +kernel
theorem dL_law_295 : decode cL_law 295 = .ok (.iconst 0, 1) := by decide +kernel
theorem dL_law_296 : decode cL_law 296 = .ok (.ireturn, 1) := by decide +kernel
theorem dL_law_297 : decode cL_law 297 = .ok (.aload_n 1, 1) := by decide +kernel
theorem dL_law_298 : decode cL_law 298 = .ok (.aload_n 0, 1) := by decide +kernel
theorem dL_law_299 : decode cL_law 299 = .ok (.iload_n 3, 1) := by decide +kernel
theorem dL_law_300 : decode cL_law 300 = .ok (.iconst 1, 1) := by decide +kernel
theorem dL_law_301 : decode cL_law 301 = .ok (.iadd, 1) := by decide +kernel
theorem dL_law_302 : decode cL_law 302 = .ok (.iaload, 1) := by decide +kernel
theorem dL_law_303 : decode cL_law 303 = .ok (.aload_n 0, 1) := by decide +kernel
theorem dL_law_304 : decode cL_law 304 = .ok (.iload_n 3, 1) := by decide +kernel
theorem dL_law_305 : decode cL_law 305 = .ok (.iconst 2, 1) := by decide +kernel
theorem dL_law_306 : decode cL_law 306 = .ok (.iadd, 1) := by decide +kernel
theorem dL_law_307 : decode cL_law 307 = .ok (.iaload, 1) := by decide +kernel
theorem dL_law_308 : decode cL_law 308 = .ok (.invokevirtual 36, 3) := by decide +kernel
theorem dL_law_311 : decode cL_law 311 = .ok (.aload_n 2, 1) := by decide +kernel
theorem dL_law_312 : decode cL_law 312 = .ok (.aload_n 0, 1) := by decide +kernel
theorem dL_law_313 : decode cL_law 313 = .ok (.iload_n 3, 1) := by decide +kernel
theorem dL_law_314 : decode cL_law 314 = .ok (.iconst 1, 1) := by decide +kernel
theorem dL_law_315 : decode cL_law 315 = .ok (.iadd, 1) := by decide +kernel
theorem dL_law_316 : decode cL_law 316 = .ok (.iaload, 1) := by decide +kernel
theorem dL_law_317 : decode cL_law 317 = .ok (.aload_n 0, 1) := by decide +kernel
theorem dL_law_318 : decode cL_law 318 = .ok (.iload_n 3, 1) := by decide +kernel
theorem dL_law_319 : decode cL_law 319 = .ok (.iconst 2, 1) := by decide +kernel
theorem dL_law_320 : decode cL_law 320 = .ok (.iadd, 1) := by decide +kernel
theorem dL_law_321 : decode cL_law 321 = .ok (.iaload, 1) := by decide +kernel
theorem dL_law_322 : decode cL_law 322 = .ok (.invokevirtual 39, 3) := by decide +kernel
theorem dL_law_325 : decode cL_law 325 = .ok (.if_icmp .eq 600, 3) := by decide +kernel
theorem dL_law_328 : decode cL_law 328 = .ok (.iconst 0, 1) := by decide +kernel
theorem dL_law_329 : decode cL_law 329 = .ok (.ireturn, 1) := by decide +kernel
theorem dL_law_330 : decode cL_law 330 = .ok (.aload_n 1, 1) := by decide +kernel
theorem dL_law_331 : decode cL_law 331 = .ok (.aload_n 0, 1) := by decide +kernel
theorem dL_law_332 : decode cL_law 332 = .ok (.iload_n 3, 1) := by decide +kernel
theorem dL_law_333 : decode cL_law 333 = .ok (.iconst 1, 1) := by decide +kernel
theorem dL_law_334 : decode cL_law 334 = .ok (.iadd, 1) := by decide +kernel
theorem dL_law_335 : decode cL_law 335 = .ok (.iaload, 1) := by decide +kernel
theorem dL_law_336 : decode cL_law 336 = .ok (.aload_n 0, 1) := by decide +kernel
theorem dL_law_337 : decode cL_law 337 = .ok (.iload_n 3, 1) := by decide +kernel
theorem dL_law_338 : decode cL_law 338 = .ok (.iconst 2, 1) := by decide +kernel
theorem dL_law_339 : decode cL_law 339 = .ok (.iadd, 1) := by decide +kernel
theorem dL_law_340 : decode cL_law 340 = .ok (.iaload, 1) := by decide +kernel
theorem dL_law_341 : decode cL_law 341 = .ok (.invokevirtual 40, 3) := by decide +kernel
theorem dL_law_344 : decode cL_law 344 = .ok (.aload_n 2, 1) := by decide +kernel
theorem dL_law_345 : decode cL_law 345 = .ok (.aload_n 0, 1) := by decide +kernel
theorem dL_law_346 : decode cL_law 346 = .ok (.iload_n 3, 1) := by decide +kernel
theorem dL_law_347 : decode cL_law 347 = .ok (.iconst 1, 1) := by decide +kernel
theorem dL_law_348 : decode cL_law 348 = .ok (.iadd, 1) := by decide +kernel
theorem dL_law_349 : decode cL_law 349 = .ok (.iaload, 1) := by decide +kernel
theorem dL_law_350 : decode cL_law 350 = .ok (.aload_n 0, 1) := by decide +kernel
theorem dL_law_351 : decode cL_law 351 = .ok (.iload_n 3, 1) := by decide +kernel
theorem dL_law_352 : decode cL_law 352 = .ok (.iconst 2, 1) := by decide +kernel
theorem dL_law_353 : decode cL_law 353 = .ok (.iadd, 1) := by decide +kernel
theorem dL_law_354 : decode cL_law 354 = .ok (.iaload, 1) := by decide +kernel
theorem dL_law_355 : decode cL_law 355 = .ok (.invokevirtual 43, 3) := by decide +kernel
theorem dL_law_358 : decode cL_law 358 = .ok (.if_icmp .eq 567, 3) := by decide +kernel
theorem dL_law_361 : decode cL_law 361 = .ok (.iconst 0, 1) := by decide +kernel
theorem dL_law_362 : decode cL_law 362 = .ok (.ireturn, 1) := by decide +kernel
theorem dL_law_363 : decode cL_law 363 = .ok (.aload_n 1, 1) := by decide +kernel
theorem dL_law_364 : decode cL_law 364 = .ok (.aload_n 0, 1) := by decide +kernel
theorem dL_law_365 : decode cL_law 365 = .ok (.iload_n 3, 1) := by decide +kernel
theorem dL_law_366 : decode cL_law 366 = .ok (.iconst 1, 1) := by decide +kernel
theorem dL_law_367 : decode cL_law 367 = .ok (.iadd, 1) := by decide +kernel
theorem dL_law_368 : decode cL_law 368 = .ok (.iaload, 1) := by decide +kernel
theorem dL_law_369 : decode cL_law 369 = .ok (.invokevirtual 44, 3) := by decide +kernel
theorem dL_law_372 : decode cL_law 372 = .ok (.aload_n 2, 1) := by decide +kernel
theorem dL_law_373 : decode cL_law 373 = .ok (.aload_n 0, 1) := by decide +kernel
theorem dL_law_374 : decode cL_law 374 = .ok (.iload_n 3, 1) := by decide +kernel
theorem dL_law_375 : decode cL_law 375 = .ok (.iconst 1, 1) := by decide +kernel
theorem dL_law_376 : decode cL_law 376 = .ok (.iadd, 1) := by decide +kernel
theorem dL_law_377 : decode cL_law 377 = .ok (.iaload, 1) := by decide +kernel
theorem dL_law_378 : decode cL_law 378 = .ok (.invokevirtual 47, 3) := by decide +kernel
theorem dL_law_381 : decode cL_law 381 = .ok (.if_icmp .eq 544, 3) := by decide +kernel
theorem dL_law_384 : decode cL_law 384 = .ok (.iconst 0, 1) := by decide +kernel
theorem dL_law_385 : decode cL_law 385 = .ok (.ireturn, 1) := by decide +kernel
theorem dL_law_386 : decode cL_law 386 = .ok (.aload_n 1, 1) := by decide +kernel
theorem dL_law_387 : decode cL_law 387 = .ok (.aload_n 0, 1) := by decide +kernel
theorem dL_law_388 : decode cL_law 388 = .ok (.iload_n 3, 1) := by decide +kernel
theorem dL_law_389 : decode cL_law 389 = .ok (.iconst 1, 1) := by decide +kernel
theorem dL_law_390 : decode cL_law 390 = .ok (.iadd, 1) := by decide +kernel
theorem dL_law_391 : decode cL_law 391 = .ok (.iaload, 1) := by decide +kernel
theorem dL_law_392 : decode cL_law 392 = .ok (.invokevirtual 48, 3) := by decide +kernel
theorem dL_law_395 : decode cL_law 395 = .ok (.aload_n 2, 1) := by decide +kernel
theorem dL_law_396 : decode cL_law 396 = .ok (.aload_n 0, 1) := by decide +kernel
theorem dL_law_397 : decode cL_law 397 = .ok (.iload_n 3, 1) := by decide +kernel
theorem dL_law_398 : decode cL_law 398 = .ok (.iconst 1, 1) := by decide +kernel
theorem dL_law_399 : decode cL_law 399 = .ok (.iadd, 1) := by decide +kernel
theorem dL_law_400 : decode cL_law 400 = .ok (.iaload, 1) := by decide +kernel
theorem dL_law_401 : decode cL_law 401 = .ok (.invokevirtual 51, 3) := by decide +kernel
theorem dL_law_404 : decode cL_law 404 = .ok (.if_icmp .eq 521, 3) := by decide +kernel
theorem dL_law_407 : decode cL_law 407 = .ok (.iconst 0, 1) := by decide +kernel
theorem dL_law_408 : decode cL_law 408 = .ok (.ireturn, 1) := by decide +kernel
theorem dL_law_409 : decode cL_law 409 = .ok (.aload_n 1, 1) := by decide +kernel
theorem dL_law_410 : decode cL_law 410 = .ok (.aload_n 0, 1) := by decide +kernel
theorem dL_law_411 : decode cL_law 411 = .ok (.iload_n 3, 1) := by decide +kernel
theorem dL_law_412 : decode cL_law 412 = .ok (.iconst 1, 1) := by decide +kernel
theorem dL_law_413 : decode cL_law 413 = .ok (.iadd, 1) := by decide +kernel
theorem dL_law_414 : decode cL_law 414 = .ok (.iaload, 1) := by decide +kernel
theorem dL_law_415 : decode cL_law 415 = .ok (.invokevirtual 52, 3) := by decide +kernel
theorem dL_law_418 : decode cL_law 418 = .ok (.aload_n 2, 1) := by decide +kernel
theorem dL_law_419 : decode cL_law 419 = .ok (.aload_n 0, 1) := by decide +kernel
theorem dL_law_420 : decode cL_law 420 = .ok (.iload_n 3, 1) := by decide +kernel
theorem dL_law_421 : decode cL_law 421 = .ok (.iconst 1, 1) := by decide +kernel
theorem dL_law_422 : decode cL_law 422 = .ok (.iadd, 1) := by decide +kernel
theorem dL_law_423 : decode cL_law 423 = .ok (.iaload, 1) := by decide +kernel
theorem dL_law_424 : decode cL_law 424 = .ok (.invokevirtual 55, 3) := by decide +kernel
theorem dL_law_427 : decode cL_law 427 = .ok (.if_icmp .eq 498, 3) := by decide +kernel
theorem dL_law_430 : decode cL_law 430 = .ok (.iconst 0, 1) := by decide +kernel
theorem dL_law_431 : decode cL_law 431 = .ok (.ireturn, 1) := by decide +kernel
theorem dL_law_432 : decode cL_law 432 = .ok (.aload_n 1, 1) := by decide +kernel
theorem dL_law_433 : decode cL_law 433 = .ok (.aload_n 0, 1) := by decide +kernel
theorem dL_law_434 : decode cL_law 434 = .ok (.iload_n 3, 1) := by decide +kernel
theorem dL_law_435 : decode cL_law 435 = .ok (.iconst 1, 1) := by decide +kernel
theorem dL_law_436 : decode cL_law 436 = .ok (.iadd, 1) := by decide +kernel
theorem dL_law_437 : decode cL_law 437 = .ok (.iaload, 1) := by decide +kernel
theorem dL_law_438 : decode cL_law 438 = .ok (.aload_n 0, 1) := by decide +kernel
theorem dL_law_439 : decode cL_law 439 = .ok (.iload_n 3, 1) := by decide +kernel
theorem dL_law_440 : decode cL_law 440 = .ok (.iconst 2, 1) := by decide +kernel
theorem dL_law_441 : decode cL_law 441 = .ok (.iadd, 1) := by decide +kernel
theorem dL_law_442 : decode cL_law 442 = .ok (.iaload, 1) := by decide +kernel
theorem dL_law_443 : decode cL_law 443 = .ok (.invokevirtual 56, 3) := by decide +kernel
theorem dL_law_446 : decode cL_law 446 = .ok (.aload_n 2, 1) := by decide +kernel
theorem dL_law_447 : decode cL_law 447 = .ok (.aload_n 0, 1) := by decide +kernel
theorem dL_law_448 : decode cL_law 448 = .ok (.iload_n 3, 1) := by decide +kernel
theorem dL_law_449 : decode cL_law 449 = .ok (.iconst 1, 1) := by decide +kernel
theorem dL_law_450 : decode cL_law 450 = .ok (.iadd, 1) := by decide +kernel
theorem dL_law_451 : decode cL_law 451 = .ok (.iaload, 1) := by decide +kernel
theorem dL_law_452 : decode cL_law 452 = .ok (.aload_n 0, 1) := by decide +kernel
theorem dL_law_453 : decode cL_law 453 = .ok (.iload_n 3, 1) := by decide +kernel
theorem dL_law_454 : decode cL_law 454 = .ok (.iconst 2, 1) := by decide +kernel
theorem dL_law_455 : decode cL_law 455 = .ok (.iadd, 1) := by decide +kernel
theorem dL_law_456 : decode cL_law 456 = .ok (.iaload, 1) := by decide +kernel
theorem dL_law_457 : decode cL_law 457 = .ok (.invokevirtual 59, 3) := by decide +kernel
theorem dL_law_460 : decode cL_law 460 = .ok (.if_icmp .eq 465, 3) := by decide +kernel
theorem dL_law_463 : decode cL_law 463 = .ok (.iconst 0, 1) := by decide +kernel
theorem dL_law_464 : decode cL_law 464 = .ok (.ireturn, 1) := by decide +kernel
theorem dL_law_465 : decode cL_law 465 = .ok (.aload_n 1, 1) := by decide +kernel
theorem dL_law_466 : decode cL_law 466 = .ok (.aload_n 0, 1) := by decide +kernel
theorem dL_law_467 : decode cL_law 467 = .ok (.iload_n 3, 1) := by decide +kernel
theorem dL_law_468 : decode cL_law 468 = .ok (.iconst 1, 1) := by decide +kernel
theorem dL_law_469 : decode cL_law 469 = .ok (.iadd, 1) := by decide +kernel
theorem dL_law_470 : decode cL_law 470 = .ok (.iaload, 1) := by decide +kernel
theorem dL_law_471 : decode cL_law 471 = .ok (.invokevirtual 60, 3) := by decide +kernel
theorem dL_law_474 : decode cL_law 474 = .ok (.aload_n 2, 1) := by decide +kernel
theorem dL_law_475 : decode cL_law 475 = .ok (.aload_n 0, 1) := by decide +kernel
theorem dL_law_476 : decode cL_law 476 = .ok (.iload_n 3, 1) := by decide +kernel
theorem dL_law_477 : decode cL_law 477 = .ok (.iconst 1, 1) := by decide +kernel
theorem dL_law_478 : decode cL_law 478 = .ok (.iadd, 1) := by decide +kernel
theorem dL_law_479 : decode cL_law 479 = .ok (.iaload, 1) := by decide +kernel
theorem dL_law_480 : decode cL_law 480 = .ok (.invokevirtual 63, 3) := by decide +kernel
theorem dL_law_483 : decode cL_law 483 = .ok (.if_icmp .eq 442, 3) := by decide +kernel
theorem dL_law_486 : decode cL_law 486 = .ok (.iconst 0, 1) := by decide +kernel
theorem dL_law_487 : decode cL_law 487 = .ok (.ireturn, 1) := by decide +kernel
theorem dL_law_488 : decode cL_law 488 = .ok (.aload_n 1, 1) := by decide +kernel
theorem dL_law_489 : decode cL_law 489 = .ok (.aload_n 0, 1) := by decide +kernel
theorem dL_law_490 : decode cL_law 490 = .ok (.iload_n 3, 1) := by decide +kernel
theorem dL_law_491 : decode cL_law 491 = .ok (.iconst 1, 1) := by decide +kernel
theorem dL_law_492 : decode cL_law 492 = .ok (.iadd, 1) := by decide +kernel
theorem dL_law_493 : decode cL_law 493 = .ok (.iaload, 1) := by decide +kernel
theorem dL_law_494 : decode cL_law 494 = .ok (.aload_n 0, 1) := by decide +kernel
theorem dL_law_495 : decode cL_law 495 = .ok (.iload_n 3, 1) := by decide +kernel
theorem dL_law_496 : decode cL_law 496 = .ok (.iconst 2, 1) := by decide +kernel
theorem dL_law_497 : decode cL_law 497 = .ok (.iadd, 1) := by decide +kernel
theorem dL_law_498 : decode cL_law 498 = .ok (.iaload, 1) := by decide +kernel
theorem dL_law_499 : decode cL_law 499 = .ok (.aload_n 0, 1) := by decide +kernel
theorem dL_law_500 : decode cL_law 500 = .ok (.iload_n 3, 1) := by decide +kernel
theorem dL_law_501 : decode cL_law 501 = .ok (.iconst 3, 1) := by decide +kernel
theorem dL_law_502 : decode cL_law 502 = .ok (.iadd, 1) := by decide +kernel
theorem dL_law_503 : decode cL_law 503 = .ok (.iaload, 1) := by decide +kernel
theorem dL_law_504 : decode cL_law 504 = .ok (.invokevirtual 64, 3) := by decide +kernel
theorem dL_law_507 : decode cL_law 507 = .ok (.aload_n 2, 1) := by decide +kernel
theorem dL_law_508 : decode cL_law 508 = .ok (.aload_n 0, 1) := by decide +kernel
theorem dL_law_509 : decode cL_law 509 = .ok (.iload_n 3, 1) := by decide +kernel
theorem dL_law_510 : decode cL_law 510 = .ok (.iconst 1, 1) := by decide +kernel
theorem dL_law_511 : decode cL_law 511 = .ok (.iadd, 1) := by decide +kernel
theorem dL_law_512 : decode cL_law 512 = .ok (.iaload, 1) := by decide +kernel
theorem dL_law_513 : decode cL_law 513 = .ok (.aload_n 0, 1) := by decide +kernel
theorem dL_law_514 : decode cL_law 514 = .ok (.iload_n 3, 1) := by decide +kernel
theorem dL_law_515 : decode cL_law 515 = .ok (.iconst 2, 1) := by decide +kernel
theorem dL_law_516 : decode cL_law 516 = .ok (.iadd, 1) := by decide +kernel
theorem dL_law_517 : decode cL_law 517 = .ok (.iaload, 1) := by decide +kernel
theorem dL_law_518 : decode cL_law 518 = .ok (.aload_n 0, 1) := by decide +kernel
theorem dL_law_519 : decode cL_law 519 = .ok (.iload_n 3, 1) := by decide +kernel
theorem dL_law_520 : decode cL_law 520 = .ok (.iconst 3, 1) := by decide +kernel
theorem dL_law_521 : decode cL_law 521 = .ok (.iadd, 1) := by decide +kernel
theorem dL_law_522 : decode cL_law 522 = .ok (.iaload, 1) := by decide +kernel
theorem dL_law_523 : decode cL_law 523 = .ok (.invokevirtual 68, 3) := by decide +kernel
theorem dL_law_526 : decode cL_law 526 = .ok (.if_icmp .eq 399, 3) := by decide +kernel
theorem dL_law_529 : decode cL_law 529 = .ok (.iconst 0, 1) := by decide +kernel
theorem dL_law_530 : decode cL_law 530 = .ok (.ireturn, 1) := by decide +kernel
theorem dL_law_531 : decode cL_law 531 = .ok (.aload_n 1, 1) := by decide +kernel
theorem dL_law_532 : decode cL_law 532 = .ok (.aload_n 0, 1) := by decide +kernel
theorem dL_law_533 : decode cL_law 533 = .ok (.iload_n 3, 1) := by decide +kernel
theorem dL_law_534 : decode cL_law 534 = .ok (.iconst 1, 1) := by decide +kernel
theorem dL_law_535 : decode cL_law 535 = .ok (.iadd, 1) := by decide +kernel
theorem dL_law_536 : decode cL_law 536 = .ok (.iaload, 1) := by decide +kernel
theorem dL_law_537 : decode cL_law 537 = .ok (.aload_n 0, 1) := by decide +kernel
theorem dL_law_538 : decode cL_law 538 = .ok (.iload_n 3, 1) := by decide +kernel
theorem dL_law_539 : decode cL_law 539 = .ok (.iconst 2, 1) := by decide +kernel
theorem dL_law_540 : decode cL_law 540 = .ok (.iadd, 1) := by decide +kernel
end
section
theorem dL_law_541 : decode cL_law 541 = .ok (.iaload, 1) := by decide +kernel
theorem dL_law_542 : decode cL_law 542 = .ok (.invokevirtual 69, 3) := by decide +kernel
theorem dL_law_545 : decode cL_law 545 = .ok (.aload_n 2, 1) := by decide +kernel
theorem dL_law_546 : decode cL_law 546 = .ok (.aload_n 0, 1) := by decide +kernel
theorem dL_law_547 : decode cL_law 547 = .ok (.iload_n 3, 1) := by decide +kernel
theorem dL_law_548 : decode cL_law 548 = .ok (.iconst 1, 1) := by decide +kernel
theorem dL_law_549 : decode cL_law 549 = .ok (.iadd, 1) := by decide +kernel
theorem dL_law_550 : decode cL_law 550 = .ok (.iaload, 1) := by decide +kernel
theorem dL_law_551 : decode cL_law 551 = .ok (.aload_n 0, 1) := by decide +kernel
theorem dL_law_552 : decode cL_law 552 = .ok (.iload_n 3, 1) := by decide +kernel
theorem dL_law_553 : decode cL_law 553 = .ok (.iconst 2, 1) := by decide +kernel
theorem dL_law_554 : decode cL_law 554 = .ok (.iadd, 1) := by decide +kernel
theorem dL_law_555 : decode cL_law 555 = .ok (.iaload, 1) := by decide +kernel
theorem dL_law_556 : decode cL_law 556 = .ok (.invokevirtual 72, 3) := by decide +kernel
theorem dL_law_559 : decode cL_law 559 = .ok (.if_icmp .eq 366, 3) := by decide +kernel
theorem dL_law_562 : decode cL_law 562 = .ok (.iconst 0, 1) := by decide +kernel
theorem dL_law_563 : decode cL_law 563 = .ok (.ireturn, 1) := by decide +kernel
theorem dL_law_564 : decode cL_law 564 = .ok (.aload_n 1, 1) := by decide +kernel
theorem dL_law_565 : decode cL_law 565 = .ok (.aload_n 0, 1) := by decide +kernel
theorem dL_law_566 : decode cL_law 566 = .ok (.iload_n 3, 1) := by decide +kernel
theorem dL_law_567 : decode cL_law 567 = .ok (.iconst 1, 1) := by decide +kernel
theorem dL_law_568 : decode cL_law 568 = .ok (.iadd, 1) := by decide +kernel
theorem dL_law_569 : decode cL_law 569 = .ok (.iaload, 1) := by decide +kernel
theorem dL_law_570 : decode cL_law 570 = .ok (.aload_n 0, 1) := by decide +kernel
theorem dL_law_571 : decode cL_law 571 = .ok (.iload_n 3, 1) := by decide +kernel
theorem dL_law_572 : decode cL_law 572 = .ok (.iconst 2, 1) := by decide +kernel
theorem dL_law_573 : decode cL_law 573 = .ok (.iadd, 1) := by decide +kernel
theorem dL_law_574 : decode cL_law 574 = .ok (.iaload, 1) := by decide +kernel
theorem dL_law_575 : decode cL_law 575 = .ok (.invokevirtual 73, 3) := by decide +kernel
theorem dL_law_578 : decode cL_law 578 = .ok (.aload_n 2, 1) := by decide +kernel
theorem dL_law_579 : decode cL_law 579 = .ok (.aload_n 0, 1) := by decide +kernel
theorem dL_law_580 : decode cL_law 580 = .ok (.iload_n 3, 1) := by decide +kernel
theorem dL_law_581 : decode cL_law 581 = .ok (.iconst 1, 1) := by decide +kernel
theorem dL_law_582 : decode cL_law 582 = .ok (.iadd, 1) := by decide +kernel
theorem dL_law_583 : decode cL_law 583 = .ok (.iaload, 1) := by decide +kernel
theorem dL_law_584 : decode cL_law 584 = .ok (.aload_n 0, 1) := by decide +kernel
theorem dL_law_585 : decode cL_law 585 = .ok (.iload_n 3, 1) := by decide +kernel
theorem dL_law_586 : decode cL_law 586 = .ok (.iconst 2, 1) := by decide +kernel
theorem dL_law_587 : decode cL_law 587 = .ok (.iadd, 1) := by decide +kernel
theorem dL_law_588 : decode cL_law 588 = .ok (.iaload, 1) := by decide +kernel
theorem dL_law_589 : decode cL_law 589 = .ok (.invokevirtual 76, 3) := by decide +kernel
theorem dL_law_592 : decode cL_law 592 = .ok (.if_icmp .eq 333, 3) := by decide +kernel
theorem dL_law_595 : decode cL_law 595 = .ok (.iconst 0, 1) := by decide +kernel
theorem dL_law_596 : decode cL_law 596 = .ok (.ireturn, 1) := by decide +kernel
theorem dL_law_597 : decode cL_law 597 = .ok (.aload_n 1, 1) := by decide +kernel
theorem dL_law_598 : decode cL_law 598 = .ok (.aload_n 0, 1) := by decide +kernel
theorem dL_law_599 : decode cL_law 599 = .ok (.iload_n 3, 1) := by decide +kernel
theorem dL_law_600 : decode cL_law 600 = .ok (.iconst 1, 1) := by decide +kernel
theorem dL_law_601 : decode cL_law 601 = .ok (.iadd, 1) := by decide +kernel
theorem dL_law_602 : decode cL_law 602 = .ok (.iaload, 1) := by decide +kernel
theorem dL_law_603 : decode cL_law 603 = .ok (.invokevirtual 77, 3) := by decide +kernel
theorem dL_law_606 : decode cL_law 606 = .ok (.aload_n 2, 1) := by decide +kernel
theorem dL_law_607 : decode cL_law 607 = .ok (.aload_n 0, 1) := by decide +kernel
theorem dL_law_608 : decode cL_law 608 = .ok (.iload_n 3, 1) := by decide +kernel
theorem dL_law_609 : decode cL_law 609 = .ok (.iconst 1, 1) := by decide +kernel
theorem dL_law_610 : decode cL_law 610 = .ok (.iadd, 1) := by decide +kernel
theorem dL_law_611 : decode cL_law 611 = .ok (.iaload, 1) := by decide +kernel
theorem dL_law_612 : decode cL_law 612 = .ok (.invokevirtual 80, 3) := by decide +kernel
theorem dL_law_615 : decode cL_law 615 = .ok (.if_icmp .eq 310, 3) := by decide +kernel
theorem dL_law_618 : decode cL_law 618 = .ok (.iconst 0, 1) := by decide +kernel
theorem dL_law_619 : decode cL_law 619 = .ok (.ireturn, 1) := by decide +kernel
theorem dL_law_620 : decode cL_law 620 = .ok (.aload_n 1, 1) := by decide +kernel
theorem dL_law_621 : decode cL_law 621 = .ok (.aload_n 0, 1) := by decide +kernel
theorem dL_law_622 : decode cL_law 622 = .ok (.iload_n 3, 1) := by decide +kernel
theorem dL_law_623 : decode cL_law 623 = .ok (.iconst 1, 1) := by decide +kernel
theorem dL_law_624 : decode cL_law 624 = .ok (.iadd, 1) := by decide +kernel
theorem dL_law_625 : decode cL_law 625 = .ok (.iaload, 1) := by decide +kernel
theorem dL_law_626 : decode cL_law 626 = .ok (.invokevirtual 81, 3) := by decide +kernel
theorem dL_law_629 : decode cL_law 629 = .ok (.aload_n 2, 1) := by decide +kernel
theorem dL_law_630 : decode cL_law 630 = .ok (.aload_n 0, 1) := by decide +kernel
theorem dL_law_631 : decode cL_law 631 = .ok (.iload_n 3, 1) := by decide +kernel
theorem dL_law_632 : decode cL_law 632 = .ok (.iconst 1, 1) := by decide +kernel
theorem dL_law_633 : decode cL_law 633 = .ok (.iadd, 1) := by decide +kernel
theorem dL_law_634 : decode cL_law 634 = .ok (.iaload, 1) := by decide +kernel
theorem dL_law_635 : decode cL_law 635 = .ok (.invokevirtual 84, 3) := by decide +kernel
theorem dL_law_638 : decode cL_law 638 = .ok (.if_icmp .eq 287, 3) := by decide +kernel
theorem dL_law_641 : decode cL_law 641 = .ok (.iconst 0, 1) := by decide +kernel
theorem dL_law_642 : decode cL_law 642 = .ok (.ireturn, 1) := by decide +kernel
theorem dL_law_643 : decode cL_law 643 = .ok (.aload_n 1, 1) := by decide +kernel
theorem dL_law_644 : decode cL_law 644 = .ok (.aload_n 0, 1) := by decide +kernel
theorem dL_law_645 : decode cL_law 645 = .ok (.iload_n 3, 1) := by decide +kernel
theorem dL_law_646 : decode cL_law 646 = .ok (.iconst 1, 1) := by decide +kernel
theorem dL_law_647 : decode cL_law 647 = .ok (.iadd, 1) := by decide +kernel
theorem dL_law_648 : decode cL_law 648 = .ok (.iaload, 1) := by decide +kernel
theorem dL_law_649 : decode cL_law 649 = .ok (.invokevirtual 85, 3) := by decide +kernel
theorem dL_law_652 : decode cL_law 652 = .ok (.aload_n 2, 1) := by decide +kernel
theorem dL_law_653 : decode cL_law 653 = .ok (.aload_n 0, 1) := by decide +kernel
theorem dL_law_654 : decode cL_law 654 = .ok (.iload_n 3, 1) := by decide +kernel
theorem dL_law_655 : decode cL_law 655 = .ok (.iconst 1, 1) := by decide +kernel
theorem dL_law_656 : decode cL_law 656 = .ok (.iadd, 1) := by decide +kernel
theorem dL_law_657 : decode cL_law 657 = .ok (.iaload, 1) := by decide +kernel
theorem dL_law_658 : decode cL_law 658 = .ok (.invokevirtual 88, 3) := by decide +kernel
theorem dL_law_661 : decode cL_law 661 = .ok (.if_icmp .eq 264, 3) := by decide +kernel
theorem dL_law_664 : decode cL_law 664 = .ok (.iconst 0, 1) := by decide +kernel
theorem dL_law_665 : decode cL_law 665 = .ok (.ireturn, 1) := by decide +kernel
theorem dL_law_666 : decode cL_law 666 = .ok (.aload_n 1, 1) := by decide +kernel
theorem dL_law_667 : decode cL_law 667 = .ok (.aload_n 0, 1) := by decide +kernel
theorem dL_law_668 : decode cL_law 668 = .ok (.iload_n 3, 1) := by decide +kernel
theorem dL_law_669 : decode cL_law 669 = .ok (.iconst 1, 1) := by decide +kernel
theorem dL_law_670 : decode cL_law 670 = .ok (.iadd, 1) := by decide +kernel
theorem dL_law_671 : decode cL_law 671 = .ok (.iaload, 1) := by decide +kernel
theorem dL_law_672 : decode cL_law 672 = .ok (.invokevirtual 89, 3) := by decide +kernel
theorem dL_law_675 : decode cL_law 675 = .ok (.aload_n 2, 1) := by decide +kernel
theorem dL_law_676 : decode cL_law 676 = .ok (.aload_n 0, 1) := by decide +kernel
theorem dL_law_677 : decode cL_law 677 = .ok (.iload_n 3, 1) := by decide +kernel
theorem dL_law_678 : decode cL_law 678 = .ok (.iconst 1, 1) := by decide +kernel
theorem dL_law_679 : decode cL_law 679 = .ok (.iadd, 1) := by decide +kernel
theorem dL_law_680 : decode cL_law 680 = .ok (.iaload, 1) := by decide +kernel
theorem dL_law_681 : decode cL_law 681 = .ok (.invokevirtual 92, 3) := by decide +kernel
theorem dL_law_684 : decode cL_law 684 = .ok (.if_icmp .eq 241, 3) := by decide +kernel
theorem dL_law_687 : decode cL_law 687 = .ok (.iconst 0, 1) := by decide +kernel
theorem dL_law_688 : decode cL_law 688 = .ok (.ireturn, 1) := by decide +kernel
theorem dL_law_689 : decode cL_law 689 = .ok (.aload_n 1, 1) := by decide +kernel
theorem dL_law_690 : decode cL_law 690 = .ok (.aload_n 0, 1) := by decide +kernel
theorem dL_law_691 : decode cL_law 691 = .ok (.iload_n 3, 1) := by decide +kernel
theorem dL_law_692 : decode cL_law 692 = .ok (.iconst 1, 1) := by decide +kernel
theorem dL_law_693 : decode cL_law 693 = .ok (.iadd, 1) := by decide +kernel
theorem dL_law_694 : decode cL_law 694 = .ok (.iaload, 1) := by decide +kernel
theorem dL_law_695 : decode cL_law 695 = .ok (.invokevirtual 93, 3) := by decide +kernel
theorem dL_law_698 : decode cL_law 698 = .ok (.aload_n 2, 1) := by decide +kernel
theorem dL_law_699 : decode cL_law 699 = .ok (.aload_n 0, 1) := by decide +kernel
theorem dL_law_700 : decode cL_law 700 = .ok (.iload_n 3, 1) := by decide +kernel
theorem dL_law_701 : decode cL_law 701 = .ok (.iconst 1, 1) := by decide +kernel
theorem dL_law_702 : decode cL_law 702 = .ok (.iadd, 1) := by decide +kernel
theorem dL_law_703 : decode cL_law 703 = .ok (.iaload, 1) := by decide +kernel
theorem dL_law_704 : decode cL_law 704 = .ok (.invokevirtual 96, 3) := by decide +kernel
theorem dL_law_707 : decode cL_law 707 = .ok (.if_icmp .eq 218, 3) := by decide +kernel
theorem dL_law_710 : decode cL_law 710 = .ok (.iconst 0, 1) := by decide +kernel
theorem dL_law_711 : decode cL_law 711 = .ok (.ireturn, 1) := by decide +kernel
theorem dL_law_712 : decode cL_law 712 = .ok (.aload_n 1, 1) := by decide +kernel
theorem dL_law_713 : decode cL_law 713 = .ok (.invokevirtual 97, 3) := by decide +kernel
theorem dL_law_716 : decode cL_law 716 = .ok (.aload_n 2, 1) := by decide +kernel
theorem dL_law_717 : decode cL_law 717 = .ok (.invokevirtual 100, 3) := by decide +kernel
theorem dL_law_720 : decode cL_law 720 = .ok (.if_icmp .eq 205, 3) := by decide +kernel
theorem dL_law_723 : decode cL_law 723 = .ok (.iconst 0, 1) := by decide +kernel
theorem dL_law_724 : decode cL_law 724 = .ok (.ireturn, 1) := by decide +kernel
theorem dL_law_725 : decode cL_law 725 = .ok (.aload_n 1, 1) := by decide +kernel
theorem dL_law_726 : decode cL_law 726 = .ok (.invokevirtual 101, 3) := by decide +kernel
theorem dL_law_729 : decode cL_law 729 = .ok (.aload_n 2, 1) := by decide +kernel
theorem dL_law_730 : decode cL_law 730 = .ok (.invokevirtual 104, 3) := by decide +kernel
theorem dL_law_733 : decode cL_law 733 = .ok (.if_icmp .eq 192, 3) := by decide +kernel
theorem dL_law_736 : decode cL_law 736 = .ok (.iconst 0, 1) := by decide +kernel
theorem dL_law_737 : decode cL_law 737 = .ok (.ireturn, 1) := by decide +kernel
theorem dL_law_738 : decode cL_law 738 = .ok (.aload_n 1, 1) := by decide +kernel
theorem dL_law_739 : decode cL_law 739 = .ok (.aload_n 0, 1) := by decide +kernel
theorem dL_law_740 : decode cL_law 740 = .ok (.iload_n 3, 1) := by decide +kernel
theorem dL_law_741 : decode cL_law 741 = .ok (.iconst 1, 1) := by decide +kernel
theorem dL_law_742 : decode cL_law 742 = .ok (.iadd, 1) := by decide +kernel
theorem dL_law_743 : decode cL_law 743 = .ok (.iaload, 1) := by decide +kernel
theorem dL_law_744 : decode cL_law 744 = .ok (.invokevirtual 105, 3) := by decide +kernel
theorem dL_law_747 : decode cL_law 747 = .ok (.aload_n 2, 1) := by decide +kernel
theorem dL_law_748 : decode cL_law 748 = .ok (.aload_n 0, 1) := by decide +kernel
theorem dL_law_749 : decode cL_law 749 = .ok (.iload_n 3, 1) := by decide +kernel
theorem dL_law_750 : decode cL_law 750 = .ok (.iconst 1, 1) := by decide +kernel
theorem dL_law_751 : decode cL_law 751 = .ok (.iadd, 1) := by decide +kernel
theorem dL_law_752 : decode cL_law 752 = .ok (.iaload, 1) := by decide +kernel
theorem dL_law_753 : decode cL_law 753 = .ok (.invokevirtual 108, 3) := by decide +kernel
theorem dL_law_756 : decode cL_law 756 = .ok (.if_icmp .eq 169, 3) := by decide +kernel
theorem dL_law_759 : decode cL_law 759 = .ok (.iconst 0, 1) := by decide +kernel
theorem dL_law_760 : decode cL_law 760 = .ok (.ireturn, 1) := by decide +kernel
theorem dL_law_761 : decode cL_law 761 = .ok (.aload_n 1, 1) := by decide +kernel
theorem dL_law_762 : decode cL_law 762 = .ok (.aload_n 0, 1) := by decide +kernel
theorem dL_law_763 : decode cL_law 763 = .ok (.iload_n 3, 1) := by decide +kernel
theorem dL_law_764 : decode cL_law 764 = .ok (.iconst 1, 1) := by decide +kernel
theorem dL_law_765 : decode cL_law 765 = .ok (.iadd, 1) := by decide +kernel
theorem dL_law_766 : decode cL_law 766 = .ok (.iaload, 1) := by decide +kernel
theorem dL_law_767 : decode cL_law 767 = .ok (.invokevirtual 109, 3) := by decide +kernel
theorem dL_law_770 : decode cL_law 770 = .ok (.aload_n 2, 1) := by decide +kernel
theorem dL_law_771 : decode cL_law 771 = .ok (.aload_n 0, 1) := by decide +kernel
theorem dL_law_772 : decode cL_law 772 = .ok (.iload_n 3, 1) := by decide +kernel
theorem dL_law_773 : decode cL_law 773 = .ok (.iconst 1, 1) := by decide +kernel
theorem dL_law_774 : decode cL_law 774 = .ok (.iadd, 1) := by decide +kernel
theorem dL_law_775 : decode cL_law 775 = .ok (.iaload, 1) := by decide +kernel
theorem dL_law_776 : decode cL_law 776 = .ok (.invokevirtual 112, 3) := by decide +kernel
theorem dL_law_779 : decode cL_law 779 = .ok (.if_icmp .eq 146, 3) := by decide +kernel
theorem dL_law_782 : decode cL_law 782 = .ok (.iconst 0, 1) := by decide +kernel
theorem dL_law_783 : decode cL_law 783 = .ok (.ireturn, 1) := by decide +kernel
theorem dL_law_784 : decode cL_law 784 = .ok (.aload_n 1, 1) := by decide +kernel
theorem dL_law_785 : decode cL_law 785 = .ok (.aload_n 0, 1) := by decide +kernel
theorem dL_law_786 : decode cL_law 786 = .ok (.iload_n 3, 1) := by decide +kernel
theorem dL_law_787 : decode cL_law 787 = .ok (.iconst 1, 1) := by decide +kernel
theorem dL_law_788 : decode cL_law 788 = .ok (.iadd, 1) := by decide +kernel
theorem dL_law_789 : decode cL_law 789 = .ok (.iaload, 1) := by decide +kernel
theorem dL_law_790 : decode cL_law 790 = .ok (.invokevirtual 113, 3) := by decide +kernel
theorem dL_law_793 : decode cL_law 793 = .ok (.aload_n 2, 1) := by decide +kernel
theorem dL_law_794 : decode cL_law 794 = .ok (.aload_n 0, 1) := by decide +kernel
theorem dL_law_795 : decode cL_law 795 = .ok (.iload_n 3, 1) := by decide +kernel
theorem dL_law_796 : decode cL_law 796 = .ok (.iconst 1, 1) := by decide +kernel
theorem dL_law_797 : decode cL_law 797 = .ok (.iadd, 1) := by decide +kernel
theorem dL_law_798 : decode cL_law 798 = .ok (.iaload, 1) := by decide +kernel
theorem dL_law_799 : decode cL_law 799 = .ok (.invokevirtual 116, 3) := by decide +kernel
theorem dL_law_802 : decode cL_law 802 = .ok (.if_icmp .eq 123, 3) := by decide +kernel
theorem dL_law_805 : decode cL_law 805 = .ok (.iconst 0, 1) := by decide +kernel
theorem dL_law_806 : decode cL_law 806 = .ok (.ireturn, 1) := by decide +kernel
theorem dL_law_807 : decode cL_law 807 = .ok (.aload_n 1, 1) := by decide +kernel
theorem dL_law_808 : decode cL_law 808 = .ok (.aload_n 0, 1) := by decide +kernel
theorem dL_law_809 : decode cL_law 809 = .ok (.iload_n 3, 1) := by decide +kernel
theorem dL_law_810 : decode cL_law 810 = .ok (.iconst 1, 1) := by decide +kernel
theorem dL_law_811 : decode cL_law 811 = .ok (.iadd, 1) := by decide +kernel
theorem dL_law_812 : decode cL_law 812 = .ok (.iaload, 1) := by decide +kernel
theorem dL_law_813 : decode cL_law 813 = .ok (.invokevirtual 117, 3) := by decide +kernel
theorem dL_law_816 : decode cL_law 816 = .ok (.aload_n 2, 1) := by decide +kernel
theorem dL_law_817 : decode cL_law 817 = .ok (.aload_n 0, 1) := by decide +kernel
theorem dL_law_818 : decode cL_law 818 = .ok (.iload_n 3, 1) := by decide +kernel
theorem dL_law_819 : decode cL_law 819 = .ok (.iconst 1, 1) := by decide +kernel
theorem dL_law_820 : decode cL_law 820 = .ok (.iadd, 1) := by decide +kernel
theorem dL_law_821 : decode cL_law 821 = .ok (.iaload, 1) := by decide +kernel
theorem dL_law_822 : decode cL_law 822 = .ok (.invokevirtual 120, 3) := by decide +kernel
theorem dL_law_825 : decode cL_law 825 = .ok (.if_icmp .eq 100, 3) := by decide +kernel
theorem dL_law_828 : decode cL_law 828 = .ok (.iconst 0, 1) := by decide +kernel
theorem dL_law_829 : decode cL_law 829 = .ok (.ireturn, 1) := by decide +kernel
theorem dL_law_830 : decode cL_law 830 = .ok (.aload_n 1, 1) := by decide +kernel
theorem dL_law_831 : decode cL_law 831 = .ok (.invokevirtual 121, 3) := by decide +kernel
theorem dL_law_834 : decode cL_law 834 = .ok (.aload_n 2, 1) := by decide +kernel
theorem dL_law_835 : decode cL_law 835 = .ok (.invokevirtual 124, 3) := by decide +kernel
theorem dL_law_838 : decode cL_law 838 = .ok (.if_icmp .eq 87, 3) := by decide +kernel
theorem dL_law_841 : decode cL_law 841 = .ok (.iconst 0, 1) := by decide +kernel
theorem dL_law_842 : decode cL_law 842 = .ok (.ireturn, 1) := by decide +kernel
theorem dL_law_843 : decode cL_law 843 = .ok (.aload_n 1, 1) := by decide +kernel
theorem dL_law_844 : decode cL_law 844 = .ok (.aload_n 0, 1) := by decide +kernel
theorem dL_law_845 : decode cL_law 845 = .ok (.iload_n 3, 1) := by decide +kernel
theorem dL_law_846 : decode cL_law 846 = .ok (.iconst 1, 1) := by decide +kernel
theorem dL_law_847 : decode cL_law 847 = .ok (.iadd, 1) := by decide +kernel
theorem dL_law_848 : decode cL_law 848 = .ok (.iaload, 1) := by decide +kernel
theorem dL_law_849 : decode cL_law 849 = .ok (.aload_n 0, 1) := by decide +kernel
theorem dL_law_850 : decode cL_law 850 = .ok (.iload_n 3, 1) := by decide +kernel
theorem dL_law_851 : decode cL_law 851 = .ok (.iconst 2, 1) := by decide +kernel
theorem dL_law_852 : decode cL_law 852 = .ok (.iadd, 1) := by decide +kernel
theorem dL_law_853 : decode cL_law 853 = .ok (.iaload, 1) := by decide +kernel
theorem dL_law_854 : decode cL_law 854 = .ok (.invokevirtual 125, 3) := by decide +kernel
theorem dL_law_857 : decode cL_law 857 = .ok (.aload_n 2, 1) := by decide +kernel
theorem dL_law_858 : decode cL_law 858 = .ok (.aload_n 0, 1) := by decide +kernel
theorem dL_law_859 : decode cL_law 859 = .ok (.iload_n 3, 1) := by decide +kernel
theorem dL_law_860 : decode cL_law 860 = .ok (.iconst 1, 1) := by decide +kernel
theorem dL_law_861 : decode cL_law 861 = .ok (.iadd, 1) := by decide +kernel
theorem dL_law_862 : decode cL_law 862 = .ok (.iaload, 1) := by decide +kernel
theorem dL_law_863 : decode cL_law 863 = .ok (.aload_n 0, 1) := by decide +kernel
theorem dL_law_864 : decode cL_law 864 = .ok (.iload_n 3, 1) := by decide +kernel
theorem dL_law_865 : decode cL_law 865 = .ok (.iconst 2, 1) := by decide +kernel
theorem dL_law_866 : decode cL_law 866 = .ok (.iadd, 1) := by decide +kernel
theorem dL_law_867 : decode cL_law 867 = .ok (.iaload, 1) := by decide +kernel
theorem dL_law_868 : decode cL_law 868 = .ok (.invokevirtual 128, 3) := by decide +kernel
theorem dL_law_871 : decode cL_law 871 = .ok (.if_icmp .eq 54, 3) := by decide +kernel
theorem dL_law_874 : decode cL_law 874 = .ok (.iconst 0, 1) := by decide +kernel
theorem dL_law_875 : decode cL_law 875 = .ok (.ireturn, 1) := by decide +kernel
theorem dL_law_876 : decode cL_law 876 = .ok (.aload_n 1, 1) := by decide +kernel
theorem dL_law_877 : decode cL_law 877 = .ok (.invokevirtual 129, 3) := by decide +kernel
theorem dL_law_880 : decode cL_law 880 = .ok (.aload_n 2, 1) := by decide +kernel
theorem dL_law_881 : decode cL_law 881 = .ok (.invokevirtual 132, 3) := by decide +kernel
theorem dL_law_884 : decode cL_law 884 = .ok (.if_icmp .eq 41, 3) := by decide +kernel
theorem dL_law_887 : decode cL_law 887 = .ok (.iconst 0, 1) := by decide +kernel
theorem dL_law_888 : decode cL_law 888 = .ok (.ireturn, 1) := by decide +kernel
theorem dL_law_889 : decode cL_law 889 = .ok (.aload_n 1, 1) := by decide +kernel
theorem dL_law_890 : decode cL_law 890 = .ok (.invokevirtual 133, 3) := by decide +kernel
theorem dL_law_893 : decode cL_law 893 = .ok (.aload_n 2, 1) := by decide +kernel
theorem dL_law_894 : decode cL_law 894 = .ok (.invokevirtual 136, 3) := by decide +kernel
theorem dL_law_897 : decode cL_law 897 = .ok (.if_icmp .eq 28, 3) := by decide +kernel
theorem dL_law_900 : decode cL_law 900 = .ok (.iconst 0, 1) := by decide +kernel
theorem dL_law_901 : decode cL_law 901 = .ok (.ireturn, 1) := by decide +kernel
theorem dL_law_902 : decode cL_law 902 = .ok (.aload_n 1, 1) := by decide +kernel
theorem dL_law_903 : decode cL_law 903 = .ok (.aload_n 0, 1) := by decide +kernel
theorem dL_law_904 : decode cL_law 904 = .ok (.iload_n 3, 1) := by decide +kernel
theorem dL_law_905 : decode cL_law 905 = .ok (.iconst 1, 1) := by decide +kernel
theorem dL_law_906 : decode cL_law 906 = .ok (.iadd, 1) := by decide +kernel
theorem dL_law_907 : decode cL_law 907 = .ok (.iaload, 1) := by decide +kernel
theorem dL_law_908 : decode cL_law 908 = .ok (.invokevirtual 137, 3) := by decide +kernel
theorem dL_law_911 : decode cL_law 911 = .ok (.aload_n 2, 1) := by decide +kernel
theorem dL_law_912 : decode cL_law 912 = .ok (.aload_n 0, 1) := by decide +kernel
theorem dL_law_913 : decode cL_law 913 = .ok (.iload_n 3, 1) := by decide +kernel
theorem dL_law_914 : decode cL_law 914 = .ok (.iconst 1, 1) := by decide +kernel
theorem dL_law_915 : decode cL_law 915 = .ok (.iadd, 1) := by decide +kernel
theorem dL_law_916 : decode cL_law 916 = .ok (.iaload, 1) := by decide +kernel
theorem dL_law_917 : decode cL_law 917 = .ok (.invokevirtual 140, 3) := by decide +kernel
theorem dL_law_920 : decode cL_law 920 = .ok (.if_icmp .eq 5, 3) := by decide +kernel
theorem dL_law_923 : decode cL_law 923 = .ok (.iconst 0, 1) := by decide +kernel
theorem dL_law_924 : decode cL_law 924 = .ok (.ireturn, 1) := by decide +kernel
theorem dL_law_925 : decode cL_law 925 = .ok (.iinc 3 4, 3) := by decide +kernel
theorem dL_law_928 : decode cL_law 928 = .ok (.goto (-910), 3) := by decide +kernel
theorem dL_law_931 : decode cL_law 931 = .ok (.iconst 1, 1) := by decide +kernel
theorem dL_law_932 : decode cL_law 932 = .ok (.ireturn, 1) := by decide +kernel
end
section
/-! A HEAP AS A PICTURE: two rows of cells; a reference in a picture is a number: below 100 a place of the first row, from 100 on of the second, 1000 + i a text, 2000 + i its bytes, 3000, 3001 the two tables, 4000 the script. ad tells where each lies. -/
abbrev zH : Type := List va_E × List va_E
def zv (ad : Nat → Nat) (v : Value) : Value := match v with
  | .ref i => .ref (ad i)
  | v => v
def ze (ad : Nat → Nat) (x : va_E) : va_E := match x with
  | .inl (c, n, .inl f) => .inl (c, n, .inl f)
  | .inl (c, n, .inr (.inl f)) => .inl (c, n, .inr (.inl f))
  | .inl (c, n, .inr (.inr (.inl f))) => .inl (c, n, .inr (.inr (.inl f)))
  | .inl (c, n, .inr (.inr (.inr (.inl f)))) => .inl (c, n, .inr (.inr (.inr (.inl f))))
  | .inl (c, n, .inr (.inr (.inr (.inr f)))) => .inl (c, n, .inr (.inr (.inr (.inr (fun j => (f j).map ad)))))
  | .inr (ci, fs) => .inr (ci, fs.map (zv ad))
def zl (ad : Nat → Nat) : Nat → List va_E → va_W
  | _, [] => []
  | b, x :: l => (ad b, ze ad x) :: zl ad (b + 1) l
def zw (ad : Nat → Nat) (h : zH) : va_W := zl ad 0 h.1 ++ zl ad 100 h.2
def zg (h : zH) (i : Nat) : Option va_E := if i < 100 then h.1[i]? else h.2[i - 100]?
def zs (h : zH) (i : Nat) (x : va_E) : zH := if i < 100 then (h.1.set i x, h.2) else (h.1, h.2.set (i - 100) x)
theorem zl_get (ad : Nat → Nat) : ∀ (l : List va_E) (b k : Nat) (x : va_E), l[k]? = some x → (zl ad b l)[k]? = some (ad (b + k), ze ad x)
  | [], _, k, _, h => by simp at h
  | y :: l, b, 0, x, h => by simp at h; subst h; rfl
  | y :: l, b, k + 1, x, h => by
    have h1 : l[k]? = some x := by simpa using h
    have := zl_get ad l (b + 1) k x h1
    show (zl ad (b + 1) l)[k]? = _
    rw [this]
    congr 3
    omega
theorem zl_len (ad : Nat → Nat) : ∀ (l : List va_E) (b : Nat), (zl ad b l).length = l.length
  | [], _ => rfl
  | y :: l, b => by show (zl ad (b + 1) l).length + 1 = _; rw [zl_len ad l (b + 1)]; rfl
theorem zl_set (ad : Nat → Nat) : ∀ (l : List va_E) (b k : Nat) (x : va_E), (zl ad b l).set k (ad (b + k), ze ad x) = zl ad b (l.set k x)
  | [], _, k, _ => by simp [zl]
  | y :: l, b, 0, x => rfl
  | y :: l, b, k + 1, x => by
    show (ad b, ze ad y) :: (zl ad (b + 1) l).set k (ad (b + (k + 1)), ze ad x) = (ad b, ze ad y) :: zl ad (b + 1) (l.set k x)
    rw [← zl_set ad l (b + 1) k x, show b + (k + 1) = b + 1 + k by omega]
theorem zw_look {ad : Nat → Nat} {h : zH} {i : Nat} {x : va_E} (hg : zg h i = some x) : ∃ q : Nat, (zw ad h)[q]? = some (ad i, ze ad x) ∧ ∀ y : va_E, (zw ad h).set q (ad i, ze ad y) = zw ad (zs h i y) := by
  unfold zg at hg
  unfold zs zw
  by_cases hi : i < 100
  · rw [if_pos hi] at hg
    have hl : i < h.1.length := (List.getElem?_eq_some_iff.mp hg).1
    refine ⟨i, ?_, fun y => ?_⟩
    · rw [List.getElem?_append_left (by rw [zl_len]; exact hl), zl_get ad _ 0 i x hg, Nat.zero_add]
    · rw [if_pos hi]
      show _ = zl ad 0 (h.1.set i y) ++ zl ad 100 h.2
      rw [List.set_append_left i _ (by rw [zl_len]; exact hl), ← zl_set ad h.1 0 i y, Nat.zero_add]
  · rw [if_neg hi] at hg
    have he : 100 + (i - 100) = i := by omega
    refine ⟨h.1.length + (i - 100), ?_, fun y => ?_⟩
    · rw [List.getElem?_append_right (by rw [zl_len]; omega), zl_len, Nat.add_sub_cancel_left, zl_get ad _ 100 (i - 100) x hg, he]
    · rw [if_neg hi]
      show _ = zl ad 0 h.1 ++ zl ad 100 (h.2.set (i - 100) y)
      rw [List.set_append_right _ _ (by rw [zl_len]; omega), zl_len, Nat.add_sub_cancel_left, ← zl_set ad h.2 100 (i - 100) y, he]
/-! what is given besides: the numbers of the array classes, the script -/
abbrev zG : Type := ClassId × ClassId × ClassId × Nat × (Nat → Int32)
def zT (G : zG) : List (ClassId × FieldType) := [(G.1, .int), (G.2.1, .char), (G.2.2.1, .object RX3)]
/-- the nest's words -/
def zN : List Cond := [.fieldLinkNest RX5 136 RX6 "LEAST" "[I" RX6, .fieldLinkNest RX5 140 RX6 "GREATEST" "[I" RX6]
def zNm : List (String × Nat × MethodName) := [(RX2, 99, yX6_held), (RX5, 143, yX6_outside)]
/-- statics: class, name, descriptor, what they hold -/
def zSt : List (String × String × String × Value) := [(RX6, "LEAST", "[I", .ref 3000), (RX6, "GREATEST", "[I", .ref 3001), (RJ0, "COMPACT_STRINGS", "Z", .int 1)]
def zLe : List Int32 := [-99, -20, -20, -9, 1, 0]
def zGr : List Int32 := [99, 20, 20, 9, 20, 9]
/-- int arrays that nobody writes -/
def zro (G : zG) (i : Nat) : Option (Nat × (Nat → Int32)) := if i = 3000 then some (6, fun j => zLe.getD j 0) else if i = 3001 then some (6, fun j => zGr.getD j 0) else if i = 4000 then some (G.2.2.2.1, G.2.2.2.2) else none
/-- the texts, by their places -/
def zTx : List (Nat × String) := [(35, ""), (113, "pdfmc"), (82, "swcju"), (151, "eokbl"), (23, "P#####;"), (25, "+##;"), (27, "#+##;"), (29, "D+#;"), (31, "R###;"), (33, "##;")]
def zBy : List (List Int32) := [[], [112, 100, 102, 109, 99], [115, 119, 99, 106, 117], [101, 111, 107, 98, 108], [80, 35, 35, 35, 35, 35, 59], [43, 35, 35, 59], [35, 43, 35, 35, 59], [68, 43, 35, 59], [82, 35, 35, 35, 59], [35, 35, 59]]
def zLn : List Nat := [0, 5, 5, 5, 7, 4, 5, 4, 5, 3]
def zE (G : zG) (ad : Nat → Nat) (A : Nat → Prop) (U : State) (H : Heap) : Prop :=
  (∀ w ∈ zN, va_Nw w U) ∧ (∀ q ∈ zNm, va_Nw (.methodLinkNest q.1 q.2.1 q.2.2 RX6) U) ∧ (∀ q ∈ zSt, va_Z q.1 q.2.1 q.2.2.1 (zv ad q.2.2.2) A U H) ∧ (∀ i n f, zro G i = some (n, f) → va_T .int (ad i) n (fun j => .int (f j)) A U H) ∧ vk_S 10 zLn zBy (fun i => ad (1000 + i)) (fun i => ad (2000 + i)) A U H ∧ (∀ (i k : Nat) (tx : String), zTx[i]? = some (k, tx) → vk_R RX5 k tx (ad (1000 + i)) U) ∧ (va_Z RJ3 "SIOOBE_FORMATTER" "Ljava/util/function/BiFunction;" .null A U H ∨ va_Z RJ3 "SIOOBE_FORMATTER" "Ljava/util/function/BiFunction;" (.ref (ad 5000)) A U H)
theorem zN_warm {s U : State} (hW : s.WarmedH U.vm) (h : ∀ w ∈ zN, va_Nw w s) : ∀ w ∈ zN, va_Nw w U := by
  intro w hw
  have := h w hw
  simp only [zN, List.mem_cons, List.not_mem_nil, or_false] at hw
  rcases hw with rfl | rfl <;> exact va_Nw.warmF hW this
theorem zN_same {s U : State} (hv : s.vm = U.vm) (h : ∀ w ∈ zN, va_Nw w s) : ∀ w ∈ zN, va_Nw w U := by
  intro w hw
  have := h w hw
  simp only [zN, List.mem_cons, List.not_mem_nil, or_false] at hw
  rcases hw with rfl | rfl <;> exact va_Nw.same rfl hv this
/-- from the caller to the callee's start -/
theorem zE.call {G : zG} {ad : Nat → Nat} {A B : Nat → Prop} {s U : State} {H : Heap} {locs : List Loc} (h : zE G ad A s s.heap) (hS : va_S A s.heap H locs) (hAB : ∀ q, B q → A q) (hU : U.heap = H) (hW : s.WarmedH U.vm) : zE G ad B U U.heap := by
  obtain ⟨h1, h2, h3, h4, h5, h6, h7⟩ := h
  have hk : ∀ a : Nat, a < s.heap.size → ¬ A a → U.heap[a]? = s.heap[a]? := fun a h1 h2 => by rw [hU]; exact hS.2.1 a h1 h2
  exact ⟨zN_warm hW h1, fun q hq => va_Nw.warmM hW (h2 q hq), fun q hq => (((h3 q hq).kept hk).narrow hAB).moved hW.alike, fun i n f hi => (((h4 i n f hi).kept hk).narrow hAB).moved hW.alike, ((h5.kept hk).narrow hAB).moved hW.alike, fun i k tx hi => (h6 i k tx hi).warm hW, h7.imp (fun z => ((z.kept hk).narrow hAB).moved hW.alike) (fun z => ((z.kept hk).narrow hAB).moved hW.alike)⟩
theorem zE.same {G : zG} {ad : Nat → Nat} {A : Nat → Prop} {s U : State} (h : zE G ad A s s.heap) (hv : U.vm = s.vm) (hH : U.heap = s.heap) : zE G ad A U U.heap := by
  obtain ⟨h1, h2, h3, h4, h5, h6, h7⟩ := h
  have ha : s.vm.Alike U.vm := by rw [hv]; exact Vm.Alike.refl _
  rw [hH]
  exact ⟨zN_same hv.symm h1, fun q hq => va_Nw.same rfl hv.symm (h2 q hq), fun q hq => (h3 q hq).moved ha, fun i n f hi => (h4 i n f hi).moved ha, h5.moved ha, fun i k tx hi => (h6 i k tx hi).same hv, h7.imp (fun z => z.moved ha) (fun z => z.moved ha)⟩
/-! a method: its name, its bytes, how many locals, what it answers, its room -/
abbrev zM : Type := MethodName × ByteArray × Nat × Option FieldType × Room
def zC (G : zG) (M : zM) (ad : Nat → Nat) (D : va_G) (A : Nat → Prop) (p : Program) (s : State) (m : MethodId) (args : Array Value) (c : Code) : Prop :=
  p.tables.exec = Jvm.exec ∧ c.code = M.2.1 ∧ c.maxLocals = M.2.2.1 ∧ s.vm.findClass M.1.cls = some m.cls ∧ (∀ w ∈ zAL, w.before args s = true) ∧ va_K D vwCl (zT G) s ∧ zE G ad A s s.heap ∧ ∀ q : Nat, s.heap.size ≤ q → A q
def zlo (ad : Nat → Nat) (loc : List (Nat × Value)) : List (Nat × Value) := loc.map (fun q => (q.1, zv ad q.2))
def zRet (M : zM) (pc : Nat) (r : Option Value) : Prop := match r with
  | none => decode M.2.1 pc = .ok (.return_, 1) ∧ M.2.2.2.1 = none
  | some (.int v) => decode M.2.1 pc = .ok (.ireturn, 1) ∧ ∃ ty, M.2.2.2.1 = some ty ∧ narrow ty (.int v) = .int v
  | some (.ref _) => decode M.2.1 pc = .ok (.areturn, 1) ∧ ∃ n, M.2.2.2.1 = some (.object n)
  | _ => False
def zFin (M : zM) (p : Program) (l : Launch) (e : Env) (s : State) (m : MethodId) (args : Array Value) (below : List Frame) (meth : Method) (c : Code) (ad : Nat → Nat) (D : va_G) (A : Nat → Prop) (K : State → Prop) (cells slots : Nat) (Q : Option Value → zH → Prop) : Prop :=
  ∀ (r : Option Value) (h : zH) (H : Heap) (locs : List Loc) (pc : Nat) (ls : Array Slot), Q r h → va_P D vwCl (zw ad h) H → va_D A (zw ad h) → va_S A s.heap H locs → zRet M pc r → W p l e M.2.2.2.2 s m args below meth c H locs cells slots K (F0 m pc ls (r.toList.map (zv ad)))
/-- from this place of the method, with these locals, this stack and this heap, it comes to an end that Q tells -/
def R (G : zG) (M : zM) (pc : Nat) (loc : List (Nat × Value)) (st : List Value) (h : zH) (Q : Option Value → zH → Prop) : Prop :=
  ∀ (p : Program) (l : Launch) (e : Env) (s : State) (m : MethodId) (args : Array Value) (below : List Frame) (meth : Method) (c : Code) (ad : Nat → Nat) (D : va_G) (A : Nat → Prop) (K : State → Prop) (cells slots : Nat),
    zC G M ad D A p s m args c → (cells ≤ M.2.2.2.2.cells ∧ slots ≤ M.2.2.2.2.slots) → zFin M p l e s m args below meth c ad D A K cells slots Q →
    ∀ (H : Heap) (locs : List Loc) (ls : Array Slot), va_P D vwCl (zw ad h) H → va_D A (zw ad h) → va_S A s.heap H locs → lv_has ls M.2.2.1 (zlo ad loc) → W p l e M.2.2.2.2 s m args below meth c H locs cells slots K (F0 m pc ls (st.map (zv ad)))
def zws (M : zM) : List Cond := .code M.1 M.2.1 M.2.2.1 M.2.2.2.1 :: zAL
def zPre (G : zG) (ad : Nat → Nat) (D : va_G) (sz : Nat) (h : zH) (U : State) : Prop := U.heap.size = sz ∧ va_P D vwCl (zw ad h) U.heap ∧ va_K D vwCl (zT G) U ∧ va_D (fun _ => True) (zw ad h) ∧ zE G ad (va_A (zw ad h) sz) U U.heap
def zQc (ad : Nat → Nat) (D : va_G) (sz : Nat) (h : zH) (Q : Option Value → zH → Prop) : Array Value → State → Outcome → State → Prop := fun _ st oc t => (∃ (r : Option Value) (h' : zH), oc = .returned (r.map (zv ad)) ∧ Q r h' ∧ va_P D vwCl (zw ad h') t.heap ∧ va_D (va_A (zw ad h) sz) (zw ad h')) ∧ va_F (va_A (zw ad h) sz) st t
/-- a call of the method M with as on h comes to an end that Q tells -/
def Ev (G : zG) (M : zM) (as : List Value) (h : zH) (Q : Option Value → zH → Prop) : Prop :=
  ∀ (l : Launch) (ad : Nat → Nat) (D : va_G) (sz : Nat), Met l M.1 (zws M) M.2.2.2.2 (va_Pc (as.map (zv ad)) (zPre G ad D sz h)) (zQc ad D sz h Q) 0 0 (va_A (zw ad h) sz)
def EvF (G : zG) (M : zM) (as : List Value) (h : zH) (r : Option Value) (h' : zH) : Prop := Ev G M as h (fun r0 h0 => r0 = r ∧ h0 = h')
theorem zv_cat (ad : Nat → Nat) (v : Value) : (zv ad v).category = v.category := by cases v <;> rfl
theorem lg_sl_len (ad : Nat → Nat) : ∀ as : List Value, (lg_sl (as.map (zv ad))).length = (lg_sl as).length
  | [] => rfl
  | v :: as => by
    have ih := lg_sl_len ad as
    unfold lg_sl at ih ⊢
    rw [List.map_cons, List.flatMap_cons, List.flatMap_cons, List.length_append, List.length_append, ih, zv_cat]
    by_cases hc : v.category = 2 <;> simp [hc]
theorem lv_args_map (ad : Nat → Nat) : ∀ (as : List Value) (i : Nat), lv_args i (as.map (zv ad)) = zlo ad (lv_args i as)
  | [], _ => rfl
  | v :: as, i => by
    show (i, zv ad v) :: lv_args (if (zv ad v).category = 2 then i + 2 else i + 1) (as.map (zv ad)) = (i, zv ad v) :: zlo ad (lv_args (if v.category = 2 then i + 2 else i + 1) as)
    rw [zv_cat, lv_args_map ad as]
theorem Ev.of {G : zG} {M : zM} {as : List Value} {h : zH} {Q : Option Value → zH → Prop} (hy : plainName M.1.cls = true) (hn : (lg_sl as).length ≤ M.2.2.1) (k : R G M 0 (lv_args 0 as) [] h Q) : Ev G M as h Q := by
  intro l ad D sz
  refine Met.ofW (cc := M.2.1) (maxL := M.2.2.1) (ret := M.2.2.2.1) hy rfl ?_
  intro p e s m args below meth c s₁ B hml hv
  obtain ⟨rfl, hsz, hP, hK, hD0, hE⟩ := hv
  have hts := atoms_spec (ws := zws M) B.pre
  have hown : s.vm.findClass M.1.cls = some m.cls := findClass_of_methodNamed B.named
  have hlocks := B.notSynchronized
  have hr := B.returns
  subst hsz
  have hD := hD0.self (sz := s.heap.size)
  rw [lg_entry_eq]
  have hl := lv_entry (as.map (zv ad)) (n := M.2.2.1) (by rw [lg_sl_len]; exact hn)
  rw [lv_args_map] at hl
  refine k p l e s m _ below meth c ad D (va_A (zw ad h) s.heap.size) _ 0 0 ⟨B.exec, B.bytes, hml, hown, fun w hw => hts w (List.mem_cons_of_mem _ hw), hK, hE, fun q hq => Or.inr hq⟩ ⟨Nat.zero_le _, Nat.zero_le _⟩ ?_ s.heap [] _ hP hD va_S.rf hl
  intro r h' H' locs' pc ls' hQ hP' hD' hS' hret
  cases r with
  | none => exact W.vret B.exec B.bytes (hr.trans hret.2) (fun t ht hW => ⟨⟨none, h', rfl, hQ, by rw [ht]; exact hP', hD'⟩, hS'.F ht⟩) hS'.2.2 hret.1
  | some v =>
    cases v with
    | int v =>
      obtain ⟨hd, ty, hty, hnar⟩ := hret
      exact W.zret B.exec B.bytes (hr.trans hty) hnar (fun t ht hW => ⟨⟨some (.int v), h', rfl, hQ, by rw [ht]; exact hP', hD'⟩, hS'.F ht⟩) hS'.2.2 hd
    | ref a =>
      obtain ⟨hd, n, hty⟩ := hret
      exact W.aret B.exec B.bytes (hr.trans hty) (Or.inl ⟨n, rfl⟩) (Or.inr ⟨_, rfl⟩) (fun t ht hW => ⟨⟨some (.ref a), h', rfl, hQ, by rw [ht]; exact hP', hD'⟩, hS'.F ht⟩) hS'.2.2 hd
    | _ => exact hret.elim
/-! locals -/
def zlk : List (Nat × Value) → Nat → Option Value
  | [], _ => none
  | q :: l, k => if q.1 = k then some q.2 else zlk l k
def zst : List (Nat × Value) → Nat → Value → List (Nat × Value)
  | [], k, v => [(k, v)]
  | q :: l, k, v => if q.1 = k then (k, v) :: l.filter (fun q => !(q.1 == k)) else q :: zst l k v
theorem zlk_mem : ∀ {l : List (Nat × Value)} {k : Nat} {v : Value}, zlk l k = some v → (k, v) ∈ l
  | [], _, _, h => by cases h
  | q :: l, k, v, h => by
    unfold zlk at h
    by_cases hk : q.1 = k
    · rw [if_pos hk] at h
      cases h
      subst hk
      exact List.mem_cons_self
    · rw [if_neg hk] at h
      exact List.mem_cons_of_mem _ (zlk_mem h)
theorem zst_mem : ∀ {l : List (Nat × Value)} {k : Nat} {v : Value} {q : Nat × Value}, q ∈ zst l k v → q = (k, v) ∨ (q ∈ l ∧ q.1 ≠ k)
  | [], k, v, q, h => by
    simp [zst] at h
    exact Or.inl h
  | p :: l, k, v, q, h => by
    unfold zst at h
    by_cases hk : p.1 = k
    · rw [if_pos hk] at h
      rcases List.mem_cons.mp h with h | h
      · exact Or.inl h
      · obtain ⟨h1, h2⟩ := List.mem_filter.mp h
        exact Or.inr ⟨List.mem_cons_of_mem _ h1, by simpa using h2⟩
    · rw [if_neg hk] at h
      rcases List.mem_cons.mp h with h | h
      · subst h
        exact Or.inr ⟨List.mem_cons_self, hk⟩
      · rcases zst_mem h with h | ⟨h1, h2⟩
        · exact Or.inl h
        · exact Or.inr ⟨List.mem_cons_of_mem _ h1, h2⟩
theorem zlo_at {ls : Array Slot} {nL : Nat} {ad : Nat → Nat} {loc : List (Nat × Value)} {k : Nat} {v : Value} (hl : lv_has ls nL (zlo ad loc)) (h : zlk loc k = some v) : ls[k]? = some (.val (zv ad v)) := hl.2.2 (k, zv ad v) (List.mem_map.mpr ⟨(k, v), zlk_mem h, rfl⟩)
theorem zlo_st {ls : Array Slot} {nL : Nat} {ad : Nat → Nat} {loc : List (Nat × Value)} {k : Nat} {v : Value} (hv : ∀ q ∈ loc, q.2.category = 1) (hl : lv_has ls nL ((k, zv ad v) :: (zlo ad loc).filter (fun q => !(q.1 == k) && !(q.1 + 1 == k && q.2.category == 2)))) : lv_has ls nL (zlo ad (zst loc k v)) := by
  refine ⟨hl.1, hl.2.1, fun q hq => ?_⟩
  obtain ⟨q0, h0, rfl⟩ := List.mem_map.mp hq
  rcases zst_mem h0 with rfl | ⟨h1, h2⟩
  · exact hl.2.2 _ List.mem_cons_self
  · refine hl.2.2 _ (List.mem_cons_of_mem _ (List.mem_filter.mpr ⟨List.mem_map.mpr ⟨q0, h1, rfl⟩, ?_⟩))
    have hc := hv q0 h1
    simp [h2, zv_cat, hc]
def zk1 : List (Nat × Value) → Bool
  | [] => true
  | q :: l => (match q.2 with | .int _ => true | .ref _ => true | .null => true | _ => false) && zk1 l
theorem zk1_spec : ∀ {l : List (Nat × Value)}, zk1 l = true → ∀ q ∈ l, q.2.category = 1
  | [], _, q, h => by cases h
  | p :: l, hk, q, h => by
    unfold zk1 at hk
    rw [Bool.and_eq_true] at hk
    rcases List.mem_cons.mp h with rfl | h
    · have := hk.1
      revert this
      cases q.2 <;> simp [Value.category]
    · exact zk1_spec hk.2 q h

section zR
variable {G : zG} {M : zM} {pc : Nat} {loc : List (Nat × Value)} {st : List Value} {h : zH} {Q : Option Value → zH → Prop}
theorem R_iconst (q : Nat) {n : Int} {v : Int32} (hd : decode M.2.1 pc = .ok (.iconst n, 1)) (hq : pc + 1 = q) (hv : Int32.ofInt n = v) (k : R G M q loc (.int v :: st) h Q) : R G M pc loc (st) h Q := by
  subst hq
  intro p l e s m args below meth c ad D A K cells slots C hr hf H locs ls hP hD hS hl
  exact lv_iconst C.1 C.2.1 hd hv (k p l e s m args below meth c ad D A K cells slots C hr hf H locs ls hP hD hS hl)
theorem R_bipush (q : Nat) {n : Int} {v : Int32} (hd : decode M.2.1 pc = .ok (.bipush n, 2)) (hq : pc + 2 = q) (hv : (Int8.ofInt n).toInt32 = v) (k : R G M q loc (.int v :: st) h Q) : R G M pc loc (st) h Q := by
  subst hq
  intro p l e s m args below meth c ad D A K cells slots C hr hf H locs ls hP hD hS hl
  exact lv_bipush C.1 C.2.1 hd hv (k p l e s m args below meth c ad D A K cells slots C hr hf H locs ls hP hD hS hl)
theorem R_sipush (q : Nat) {n : Int} {v : Int32} (hd : decode M.2.1 pc = .ok (.sipush n, 3)) (hq : pc + 3 = q) (hv : (Int16.ofInt n).toInt32 = v) (k : R G M q loc (.int v :: st) h Q) : R G M pc loc (st) h Q := by
  subst hq
  intro p l e s m args below meth c ad D A K cells slots C hr hf H locs ls hP hD hS hl
  exact lv_sipush C.1 C.2.1 hd hv (k p l e s m args below meth c ad D A K cells slots C hr hf H locs ls hP hD hS hl)
theorem R_iadd (q : Nat) {x y : Int32} (hd : decode M.2.1 pc = .ok (.iadd, 1)) (hq : pc + 1 = q) (k : R G M q loc (.int (x + y) :: st) h Q) : R G M pc loc (.int y :: .int x :: st) h Q := by
  subst hq
  intro p l e s m args below meth c ad D A K cells slots C hr hf H locs ls hP hD hS hl
  exact lv_iadd C.1 C.2.1 hd (k p l e s m args below meth c ad D A K cells slots C hr hf H locs ls hP hD hS hl)
theorem R_isub (q : Nat) {x y : Int32} (hd : decode M.2.1 pc = .ok (.isub, 1)) (hq : pc + 1 = q) (k : R G M q loc (.int (x - y) :: st) h Q) : R G M pc loc (.int y :: .int x :: st) h Q := by
  subst hq
  intro p l e s m args below meth c ad D A K cells slots C hr hf H locs ls hP hD hS hl
  exact lv_isub C.1 C.2.1 hd (k p l e s m args below meth c ad D A K cells slots C hr hf H locs ls hP hD hS hl)
theorem R_imul (q : Nat) {x y : Int32} (hd : decode M.2.1 pc = .ok (.imul, 1)) (hq : pc + 1 = q) (k : R G M q loc (.int (x * y) :: st) h Q) : R G M pc loc (.int y :: .int x :: st) h Q := by
  subst hq
  intro p l e s m args below meth c ad D A K cells slots C hr hf H locs ls hP hD hS hl
  exact lv_imul C.1 C.2.1 hd (k p l e s m args below meth c ad D A K cells slots C hr hf H locs ls hP hD hS hl)
theorem R_iand (q : Nat) {x y : Int32} (hd : decode M.2.1 pc = .ok (.iand, 1)) (hq : pc + 1 = q) (k : R G M q loc (.int (x &&& y) :: st) h Q) : R G M pc loc (.int y :: .int x :: st) h Q := by
  subst hq
  intro p l e s m args below meth c ad D A K cells slots C hr hf H locs ls hP hD hS hl
  exact lv_iand C.1 C.2.1 hd (k p l e s m args below meth c ad D A K cells slots C hr hf H locs ls hP hD hS hl)
theorem R_ior (q : Nat) {x y : Int32} (hd : decode M.2.1 pc = .ok (.ior, 1)) (hq : pc + 1 = q) (k : R G M q loc (.int (x ||| y) :: st) h Q) : R G M pc loc (.int y :: .int x :: st) h Q := by
  subst hq
  intro p l e s m args below meth c ad D A K cells slots C hr hf H locs ls hP hD hS hl
  exact lv_ior C.1 C.2.1 hd (k p l e s m args below meth c ad D A K cells slots C hr hf H locs ls hP hD hS hl)
theorem R_ishl (q : Nat) {x y : Int32} (hd : decode M.2.1 pc = .ok (.ishl, 1)) (hq : pc + 1 = q) (k : R G M q loc (.int (x <<< (y &&& 31)) :: st) h Q) : R G M pc loc (.int y :: .int x :: st) h Q := by
  subst hq
  intro p l e s m args below meth c ad D A K cells slots C hr hf H locs ls hP hD hS hl
  exact lv_ishl C.1 C.2.1 hd (k p l e s m args below meth c ad D A K cells slots C hr hf H locs ls hP hD hS hl)
theorem R_ishr (q : Nat) {x y : Int32} (hd : decode M.2.1 pc = .ok (.ishr, 1)) (hq : pc + 1 = q) (k : R G M q loc (.int (x >>> (y &&& 31)) :: st) h Q) : R G M pc loc (.int y :: .int x :: st) h Q := by
  subst hq
  intro p l e s m args below meth c ad D A K cells slots C hr hf H locs ls hP hD hS hl
  exact lv_ishr C.1 C.2.1 hd (k p l e s m args below meth c ad D A K cells slots C hr hf H locs ls hP hD hS hl)
theorem R_idiv (q : Nat) {x y : Int32} (hd : decode M.2.1 pc = .ok (.idiv, 1)) (hq : pc + 1 = q) (hne : ¬ y = 0) (k : R G M q loc (.int (x / y) :: st) h Q) : R G M pc loc (.int y :: .int x :: st) h Q := by
  subst hq
  intro p l e s m args below meth c ad D A K cells slots C hr hf H locs ls hP hD hS hl
  exact lv_idiv C.1 C.2.1 hd hne (k p l e s m args below meth c ad D A K cells slots C hr hf H locs ls hP hD hS hl)
theorem R_irem (q : Nat) {x y : Int32} (hd : decode M.2.1 pc = .ok (.irem, 1)) (hq : pc + 1 = q) (hne : ¬ y = 0) (k : R G M q loc (.int (x - x / y * y) :: st) h Q) : R G M pc loc (.int y :: .int x :: st) h Q := by
  subst hq
  intro p l e s m args below meth c ad D A K cells slots C hr hf H locs ls hP hD hS hl
  exact lv_irem C.1 C.2.1 hd hne (k p l e s m args below meth c ad D A K cells slots C hr hf H locs ls hP hD hS hl)
theorem R_ineg (q : Nat) {x : Int32} (hd : decode M.2.1 pc = .ok (.ineg, 1)) (hq : pc + 1 = q) (k : R G M q loc (.int (-x) :: st) h Q) : R G M pc loc (.int x :: st) h Q := by
  subst hq
  intro p l e s m args below meth c ad D A K cells slots C hr hf H locs ls hP hD hS hl
  exact lv_ineg C.1 C.2.1 hd (k p l e s m args below meth c ad D A K cells slots C hr hf H locs ls hP hD hS hl)
theorem R_i2c (q : Nat) {x : Int32} (hd : decode M.2.1 pc = .ok (.i2c, 1)) (hq : pc + 1 = q) (k : R G M q loc (.int (x.toUInt32 % 65536).toInt32 :: st) h Q) : R G M pc loc (.int x :: st) h Q := by
  subst hq
  intro p l e s m args below meth c ad D A K cells slots C hr hf H locs ls hP hD hS hl
  exact lv_i2c C.1 C.2.1 hd rfl (k p l e s m args below meth c ad D A K cells slots C hr hf H locs ls hP hD hS hl)
theorem R_i2b (q : Nat) {x : Int32} (hd : decode M.2.1 pc = .ok (.i2b, 1)) (hq : pc + 1 = q) (k : R G M q loc (.int x.toInt8.toInt32 :: st) h Q) : R G M pc loc (.int x :: st) h Q := by
  subst hq
  intro p l e s m args below meth c ad D A K cells slots C hr hf H locs ls hP hD hS hl
  exact lv_i2b C.1 C.2.1 hd rfl (k p l e s m args below meth c ad D A K cells slots C hr hf H locs ls hP hD hS hl)
theorem R_iushr (q : Nat) {x y : Int32} (hd : decode M.2.1 pc = .ok (.iushr, 1)) (hq : pc + 1 = q) (k : R G M q loc (.int (x.toUInt32 >>> (y.toUInt32 &&& Int32.toUInt32 31)).toInt32 :: st) h Q) : R G M pc loc (.int y :: .int x :: st) h Q := by
  subst hq
  intro p l e s m args below meth c ad D A K cells slots C hr hf H locs ls hP hD hS hl
  exact lv_iushr C.1 C.2.1 hd rfl (k p l e s m args below meth c ad D A K cells slots C hr hf H locs ls hP hD hS hl)
theorem R_dup (q : Nat) {v : Value} (hd : decode M.2.1 pc = .ok (.dup, 1)) (hq : pc + 1 = q) (hv : v.category = 1) (k : R G M q loc (v :: v :: st) h Q) : R G M pc loc (v :: st) h Q := by
  subst hq
  intro p l e s m args below meth c ad D A K cells slots C hr hf H locs ls hP hD hS hl
  exact lv_dup C.1 C.2.1 hd ((zv_cat _ _).trans hv) (k p l e s m args below meth c ad D A K cells slots C hr hf H locs ls hP hD hS hl)
theorem R_pop (q : Nat) {v : Value} (hd : decode M.2.1 pc = .ok (.pop, 1)) (hq : pc + 1 = q) (hv : v.category = 1) (k : R G M q loc (st) h Q) : R G M pc loc (v :: st) h Q := by
  subst hq
  intro p l e s m args below meth c ad D A K cells slots C hr hf H locs ls hP hD hS hl
  exact lv_pop C.1 C.2.1 hd ((zv_cat _ _).trans hv) (k p l e s m args below meth c ad D A K cells slots C hr hf H locs ls hP hD hS hl)
theorem R_dup2 (q : Nat) {v u : Value} (hd : decode M.2.1 pc = .ok (.dup2, 1)) (hq : pc + 1 = q) (hv : v.category = 1) (hu : u.category = 1) (k : R G M q loc (v :: u :: v :: u :: st) h Q) : R G M pc loc (v :: u :: st) h Q := by
  subst hq
  intro p l e s m args below meth c ad D A K cells slots C hr hf H locs ls hP hD hS hl
  exact lv_dup2_11 C.1 C.2.1 hd ((zv_cat _ _).trans hv) ((zv_cat _ _).trans hu) (k p l e s m args below meth c ad D A K cells slots C hr hf H locs ls hP hD hS hl)
theorem R_dup_x1 (q : Nat) {v u : Value} (hd : decode M.2.1 pc = .ok (.dup_x1, 1)) (hq : pc + 1 = q) (hv : v.category = 1) (hu : u.category = 1) (k : R G M q loc (v :: u :: v :: st) h Q) : R G M pc loc (v :: u :: st) h Q := by
  subst hq
  intro p l e s m args below meth c ad D A K cells slots C hr hf H locs ls hP hD hS hl
  exact lv_dup_x1 C.1 C.2.1 hd ((zv_cat _ _).trans hv) ((zv_cat _ _).trans hu) (k p l e s m args below meth c ad D A K cells slots C hr hf H locs ls hP hD hS hl)
theorem R_ldc (q : Nat) {i : Nat} {v : Int32} (hd : decode M.2.1 pc = .ok (.ldc i, 2)) (hq : pc + 2 = q) (hw : Cond.constant M.1.cls i v ∈ zAL) (k : R G M q loc (.int v :: st) h Q) : R G M pc loc st h Q := by
  subst hq
  intro p l e s m args below meth c ad D A K cells slots C hr hf H locs ls hP hD hS hl
  exact lv_ldc C.1 C.2.1 C.2.2.2.1 (C.2.2.2.2.1 _ hw) hd (k p l e s m args below meth c ad D A K cells slots C hr hf H locs ls hP hD hS hl)
theorem R_ldc_w (q : Nat) {i : Nat} {v : Int32} (hd : decode M.2.1 pc = .ok (.ldc_w i, 3)) (hq : pc + 3 = q) (hw : Cond.constant M.1.cls i v ∈ zAL) (k : R G M q loc (.int v :: st) h Q) : R G M pc loc st h Q := by
  subst hq
  intro p l e s m args below meth c ad D A K cells slots C hr hf H locs ls hP hD hS hl
  exact lv_ldcw C.1 C.2.1 C.2.2.2.1 (C.2.2.2.2.1 _ hw) hd (k p l e s m args below meth c ad D A K cells slots C hr hf H locs ls hP hD hS hl)
theorem R_ldcS (q : Nat) {i j : Nat} {tx : String} (hd : decode M.2.1 pc = .ok (.ldc i, 2)) (hq : pc + 2 = q) (hm : M.1.cls = RX5) (ht : zTx[j]? = some (i, tx)) (k : R G M q loc (.ref (1000 + j) :: st) h Q) : R G M pc loc st h Q := by
  subst hq
  intro p l e s m args below meth c ad D A K cells slots C hr hf H locs ls hP hD hS hl
  exact va_ldcS C.1 C.2.1 (hm ▸ C.2.2.2.1) (C.2.2.2.2.2.2.1.2.2.2.2.2.1 j i tx ht) hd (k p l e s m args below meth c ad D A K cells slots C hr hf H locs ls hP hD hS hl)
theorem R_iload_n (q : Nat) {n : Fin 4} {x : Int32} (hd : decode M.2.1 pc = .ok (.iload_n n, 1)) (hq : pc + 1 = q) (hv : zlk loc n.val = some (.int x)) (k : R G M q loc (.int x :: st) h Q) : R G M pc loc st h Q := by
  subst hq
  intro p l e s m args below meth c ad D A K cells slots C hr hf H locs ls hP hD hS hl
  exact lv_iload_n C.1 C.2.1 hd rfl (zlo_at hl hv) (k p l e s m args below meth c ad D A K cells slots C hr hf H locs ls hP hD hS hl)
theorem R_iload (q : Nat) {n : Nat} {x : Int32} (hd : decode M.2.1 pc = .ok (.iload n, 2)) (hq : pc + 2 = q) (hv : zlk loc n = some (.int x)) (k : R G M q loc (.int x :: st) h Q) : R G M pc loc st h Q := by
  subst hq
  intro p l e s m args below meth c ad D A K cells slots C hr hf H locs ls hP hD hS hl
  exact lv_iload C.1 C.2.1 hd (zlo_at hl hv) (k p l e s m args below meth c ad D A K cells slots C hr hf H locs ls hP hD hS hl)
theorem R_istore_n (q : Nat) {n : Fin 4} {x : Int32} (hd : decode M.2.1 pc = .ok (.istore_n n, 1)) (hq : pc + 1 = q) (hc : zk1 loc = true) (hn : n.val < M.2.2.1) {loc' : List (Nat × Value)} (hs : zst loc n.val (.int x) = loc') (k : R G M q loc' st h Q) : R G M pc loc (.int x :: st) h Q := by
  subst hq
  subst hs
  intro p l e s m args below meth c ad D A K cells slots C hr hf H locs ls hP hD hS hl
  exact lv_istore_n C.1 C.2.1 hd rfl hl hn rfl (fun ls' hl' => k p l e s m args below meth c ad D A K cells slots C hr hf H locs ls' hP hD hS (zlo_st (zk1_spec hc) hl'))
theorem R_istore (q : Nat) {n : Nat} {x : Int32} (hd : decode M.2.1 pc = .ok (.istore n, 2)) (hq : pc + 2 = q) (hc : zk1 loc = true) (hn : n < M.2.2.1) {loc' : List (Nat × Value)} (hs : zst loc n (.int x) = loc') (k : R G M q loc' st h Q) : R G M pc loc (.int x :: st) h Q := by
  subst hq
  subst hs
  intro p l e s m args below meth c ad D A K cells slots C hr hf H locs ls hP hD hS hl
  exact lv_istore C.1 C.2.1 hd hl hn rfl (fun ls' hl' => k p l e s m args below meth c ad D A K cells slots C hr hf H locs ls' hP hD hS (zlo_st (zk1_spec hc) hl'))
theorem R_aload_n (q : Nat) {n : Fin 4} {x : Nat} (hd : decode M.2.1 pc = .ok (.aload_n n, 1)) (hq : pc + 1 = q) (hv : zlk loc n.val = some (.ref x)) (k : R G M q loc (.ref x :: st) h Q) : R G M pc loc st h Q := by
  subst hq
  intro p l e s m args below meth c ad D A K cells slots C hr hf H locs ls hP hD hS hl
  exact lv_aload_n C.1 C.2.1 hd rfl (zlo_at hl hv) (k p l e s m args below meth c ad D A K cells slots C hr hf H locs ls hP hD hS hl)
theorem R_aload (q : Nat) {n : Nat} {x : Nat} (hd : decode M.2.1 pc = .ok (.aload n, 2)) (hq : pc + 2 = q) (hv : zlk loc n = some (.ref x)) (k : R G M q loc (.ref x :: st) h Q) : R G M pc loc st h Q := by
  subst hq
  intro p l e s m args below meth c ad D A K cells slots C hr hf H locs ls hP hD hS hl
  exact lv_aload C.1 C.2.1 hd (zlo_at hl hv) (k p l e s m args below meth c ad D A K cells slots C hr hf H locs ls hP hD hS hl)
theorem R_astore_n (q : Nat) {n : Fin 4} {x : Nat} (hd : decode M.2.1 pc = .ok (.astore_n n, 1)) (hq : pc + 1 = q) (hc : zk1 loc = true) (hn : n.val < M.2.2.1) {loc' : List (Nat × Value)} (hs : zst loc n.val (.ref x) = loc') (k : R G M q loc' st h Q) : R G M pc loc (.ref x :: st) h Q := by
  subst hq
  subst hs
  intro p l e s m args below meth c ad D A K cells slots C hr hf H locs ls hP hD hS hl
  exact lv_astore_n C.1 C.2.1 hd rfl hl hn rfl (fun ls' hl' => k p l e s m args below meth c ad D A K cells slots C hr hf H locs ls' hP hD hS (zlo_st (zk1_spec hc) hl'))
theorem R_astore (q : Nat) {n : Nat} {x : Nat} (hd : decode M.2.1 pc = .ok (.astore n, 2)) (hq : pc + 2 = q) (hc : zk1 loc = true) (hn : n < M.2.2.1) {loc' : List (Nat × Value)} (hs : zst loc n (.ref x) = loc') (k : R G M q loc' st h Q) : R G M pc loc (.ref x :: st) h Q := by
  subst hq
  subst hs
  intro p l e s m args below meth c ad D A K cells slots C hr hf H locs ls hP hD hS hl
  exact lv_astore C.1 C.2.1 hd hl hn rfl (fun ls' hl' => k p l e s m args below meth c ad D A K cells slots C hr hf H locs ls' hP hD hS (zlo_st (zk1_spec hc) hl'))
theorem R_iinc (q : Nat) {n : Nat} {i : Int} {x v : Int32} (hd : decode M.2.1 pc = .ok (.iinc n i, 3)) (hq : pc + 3 = q) (hv : zlk loc n = some (.int x)) (hx : x + Int32.ofInt i = v) (hc : zk1 loc = true) (hn : n < M.2.2.1) {loc' : List (Nat × Value)} (hs : zst loc n (.int v) = loc') (k : R G M q loc' st h Q) : R G M pc loc st h Q := by
  subst hq
  subst hs
  intro p l e s m args below meth c ad D A K cells slots C hr hf H locs ls hP hD hS hl
  have hm : (n, Value.int x) ∈ zlo ad loc := List.mem_map.mpr ⟨(n, .int x), zlk_mem hv, rfl⟩
  obtain ⟨j, hj⟩ := List.getElem?_of_mem hm
  exact lv_iinc C.1 C.2.1 hd hl hj hx hn rfl (fun ls' hl' => k p l e s m args below meth c ad D A K cells slots C hr hf H locs ls' hP hD hS (zlo_st (v := .int v) (zk1_spec hc) hl'))
theorem R_if_eq (q t : Nat) {x : Int32} {off : Int} (hd : decode M.2.1 pc = .ok (.ifCond .eq off, 3)) (hq : pc + 3 = q) (ht : (pc : Int) + off = (t : Int)) (kt : x = 0 → R G M t loc st h Q) (kf : ¬ x = 0 → R G M q loc st h Q) : R G M pc loc (.int x :: st) h Q := by
  subst hq
  intro p l e s m args below meth c ad D A K cells slots C hr hf H locs ls hP hD hS hl
  exact lv_if_eq C.1 C.2.1 hd ht (fun hc => kt hc p l e s m args below meth c ad D A K cells slots C hr hf H locs ls hP hD hS hl) (fun hc => kf hc p l e s m args below meth c ad D A K cells slots C hr hf H locs ls hP hD hS hl)
theorem R_icmp_eq (q t : Nat) {x y : Int32} {off : Int} (hd : decode M.2.1 pc = .ok (.if_icmp .eq off, 3)) (hq : pc + 3 = q) (ht : (pc : Int) + off = (t : Int)) (kt : x = y → R G M t loc st h Q) (kf : ¬ x = y → R G M q loc st h Q) : R G M pc loc (.int y :: .int x :: st) h Q := by
  subst hq
  intro p l e s m args below meth c ad D A K cells slots C hr hf H locs ls hP hD hS hl
  exact lv_icmp_eq C.1 C.2.1 hd ht (fun hc => kt hc p l e s m args below meth c ad D A K cells slots C hr hf H locs ls hP hD hS hl) (fun hc => kf hc p l e s m args below meth c ad D A K cells slots C hr hf H locs ls hP hD hS hl)
theorem R_if_ne (q t : Nat) {x : Int32} {off : Int} (hd : decode M.2.1 pc = .ok (.ifCond .ne off, 3)) (hq : pc + 3 = q) (ht : (pc : Int) + off = (t : Int)) (kt : ¬ x = 0 → R G M t loc st h Q) (kf : x = 0 → R G M q loc st h Q) : R G M pc loc (.int x :: st) h Q := by
  subst hq
  intro p l e s m args below meth c ad D A K cells slots C hr hf H locs ls hP hD hS hl
  exact lv_if_ne C.1 C.2.1 hd ht (fun hc => kt hc p l e s m args below meth c ad D A K cells slots C hr hf H locs ls hP hD hS hl) (fun hc => kf hc p l e s m args below meth c ad D A K cells slots C hr hf H locs ls hP hD hS hl)
theorem R_icmp_ne (q t : Nat) {x y : Int32} {off : Int} (hd : decode M.2.1 pc = .ok (.if_icmp .ne off, 3)) (hq : pc + 3 = q) (ht : (pc : Int) + off = (t : Int)) (kt : ¬ x = y → R G M t loc st h Q) (kf : x = y → R G M q loc st h Q) : R G M pc loc (.int y :: .int x :: st) h Q := by
  subst hq
  intro p l e s m args below meth c ad D A K cells slots C hr hf H locs ls hP hD hS hl
  exact lv_icmp_ne C.1 C.2.1 hd ht (fun hc => kt hc p l e s m args below meth c ad D A K cells slots C hr hf H locs ls hP hD hS hl) (fun hc => kf hc p l e s m args below meth c ad D A K cells slots C hr hf H locs ls hP hD hS hl)
theorem R_if_lt (q t : Nat) {x : Int32} {off : Int} (hd : decode M.2.1 pc = .ok (.ifCond .lt off, 3)) (hq : pc + 3 = q) (ht : (pc : Int) + off = (t : Int)) (kt : x < 0 → R G M t loc st h Q) (kf : ¬ x < 0 → R G M q loc st h Q) : R G M pc loc (.int x :: st) h Q := by
  subst hq
  intro p l e s m args below meth c ad D A K cells slots C hr hf H locs ls hP hD hS hl
  exact lv_if_lt C.1 C.2.1 hd ht (fun hc => kt hc p l e s m args below meth c ad D A K cells slots C hr hf H locs ls hP hD hS hl) (fun hc => kf hc p l e s m args below meth c ad D A K cells slots C hr hf H locs ls hP hD hS hl)
theorem R_icmp_lt (q t : Nat) {x y : Int32} {off : Int} (hd : decode M.2.1 pc = .ok (.if_icmp .lt off, 3)) (hq : pc + 3 = q) (ht : (pc : Int) + off = (t : Int)) (kt : x < y → R G M t loc st h Q) (kf : ¬ x < y → R G M q loc st h Q) : R G M pc loc (.int y :: .int x :: st) h Q := by
  subst hq
  intro p l e s m args below meth c ad D A K cells slots C hr hf H locs ls hP hD hS hl
  exact lv_icmp_lt C.1 C.2.1 hd ht (fun hc => kt hc p l e s m args below meth c ad D A K cells slots C hr hf H locs ls hP hD hS hl) (fun hc => kf hc p l e s m args below meth c ad D A K cells slots C hr hf H locs ls hP hD hS hl)
theorem R_if_ge (q t : Nat) {x : Int32} {off : Int} (hd : decode M.2.1 pc = .ok (.ifCond .ge off, 3)) (hq : pc + 3 = q) (ht : (pc : Int) + off = (t : Int)) (kt : 0 ≤ x → R G M t loc st h Q) (kf : ¬ 0 ≤ x → R G M q loc st h Q) : R G M pc loc (.int x :: st) h Q := by
  subst hq
  intro p l e s m args below meth c ad D A K cells slots C hr hf H locs ls hP hD hS hl
  exact lv_if_ge C.1 C.2.1 hd ht (fun hc => kt hc p l e s m args below meth c ad D A K cells slots C hr hf H locs ls hP hD hS hl) (fun hc => kf hc p l e s m args below meth c ad D A K cells slots C hr hf H locs ls hP hD hS hl)
theorem R_icmp_ge (q t : Nat) {x y : Int32} {off : Int} (hd : decode M.2.1 pc = .ok (.if_icmp .ge off, 3)) (hq : pc + 3 = q) (ht : (pc : Int) + off = (t : Int)) (kt : y ≤ x → R G M t loc st h Q) (kf : ¬ y ≤ x → R G M q loc st h Q) : R G M pc loc (.int y :: .int x :: st) h Q := by
  subst hq
  intro p l e s m args below meth c ad D A K cells slots C hr hf H locs ls hP hD hS hl
  exact lv_icmp_ge C.1 C.2.1 hd ht (fun hc => kt hc p l e s m args below meth c ad D A K cells slots C hr hf H locs ls hP hD hS hl) (fun hc => kf hc p l e s m args below meth c ad D A K cells slots C hr hf H locs ls hP hD hS hl)
theorem R_if_gt (q t : Nat) {x : Int32} {off : Int} (hd : decode M.2.1 pc = .ok (.ifCond .gt off, 3)) (hq : pc + 3 = q) (ht : (pc : Int) + off = (t : Int)) (kt : 0 < x → R G M t loc st h Q) (kf : ¬ 0 < x → R G M q loc st h Q) : R G M pc loc (.int x :: st) h Q := by
  subst hq
  intro p l e s m args below meth c ad D A K cells slots C hr hf H locs ls hP hD hS hl
  exact lv_if_gt C.1 C.2.1 hd ht (fun hc => kt hc p l e s m args below meth c ad D A K cells slots C hr hf H locs ls hP hD hS hl) (fun hc => kf hc p l e s m args below meth c ad D A K cells slots C hr hf H locs ls hP hD hS hl)
theorem R_icmp_gt (q t : Nat) {x y : Int32} {off : Int} (hd : decode M.2.1 pc = .ok (.if_icmp .gt off, 3)) (hq : pc + 3 = q) (ht : (pc : Int) + off = (t : Int)) (kt : y < x → R G M t loc st h Q) (kf : ¬ y < x → R G M q loc st h Q) : R G M pc loc (.int y :: .int x :: st) h Q := by
  subst hq
  intro p l e s m args below meth c ad D A K cells slots C hr hf H locs ls hP hD hS hl
  exact lv_icmp_gt C.1 C.2.1 hd ht (fun hc => kt hc p l e s m args below meth c ad D A K cells slots C hr hf H locs ls hP hD hS hl) (fun hc => kf hc p l e s m args below meth c ad D A K cells slots C hr hf H locs ls hP hD hS hl)
theorem R_if_le (q t : Nat) {x : Int32} {off : Int} (hd : decode M.2.1 pc = .ok (.ifCond .le off, 3)) (hq : pc + 3 = q) (ht : (pc : Int) + off = (t : Int)) (kt : x ≤ 0 → R G M t loc st h Q) (kf : ¬ x ≤ 0 → R G M q loc st h Q) : R G M pc loc (.int x :: st) h Q := by
  subst hq
  intro p l e s m args below meth c ad D A K cells slots C hr hf H locs ls hP hD hS hl
  exact lv_if_le C.1 C.2.1 hd ht (fun hc => kt hc p l e s m args below meth c ad D A K cells slots C hr hf H locs ls hP hD hS hl) (fun hc => kf hc p l e s m args below meth c ad D A K cells slots C hr hf H locs ls hP hD hS hl)
theorem R_icmp_le (q t : Nat) {x y : Int32} {off : Int} (hd : decode M.2.1 pc = .ok (.if_icmp .le off, 3)) (hq : pc + 3 = q) (ht : (pc : Int) + off = (t : Int)) (kt : x ≤ y → R G M t loc st h Q) (kf : ¬ x ≤ y → R G M q loc st h Q) : R G M pc loc (.int y :: .int x :: st) h Q := by
  subst hq
  intro p l e s m args below meth c ad D A K cells slots C hr hf H locs ls hP hD hS hl
  exact lv_icmp_le C.1 C.2.1 hd ht (fun hc => kt hc p l e s m args below meth c ad D A K cells slots C hr hf H locs ls hP hD hS hl) (fun hc => kf hc p l e s m args below meth c ad D A K cells slots C hr hf H locs ls hP hD hS hl)
theorem R_goto (t : Nat) {off : Int} (hd : decode M.2.1 pc = .ok (.goto off, 3)) (ht : (pc : Int) + off = (t : Int)) (k : R G M t loc st h Q) : R G M pc loc st h Q := by
  intro p l e s m args below meth c ad D A K cells slots C hr hf H locs ls hP hD hS hl
  exact lv_goto C.1 C.2.1 hd ht (k p l e s m args below meth c ad D A K cells slots C hr hf H locs ls hP hD hS hl)
theorem R_lookup (t : Nat) {dflt off : Int} {ps : Array (Int × Int)} {len : Nat} {x : Int32} (hd : decode M.2.1 pc = .ok (.lookupswitch dflt ps, len)) (hp : (ps.toList.zip (ps.toList.drop 1)).all (fun (a, next) => a.1 < next.1) = true) (ho : Op.lookupswitch.offset ps.toList dflt x.toInt = off) (ht : (pc : Int) + off = (t : Int)) (k : R G M t loc st h Q) : R G M pc loc (.int x :: st) h Q := by
  intro p l e s m args below meth c ad D A K cells slots C hr hf H locs ls hP hD hS hl
  exact lv_lookup C.1 C.2.1 hd hp ho ht (k p l e s m args below meth c ad D A K cells slots C hr hf H locs ls hP hD hS hl)
theorem R_tableOut (t : Nat) {dflt lo hi : Int} {offs : Array Int} {len : Nat} {x : Int32} (hd : decode M.2.1 pc = .ok (.tableswitch dflt lo hi offs, len)) (hx : x.toInt < lo ∨ hi < x.toInt) (ht : (pc : Int) + dflt = (t : Int)) (k : R G M t loc st h Q) : R G M pc loc (.int x :: st) h Q := by
  intro p l e s m args below meth c ad D A K cells slots C hr hf H locs ls hP hD hS hl
  exact lv_tableOut C.1 C.2.1 hd hx ht (k p l e s m args below meth c ad D A K cells slots C hr hf H locs ls hP hD hS hl)
theorem R_tableIn (t : Nat) {dflt lo hi off : Int} {offs : Array Int} {len : Nat} {x : Int32} (hd : decode M.2.1 pc = .ok (.tableswitch dflt lo hi offs, len)) (h1 : ¬ x.toInt < lo) (h2 : ¬ hi < x.toInt) (ho : offs[(x.toInt - lo).toNat]? = some off) (ht : (pc : Int) + off = (t : Int)) (k : R G M t loc st h Q) : R G M pc loc (.int x :: st) h Q := by
  intro p l e s m args below meth c ad D A K cells slots C hr hf H locs ls hP hD hS hl
  exact lv_tableIn C.1 C.2.1 hd h1 h2 ho ht (k p l e s m args below meth c ad D A K cells slots C hr hf H locs ls hP hD hS hl)
theorem R_ireturn {v : Int32} {ty : FieldType} (hd : decode M.2.1 pc = .ok (.ireturn, 1)) (hr : M.2.2.2.1 = some ty) (hn : narrow ty (.int v) = .int v) (hQ : Q (some (.int v)) h) : R G M pc loc [.int v] h Q := by
  intro p l e s m args below meth c ad D A K cells slots C _ hf H locs ls hP hD hS hl
  exact hf (some (.int v)) h H locs pc ls hQ hP hD hS ⟨hd, ty, hr, hn⟩
theorem R_areturn {v : Nat} {n : String} (hd : decode M.2.1 pc = .ok (.areturn, 1)) (hr : M.2.2.2.1 = some (.object n)) (hQ : Q (some (.ref v)) h) : R G M pc loc [.ref v] h Q := by
  intro p l e s m args below meth c ad D A K cells slots C _ hf H locs ls hP hD hS hl
  exact hf (some (.ref v)) h H locs pc ls hQ hP hD hS ⟨hd, n, hr⟩
theorem R_return (hd : decode M.2.1 pc = .ok (.return_, 1)) (hr : M.2.2.2.1 = none) (hQ : Q none h) : R G M pc loc [] h Q := by
  intro p l e s m args below meth c ad D A K cells slots C _ hf H locs ls hP hD hS hl
  exact hf none h H locs pc ls hQ hP hD hS ⟨hd, hr⟩
/-- a field's link: in the pool of the class own, at idx, the k-th field of class number ci -/
def zF (own : String) (idx ci k : Nat) : Prop := ∃ (C : String) (T : u_T) (N : Nat) (ty : Nat → FieldType), vwCl[ci]? = some (C, T, N) ∧ k < N ∧ (∀ w ∈ u_ws C T N, w ∈ zAL) ∧ Cond.fieldLink own idx (T k).1 (T k).2.1 (T k).2.2.1 ∈ zAL ∧ (∀ j, j < N → parseFieldDescriptor (T j).2.2.1 = some (ty j)) ∧ (∀ a, a < N → ∀ b, b < N → a ≠ b → (T a).2.1 ≠ (T b).2.1)
/-- .. that may be written, of the type ty -/
def zFw (own : String) (idx ci k : Nat) (ty : FieldType) : Prop := ∃ (C : String) (T : u_T) (N : Nat) (tyf : Nat → FieldType), vwCl[ci]? = some (C, T, N) ∧ k < N ∧ (∀ w ∈ u_ws C T N, w ∈ zAL) ∧ Cond.fieldLink own idx (T k).1 (T k).2.1 (T k).2.2.1 ∈ zAL ∧ (∀ j, j < N → parseFieldDescriptor (T j).2.2.1 = some (tyf j)) ∧ (∀ a, a < N → ∀ b, b < N → a ≠ b → (T a).2.1 ≠ (T b).2.1) ∧ (T k).2.2.2 = false ∧ parseFieldDescriptor (T k).2.2.1 = some ty
theorem R_get (q : Nat) {idx ci j i : Nat} {fs : List Value} {v : Value} (hd : decode M.2.1 pc = .ok (.getfield idx, 3)) (hq : pc + 3 = q) (hF : zF M.1.cls idx ci j) (hg : zg h i = some (.inr (ci, fs))) (hv : fs[j]? = some v) (k : R G M q loc (v :: st) h Q) : R G M pc loc (.ref i :: st) h Q := by
  subst hq
  obtain ⟨C1, T, N, ty, hc, hk, hin, hlk, -, -⟩ := hF
  intro p l e s m args below meth c ad D A K cells slots C hr hf H locs ls hP hD hS hl
  obtain ⟨q0, hq0, -⟩ := zw_look (ad := ad) hg
  exact va_get C.1 C.2.1 C.2.2.2.2.1 hin C.2.2.2.1 C.2.2.2.2.2.1 hP q0 hq0 hc j hk (C.2.2.2.2.1 _ hlk) (fun _ h9 => h9) (v := zv ad v) (by rw [List.getElem?_map, hv]; rfl) hd (k p l e s m args below meth c ad D A K cells slots C hr hf H locs ls hP hD hS hl)
theorem zv_nar {ty : FieldType} {ad : Nat → Nat} {v : Value} (h : narrow ty v = v) : narrow ty (zv ad v) = zv ad v := by
  cases v <;> first | exact h | (cases ty <;> rfl)
theorem zv_fits {ty : FieldType} {ad : Nat → Nat} {v : Value} (h : fits ty v = true) : fits ty (zv ad v) = true := by
  cases v <;> first | exact h | (cases ty <;> first | exact h | rfl)
theorem R_put (q : Nat) {idx ci j i : Nat} {ty : FieldType} {fs : List Value} {v : Value} (hd : decode M.2.1 pc = .ok (.putfield idx, 3)) (hq : pc + 3 = q) (hF : zFw M.1.cls idx ci j ty) (hg : zg h i = some (.inr (ci, fs))) (hn : narrow ty v = v) (hfit : fits ty v = true) (hlen : j < fs.length) {h2 : zH} (he : zs h i (.inr (ci, fs.set j v)) = h2) (k : R G M q loc st h2 Q) : R G M pc loc (v :: .ref i :: st) h Q := by
  subst hq
  subst he
  obtain ⟨C1, T, N, tyf, hc, hk, hin, hlk, hty, hnm, hfin, hd1⟩ := hF
  intro p l e s m args below meth c ad D A K cells slots C hr hf H locs ls hP hD hS hl
  obtain ⟨q0, hq0, hs⟩ := zw_look (ad := ad) hg
  refine va_put C.1 C.2.1 C.2.2.2.2.1 hin tyf hty hnm C.2.2.2.1 C.2.2.2.2.2.1 hP hD hS q0 hq0 hc j hk (C.2.2.2.2.1 _ hlk) (fun _ h9 => h9) hfin (v := zv ad v) hd1 (zv_nar hn) (zv_fits hfit) (by rw [List.length_map]; exact hlen) hd (fun H1 locs1 hP1 hD1 hS1 => ?_)
  have he : (zw ad h).set q0 (ad i, .inr (ci, (fs.map (zv ad)).set j (zv ad v))) = zw ad (zs h i (.inr (ci, fs.set j v))) := by
    rw [← hs]
    show _ = (zw ad h).set q0 (ad i, .inr (ci, (fs.set j v).map (zv ad)))
    rw [List.map_set]
  rw [he] at hP1 hD1
  exact k p l e s m args below meth c ad D A K cells slots C hr hf H1 locs1 ls hP1 hD1 hS1 hl
theorem R_iald (q : Nat) {i n : Nat} {cA : ClassId} {f : Nat → Int32} {x : Int32} (hd : decode M.2.1 pc = .ok (.iaload, 1)) (hq : pc + 1 = q) (hg : zg h i = some (.inl (cA, n, .inl f))) (hc : cA = G.1) (hx : vp_in x n) (k : R G M q loc (.int (f x.toNatClampNeg) :: st) h Q) : R G M pc loc (.int x :: .ref i :: st) h Q := by
  subst hq
  subst hc
  intro p l e s m args below meth c ad D A K cells slots C hr hf H locs ls hP hD hS hl
  obtain ⟨q0, hq0, -⟩ := zw_look (ad := ad) hg
  exact va_iald C.1 C.2.1 C.2.2.2.2.2.1 hP q0 0 hq0 rfl hx hd (k p l e s m args below meth c ad D A K cells slots C hr hf H locs ls hP hD hS hl)
theorem R_cald (q : Nat) {i n : Nat} {cA : ClassId} {f : Nat → Int32} {x : Int32} (hd : decode M.2.1 pc = .ok (.caload, 1)) (hq : pc + 1 = q) (hg : zg h i = some (.inl (cA, n, .inl f))) (hc : cA = G.2.1) (hx : vp_in x n) (k : R G M q loc (.int (f x.toNatClampNeg) :: st) h Q) : R G M pc loc (.int x :: .ref i :: st) h Q := by
  subst hq
  subst hc
  intro p l e s m args below meth c ad D A K cells slots C hr hf H locs ls hP hD hS hl
  obtain ⟨q0, hq0, -⟩ := zw_look (ad := ad) hg
  exact va_cald C.1 C.2.1 C.2.2.2.2.2.1 hP q0 1 hq0 rfl hx hd (k p l e s m args below meth c ad D A K cells slots C hr hf H locs ls hP hD hS hl)
theorem R_aald (q : Nat) {i n y : Nat} {cA : ClassId} {f : Nat → Option Nat} {x : Int32} (hd : decode M.2.1 pc = .ok (.aaload, 1)) (hq : pc + 1 = q) (hg : zg h i = some (.inl (cA, n, .inr (.inr (.inr (.inr f)))))) (hc : cA = G.2.2.1) (hx : vp_in x n) (hy : f x.toNatClampNeg = some y) (k : R G M q loc (.ref y :: st) h Q) : R G M pc loc (.int x :: .ref i :: st) h Q := by
  subst hq
  subst hc
  intro p l e s m args below meth c ad D A K cells slots C hr hf H locs ls hP hD hS hl
  obtain ⟨q0, hq0, -⟩ := zw_look (ad := ad) hg
  have hq1 : (zw ad h)[q0]? = some (ad i, .inl (G.2.2.1, n, .inr (.inr (.inr (.inr (fun j => (f j).map ad)))))) := hq0
  refine va_aldq C.1 C.2.1 C.2.2.2.2.2.1 hP q0 2 hq1 rfl hx hd ?_
  rw [hy]
  exact k p l e s m args below meth c ad D A K cells slots C hr hf H locs ls hP hD hS hl
theorem R_iast (q : Nat) {i n : Nat} {cA : ClassId} {f : Nat → Int32} {x v : Int32} (hd : decode M.2.1 pc = .ok (.iastore, 1)) (hq : pc + 1 = q) (hg : zg h i = some (.inl (cA, n, .inl f))) (hc : cA = G.1) (hx : vp_in x n) {h2 : zH} (he : zs h i (.inl (cA, n, .inl (upd f x.toNatClampNeg v))) = h2) (k : R G M q loc st h2 Q) : R G M pc loc (.int v :: .int x :: .ref i :: st) h Q := by
  subst hq
  subst he
  subst hc
  intro p l e s m args below meth c ad D A K cells slots C hr hf H locs ls hP hD hS hl
  obtain ⟨q0, hq0, hs⟩ := zw_look (ad := ad) hg
  refine va_iast C.1 C.2.1 C.2.2.2.2.2.1 hP hD hS q0 0 hq0 rfl hx hd (fun H1 locs1 hP1 hD1 hS1 => ?_)
  have he := hs (.inl (G.1, n, .inl (upd f x.toNatClampNeg v)))
  exact k p l e s m args below meth c ad D A K cells slots C hr hf H1 locs1 ls (he ▸ hP1) (he ▸ hD1) hS1 hl
theorem R_cast (q : Nat) {i n : Nat} {cA : ClassId} {f : Nat → Int32} {x v : Int32} (hd : decode M.2.1 pc = .ok (.castore, 1)) (hq : pc + 1 = q) (hg : zg h i = some (.inl (cA, n, .inl f))) (hc : cA = G.2.1) (hx : vp_in x n) (k : R G M q loc st (zs h i (.inl (cA, n, .inl (upd f x.toNatClampNeg (vp_nar .char v))))) Q) : R G M pc loc (.int v :: .int x :: .ref i :: st) h Q := by
  subst hq
  subst hc
  intro p l e s m args below meth c ad D A K cells slots C hr hf H locs ls hP hD hS hl
  obtain ⟨q0, hq0, hs⟩ := zw_look (ad := ad) hg
  refine va_cast C.1 C.2.1 C.2.2.2.2.2.1 hP hD hS q0 1 hq0 rfl hx hd (fun H1 locs1 hP1 hD1 hS1 => ?_)
  have he := hs (.inl (G.2.1, n, .inl (upd f x.toNatClampNeg (vp_nar .char v))))
  exact k p l e s m args below meth c ad D A K cells slots C hr hf H1 locs1 ls (he ▸ hP1) (he ▸ hD1) hS1 hl
theorem R_alen (q : Nat) {i n : Nat} {cA : ClassId} {f : Nat → Int32} (hd : decode M.2.1 pc = .ok (.arraylength, 1)) (hq : pc + 1 = q) (hg : zg h i = some (.inl (cA, n, .inl f))) (hc : cA = G.1) (k : R G M q loc (.int (Int32.ofNat n) :: st) h Q) : R G M pc loc (.ref i :: st) h Q := by
  subst hq
  subst hc
  intro p l e s m args below meth c ad D A K cells slots C hr hf H locs ls hP hD hS hl
  obtain ⟨q0, hq0, -⟩ := zw_look (ad := ad) hg
  exact va_alen C.1 C.2.1 C.2.2.2.2.2.1 hP q0 0 hq0 rfl rfl hd (k p l e s m args below meth c ad D A K cells slots C hr hf H locs ls hP hD hS hl)
theorem R_iro (q : Nat) {i n : Nat} {f : Nat → Int32} {x : Int32} (hd : decode M.2.1 pc = .ok (.iaload, 1)) (hq : pc + 1 = q) (hg : zro G i = some (n, f)) (hx : vp_in x n) (k : R G M q loc (.int (f x.toNatClampNeg) :: st) h Q) : R G M pc loc (.int x :: .ref i :: st) h Q := by
  subst hq
  intro p l e s m args below meth c ad D A K cells slots C hr hf H locs ls hP hD hS hl
  exact va_ti C.1 C.2.1 (C.2.2.2.2.2.2.1.2.2.2.1 i n f hg) hS hx rfl hd (k p l e s m args below meth c ad D A K cells slots C hr hf H locs ls hP hD hS hl)
theorem R_rolen (q : Nat) {i n : Nat} {f : Nat → Int32} (hd : decode M.2.1 pc = .ok (.arraylength, 1)) (hq : pc + 1 = q) (hg : zro G i = some (n, f)) (k : R G M q loc (.int (Int32.ofNat n) :: st) h Q) : R G M pc loc (.ref i :: st) h Q := by
  subst hq
  intro p l e s m args below meth c ad D A K cells slots C hr hf H locs ls hP hD hS hl
  exact va_tlen C.1 C.2.1 (C.2.2.2.2.2.2.1.2.2.2.1 i n f hg) hS rfl hd (k p l e s m args below meth c ad D A K cells slots C hr hf H locs ls hP hD hS hl)
theorem R_gets (q : Nat) {idx j : Nat} {Cn nm ds : String} {v : Value} (hd : decode M.2.1 pc = .ok (.getstatic idx, 3)) (hq : pc + 3 = q) (hz : zSt[j]? = some (Cn, nm, ds, v)) (hw : Cond.fieldLink M.1.cls idx Cn nm ds ∈ zAL) (k : R G M q loc (v :: st) h Q) : R G M pc loc st h Q := by
  subst hq
  intro p l e s m args below meth c ad D A K cells slots C hr hf H locs ls hP hD hS hl
  exact va_gets C.1 C.2.1 (C.2.2.2.2.2.2.1.2.2.1 _ (List.mem_of_getElem? hz)) hS C.2.2.2.1 (C.2.2.2.2.1 _ hw) (fun _ h9 => h9) hd (k p l e s m args below meth c ad D A K cells slots C hr hf H locs ls hP hD hS hl)
theorem R_getsN (q : Nat) {idx j : Nat} {Cn nm ds : String} {v : Value} (hd : decode M.2.1 pc = .ok (.getstatic idx, 3)) (hq : pc + 3 = q) (hz : zSt[j]? = some (Cn, nm, ds, v)) (hw : Cond.fieldLinkNest M.1.cls idx Cn nm ds RX6 ∈ zN) (k : R G M q loc (v :: st) h Q) : R G M pc loc st h Q := by
  subst hq
  intro p l e s m args below meth c ad D A K cells slots C hr hf H locs ls hP hD hS hl
  exact va_getsN C.1 C.2.1 (C.2.2.2.2.2.2.1.2.2.1 _ (List.mem_of_getElem? hz)) hS C.2.2.2.1 (va_Nw.use rfl (C.2.2.2.2.2.2.1.1 _ hw)) (fun _ h9 => h9) hd (k p l e s m args below meth c ad D A K cells slots C hr hf H locs ls hP hD hS hl)
theorem R_getsQ (q : Nat) {idx : Nat} (hd : decode M.2.1 pc = .ok (.getstatic idx, 3)) (hq : pc + 3 = q) (hw : Cond.fieldLink M.1.cls idx RJ3 "SIOOBE_FORMATTER" "Ljava/util/function/BiFunction;" ∈ zAL) (k0 : R G M q loc (.null :: st) h Q) (k1 : R G M q loc (.ref 5000 :: st) h Q) : R G M pc loc st h Q := by
  subst hq
  intro p l e s m args below meth c ad D A K cells slots C hr hf H locs ls hP hD hS hl
  rcases C.2.2.2.2.2.2.1.2.2.2.2.2.2 with z | z
  · exact va_gets C.1 C.2.1 z hS C.2.2.2.1 (C.2.2.2.2.1 _ hw) (fun _ h9 => h9) hd (k0 p l e s m args below meth c ad D A K cells slots C hr hf H locs ls hP hD hS hl)
  · exact va_gets C.1 C.2.1 z hS C.2.2.2.1 (C.2.2.2.2.1 _ hw) (fun _ h9 => h9) hd (k1 p l e s m args below meth c ad D A K cells slots C hr hf H locs ls hP hD hS hl)
theorem R_h {h1 : zH} (he : h = h1) (k : R G M pc loc st h1 Q) : R G M pc loc st h Q := he ▸ k
theorem R_loc {loc1 : List (Nat × Value)} (he : loc = loc1) (k : R G M pc loc1 st h Q) : R G M pc loc st h Q := he ▸ k
theorem R_top {x y : Int32} (he : x = y) (k : R G M pc loc (.int y :: st) h Q) : R G M pc loc (.int x :: st) h Q := he ▸ k
theorem R_tableAt (t : Nat) {dflt lo hi off : Int} {offs : Array Int} {len : Nat} {x : Int32} (v : Int32) (hx : x = v) (hd : decode M.2.1 pc = .ok (.tableswitch dflt lo hi offs, len)) (hh : ¬ v.toInt < lo ∧ ¬ hi < v.toInt ∧ offs[(v.toInt - lo).toNat]? = some off) (ht : (pc : Int) + off = (t : Int)) (k : R G M t loc st h Q) : R G M pc loc (.int x :: st) h Q := by
  subst hx
  exact R_tableIn t hd hh.1 hh.2.1 hh.2.2 ht k
theorem R_lookAt (t : Nat) {dflt off : Int} {ps : Array (Int × Int)} {len : Nat} {x : Int32} (v : Int32) (hx : x = v) (hd : decode M.2.1 pc = .ok (.lookupswitch dflt ps, len)) (hp : (ps.toList.zip (ps.toList.drop 1)).all (fun (a, next) => a.1 < next.1) = true ∧ Op.lookupswitch.offset ps.toList dflt v.toInt = off) (ht : (pc : Int) + off = (t : Int)) (k : R G M t loc st h Q) : R G M pc loc (.int x :: st) h Q := by
  subst hx
  exact R_lookup t hd hp.1 hp.2 ht k
theorem R_bro (q : Nat) {i : Nat} {x : Int32} (hd : decode M.2.1 pc = .ok (.baload, 1)) (hq : pc + 1 = q) (hi : i < 10) (hx : vp_in x (zLn.getD i 0)) (k : R G M q loc (.int ((zBy.getD i []).getD x.toNatClampNeg 0) :: st) h Q) : R G M pc loc (.int x :: .ref (2000 + i) :: st) h Q := by
  subst hq
  intro p l e s m args below meth c ad D A K cells slots C hr hf H locs ls hP hD hS hl
  exact va_tb C.1 C.2.1 (C.2.2.2.2.2.2.1.2.2.2.2.1.1 i hi).2.2.2 hS hx rfl hd (k p l e s m args below meth c ad D A K cells slots C hr hf H locs ls hP hD hS hl)
theorem R_blen (q : Nat) {i : Nat} (hd : decode M.2.1 pc = .ok (.arraylength, 1)) (hq : pc + 1 = q) (hi : i < 10) (k : R G M q loc (.int (Int32.ofNat (zLn.getD i 0)) :: st) h Q) : R G M pc loc (.ref (2000 + i) :: st) h Q := by
  subst hq
  intro p l e s m args below meth c ad D A K cells slots C hr hf H locs ls hP hD hS hl
  exact va_tlen C.1 C.2.1 (C.2.2.2.2.2.2.1.2.2.2.2.1.1 i hi).2.2.2 hS rfl hd (k p l e s m args below meth c ad D A K cells slots C hr hf H locs ls hP hD hS hl)
theorem R_tval (q : Nat) {idx i : Nat} (hd : decode M.2.1 pc = .ok (.getfield idx, 3)) (hq : pc + 3 = q) (hi : i < 10) (hw : Cond.fieldLink M.1.cls idx "java/lang/String" "value" "[B" ∈ zAL) (k : R G M q loc (.ref (2000 + i) :: st) h Q) : R G M pc loc (.ref (1000 + i) :: st) h Q := by
  subst hq
  intro p l e s m args below meth c ad D A K cells slots C hr hf H locs ls hP hD hS hl
  exact vk_getf C.1 C.2.1 (C.2.2.2.2.2.2.1.2.2.2.2.1.1 i hi).2.2.1 hS C.2.2.2.1 (C.2.2.2.2.1 _ hw) (fun _ h9 => h9) hd (k p l e s m args below meth c ad D A K cells slots C hr hf H locs ls hP hD hS hl)
theorem R_tcod (q : Nat) {idx i : Nat} (hd : decode M.2.1 pc = .ok (.getfield idx, 3)) (hq : pc + 3 = q) (hi : i < 10) (hw : Cond.fieldLink M.1.cls idx "java/lang/String" "coder" "B" ∈ zAL) (k : R G M q loc (.int 0 :: st) h Q) : R G M pc loc (.ref (1000 + i) :: st) h Q := by
  subst hq
  intro p l e s m args below meth c ad D A K cells slots C hr hf H locs ls hP hD hS hl
  exact vk_getf C.1 C.2.1 (C.2.2.2.2.2.2.1.2.2.2.2.1.1 i hi).2.1 hS C.2.2.2.1 (C.2.2.2.2.1 _ hw) (fun _ h9 => h9) hd (k p l e s m args below meth c ad D A K cells slots C hr hf H locs ls hP hD hS hl)
end zR
end
section
theorem zws_good {M : zM} (hc : Cond.code M.1 M.2.1 M.2.2.1 M.2.2.2.1 ∈ zAL) : GoodIn zAL (zws M) := by
  intro w hw
  rcases List.mem_cons.mp hw with rfl | h
  · exact ⟨hc, (al_good _ hc).2⟩
  · exact ⟨h, (al_good _ h).2⟩
theorem zPre_blind (G : zG) (ad : Nat → Nat) (D : va_G) (sz : Nat) (h : zH) (av : List Value) : FrameBlind (va_Pc av (zPre G ad D sz h)) := by
  intro a U g mk q
  obtain ⟨q0, q1, qP, qK, qD, qE⟩ := q
  exact ⟨q0, q1, qP, va_K.moved (u := U) (U := U.calling g mk a) (Vm.Alike.refl U.vm) qK, qD, qE.same rfl rfl⟩
theorem zA_in {ad : Nat → Nat} {A : Nat → Prop} {h : zH} {s : State} {H : Heap} {locs : List Loc} (hD : va_D A (zw ad h)) (hS : va_S A s.heap H locs) (hA : ∀ q : Nat, s.heap.size ≤ q → A q) : ∀ q, va_A (zw ad h) H.size q → A q := by
  intro q hq
  rcases hq with ⟨k, e, hk⟩ | hq
  · exact hD.2 k (q, e) hk
  · exact hA q (Nat.le_trans hS.1 hq)
theorem zPre_call {G : zG} {M : zM} {ad : Nat → Nat} {D : va_G} {A : Nat → Prop} {p : Program} {s : State} {m : MethodId} {args : Array Value} {c : Code} {h : zH} {H : Heap} {locs : List Loc} (C : zC G M ad D A p s m args c) (hP : va_P D vwCl (zw ad h) H) (hD : va_D A (zw ad h)) (hS : va_S A s.heap H locs) (av : List Value) : ∀ U : State, U.heap = H → s.WarmedH U.vm → va_Pc av (zPre G ad D H.size h) av.toArray U := by
  intro U hU hW
  exact ⟨rfl, by rw [hU], by rw [hU]; exact hP, va_K.moved hW.alike C.2.2.2.2.2.1, hD.weaken (fun _ _ _ _ => trivial), C.2.2.2.2.2.2.1.call hS (zA_in hD hS C.2.2.2.2.2.2.2) hU hW⟩
/-- behind a call -/
theorem z_call {p : Program} {l : Launch} {e : Env} {R : Room} {s : State} {m : MethodId} {args : Array Value} {below : List Frame} {meth : Method} {c : Code} {H : Heap} {locs : List Loc} {cells slots pc : Nat} {K : State → Prop} {ls : Array Slot} {st0 rest : List Value} {ad : Nat → Nat} {D : va_G} {A : Nat → Prop} {h : zH} {Q : Option Value → zH → Prop} {a : Array Value}
    (hr : va_Run p l e R s m args below meth c H locs cells slots 0 0 (F0 m pc ls st0) rest (zQc ad D H.size h Q a) (va_A (zw ad h) H.size)) (hS : va_S A s.heap H locs) (hF : ∀ q, va_A (zw ad h) H.size q → A q)
    (kk : ∀ (r : Option Value) (h' : zH) (H1 : Heap) (locs1 : List Loc), Q r h' → va_P D vwCl (zw ad h') H1 → va_D A (zw ad h') → va_S A s.heap H1 locs1 → W p l e R s m args below meth c H1 locs1 cells slots K (F0 m (pc + 3) ls ((r.map (zv ad)).toList ++ rest))) : W p l e R s m args below meth c H locs cells slots K (F0 m pc ls st0) := by
  intro T hT X
  obtain ⟨v, st₀, t, T', L, h0, X', hL, e1, e2, ⟨⟨r, h', hv, hq, hP1, hD1⟩, hz, hk⟩, st⟩ := hr T hT X
  cases hv
  rw [h0] at hz hk
  obtain ⟨t2, a1, b1⟩ := kk r h' T'.heap (locs ++ L) hq (by rw [e1]; exact hP1) (hD1.weaken (fun k q _ hA' => hF q.1 hA'))
    ⟨Nat.le_trans hS.1 (by rw [e1]; exact hz), fun q h1 h2 => by rw [e1, hk q (Nat.lt_of_lt_of_le h1 hS.1) (fun z => h2 (hF q z))]; exact hS.2.1 q h1 h2, fun q hq => by
      rcases List.mem_append.mp hq with h | h
      · exact hS.2.2 q h
      · exact hF _ (hL q h)⟩ T' rfl X'
  exact ⟨t2, st t2 a1, b1⟩
/-! what is known of a callee: its words, its parameters, that it makes nothing -/
def zYd (M : zM) (n : Nat) : Prop := (M.1.cls ≠ "java/lang/invoke/MethodHandle" ∧ M.1.cls ≠ "java/lang/invoke/VarHandle" ∧ (parseMethodDescriptor M.1.desc).map (fun d => d.parameters.length) = some n) ∧ M.2.2.2.2.cells = 0 ∧ M.2.2.2.2.slots = 0
def zYv (M : zM) (n : Nat) : Prop := Cond.instanceMethod M.1 ∈ zAL ∧ Cond.selects M.1.cls M.1 M.1 ∈ zAL ∧ Cond.initialized M.1.cls ∈ zAL ∧ Cond.code M.1 M.2.1 M.2.2.1 M.2.2.2.1 ∈ zAL ∧ zYd M n
def zYs (M : zM) (n : Nat) : Prop := Cond.static M.1 ∈ zAL ∧ Cond.initialized M.1.cls ∈ zAL ∧ Cond.code M.1 M.2.1 M.2.2.1 M.2.2.2.1 ∈ zAL ∧ zYd M n
/-- the callee's frame fits -/
def zRm (M M' : zM) : Bool := Nat.ble (M'.2.2.2.2.frames + 1) M.2.2.2.2.frames && Nat.ble (8 + (M'.2.2.1 + 11) + M'.2.2.2.2.locals) M.2.2.2.2.locals
theorem zRm_spec {M M' : zM} (h : zRm M M' = true) : M'.2.2.2.2.frames + 1 ≤ M.2.2.2.2.frames ∧ 8 + (M'.2.2.1 + 11) + M'.2.2.2.2.locals ≤ M.2.2.2.2.locals := by
  unfold zRm at h
  rw [Bool.and_eq_true] at h
  exact ⟨Nat.le_of_ble_eq_true h.1, Nat.le_of_ble_eq_true h.2⟩
def zk2 : List Value → Bool
  | [] => true
  | v :: l => (match v with | .int _ => true | .ref _ => true | .null => true | _ => false) && zk2 l
theorem zk2_sum (ad : Nat → Nat) : ∀ {l : List Value}, zk2 l = true → ((l.map (zv ad)).map fun v => v.category).sum = l.length
  | [], _ => rfl
  | v :: l, h => by
    unfold zk2 at h
    rw [Bool.and_eq_true] at h
    have ih := zk2_sum ad h.2
    have hc : (zv ad v).category = 1 := by
      have := h.1
      revert this
      cases v <;> simp [zv, Value.category]
    simp only [List.map_cons, List.sum_cons, List.length_cons]
    rw [ih, hc]
    omega

section zCl
variable {G : zG} {M : zM} {pc : Nat} {loc : List (Nat × Value)} {h : zH} {Q : Option Value → zH → Prop}
theorem R_callV (q : Nat) {M1 : zM} {n idx i : Nat} {as st rest : List Value} {ci N : Nat} {T : u_T} {fs : List Value} {Q1 : Option Value → zH → Prop} (hev : Ev G M1 (.ref i :: as) h Q1) (hd : decode M.2.1 pc = .ok (.invokevirtual idx, 3)) (hq : pc + 3 = q) (hy : zYv M1 n) (hlk : Cond.methodLink M.1.cls idx M1.1 ∈ zAL) (hR : zRm M M1 = true) (hst : st = as.reverse ++ .ref i :: rest) (hn : as.length = n) (hrest : zk2 rest = true) (hrl : Nat.ble rest.length 8 = true) (hg : zg h i = some (.inr (ci, fs))) (hcl : vwCl[ci]? = some (M1.1.cls, T, N)) (k : ∀ (r : Option Value) (h' : zH), Q1 r h' → R G M q loc (r.toList ++ rest) h' Q) : R G M pc loc st h Q := by
  subst hq
  subst hst
  obtain ⟨hin, hse, hi, hc, hd0⟩ := hy
  intro p l e s m args below meth c ad D A K cells slots C hr hf H locs ls hP hD hS hl
  have hrs : 2 * (F0 m pc ls ((as.reverse ++ .ref i :: rest).map (zv ad))).monitorRoom + ((rest.map (zv ad)).map fun v => v.category).sum ≤ 8 := lv_room (by rw [zk2_sum ad hrest]; exact Nat.le_of_ble_eq_true hrl)
  refine z_call (rest := rest.map (zv ad)) (va_runV (C := M1.1.cls) (As := as.map (zv ad)) (b := ad i) ⟨C.1, C.2.1, C.2.2.1, C.2.2.2.1, C.2.2.2.2.1⟩ (hev l ad D H.size) ⟨callB_of n C.2.2.2.2.1 (zws_good hc) rfl hd0.2.1 hd0.2.2 (C.2.2.2.2.1 _ hi) (C.2.2.2.2.1 _ hlk) hd0.1 (zRm_spec hR), C.2.2.2.2.1 _ hin, C.2.2.2.2.1 _ hse⟩ ⟨zPre_blind G ad D H.size h _, (by obtain ⟨q0, hq0, -⟩ := zw_look (ad := ad) hg; exact va_recv C.2.2.2.2.2.1 hP hcl hq0), zPre_call C hP hD hS _⟩ rfl (by rw [List.length_map]; exact hn) hl.1 (by simp [zv]) hrs hd ⟨hr.1, hr.2⟩) hS (zA_in hD hS C.2.2.2.2.2.2.2) (fun r1 h1 H1 locs1 hq1 hP1 hD1 hS1 => ?_)
  have kk := k r1 h1 hq1 p l e s m args below meth c ad D A K cells slots C hr hf H1 locs1 ls hP1 hD1 hS1 hl
  rw [List.map_append] at kk
  cases r1 <;> exact kk
theorem R_callT (q : Nat) {M1 : zM} {n idx i : Nat} {as st rest : List Value} {j : Nat} {Q1 : Option Value → zH → Prop} (hev : Ev G M1 (.ref i :: as) h Q1) (hd : decode M.2.1 pc = .ok (.invokevirtual idx, 3)) (hq : pc + 3 = q) (hy : zYv M1 n) (hlk : Cond.methodLink M.1.cls idx M1.1 ∈ zAL) (hR : zRm M M1 = true) (hst : st = as.reverse ++ .ref i :: rest) (hn : as.length = n) (hrest : zk2 rest = true) (hrl : Nat.ble rest.length 8 = true) (hg : i = 1000 + j) (hj : j < 10) (hcl : M1.1.cls = "java/lang/String") (k : ∀ (r : Option Value) (h' : zH), Q1 r h' → R G M q loc (r.toList ++ rest) h' Q) : R G M pc loc st h Q := by
  subst hq
  subst hst
  obtain ⟨hin, hse, hi, hc, hd0⟩ := hy
  intro p l e s m args below meth c ad D A K cells slots C hr hf H locs ls hP hD hS hl
  have hrs : 2 * (F0 m pc ls ((as.reverse ++ .ref i :: rest).map (zv ad))).monitorRoom + ((rest.map (zv ad)).map fun v => v.category).sum ≤ 8 := lv_room (by rw [zk2_sum ad hrest]; exact Nat.le_of_ble_eq_true hrl)
  refine z_call (rest := rest.map (zv ad)) (va_runV (C := M1.1.cls) (As := as.map (zv ad)) (b := ad i) ⟨C.1, C.2.1, C.2.2.1, C.2.2.2.1, C.2.2.2.2.1⟩ (hev l ad D H.size) ⟨callB_of n C.2.2.2.2.1 (zws_good hc) rfl hd0.2.1 hd0.2.2 (C.2.2.2.2.1 _ hi) (C.2.2.2.2.1 _ hlk) hd0.1 (zRm_spec hR), C.2.2.2.2.1 _ hin, C.2.2.2.2.1 _ hse⟩ ⟨zPre_blind G ad D H.size h _, (by rw [hcl, hg]; exact vk_recv (adK := fun i => ad (1000 + i)) (i := j) C.2.2.2.2.2.2.1.2.2.2.2.1 hj hS), zPre_call C hP hD hS _⟩ rfl (by rw [List.length_map]; exact hn) hl.1 (by simp [zv]) hrs hd ⟨hr.1, hr.2⟩) hS (zA_in hD hS C.2.2.2.2.2.2.2) (fun r1 h1 H1 locs1 hq1 hP1 hD1 hS1 => ?_)
  have kk := k r1 h1 hq1 p l e s m args below meth c ad D A K cells slots C hr hf H1 locs1 ls hP1 hD1 hS1 hl
  rw [List.map_append] at kk
  cases r1 <;> exact kk
theorem R_callS (q : Nat) {M1 : zM} {n idx : Nat} {as st rest : List Value} {Q1 : Option Value → zH → Prop} (hev : Ev G M1 as h Q1) (hd : decode M.2.1 pc = .ok (.invokestatic idx, 3)) (hq : pc + 3 = q) (hy : zYs M1 n) (hlk : Cond.methodLink M.1.cls idx M1.1 ∈ zAL) (hR : zRm M M1 = true) (hst : st = as.reverse ++ rest) (hn : as.length = n) (hrest : zk2 rest = true) (hrl : Nat.ble rest.length 8 = true) (k : ∀ (r : Option Value) (h' : zH), Q1 r h' → R G M q loc (r.toList ++ rest) h' Q) : R G M pc loc st h Q := by
  subst hq
  subst hst
  obtain ⟨hin, hi, hc, hd0⟩ := hy
  intro p l e s m args below meth c ad D A K cells slots C hr hf H locs ls hP hD hS hl
  have hrs : 2 * (F0 m pc ls ((as.reverse ++ rest).map (zv ad))).monitorRoom + ((rest.map (zv ad)).map fun v => v.category).sum ≤ 8 := lv_room (by rw [zk2_sum ad hrest]; exact Nat.le_of_ble_eq_true hrl)
  refine z_call (rest := rest.map (zv ad)) (va_runS (As := as.map (zv ad)) ⟨C.1, C.2.1, C.2.2.1, C.2.2.2.1, C.2.2.2.2.1⟩ (hev l ad D H.size) ⟨callB_of n C.2.2.2.2.1 (zws_good hc) rfl hd0.2.1 hd0.2.2 (C.2.2.2.2.1 _ hi) (C.2.2.2.2.1 _ hlk) hd0.1 (zRm_spec hR), C.2.2.2.2.1 _ hin⟩ ⟨zPre_blind G ad D H.size h _, zPre_call C hP hD hS _⟩ rfl (by rw [List.length_map]; exact hn) hl.1 (by simp) hrs hd ⟨hr.1, hr.2⟩) hS (zA_in hD hS C.2.2.2.2.2.2.2) (fun r1 h1 H1 locs1 hq1 hP1 hD1 hS1 => ?_)
  have kk := k r1 h1 hq1 p l e s m args below meth c ad D A K cells slots C hr hf H1 locs1 ls hP1 hD1 hS1 hl
  rw [List.map_append] at kk
  cases r1 <;> exact kk
theorem R_callSN (q : Nat) {M1 : zM} {n idx : Nat} {as st rest : List Value} {Q1 : Option Value → zH → Prop} (hev : Ev G M1 as h Q1) (hd : decode M.2.1 pc = .ok (.invokestatic idx, 3)) (hq : pc + 3 = q) (hy : zYs M1 n) (hlk : (M.1.cls, idx, M1.1) ∈ zNm) (hR : zRm M M1 = true) (hst : st = as.reverse ++ rest) (hn : as.length = n) (hrest : zk2 rest = true) (hrl : Nat.ble rest.length 8 = true) (k : ∀ (r : Option Value) (h' : zH), Q1 r h' → R G M q loc (r.toList ++ rest) h' Q) : R G M pc loc st h Q := by
  subst hq
  subst hst
  obtain ⟨hin, hi, hc, hd0⟩ := hy
  intro p l e s m args below meth c ad D A K cells slots C hr hf H locs ls hP hD hS hl
  have hrs : 2 * (F0 m pc ls ((as.reverse ++ rest).map (zv ad))).monitorRoom + ((rest.map (zv ad)).map fun v => v.category).sum ≤ 8 := lv_room (by rw [zk2_sum ad hrest]; exact Nat.le_of_ble_eq_true hrl)
  refine z_call (rest := rest.map (zv ad)) (va_runSN (As := as.map (zv ad)) ⟨C.1, C.2.1, C.2.2.1, C.2.2.2.1, C.2.2.2.2.1⟩ (hev l ad D H.size) ⟨va_cnB n C.2.2.2.2.1 (zws_good hc) rfl hd0.2.1 hd0.2.2 (C.2.2.2.2.2.2.1.2.1 _ hlk) (C.2.2.2.2.1 _ hi) hd0.1 (zRm_spec hR), C.2.2.2.2.1 _ hin, trivial⟩ ⟨zPre_blind G ad D H.size h _, zPre_call C hP hD hS _⟩ rfl (by rw [List.length_map]; exact hn) hl.1 (by simp) hrs hd ⟨hr.1, hr.2⟩) hS (zA_in hD hS C.2.2.2.2.2.2.2) (fun r1 h1 H1 locs1 hq1 hP1 hD1 hS1 => ?_)
  have kk := k r1 h1 hq1 p l e s m args below meth c ad D A K cells slots C hr hf H1 locs1 ls hP1 hD1 hS1 hl
  rw [List.map_append] at kk
  cases r1 <;> exact kk
theorem R_callVi (q : Nat) {M1 : zM} {n idx i : Nat} {as st rest : List Value} {ci N : Nat} {T : u_T} {fs : List Value} {v : Int32} {h2 : zH} (hev : EvF G M1 (.ref i :: as) h (some (.int v)) h2) (hd : decode M.2.1 pc = .ok (.invokevirtual idx, 3)) (hq : pc + 3 = q) (hy : zYv M1 n) (hlk : Cond.methodLink M.1.cls idx M1.1 ∈ zAL) (hR : zRm M M1 = true) (hst : st = as.reverse ++ .ref i :: rest) (hn : as.length = n) (hrest : zk2 rest = true) (hrl : Nat.ble rest.length 8 = true) (hg : zg h i = some (.inr (ci, fs))) (hcl : vwCl[ci]? = some (M1.1.cls, T, N)) (k : R G M q loc (.int v :: rest) h2 Q) : R G M pc loc st h Q :=
  R_callV q hev hd hq hy hlk hR hst hn hrest hrl hg hcl (fun r h' e => by obtain ⟨rfl, rfl⟩ := e; exact k)
theorem R_callVv (q : Nat) {M1 : zM} {n idx i : Nat} {as st rest : List Value} {ci N : Nat} {T : u_T} {fs : List Value} {h2 : zH} (hev : EvF G M1 (.ref i :: as) h (none) h2) (hd : decode M.2.1 pc = .ok (.invokevirtual idx, 3)) (hq : pc + 3 = q) (hy : zYv M1 n) (hlk : Cond.methodLink M.1.cls idx M1.1 ∈ zAL) (hR : zRm M M1 = true) (hst : st = as.reverse ++ .ref i :: rest) (hn : as.length = n) (hrest : zk2 rest = true) (hrl : Nat.ble rest.length 8 = true) (hg : zg h i = some (.inr (ci, fs))) (hcl : vwCl[ci]? = some (M1.1.cls, T, N)) (k : R G M q loc (rest) h2 Q) : R G M pc loc st h Q :=
  R_callV q hev hd hq hy hlk hR hst hn hrest hrl hg hcl (fun r h' e => by obtain ⟨rfl, rfl⟩ := e; exact k)
theorem R_callVr (q : Nat) {M1 : zM} {n idx i : Nat} {as st rest : List Value} {ci N : Nat} {T : u_T} {fs : List Value} {v : Nat} {h2 : zH} (hev : EvF G M1 (.ref i :: as) h (some (.ref v)) h2) (hd : decode M.2.1 pc = .ok (.invokevirtual idx, 3)) (hq : pc + 3 = q) (hy : zYv M1 n) (hlk : Cond.methodLink M.1.cls idx M1.1 ∈ zAL) (hR : zRm M M1 = true) (hst : st = as.reverse ++ .ref i :: rest) (hn : as.length = n) (hrest : zk2 rest = true) (hrl : Nat.ble rest.length 8 = true) (hg : zg h i = some (.inr (ci, fs))) (hcl : vwCl[ci]? = some (M1.1.cls, T, N)) (k : R G M q loc (.ref v :: rest) h2 Q) : R G M pc loc st h Q :=
  R_callV q hev hd hq hy hlk hR hst hn hrest hrl hg hcl (fun r h' e => by obtain ⟨rfl, rfl⟩ := e; exact k)
theorem R_callTi (q : Nat) {M1 : zM} {n idx i : Nat} {as st rest : List Value} {j : Nat} {v : Int32} {h2 : zH} (hev : EvF G M1 (.ref i :: as) h (some (.int v)) h2) (hd : decode M.2.1 pc = .ok (.invokevirtual idx, 3)) (hq : pc + 3 = q) (hy : zYv M1 n) (hlk : Cond.methodLink M.1.cls idx M1.1 ∈ zAL) (hR : zRm M M1 = true) (hst : st = as.reverse ++ .ref i :: rest) (hn : as.length = n) (hrest : zk2 rest = true) (hrl : Nat.ble rest.length 8 = true) (hg : i = 1000 + j) (hj : j < 10) (hcl : M1.1.cls = "java/lang/String") (k : R G M q loc (.int v :: rest) h2 Q) : R G M pc loc st h Q :=
  R_callT q hev hd hq hy hlk hR hst hn hrest hrl hg hj hcl (fun r h' e => by obtain ⟨rfl, rfl⟩ := e; exact k)
theorem R_callTv (q : Nat) {M1 : zM} {n idx i : Nat} {as st rest : List Value} {j : Nat} {h2 : zH} (hev : EvF G M1 (.ref i :: as) h (none) h2) (hd : decode M.2.1 pc = .ok (.invokevirtual idx, 3)) (hq : pc + 3 = q) (hy : zYv M1 n) (hlk : Cond.methodLink M.1.cls idx M1.1 ∈ zAL) (hR : zRm M M1 = true) (hst : st = as.reverse ++ .ref i :: rest) (hn : as.length = n) (hrest : zk2 rest = true) (hrl : Nat.ble rest.length 8 = true) (hg : i = 1000 + j) (hj : j < 10) (hcl : M1.1.cls = "java/lang/String") (k : R G M q loc (rest) h2 Q) : R G M pc loc st h Q :=
  R_callT q hev hd hq hy hlk hR hst hn hrest hrl hg hj hcl (fun r h' e => by obtain ⟨rfl, rfl⟩ := e; exact k)
theorem R_callTr (q : Nat) {M1 : zM} {n idx i : Nat} {as st rest : List Value} {j : Nat} {v : Nat} {h2 : zH} (hev : EvF G M1 (.ref i :: as) h (some (.ref v)) h2) (hd : decode M.2.1 pc = .ok (.invokevirtual idx, 3)) (hq : pc + 3 = q) (hy : zYv M1 n) (hlk : Cond.methodLink M.1.cls idx M1.1 ∈ zAL) (hR : zRm M M1 = true) (hst : st = as.reverse ++ .ref i :: rest) (hn : as.length = n) (hrest : zk2 rest = true) (hrl : Nat.ble rest.length 8 = true) (hg : i = 1000 + j) (hj : j < 10) (hcl : M1.1.cls = "java/lang/String") (k : R G M q loc (.ref v :: rest) h2 Q) : R G M pc loc st h Q :=
  R_callT q hev hd hq hy hlk hR hst hn hrest hrl hg hj hcl (fun r h' e => by obtain ⟨rfl, rfl⟩ := e; exact k)
theorem R_callSi (q : Nat) {M1 : zM} {n idx : Nat} {as st rest : List Value} {v : Int32} {h2 : zH} (hev : EvF G M1 as h (some (.int v)) h2) (hd : decode M.2.1 pc = .ok (.invokestatic idx, 3)) (hq : pc + 3 = q) (hy : zYs M1 n) (hlk : Cond.methodLink M.1.cls idx M1.1 ∈ zAL) (hR : zRm M M1 = true) (hst : st = as.reverse ++ rest) (hn : as.length = n) (hrest : zk2 rest = true) (hrl : Nat.ble rest.length 8 = true) (k : R G M q loc (.int v :: rest) h2 Q) : R G M pc loc st h Q :=
  R_callS q hev hd hq hy hlk hR hst hn hrest hrl (fun r h' e => by obtain ⟨rfl, rfl⟩ := e; exact k)
theorem R_callSv (q : Nat) {M1 : zM} {n idx : Nat} {as st rest : List Value} {h2 : zH} (hev : EvF G M1 as h (none) h2) (hd : decode M.2.1 pc = .ok (.invokestatic idx, 3)) (hq : pc + 3 = q) (hy : zYs M1 n) (hlk : Cond.methodLink M.1.cls idx M1.1 ∈ zAL) (hR : zRm M M1 = true) (hst : st = as.reverse ++ rest) (hn : as.length = n) (hrest : zk2 rest = true) (hrl : Nat.ble rest.length 8 = true) (k : R G M q loc (rest) h2 Q) : R G M pc loc st h Q :=
  R_callS q hev hd hq hy hlk hR hst hn hrest hrl (fun r h' e => by obtain ⟨rfl, rfl⟩ := e; exact k)
theorem R_callSr (q : Nat) {M1 : zM} {n idx : Nat} {as st rest : List Value} {v : Nat} {h2 : zH} (hev : EvF G M1 as h (some (.ref v)) h2) (hd : decode M.2.1 pc = .ok (.invokestatic idx, 3)) (hq : pc + 3 = q) (hy : zYs M1 n) (hlk : Cond.methodLink M.1.cls idx M1.1 ∈ zAL) (hR : zRm M M1 = true) (hst : st = as.reverse ++ rest) (hn : as.length = n) (hrest : zk2 rest = true) (hrl : Nat.ble rest.length 8 = true) (k : R G M q loc (.ref v :: rest) h2 Q) : R G M pc loc st h Q :=
  R_callS q hev hd hq hy hlk hR hst hn hrest hrl (fun r h' e => by obtain ⟨rfl, rfl⟩ := e; exact k)
theorem R_callSNi (q : Nat) {M1 : zM} {n idx : Nat} {as st rest : List Value} {v : Int32} {h2 : zH} (hev : EvF G M1 as h (some (.int v)) h2) (hd : decode M.2.1 pc = .ok (.invokestatic idx, 3)) (hq : pc + 3 = q) (hy : zYs M1 n) (hlk : (M.1.cls, idx, M1.1) ∈ zNm) (hR : zRm M M1 = true) (hst : st = as.reverse ++ rest) (hn : as.length = n) (hrest : zk2 rest = true) (hrl : Nat.ble rest.length 8 = true) (k : R G M q loc (.int v :: rest) h2 Q) : R G M pc loc st h Q :=
  R_callSN q hev hd hq hy hlk hR hst hn hrest hrl (fun r h' e => by obtain ⟨rfl, rfl⟩ := e; exact k)
theorem R_callSNv (q : Nat) {M1 : zM} {n idx : Nat} {as st rest : List Value} {h2 : zH} (hev : EvF G M1 as h (none) h2) (hd : decode M.2.1 pc = .ok (.invokestatic idx, 3)) (hq : pc + 3 = q) (hy : zYs M1 n) (hlk : (M.1.cls, idx, M1.1) ∈ zNm) (hR : zRm M M1 = true) (hst : st = as.reverse ++ rest) (hn : as.length = n) (hrest : zk2 rest = true) (hrl : Nat.ble rest.length 8 = true) (k : R G M q loc (rest) h2 Q) : R G M pc loc st h Q :=
  R_callSN q hev hd hq hy hlk hR hst hn hrest hrl (fun r h' e => by obtain ⟨rfl, rfl⟩ := e; exact k)
theorem R_callSNr (q : Nat) {M1 : zM} {n idx : Nat} {as st rest : List Value} {v : Nat} {h2 : zH} (hev : EvF G M1 as h (some (.ref v)) h2) (hd : decode M.2.1 pc = .ok (.invokestatic idx, 3)) (hq : pc + 3 = q) (hy : zYs M1 n) (hlk : (M.1.cls, idx, M1.1) ∈ zNm) (hR : zRm M M1 = true) (hst : st = as.reverse ++ rest) (hn : as.length = n) (hrest : zk2 rest = true) (hrl : Nat.ble rest.length 8 = true) (k : R G M q loc (.ref v :: rest) h2 Q) : R G M pc loc st h Q :=
  R_callSN q hev hd hq hy hlk hR hst hn hrest hrl (fun r h' e => by obtain ⟨rfl, rfl⟩ := e; exact k)
theorem R_mmax (q : Nat) {idx : Nat} {st : List Value} {x y : Int32} (hd : decode M.2.1 pc = .ok (.invokestatic idx, 3)) (hq : pc + 3 = q) (hlk : Cond.methodLink M.1.cls idx Lib.Math.max.name ∈ zAL) (hw : Cond.static Lib.Math.max.name ∈ zAL ∧ Cond.initialized "java/lang/Math" ∈ zAL ∧ Cond.code Lib.Math.max.name Lib.Math.max.code 2 (some .int) ∈ zAL) (hfr : Nat.ble 1 M.2.2.2.2.frames = true) (hst : zk2 st = true) (hlo : Nat.ble (st.length + 13) M.2.2.2.2.locals = true) (k : R G M q loc (.int (if x < y then y else x) :: st) h Q) : R G M pc loc (.int y :: .int x :: st) h Q := by
  subst hq
  intro p l e s m args below meth c ad D A K cells slots C hr hf H locs ls hP hD hS hl
  exact va_mmax C.1 C.2.1 (C.2.2.1.trans hl.1.symm) C.2.2.2.1 (C.2.2.2.2.1 _ hlk) (C.2.2.2.2.1 _ hw.1) (C.2.2.2.2.1 _ hw.2.1) (C.2.2.2.2.1 _ hw.2.2) (Nat.le_of_ble_eq_true hfr) (by rw [zk2_sum ad hst]; exact Nat.le_of_ble_eq_true hlo) hr.1 hr.2 hd (k p l e s m args below meth c ad D A K cells slots C hr hf H locs ls hP hD hS hl)
theorem R_mmin (q : Nat) {idx : Nat} {st : List Value} {x y : Int32} (hd : decode M.2.1 pc = .ok (.invokestatic idx, 3)) (hq : pc + 3 = q) (hlk : Cond.methodLink M.1.cls idx Lib.Math.min.name ∈ zAL) (hw : Cond.static Lib.Math.min.name ∈ zAL ∧ Cond.initialized "java/lang/Math" ∈ zAL ∧ Cond.code Lib.Math.min.name Lib.Math.min.code 2 (some .int) ∈ zAL) (hfr : Nat.ble 1 M.2.2.2.2.frames = true) (hst : zk2 st = true) (hlo : Nat.ble (st.length + 13) M.2.2.2.2.locals = true) (k : R G M q loc (.int (if y < x then y else x) :: st) h Q) : R G M pc loc (.int y :: .int x :: st) h Q := by
  subst hq
  intro p l e s m args below meth c ad D A K cells slots C hr hf H locs ls hP hD hS hl
  exact va_mmin C.1 C.2.1 (C.2.2.1.trans hl.1.symm) C.2.2.2.1 (C.2.2.2.2.1 _ hlk) (C.2.2.2.2.1 _ hw.1) (C.2.2.2.2.1 _ hw.2.1) (C.2.2.2.2.1 _ hw.2.2) (Nat.le_of_ble_eq_true hfr) (by rw [zk2_sum ad hst]; exact Nat.le_of_ble_eq_true hlo) hr.1 hr.2 hd (k p l e s m args below meth c ad D A K cells slots C hr hf H locs ls hP hD hS hl)
theorem R_mabs (q : Nat) {idx : Nat} {st : List Value} {x : Int32} (hd : decode M.2.1 pc = .ok (.invokestatic idx, 3)) (hq : pc + 3 = q) (hlk : Cond.methodLink M.1.cls idx Lib.Math.abs.name ∈ zAL) (hw : Cond.static Lib.Math.abs.name ∈ zAL ∧ Cond.initialized "java/lang/Math" ∈ zAL ∧ Cond.code Lib.Math.abs.name Lib.Math.abs.code 1 (some .int) ∈ zAL) (hfr : Nat.ble 1 M.2.2.2.2.frames = true) (hst : zk2 st = true) (hlo : Nat.ble (st.length + 13) M.2.2.2.2.locals = true) (k : R G M q loc (.int (if 0 ≤ x then x else 0 - x) :: st) h Q) : R G M pc loc (.int x :: st) h Q := by
  subst hq
  intro p l e s m args below meth c ad D A K cells slots C hr hf H locs ls hP hD hS hl
  exact va_mabs C.1 C.2.1 (C.2.2.1.trans hl.1.symm) C.2.2.2.1 (C.2.2.2.2.1 _ hlk) (C.2.2.2.2.1 _ hw.1) (C.2.2.2.2.1 _ hw.2.1) (C.2.2.2.2.1 _ hw.2.2) (Nat.le_of_ble_eq_true hfr) (by rw [zk2_sum ad hst]; exact Nat.le_of_ble_eq_true hlo) hr.1 hr.2 hd (k p l e s m args below meth c ad D A K cells slots C hr hf H locs ls hP hD hS hl)
end zCl
end
section
abbrev mX0_clear : zM := (yX0_clear, cX0_clear, 2, none, { frames := 0, cells := 0, slots := 0, locals := 0 })
abbrev mX0_noteUp : zM := (yX0_noteUp, cX0_noteUp, 3, none, { frames := 0, cells := 0, slots := 0, locals := 0 })
abbrev mX0_noteBother : zM := (yX0_noteBother, cX0_noteBother, 3, none, { frames := 0, cells := 0, slots := 0, locals := 0 })
abbrev mX0_noteOff : zM := (yX0_noteOff, cX0_noteOff, 3, none, { frames := 1, cells := 0, slots := 0, locals := 21 })
abbrev mX0_told : zM := (yX0_told, cX0_told, 2, (some .int), { frames := 2, cells := 0, slots := 0, locals := 42 })
abbrev mX0_toldOf : zM := (yX0_toldOf, cX0_toldOf, 3, (some .int), { frames := 0, cells := 0, slots := 0, locals := 0 })
abbrev mX0_allCost : zM := (yX0_allCost, cX0_allCost, 1, (some .int), { frames := 1, cells := 0, slots := 0, locals := 22 })
abbrev mX0_allUps : zM := (yX0_allUps, cX0_allUps, 1, (some .int), { frames := 1, cells := 0, slots := 0, locals := 22 })
abbrev mX0_sum : zM := (yX0_sum, cX0_sum, 3, (some .int), { frames := 0, cells := 0, slots := 0, locals := 0 })
abbrev mX1_become : zM := (yX1_become, cX1_become, 2, none, { frames := 0, cells := 0, slots := 0, locals := 0 })
abbrev mX1_amountIn : zM := (yX1_amountIn, cX1_amountIn, 2, (some .int), { frames := 2, cells := 0, slots := 0, locals := 42 })
abbrev mX1_swinging : zM := (yX1_swinging, cX1_swinging, 2, (some .int), { frames := 0, cells := 0, slots := 0, locals := 0 })
abbrev mX1_cooled : zM := (yX1_cooled, cX1_cooled, 2, (some .int), { frames := 1, cells := 0, slots := 0, locals := 21 })
abbrev mX2_become : zM := (yX2_become, cX2_become, 3, none, { frames := 1, cells := 0, slots := 0, locals := 21 })
abbrev mX2_has : zM := (yX2_has, cX2_has, 2, (some .boolean), { frames := 0, cells := 0, slots := 0, locals := 0 })
abbrev mX2_told : zM := (yX2_told, cX2_told, 2, (some .int), { frames := 0, cells := 0, slots := 0, locals := 0 })
abbrev mX2_change : zM := (yX2_change, cX2_change, 4, (some .int), { frames := 1, cells := 0, slots := 0, locals := 21 })
abbrev mX2_allMinds : zM := (yX2_allMinds, cX2_allMinds, 3, (some .int), { frames := 0, cells := 0, slots := 0, locals := 0 })
abbrev mX2_refineHands : zM := (yX2_refineHands, cX2_refineHands, 4, none, { frames := 0, cells := 0, slots := 0, locals := 0 })
abbrev mX2_passMinutes : zM := (yX2_passMinutes, cX2_passMinutes, 6, none, { frames := 4, cells := 0, slots := 0, locals := 84 })
abbrev mX2_driftOnce : zM := (yX2_driftOnce, cX2_driftOnce, 2, (some .int), { frames := 3, cells := 0, slots := 0, locals := 63 })
abbrev mX2_isOffEither : zM := (yX2_isOffEither, cX2_isOffEither, 1, (some .boolean), { frames := 2, cells := 0, slots := 0, locals := 41 })
abbrev mX2_letOneGetUp : zM := (yX2_letOneGetUp, cX2_letOneGetUp, 5, none, { frames := 2, cells := 0, slots := 0, locals := 45 })
abbrev mX2_botherAll : zM := (yX2_botherAll, cX2_botherAll, 6, none, { frames := 2, cells := 0, slots := 0, locals := 43 })
abbrev mX2_off : zM := (yX2_off, cX2_off, 2, (some .int), { frames := 1, cells := 0, slots := 0, locals := 20 })
abbrev mX3_become : zM := (yX3_become, cX3_become, 2, none, { frames := 0, cells := 0, slots := 0, locals := 0 })
abbrev mX3_detail : zM := (yX3_detail, cX3_detail, 2, (some .int), { frames := 0, cells := 0, slots := 0, locals := 0 })
abbrev mX3_botheredBy : zM := (yX3_botheredBy, cX3_botheredBy, 2, (some .int), { frames := 1, cells := 0, slots := 0, locals := 22 })
abbrev mX3_deafTo : zM := (yX3_deafTo, cX3_deafTo, 3, (some .int), { frames := 0, cells := 0, slots := 0, locals := 0 })
abbrev mX3_turned : zM := (yX3_turned, cX3_turned, 5, (some .int), { frames := 1, cells := 0, slots := 0, locals := 20 })
abbrev mX4_become : zM := (yX4_become, cX4_become, 2, none, { frames := 0, cells := 0, slots := 0, locals := 0 })
abbrev mX4_rouses : zM := (yX4_rouses, cX4_rouses, 3, (some .boolean), { frames := 0, cells := 0, slots := 0, locals := 0 })
abbrev mX4_aim : zM := (yX4_aim, cX4_aim, 4, (some .int), { frames := 1, cells := 0, slots := 0, locals := 22 })
abbrev mX4_against : zM := (yX4_against, cX4_against, 3, (some .int), { frames := 0, cells := 0, slots := 0, locals := 0 })
abbrev mX5_add : zM := (yX5_add, cX5_add, 2, none, { frames := 0, cells := 0, slots := 0, locals := 0 })
abbrev mX5_shapeAt : zM := (yX5_shapeAt, cX5_shapeAt, 2, (some (.object "java/lang/String")), { frames := 1, cells := 0, slots := 0, locals := 21 })
abbrev mX5_firstUnfit : zM := (yX5_firstUnfit, cX5_firstUnfit, 4, (some .int), { frames := 5, cells := 0, slots := 0, locals := 112 })
abbrev mX5_tellTo : zM := (yX5_tellTo, cX5_tellTo, 4, (some .boolean), { frames := 6, cells := 0, slots := 0, locals := 139 })
abbrev mX5_tellPerson : zM := (yX5_tellPerson, cX5_tellPerson, 7, (some .boolean), { frames := 5, cells := 0, slots := 0, locals := 113 })
abbrev mX5_tellStation : zM := (yX5_tellStation, cX5_tellStation, 5, (some .boolean), { frames := 3, cells := 0, slots := 0, locals := 63 })
abbrev mX5_tellRule : zM := (yX5_tellRule, cX5_tellRule, 4, (some .boolean), { frames := 5, cells := 0, slots := 0, locals := 113 })
abbrev mX5_tellMinutes : zM := (yX5_tellMinutes, cX5_tellMinutes, 5, (some .boolean), { frames := 5, cells := 0, slots := 0, locals := 109 })
abbrev mX5_fits : zM := (yX5_fits, cX5_fits, 2, (some .boolean), { frames := 4, cells := 0, slots := 0, locals := 91 })
abbrev mX5_signAt : zM := (yX5_signAt, cX5_signAt, 2, (some .char), { frames := 0, cells := 0, slots := 0, locals := 0 })
abbrev mX5_digitAt : zM := (yX5_digitAt, cX5_digitAt, 2, (some .int), { frames := 1, cells := 0, slots := 0, locals := 21 })
abbrev mX5_numberAt : zM := (yX5_numberAt, cX5_numberAt, 2, (some .int), { frames := 2, cells := 0, slots := 0, locals := 42 })
abbrev mX5_signedAt : zM := (yX5_signedAt, cX5_signedAt, 3, (some .int), { frames := 1, cells := 0, slots := 0, locals := 21 })
abbrev mX5_kindAt : zM := (yX5_kindAt, cX5_kindAt, 3, (some .int), { frames := 4, cells := 0, slots := 0, locals := 91 })
abbrev mX6_letter : zM := (yX6_letter, cX6_letter, 3, (some .int), { frames := 1, cells := 0, slots := 0, locals := 22 })
abbrev mX6_parlour : zM := (yX6_parlour, cX6_parlour, 3, (some .int), { frames := 8, cells := 0, slots := 0, locals := 184 })
abbrev mX6_person : zM := (yX6_person, cX6_person, 3, (some .int), { frames := 1, cells := 0, slots := 0, locals := 22 })
abbrev mX6_bothers : zM := (yX6_bothers, cX6_bothers, 4, (some .int), { frames := 2, cells := 0, slots := 0, locals := 43 })
abbrev mX6_place : zM := (yX6_place, cX6_place, 2, (some .int), { frames := 2, cells := 0, slots := 0, locals := 43 })
abbrev mX6_set : zM := (yX6_set, cX6_set, 4, (some .int), { frames := 2, cells := 0, slots := 0, locals := 44 })
abbrev mX6_kind : zM := (yX6_kind, cX6_kind, 3, (some .int), { frames := 2, cells := 0, slots := 0, locals := 44 })
abbrev mX6_turn : zM := (yX6_turn, cX6_turn, 2, (some .int), { frames := 2, cells := 0, slots := 0, locals := 44 })
abbrev mX6_drifts : zM := (yX6_drifts, cX6_drifts, 3, (some .int), { frames := 3, cells := 0, slots := 0, locals := 63 })
abbrev mX6_go : zM := (yX6_go, cX6_go, 3, (some .int), { frames := 5, cells := 0, slots := 0, locals := 109 })
abbrev mX6_cost : zM := (yX6_cost, cX6_cost, 4, (some .int), { frames := 6, cells := 0, slots := 0, locals := 131 })
abbrev mX6_at : zM := (yX6_at, cX6_at, 3, (some .int), { frames := 6, cells := 0, slots := 0, locals := 131 })
abbrev mX6_of : zM := (yX6_of, cX6_of, 5, (some .int), { frames := 6, cells := 0, slots := 0, locals := 131 })
abbrev mX6_best : zM := (yX6_best, cX6_best, 4, (some .int), { frames := 7, cells := 0, slots := 0, locals := 159 })
abbrev mX6_finer : zM := (yX6_finer, cX6_finer, 4, (some .int), { frames := 7, cells := 0, slots := 0, locals := 155 })
abbrev mX6_mark : zM := (yX6_mark, cX6_mark, 3, (some .int), { frames := 7, cells := 0, slots := 0, locals := 155 })
abbrev mX6_most : zM := (yX6_most, cX6_most, 7, (some .int), { frames := 6, cells := 0, slots := 0, locals := 131 })
abbrev mX6_between : zM := (yX6_between, cX6_between, 3, (some .int), { frames := 7, cells := 0, slots := 0, locals := 159 })
abbrev mX6_leave : zM := (yX6_leave, cX6_leave, 4, (some .int), { frames := 6, cells := 0, slots := 0, locals := 131 })
abbrev mX6_holds : zM := (yX6_holds, cX6_holds, 4, (some .int), { frames := 5, cells := 0, slots := 0, locals := 106 })
abbrev mX6_setAt : zM := (yX6_setAt, cX6_setAt, 5, (some .int), { frames := 5, cells := 0, slots := 0, locals := 106 })
abbrev mX6_steadyFrom : zM := (yX6_steadyFrom, cX6_steadyFrom, 3, (some .int), { frames := 3, cells := 0, slots := 0, locals := 63 })
abbrev mX6_whoLast : zM := (yX6_whoLast, cX6_whoLast, 3, (some .int), { frames := 6, cells := 0, slots := 0, locals := 131 })
abbrev mX6_when : zM := (yX6_when, cX6_when, 3, (some .int), { frames := 5, cells := 0, slots := 0, locals := 109 })
abbrev mX6_row : zM := (yX6_row, cX6_row, 3, (some .int), { frames := 1, cells := 0, slots := 0, locals := 22 })
abbrev mX6_kept : zM := (yX6_kept, cX6_kept, 2, (some .int), { frames := 7, cells := 0, slots := 0, locals := 152 })
abbrev mX6_judge : zM := (yX6_judge, cX6_judge, 2, (some .int), { frames := 6, cells := 0, slots := 0, locals := 130 })
abbrev mX6_lots : zM := (yX6_lots, cX6_lots, 7, (some .int), { frames := 6, cells := 0, slots := 0, locals := 131 })
abbrev mX6_image : zM := (yX6_image, cX6_image, 1, (some .int), { frames := 2, cells := 0, slots := 0, locals := 43 })
abbrev mX6_on : zM := (yX6_on, cX6_on, 1, (some .int), { frames := 2, cells := 0, slots := 0, locals := 43 })
abbrev mX6_count : zM := (yX6_count, cX6_count, 2, (some .int), { frames := 1, cells := 0, slots := 0, locals := 22 })
abbrev mX6_outside : zM := (yX6_outside, cX6_outside, 3, (some .int), { frames := 0, cells := 0, slots := 0, locals := 0 })
abbrev mX6_refuse : zM := (yX6_refuse, cX6_refuse, 3, (some .int), { frames := 0, cells := 0, slots := 0, locals := 0 })
abbrev mX6_refuseTold : zM := (yX6_refuseTold, cX6_refuseTold, 2, (some .int), { frames := 1, cells := 0, slots := 0, locals := 22 })
abbrev mX6_tellAll : zM := (yX6_tellAll, cX6_tellAll, 3, (some .int), { frames := 7, cells := 0, slots := 0, locals := 162 })
abbrev mX6_think : zM := (yX6_think, cX6_think, 1, none, { frames := 2, cells := 0, slots := 0, locals := 43 })
abbrev mX6_playInMind : zM := (yX6_playInMind, cX6_playInMind, 3, (some .int), { frames := 5, cells := 0, slots := 0, locals := 109 })
abbrev mX6_leastCostly : zM := (yX6_leastCostly, cX6_leastCostly, 9, (some .int), { frames := 6, cells := 0, slots := 0, locals := 131 })
abbrev mX6_savedByFineHands : zM := (yX6_savedByFineHands, cX6_savedByFineHands, 5, (some .int), { frames := 6, cells := 0, slots := 0, locals := 131 })
abbrev mX6_minutesHeld : zM := (yX6_minutesHeld, cX6_minutesHeld, 3, (some .int), { frames := 4, cells := 0, slots := 0, locals := 84 })
abbrev mX6_firstUnlike : zM := (yX6_firstUnlike, cX6_firstUnlike, 2, (some .int), { frames := 5, cells := 0, slots := 0, locals := 109 })
abbrev mX6_rulesKept : zM := (yX6_rulesKept, cX6_rulesKept, 3, (some .int), { frames := 6, cells := 0, slots := 0, locals := 130 })
abbrev mX6_limitsKept : zM := (yX6_limitsKept, cX6_limitsKept, 3, (some .int), { frames := 6, cells := 0, slots := 0, locals := 130 })
abbrev mX6_held : zM := (yX6_held, cX6_held, 3, (some .int), { frames := 1, cells := 0, slots := 0, locals := 21 })
abbrev mX7_no : zM := (yX7_no, cX7_no, 2, (some .int), { frames := 0, cells := 0, slots := 0, locals := 0 })
abbrev mX7_lower : zM := (yX7_lower, cX7_lower, 2, (some .int), { frames := 0, cells := 0, slots := 0, locals := 0 })
abbrev mX7_isIn : zM := (yX7_isIn, cX7_isIn, 3, (some .boolean), { frames := 0, cells := 0, slots := 0, locals := 0 })
abbrev mX7_bound : zM := (yX7_bound, cX7_bound, 3, (some .int), { frames := 0, cells := 0, slots := 0, locals := 0 })
abbrev mX7_size : zM := (yX7_size, cX7_size, 1, (some .int), { frames := 0, cells := 0, slots := 0, locals := 0 })
abbrev mX7_isPerson : zM := (yX7_isPerson, cX7_isPerson, 2, (some .boolean), { frames := 0, cells := 0, slots := 0, locals := 0 })
abbrev mX7_leastOf : zM := (yX7_leastOf, cX7_leastOf, 1, (some .int), { frames := 0, cells := 0, slots := 0, locals := 0 })
abbrev mX7_mostOf : zM := (yX7_mostOf, cX7_mostOf, 1, (some .int), { frames := 0, cells := 0, slots := 0, locals := 0 })
abbrev mX7_letter : zM := (yX7_letter, cX7_letter, 3, (some .int), { frames := 1, cells := 0, slots := 0, locals := 22 })
abbrev mX7_next : zM := (yX7_next, cX7_next, 1, (some .int), { frames := 0, cells := 0, slots := 0, locals := 0 })
abbrev mX7_readsDigits : zM := (yX7_readsDigits, cX7_readsDigits, 5, (some .boolean), { frames := 1, cells := 0, slots := 0, locals := 22 })
abbrev mX7_readsSigned : zM := (yX7_readsSigned, cX7_readsSigned, 4, (some .boolean), { frames := 2, cells := 0, slots := 0, locals := 46 })
abbrev mX7_personOf : zM := (yX7_personOf, cX7_personOf, 1, (some .int), { frames := 0, cells := 0, slots := 0, locals := 0 })
abbrev mX7_driftOf : zM := (yX7_driftOf, cX7_driftOf, 1, (some .int), { frames := 0, cells := 0, slots := 0, locals := 0 })
abbrev mX7_ruleOf : zM := (yX7_ruleOf, cX7_ruleOf, 1, (some .int), { frames := 0, cells := 0, slots := 0, locals := 0 })
abbrev mX7_readsKind : zM := (yX7_readsKind, cX7_readsKind, 3, (some .boolean), { frames := 0, cells := 0, slots := 0, locals := 0 })
abbrev mX7_readsPerson : zM := (yX7_readsPerson, cX7_readsPerson, 3, (some .boolean), { frames := 2, cells := 0, slots := 0, locals := 46 })
abbrev mX7_readsAll : zM := (yX7_readsAll, cX7_readsAll, 3, (some .boolean), { frames := 3, cells := 0, slots := 0, locals := 69 })
abbrev mX7_statement : zM := (yX7_statement, cX7_statement, 2, (some .boolean), { frames := 4, cells := 0, slots := 0, locals := 91 })
abbrev mX7_comesPerson : zM := (yX7_comesPerson, cX7_comesPerson, 2, (some .boolean), { frames := 1, cells := 0, slots := 0, locals := 22 })
abbrev mX7_comesSet : zM := (yX7_comesSet, cX7_comesSet, 3, (some .boolean), { frames := 1, cells := 0, slots := 0, locals := 22 })
abbrev mX7_comes : zM := (yX7_comes, cX7_comes, 4, (some .boolean), { frames := 7, cells := 0, slots := 0, locals := 150 })
abbrev mX7_parlour : zM := (yX7_parlour, cX7_parlour, 3, (some .int), { frames := 8, cells := 0, slots := 0, locals := 173 })
abbrev mX7_passes : zM := (yX7_passes, cX7_passes, 3, none, { frames := 0, cells := 0, slots := 0, locals := 0 })
abbrev mX7_passOne : zM := (yX7_passOne, cX7_passOne, 3, (some .int), { frames := 0, cells := 0, slots := 0, locals := 0 })
abbrev mX7_passesAll : zM := (yX7_passesAll, cX7_passesAll, 3, none, { frames := 1, cells := 0, slots := 0, locals := 22 })
abbrev mX7_image : zM := (yX7_image, cX7_image, 1, (some .int), { frames := 2, cells := 0, slots := 0, locals := 44 })
abbrev mX7_on : zM := (yX7_on, cX7_on, 1, (some .int), { frames := 2, cells := 0, slots := 0, locals := 44 })
abbrev mX7_swinging : zM := (yX7_swinging, cX7_swinging, 2, (some .int), { frames := 0, cells := 0, slots := 0, locals := 0 })
abbrev mX7_cooling : zM := (yX7_cooling, cX7_cooling, 3, (some .int), { frames := 1, cells := 0, slots := 0, locals := 20 })
abbrev mX7_driftIn : zM := (yX7_driftIn, cX7_driftIn, 2, (some .int), { frames := 2, cells := 0, slots := 0, locals := 42 })
abbrev mX7_botherOf : zM := (yX7_botherOf, cX7_botherOf, 4, (some .int), { frames := 0, cells := 0, slots := 0, locals := 0 })
abbrev mX7_placeOf : zM := (yX7_placeOf, cX7_placeOf, 2, (some .int), { frames := 0, cells := 0, slots := 0, locals := 0 })
abbrev mX7_isUp : zM := (yX7_isUp, cX7_isUp, 2, (some .boolean), { frames := 1, cells := 0, slots := 0, locals := 21 })
abbrev mX7_shouldBe : zM := (yX7_shouldBe, cX7_shouldBe, 3, (some .int), { frames := 3, cells := 0, slots := 0, locals := 63 })
abbrev mX7_turnsTo : zM := (yX7_turnsTo, cX7_turnsTo, 5, none, { frames := 1, cells := 0, slots := 0, locals := 20 })
abbrev mX7_begins : zM := (yX7_begins, cX7_begins, 2, none, { frames := 0, cells := 0, slots := 0, locals := 0 })
abbrev mX7_getsUp : zM := (yX7_getsUp, cX7_getsUp, 1, none, { frames := 4, cells := 0, slots := 0, locals := 85 })
abbrev mX7_goesOne : zM := (yX7_goesOne, cX7_goesOne, 4, none, { frames := 5, cells := 0, slots := 0, locals := 105 })
abbrev mX7_goes : zM := (yX7_goes, cX7_goes, 3, none, { frames := 6, cells := 0, slots := 0, locals := 128 })
abbrev mX7_costOf : zM := (yX7_costOf, cX7_costOf, 3, (some .int), { frames := 0, cells := 0, slots := 0, locals := 0 })
abbrev mX7_thinks : zM := (yX7_thinks, cX7_thinks, 5, (some .int), { frames := 7, cells := 0, slots := 0, locals := 150 })
abbrev mX7_thinksWith : zM := (yX7_thinksWith, cX7_thinksWith, 6, (some .int), { frames := 8, cells := 0, slots := 0, locals := 174 })
abbrev mX7_thinksByRule : zM := (yX7_thinksByRule, cX7_thinksByRule, 5, (some .int), { frames := 8, cells := 0, slots := 0, locals := 174 })
abbrev mX7_thinksFirst : zM := (yX7_thinksFirst, cX7_thinksFirst, 5, (some .int), { frames := 8, cells := 0, slots := 0, locals := 174 })
abbrev mX7_person : zM := (yX7_person, cX7_person, 3, (some .int), { frames := 1, cells := 0, slots := 0, locals := 21 })
abbrev mX7_bothers : zM := (yX7_bothers, cX7_bothers, 4, (some .int), { frames := 1, cells := 0, slots := 0, locals := 23 })
abbrev mX7_place : zM := (yX7_place, cX7_place, 2, (some .int), { frames := 1, cells := 0, slots := 0, locals := 22 })
abbrev mX7_set : zM := (yX7_set, cX7_set, 5, (some .int), { frames := 1, cells := 0, slots := 0, locals := 22 })
abbrev mX7_kind : zM := (yX7_kind, cX7_kind, 4, (some .int), { frames := 1, cells := 0, slots := 0, locals := 22 })
abbrev mX7_turn : zM := (yX7_turn, cX7_turn, 3, (some .int), { frames := 1, cells := 0, slots := 0, locals := 21 })
abbrev mX7_drifts : zM := (yX7_drifts, cX7_drifts, 3, (some .int), { frames := 3, cells := 0, slots := 0, locals := 63 })
abbrev mX7_go : zM := (yX7_go, cX7_go, 3, (some .int), { frames := 7, cells := 0, slots := 0, locals := 150 })
abbrev mX7_cost : zM := (yX7_cost, cX7_cost, 5, (some .int), { frames := 8, cells := 0, slots := 0, locals := 174 })
abbrev mX7_at : zM := (yX7_at, cX7_at, 3, (some .int), { frames := 8, cells := 0, slots := 0, locals := 174 })
abbrev mX7_bothOf : zM := (yX7_bothOf, cX7_bothOf, 2, (some .int), { frames := 0, cells := 0, slots := 0, locals := 0 })
abbrev mX7_of : zM := (yX7_of, cX7_of, 5, (some .int), { frames := 8, cells := 0, slots := 0, locals := 174 })
abbrev mX7_bestSet : zM := (yX7_bestSet, cX7_bestSet, 7, (some .int), { frames := 9, cells := 0, slots := 0, locals := 199 })
abbrev mX7_bestRule : zM := (yX7_bestRule, cX7_bestRule, 4, (some .int), { frames := 9, cells := 0, slots := 0, locals := 198 })
abbrev mX7_bestFirst : zM := (yX7_bestFirst, cX7_bestFirst, 4, (some .int), { frames := 9, cells := 0, slots := 0, locals := 198 })
abbrev mX7_best : zM := (yX7_best, cX7_best, 4, (some .int), { frames := 10, cells := 0, slots := 0, locals := 225 })
abbrev mX7_finer : zM := (yX7_finer, cX7_finer, 7, (some .int), { frames := 8, cells := 0, slots := 0, locals := 174 })
abbrev mX7_mark : zM := (yX7_mark, cX7_mark, 5, (some .int), { frames := 8, cells := 0, slots := 0, locals := 174 })
abbrev mX7_most : zM := (yX7_most, cX7_most, 5, (some .int), { frames := 8, cells := 0, slots := 0, locals := 174 })
abbrev mX7_between : zM := (yX7_between, cX7_between, 3, (some .int), { frames := 10, cells := 0, slots := 0, locals := 225 })
abbrev mX7_leave : zM := (yX7_leave, cX7_leave, 4, (some .int), { frames := 9, cells := 0, slots := 0, locals := 198 })
abbrev mX7_isOff : zM := (yX7_isOff, cX7_isOff, 2, (some .boolean), { frames := 1, cells := 0, slots := 0, locals := 20 })
abbrev mX7_holdsFrom : zM := (yX7_holdsFrom, cX7_holdsFrom, 4, (some .int), { frames := 9, cells := 0, slots := 0, locals := 199 })
abbrev mX7_holds : zM := (yX7_holds, cX7_holds, 3, (some .int), { frames := 10, cells := 0, slots := 0, locals := 222 })
abbrev mX7_setAt : zM := (yX7_setAt, cX7_setAt, 5, (some .int), { frames := 10, cells := 0, slots := 0, locals := 222 })
abbrev mX7_isStill : zM := (yX7_isStill, cX7_isStill, 3, (some .boolean), { frames := 3, cells := 0, slots := 0, locals := 63 })
abbrev mX7_steadyFrom : zM := (yX7_steadyFrom, cX7_steadyFrom, 2, (some .int), { frames := 4, cells := 0, slots := 0, locals := 85 })
abbrev mX7_whoLast : zM := (yX7_whoLast, cX7_whoLast, 3, (some .int), { frames := 8, cells := 0, slots := 0, locals := 174 })
abbrev mX7_when : zM := (yX7_when, cX7_when, 2, (some .int), { frames := 8, cells := 0, slots := 0, locals := 174 })
abbrev mX7_row : zM := (yX7_row, cX7_row, 3, (some .int), { frames := 1, cells := 0, slots := 0, locals := 22 })
abbrev mX7_firstOther : zM := (yX7_firstOther, cX7_firstOther, 3, (some .int), { frames := 0, cells := 0, slots := 0, locals := 0 })
abbrev mX7_kept : zM := (yX7_kept, cX7_kept, 5, (some .int), { frames := 9, cells := 0, slots := 0, locals := 199 })
abbrev mX7_judge : zM := (yX7_judge, cX7_judge, 2, (some .int), { frames := 8, cells := 0, slots := 0, locals := 174 })
abbrev mX7_lots : zM := (yX7_lots, cX7_lots, 7, (some .int), { frames := 9, cells := 0, slots := 0, locals := 199 })
abbrev mX7_count : zM := (yX7_count, cX7_count, 4, (some .int), { frames := 1, cells := 0, slots := 0, locals := 22 })
abbrev mJ0_length_8abf5 : zM := (yJ0_length_8abf5, cJ0_length_8abf5, 1, (some .int), { frames := 1, cells := 0, slots := 0, locals := 20 })
abbrev mJ0_isEmpty_aae02 : zM := (yJ0_isEmpty_aae02, cJ0_isEmpty_aae02, 1, (some .boolean), { frames := 0, cells := 0, slots := 0, locals := 0 })
abbrev mJ0_charAt_5068e : zM := (yJ0_charAt_5068e, cJ0_charAt_5068e, 2, (some .char), { frames := 3, cells := 0, slots := 0, locals := 64 })
abbrev mJ0_indexOf_0f7a4 : zM := (yJ0_indexOf_0f7a4, cJ0_indexOf_0f7a4, 2, (some .int), { frames := 3, cells := 0, slots := 0, locals := 70 })
abbrev mJ0_indexOf_7cf53 : zM := (yJ0_indexOf_7cf53, cJ0_indexOf_7cf53, 3, (some .int), { frames := 2, cells := 0, slots := 0, locals := 48 })
abbrev mJ0_coder_7d493 : zM := (yJ0_coder_7d493, cJ0_coder_7d493, 1, (some .byte), { frames := 0, cells := 0, slots := 0, locals := 0 })
abbrev mJ0_isLatin1_aae02 : zM := (yJ0_isLatin1_aae02, cJ0_isLatin1_aae02, 1, (some .boolean), { frames := 0, cells := 0, slots := 0, locals := 0 })
abbrev mJ0_checkIndex_df160 : zM := (yJ0_checkIndex_df160, cJ0_checkIndex_df160, 2, none, { frames := 1, cells := 0, slots := 0, locals := 22 })
abbrev mJ1_charAt_3b067 : zM := (yJ1_charAt_3b067, cJ1_charAt_3b067, 2, (some .char), { frames := 2, cells := 0, slots := 0, locals := 43 })
abbrev mJ1_canEncode_9a6ad : zM := (yJ1_canEncode_9a6ad, cJ1_canEncode_9a6ad, 1, (some .boolean), { frames := 0, cells := 0, slots := 0, locals := 0 })
abbrev mJ1_indexOf_4cfef : zM := (yJ1_indexOf_4cfef, cJ1_indexOf_4cfef, 4, (some .int), { frames := 1, cells := 0, slots := 0, locals := 25 })
abbrev mJ1_indexOfChar_4cfef : zM := (yJ1_indexOfChar_4cfef, cJ1_indexOfChar_4cfef, 6, (some .int), { frames := 0, cells := 0, slots := 0, locals := 0 })
abbrev mJ3_checkIndex_8e157 : zM := (yJ3_checkIndex_8e157, cJ3_checkIndex_8e157, 3, (some .int), { frames := 0, cells := 0, slots := 0, locals := 0 })
abbrev mL_law : zM := (yL_law, code, 4, some .boolean, room_1)
theorem inX0 : ∀ w ∈ u_ws RX0 TX0 6, w ∈ zAL := by
  intro w hw
  obtain ⟨k, hk, rfl⟩ := List.mem_map.mp hw
  have hk := List.mem_range.mp hk
  match k, hk with
  | 0, _ => exact al_1 162 (by decide +kernel)
  | 1, _ => exact al_1 164 (by decide +kernel)
  | 2, _ => exact al_1 166 (by decide +kernel)
  | 3, _ => exact al_1 168 (by decide +kernel)
  | 4, _ => exact al_1 170 (by decide +kernel)
  | 5, _ => exact al_1 172 (by decide +kernel)
theorem inX1 : ∀ w ∈ u_ws RX1 TX1 2, w ∈ zAL := by
  intro w hw
  obtain ⟨k, hk, rfl⟩ := List.mem_map.mp hw
  have hk := List.mem_range.mp hk
  match k, hk with
  | 0, _ => exact al_1 42 (by decide +kernel)
  | 1, _ => exact al_1 44 (by decide +kernel)
theorem inX2 : ∀ w ∈ u_ws RX2 TX2 9, w ∈ zAL := by
  intro w hw
  obtain ⟨k, hk, rfl⟩ := List.mem_map.mp hw
  have hk := List.mem_range.mp hk
  match k, hk with
  | 0, _ => exact al_1 130 (by decide +kernel)
  | 1, _ => exact al_1 132 (by decide +kernel)
  | 2, _ => exact al_1 134 (by decide +kernel)
  | 3, _ => exact al_1 136 (by decide +kernel)
  | 4, _ => exact al_1 138 (by decide +kernel)
  | 5, _ => exact al_1 140 (by decide +kernel)
  | 6, _ => exact al_1 142 (by decide +kernel)
  | 7, _ => exact al_1 144 (by decide +kernel)
  | 8, _ => exact al_1 146 (by decide +kernel)
theorem inX3 : ∀ w ∈ u_ws RX3 TX3 6, w ∈ zAL := by
  intro w hw
  obtain ⟨k, hk, rfl⟩ := List.mem_map.mp hw
  have hk := List.mem_range.mp hk
  match k, hk with
  | 0, _ => exact al_1 95 (by decide +kernel)
  | 1, _ => exact al_1 97 (by decide +kernel)
  | 2, _ => exact al_1 99 (by decide +kernel)
  | 3, _ => exact al_1 101 (by decide +kernel)
  | 4, _ => exact al_1 103 (by decide +kernel)
  | 5, _ => exact al_1 105 (by decide +kernel)
theorem inX4 : ∀ w ∈ u_ws RX4 TX4 3, w ∈ zAL := by
  intro w hw
  obtain ⟨k, hk, rfl⟩ := List.mem_map.mp hw
  have hk := List.mem_range.mp hk
  match k, hk with
  | 0, _ => exact al_1 65 (by decide +kernel)
  | 1, _ => exact al_1 67 (by decide +kernel)
  | 2, _ => exact al_1 69 (by decide +kernel)
theorem inX5 : ∀ w ∈ u_ws RX5 TX5 2, w ∈ zAL := by
  intro w hw
  obtain ⟨k, hk, rfl⟩ := List.mem_map.mp hw
  have hk := List.mem_range.mp hk
  match k, hk with
  | 0, _ => exact al_1 185 (by decide +kernel)
  | 1, _ => exact al_1 187 (by decide +kernel)
theorem inX6 : ∀ w ∈ u_ws RX6 TX6 9, w ∈ zAL := by
  intro w hw
  obtain ⟨k, hk, rfl⟩ := List.mem_map.mp hw
  have hk := List.mem_range.mp hk
  match k, hk with
  | 0, _ => exact al_1 200 (by decide +kernel)
  | 1, _ => exact al_1 202 (by decide +kernel)
  | 2, _ => exact al_1 204 (by decide +kernel)
  | 3, _ => exact al_1 206 (by decide +kernel)
  | 4, _ => exact al_1 208 (by decide +kernel)
  | 5, _ => exact al_1 210 (by decide +kernel)
  | 6, _ => exact al_1 212 (by decide +kernel)
  | 7, _ => exact al_1 214 (by decide +kernel)
  | 8, _ => exact al_1 216 (by decide +kernel)
theorem inX7 : ∀ w ∈ u_ws RX7 TX7 36, w ∈ zAL := by
  intro w hw
  obtain ⟨k, hk, rfl⟩ := List.mem_map.mp hw
  have hk := List.mem_range.mp hk
  match k, hk with
  | 0, _ => exact al_4 59 (by decide +kernel)
  | 1, _ => exact al_4 61 (by decide +kernel)
  | 2, _ => exact al_4 63 (by decide +kernel)
  | 3, _ => exact al_4 65 (by decide +kernel)
  | 4, _ => exact al_4 67 (by decide +kernel)
  | 5, _ => exact al_4 69 (by decide +kernel)
  | 6, _ => exact al_4 71 (by decide +kernel)
  | 7, _ => exact al_4 73 (by decide +kernel)
  | 8, _ => exact al_4 75 (by decide +kernel)
  | 9, _ => exact al_4 77 (by decide +kernel)
  | 10, _ => exact al_4 79 (by decide +kernel)
  | 11, _ => exact al_4 81 (by decide +kernel)
  | 12, _ => exact al_4 83 (by decide +kernel)
  | 13, _ => exact al_4 85 (by decide +kernel)
  | 14, _ => exact al_4 87 (by decide +kernel)
  | 15, _ => exact al_4 89 (by decide +kernel)
  | 16, _ => exact al_4 91 (by decide +kernel)
  | 17, _ => exact al_4 93 (by decide +kernel)
  | 18, _ => exact al_4 95 (by decide +kernel)
  | 19, _ => exact al_4 97 (by decide +kernel)
  | 20, _ => exact al_4 99 (by decide +kernel)
  | 21, _ => exact al_4 101 (by decide +kernel)
  | 22, _ => exact al_4 103 (by decide +kernel)
  | 23, _ => exact al_4 105 (by decide +kernel)
  | 24, _ => exact al_4 107 (by decide +kernel)
  | 25, _ => exact al_4 109 (by decide +kernel)
  | 26, _ => exact al_4 111 (by decide +kernel)
  | 27, _ => exact al_4 113 (by decide +kernel)
  | 28, _ => exact al_4 115 (by decide +kernel)
  | 29, _ => exact al_4 117 (by decide +kernel)
  | 30, _ => exact al_4 119 (by decide +kernel)
  | 31, _ => exact al_4 121 (by decide +kernel)
  | 32, _ => exact al_4 123 (by decide +kernel)
  | 33, _ => exact al_4 125 (by decide +kernel)
  | 34, _ => exact al_4 127 (by decide +kernel)
  | 35, _ => exact al_4 129 (by decide +kernel)
  | k + 36, hk => exact absurd hk (by omega)
theorem fX6_10 : zF RX6 10 6 0 := ⟨RX6, TX6, 9, tyX6, rfl, (by decide), inX6, al_1 191 (by decide +kernel), tyX6_ok, nmX6⟩
theorem fX6_16 : zF RX6 16 6 1 := ⟨RX6, TX6, 9, tyX6, rfl, (by decide), inX6, al_1 192 (by decide +kernel), tyX6_ok, nmX6⟩
theorem fX6_19 : zF RX6 19 6 2 := ⟨RX6, TX6, 9, tyX6, rfl, (by decide), inX6, al_1 193 (by decide +kernel), tyX6_ok, nmX6⟩
theorem fX6_25 : zF RX6 25 6 4 := ⟨RX6, TX6, 9, tyX6, rfl, (by decide), inX6, al_1 195 (by decide +kernel), tyX6_ok, nmX6⟩
theorem fX6_32 : zF RX6 32 6 5 := ⟨RX6, TX6, 9, tyX6, rfl, (by decide), inX6, al_1 196 (by decide +kernel), tyX6_ok, nmX6⟩
theorem fX6_36 : zF RX6 36 6 6 := ⟨RX6, TX6, 9, tyX6, rfl, (by decide), inX6, al_1 197 (by decide +kernel), tyX6_ok, nmX6⟩
theorem fX6_40 : zF RX6 40 6 8 := ⟨RX6, TX6, 9, tyX6, rfl, (by decide), inX6, al_1 199 (by decide +kernel), tyX6_ok, nmX6⟩
theorem fX6_47 : zF RX6 47 5 1 := ⟨RX5, TX5, 2, tyX5, rfl, (by decide), inX5, al_1 184 (by decide +kernel), tyX5_ok, nmX5⟩
theorem wX6_47 : zFw RX6 47 5 1 .int := ⟨RX5, TX5, 2, tyX5, rfl, (by decide), inX5, al_1 184 (by decide +kernel), tyX5_ok, nmX5, rfl, (by decide +kernel)⟩
theorem fX6_70 : zF RX6 70 2 5 := ⟨RX2, TX2, 9, tyX2, rfl, (by decide), inX2, al_1 120 (by decide +kernel), tyX2_ok, nmX2⟩
theorem sX6_88 : Cond.fieldLink RX6 88 "AHairToTheLeft" "LEAST" "[I" ∈ zAL := al_3 86 (by decide +kernel)
theorem sX6_91 : Cond.fieldLink RX6 91 "AHairToTheLeft" "GREATEST" "[I" ∈ zAL := al_3 87 (by decide +kernel)
theorem fX6_98 : zF RX6 98 2 3 := ⟨RX2, TX2, 9, tyX2, rfl, (by decide), inX2, al_1 115 (by decide +kernel), tyX2_ok, nmX2⟩
theorem fX6_107 : zF RX6 107 2 8 := ⟨RX2, TX2, 9, tyX2, rfl, (by decide), inX2, al_1 129 (by decide +kernel), tyX2_ok, nmX2⟩
theorem wX6_107 : zFw RX6 107 2 8 .int := ⟨RX2, TX2, 9, tyX2, rfl, (by decide), inX2, al_1 129 (by decide +kernel), tyX2_ok, nmX2, rfl, (by decide +kernel)⟩
theorem fX6_128 : zF RX6 128 2 0 := ⟨RX2, TX2, 9, tyX2, rfl, (by decide), inX2, al_1 110 (by decide +kernel), tyX2_ok, nmX2⟩
theorem wX6_128 : zFw RX6 128 2 0 .int := ⟨RX2, TX2, 9, tyX2, rfl, (by decide), inX2, al_1 110 (by decide +kernel), tyX2_ok, nmX2, rfl, (by decide +kernel)⟩
theorem fX6_138 : zF RX6 138 2 6 := ⟨RX2, TX2, 9, tyX2, rfl, (by decide), inX2, al_1 124 (by decide +kernel), tyX2_ok, nmX2⟩
theorem wX6_138 : zFw RX6 138 2 6 .int := ⟨RX2, TX2, 9, tyX2, rfl, (by decide), inX2, al_1 124 (by decide +kernel), tyX2_ok, nmX2, rfl, (by decide +kernel)⟩
theorem fX6_147 : zF RX6 147 0 5 := ⟨RX0, TX0, 6, tyX0, rfl, (by decide), inX0, al_1 161 (by decide +kernel), tyX0_ok, nmX0⟩
theorem wX6_147 : zFw RX6 147 0 5 .int := ⟨RX0, TX0, 6, tyX0, rfl, (by decide), inX0, al_1 161 (by decide +kernel), tyX0_ok, nmX0, rfl, (by decide +kernel)⟩
theorem fX6_150 : zF RX6 150 6 7 := ⟨RX6, TX6, 9, tyX6, rfl, (by decide), inX6, al_1 198 (by decide +kernel), tyX6_ok, nmX6⟩
theorem wX6_150 : zFw RX6 150 6 7 .int := ⟨RX6, TX6, 9, tyX6, rfl, (by decide), inX6, al_1 198 (by decide +kernel), tyX6_ok, nmX6, rfl, (by decide +kernel)⟩
theorem fX6_169 : zF RX6 169 6 3 := ⟨RX6, TX6, 9, tyX6, rfl, (by decide), inX6, al_1 194 (by decide +kernel), tyX6_ok, nmX6⟩
theorem wX6_169 : zFw RX6 169 6 3 .boolean := ⟨RX6, TX6, 9, tyX6, rfl, (by decide), inX6, al_1 194 (by decide +kernel), tyX6_ok, nmX6, rfl, (by decide +kernel)⟩
theorem fX6_173 : zF RX6 173 1 0 := ⟨RX1, TX1, 2, tyX1, rfl, (by decide), inX1, al_1 38 (by decide +kernel), tyX1_ok, nmX1⟩
theorem wX6_173 : zFw RX6 173 1 0 .int := ⟨RX1, TX1, 2, tyX1, rfl, (by decide), inX1, al_1 38 (by decide +kernel), tyX1_ok, nmX1, rfl, (by decide +kernel)⟩
theorem fX6_176 : zF RX6 176 2 4 := ⟨RX2, TX2, 9, tyX2, rfl, (by decide), inX2, al_1 118 (by decide +kernel), tyX2_ok, nmX2⟩
theorem fX6_180 : zF RX6 180 4 0 := ⟨RX4, TX4, 3, tyX4, rfl, (by decide), inX4, al_1 56 (by decide +kernel), tyX4_ok, nmX4⟩
theorem wX6_180 : zFw RX6 180 4 0 .int := ⟨RX4, TX4, 3, tyX4, rfl, (by decide), inX4, al_1 56 (by decide +kernel), tyX4_ok, nmX4, rfl, (by decide +kernel)⟩
theorem fX6_183 : zF RX6 183 4 1 := ⟨RX4, TX4, 3, tyX4, rfl, (by decide), inX4, al_1 60 (by decide +kernel), tyX4_ok, nmX4⟩
theorem wX6_183 : zFw RX6 183 4 1 .int := ⟨RX4, TX4, 3, tyX4, rfl, (by decide), inX4, al_1 60 (by decide +kernel), tyX4_ok, nmX4, rfl, (by decide +kernel)⟩
theorem fX6_186 : zF RX6 186 4 2 := ⟨RX4, TX4, 3, tyX4, rfl, (by decide), inX4, al_1 64 (by decide +kernel), tyX4_ok, nmX4⟩
theorem wX6_186 : zFw RX6 186 4 2 .int := ⟨RX4, TX4, 3, tyX4, rfl, (by decide), inX4, al_1 64 (by decide +kernel), tyX4_ok, nmX4, rfl, (by decide +kernel)⟩
theorem fX6_189 : zF RX6 189 2 7 := ⟨RX2, TX2, 9, tyX2, rfl, (by decide), inX2, al_1 126 (by decide +kernel), tyX2_ok, nmX2⟩
theorem wX6_189 : zFw RX6 189 2 7 .int := ⟨RX2, TX2, 9, tyX2, rfl, (by decide), inX2, al_1 126 (by decide +kernel), tyX2_ok, nmX2, rfl, (by decide +kernel)⟩
theorem fX0_9 : zF RX0 9 0 0 := ⟨RX0, TX0, 6, tyX0, rfl, (by decide), inX0, al_1 155 (by decide +kernel), tyX0_ok, nmX0⟩
theorem fX0_15 : zF RX0 15 0 1 := ⟨RX0, TX0, 6, tyX0, rfl, (by decide), inX0, al_1 156 (by decide +kernel), tyX0_ok, nmX0⟩
theorem fX0_18 : zF RX0 18 0 2 := ⟨RX0, TX0, 6, tyX0, rfl, (by decide), inX0, al_1 157 (by decide +kernel), tyX0_ok, nmX0⟩
theorem fX0_21 : zF RX0 21 0 5 := ⟨RX0, TX0, 6, tyX0, rfl, (by decide), inX0, al_1 160 (by decide +kernel), tyX0_ok, nmX0⟩
theorem wX0_21 : zFw RX0 21 0 5 .int := ⟨RX0, TX0, 6, tyX0, rfl, (by decide), inX0, al_1 160 (by decide +kernel), tyX0_ok, nmX0, rfl, (by decide +kernel)⟩
theorem fX0_25 : zF RX0 25 0 3 := ⟨RX0, TX0, 6, tyX0, rfl, (by decide), inX0, al_1 158 (by decide +kernel), tyX0_ok, nmX0⟩
theorem wX0_25 : zFw RX0 25 0 3 .int := ⟨RX0, TX0, 6, tyX0, rfl, (by decide), inX0, al_1 158 (by decide +kernel), tyX0_ok, nmX0, rfl, (by decide +kernel)⟩
theorem fX0_28 : zF RX0 28 0 4 := ⟨RX0, TX0, 6, tyX0, rfl, (by decide), inX0, al_1 159 (by decide +kernel), tyX0_ok, nmX0⟩
theorem wX0_28 : zFw RX0 28 0 4 .int := ⟨RX0, TX0, 6, tyX0, rfl, (by decide), inX0, al_1 159 (by decide +kernel), tyX0_ok, nmX0, rfl, (by decide +kernel)⟩
theorem fX1_7 : zF RX1 7 1 0 := ⟨RX1, TX1, 2, tyX1, rfl, (by decide), inX1, al_1 35 (by decide +kernel), tyX1_ok, nmX1⟩
theorem wX1_7 : zFw RX1 7 1 0 .int := ⟨RX1, TX1, 2, tyX1, rfl, (by decide), inX1, al_1 35 (by decide +kernel), tyX1_ok, nmX1, rfl, (by decide +kernel)⟩
theorem fX1_13 : zF RX1 13 1 1 := ⟨RX1, TX1, 2, tyX1, rfl, (by decide), inX1, al_1 39 (by decide +kernel), tyX1_ok, nmX1⟩
theorem wX1_13 : zFw RX1 13 1 1 .int := ⟨RX1, TX1, 2, tyX1, rfl, (by decide), inX1, al_1 39 (by decide +kernel), tyX1_ok, nmX1, rfl, (by decide +kernel)⟩
theorem fX2_9 : zF RX2 9 2 2 := ⟨RX2, TX2, 9, tyX2, rfl, (by decide), inX2, al_1 112 (by decide +kernel), tyX2_ok, nmX2⟩
theorem wX2_9 : zFw RX2 9 2 2 .int := ⟨RX2, TX2, 9, tyX2, rfl, (by decide), inX2, al_1 112 (by decide +kernel), tyX2_ok, nmX2, rfl, (by decide +kernel)⟩
theorem fX2_18 : zF RX2 18 2 3 := ⟨RX2, TX2, 9, tyX2, rfl, (by decide), inX2, al_1 113 (by decide +kernel), tyX2_ok, nmX2⟩
theorem fX2_25 : zF RX2 25 2 4 := ⟨RX2, TX2, 9, tyX2, rfl, (by decide), inX2, al_1 116 (by decide +kernel), tyX2_ok, nmX2⟩
theorem fX2_31 : zF RX2 31 2 5 := ⟨RX2, TX2, 9, tyX2, rfl, (by decide), inX2, al_1 119 (by decide +kernel), tyX2_ok, nmX2⟩
theorem fX2_36 : zF RX2 36 2 0 := ⟨RX2, TX2, 9, tyX2, rfl, (by decide), inX2, al_1 108 (by decide +kernel), tyX2_ok, nmX2⟩
theorem wX2_36 : zFw RX2 36 2 0 .int := ⟨RX2, TX2, 9, tyX2, rfl, (by decide), inX2, al_1 108 (by decide +kernel), tyX2_ok, nmX2, rfl, (by decide +kernel)⟩
theorem fX2_39 : zF RX2 39 2 1 := ⟨RX2, TX2, 9, tyX2, rfl, (by decide), inX2, al_1 111 (by decide +kernel), tyX2_ok, nmX2⟩
theorem wX2_39 : zFw RX2 39 2 1 .int := ⟨RX2, TX2, 9, tyX2, rfl, (by decide), inX2, al_1 111 (by decide +kernel), tyX2_ok, nmX2, rfl, (by decide +kernel)⟩
theorem fX2_49 : zF RX2 49 2 6 := ⟨RX2, TX2, 9, tyX2, rfl, (by decide), inX2, al_1 122 (by decide +kernel), tyX2_ok, nmX2⟩
theorem wX2_49 : zFw RX2 49 2 6 .int := ⟨RX2, TX2, 9, tyX2, rfl, (by decide), inX2, al_1 122 (by decide +kernel), tyX2_ok, nmX2, rfl, (by decide +kernel)⟩
theorem fX2_55 : zF RX2 55 2 7 := ⟨RX2, TX2, 9, tyX2, rfl, (by decide), inX2, al_1 125 (by decide +kernel), tyX2_ok, nmX2⟩
theorem wX2_55 : zFw RX2 55 2 7 .int := ⟨RX2, TX2, 9, tyX2, rfl, (by decide), inX2, al_1 125 (by decide +kernel), tyX2_ok, nmX2, rfl, (by decide +kernel)⟩
theorem fX2_58 : zF RX2 58 2 8 := ⟨RX2, TX2, 9, tyX2, rfl, (by decide), inX2, al_1 127 (by decide +kernel), tyX2_ok, nmX2⟩
theorem wX2_58 : zFw RX2 58 2 8 .int := ⟨RX2, TX2, 9, tyX2, rfl, (by decide), inX2, al_1 127 (by decide +kernel), tyX2_ok, nmX2, rfl, (by decide +kernel)⟩
theorem fX2_61 : zF RX2 61 1 1 := ⟨RX1, TX1, 2, tyX1, rfl, (by decide), inX1, al_1 40 (by decide +kernel), tyX1_ok, nmX1⟩
theorem wX2_61 : zFw RX2 61 1 1 .int := ⟨RX1, TX1, 2, tyX1, rfl, (by decide), inX1, al_1 40 (by decide +kernel), tyX1_ok, nmX1, rfl, (by decide +kernel)⟩
theorem fX2_64 : zF RX2 64 4 1 := ⟨RX4, TX4, 3, tyX4, rfl, (by decide), inX4, al_1 58 (by decide +kernel), tyX4_ok, nmX4⟩
theorem wX2_64 : zFw RX2 64 4 1 .int := ⟨RX4, TX4, 3, tyX4, rfl, (by decide), inX4, al_1 58 (by decide +kernel), tyX4_ok, nmX4, rfl, (by decide +kernel)⟩
theorem fX2_67 : zF RX2 67 4 2 := ⟨RX4, TX4, 3, tyX4, rfl, (by decide), inX4, al_1 62 (by decide +kernel), tyX4_ok, nmX4⟩
theorem wX2_67 : zFw RX2 67 4 2 .int := ⟨RX4, TX4, 3, tyX4, rfl, (by decide), inX4, al_1 62 (by decide +kernel), tyX4_ok, nmX4, rfl, (by decide +kernel)⟩
theorem fX2_70 : zF RX2 70 1 0 := ⟨RX1, TX1, 2, tyX1, rfl, (by decide), inX1, al_1 36 (by decide +kernel), tyX1_ok, nmX1⟩
theorem wX2_70 : zFw RX2 70 1 0 .int := ⟨RX1, TX1, 2, tyX1, rfl, (by decide), inX1, al_1 36 (by decide +kernel), tyX1_ok, nmX1, rfl, (by decide +kernel)⟩
theorem fX2_73 : zF RX2 73 4 0 := ⟨RX4, TX4, 3, tyX4, rfl, (by decide), inX4, al_1 54 (by decide +kernel), tyX4_ok, nmX4⟩
theorem wX2_73 : zFw RX2 73 4 0 .int := ⟨RX4, TX4, 3, tyX4, rfl, (by decide), inX4, al_1 54 (by decide +kernel), tyX4_ok, nmX4, rfl, (by decide +kernel)⟩
theorem fX2_78 : zF RX2 78 3 1 := ⟨RX3, TX3, 6, tyX3, rfl, (by decide), inX3, al_1 82 (by decide +kernel), tyX3_ok, nmX3⟩
theorem wX2_78 : zFw RX2 78 3 1 .int := ⟨RX3, TX3, 6, tyX3, rfl, (by decide), inX3, al_1 82 (by decide +kernel), tyX3_ok, nmX3, rfl, (by decide +kernel)⟩
theorem fX2_81 : zF RX2 81 3 4 := ⟨RX3, TX3, 6, tyX3, rfl, (by decide), inX3, al_1 91 (by decide +kernel), tyX3_ok, nmX3⟩
theorem wX2_81 : zFw RX2 81 3 4 .int := ⟨RX3, TX3, 6, tyX3, rfl, (by decide), inX3, al_1 91 (by decide +kernel), tyX3_ok, nmX3, rfl, (by decide +kernel)⟩
theorem fX2_110 : zF RX2 110 3 3 := ⟨RX3, TX3, 6, tyX3, rfl, (by decide), inX3, al_1 88 (by decide +kernel), tyX3_ok, nmX3⟩
theorem wX2_110 : zFw RX2 110 3 3 .int := ⟨RX3, TX3, 6, tyX3, rfl, (by decide), inX3, al_1 88 (by decide +kernel), tyX3_ok, nmX3, rfl, (by decide +kernel)⟩
theorem fX2_124 : zF RX2 124 3 5 := ⟨RX3, TX3, 6, tyX3, rfl, (by decide), inX3, al_1 94 (by decide +kernel), tyX3_ok, nmX3⟩
theorem wX2_124 : zFw RX2 124 3 5 .int := ⟨RX3, TX3, 6, tyX3, rfl, (by decide), inX3, al_1 94 (by decide +kernel), tyX3_ok, nmX3, rfl, (by decide +kernel)⟩
theorem fX3_7 : zF RX3 7 3 4 := ⟨RX3, TX3, 6, tyX3, rfl, (by decide), inX3, al_1 89 (by decide +kernel), tyX3_ok, nmX3⟩
theorem wX3_7 : zFw RX3 7 3 4 .int := ⟨RX3, TX3, 6, tyX3, rfl, (by decide), inX3, al_1 89 (by decide +kernel), tyX3_ok, nmX3, rfl, (by decide +kernel)⟩
theorem fX3_13 : zF RX3 13 3 0 := ⟨RX3, TX3, 6, tyX3, rfl, (by decide), inX3, al_1 79 (by decide +kernel), tyX3_ok, nmX3⟩
theorem wX3_13 : zFw RX3 13 3 0 .int := ⟨RX3, TX3, 6, tyX3, rfl, (by decide), inX3, al_1 79 (by decide +kernel), tyX3_ok, nmX3, rfl, (by decide +kernel)⟩
theorem fX3_16 : zF RX3 16 3 1 := ⟨RX3, TX3, 6, tyX3, rfl, (by decide), inX3, al_1 81 (by decide +kernel), tyX3_ok, nmX3⟩
theorem wX3_16 : zFw RX3 16 3 1 .int := ⟨RX3, TX3, 6, tyX3, rfl, (by decide), inX3, al_1 81 (by decide +kernel), tyX3_ok, nmX3, rfl, (by decide +kernel)⟩
theorem fX3_19 : zF RX3 19 3 2 := ⟨RX3, TX3, 6, tyX3, rfl, (by decide), inX3, al_1 84 (by decide +kernel), tyX3_ok, nmX3⟩
theorem wX3_19 : zFw RX3 19 3 2 .int := ⟨RX3, TX3, 6, tyX3, rfl, (by decide), inX3, al_1 84 (by decide +kernel), tyX3_ok, nmX3, rfl, (by decide +kernel)⟩
theorem fX3_22 : zF RX3 22 3 3 := ⟨RX3, TX3, 6, tyX3, rfl, (by decide), inX3, al_1 86 (by decide +kernel), tyX3_ok, nmX3⟩
theorem wX3_22 : zFw RX3 22 3 3 .int := ⟨RX3, TX3, 6, tyX3, rfl, (by decide), inX3, al_1 86 (by decide +kernel), tyX3_ok, nmX3, rfl, (by decide +kernel)⟩
theorem fX3_25 : zF RX3 25 3 5 := ⟨RX3, TX3, 6, tyX3, rfl, (by decide), inX3, al_1 92 (by decide +kernel), tyX3_ok, nmX3⟩
theorem wX3_25 : zFw RX3 25 3 5 .int := ⟨RX3, TX3, 6, tyX3, rfl, (by decide), inX3, al_1 92 (by decide +kernel), tyX3_ok, nmX3, rfl, (by decide +kernel)⟩
theorem fX4_7 : zF RX4 7 4 0 := ⟨RX4, TX4, 3, tyX4, rfl, (by decide), inX4, al_1 53 (by decide +kernel), tyX4_ok, nmX4⟩
theorem wX4_7 : zFw RX4 7 4 0 .int := ⟨RX4, TX4, 3, tyX4, rfl, (by decide), inX4, al_1 53 (by decide +kernel), tyX4_ok, nmX4, rfl, (by decide +kernel)⟩
theorem fX4_13 : zF RX4 13 4 1 := ⟨RX4, TX4, 3, tyX4, rfl, (by decide), inX4, al_1 57 (by decide +kernel), tyX4_ok, nmX4⟩
theorem wX4_13 : zFw RX4 13 4 1 .int := ⟨RX4, TX4, 3, tyX4, rfl, (by decide), inX4, al_1 57 (by decide +kernel), tyX4_ok, nmX4, rfl, (by decide +kernel)⟩
theorem fX4_16 : zF RX4 16 4 2 := ⟨RX4, TX4, 3, tyX4, rfl, (by decide), inX4, al_1 61 (by decide +kernel), tyX4_ok, nmX4⟩
theorem wX4_16 : zFw RX4 16 4 2 .int := ⟨RX4, TX4, 3, tyX4, rfl, (by decide), inX4, al_1 61 (by decide +kernel), tyX4_ok, nmX4, rfl, (by decide +kernel)⟩
theorem fX5_9 : zF RX5 9 5 0 := ⟨RX5, TX5, 2, tyX5, rfl, (by decide), inX5, al_1 182 (by decide +kernel), tyX5_ok, nmX5⟩
theorem fX5_15 : zF RX5 15 5 1 := ⟨RX5, TX5, 2, tyX5, rfl, (by decide), inX5, al_1 183 (by decide +kernel), tyX5_ok, nmX5⟩
theorem wX5_15 : zFw RX5 15 5 1 .int := ⟨RX5, TX5, 2, tyX5, rfl, (by decide), inX5, al_1 183 (by decide +kernel), tyX5_ok, nmX5, rfl, (by decide +kernel)⟩
theorem fX5_70 : zF RX5 70 2 0 := ⟨RX2, TX2, 9, tyX2, rfl, (by decide), inX2, al_1 109 (by decide +kernel), tyX2_ok, nmX2⟩
theorem wX5_70 : zFw RX5 70 2 0 .int := ⟨RX2, TX2, 9, tyX2, rfl, (by decide), inX2, al_1 109 (by decide +kernel), tyX2_ok, nmX2, rfl, (by decide +kernel)⟩
theorem fX5_78 : zF RX5 78 2 3 := ⟨RX2, TX2, 9, tyX2, rfl, (by decide), inX2, al_1 114 (by decide +kernel), tyX2_ok, nmX2⟩
theorem fX5_88 : zF RX5 88 1 0 := ⟨RX1, TX1, 2, tyX1, rfl, (by decide), inX1, al_1 37 (by decide +kernel), tyX1_ok, nmX1⟩
theorem wX5_88 : zFw RX5 88 1 0 .int := ⟨RX1, TX1, 2, tyX1, rfl, (by decide), inX1, al_1 37 (by decide +kernel), tyX1_ok, nmX1, rfl, (by decide +kernel)⟩
theorem fX5_96 : zF RX5 96 1 1 := ⟨RX1, TX1, 2, tyX1, rfl, (by decide), inX1, al_1 41 (by decide +kernel), tyX1_ok, nmX1⟩
theorem wX5_96 : zFw RX5 96 1 1 .int := ⟨RX1, TX1, 2, tyX1, rfl, (by decide), inX1, al_1 41 (by decide +kernel), tyX1_ok, nmX1, rfl, (by decide +kernel)⟩
theorem fX5_106 : zF RX5 106 2 6 := ⟨RX2, TX2, 9, tyX2, rfl, (by decide), inX2, al_1 123 (by decide +kernel), tyX2_ok, nmX2⟩
theorem wX5_106 : zFw RX5 106 2 6 .int := ⟨RX2, TX2, 9, tyX2, rfl, (by decide), inX2, al_1 123 (by decide +kernel), tyX2_ok, nmX2, rfl, (by decide +kernel)⟩
theorem fX5_109 : zF RX5 109 2 5 := ⟨RX2, TX2, 9, tyX2, rfl, (by decide), inX2, al_1 121 (by decide +kernel), tyX2_ok, nmX2⟩
theorem fX5_115 : zF RX5 115 3 0 := ⟨RX3, TX3, 6, tyX3, rfl, (by decide), inX3, al_1 80 (by decide +kernel), tyX3_ok, nmX3⟩
theorem wX5_115 : zFw RX5 115 3 0 .int := ⟨RX3, TX3, 6, tyX3, rfl, (by decide), inX3, al_1 80 (by decide +kernel), tyX3_ok, nmX3, rfl, (by decide +kernel)⟩
theorem fX5_118 : zF RX5 118 3 1 := ⟨RX3, TX3, 6, tyX3, rfl, (by decide), inX3, al_1 83 (by decide +kernel), tyX3_ok, nmX3⟩
theorem wX5_118 : zFw RX5 118 3 1 .int := ⟨RX3, TX3, 6, tyX3, rfl, (by decide), inX3, al_1 83 (by decide +kernel), tyX3_ok, nmX3, rfl, (by decide +kernel)⟩
theorem fX5_121 : zF RX5 121 3 2 := ⟨RX3, TX3, 6, tyX3, rfl, (by decide), inX3, al_1 85 (by decide +kernel), tyX3_ok, nmX3⟩
theorem wX5_121 : zFw RX5 121 3 2 .int := ⟨RX3, TX3, 6, tyX3, rfl, (by decide), inX3, al_1 85 (by decide +kernel), tyX3_ok, nmX3, rfl, (by decide +kernel)⟩
theorem fX5_124 : zF RX5 124 3 3 := ⟨RX3, TX3, 6, tyX3, rfl, (by decide), inX3, al_1 87 (by decide +kernel), tyX3_ok, nmX3⟩
theorem wX5_124 : zFw RX5 124 3 3 .int := ⟨RX3, TX3, 6, tyX3, rfl, (by decide), inX3, al_1 87 (by decide +kernel), tyX3_ok, nmX3, rfl, (by decide +kernel)⟩
theorem fX5_127 : zF RX5 127 3 4 := ⟨RX3, TX3, 6, tyX3, rfl, (by decide), inX3, al_1 90 (by decide +kernel), tyX3_ok, nmX3⟩
theorem wX5_127 : zFw RX5 127 3 4 .int := ⟨RX3, TX3, 6, tyX3, rfl, (by decide), inX3, al_1 90 (by decide +kernel), tyX3_ok, nmX3, rfl, (by decide +kernel)⟩
theorem fX5_130 : zF RX5 130 3 5 := ⟨RX3, TX3, 6, tyX3, rfl, (by decide), inX3, al_1 93 (by decide +kernel), tyX3_ok, nmX3⟩
theorem wX5_130 : zFw RX5 130 3 5 .int := ⟨RX3, TX3, 6, tyX3, rfl, (by decide), inX3, al_1 93 (by decide +kernel), tyX3_ok, nmX3, rfl, (by decide +kernel)⟩
theorem fX5_147 : zF RX5 147 2 4 := ⟨RX2, TX2, 9, tyX2, rfl, (by decide), inX2, al_1 117 (by decide +kernel), tyX2_ok, nmX2⟩
theorem fX5_153 : zF RX5 153 4 0 := ⟨RX4, TX4, 3, tyX4, rfl, (by decide), inX4, al_1 55 (by decide +kernel), tyX4_ok, nmX4⟩
theorem wX5_153 : zFw RX5 153 4 0 .int := ⟨RX4, TX4, 3, tyX4, rfl, (by decide), inX4, al_1 55 (by decide +kernel), tyX4_ok, nmX4, rfl, (by decide +kernel)⟩
theorem fX5_156 : zF RX5 156 4 1 := ⟨RX4, TX4, 3, tyX4, rfl, (by decide), inX4, al_1 59 (by decide +kernel), tyX4_ok, nmX4⟩
theorem wX5_156 : zFw RX5 156 4 1 .int := ⟨RX4, TX4, 3, tyX4, rfl, (by decide), inX4, al_1 59 (by decide +kernel), tyX4_ok, nmX4, rfl, (by decide +kernel)⟩
theorem fX5_159 : zF RX5 159 4 2 := ⟨RX4, TX4, 3, tyX4, rfl, (by decide), inX4, al_1 63 (by decide +kernel), tyX4_ok, nmX4⟩
theorem wX5_159 : zFw RX5 159 4 2 .int := ⟨RX4, TX4, 3, tyX4, rfl, (by decide), inX4, al_1 63 (by decide +kernel), tyX4_ok, nmX4, rfl, (by decide +kernel)⟩
theorem fX5_162 : zF RX5 162 2 8 := ⟨RX2, TX2, 9, tyX2, rfl, (by decide), inX2, al_1 128 (by decide +kernel), tyX2_ok, nmX2⟩
theorem wX5_162 : zFw RX5 162 2 8 .int := ⟨RX2, TX2, 9, tyX2, rfl, (by decide), inX2, al_1 128 (by decide +kernel), tyX2_ok, nmX2, rfl, (by decide +kernel)⟩
theorem fX7_7 : zF RX7 7 7 0 := ⟨RX7, TX7, 36, tyX7, rfl, (by decide), inX7, al_4 23 (by decide +kernel), tyX7_ok, nmX7⟩
theorem fX7_13 : zF RX7 13 7 1 := ⟨RX7, TX7, 36, tyX7, rfl, (by decide), inX7, al_4 24 (by decide +kernel), tyX7_ok, nmX7⟩
theorem fX7_16 : zF RX7 16 7 2 := ⟨RX7, TX7, 36, tyX7, rfl, (by decide), inX7, al_4 25 (by decide +kernel), tyX7_ok, nmX7⟩
theorem fX7_19 : zF RX7 19 7 3 := ⟨RX7, TX7, 36, tyX7, rfl, (by decide), inX7, al_4 26 (by decide +kernel), tyX7_ok, nmX7⟩
theorem fX7_22 : zF RX7 22 7 4 := ⟨RX7, TX7, 36, tyX7, rfl, (by decide), inX7, al_4 27 (by decide +kernel), tyX7_ok, nmX7⟩
theorem fX7_25 : zF RX7 25 7 5 := ⟨RX7, TX7, 36, tyX7, rfl, (by decide), inX7, al_4 28 (by decide +kernel), tyX7_ok, nmX7⟩
theorem fX7_28 : zF RX7 28 7 6 := ⟨RX7, TX7, 36, tyX7, rfl, (by decide), inX7, al_4 29 (by decide +kernel), tyX7_ok, nmX7⟩
theorem fX7_31 : zF RX7 31 7 7 := ⟨RX7, TX7, 36, tyX7, rfl, (by decide), inX7, al_4 30 (by decide +kernel), tyX7_ok, nmX7⟩
theorem fX7_34 : zF RX7 34 7 13 := ⟨RX7, TX7, 36, tyX7, rfl, (by decide), inX7, al_4 36 (by decide +kernel), tyX7_ok, nmX7⟩
theorem fX7_37 : zF RX7 37 7 14 := ⟨RX7, TX7, 36, tyX7, rfl, (by decide), inX7, al_4 37 (by decide +kernel), tyX7_ok, nmX7⟩
theorem fX7_40 : zF RX7 40 7 15 := ⟨RX7, TX7, 36, tyX7, rfl, (by decide), inX7, al_4 38 (by decide +kernel), tyX7_ok, nmX7⟩
theorem fX7_43 : zF RX7 43 7 16 := ⟨RX7, TX7, 36, tyX7, rfl, (by decide), inX7, al_4 39 (by decide +kernel), tyX7_ok, nmX7⟩
theorem fX7_46 : zF RX7 46 7 20 := ⟨RX7, TX7, 36, tyX7, rfl, (by decide), inX7, al_4 43 (by decide +kernel), tyX7_ok, nmX7⟩
theorem fX7_49 : zF RX7 49 7 24 := ⟨RX7, TX7, 36, tyX7, rfl, (by decide), inX7, al_4 47 (by decide +kernel), tyX7_ok, nmX7⟩
theorem fX7_52 : zF RX7 52 7 25 := ⟨RX7, TX7, 36, tyX7, rfl, (by decide), inX7, al_4 48 (by decide +kernel), tyX7_ok, nmX7⟩
theorem fX7_55 : zF RX7 55 7 26 := ⟨RX7, TX7, 36, tyX7, rfl, (by decide), inX7, al_4 49 (by decide +kernel), tyX7_ok, nmX7⟩
theorem fX7_58 : zF RX7 58 7 27 := ⟨RX7, TX7, 36, tyX7, rfl, (by decide), inX7, al_4 50 (by decide +kernel), tyX7_ok, nmX7⟩
theorem fX7_61 : zF RX7 61 7 34 := ⟨RX7, TX7, 36, tyX7, rfl, (by decide), inX7, al_4 57 (by decide +kernel), tyX7_ok, nmX7⟩
theorem fX7_65 : zF RX7 65 7 8 := ⟨RX7, TX7, 36, tyX7, rfl, (by decide), inX7, al_4 31 (by decide +kernel), tyX7_ok, nmX7⟩
theorem wX7_65 : zFw RX7 65 7 8 .int := ⟨RX7, TX7, 36, tyX7, rfl, (by decide), inX7, al_4 31 (by decide +kernel), tyX7_ok, nmX7, rfl, (by decide +kernel)⟩
theorem fX7_73 : zF RX7 73 7 17 := ⟨RX7, TX7, 36, tyX7, rfl, (by decide), inX7, al_4 40 (by decide +kernel), tyX7_ok, nmX7⟩
theorem wX7_73 : zFw RX7 73 7 17 .int := ⟨RX7, TX7, 36, tyX7, rfl, (by decide), inX7, al_4 40 (by decide +kernel), tyX7_ok, nmX7, rfl, (by decide +kernel)⟩
theorem fX7_80 : zF RX7 80 7 18 := ⟨RX7, TX7, 36, tyX7, rfl, (by decide), inX7, al_4 41 (by decide +kernel), tyX7_ok, nmX7⟩
theorem wX7_80 : zFw RX7 80 7 18 .int := ⟨RX7, TX7, 36, tyX7, rfl, (by decide), inX7, al_4 41 (by decide +kernel), tyX7_ok, nmX7, rfl, (by decide +kernel)⟩
theorem fX7_114 : zF RX7 114 7 19 := ⟨RX7, TX7, 36, tyX7, rfl, (by decide), inX7, al_4 42 (by decide +kernel), tyX7_ok, nmX7⟩
theorem wX7_114 : zFw RX7 114 7 19 .int := ⟨RX7, TX7, 36, tyX7, rfl, (by decide), inX7, al_4 42 (by decide +kernel), tyX7_ok, nmX7, rfl, (by decide +kernel)⟩
theorem fX7_132 : zF RX7 132 7 9 := ⟨RX7, TX7, 36, tyX7, rfl, (by decide), inX7, al_4 32 (by decide +kernel), tyX7_ok, nmX7⟩
theorem wX7_132 : zFw RX7 132 7 9 .int := ⟨RX7, TX7, 36, tyX7, rfl, (by decide), inX7, al_4 32 (by decide +kernel), tyX7_ok, nmX7, rfl, (by decide +kernel)⟩
theorem fX7_135 : zF RX7 135 7 10 := ⟨RX7, TX7, 36, tyX7, rfl, (by decide), inX7, al_4 33 (by decide +kernel), tyX7_ok, nmX7⟩
theorem wX7_135 : zFw RX7 135 7 10 .int := ⟨RX7, TX7, 36, tyX7, rfl, (by decide), inX7, al_4 33 (by decide +kernel), tyX7_ok, nmX7, rfl, (by decide +kernel)⟩
theorem fX7_138 : zF RX7 138 7 12 := ⟨RX7, TX7, 36, tyX7, rfl, (by decide), inX7, al_4 35 (by decide +kernel), tyX7_ok, nmX7⟩
theorem wX7_138 : zFw RX7 138 7 12 .int := ⟨RX7, TX7, 36, tyX7, rfl, (by decide), inX7, al_4 35 (by decide +kernel), tyX7_ok, nmX7, rfl, (by decide +kernel)⟩
theorem fX7_156 : zF RX7 156 7 22 := ⟨RX7, TX7, 36, tyX7, rfl, (by decide), inX7, al_4 45 (by decide +kernel), tyX7_ok, nmX7⟩
theorem wX7_156 : zFw RX7 156 7 22 .boolean := ⟨RX7, TX7, 36, tyX7, rfl, (by decide), inX7, al_4 45 (by decide +kernel), tyX7_ok, nmX7, rfl, (by decide +kernel)⟩
theorem fX7_160 : zF RX7 160 7 23 := ⟨RX7, TX7, 36, tyX7, rfl, (by decide), inX7, al_4 46 (by decide +kernel), tyX7_ok, nmX7⟩
theorem wX7_160 : zFw RX7 160 7 23 .int := ⟨RX7, TX7, 36, tyX7, rfl, (by decide), inX7, al_4 46 (by decide +kernel), tyX7_ok, nmX7, rfl, (by decide +kernel)⟩
theorem fX7_170 : zF RX7 170 7 11 := ⟨RX7, TX7, 36, tyX7, rfl, (by decide), inX7, al_4 34 (by decide +kernel), tyX7_ok, nmX7⟩
theorem wX7_170 : zFw RX7 170 7 11 .int := ⟨RX7, TX7, 36, tyX7, rfl, (by decide), inX7, al_4 34 (by decide +kernel), tyX7_ok, nmX7, rfl, (by decide +kernel)⟩
theorem fX7_173 : zF RX7 173 7 21 := ⟨RX7, TX7, 36, tyX7, rfl, (by decide), inX7, al_4 44 (by decide +kernel), tyX7_ok, nmX7⟩
theorem wX7_173 : zFw RX7 173 7 21 .boolean := ⟨RX7, TX7, 36, tyX7, rfl, (by decide), inX7, al_4 44 (by decide +kernel), tyX7_ok, nmX7, rfl, (by decide +kernel)⟩
theorem fX7_191 : zF RX7 191 7 28 := ⟨RX7, TX7, 36, tyX7, rfl, (by decide), inX7, al_4 51 (by decide +kernel), tyX7_ok, nmX7⟩
theorem wX7_191 : zFw RX7 191 7 28 .int := ⟨RX7, TX7, 36, tyX7, rfl, (by decide), inX7, al_4 51 (by decide +kernel), tyX7_ok, nmX7, rfl, (by decide +kernel)⟩
theorem fX7_194 : zF RX7 194 7 29 := ⟨RX7, TX7, 36, tyX7, rfl, (by decide), inX7, al_4 52 (by decide +kernel), tyX7_ok, nmX7⟩
theorem wX7_194 : zFw RX7 194 7 29 .int := ⟨RX7, TX7, 36, tyX7, rfl, (by decide), inX7, al_4 52 (by decide +kernel), tyX7_ok, nmX7, rfl, (by decide +kernel)⟩
theorem fX7_197 : zF RX7 197 7 30 := ⟨RX7, TX7, 36, tyX7, rfl, (by decide), inX7, al_4 53 (by decide +kernel), tyX7_ok, nmX7⟩
theorem wX7_197 : zFw RX7 197 7 30 .int := ⟨RX7, TX7, 36, tyX7, rfl, (by decide), inX7, al_4 53 (by decide +kernel), tyX7_ok, nmX7, rfl, (by decide +kernel)⟩
theorem fX7_200 : zF RX7 200 7 31 := ⟨RX7, TX7, 36, tyX7, rfl, (by decide), inX7, al_4 54 (by decide +kernel), tyX7_ok, nmX7⟩
theorem wX7_200 : zFw RX7 200 7 31 .int := ⟨RX7, TX7, 36, tyX7, rfl, (by decide), inX7, al_4 54 (by decide +kernel), tyX7_ok, nmX7, rfl, (by decide +kernel)⟩
theorem fX7_203 : zF RX7 203 7 32 := ⟨RX7, TX7, 36, tyX7, rfl, (by decide), inX7, al_4 55 (by decide +kernel), tyX7_ok, nmX7⟩
theorem wX7_203 : zFw RX7 203 7 32 .int := ⟨RX7, TX7, 36, tyX7, rfl, (by decide), inX7, al_4 55 (by decide +kernel), tyX7_ok, nmX7, rfl, (by decide +kernel)⟩
theorem fX7_206 : zF RX7 206 7 33 := ⟨RX7, TX7, 36, tyX7, rfl, (by decide), inX7, al_4 56 (by decide +kernel), tyX7_ok, nmX7⟩
theorem wX7_206 : zFw RX7 206 7 33 .int := ⟨RX7, TX7, 36, tyX7, rfl, (by decide), inX7, al_4 56 (by decide +kernel), tyX7_ok, nmX7, rfl, (by decide +kernel)⟩
theorem fX7_274 : zF RX7 274 7 35 := ⟨RX7, TX7, 36, tyX7, rfl, (by decide), inX7, al_4 58 (by decide +kernel), tyX7_ok, nmX7⟩
theorem wX7_274 : zFw RX7 274 7 35 .int := ⟨RX7, TX7, 36, tyX7, rfl, (by decide), inX7, al_4 58 (by decide +kernel), tyX7_ok, nmX7, rfl, (by decide +kernel)⟩
theorem sJ0_9 : Cond.fieldLink RJ0 9 "java/lang/String" "value" "[B" ∈ zAL := al_5 208 (by decide +kernel)
theorem sJ0_15 : Cond.fieldLink RJ0 15 "java/lang/String" "coder" "B" ∈ zAL := al_5 209 (by decide +kernel)
theorem sJ0_38 : Cond.fieldLink RJ0 38 "java/lang/String" "COMPACT_STRINGS" "Z" ∈ zAL := al_2 11 (by decide +kernel)
theorem sJ0_1053 : Cond.fieldLink RJ0 1053 "jdk/internal/util/Preconditions" "SIOOBE_FORMATTER" "Ljava/util/function/BiFunction;" ∈ zAL := al_2 27 (by decide +kernel)
theorem lX6_43 : Cond.methodLink RX6 43 yX6_outside ∈ zAL := al_1 223 (by decide +kernel)
theorem lX6_51 : Cond.methodLink RX6 51 yX6_refuse ∈ zAL := al_1 226 (by decide +kernel)
theorem lX6_55 : Cond.methodLink RX6 55 yX5_add ∈ zAL := al_1 230 (by decide +kernel)
theorem lX6_59 : Cond.methodLink RX6 59 yX5_firstUnfit ∈ zAL := al_1 238 (by decide +kernel)
theorem lX6_63 : Cond.methodLink RX6 63 yX6_tellAll ∈ zAL := al_2 134 (by decide +kernel)
theorem lX6_66 : Cond.methodLink RX6 66 yX2_has ∈ zAL := al_3 62 (by decide +kernel)
theorem lX6_74 : Cond.methodLink RX6 74 yX3_detail ∈ zAL := al_3 63 (by decide +kernel)
theorem lX6_79 : Cond.methodLink RX6 79 yX3_botheredBy ∈ zAL := al_3 71 (by decide +kernel)
theorem lX6_82 : Cond.methodLink RX6 82 yX6_refuseTold ∈ zAL := al_3 76 (by decide +kernel)
theorem lX6_85 : Cond.methodLink RX6 85 yX2_told ∈ zAL := al_3 81 (by decide +kernel)
theorem lX6_94 : Cond.methodLink RX6 94 yX2_change ∈ zAL := al_3 88 (by decide +kernel)
theorem lX6_102 : Cond.methodLink RX6 102 yX1_amountIn ∈ zAL := al_3 101 (by decide +kernel)
theorem lX6_110 : Cond.methodLink RX6 110 yX0_clear ∈ zAL := al_2 158 (by decide +kernel)
theorem lX6_113 : Cond.methodLink RX6 113 yX2_passMinutes ∈ zAL := al_3 106 (by decide +kernel)
theorem lX6_117 : Cond.methodLink RX6 117 yX0_allUps ∈ zAL := al_3 107 (by decide +kernel)
theorem lX6_120 : Cond.methodLink RX6 120 yX6_think ∈ zAL := al_2 138 (by decide +kernel)
theorem lX6_123 : Cond.methodLink RX6 123 yX6_playInMind ∈ zAL := al_3 118 (by decide +kernel)
theorem lX6_127 : Cond.methodLink RX6 127 yX0_told ∈ zAL := al_3 126 (by decide +kernel)
theorem lX6_131 : Cond.methodLink RX6 131 yX0_toldOf ∈ zAL := al_3 140 (by decide +kernel)
theorem lX6_134 : Cond.methodLink RX6 134 yX6_leastCostly ∈ zAL := al_3 148 (by decide +kernel)
theorem lX6_141 : Cond.methodLink RX6 141 yX6_savedByFineHands ∈ zAL := al_3 156 (by decide +kernel)
theorem lX6_144 : Cond.methodLink RX6 144 yX6_minutesHeld ∈ zAL := al_3 184 (by decide +kernel)
theorem lX6_153 : Cond.methodLink RX6 153 yX6_rulesKept ∈ zAL := al_3 217 (by decide +kernel)
theorem lX6_156 : Cond.methodLink RX6 156 yX6_limitsKept ∈ zAL := al_3 226 (by decide +kernel)
theorem lX6_159 : Cond.methodLink RX6 159 yX6_firstUnlike ∈ zAL := al_3 221 (by decide +kernel)
theorem lX6_165 : Cond.methodLink RX6 165 yX2_become ∈ zAL := al_2 142 (by decide +kernel)
theorem lX6_192 : Cond.methodLink RX6 192 yX2_allMinds ∈ zAL := al_4 13 (by decide +kernel)
theorem lX6_196 : Cond.methodLink RX6 196 yX5_tellTo ∈ zAL := al_2 162 (by decide +kernel)
theorem lX6_200 : Cond.methodLink RX6 200 yX5_shapeAt ∈ zAL := al_3 55 (by decide +kernel)
theorem lX6_204 : Cond.methodLink RX6 204 yJ0_length_8abf5 ∈ zAL := al_3 56 (by decide +kernel)
theorem lX6_209 : Cond.methodLink RX6 209 yX0_allCost ∈ zAL := al_3 122 (by decide +kernel)
theorem lX6_212 : Cond.methodLink RX6 212 yX2_refineHands ∈ zAL := al_3 160 (by decide +kernel)
theorem lX6_216 : Cond.methodLink RX6 216 yX2_driftOnce ∈ zAL := al_3 188 (by decide +kernel)
theorem lX6_219 : Cond.methodLink RX6 219 yX2_isOffEither ∈ zAL := al_3 189 (by decide +kernel)
theorem lX6_223 : Cond.methodLink RX6 223 yX6_held ∈ zAL := al_3 225 (by decide +kernel)
theorem lX0_37 : Cond.methodLink RX0 37 yX0_allCost ∈ zAL := al_3 130 (by decide +kernel)
theorem lX0_41 : Cond.methodLink RX0 41 yX0_allUps ∈ zAL := al_3 131 (by decide +kernel)
theorem lX0_44 : Cond.methodLink RX0 44 yX0_sum ∈ zAL := al_3 111 (by decide +kernel)
theorem lX1_16 : Cond.methodLink RX1 16 yX1_swinging ∈ zAL := al_2 223 (by decide +kernel)
theorem lX1_20 : Cond.methodLink RX1 20 yX1_cooled ∈ zAL := al_2 227 (by decide +kernel)
theorem lX2_42 : Cond.methodLink RX2 42 yX1_become ∈ zAL := al_2 146 (by decide +kernel)
theorem lX2_46 : Cond.methodLink RX2 46 yX4_become ∈ zAL := al_2 150 (by decide +kernel)
theorem lX2_52 : Cond.methodLink RX2 52 yX3_become ∈ zAL := al_2 154 (by decide +kernel)
theorem lX2_74 : Cond.methodLink RX2 74 yX2_told ∈ zAL := al_2 194 (by decide +kernel)
theorem lX2_84 : Cond.methodLink RX2 84 yX2_driftOnce ∈ zAL := al_2 215 (by decide +kernel)
theorem lX2_88 : Cond.methodLink RX2 88 yX2_letOneGetUp ∈ zAL := al_2 238 (by decide +kernel)
theorem lX2_92 : Cond.methodLink RX2 92 yX2_botherAll ∈ zAL := al_3 34 (by decide +kernel)
theorem lX2_96 : Cond.methodLink RX2 96 yX1_amountIn ∈ zAL := al_2 219 (by decide +kernel)
theorem lX2_103 : Cond.methodLink RX2 103 yX2_off ∈ zAL := al_3 6 (by decide +kernel)
theorem lX2_106 : Cond.methodLink RX2 106 yX2_has ∈ zAL := al_3 2 (by decide +kernel)
theorem lX2_113 : Cond.methodLink RX2 113 yX4_rouses ∈ zAL := al_3 13 (by decide +kernel)
theorem lX2_117 : Cond.methodLink RX2 117 yX4_aim ∈ zAL := al_3 17 (by decide +kernel)
theorem lX2_120 : Cond.methodLink RX2 120 yX3_turned ∈ zAL := al_3 25 (by decide +kernel)
theorem lX2_127 : Cond.methodLink RX2 127 yX0_noteUp ∈ zAL := al_3 30 (by decide +kernel)
theorem lX2_133 : Cond.methodLink RX2 133 yX3_botheredBy ∈ zAL := al_3 38 (by decide +kernel)
theorem lX2_136 : Cond.methodLink RX2 136 yX0_noteBother ∈ zAL := al_3 46 (by decide +kernel)
theorem lX2_139 : Cond.methodLink RX2 139 yX0_noteOff ∈ zAL := al_3 50 (by decide +kernel)
theorem lX3_28 : Cond.methodLink RX3 28 yX3_deafTo ∈ zAL := al_3 42 (by decide +kernel)
theorem lX4_19 : Cond.methodLink RX4 19 yX4_against ∈ zAL := al_3 21 (by decide +kernel)
theorem lX5_19 : Cond.methodLink RX5 19 yX5_signAt ∈ zAL := al_2 51 (by decide +kernel)
theorem lX5_37 : Cond.methodLink RX5 37 yJ0_length_8abf5 ∈ zAL := al_2 3 (by decide +kernel)
theorem lX5_43 : Cond.methodLink RX5 43 yJ0_charAt_5068e ∈ zAL := al_2 13 (by decide +kernel)
theorem lX5_46 : Cond.methodLink RX5 46 yX5_fits ∈ zAL := al_2 55 (by decide +kernel)
theorem lX5_50 : Cond.methodLink RX5 50 yX5_shapeAt ∈ zAL := al_2 120 (by decide +kernel)
theorem lX5_54 : Cond.methodLink RX5 54 yJ0_isEmpty_aae02 ∈ zAL := al_2 130 (by decide +kernel)
theorem lX5_58 : Cond.methodLink RX5 58 yX5_tellPerson ∈ zAL := al_2 166 (by decide +kernel)
theorem lX5_62 : Cond.methodLink RX5 62 yX5_numberAt ∈ zAL := al_2 178 (by decide +kernel)
theorem lX5_66 : Cond.methodLink RX5 66 yX5_signedAt ∈ zAL := al_2 182 (by decide +kernel)
theorem lX5_75 : Cond.methodLink RX5 75 yX5_tellStation ∈ zAL := al_2 186 (by decide +kernel)
theorem lX5_84 : Cond.methodLink RX5 84 yX5_kindAt ∈ zAL := al_2 174 (by decide +kernel)
theorem lX5_93 : Cond.methodLink RX5 93 yX5_digitAt ∈ zAL := al_2 170 (by decide +kernel)
theorem lX5_99 : Cond.methodLink RX5 99 yX5_tellRule ∈ zAL := al_2 198 (by decide +kernel)
theorem lX5_102 : Cond.methodLink RX5 102 yX5_tellMinutes ∈ zAL := al_2 207 (by decide +kernel)
theorem lX5_133 : Cond.methodLink RX5 133 yX2_change ∈ zAL := al_2 190 (by decide +kernel)
theorem lX5_165 : Cond.methodLink RX5 165 yX2_passMinutes ∈ zAL := al_2 211 (by decide +kernel)
theorem lX5_169 : Cond.methodLink RX5 169 yJ0_indexOf_0f7a4 ∈ zAL := al_2 59 (by decide +kernel)
theorem lL_13 : Cond.methodLink RL 13 yX6_letter ∈ zAL := al_1 219 (by decide +kernel)
theorem lL_17 : Cond.methodLink RL 17 yX7_letter ∈ zAL := al_4 132 (by decide +kernel)
theorem lL_18 : Cond.methodLink RL 18 yX6_parlour ∈ zAL := al_1 234 (by decide +kernel)
theorem lL_22 : Cond.methodLink RL 22 yX7_parlour ∈ zAL := al_4 143 (by decide +kernel)
theorem lL_23 : Cond.methodLink RL 23 yX6_person ∈ zAL := al_3 58 (by decide +kernel)
theorem lL_27 : Cond.methodLink RL 27 yX7_person ∈ zAL := al_5 36 (by decide +kernel)
theorem lL_28 : Cond.methodLink RL 28 yX6_bothers ∈ zAL := al_3 67 (by decide +kernel)
theorem lL_31 : Cond.methodLink RL 31 yX7_bothers ∈ zAL := al_5 44 (by decide +kernel)
theorem lL_32 : Cond.methodLink RL 32 yX6_place ∈ zAL := al_3 72 (by decide +kernel)
theorem lL_35 : Cond.methodLink RL 35 yX7_place ∈ zAL := al_5 48 (by decide +kernel)
theorem lL_36 : Cond.methodLink RL 36 yX6_set ∈ zAL := al_3 82 (by decide +kernel)
theorem lL_39 : Cond.methodLink RL 39 yX7_set ∈ zAL := al_5 57 (by decide +kernel)
theorem lL_40 : Cond.methodLink RL 40 yX6_kind ∈ zAL := al_3 89 (by decide +kernel)
theorem lL_43 : Cond.methodLink RL 43 yX7_kind ∈ zAL := al_5 61 (by decide +kernel)
theorem lL_44 : Cond.methodLink RL 44 yX6_turn ∈ zAL := al_3 93 (by decide +kernel)
theorem lL_47 : Cond.methodLink RL 47 yX7_turn ∈ zAL := al_5 65 (by decide +kernel)
theorem lL_48 : Cond.methodLink RL 48 yX6_drifts ∈ zAL := al_3 97 (by decide +kernel)
theorem lL_51 : Cond.methodLink RL 51 yX7_drifts ∈ zAL := al_5 69 (by decide +kernel)
theorem lL_52 : Cond.methodLink RL 52 yX6_go ∈ zAL := al_3 102 (by decide +kernel)
theorem lL_55 : Cond.methodLink RL 55 yX7_go ∈ zAL := al_5 73 (by decide +kernel)
theorem lL_56 : Cond.methodLink RL 56 yX6_cost ∈ zAL := al_3 114 (by decide +kernel)
theorem lL_59 : Cond.methodLink RL 59 yX7_cost ∈ zAL := al_5 77 (by decide +kernel)
theorem lL_60 : Cond.methodLink RL 60 yX6_at ∈ zAL := al_3 132 (by decide +kernel)
theorem lL_63 : Cond.methodLink RL 63 yX7_at ∈ zAL := al_5 89 (by decide +kernel)
theorem lL_64 : Cond.methodLink RL 64 yX6_of ∈ zAL := al_3 136 (by decide +kernel)
theorem lL_68 : Cond.methodLink RL 68 yX7_of ∈ zAL := al_5 93 (by decide +kernel)
theorem lL_69 : Cond.methodLink RL 69 yX6_best ∈ zAL := al_3 144 (by decide +kernel)
theorem lL_72 : Cond.methodLink RL 72 yX7_best ∈ zAL := al_5 101 (by decide +kernel)
theorem lL_73 : Cond.methodLink RL 73 yX6_finer ∈ zAL := al_3 152 (by decide +kernel)
theorem lL_76 : Cond.methodLink RL 76 yX7_finer ∈ zAL := al_5 129 (by decide +kernel)
theorem lL_77 : Cond.methodLink RL 77 yX6_mark ∈ zAL := al_3 164 (by decide +kernel)
theorem lL_80 : Cond.methodLink RL 80 yX7_mark ∈ zAL := al_5 133 (by decide +kernel)
theorem lL_81 : Cond.methodLink RL 81 yX6_most ∈ zAL := al_3 168 (by decide +kernel)
theorem lL_84 : Cond.methodLink RL 84 yX7_most ∈ zAL := al_5 137 (by decide +kernel)
theorem lL_85 : Cond.methodLink RL 85 yX6_between ∈ zAL := al_3 172 (by decide +kernel)
theorem lL_88 : Cond.methodLink RL 88 yX7_between ∈ zAL := al_5 141 (by decide +kernel)
theorem lL_89 : Cond.methodLink RL 89 yX6_leave ∈ zAL := al_3 176 (by decide +kernel)
theorem lL_92 : Cond.methodLink RL 92 yX7_leave ∈ zAL := al_5 145 (by decide +kernel)
theorem lL_93 : Cond.methodLink RL 93 yX6_holds ∈ zAL := al_3 180 (by decide +kernel)
theorem lL_96 : Cond.methodLink RL 96 yX7_holds ∈ zAL := al_5 149 (by decide +kernel)
theorem lL_97 : Cond.methodLink RL 97 yX6_setAt ∈ zAL := al_3 193 (by decide +kernel)
theorem lL_100 : Cond.methodLink RL 100 yX7_setAt ∈ zAL := al_5 161 (by decide +kernel)
theorem lL_101 : Cond.methodLink RL 101 yX6_steadyFrom ∈ zAL := al_3 197 (by decide +kernel)
theorem lL_104 : Cond.methodLink RL 104 yX7_steadyFrom ∈ zAL := al_5 165 (by decide +kernel)
theorem lL_105 : Cond.methodLink RL 105 yX6_whoLast ∈ zAL := al_3 201 (by decide +kernel)
theorem lL_108 : Cond.methodLink RL 108 yX7_whoLast ∈ zAL := al_5 173 (by decide +kernel)
theorem lL_109 : Cond.methodLink RL 109 yX6_when ∈ zAL := al_3 205 (by decide +kernel)
theorem lL_112 : Cond.methodLink RL 112 yX7_when ∈ zAL := al_5 177 (by decide +kernel)
theorem lL_113 : Cond.methodLink RL 113 yX6_row ∈ zAL := al_3 209 (by decide +kernel)
theorem lL_116 : Cond.methodLink RL 116 yX7_row ∈ zAL := al_5 181 (by decide +kernel)
theorem lL_117 : Cond.methodLink RL 117 yX6_kept ∈ zAL := al_3 213 (by decide +kernel)
theorem lL_120 : Cond.methodLink RL 120 yX7_kept ∈ zAL := al_5 185 (by decide +kernel)
theorem lL_121 : Cond.methodLink RL 121 yX6_judge ∈ zAL := al_3 230 (by decide +kernel)
theorem lL_124 : Cond.methodLink RL 124 yX7_judge ∈ zAL := al_5 193 (by decide +kernel)
theorem lL_125 : Cond.methodLink RL 125 yX6_lots ∈ zAL := al_3 234 (by decide +kernel)
theorem lL_128 : Cond.methodLink RL 128 yX7_lots ∈ zAL := al_5 197 (by decide +kernel)
theorem lL_129 : Cond.methodLink RL 129 yX6_image ∈ zAL := al_4 1 (by decide +kernel)
theorem lL_132 : Cond.methodLink RL 132 yX7_image ∈ zAL := al_5 28 (by decide +kernel)
theorem lL_133 : Cond.methodLink RL 133 yX6_on ∈ zAL := al_4 5 (by decide +kernel)
theorem lL_136 : Cond.methodLink RL 136 yX7_on ∈ zAL := al_5 32 (by decide +kernel)
theorem lL_137 : Cond.methodLink RL 137 yX6_count ∈ zAL := al_4 9 (by decide +kernel)
theorem lL_140 : Cond.methodLink RL 140 yX7_count ∈ zAL := al_5 204 (by decide +kernel)
theorem lX7_69 : Cond.methodLink RX7 69 yX7_bound ∈ zAL := al_4 136 (by decide +kernel)
theorem lX7_76 : Cond.methodLink RX7 76 yX7_no ∈ zAL := al_4 139 (by decide +kernel)
theorem lX7_83 : Cond.methodLink RX7 83 yX7_next ∈ zAL := al_4 151 (by decide +kernel)
theorem lX7_87 : Cond.methodLink RX7 87 yX7_isIn ∈ zAL := al_4 174 (by decide +kernel)
theorem lX7_91 : Cond.methodLink RX7 91 yX7_readsDigits ∈ zAL := al_4 170 (by decide +kernel)
theorem lX7_95 : Cond.methodLink RX7 95 yX7_personOf ∈ zAL := al_4 163 (by decide +kernel)
theorem lX7_98 : Cond.methodLink RX7 98 yX7_readsKind ∈ zAL := al_4 166 (by decide +kernel)
theorem lX7_101 : Cond.methodLink RX7 101 yX7_readsPerson ∈ zAL := al_4 159 (by decide +kernel)
theorem lX7_105 : Cond.methodLink RX7 105 yX7_readsSigned ∈ zAL := al_4 177 (by decide +kernel)
theorem lX7_108 : Cond.methodLink RX7 108 yX7_driftOf ∈ zAL := al_4 181 (by decide +kernel)
theorem lX7_111 : Cond.methodLink RX7 111 yX7_ruleOf ∈ zAL := al_4 184 (by decide +kernel)
theorem lX7_117 : Cond.methodLink RX7 117 yX7_readsAll ∈ zAL := al_4 155 (by decide +kernel)
theorem lX7_120 : Cond.methodLink RX7 120 yX7_leastOf ∈ zAL := al_4 211 (by decide +kernel)
theorem lX7_123 : Cond.methodLink RX7 123 yX7_mostOf ∈ zAL := al_4 214 (by decide +kernel)
theorem lX7_126 : Cond.methodLink RX7 126 yX7_comesPerson ∈ zAL := al_4 203 (by decide +kernel)
theorem lX7_129 : Cond.methodLink RX7 129 yX7_comesSet ∈ zAL := al_4 207 (by decide +kernel)
theorem lX7_141 : Cond.methodLink RX7 141 yX7_goes ∈ zAL := al_4 217 (by decide +kernel)
theorem lX7_145 : Cond.methodLink RX7 145 yX7_statement ∈ zAL := al_4 147 (by decide +kernel)
theorem lX7_149 : Cond.methodLink RX7 149 yX7_passesAll ∈ zAL := al_4 187 (by decide +kernel)
theorem lX7_153 : Cond.methodLink RX7 153 yX7_comes ∈ zAL := al_4 199 (by decide +kernel)
theorem lX7_163 : Cond.methodLink RX7 163 yX7_passes ∈ zAL := al_4 191 (by decide +kernel)
theorem lX7_167 : Cond.methodLink RX7 167 yX7_passOne ∈ zAL := al_4 195 (by decide +kernel)
theorem lX7_176 : Cond.methodLink RX7 176 yX7_size ∈ zAL := al_5 1 (by decide +kernel)
theorem lX7_179 : Cond.methodLink RX7 179 yX7_swinging ∈ zAL := al_4 233 (by decide +kernel)
theorem lX7_182 : Cond.methodLink RX7 182 yX7_cooling ∈ zAL := al_4 237 (by decide +kernel)
theorem lX7_185 : Cond.methodLink RX7 185 yX7_placeOf ∈ zAL := al_5 8 (by decide +kernel)
theorem lX7_188 : Cond.methodLink RX7 188 yX7_driftIn ∈ zAL := al_4 229 (by decide +kernel)
theorem lX7_209 : Cond.methodLink RX7 209 yX7_shouldBe ∈ zAL := al_5 16 (by decide +kernel)
theorem lX7_212 : Cond.methodLink RX7 212 yX7_turnsTo ∈ zAL := al_5 20 (by decide +kernel)
theorem lX7_216 : Cond.methodLink RX7 216 yX7_isUp ∈ zAL := al_5 4 (by decide +kernel)
theorem lX7_219 : Cond.methodLink RX7 219 yX7_getsUp ∈ zAL := al_5 12 (by decide +kernel)
theorem lX7_222 : Cond.methodLink RX7 222 yX7_botherOf ∈ zAL := al_5 24 (by decide +kernel)
theorem lX7_226 : Cond.methodLink RX7 226 yX7_begins ∈ zAL := al_4 221 (by decide +kernel)
theorem lX7_229 : Cond.methodLink RX7 229 yX7_goesOne ∈ zAL := al_4 225 (by decide +kernel)
theorem lX7_232 : Cond.methodLink RX7 232 yX7_costOf ∈ zAL := al_5 85 (by decide +kernel)
theorem lX7_235 : Cond.methodLink RX7 235 yX7_thinks ∈ zAL := al_5 81 (by decide +kernel)
theorem lX7_238 : Cond.methodLink RX7 238 yX7_isPerson ∈ zAL := al_5 40 (by decide +kernel)
theorem lX7_241 : Cond.methodLink RX7 241 yX7_lower ∈ zAL := al_5 52 (by decide +kernel)
theorem lX7_244 : Cond.methodLink RX7 244 yX7_bothOf ∈ zAL := al_5 97 (by decide +kernel)
theorem lX7_247 : Cond.methodLink RX7 247 yX7_thinksWith ∈ zAL := al_5 109 (by decide +kernel)
theorem lX7_250 : Cond.methodLink RX7 250 yX7_thinksByRule ∈ zAL := al_5 117 (by decide +kernel)
theorem lX7_253 : Cond.methodLink RX7 253 yX7_thinksFirst ∈ zAL := al_5 125 (by decide +kernel)
theorem lX7_256 : Cond.methodLink RX7 256 yX7_bestSet ∈ zAL := al_5 105 (by decide +kernel)
theorem lX7_259 : Cond.methodLink RX7 259 yX7_bestRule ∈ zAL := al_5 113 (by decide +kernel)
theorem lX7_262 : Cond.methodLink RX7 262 yX7_bestFirst ∈ zAL := al_5 121 (by decide +kernel)
theorem lX7_265 : Cond.methodLink RX7 265 yX7_isOff ∈ zAL := al_5 157 (by decide +kernel)
theorem lX7_268 : Cond.methodLink RX7 268 yX7_holdsFrom ∈ zAL := al_5 153 (by decide +kernel)
theorem lX7_271 : Cond.methodLink RX7 271 yX7_isStill ∈ zAL := al_5 169 (by decide +kernel)
theorem lX7_277 : Cond.methodLink RX7 277 yX7_firstOther ∈ zAL := al_5 189 (by decide +kernel)
theorem lJ0_335 : Cond.methodLink RJ0 335 yJ0_coder_7d493 ∈ zAL := al_2 7 (by decide +kernel)
theorem lJ0_492 : Cond.methodLink RJ0 492 yJ0_isLatin1_aae02 ∈ zAL := al_2 17 (by decide +kernel)
theorem lJ0_495 : Cond.methodLink RJ0 495 yJ1_charAt_3b067 ∈ zAL := al_2 21 (by decide +kernel)
theorem lJ0_505 : Cond.methodLink RJ0 505 yJ0_length_8abf5 ∈ zAL := al_2 67 (by decide +kernel)
theorem lJ0_633 : Cond.methodLink RJ0 633 yJ0_indexOf_7cf53 ∈ zAL := al_2 63 (by decide +kernel)
theorem lJ0_637 : Cond.methodLink RJ0 637 yJ1_indexOf_4cfef ∈ zAL := al_2 68 (by decide +kernel)
theorem lJ0_1059 : Cond.methodLink RJ0 1059 yJ3_checkIndex_8e157 ∈ zAL := al_2 29 (by decide +kernel)
theorem lJ1_9 : Cond.methodLink RJ1 9 yJ0_checkIndex_df160 ∈ zAL := al_2 24 (by decide +kernel)
theorem lJ1_88 : Cond.methodLink RJ1 88 yJ1_canEncode_9a6ad ∈ zAL := al_2 71 (by decide +kernel)
theorem lJ1_95 : Cond.methodLink RJ1 95 yJ1_indexOfChar_4cfef ∈ zAL := al_2 80 (by decide +kernel)
theorem qX6_162 : Cond.constant RX6 162 1664525 ∈ zAL := al_3 238 (by decide +kernel)
theorem qX6_163 : Cond.constant RX6 163 1013904223 ∈ zAL := al_3 239 (by decide +kernel)
theorem qX6_164 : Cond.constant RX6 164 2147483647 ∈ zAL := al_4 0 (by decide +kernel)
theorem qX6_195 : Cond.constant RX6 195 1000000000 ∈ zAL := al_3 80 (by decide +kernel)
theorem qX7_64 : Cond.constant RX7 64 1000000000 ∈ zAL := al_5 56 (by decide +kernel)
theorem qX7_280 : Cond.constant RX7 280 1664525 ∈ zAL := al_5 201 (by decide +kernel)
theorem qX7_281 : Cond.constant RX7 281 1013904223 ∈ zAL := al_5 202 (by decide +kernel)
theorem qX7_282 : Cond.constant RX7 282 2147483647 ∈ zAL := al_5 203 (by decide +kernel)
theorem kX0_clear : zYv mX0_clear 0 := ⟨al_2 159 (by decide +kernel), al_2 160 (by decide +kernel), al_1 6 (by decide +kernel), al_2 161 (by decide +kernel), ⟨⟨by decide +kernel, by decide +kernel, by decide +kernel⟩, rfl, rfl⟩⟩
theorem kX0_noteUp : zYv mX0_noteUp 2 := ⟨al_3 31 (by decide +kernel), al_3 32 (by decide +kernel), al_1 6 (by decide +kernel), al_3 33 (by decide +kernel), ⟨⟨by decide +kernel, by decide +kernel, by decide +kernel⟩, rfl, rfl⟩⟩
theorem kX0_noteBother : zYv mX0_noteBother 2 := ⟨al_3 47 (by decide +kernel), al_3 48 (by decide +kernel), al_1 6 (by decide +kernel), al_3 49 (by decide +kernel), ⟨⟨by decide +kernel, by decide +kernel, by decide +kernel⟩, rfl, rfl⟩⟩
theorem kX0_noteOff : zYv mX0_noteOff 2 := ⟨al_3 51 (by decide +kernel), al_3 52 (by decide +kernel), al_1 6 (by decide +kernel), al_3 53 (by decide +kernel), ⟨⟨by decide +kernel, by decide +kernel, by decide +kernel⟩, rfl, rfl⟩⟩
theorem kX0_told : zYv mX0_told 1 := ⟨al_3 127 (by decide +kernel), al_3 128 (by decide +kernel), al_1 6 (by decide +kernel), al_3 129 (by decide +kernel), ⟨⟨by decide +kernel, by decide +kernel, by decide +kernel⟩, rfl, rfl⟩⟩
theorem kX0_toldOf : zYv mX0_toldOf 2 := ⟨al_3 141 (by decide +kernel), al_3 142 (by decide +kernel), al_1 6 (by decide +kernel), al_3 143 (by decide +kernel), ⟨⟨by decide +kernel, by decide +kernel, by decide +kernel⟩, rfl, rfl⟩⟩
theorem kX0_allCost : zYv mX0_allCost 0 := ⟨al_3 123 (by decide +kernel), al_3 124 (by decide +kernel), al_1 6 (by decide +kernel), al_3 125 (by decide +kernel), ⟨⟨by decide +kernel, by decide +kernel, by decide +kernel⟩, rfl, rfl⟩⟩
theorem kX0_allUps : zYv mX0_allUps 0 := ⟨al_3 108 (by decide +kernel), al_3 109 (by decide +kernel), al_1 6 (by decide +kernel), al_3 110 (by decide +kernel), ⟨⟨by decide +kernel, by decide +kernel, by decide +kernel⟩, rfl, rfl⟩⟩
theorem kX0_sum : zYs mX0_sum 1 := ⟨al_3 112 (by decide +kernel), al_1 6 (by decide +kernel), al_3 113 (by decide +kernel), ⟨⟨by decide +kernel, by decide +kernel, by decide +kernel⟩, rfl, rfl⟩⟩
theorem kX1_become : zYv mX1_become 1 := ⟨al_2 147 (by decide +kernel), al_2 148 (by decide +kernel), al_1 3 (by decide +kernel), al_2 149 (by decide +kernel), ⟨⟨by decide +kernel, by decide +kernel, by decide +kernel⟩, rfl, rfl⟩⟩
theorem kX1_amountIn : zYv mX1_amountIn 1 := ⟨al_2 220 (by decide +kernel), al_2 221 (by decide +kernel), al_1 3 (by decide +kernel), al_2 222 (by decide +kernel), ⟨⟨by decide +kernel, by decide +kernel, by decide +kernel⟩, rfl, rfl⟩⟩
theorem kX1_swinging : zYv mX1_swinging 1 := ⟨al_2 225 (by decide +kernel), al_s (q := (yX1_swinging, 2)) 12 (by decide +kernel), al_1 3 (by decide +kernel), al_2 226 (by decide +kernel), ⟨⟨by decide +kernel, by decide +kernel, by decide +kernel⟩, rfl, rfl⟩⟩
theorem kX1_cooled : zYv mX1_cooled 1 := ⟨al_2 229 (by decide +kernel), al_s (q := (yX1_cooled, 2)) 13 (by decide +kernel), al_1 3 (by decide +kernel), al_2 230 (by decide +kernel), ⟨⟨by decide +kernel, by decide +kernel, by decide +kernel⟩, rfl, rfl⟩⟩
theorem kX2_become : zYv mX2_become 1 := ⟨al_2 143 (by decide +kernel), al_2 144 (by decide +kernel), al_1 2 (by decide +kernel), al_2 145 (by decide +kernel), ⟨⟨by decide +kernel, by decide +kernel, by decide +kernel⟩, rfl, rfl⟩⟩
theorem kX2_has : zYv mX2_has 1 := ⟨al_3 3 (by decide +kernel), al_3 4 (by decide +kernel), al_1 2 (by decide +kernel), al_3 5 (by decide +kernel), ⟨⟨by decide +kernel, by decide +kernel, by decide +kernel⟩, rfl, rfl⟩⟩
theorem kX2_told : zYv mX2_told 1 := ⟨al_2 195 (by decide +kernel), al_2 196 (by decide +kernel), al_1 2 (by decide +kernel), al_2 197 (by decide +kernel), ⟨⟨by decide +kernel, by decide +kernel, by decide +kernel⟩, rfl, rfl⟩⟩
theorem kX2_change : zYv mX2_change 2 := ⟨al_2 191 (by decide +kernel), al_2 192 (by decide +kernel), al_1 2 (by decide +kernel), al_2 193 (by decide +kernel), ⟨⟨by decide +kernel, by decide +kernel, by decide +kernel⟩, rfl, rfl⟩⟩
theorem kX2_allMinds : zYv mX2_allMinds 0 := ⟨al_4 14 (by decide +kernel), al_4 15 (by decide +kernel), al_1 2 (by decide +kernel), al_4 16 (by decide +kernel), ⟨⟨by decide +kernel, by decide +kernel, by decide +kernel⟩, rfl, rfl⟩⟩
theorem kX2_refineHands : zYv mX2_refineHands 2 := ⟨al_3 161 (by decide +kernel), al_3 162 (by decide +kernel), al_1 2 (by decide +kernel), al_3 163 (by decide +kernel), ⟨⟨by decide +kernel, by decide +kernel, by decide +kernel⟩, rfl, rfl⟩⟩
theorem kX2_passMinutes : zYv mX2_passMinutes 3 := ⟨al_2 212 (by decide +kernel), al_2 213 (by decide +kernel), al_1 2 (by decide +kernel), al_2 214 (by decide +kernel), ⟨⟨by decide +kernel, by decide +kernel, by decide +kernel⟩, rfl, rfl⟩⟩
theorem kX2_driftOnce : zYv mX2_driftOnce 0 := ⟨al_2 216 (by decide +kernel), al_2 217 (by decide +kernel), al_1 2 (by decide +kernel), al_2 218 (by decide +kernel), ⟨⟨by decide +kernel, by decide +kernel, by decide +kernel⟩, rfl, rfl⟩⟩
theorem kX2_isOffEither : zYv mX2_isOffEither 0 := ⟨al_3 190 (by decide +kernel), al_3 191 (by decide +kernel), al_1 2 (by decide +kernel), al_3 192 (by decide +kernel), ⟨⟨by decide +kernel, by decide +kernel, by decide +kernel⟩, rfl, rfl⟩⟩
theorem kX2_letOneGetUp : zYv mX2_letOneGetUp 2 := ⟨al_3 0 (by decide +kernel), al_s (q := (yX2_letOneGetUp, 9)) 14 (by decide +kernel), al_1 2 (by decide +kernel), al_3 1 (by decide +kernel), ⟨⟨by decide +kernel, by decide +kernel, by decide +kernel⟩, rfl, rfl⟩⟩
theorem kX2_botherAll : zYv mX2_botherAll 1 := ⟨al_3 36 (by decide +kernel), al_s (q := (yX2_botherAll, 9)) 17 (by decide +kernel), al_1 2 (by decide +kernel), al_3 37 (by decide +kernel), ⟨⟨by decide +kernel, by decide +kernel, by decide +kernel⟩, rfl, rfl⟩⟩
theorem kX2_off : zYv mX2_off 1 := ⟨al_3 8 (by decide +kernel), al_s (q := (yX2_off, 9)) 15 (by decide +kernel), al_1 2 (by decide +kernel), al_3 9 (by decide +kernel), ⟨⟨by decide +kernel, by decide +kernel, by decide +kernel⟩, rfl, rfl⟩⟩
theorem kX3_become : zYv mX3_become 1 := ⟨al_2 155 (by decide +kernel), al_2 156 (by decide +kernel), al_1 5 (by decide +kernel), al_2 157 (by decide +kernel), ⟨⟨by decide +kernel, by decide +kernel, by decide +kernel⟩, rfl, rfl⟩⟩
theorem kX3_detail : zYv mX3_detail 1 := ⟨al_3 64 (by decide +kernel), al_3 65 (by decide +kernel), al_1 5 (by decide +kernel), al_3 66 (by decide +kernel), ⟨⟨by decide +kernel, by decide +kernel, by decide +kernel⟩, rfl, rfl⟩⟩
theorem kX3_botheredBy : zYv mX3_botheredBy 1 := ⟨al_3 39 (by decide +kernel), al_3 40 (by decide +kernel), al_1 5 (by decide +kernel), al_3 41 (by decide +kernel), ⟨⟨by decide +kernel, by decide +kernel, by decide +kernel⟩, rfl, rfl⟩⟩
theorem kX3_deafTo : zYv mX3_deafTo 2 := ⟨al_3 44 (by decide +kernel), al_s (q := (yX3_deafTo, 6)) 18 (by decide +kernel), al_1 5 (by decide +kernel), al_3 45 (by decide +kernel), ⟨⟨by decide +kernel, by decide +kernel, by decide +kernel⟩, rfl, rfl⟩⟩
theorem kX3_turned : zYv mX3_turned 2 := ⟨al_3 26 (by decide +kernel), al_3 27 (by decide +kernel), al_1 5 (by decide +kernel), al_3 28 (by decide +kernel), ⟨⟨by decide +kernel, by decide +kernel, by decide +kernel⟩, rfl, rfl⟩⟩
theorem kX4_become : zYv mX4_become 1 := ⟨al_2 151 (by decide +kernel), al_2 152 (by decide +kernel), al_1 4 (by decide +kernel), al_2 153 (by decide +kernel), ⟨⟨by decide +kernel, by decide +kernel, by decide +kernel⟩, rfl, rfl⟩⟩
theorem kX4_rouses : zYv mX4_rouses 2 := ⟨al_3 14 (by decide +kernel), al_3 15 (by decide +kernel), al_1 4 (by decide +kernel), al_3 16 (by decide +kernel), ⟨⟨by decide +kernel, by decide +kernel, by decide +kernel⟩, rfl, rfl⟩⟩
theorem kX4_aim : zYv mX4_aim 3 := ⟨al_3 18 (by decide +kernel), al_3 19 (by decide +kernel), al_1 4 (by decide +kernel), al_3 20 (by decide +kernel), ⟨⟨by decide +kernel, by decide +kernel, by decide +kernel⟩, rfl, rfl⟩⟩
theorem kX4_against : zYv mX4_against 2 := ⟨al_3 23 (by decide +kernel), al_s (q := (yX4_against, 3)) 16 (by decide +kernel), al_1 4 (by decide +kernel), al_3 24 (by decide +kernel), ⟨⟨by decide +kernel, by decide +kernel, by decide +kernel⟩, rfl, rfl⟩⟩
theorem kX5_add : zYv mX5_add 1 := ⟨al_1 231 (by decide +kernel), al_1 232 (by decide +kernel), al_1 7 (by decide +kernel), al_1 233 (by decide +kernel), ⟨⟨by decide +kernel, by decide +kernel, by decide +kernel⟩, rfl, rfl⟩⟩
theorem kX5_shapeAt : zYv mX5_shapeAt 1 := ⟨al_2 121 (by decide +kernel), al_2 122 (by decide +kernel), al_1 7 (by decide +kernel), al_2 123 (by decide +kernel), ⟨⟨by decide +kernel, by decide +kernel, by decide +kernel⟩, rfl, rfl⟩⟩
theorem kX5_firstUnfit : zYv mX5_firstUnfit 0 := ⟨al_1 239 (by decide +kernel), al_2 0 (by decide +kernel), al_1 7 (by decide +kernel), al_2 1 (by decide +kernel), ⟨⟨by decide +kernel, by decide +kernel, by decide +kernel⟩, rfl, rfl⟩⟩
theorem kX5_tellTo : zYv mX5_tellTo 3 := ⟨al_2 163 (by decide +kernel), al_2 164 (by decide +kernel), al_1 7 (by decide +kernel), al_2 165 (by decide +kernel), ⟨⟨by decide +kernel, by decide +kernel, by decide +kernel⟩, rfl, rfl⟩⟩
theorem kX5_tellPerson : zYv mX5_tellPerson 2 := ⟨al_2 168 (by decide +kernel), al_s (q := (yX5_tellPerson, 2)) 4 (by decide +kernel), al_1 7 (by decide +kernel), al_2 169 (by decide +kernel), ⟨⟨by decide +kernel, by decide +kernel, by decide +kernel⟩, rfl, rfl⟩⟩
theorem kX5_tellStation : zYv mX5_tellStation 2 := ⟨al_2 188 (by decide +kernel), al_s (q := (yX5_tellStation, 2)) 9 (by decide +kernel), al_1 7 (by decide +kernel), al_2 189 (by decide +kernel), ⟨⟨by decide +kernel, by decide +kernel, by decide +kernel⟩, rfl, rfl⟩⟩
theorem kX5_tellRule : zYv mX5_tellRule 2 := ⟨al_2 200 (by decide +kernel), al_s (q := (yX5_tellRule, 2)) 10 (by decide +kernel), al_1 7 (by decide +kernel), al_2 201 (by decide +kernel), ⟨⟨by decide +kernel, by decide +kernel, by decide +kernel⟩, rfl, rfl⟩⟩
theorem kX5_tellMinutes : zYv mX5_tellMinutes 3 := ⟨al_2 209 (by decide +kernel), al_s (q := (yX5_tellMinutes, 2)) 11 (by decide +kernel), al_1 7 (by decide +kernel), al_2 210 (by decide +kernel), ⟨⟨by decide +kernel, by decide +kernel, by decide +kernel⟩, rfl, rfl⟩⟩
theorem kX5_fits : zYs mX5_fits 2 := ⟨al_2 56 (by decide +kernel), al_1 7 (by decide +kernel), al_2 57 (by decide +kernel), ⟨⟨by decide +kernel, by decide +kernel, by decide +kernel⟩, rfl, rfl⟩⟩
theorem kX5_signAt : zYv mX5_signAt 1 := ⟨al_2 53 (by decide +kernel), al_s (q := (yX5_signAt, 2)) 1 (by decide +kernel), al_1 7 (by decide +kernel), al_2 54 (by decide +kernel), ⟨⟨by decide +kernel, by decide +kernel, by decide +kernel⟩, rfl, rfl⟩⟩
theorem kX5_digitAt : zYv mX5_digitAt 1 := ⟨al_2 172 (by decide +kernel), al_s (q := (yX5_digitAt, 2)) 5 (by decide +kernel), al_1 7 (by decide +kernel), al_2 173 (by decide +kernel), ⟨⟨by decide +kernel, by decide +kernel, by decide +kernel⟩, rfl, rfl⟩⟩
theorem kX5_numberAt : zYv mX5_numberAt 1 := ⟨al_2 180 (by decide +kernel), al_s (q := (yX5_numberAt, 2)) 7 (by decide +kernel), al_1 7 (by decide +kernel), al_2 181 (by decide +kernel), ⟨⟨by decide +kernel, by decide +kernel, by decide +kernel⟩, rfl, rfl⟩⟩
theorem kX5_signedAt : zYv mX5_signedAt 2 := ⟨al_2 184 (by decide +kernel), al_s (q := (yX5_signedAt, 2)) 8 (by decide +kernel), al_1 7 (by decide +kernel), al_2 185 (by decide +kernel), ⟨⟨by decide +kernel, by decide +kernel, by decide +kernel⟩, rfl, rfl⟩⟩
theorem kX5_kindAt : zYv mX5_kindAt 2 := ⟨al_2 176 (by decide +kernel), al_s (q := (yX5_kindAt, 2)) 6 (by decide +kernel), al_1 7 (by decide +kernel), al_2 177 (by decide +kernel), ⟨⟨by decide +kernel, by decide +kernel, by decide +kernel⟩, rfl, rfl⟩⟩
theorem kX6_letter : zYv mX6_letter 1 := ⟨al_1 220 (by decide +kernel), al_1 221 (by decide +kernel), al_1 1 (by decide +kernel), al_1 222 (by decide +kernel), ⟨⟨by decide +kernel, by decide +kernel, by decide +kernel⟩, rfl, rfl⟩⟩
theorem kX6_parlour : zYv mX6_parlour 0 := ⟨al_1 235 (by decide +kernel), al_1 236 (by decide +kernel), al_1 1 (by decide +kernel), al_1 237 (by decide +kernel), ⟨⟨by decide +kernel, by decide +kernel, by decide +kernel⟩, rfl, rfl⟩⟩
theorem kX6_person : zYv mX6_person 2 := ⟨al_3 59 (by decide +kernel), al_3 60 (by decide +kernel), al_1 1 (by decide +kernel), al_3 61 (by decide +kernel), ⟨⟨by decide +kernel, by decide +kernel, by decide +kernel⟩, rfl, rfl⟩⟩
theorem kX6_bothers : zYv mX6_bothers 2 := ⟨al_3 68 (by decide +kernel), al_3 69 (by decide +kernel), al_1 1 (by decide +kernel), al_3 70 (by decide +kernel), ⟨⟨by decide +kernel, by decide +kernel, by decide +kernel⟩, rfl, rfl⟩⟩
theorem kX6_place : zYv mX6_place 1 := ⟨al_3 73 (by decide +kernel), al_3 74 (by decide +kernel), al_1 1 (by decide +kernel), al_3 75 (by decide +kernel), ⟨⟨by decide +kernel, by decide +kernel, by decide +kernel⟩, rfl, rfl⟩⟩
theorem kX6_set : zYv mX6_set 2 := ⟨al_3 83 (by decide +kernel), al_3 84 (by decide +kernel), al_1 1 (by decide +kernel), al_3 85 (by decide +kernel), ⟨⟨by decide +kernel, by decide +kernel, by decide +kernel⟩, rfl, rfl⟩⟩
theorem kX6_kind : zYv mX6_kind 2 := ⟨al_3 90 (by decide +kernel), al_3 91 (by decide +kernel), al_1 1 (by decide +kernel), al_3 92 (by decide +kernel), ⟨⟨by decide +kernel, by decide +kernel, by decide +kernel⟩, rfl, rfl⟩⟩
theorem kX6_turn : zYv mX6_turn 1 := ⟨al_3 94 (by decide +kernel), al_3 95 (by decide +kernel), al_1 1 (by decide +kernel), al_3 96 (by decide +kernel), ⟨⟨by decide +kernel, by decide +kernel, by decide +kernel⟩, rfl, rfl⟩⟩
theorem kX6_drifts : zYv mX6_drifts 1 := ⟨al_3 98 (by decide +kernel), al_3 99 (by decide +kernel), al_1 1 (by decide +kernel), al_3 100 (by decide +kernel), ⟨⟨by decide +kernel, by decide +kernel, by decide +kernel⟩, rfl, rfl⟩⟩
theorem kX6_go : zYv mX6_go 1 := ⟨al_3 103 (by decide +kernel), al_3 104 (by decide +kernel), al_1 1 (by decide +kernel), al_3 105 (by decide +kernel), ⟨⟨by decide +kernel, by decide +kernel, by decide +kernel⟩, rfl, rfl⟩⟩
theorem kX6_cost : zYv mX6_cost 2 := ⟨al_3 115 (by decide +kernel), al_3 116 (by decide +kernel), al_1 1 (by decide +kernel), al_3 117 (by decide +kernel), ⟨⟨by decide +kernel, by decide +kernel, by decide +kernel⟩, rfl, rfl⟩⟩
theorem kX6_at : zYv mX6_at 1 := ⟨al_3 133 (by decide +kernel), al_3 134 (by decide +kernel), al_1 1 (by decide +kernel), al_3 135 (by decide +kernel), ⟨⟨by decide +kernel, by decide +kernel, by decide +kernel⟩, rfl, rfl⟩⟩
theorem kX6_of : zYv mX6_of 3 := ⟨al_3 137 (by decide +kernel), al_3 138 (by decide +kernel), al_1 1 (by decide +kernel), al_3 139 (by decide +kernel), ⟨⟨by decide +kernel, by decide +kernel, by decide +kernel⟩, rfl, rfl⟩⟩
theorem kX6_best : zYv mX6_best 2 := ⟨al_3 145 (by decide +kernel), al_3 146 (by decide +kernel), al_1 1 (by decide +kernel), al_3 147 (by decide +kernel), ⟨⟨by decide +kernel, by decide +kernel, by decide +kernel⟩, rfl, rfl⟩⟩
theorem kX6_finer : zYv mX6_finer 2 := ⟨al_3 153 (by decide +kernel), al_3 154 (by decide +kernel), al_1 1 (by decide +kernel), al_3 155 (by decide +kernel), ⟨⟨by decide +kernel, by decide +kernel, by decide +kernel⟩, rfl, rfl⟩⟩
theorem kX6_mark : zYv mX6_mark 1 := ⟨al_3 165 (by decide +kernel), al_3 166 (by decide +kernel), al_1 1 (by decide +kernel), al_3 167 (by decide +kernel), ⟨⟨by decide +kernel, by decide +kernel, by decide +kernel⟩, rfl, rfl⟩⟩
theorem kX6_most : zYv mX6_most 1 := ⟨al_3 169 (by decide +kernel), al_3 170 (by decide +kernel), al_1 1 (by decide +kernel), al_3 171 (by decide +kernel), ⟨⟨by decide +kernel, by decide +kernel, by decide +kernel⟩, rfl, rfl⟩⟩
theorem kX6_between : zYv mX6_between 1 := ⟨al_3 173 (by decide +kernel), al_3 174 (by decide +kernel), al_1 1 (by decide +kernel), al_3 175 (by decide +kernel), ⟨⟨by decide +kernel, by decide +kernel, by decide +kernel⟩, rfl, rfl⟩⟩
theorem kX6_leave : zYv mX6_leave 1 := ⟨al_3 177 (by decide +kernel), al_3 178 (by decide +kernel), al_1 1 (by decide +kernel), al_3 179 (by decide +kernel), ⟨⟨by decide +kernel, by decide +kernel, by decide +kernel⟩, rfl, rfl⟩⟩
theorem kX6_holds : zYv mX6_holds 1 := ⟨al_3 181 (by decide +kernel), al_3 182 (by decide +kernel), al_1 1 (by decide +kernel), al_3 183 (by decide +kernel), ⟨⟨by decide +kernel, by decide +kernel, by decide +kernel⟩, rfl, rfl⟩⟩
theorem kX6_setAt : zYv mX6_setAt 0 := ⟨al_3 194 (by decide +kernel), al_3 195 (by decide +kernel), al_1 1 (by decide +kernel), al_3 196 (by decide +kernel), ⟨⟨by decide +kernel, by decide +kernel, by decide +kernel⟩, rfl, rfl⟩⟩
theorem kX6_steadyFrom : zYv mX6_steadyFrom 0 := ⟨al_3 198 (by decide +kernel), al_3 199 (by decide +kernel), al_1 1 (by decide +kernel), al_3 200 (by decide +kernel), ⟨⟨by decide +kernel, by decide +kernel, by decide +kernel⟩, rfl, rfl⟩⟩
theorem kX6_whoLast : zYv mX6_whoLast 1 := ⟨al_3 202 (by decide +kernel), al_3 203 (by decide +kernel), al_1 1 (by decide +kernel), al_3 204 (by decide +kernel), ⟨⟨by decide +kernel, by decide +kernel, by decide +kernel⟩, rfl, rfl⟩⟩
theorem kX6_when : zYv mX6_when 1 := ⟨al_3 206 (by decide +kernel), al_3 207 (by decide +kernel), al_1 1 (by decide +kernel), al_3 208 (by decide +kernel), ⟨⟨by decide +kernel, by decide +kernel, by decide +kernel⟩, rfl, rfl⟩⟩
theorem kX6_row : zYv mX6_row 1 := ⟨al_3 210 (by decide +kernel), al_3 211 (by decide +kernel), al_1 1 (by decide +kernel), al_3 212 (by decide +kernel), ⟨⟨by decide +kernel, by decide +kernel, by decide +kernel⟩, rfl, rfl⟩⟩
theorem kX6_kept : zYv mX6_kept 1 := ⟨al_3 214 (by decide +kernel), al_3 215 (by decide +kernel), al_1 1 (by decide +kernel), al_3 216 (by decide +kernel), ⟨⟨by decide +kernel, by decide +kernel, by decide +kernel⟩, rfl, rfl⟩⟩
theorem kX6_judge : zYv mX6_judge 0 := ⟨al_3 231 (by decide +kernel), al_3 232 (by decide +kernel), al_1 1 (by decide +kernel), al_3 233 (by decide +kernel), ⟨⟨by decide +kernel, by decide +kernel, by decide +kernel⟩, rfl, rfl⟩⟩
theorem kX6_lots : zYv mX6_lots 2 := ⟨al_3 235 (by decide +kernel), al_3 236 (by decide +kernel), al_1 1 (by decide +kernel), al_3 237 (by decide +kernel), ⟨⟨by decide +kernel, by decide +kernel, by decide +kernel⟩, rfl, rfl⟩⟩
theorem kX6_image : zYv mX6_image 0 := ⟨al_4 2 (by decide +kernel), al_4 3 (by decide +kernel), al_1 1 (by decide +kernel), al_4 4 (by decide +kernel), ⟨⟨by decide +kernel, by decide +kernel, by decide +kernel⟩, rfl, rfl⟩⟩
theorem kX6_on : zYv mX6_on 0 := ⟨al_4 6 (by decide +kernel), al_4 7 (by decide +kernel), al_1 1 (by decide +kernel), al_4 8 (by decide +kernel), ⟨⟨by decide +kernel, by decide +kernel, by decide +kernel⟩, rfl, rfl⟩⟩
theorem kX6_count : zYv mX6_count 1 := ⟨al_4 10 (by decide +kernel), al_4 11 (by decide +kernel), al_1 1 (by decide +kernel), al_4 12 (by decide +kernel), ⟨⟨by decide +kernel, by decide +kernel, by decide +kernel⟩, rfl, rfl⟩⟩
theorem kX6_outside : zYs mX6_outside 3 := ⟨al_1 224 (by decide +kernel), al_1 1 (by decide +kernel), al_1 225 (by decide +kernel), ⟨⟨by decide +kernel, by decide +kernel, by decide +kernel⟩, rfl, rfl⟩⟩
theorem kX6_refuse : zYv mX6_refuse 1 := ⟨al_1 228 (by decide +kernel), al_s (q := (yX6_refuse, 9)) 0 (by decide +kernel), al_1 1 (by decide +kernel), al_1 229 (by decide +kernel), ⟨⟨by decide +kernel, by decide +kernel, by decide +kernel⟩, rfl, rfl⟩⟩
theorem kX6_refuseTold : zYv mX6_refuseTold 1 := ⟨al_3 78 (by decide +kernel), al_s (q := (yX6_refuseTold, 9)) 19 (by decide +kernel), al_1 1 (by decide +kernel), al_3 79 (by decide +kernel), ⟨⟨by decide +kernel, by decide +kernel, by decide +kernel⟩, rfl, rfl⟩⟩
theorem kX6_tellAll : zYv mX6_tellAll 0 := ⟨al_2 136 (by decide +kernel), al_s (q := (yX6_tellAll, 9)) 2 (by decide +kernel), al_1 1 (by decide +kernel), al_2 137 (by decide +kernel), ⟨⟨by decide +kernel, by decide +kernel, by decide +kernel⟩, rfl, rfl⟩⟩
theorem kX6_think : zYv mX6_think 0 := ⟨al_2 140 (by decide +kernel), al_s (q := (yX6_think, 9)) 3 (by decide +kernel), al_1 1 (by decide +kernel), al_2 141 (by decide +kernel), ⟨⟨by decide +kernel, by decide +kernel, by decide +kernel⟩, rfl, rfl⟩⟩
theorem kX6_playInMind : zYv mX6_playInMind 2 := ⟨al_3 120 (by decide +kernel), al_s (q := (yX6_playInMind, 9)) 20 (by decide +kernel), al_1 1 (by decide +kernel), al_3 121 (by decide +kernel), ⟨⟨by decide +kernel, by decide +kernel, by decide +kernel⟩, rfl, rfl⟩⟩
theorem kX6_leastCostly : zYv mX6_leastCostly 4 := ⟨al_3 150 (by decide +kernel), al_s (q := (yX6_leastCostly, 9)) 21 (by decide +kernel), al_1 1 (by decide +kernel), al_3 151 (by decide +kernel), ⟨⟨by decide +kernel, by decide +kernel, by decide +kernel⟩, rfl, rfl⟩⟩
theorem kX6_savedByFineHands : zYv mX6_savedByFineHands 3 := ⟨al_3 158 (by decide +kernel), al_s (q := (yX6_savedByFineHands, 9)) 22 (by decide +kernel), al_1 1 (by decide +kernel), al_3 159 (by decide +kernel), ⟨⟨by decide +kernel, by decide +kernel, by decide +kernel⟩, rfl, rfl⟩⟩
theorem kX6_minutesHeld : zYv mX6_minutesHeld 1 := ⟨al_3 186 (by decide +kernel), al_s (q := (yX6_minutesHeld, 9)) 23 (by decide +kernel), al_1 1 (by decide +kernel), al_3 187 (by decide +kernel), ⟨⟨by decide +kernel, by decide +kernel, by decide +kernel⟩, rfl, rfl⟩⟩
theorem kX6_firstUnlike : zYv mX6_firstUnlike 0 := ⟨al_3 223 (by decide +kernel), al_s (q := (yX6_firstUnlike, 9)) 25 (by decide +kernel), al_1 1 (by decide +kernel), al_3 224 (by decide +kernel), ⟨⟨by decide +kernel, by decide +kernel, by decide +kernel⟩, rfl, rfl⟩⟩
theorem kX6_rulesKept : zYv mX6_rulesKept 0 := ⟨al_3 219 (by decide +kernel), al_s (q := (yX6_rulesKept, 9)) 24 (by decide +kernel), al_1 1 (by decide +kernel), al_3 220 (by decide +kernel), ⟨⟨by decide +kernel, by decide +kernel, by decide +kernel⟩, rfl, rfl⟩⟩
theorem kX6_limitsKept : zYv mX6_limitsKept 0 := ⟨al_3 228 (by decide +kernel), al_s (q := (yX6_limitsKept, 9)) 26 (by decide +kernel), al_1 1 (by decide +kernel), al_3 229 (by decide +kernel), ⟨⟨by decide +kernel, by decide +kernel, by decide +kernel⟩, rfl, rfl⟩⟩
theorem kX6_held : zYs mX6_held 3 := ⟨al_2 234 (by decide +kernel), al_1 1 (by decide +kernel), al_2 235 (by decide +kernel), ⟨⟨by decide +kernel, by decide +kernel, by decide +kernel⟩, rfl, rfl⟩⟩
theorem kX7_no : zYv mX7_no 1 := ⟨al_4 141 (by decide +kernel), al_s (q := (yX7_no, 36)) 27 (by decide +kernel), al_1 8 (by decide +kernel), al_4 142 (by decide +kernel), ⟨⟨by decide +kernel, by decide +kernel, by decide +kernel⟩, rfl, rfl⟩⟩
theorem kX7_lower : zYv mX7_lower 1 := ⟨al_5 54 (by decide +kernel), al_s (q := (yX7_lower, 36)) 54 (by decide +kernel), al_1 8 (by decide +kernel), al_5 55 (by decide +kernel), ⟨⟨by decide +kernel, by decide +kernel, by decide +kernel⟩, rfl, rfl⟩⟩
theorem kX7_isIn : zYs mX7_isIn 3 := ⟨al_4 175 (by decide +kernel), al_1 8 (by decide +kernel), al_4 176 (by decide +kernel), ⟨⟨by decide +kernel, by decide +kernel, by decide +kernel⟩, rfl, rfl⟩⟩
theorem kX7_bound : zYs mX7_bound 3 := ⟨al_4 137 (by decide +kernel), al_1 8 (by decide +kernel), al_4 138 (by decide +kernel), ⟨⟨by decide +kernel, by decide +kernel, by decide +kernel⟩, rfl, rfl⟩⟩
theorem kX7_size : zYs mX7_size 1 := ⟨al_5 2 (by decide +kernel), al_1 8 (by decide +kernel), al_5 3 (by decide +kernel), ⟨⟨by decide +kernel, by decide +kernel, by decide +kernel⟩, rfl, rfl⟩⟩
theorem kX7_isPerson : zYv mX7_isPerson 1 := ⟨al_5 42 (by decide +kernel), al_s (q := (yX7_isPerson, 36)) 53 (by decide +kernel), al_1 8 (by decide +kernel), al_5 43 (by decide +kernel), ⟨⟨by decide +kernel, by decide +kernel, by decide +kernel⟩, rfl, rfl⟩⟩
theorem kX7_leastOf : zYs mX7_leastOf 1 := ⟨al_4 212 (by decide +kernel), al_1 8 (by decide +kernel), al_4 213 (by decide +kernel), ⟨⟨by decide +kernel, by decide +kernel, by decide +kernel⟩, rfl, rfl⟩⟩
theorem kX7_mostOf : zYs mX7_mostOf 1 := ⟨al_4 215 (by decide +kernel), al_1 8 (by decide +kernel), al_4 216 (by decide +kernel), ⟨⟨by decide +kernel, by decide +kernel, by decide +kernel⟩, rfl, rfl⟩⟩
theorem kX7_letter : zYv mX7_letter 1 := ⟨al_4 133 (by decide +kernel), al_4 134 (by decide +kernel), al_1 8 (by decide +kernel), al_4 135 (by decide +kernel), ⟨⟨by decide +kernel, by decide +kernel, by decide +kernel⟩, rfl, rfl⟩⟩
theorem kX7_next : zYv mX7_next 0 := ⟨al_4 153 (by decide +kernel), al_s (q := (yX7_next, 36)) 29 (by decide +kernel), al_1 8 (by decide +kernel), al_4 154 (by decide +kernel), ⟨⟨by decide +kernel, by decide +kernel, by decide +kernel⟩, rfl, rfl⟩⟩
theorem kX7_readsDigits : zYv mX7_readsDigits 2 := ⟨al_4 172 (by decide +kernel), al_s (q := (yX7_readsDigits, 36)) 33 (by decide +kernel), al_1 8 (by decide +kernel), al_4 173 (by decide +kernel), ⟨⟨by decide +kernel, by decide +kernel, by decide +kernel⟩, rfl, rfl⟩⟩
theorem kX7_readsSigned : zYv mX7_readsSigned 2 := ⟨al_4 179 (by decide +kernel), al_s (q := (yX7_readsSigned, 36)) 34 (by decide +kernel), al_1 8 (by decide +kernel), al_4 180 (by decide +kernel), ⟨⟨by decide +kernel, by decide +kernel, by decide +kernel⟩, rfl, rfl⟩⟩
theorem kX7_personOf : zYs mX7_personOf 1 := ⟨al_4 164 (by decide +kernel), al_1 8 (by decide +kernel), al_4 165 (by decide +kernel), ⟨⟨by decide +kernel, by decide +kernel, by decide +kernel⟩, rfl, rfl⟩⟩
theorem kX7_driftOf : zYs mX7_driftOf 1 := ⟨al_4 182 (by decide +kernel), al_1 8 (by decide +kernel), al_4 183 (by decide +kernel), ⟨⟨by decide +kernel, by decide +kernel, by decide +kernel⟩, rfl, rfl⟩⟩
theorem kX7_ruleOf : zYs mX7_ruleOf 1 := ⟨al_4 185 (by decide +kernel), al_1 8 (by decide +kernel), al_4 186 (by decide +kernel), ⟨⟨by decide +kernel, by decide +kernel, by decide +kernel⟩, rfl, rfl⟩⟩
theorem kX7_readsKind : zYv mX7_readsKind 2 := ⟨al_4 168 (by decide +kernel), al_s (q := (yX7_readsKind, 36)) 32 (by decide +kernel), al_1 8 (by decide +kernel), al_4 169 (by decide +kernel), ⟨⟨by decide +kernel, by decide +kernel, by decide +kernel⟩, rfl, rfl⟩⟩
theorem kX7_readsPerson : zYv mX7_readsPerson 1 := ⟨al_4 161 (by decide +kernel), al_s (q := (yX7_readsPerson, 36)) 31 (by decide +kernel), al_1 8 (by decide +kernel), al_4 162 (by decide +kernel), ⟨⟨by decide +kernel, by decide +kernel, by decide +kernel⟩, rfl, rfl⟩⟩
theorem kX7_readsAll : zYv mX7_readsAll 2 := ⟨al_4 157 (by decide +kernel), al_s (q := (yX7_readsAll, 36)) 30 (by decide +kernel), al_1 8 (by decide +kernel), al_4 158 (by decide +kernel), ⟨⟨by decide +kernel, by decide +kernel, by decide +kernel⟩, rfl, rfl⟩⟩
theorem kX7_statement : zYv mX7_statement 0 := ⟨al_4 149 (by decide +kernel), al_s (q := (yX7_statement, 36)) 28 (by decide +kernel), al_1 8 (by decide +kernel), al_4 150 (by decide +kernel), ⟨⟨by decide +kernel, by decide +kernel, by decide +kernel⟩, rfl, rfl⟩⟩
theorem kX7_comesPerson : zYv mX7_comesPerson 1 := ⟨al_4 205 (by decide +kernel), al_s (q := (yX7_comesPerson, 36)) 39 (by decide +kernel), al_1 8 (by decide +kernel), al_4 206 (by decide +kernel), ⟨⟨by decide +kernel, by decide +kernel, by decide +kernel⟩, rfl, rfl⟩⟩
theorem kX7_comesSet : zYv mX7_comesSet 2 := ⟨al_4 209 (by decide +kernel), al_s (q := (yX7_comesSet, 36)) 40 (by decide +kernel), al_1 8 (by decide +kernel), al_4 210 (by decide +kernel), ⟨⟨by decide +kernel, by decide +kernel, by decide +kernel⟩, rfl, rfl⟩⟩
theorem kX7_comes : zYv mX7_comes 1 := ⟨al_4 201 (by decide +kernel), al_s (q := (yX7_comes, 36)) 38 (by decide +kernel), al_1 8 (by decide +kernel), al_4 202 (by decide +kernel), ⟨⟨by decide +kernel, by decide +kernel, by decide +kernel⟩, rfl, rfl⟩⟩
theorem kX7_parlour : zYv mX7_parlour 0 := ⟨al_4 144 (by decide +kernel), al_4 145 (by decide +kernel), al_1 8 (by decide +kernel), al_4 146 (by decide +kernel), ⟨⟨by decide +kernel, by decide +kernel, by decide +kernel⟩, rfl, rfl⟩⟩
theorem kX7_passes : zYv mX7_passes 1 := ⟨al_4 193 (by decide +kernel), al_s (q := (yX7_passes, 36)) 36 (by decide +kernel), al_1 8 (by decide +kernel), al_4 194 (by decide +kernel), ⟨⟨by decide +kernel, by decide +kernel, by decide +kernel⟩, rfl, rfl⟩⟩
theorem kX7_passOne : zYv mX7_passOne 1 := ⟨al_4 197 (by decide +kernel), al_s (q := (yX7_passOne, 36)) 37 (by decide +kernel), al_1 8 (by decide +kernel), al_4 198 (by decide +kernel), ⟨⟨by decide +kernel, by decide +kernel, by decide +kernel⟩, rfl, rfl⟩⟩
theorem kX7_passesAll : zYv mX7_passesAll 2 := ⟨al_4 189 (by decide +kernel), al_s (q := (yX7_passesAll, 36)) 35 (by decide +kernel), al_1 8 (by decide +kernel), al_4 190 (by decide +kernel), ⟨⟨by decide +kernel, by decide +kernel, by decide +kernel⟩, rfl, rfl⟩⟩
theorem kX7_image : zYv mX7_image 0 := ⟨al_5 29 (by decide +kernel), al_5 30 (by decide +kernel), al_1 8 (by decide +kernel), al_5 31 (by decide +kernel), ⟨⟨by decide +kernel, by decide +kernel, by decide +kernel⟩, rfl, rfl⟩⟩
theorem kX7_on : zYv mX7_on 0 := ⟨al_5 33 (by decide +kernel), al_5 34 (by decide +kernel), al_1 8 (by decide +kernel), al_5 35 (by decide +kernel), ⟨⟨by decide +kernel, by decide +kernel, by decide +kernel⟩, rfl, rfl⟩⟩
theorem kX7_swinging : zYv mX7_swinging 1 := ⟨al_4 235 (by decide +kernel), al_s (q := (yX7_swinging, 36)) 45 (by decide +kernel), al_1 8 (by decide +kernel), al_4 236 (by decide +kernel), ⟨⟨by decide +kernel, by decide +kernel, by decide +kernel⟩, rfl, rfl⟩⟩
theorem kX7_cooling : zYv mX7_cooling 1 := ⟨al_4 239 (by decide +kernel), al_s (q := (yX7_cooling, 36)) 46 (by decide +kernel), al_1 8 (by decide +kernel), al_5 0 (by decide +kernel), ⟨⟨by decide +kernel, by decide +kernel, by decide +kernel⟩, rfl, rfl⟩⟩
theorem kX7_driftIn : zYv mX7_driftIn 1 := ⟨al_4 231 (by decide +kernel), al_s (q := (yX7_driftIn, 36)) 44 (by decide +kernel), al_1 8 (by decide +kernel), al_4 232 (by decide +kernel), ⟨⟨by decide +kernel, by decide +kernel, by decide +kernel⟩, rfl, rfl⟩⟩
theorem kX7_botherOf : zYv mX7_botherOf 2 := ⟨al_5 26 (by decide +kernel), al_s (q := (yX7_botherOf, 36)) 52 (by decide +kernel), al_1 8 (by decide +kernel), al_5 27 (by decide +kernel), ⟨⟨by decide +kernel, by decide +kernel, by decide +kernel⟩, rfl, rfl⟩⟩
theorem kX7_placeOf : zYv mX7_placeOf 1 := ⟨al_5 10 (by decide +kernel), al_s (q := (yX7_placeOf, 36)) 48 (by decide +kernel), al_1 8 (by decide +kernel), al_5 11 (by decide +kernel), ⟨⟨by decide +kernel, by decide +kernel, by decide +kernel⟩, rfl, rfl⟩⟩
theorem kX7_isUp : zYv mX7_isUp 0 := ⟨al_5 6 (by decide +kernel), al_s (q := (yX7_isUp, 36)) 47 (by decide +kernel), al_1 8 (by decide +kernel), al_5 7 (by decide +kernel), ⟨⟨by decide +kernel, by decide +kernel, by decide +kernel⟩, rfl, rfl⟩⟩
theorem kX7_shouldBe : zYv mX7_shouldBe 0 := ⟨al_5 18 (by decide +kernel), al_s (q := (yX7_shouldBe, 36)) 50 (by decide +kernel), al_1 8 (by decide +kernel), al_5 19 (by decide +kernel), ⟨⟨by decide +kernel, by decide +kernel, by decide +kernel⟩, rfl, rfl⟩⟩
theorem kX7_turnsTo : zYv mX7_turnsTo 2 := ⟨al_5 22 (by decide +kernel), al_s (q := (yX7_turnsTo, 36)) 51 (by decide +kernel), al_1 8 (by decide +kernel), al_5 23 (by decide +kernel), ⟨⟨by decide +kernel, by decide +kernel, by decide +kernel⟩, rfl, rfl⟩⟩
theorem kX7_begins : zYv mX7_begins 0 := ⟨al_4 223 (by decide +kernel), al_s (q := (yX7_begins, 36)) 42 (by decide +kernel), al_1 8 (by decide +kernel), al_4 224 (by decide +kernel), ⟨⟨by decide +kernel, by decide +kernel, by decide +kernel⟩, rfl, rfl⟩⟩
theorem kX7_getsUp : zYv mX7_getsUp 0 := ⟨al_5 14 (by decide +kernel), al_s (q := (yX7_getsUp, 36)) 49 (by decide +kernel), al_1 8 (by decide +kernel), al_5 15 (by decide +kernel), ⟨⟨by decide +kernel, by decide +kernel, by decide +kernel⟩, rfl, rfl⟩⟩
theorem kX7_goesOne : zYv mX7_goesOne 0 := ⟨al_4 227 (by decide +kernel), al_s (q := (yX7_goesOne, 36)) 43 (by decide +kernel), al_1 8 (by decide +kernel), al_4 228 (by decide +kernel), ⟨⟨by decide +kernel, by decide +kernel, by decide +kernel⟩, rfl, rfl⟩⟩
theorem kX7_goes : zYv mX7_goes 1 := ⟨al_4 219 (by decide +kernel), al_s (q := (yX7_goes, 36)) 41 (by decide +kernel), al_1 8 (by decide +kernel), al_4 220 (by decide +kernel), ⟨⟨by decide +kernel, by decide +kernel, by decide +kernel⟩, rfl, rfl⟩⟩
theorem kX7_costOf : zYv mX7_costOf 0 := ⟨al_5 87 (by decide +kernel), al_s (q := (yX7_costOf, 36)) 56 (by decide +kernel), al_1 8 (by decide +kernel), al_5 88 (by decide +kernel), ⟨⟨by decide +kernel, by decide +kernel, by decide +kernel⟩, rfl, rfl⟩⟩
theorem kX7_thinks : zYv mX7_thinks 1 := ⟨al_5 83 (by decide +kernel), al_s (q := (yX7_thinks, 36)) 55 (by decide +kernel), al_1 8 (by decide +kernel), al_5 84 (by decide +kernel), ⟨⟨by decide +kernel, by decide +kernel, by decide +kernel⟩, rfl, rfl⟩⟩
theorem kX7_thinksWith : zYv mX7_thinksWith 3 := ⟨al_5 111 (by decide +kernel), al_s (q := (yX7_thinksWith, 36)) 59 (by decide +kernel), al_1 8 (by decide +kernel), al_5 112 (by decide +kernel), ⟨⟨by decide +kernel, by decide +kernel, by decide +kernel⟩, rfl, rfl⟩⟩
theorem kX7_thinksByRule : zYv mX7_thinksByRule 2 := ⟨al_5 119 (by decide +kernel), al_s (q := (yX7_thinksByRule, 36)) 61 (by decide +kernel), al_1 8 (by decide +kernel), al_5 120 (by decide +kernel), ⟨⟨by decide +kernel, by decide +kernel, by decide +kernel⟩, rfl, rfl⟩⟩
theorem kX7_thinksFirst : zYv mX7_thinksFirst 2 := ⟨al_5 127 (by decide +kernel), al_s (q := (yX7_thinksFirst, 36)) 63 (by decide +kernel), al_1 8 (by decide +kernel), al_5 128 (by decide +kernel), ⟨⟨by decide +kernel, by decide +kernel, by decide +kernel⟩, rfl, rfl⟩⟩
theorem kX7_person : zYv mX7_person 2 := ⟨al_5 37 (by decide +kernel), al_5 38 (by decide +kernel), al_1 8 (by decide +kernel), al_5 39 (by decide +kernel), ⟨⟨by decide +kernel, by decide +kernel, by decide +kernel⟩, rfl, rfl⟩⟩
theorem kX7_bothers : zYv mX7_bothers 2 := ⟨al_5 45 (by decide +kernel), al_5 46 (by decide +kernel), al_1 8 (by decide +kernel), al_5 47 (by decide +kernel), ⟨⟨by decide +kernel, by decide +kernel, by decide +kernel⟩, rfl, rfl⟩⟩
theorem kX7_place : zYv mX7_place 1 := ⟨al_5 49 (by decide +kernel), al_5 50 (by decide +kernel), al_1 8 (by decide +kernel), al_5 51 (by decide +kernel), ⟨⟨by decide +kernel, by decide +kernel, by decide +kernel⟩, rfl, rfl⟩⟩
theorem kX7_set : zYv mX7_set 2 := ⟨al_5 58 (by decide +kernel), al_5 59 (by decide +kernel), al_1 8 (by decide +kernel), al_5 60 (by decide +kernel), ⟨⟨by decide +kernel, by decide +kernel, by decide +kernel⟩, rfl, rfl⟩⟩
theorem kX7_kind : zYv mX7_kind 2 := ⟨al_5 62 (by decide +kernel), al_5 63 (by decide +kernel), al_1 8 (by decide +kernel), al_5 64 (by decide +kernel), ⟨⟨by decide +kernel, by decide +kernel, by decide +kernel⟩, rfl, rfl⟩⟩
theorem kX7_turn : zYv mX7_turn 1 := ⟨al_5 66 (by decide +kernel), al_5 67 (by decide +kernel), al_1 8 (by decide +kernel), al_5 68 (by decide +kernel), ⟨⟨by decide +kernel, by decide +kernel, by decide +kernel⟩, rfl, rfl⟩⟩
theorem kX7_drifts : zYv mX7_drifts 1 := ⟨al_5 70 (by decide +kernel), al_5 71 (by decide +kernel), al_1 8 (by decide +kernel), al_5 72 (by decide +kernel), ⟨⟨by decide +kernel, by decide +kernel, by decide +kernel⟩, rfl, rfl⟩⟩
theorem kX7_go : zYv mX7_go 1 := ⟨al_5 74 (by decide +kernel), al_5 75 (by decide +kernel), al_1 8 (by decide +kernel), al_5 76 (by decide +kernel), ⟨⟨by decide +kernel, by decide +kernel, by decide +kernel⟩, rfl, rfl⟩⟩
theorem kX7_cost : zYv mX7_cost 2 := ⟨al_5 78 (by decide +kernel), al_5 79 (by decide +kernel), al_1 8 (by decide +kernel), al_5 80 (by decide +kernel), ⟨⟨by decide +kernel, by decide +kernel, by decide +kernel⟩, rfl, rfl⟩⟩
theorem kX7_at : zYv mX7_at 1 := ⟨al_5 90 (by decide +kernel), al_5 91 (by decide +kernel), al_1 8 (by decide +kernel), al_5 92 (by decide +kernel), ⟨⟨by decide +kernel, by decide +kernel, by decide +kernel⟩, rfl, rfl⟩⟩
theorem kX7_bothOf : zYv mX7_bothOf 1 := ⟨al_5 99 (by decide +kernel), al_s (q := (yX7_bothOf, 36)) 57 (by decide +kernel), al_1 8 (by decide +kernel), al_5 100 (by decide +kernel), ⟨⟨by decide +kernel, by decide +kernel, by decide +kernel⟩, rfl, rfl⟩⟩
theorem kX7_of : zYv mX7_of 3 := ⟨al_5 94 (by decide +kernel), al_5 95 (by decide +kernel), al_1 8 (by decide +kernel), al_5 96 (by decide +kernel), ⟨⟨by decide +kernel, by decide +kernel, by decide +kernel⟩, rfl, rfl⟩⟩
theorem kX7_bestSet : zYv mX7_bestSet 2 := ⟨al_5 107 (by decide +kernel), al_s (q := (yX7_bestSet, 36)) 58 (by decide +kernel), al_1 8 (by decide +kernel), al_5 108 (by decide +kernel), ⟨⟨by decide +kernel, by decide +kernel, by decide +kernel⟩, rfl, rfl⟩⟩
theorem kX7_bestRule : zYv mX7_bestRule 1 := ⟨al_5 115 (by decide +kernel), al_s (q := (yX7_bestRule, 36)) 60 (by decide +kernel), al_1 8 (by decide +kernel), al_5 116 (by decide +kernel), ⟨⟨by decide +kernel, by decide +kernel, by decide +kernel⟩, rfl, rfl⟩⟩
theorem kX7_bestFirst : zYv mX7_bestFirst 1 := ⟨al_5 123 (by decide +kernel), al_s (q := (yX7_bestFirst, 36)) 62 (by decide +kernel), al_1 8 (by decide +kernel), al_5 124 (by decide +kernel), ⟨⟨by decide +kernel, by decide +kernel, by decide +kernel⟩, rfl, rfl⟩⟩
theorem kX7_best : zYv mX7_best 2 := ⟨al_5 102 (by decide +kernel), al_5 103 (by decide +kernel), al_1 8 (by decide +kernel), al_5 104 (by decide +kernel), ⟨⟨by decide +kernel, by decide +kernel, by decide +kernel⟩, rfl, rfl⟩⟩
theorem kX7_finer : zYv mX7_finer 2 := ⟨al_5 130 (by decide +kernel), al_5 131 (by decide +kernel), al_1 8 (by decide +kernel), al_5 132 (by decide +kernel), ⟨⟨by decide +kernel, by decide +kernel, by decide +kernel⟩, rfl, rfl⟩⟩
theorem kX7_mark : zYv mX7_mark 1 := ⟨al_5 134 (by decide +kernel), al_5 135 (by decide +kernel), al_1 8 (by decide +kernel), al_5 136 (by decide +kernel), ⟨⟨by decide +kernel, by decide +kernel, by decide +kernel⟩, rfl, rfl⟩⟩
theorem kX7_most : zYv mX7_most 1 := ⟨al_5 138 (by decide +kernel), al_5 139 (by decide +kernel), al_1 8 (by decide +kernel), al_5 140 (by decide +kernel), ⟨⟨by decide +kernel, by decide +kernel, by decide +kernel⟩, rfl, rfl⟩⟩
theorem kX7_between : zYv mX7_between 1 := ⟨al_5 142 (by decide +kernel), al_5 143 (by decide +kernel), al_1 8 (by decide +kernel), al_5 144 (by decide +kernel), ⟨⟨by decide +kernel, by decide +kernel, by decide +kernel⟩, rfl, rfl⟩⟩
theorem kX7_leave : zYv mX7_leave 1 := ⟨al_5 146 (by decide +kernel), al_5 147 (by decide +kernel), al_1 8 (by decide +kernel), al_5 148 (by decide +kernel), ⟨⟨by decide +kernel, by decide +kernel, by decide +kernel⟩, rfl, rfl⟩⟩
theorem kX7_isOff : zYv mX7_isOff 1 := ⟨al_5 159 (by decide +kernel), al_s (q := (yX7_isOff, 36)) 65 (by decide +kernel), al_1 8 (by decide +kernel), al_5 160 (by decide +kernel), ⟨⟨by decide +kernel, by decide +kernel, by decide +kernel⟩, rfl, rfl⟩⟩
theorem kX7_holdsFrom : zYv mX7_holdsFrom 1 := ⟨al_5 155 (by decide +kernel), al_s (q := (yX7_holdsFrom, 36)) 64 (by decide +kernel), al_1 8 (by decide +kernel), al_5 156 (by decide +kernel), ⟨⟨by decide +kernel, by decide +kernel, by decide +kernel⟩, rfl, rfl⟩⟩
theorem kX7_holds : zYv mX7_holds 1 := ⟨al_5 150 (by decide +kernel), al_5 151 (by decide +kernel), al_1 8 (by decide +kernel), al_5 152 (by decide +kernel), ⟨⟨by decide +kernel, by decide +kernel, by decide +kernel⟩, rfl, rfl⟩⟩
theorem kX7_setAt : zYv mX7_setAt 0 := ⟨al_5 162 (by decide +kernel), al_5 163 (by decide +kernel), al_1 8 (by decide +kernel), al_5 164 (by decide +kernel), ⟨⟨by decide +kernel, by decide +kernel, by decide +kernel⟩, rfl, rfl⟩⟩
theorem kX7_isStill : zYv mX7_isStill 1 := ⟨al_5 171 (by decide +kernel), al_s (q := (yX7_isStill, 36)) 66 (by decide +kernel), al_1 8 (by decide +kernel), al_5 172 (by decide +kernel), ⟨⟨by decide +kernel, by decide +kernel, by decide +kernel⟩, rfl, rfl⟩⟩
theorem kX7_steadyFrom : zYv mX7_steadyFrom 0 := ⟨al_5 166 (by decide +kernel), al_5 167 (by decide +kernel), al_1 8 (by decide +kernel), al_5 168 (by decide +kernel), ⟨⟨by decide +kernel, by decide +kernel, by decide +kernel⟩, rfl, rfl⟩⟩
theorem kX7_whoLast : zYv mX7_whoLast 1 := ⟨al_5 174 (by decide +kernel), al_5 175 (by decide +kernel), al_1 8 (by decide +kernel), al_5 176 (by decide +kernel), ⟨⟨by decide +kernel, by decide +kernel, by decide +kernel⟩, rfl, rfl⟩⟩
theorem kX7_when : zYv mX7_when 1 := ⟨al_5 178 (by decide +kernel), al_5 179 (by decide +kernel), al_1 8 (by decide +kernel), al_5 180 (by decide +kernel), ⟨⟨by decide +kernel, by decide +kernel, by decide +kernel⟩, rfl, rfl⟩⟩
theorem kX7_row : zYv mX7_row 1 := ⟨al_5 182 (by decide +kernel), al_5 183 (by decide +kernel), al_1 8 (by decide +kernel), al_5 184 (by decide +kernel), ⟨⟨by decide +kernel, by decide +kernel, by decide +kernel⟩, rfl, rfl⟩⟩
theorem kX7_firstOther : zYv mX7_firstOther 0 := ⟨al_5 191 (by decide +kernel), al_s (q := (yX7_firstOther, 36)) 67 (by decide +kernel), al_1 8 (by decide +kernel), al_5 192 (by decide +kernel), ⟨⟨by decide +kernel, by decide +kernel, by decide +kernel⟩, rfl, rfl⟩⟩
theorem kX7_kept : zYv mX7_kept 1 := ⟨al_5 186 (by decide +kernel), al_5 187 (by decide +kernel), al_1 8 (by decide +kernel), al_5 188 (by decide +kernel), ⟨⟨by decide +kernel, by decide +kernel, by decide +kernel⟩, rfl, rfl⟩⟩
theorem kX7_judge : zYv mX7_judge 0 := ⟨al_5 194 (by decide +kernel), al_5 195 (by decide +kernel), al_1 8 (by decide +kernel), al_5 196 (by decide +kernel), ⟨⟨by decide +kernel, by decide +kernel, by decide +kernel⟩, rfl, rfl⟩⟩
theorem kX7_lots : zYv mX7_lots 2 := ⟨al_5 198 (by decide +kernel), al_5 199 (by decide +kernel), al_1 8 (by decide +kernel), al_5 200 (by decide +kernel), ⟨⟨by decide +kernel, by decide +kernel, by decide +kernel⟩, rfl, rfl⟩⟩
theorem kX7_count : zYv mX7_count 1 := ⟨al_5 205 (by decide +kernel), al_5 206 (by decide +kernel), al_1 8 (by decide +kernel), al_5 207 (by decide +kernel), ⟨⟨by decide +kernel, by decide +kernel, by decide +kernel⟩, rfl, rfl⟩⟩
theorem kJ0_length_8abf5 : zYv mJ0_length_8abf5 0 := ⟨al_2 4 (by decide +kernel), al_2 5 (by decide +kernel), al_1 9 (by decide +kernel), al_2 6 (by decide +kernel), ⟨⟨by decide +kernel, by decide +kernel, by decide +kernel⟩, rfl, rfl⟩⟩
theorem kJ0_isEmpty_aae02 : zYv mJ0_isEmpty_aae02 0 := ⟨al_2 131 (by decide +kernel), al_2 132 (by decide +kernel), al_1 9 (by decide +kernel), al_2 133 (by decide +kernel), ⟨⟨by decide +kernel, by decide +kernel, by decide +kernel⟩, rfl, rfl⟩⟩
theorem kJ0_charAt_5068e : zYv mJ0_charAt_5068e 1 := ⟨al_2 14 (by decide +kernel), al_2 15 (by decide +kernel), al_1 9 (by decide +kernel), al_2 16 (by decide +kernel), ⟨⟨by decide +kernel, by decide +kernel, by decide +kernel⟩, rfl, rfl⟩⟩
theorem kJ0_indexOf_0f7a4 : zYv mJ0_indexOf_0f7a4 1 := ⟨al_2 60 (by decide +kernel), al_2 61 (by decide +kernel), al_1 9 (by decide +kernel), al_2 62 (by decide +kernel), ⟨⟨by decide +kernel, by decide +kernel, by decide +kernel⟩, rfl, rfl⟩⟩
theorem kJ0_indexOf_7cf53 : zYv mJ0_indexOf_7cf53 2 := ⟨al_2 64 (by decide +kernel), al_2 65 (by decide +kernel), al_1 9 (by decide +kernel), al_2 66 (by decide +kernel), ⟨⟨by decide +kernel, by decide +kernel, by decide +kernel⟩, rfl, rfl⟩⟩
theorem kJ0_coder_7d493 : zYv mJ0_coder_7d493 0 := ⟨al_2 8 (by decide +kernel), al_2 9 (by decide +kernel), al_1 9 (by decide +kernel), al_2 10 (by decide +kernel), ⟨⟨by decide +kernel, by decide +kernel, by decide +kernel⟩, rfl, rfl⟩⟩
theorem kJ0_isLatin1_aae02 : zYv mJ0_isLatin1_aae02 0 := ⟨al_2 18 (by decide +kernel), al_2 19 (by decide +kernel), al_1 9 (by decide +kernel), al_2 20 (by decide +kernel), ⟨⟨by decide +kernel, by decide +kernel, by decide +kernel⟩, rfl, rfl⟩⟩
theorem kJ0_checkIndex_df160 : zYs mJ0_checkIndex_df160 2 := ⟨al_2 25 (by decide +kernel), al_1 9 (by decide +kernel), al_2 26 (by decide +kernel), ⟨⟨by decide +kernel, by decide +kernel, by decide +kernel⟩, rfl, rfl⟩⟩
theorem kJ1_charAt_3b067 : zYs mJ1_charAt_3b067 2 := ⟨al_2 22 (by decide +kernel), al_1 10 (by decide +kernel), al_2 23 (by decide +kernel), ⟨⟨by decide +kernel, by decide +kernel, by decide +kernel⟩, rfl, rfl⟩⟩
theorem kJ1_canEncode_9a6ad : zYs mJ1_canEncode_9a6ad 1 := ⟨al_2 72 (by decide +kernel), al_1 10 (by decide +kernel), al_2 73 (by decide +kernel), ⟨⟨by decide +kernel, by decide +kernel, by decide +kernel⟩, rfl, rfl⟩⟩
theorem kJ1_indexOf_4cfef : zYs mJ1_indexOf_4cfef 4 := ⟨al_2 69 (by decide +kernel), al_1 10 (by decide +kernel), al_2 70 (by decide +kernel), ⟨⟨by decide +kernel, by decide +kernel, by decide +kernel⟩, rfl, rfl⟩⟩
theorem kJ1_indexOfChar_4cfef : zYs mJ1_indexOfChar_4cfef 4 := ⟨al_2 81 (by decide +kernel), al_1 10 (by decide +kernel), al_2 82 (by decide +kernel), ⟨⟨by decide +kernel, by decide +kernel, by decide +kernel⟩, rfl, rfl⟩⟩
theorem kJ3_checkIndex_8e157 : zYs mJ3_checkIndex_8e157 3 := ⟨al_2 30 (by decide +kernel), al_1 11 (by decide +kernel), al_2 31 (by decide +kernel), ⟨⟨by decide +kernel, by decide +kernel, by decide +kernel⟩, rfl, rfl⟩⟩
theorem mw_max : Cond.static Lib.Math.max.name ∈ zAL ∧ Cond.initialized "java/lang/Math" ∈ zAL ∧ Cond.code Lib.Math.max.name Lib.Math.max.code 2 (some .int) ∈ zAL := ⟨al_2 75 (by decide +kernel), al_1 13 (by decide +kernel), al_2 76 (by decide +kernel)⟩
theorem mw_min : Cond.static Lib.Math.min.name ∈ zAL ∧ Cond.initialized "java/lang/Math" ∈ zAL ∧ Cond.code Lib.Math.min.name Lib.Math.min.code 2 (some .int) ∈ zAL := ⟨al_2 78 (by decide +kernel), al_1 13 (by decide +kernel), al_2 79 (by decide +kernel)⟩
theorem mw_abs : Cond.static Lib.Math.abs.name ∈ zAL ∧ Cond.initialized "java/lang/Math" ∈ zAL ∧ Cond.code Lib.Math.abs.name Lib.Math.abs.code 1 (some .int) ∈ zAL := ⟨al_3 11 (by decide +kernel), al_1 13 (by decide +kernel), al_3 12 (by decide +kernel)⟩
theorem lmX6_226 : Cond.methodLink RX6 226 Lib.Math.min.name ∈ zAL := al_2 236 (by decide +kernel)
theorem lmX6_231 : Cond.methodLink RX6 231 Lib.Math.max.name ∈ zAL := al_2 237 (by decide +kernel)
theorem lmX0_31 : Cond.methodLink RX0 31 Lib.Math.max.name ∈ zAL := al_3 54 (by decide +kernel)
theorem lmX1_23 : Cond.methodLink RX1 23 Lib.Math.max.name ∈ zAL := al_2 231 (by decide +kernel)
theorem lmX1_29 : Cond.methodLink RX1 29 Lib.Math.min.name ∈ zAL := al_2 232 (by decide +kernel)
theorem lmX2_142 : Cond.methodLink RX2 142 Lib.Math.abs.name ∈ zAL := al_3 10 (by decide +kernel)
theorem lmX3_32 : Cond.methodLink RX3 32 Lib.Math.abs.name ∈ zAL := al_3 29 (by decide +kernel)
theorem lmJ1_38 : Cond.methodLink RJ1 38 Lib.Math.min.name ∈ zAL := al_2 77 (by decide +kernel)
theorem lmJ1_92 : Cond.methodLink RJ1 92 Lib.Math.max.name ∈ zAL := al_2 74 (by decide +kernel)
end
section
/-! the class: what a parlour holds: numbers (0 at, 1, 2 places, 6 people, 7 turn, 8 minute, 9, 10 drift, 11, 12, 13 rule), people by their numbers -/
abbrev zP : Type := (Nat → Int32) × (Nat → Nat → Int32)
def up2 {α : Type} (f : Nat → α) (k : Nat) (x : α) : Nat → α := fun j => if j = k then x else f j
def hPs (p : Nat → Int32) : va_E := .inr (3, [.int (p 0), .int (p 1), .int (p 2), .int (p 3), .int (p 4), .int (p 5)])
def hPl (G : zG) (b : Nat) (m : zP) : List va_E := [.inr (2, [.int (m.1 0), .int (m.1 1), .int (m.1 2), .ref (b + 1), .ref (b + 2), .ref (b + 3), .int (m.1 6), .int (m.1 7), .int (m.1 8)]), .inr (1, [.int (m.1 9), .int (m.1 10)]), .inr (4, [.int (m.1 11), .int (m.1 12), .int (m.1 13)]), .inl (G.2.2.1, 5, .inr (.inr (.inr (.inr (fun j => some (b + 4 + j)))))), hPs (m.2 0), hPs (m.2 1), hPs (m.2 2), hPs (m.2 3), hPs (m.2 4)]
def hC (G : zG) (n m i : zP) (cf : Nat → Int32) (ca : Nat → Nat → Int32) : List va_E := .inr (6, [.ref 1, .ref 10, .ref 19, .int (cf 0), .ref 28, .ref 32, .ref 34, .int (cf 1), .ref 35]) :: (hPl G 1 n ++ (hPl G 10 m ++ (hPl G 19 i ++ [.inr (0, [.ref 29, .ref 30, .ref 31, .int (cf 3), .int (cf 4), .int (cf 5)]), .inl (G.1, 5, .inl (ca 29)), .inl (G.1, 5, .inl (ca 30)), .inl (G.1, 5, .inl (ca 31)), .inr (5, [.ref 33, .int (cf 2)]), .inl (G.2.1, 96, .inl (ca 33)), .inl (G.1, 12, .inl (ca 34)), .inl (G.1, 7, .inl (ca 35))])))
def hM (G : zG) (f : Nat → Int32) (a : Nat → Nat → Int32) : List va_E := [.inr (7, [.ref 101, .ref 102, .ref 103, .ref 104, .ref 105, .ref 106, .ref 107, .ref 108, .int (f 8), .int (f 9), .int (f 10), .int (f 11), .int (f 12), .ref 109, .ref 110, .ref 111, .ref 112, .int (f 17), .int (f 18), .int (f 19), .ref 113, .int (f 21), .int (f 22), .int (f 23), .ref 114, .ref 115, .ref 116, .ref 117, .int (f 28), .int (f 29), .int (f 30), .int (f 31), .int (f 32), .int (f 33), .ref 118, .int (f 35)]), .inl (G.1, 7, .inl (a 0)), .inl (G.1, 6, .inl (a 1)), .inl (G.1, 5, .inl (a 2)), .inl (G.1, 5, .inl (a 3)), .inl (G.1, 5, .inl (a 4)), .inl (G.1, 5, .inl (a 5)), .inl (G.1, 5, .inl (a 6)), .inl (G.1, 5, .inl (a 7)), .inl (G.1, 96, .inl (a 13)), .inl (G.1, 48, .inl (a 14)), .inl (G.1, 48, .inl (a 15)), .inl (G.1, 288, .inl (a 16)), .inl (G.1, 150, .inl (a 20)), .inl (G.1, 5, .inl (a 24)), .inl (G.1, 5, .inl (a 25)), .inl (G.1, 240, .inl (a 26)), .inl (G.1, 240, .inl (a 27)), .inl (G.1, 12, .inl (a 34))]
def b2i (b : Bool) : Int32 := if b = true then 1 else 0
theorem b2i_p {c : Prop} [Decidable c] (h : c) : b2i (decide c) = 1 := by rw [decide_eq_true h]; rfl
theorem b2i_n {c : Prop} [Decidable c] (h : ¬ c) : b2i (decide c) = 0 := by rw [decide_eq_false h]; rfl
theorem b2i_np {c : Prop} [Decidable c] (h : c) : b2i (!decide c) = 0 := by rw [decide_eq_true h]; rfl
theorem b2i_nn {c : Prop} [Decidable c] (h : ¬ c) : b2i (!decide c) = 1 := by rw [decide_eq_false h]; rfl
theorem nar_b (b : Bool) : narrow .boolean (.int (b2i b)) = .int (b2i b) := by cases b <;> decide
theorem fit_b (b : Bool) : fits .boolean (.int (b2i b)) = true := by cases b <;> decide
theorem b2i_0 {b : Bool} (h : b2i b = 0) : ¬ b = true := by cases b with
  | true => exact absurd h (by decide)
  | false => exact Bool.false_ne_true
theorem b2i_1 {b : Bool} (h : ¬ b2i b = 0) : b = true := by cases b with
  | true => rfl
  | false => exact absurd (by decide) h
section zRb
variable {G : zG} {M : zM} {pc : Nat} {loc : List (Nat × Value)} {st : List Value} {h : zH} {Q : Option Value → zH → Prop}
theorem R_ifb_eq (q t : Nat) {b : Bool} {off : Int} (hd : decode M.2.1 pc = .ok (.ifCond .eq off, 3)) (hq : pc + 3 = q) (ht : (pc : Int) + off = (t : Int)) (kt : ¬ b = true → R G M t loc st h Q) (kf : b = true → R G M q loc st h Q) : R G M pc loc (.int (b2i b) :: st) h Q := R_if_eq q t hd hq ht (fun c => kt (b2i_0 c)) (fun c => kf (b2i_1 c))
theorem R_ifb_ne (q t : Nat) {b : Bool} {off : Int} (hd : decode M.2.1 pc = .ok (.ifCond .ne off, 3)) (hq : pc + 3 = q) (ht : (pc : Int) + off = (t : Int)) (kt : b = true → R G M t loc st h Q) (kf : ¬ b = true → R G M q loc st h Q) : R G M pc loc (.int (b2i b) :: st) h Q := R_if_ne q t hd hq ht (fun c => kt (b2i_1 c)) (fun c => kf (b2i_0 c))
end zRb
theorem R_cut {G : zG} {M : zM} {pc : Nat} {loc : List (Nat × Value)} {st : List Value} {h : zH} {Q : Option Value → zH → Prop} (pc1 : Nat) (loc1 : List (Nat × Value)) (st1 : List Value) (h1 : zH) (k : R G M pc1 loc1 st1 h1 Q) (k2 : R G M pc1 loc1 st1 h1 Q → R G M pc loc st h Q) : R G M pc loc st h Q := k2 k
theorem R_tableD {G : zG} {M : zM} {pc : Nat} {loc : List (Nat × Value)} {st : List Value} {h : zH} {Q : Option Value → zH → Prop} (t : Nat) {dflt lo hi : Int} {offs : Array Int} {len : Nat} {x : Int32} (ks : List Int) (hd : decode M.2.1 pc = .ok (.tableswitch dflt lo hi offs, len)) (hk : ∀ k ∈ ks, ¬ x.toInt = k) (hh : (List.range offs.size).all (fun j => decide (offs[j]? = some dflt) || decide (lo + (j : Int) ∈ ks)) = true ∧ hi - lo < (offs.size : Int)) (ht : (pc : Int) + dflt = (t : Int)) (k : R G M t loc st h Q) : R G M pc loc (.int x :: st) h Q := by
  by_cases h1 : x.toInt < lo
  · exact R_tableOut t hd (Or.inl h1) ht k
  · by_cases h2 : hi < x.toInt
    · exact R_tableOut t hd (Or.inr h2) ht k
    · have hj : (x.toInt - lo).toNat < offs.size := by have := hh.2; omega
      have h3 := List.all_eq_true.mp hh.1 _ (List.mem_range.mpr hj)
      rw [Bool.or_eq_true, decide_eq_true_eq, decide_eq_true_eq] at h3
      rcases h3 with h3 | h3
      · exact R_tableIn t hd h1 h2 h3 ht k
      · exact absurd (by omega) (hk _ h3)
theorem zs_zs (h : zH) (i : Nat) (x y : va_E) : zs (zs h i x) i y = zs h i y := by
  unfold zs
  by_cases hi : i < 100
  · simp [hi]
  · simp [hi]
theorem zg_zs {h : zH} {i : Nat} {x y : va_E} (hg : zg h i = some y) : zg (zs h i x) i = some x := by
  unfold zg zs at *
  by_cases hi : i < 100
  · simp only [hi, if_true] at hg ⊢
    rw [List.getElem?_set_self (List.getElem?_eq_some_iff.mp hg).1]
  · simp only [hi, if_false] at hg ⊢
    rw [List.getElem?_set_self (List.getElem?_eq_some_iff.mp hg).1]
theorem zg_zn {h : zH} {i j : Nat} {x y : va_E} (hij : i ≠ j) (hg : zg h j = some y) : zg (zs h i x) j = some y := by
  unfold zg zs at *
  by_cases hi : i < 100 <;> by_cases hj : j < 100
  · simp only [hi, hj, if_true] at hg ⊢
    rw [List.getElem?_set_ne hij]; exact hg
  · simp only [hi, hj, if_true, if_false] at hg ⊢
    exact hg
  · simp only [hi, hj, if_true, if_false] at hg ⊢
    exact hg
  · simp only [hi, hj, if_false] at hg ⊢
    rw [List.getElem?_set_ne (by omega)]; exact hg
theorem EvF.of {G : zG} {M : zM} {as : List Value} {h h' : zH} {r : Option Value} (hy : plainName M.1.cls = true) (hn : Nat.ble (lg_sl as).length M.2.2.1 = true) (k : R G M 0 (lv_args 0 as) [] h (fun r0 h0 => r0 = r ∧ h0 = h')) : EvF G M as h r h' := Ev.of hy (Nat.le_of_ble_eq_true hn) k
/-- texts that a parlour may be told in: each letter is a char -/
def zCh (f : Nat → Int32) : Prop := ∀ j : Nat, narrow .char (.int (f j)) = .int (f j)
theorem pnX0 : plainName RX0 = true := by decide +kernel
theorem pnX1 : plainName RX1 = true := by decide +kernel
theorem pnX2 : plainName RX2 = true := by decide +kernel
theorem pnX3 : plainName RX3 = true := by decide +kernel
theorem pnX4 : plainName RX4 = true := by decide +kernel
theorem pnX5 : plainName RX5 = true := by decide +kernel
theorem pnX6 : plainName RX6 = true := by decide +kernel
theorem pnX7 : plainName RX7 = true := by decide +kernel
theorem pnJ0 : plainName RJ0 = true := by decide +kernel
theorem pnJ1 : plainName RJ1 = true := by decide +kernel
theorem pnJ3 : plainName RJ3 = true := by decide +kernel
def sMax (x y : Int32) : Int32 := if x < y then y else x
def sMin (x y : Int32) : Int32 := if y < x then y else x
def sAbs (x : Int32) : Int32 := if 0 ≤ x then x else 0 - x
end
section
theorem ne0_le {x : Int32} (h : ¬ x ≤ 0) : ¬ x = 0 := fun e => h (by rw [e]; decide)
theorem ne0_lt {x : Int32} (h : 0 < x) : ¬ x = 0 := fun e => absurd h (by rw [e]; decide)
theorem ne0_1 {x : Int32} (h : 1 ≤ x) : ¬ x = 0 := fun e => absurd h (by rw [e]; decide)
theorem ne0_n1 {x : Int32} (h : ¬ x < 1) : ¬ x = 0 := fun e => h (by rw [e]; decide)
def sX6_outside (v : Int32) (lo : Int32) (hi : Int32) : Int32 := if lo ≤ v then (if v ≤ hi then 0 else (-6)) else (-4)
set_option maxRecDepth 20000 in
theorem eX6_outside {G : zG} {h : zH} {v lo hi : Int32} : EvF G mX6_outside [.int v, .int lo, .int hi] h (some (.int (sX6_outside v lo hi))) h := by
  generalize hs : (sX6_outside v lo hi) = zz
  refine EvF.of pnX6 rfl ?_
  refine R_iload_n 1 dX6_outside_0 rfl rfl ?_
  refine R_iload_n 2 dX6_outside_1 rfl rfl ?_
  refine R_icmp_ge 5 8 dX6_outside_2 rfl (by decide) (fun c1 => ?_) (fun c1 => ?_)
  ·
    refine R_iload_n 9 dX6_outside_8 rfl rfl ?_
    refine R_iload_n 10 dX6_outside_9 rfl rfl ?_
    refine R_cut 19 [(0, .int v), (1, .int lo), (2, .int hi)] (.int (if v ≤ hi then 0 else (-6)) :: []) h ?_ (fun kj => ?_)
    ·
      refine R_ireturn dX6_outside_19 rfl rfl ?_
      have e : zz = if v ≤ hi then 0 else (-6) := by rw [← hs]; unfold sX6_outside; rw [if_pos c1]
      subst e; exact ⟨rfl, rfl⟩
    refine R_icmp_le 13 18 dX6_outside_10 rfl (by decide) (fun c2 => ?_) (fun c2 => ?_)
    · refine R_iconst 19 dX6_outside_18 rfl (v := 0) (by decide) ?_
      rw [if_pos c2] at kj; exact kj
    · refine R_bipush 15 dX6_outside_13 rfl (v := (-6)) (by decide) ?_
      refine R_goto 19 dX6_outside_15 (by decide) ?_
      rw [if_neg c2] at kj; exact kj
  ·
    refine R_bipush 7 dX6_outside_5 rfl (v := (-4)) (by decide) ?_
    refine R_ireturn dX6_outside_7 rfl rfl ?_
    have e : zz = (-4) := by rw [← hs]; unfold sX6_outside; rw [if_neg c1]
    subst e; exact ⟨rfl, rfl⟩
def sX6_held (v : Int32) (lo : Int32) (hi : Int32) : Int32 := sMax lo (sMin hi v)
set_option maxRecDepth 20000 in
theorem eX6_held {G : zG} {h : zH} {v lo hi : Int32} : EvF G mX6_held [.int v, .int lo, .int hi] h (some (.int (sX6_held v lo hi))) h := by
  generalize hs : (sX6_held v lo hi) = zz
  refine EvF.of pnX6 rfl ?_
  refine R_iload_n 1 dX6_held_0 rfl rfl ?_
  refine R_iload_n 2 dX6_held_1 rfl rfl ?_
  refine R_iload_n 3 dX6_held_2 rfl rfl ?_
  refine R_mmin 6 dX6_held_3 rfl lmX6_226 mw_min rfl rfl rfl ?_
  refine R_top (y := sMin hi v) rfl ?_
  refine R_mmax 9 dX6_held_6 rfl lmX6_231 mw_max rfl rfl rfl ?_
  refine R_top (y := sMax lo (sMin hi v)) rfl ?_
  refine R_ireturn dX6_held_9 rfl rfl ?_
  have e : zz = sMax lo (sMin hi v) := by rw [← hs]; unfold sX6_held; rfl
  subst e; exact ⟨rfl, rfl⟩
def sX7_isIn (v : Int32) (lo : Int32) (hi : Int32) : Bool := if v < lo then false else (!decide (hi < v))
set_option maxRecDepth 20000 in
theorem eX7_isIn {G : zG} {h : zH} {v lo hi : Int32} : EvF G mX7_isIn [.int v, .int lo, .int hi] h (some (.int (b2i (sX7_isIn v lo hi)))) h := by
  generalize hs : (sX7_isIn v lo hi) = zz
  refine EvF.of pnX7 rfl ?_
  refine R_iload_n 1 dX7_isIn_0 rfl rfl ?_
  refine R_iload_n 2 dX7_isIn_1 rfl rfl ?_
  refine R_icmp_lt 5 14 dX7_isIn_2 rfl (by decide) (fun c1 => ?_) (fun c1 => ?_)
  ·
    refine R_iconst 15 dX7_isIn_14 rfl (v := 0) (by decide) ?_
    refine R_ireturn dX7_isIn_15 rfl (by decide) ?_
    have e : zz = false := by rw [← hs]; unfold sX7_isIn; rw [if_pos c1]
    subst e; exact ⟨rfl, rfl⟩
  ·
    refine R_iload_n 6 dX7_isIn_5 rfl rfl ?_
    refine R_iload_n 7 dX7_isIn_6 rfl rfl ?_
    refine R_cut 15 [(0, .int v), (1, .int lo), (2, .int hi)] (.int (b2i (!decide (hi < v))) :: []) h ?_ (fun kj => ?_)
    ·
      refine R_ireturn dX7_isIn_15 rfl (nar_b _) ?_
      have e : zz = (!decide (hi < v)) := by rw [← hs]; unfold sX7_isIn; rw [if_neg c1]
      subst e; exact ⟨rfl, rfl⟩
    refine R_icmp_gt 10 14 dX7_isIn_7 rfl (by decide) (fun c2 => ?_) (fun c2 => ?_)
    · refine R_iconst 15 dX7_isIn_14 rfl (v := 0) (by decide) ?_
      rw [b2i_np c2] at kj; exact kj
    · refine R_iconst 11 dX7_isIn_10 rfl (v := 1) (by decide) ?_
      refine R_goto 15 dX7_isIn_11 (by decide) ?_
      rw [b2i_nn c2] at kj; exact kj
def sX7_bound (v : Int32) (lo : Int32) (hi : Int32) : Int32 := if lo ≤ v then (if v ≤ hi then 0 else (-6)) else (-4)
set_option maxRecDepth 20000 in
theorem eX7_bound {G : zG} {h : zH} {v lo hi : Int32} : EvF G mX7_bound [.int v, .int lo, .int hi] h (some (.int (sX7_bound v lo hi))) h := by
  generalize hs : (sX7_bound v lo hi) = zz
  refine EvF.of pnX7 rfl ?_
  refine R_iload_n 1 dX7_bound_0 rfl rfl ?_
  refine R_iload_n 2 dX7_bound_1 rfl rfl ?_
  refine R_icmp_ge 5 10 dX7_bound_2 rfl (by decide) (fun c1 => ?_) (fun c1 => ?_)
  ·
    refine R_iload_n 11 dX7_bound_10 rfl rfl ?_
    refine R_iload_n 12 dX7_bound_11 rfl rfl ?_
    refine R_cut 21 [(0, .int v), (1, .int lo), (2, .int hi)] (.int (if v ≤ hi then 0 else (-6)) :: []) h ?_ (fun kj => ?_)
    ·
      refine R_ireturn dX7_bound_21 rfl rfl ?_
      have e : zz = if v ≤ hi then 0 else (-6) := by rw [← hs]; unfold sX7_bound; rw [if_pos c1]
      subst e; exact ⟨rfl, rfl⟩
    refine R_icmp_le 15 20 dX7_bound_12 rfl (by decide) (fun c2 => ?_) (fun c2 => ?_)
    · refine R_iconst 21 dX7_bound_20 rfl (v := 0) (by decide) ?_
      rw [if_pos c2] at kj; exact kj
    · refine R_bipush 17 dX7_bound_15 rfl (v := (-6)) (by decide) ?_
      refine R_goto 21 dX7_bound_17 (by decide) ?_
      rw [if_neg c2] at kj; exact kj
  ·
    refine R_bipush 7 dX7_bound_5 rfl (v := (-4)) (by decide) ?_
    refine R_goto 21 dX7_bound_7 (by decide) ?_
    refine R_ireturn dX7_bound_21 rfl rfl ?_
    have e : zz = (-4) := by rw [← hs]; unfold sX7_bound; rw [if_neg c1]
    subst e; exact ⟨rfl, rfl⟩
def sX7_size (v : Int32) : Int32 := if 0 ≤ v then v else -v
set_option maxRecDepth 20000 in
theorem eX7_size {G : zG} {h : zH} {v : Int32} : EvF G mX7_size [.int v] h (some (.int (sX7_size v))) h := by
  generalize hs : (sX7_size v) = zz
  refine EvF.of pnX7 rfl ?_
  refine R_iload_n 1 dX7_size_0 rfl rfl ?_
  refine R_cut 10 [(0, .int v)] (.int (if 0 ≤ v then v else -v) :: []) h ?_ (fun kj => ?_)
  ·
    refine R_ireturn dX7_size_10 rfl rfl ?_
    have e : zz = if 0 ≤ v then v else -v := by rw [← hs]; unfold sX7_size; rfl
    subst e; exact ⟨rfl, rfl⟩
  refine R_if_ge 4 9 dX7_size_1 rfl (by decide) (fun c1 => ?_) (fun c1 => ?_)
  · refine R_iload_n 10 dX7_size_9 rfl rfl ?_
    rw [if_pos c1] at kj; exact kj
  · refine R_iload_n 5 dX7_size_4 rfl rfl ?_
    refine R_ineg 6 dX7_size_5 rfl ?_
    refine R_goto 10 dX7_size_6 (by decide) ?_
    rw [if_neg c1] at kj; exact kj
def sX7_leastOf (w : Int32) : Int32 := if w = 0 then (-99) else if 3 ≤ w then (if w = 3 then (-9) else b2i (decide (w = 4))) else (-20)
set_option maxRecDepth 20000 in
theorem eX7_leastOf {G : zG} {h : zH} {w : Int32} : EvF G mX7_leastOf [.int w] h (some (.int (sX7_leastOf w))) h := by
  generalize hs : (sX7_leastOf w) = zz
  refine EvF.of pnX7 rfl ?_
  refine R_iload_n 1 dX7_leastOf_0 rfl rfl ?_
  refine R_if_ne 4 9 dX7_leastOf_1 rfl (by decide) (fun c1 => ?_) (fun c1 => ?_)
  ·
    refine R_iload_n 10 dX7_leastOf_9 rfl rfl ?_
    refine R_iconst 11 dX7_leastOf_10 rfl (v := 3) (by decide) ?_
    refine R_icmp_ge 14 19 dX7_leastOf_11 rfl (by decide) (fun c2 => ?_) (fun c2 => ?_)
    ·
      refine R_iload_n 20 dX7_leastOf_19 rfl rfl ?_
      refine R_iconst 21 dX7_leastOf_20 rfl (v := 3) (by decide) ?_
      refine R_icmp_ne 24 29 dX7_leastOf_21 rfl (by decide) (fun c3 => ?_) (fun c3 => ?_)
      ·
        refine R_iload_n 30 dX7_leastOf_29 rfl rfl ?_
        refine R_iconst 31 dX7_leastOf_30 rfl (v := 4) (by decide) ?_
        refine R_cut 39 [(0, .int w)] (.int (b2i (decide (w = 4))) :: []) h ?_ (fun kj => ?_)
        ·
          refine R_ireturn dX7_leastOf_39 rfl rfl ?_
          have e : zz = b2i (decide (w = 4)) := by rw [← hs]; unfold sX7_leastOf; rw [if_neg c1, if_pos c2, if_neg c3]
          subst e; exact ⟨rfl, rfl⟩
        refine R_icmp_ne 34 38 dX7_leastOf_31 rfl (by decide) (fun c4 => ?_) (fun c4 => ?_)
        · refine R_iconst 39 dX7_leastOf_38 rfl (v := 0) (by decide) ?_
          rw [b2i_n c4] at kj; exact kj
        · refine R_iconst 35 dX7_leastOf_34 rfl (v := 1) (by decide) ?_
          refine R_goto 39 dX7_leastOf_35 (by decide) ?_
          rw [b2i_p c4] at kj; exact kj
      ·
        refine R_bipush 26 dX7_leastOf_24 rfl (v := (-9)) (by decide) ?_
        refine R_goto 39 dX7_leastOf_26 (by decide) ?_
        refine R_ireturn dX7_leastOf_39 rfl rfl ?_
        have e : zz = (-9) := by rw [← hs]; unfold sX7_leastOf; rw [if_neg c1, if_pos c2, if_pos c3]
        subst e; exact ⟨rfl, rfl⟩
    ·
      refine R_bipush 16 dX7_leastOf_14 rfl (v := (-20)) (by decide) ?_
      refine R_goto 39 dX7_leastOf_16 (by decide) ?_
      refine R_ireturn dX7_leastOf_39 rfl rfl ?_
      have e : zz = (-20) := by rw [← hs]; unfold sX7_leastOf; rw [if_neg c1, if_neg c2]
      subst e; exact ⟨rfl, rfl⟩
  ·
    refine R_bipush 6 dX7_leastOf_4 rfl (v := (-99)) (by decide) ?_
    refine R_goto 39 dX7_leastOf_6 (by decide) ?_
    refine R_ireturn dX7_leastOf_39 rfl rfl ?_
    have e : zz = (-99) := by rw [← hs]; unfold sX7_leastOf; rw [if_pos c1]
    subst e; exact ⟨rfl, rfl⟩
def sX7_mostOf (w : Int32) : Int32 := if w = 0 then 99 else if 3 ≤ w then (if w = 4 then 20 else 9) else 20
set_option maxRecDepth 20000 in
theorem eX7_mostOf {G : zG} {h : zH} {w : Int32} : EvF G mX7_mostOf [.int w] h (some (.int (sX7_mostOf w))) h := by
  generalize hs : (sX7_mostOf w) = zz
  refine EvF.of pnX7 rfl ?_
  refine R_iload_n 1 dX7_mostOf_0 rfl rfl ?_
  refine R_if_ne 4 9 dX7_mostOf_1 rfl (by decide) (fun c1 => ?_) (fun c1 => ?_)
  ·
    refine R_iload_n 10 dX7_mostOf_9 rfl rfl ?_
    refine R_iconst 11 dX7_mostOf_10 rfl (v := 3) (by decide) ?_
    refine R_icmp_ge 14 19 dX7_mostOf_11 rfl (by decide) (fun c2 => ?_) (fun c2 => ?_)
    ·
      refine R_iload_n 20 dX7_mostOf_19 rfl rfl ?_
      refine R_iconst 21 dX7_mostOf_20 rfl (v := 4) (by decide) ?_
      refine R_cut 31 [(0, .int w)] (.int (if w = 4 then 20 else 9) :: []) h ?_ (fun kj => ?_)
      ·
        refine R_ireturn dX7_mostOf_31 rfl rfl ?_
        have e : zz = if w = 4 then 20 else 9 := by rw [← hs]; unfold sX7_mostOf; rw [if_neg c1, if_pos c2]
        subst e; exact ⟨rfl, rfl⟩
      refine R_icmp_ne 24 29 dX7_mostOf_21 rfl (by decide) (fun c3 => ?_) (fun c3 => ?_)
      · refine R_bipush 31 dX7_mostOf_29 rfl (v := 9) (by decide) ?_
        rw [if_neg c3] at kj; exact kj
      · refine R_bipush 26 dX7_mostOf_24 rfl (v := 20) (by decide) ?_
        refine R_goto 31 dX7_mostOf_26 (by decide) ?_
        rw [if_pos c3] at kj; exact kj
    ·
      refine R_bipush 16 dX7_mostOf_14 rfl (v := 20) (by decide) ?_
      refine R_goto 31 dX7_mostOf_16 (by decide) ?_
      refine R_ireturn dX7_mostOf_31 rfl rfl ?_
      have e : zz = 20 := by rw [← hs]; unfold sX7_mostOf; rw [if_neg c1, if_neg c2]
      subst e; exact ⟨rfl, rfl⟩
  ·
    refine R_bipush 6 dX7_mostOf_4 rfl (v := 99) (by decide) ?_
    refine R_goto 31 dX7_mostOf_6 (by decide) ?_
    refine R_ireturn dX7_mostOf_31 rfl rfl ?_
    have e : zz = 99 := by rw [← hs]; unfold sX7_mostOf; rw [if_pos c1]
    subst e; exact ⟨rfl, rfl⟩
def sX7_personOf (b : Int32) : Int32 := if b = 99 then 4 else if b = 100 then 1 else if b = 102 then 2 else if b = 109 then 3 else if b = 112 then 0 else (-1)
set_option maxRecDepth 20000 in
theorem eX7_personOf {G : zG} {h : zH} {b : Int32} : EvF G mX7_personOf [.int b] h (some (.int (sX7_personOf b))) h := by
  generalize hs : (sX7_personOf b) = zz
  refine EvF.of pnX7 rfl ?_
  refine R_iload_n 1 dX7_personOf_0 rfl rfl ?_
  by_cases c1 : b = 99
  ·
    refine R_tableAt 80 (off := 79) 99 c1 dX7_personOf_1 (by decide) (by decide) ?_
    refine R_iconst 81 dX7_personOf_80 rfl (v := 4) (by decide) ?_
    refine R_ireturn dX7_personOf_81 rfl rfl ?_
    have e : zz = 4 := by rw [← hs]; unfold sX7_personOf; rw [if_pos c1]
    subst e; exact ⟨rfl, rfl⟩
  by_cases c2 : b = 100
  ·
    refine R_tableAt 74 (off := 73) 100 c2 dX7_personOf_1 (by decide) (by decide) ?_
    refine R_iconst 75 dX7_personOf_74 rfl (v := 1) (by decide) ?_
    refine R_ireturn dX7_personOf_75 rfl rfl ?_
    have e : zz = 1 := by rw [← hs]; unfold sX7_personOf; rw [if_neg c1, if_pos c2]
    subst e; exact ⟨rfl, rfl⟩
  by_cases c3 : b = 102
  ·
    refine R_tableAt 76 (off := 75) 102 c3 dX7_personOf_1 (by decide) (by decide) ?_
    refine R_iconst 77 dX7_personOf_76 rfl (v := 2) (by decide) ?_
    refine R_ireturn dX7_personOf_77 rfl rfl ?_
    have e : zz = 2 := by rw [← hs]; unfold sX7_personOf; rw [if_neg c1, if_neg c2, if_pos c3]
    subst e; exact ⟨rfl, rfl⟩
  by_cases c4 : b = 109
  ·
    refine R_tableAt 78 (off := 77) 109 c4 dX7_personOf_1 (by decide) (by decide) ?_
    refine R_iconst 79 dX7_personOf_78 rfl (v := 3) (by decide) ?_
    refine R_ireturn dX7_personOf_79 rfl rfl ?_
    have e : zz = 3 := by rw [← hs]; unfold sX7_personOf; rw [if_neg c1, if_neg c2, if_neg c3, if_pos c4]
    subst e; exact ⟨rfl, rfl⟩
  by_cases c5 : b = 112
  ·
    refine R_tableAt 72 (off := 71) 112 c5 dX7_personOf_1 (by decide) (by decide) ?_
    refine R_iconst 73 dX7_personOf_72 rfl (v := 0) (by decide) ?_
    refine R_ireturn dX7_personOf_73 rfl rfl ?_
    have e : zz = 0 := by rw [← hs]; unfold sX7_personOf; rw [if_neg c1, if_neg c2, if_neg c3, if_neg c4, if_pos c5]
    subst e; exact ⟨rfl, rfl⟩
  refine R_tableD 82 [99, 100, 102, 109, 112] dX7_personOf_1 (List.forall_mem_cons.mpr ⟨lv_neT c1 (show (99 : Int32).toInt = 99 by decide), List.forall_mem_cons.mpr ⟨lv_neT c2 (show (100 : Int32).toInt = 100 by decide), List.forall_mem_cons.mpr ⟨lv_neT c3 (show (102 : Int32).toInt = 102 by decide), List.forall_mem_cons.mpr ⟨lv_neT c4 (show (109 : Int32).toInt = 109 by decide), List.forall_mem_cons.mpr ⟨lv_neT c5 (show (112 : Int32).toInt = 112 by decide), fun _ h => absurd h List.not_mem_nil⟩⟩⟩⟩⟩) (by decide) (by decide) ?_
  refine R_iconst 83 dX7_personOf_82 rfl (v := (-1)) (by decide) ?_
  refine R_ireturn dX7_personOf_83 rfl rfl ?_
  have e : zz = (-1) := by rw [← hs]; unfold sX7_personOf; rw [if_neg c1, if_neg c2, if_neg c3, if_neg c4, if_neg c5]
  subst e; exact ⟨rfl, rfl⟩
def sX7_driftOf (b : Int32) : Int32 := if b = 99 then 2 else if b = 106 then 3 else if b = 115 then 0 else if b = 117 then 4 else if b = 119 then 1 else (-1)
set_option maxRecDepth 20000 in
theorem eX7_driftOf {G : zG} {h : zH} {b : Int32} : EvF G mX7_driftOf [.int b] h (some (.int (sX7_driftOf b))) h := by
  generalize hs : (sX7_driftOf b) = zz
  refine EvF.of pnX7 rfl ?_
  refine R_iload_n 1 dX7_driftOf_0 rfl rfl ?_
  by_cases c1 : b = 99
  ·
    refine R_lookAt 56 (off := 55) 99 c1 dX7_driftOf_1 (by decide) (by decide) ?_
    refine R_iconst 57 dX7_driftOf_56 rfl (v := 2) (by decide) ?_
    refine R_ireturn dX7_driftOf_57 rfl rfl ?_
    have e : zz = 2 := by rw [← hs]; unfold sX7_driftOf; rw [if_pos c1]
    subst e; exact ⟨rfl, rfl⟩
  by_cases c2 : b = 106
  ·
    refine R_lookAt 58 (off := 57) 106 c2 dX7_driftOf_1 (by decide) (by decide) ?_
    refine R_iconst 59 dX7_driftOf_58 rfl (v := 3) (by decide) ?_
    refine R_ireturn dX7_driftOf_59 rfl rfl ?_
    have e : zz = 3 := by rw [← hs]; unfold sX7_driftOf; rw [if_neg c1, if_pos c2]
    subst e; exact ⟨rfl, rfl⟩
  by_cases c3 : b = 115
  ·
    refine R_lookAt 52 (off := 51) 115 c3 dX7_driftOf_1 (by decide) (by decide) ?_
    refine R_iconst 53 dX7_driftOf_52 rfl (v := 0) (by decide) ?_
    refine R_ireturn dX7_driftOf_53 rfl rfl ?_
    have e : zz = 0 := by rw [← hs]; unfold sX7_driftOf; rw [if_neg c1, if_neg c2, if_pos c3]
    subst e; exact ⟨rfl, rfl⟩
  by_cases c4 : b = 117
  ·
    refine R_lookAt 60 (off := 59) 117 c4 dX7_driftOf_1 (by decide) (by decide) ?_
    refine R_iconst 61 dX7_driftOf_60 rfl (v := 4) (by decide) ?_
    refine R_ireturn dX7_driftOf_61 rfl rfl ?_
    have e : zz = 4 := by rw [← hs]; unfold sX7_driftOf; rw [if_neg c1, if_neg c2, if_neg c3, if_pos c4]
    subst e; exact ⟨rfl, rfl⟩
  by_cases c5 : b = 119
  ·
    refine R_lookAt 54 (off := 53) 119 c5 dX7_driftOf_1 (by decide) (by decide) ?_
    refine R_iconst 55 dX7_driftOf_54 rfl (v := 1) (by decide) ?_
    refine R_ireturn dX7_driftOf_55 rfl rfl ?_
    have e : zz = 1 := by rw [← hs]; unfold sX7_driftOf; rw [if_neg c1, if_neg c2, if_neg c3, if_neg c4, if_pos c5]
    subst e; exact ⟨rfl, rfl⟩
  refine R_lookup 62 (off := 61) dX7_driftOf_1 (by decide) (by rw [lv_osw c1 (show (99 : Int32).toInt = 99 by decide), lv_osw c2 (show (106 : Int32).toInt = 106 by decide), lv_osw c3 (show (115 : Int32).toInt = 115 by decide), lv_osw c4 (show (117 : Int32).toInt = 117 by decide), lv_osw c5 (show (119 : Int32).toInt = 119 by decide)]; rfl) (by decide) ?_
  refine R_iconst 63 dX7_driftOf_62 rfl (v := (-1)) (by decide) ?_
  refine R_ireturn dX7_driftOf_63 rfl rfl ?_
  have e : zz = (-1) := by rw [← hs]; unfold sX7_driftOf; rw [if_neg c1, if_neg c2, if_neg c3, if_neg c4, if_neg c5]
  subst e; exact ⟨rfl, rfl⟩
def sX7_ruleOf (b : Int32) : Int32 := if b = 98 then 3 else if b = 101 then 0 else if b = 107 then 2 else if b = 108 then 4 else if b = 111 then 1 else (-1)
set_option maxRecDepth 20000 in
theorem eX7_ruleOf {G : zG} {h : zH} {b : Int32} : EvF G mX7_ruleOf [.int b] h (some (.int (sX7_ruleOf b))) h := by
  generalize hs : (sX7_ruleOf b) = zz
  refine EvF.of pnX7 rfl ?_
  refine R_iload_n 1 dX7_ruleOf_0 rfl rfl ?_
  by_cases c1 : b = 98
  ·
    refine R_tableAt 78 (off := 77) 98 c1 dX7_ruleOf_1 (by decide) (by decide) ?_
    refine R_iconst 79 dX7_ruleOf_78 rfl (v := 3) (by decide) ?_
    refine R_ireturn dX7_ruleOf_79 rfl rfl ?_
    have e : zz = 3 := by rw [← hs]; unfold sX7_ruleOf; rw [if_pos c1]
    subst e; exact ⟨rfl, rfl⟩
  by_cases c2 : b = 101
  ·
    refine R_tableAt 72 (off := 71) 101 c2 dX7_ruleOf_1 (by decide) (by decide) ?_
    refine R_iconst 73 dX7_ruleOf_72 rfl (v := 0) (by decide) ?_
    refine R_ireturn dX7_ruleOf_73 rfl rfl ?_
    have e : zz = 0 := by rw [← hs]; unfold sX7_ruleOf; rw [if_neg c1, if_pos c2]
    subst e; exact ⟨rfl, rfl⟩
  by_cases c3 : b = 107
  ·
    refine R_tableAt 76 (off := 75) 107 c3 dX7_ruleOf_1 (by decide) (by decide) ?_
    refine R_iconst 77 dX7_ruleOf_76 rfl (v := 2) (by decide) ?_
    refine R_ireturn dX7_ruleOf_77 rfl rfl ?_
    have e : zz = 2 := by rw [← hs]; unfold sX7_ruleOf; rw [if_neg c1, if_neg c2, if_pos c3]
    subst e; exact ⟨rfl, rfl⟩
  by_cases c4 : b = 108
  ·
    refine R_tableAt 80 (off := 79) 108 c4 dX7_ruleOf_1 (by decide) (by decide) ?_
    refine R_iconst 81 dX7_ruleOf_80 rfl (v := 4) (by decide) ?_
    refine R_ireturn dX7_ruleOf_81 rfl rfl ?_
    have e : zz = 4 := by rw [← hs]; unfold sX7_ruleOf; rw [if_neg c1, if_neg c2, if_neg c3, if_pos c4]
    subst e; exact ⟨rfl, rfl⟩
  by_cases c5 : b = 111
  ·
    refine R_tableAt 74 (off := 73) 111 c5 dX7_ruleOf_1 (by decide) (by decide) ?_
    refine R_iconst 75 dX7_ruleOf_74 rfl (v := 1) (by decide) ?_
    refine R_ireturn dX7_ruleOf_75 rfl rfl ?_
    have e : zz = 1 := by rw [← hs]; unfold sX7_ruleOf; rw [if_neg c1, if_neg c2, if_neg c3, if_neg c4, if_pos c5]
    subst e; exact ⟨rfl, rfl⟩
  refine R_tableD 82 [98, 101, 107, 108, 111] dX7_ruleOf_1 (List.forall_mem_cons.mpr ⟨lv_neT c1 (show (98 : Int32).toInt = 98 by decide), List.forall_mem_cons.mpr ⟨lv_neT c2 (show (101 : Int32).toInt = 101 by decide), List.forall_mem_cons.mpr ⟨lv_neT c3 (show (107 : Int32).toInt = 107 by decide), List.forall_mem_cons.mpr ⟨lv_neT c4 (show (108 : Int32).toInt = 108 by decide), List.forall_mem_cons.mpr ⟨lv_neT c5 (show (111 : Int32).toInt = 111 by decide), fun _ h => absurd h List.not_mem_nil⟩⟩⟩⟩⟩) (by decide) (by decide) ?_
  refine R_iconst 83 dX7_ruleOf_82 rfl (v := (-1)) (by decide) ?_
  refine R_ireturn dX7_ruleOf_83 rfl rfl ?_
  have e : zz = (-1) := by rw [← hs]; unfold sX7_ruleOf; rw [if_neg c1, if_neg c2, if_neg c3, if_neg c4, if_neg c5]
  subst e; exact ⟨rfl, rfl⟩
def sX1_swinging (dk : Int32) (dr : Int32) (t : Int32) : Int32 := if ((t / 10) - (t / 10) / 2 * 2) = 0 then dr else -dr
set_option maxRecDepth 20000 in
theorem eX1_swinging {G : zG} {h : zH} {r : Nat} {dk dr t : Int32} (hg : zg h r = some (.inr (1, [.int dk, .int dr]))) : EvF G mX1_swinging [.ref r, .int t] h (some (.int (sX1_swinging dk dr t))) h := by
  generalize hs : (sX1_swinging dk dr t) = zz
  refine EvF.of pnX1 rfl ?_
  refine R_iload_n 1 dX1_swinging_0 rfl rfl ?_
  refine R_bipush 3 dX1_swinging_1 rfl (v := 10) (by decide) ?_
  refine R_idiv 4 dX1_swinging_3 rfl (by decide) ?_
  refine R_iconst 5 dX1_swinging_4 rfl (v := 2) (by decide) ?_
  refine R_irem 6 dX1_swinging_5 rfl (by decide) ?_
  refine R_cut 21 [(0, .ref r), (1, .int t)] (.int (if ((t / 10) - (t / 10) / 2 * 2) = 0 then dr else -dr) :: []) h ?_ (fun kj => ?_)
  ·
    refine R_ireturn dX1_swinging_21 rfl rfl ?_
    have e : zz = if ((t / 10) - (t / 10) / 2 * 2) = 0 then dr else -dr := by rw [← hs]; unfold sX1_swinging; rfl
    subst e; exact ⟨rfl, rfl⟩
  refine R_if_ne 9 16 dX1_swinging_6 rfl (by decide) (fun c1 => ?_) (fun c1 => ?_)
  · refine R_aload_n 17 dX1_swinging_16 rfl rfl ?_
    refine R_get 20 dX1_swinging_17 rfl fX1_13 hg (v := .int dr) rfl ?_
    refine R_ineg 21 dX1_swinging_20 rfl ?_
    rw [if_neg c1] at kj; exact kj
  · refine R_aload_n 10 dX1_swinging_9 rfl rfl ?_
    refine R_get 13 dX1_swinging_10 rfl fX1_13 hg (v := .int dr) rfl ?_
    refine R_goto 21 dX1_swinging_13 (by decide) ?_
    rw [if_pos c1] at kj; exact kj
def sX1_cooled (dk : Int32) (dr : Int32) (b : Int32) : Int32 := if dr ≤ 0 then sMin 0 (dr + b) else sMax 0 (dr - b)
set_option maxRecDepth 20000 in
theorem eX1_cooled {G : zG} {h : zH} {r : Nat} {dk dr b : Int32} (hg : zg h r = some (.inr (1, [.int dk, .int dr]))) : EvF G mX1_cooled [.ref r, .int b] h (some (.int (sX1_cooled dk dr b))) h := by
  generalize hs : (sX1_cooled dk dr b) = zz
  refine EvF.of pnX1 rfl ?_
  refine R_aload_n 1 dX1_cooled_0 rfl rfl ?_
  refine R_get 4 dX1_cooled_1 rfl fX1_13 hg (v := .int dr) rfl ?_
  refine R_if_le 7 20 dX1_cooled_4 rfl (by decide) (fun c1 => ?_) (fun c1 => ?_)
  ·
    refine R_iconst 21 dX1_cooled_20 rfl (v := 0) (by decide) ?_
    refine R_aload_n 22 dX1_cooled_21 rfl rfl ?_
    refine R_get 25 dX1_cooled_22 rfl fX1_13 hg (v := .int dr) rfl ?_
    refine R_iload_n 26 dX1_cooled_25 rfl rfl ?_
    refine R_iadd 27 dX1_cooled_26 rfl ?_
    refine R_mmin 30 dX1_cooled_27 rfl lmX1_29 mw_min rfl rfl rfl ?_
    refine R_top (y := sMin 0 (dr + b)) rfl ?_
    refine R_ireturn dX1_cooled_30 rfl rfl ?_
    have e : zz = sMin 0 (dr + b) := by rw [← hs]; unfold sX1_cooled; rw [if_pos c1]
    subst e; exact ⟨rfl, rfl⟩
  ·
    refine R_iconst 8 dX1_cooled_7 rfl (v := 0) (by decide) ?_
    refine R_aload_n 9 dX1_cooled_8 rfl rfl ?_
    refine R_get 12 dX1_cooled_9 rfl fX1_13 hg (v := .int dr) rfl ?_
    refine R_iload_n 13 dX1_cooled_12 rfl rfl ?_
    refine R_isub 14 dX1_cooled_13 rfl ?_
    refine R_mmax 17 dX1_cooled_14 rfl lmX1_23 mw_max rfl rfl rfl ?_
    refine R_top (y := sMax 0 (dr - b)) rfl ?_
    refine R_goto 30 dX1_cooled_17 (by decide) ?_
    refine R_ireturn dX1_cooled_30 rfl rfl ?_
    have e : zz = sMax 0 (dr - b) := by rw [← hs]; unfold sX1_cooled; rw [if_neg c1]
    subst e; exact ⟨rfl, rfl⟩
def sX1_amountIn (dk : Int32) (dr : Int32) (t : Int32) : Int32 := if dk = 1 then (sX1_swinging dk dr t) else if dk = 2 then (sX1_cooled dk dr (t / 20)) else if dk = 3 then (if (t - t / 3 * 3) = 0 then 3 * dr else 0) else if dk = 4 then (if (t - t / 2 * 2) = 0 then (sX1_swinging dk dr t) + 1 else (sX1_swinging dk dr t)) else dr
set_option maxRecDepth 20000 in
theorem eX1_amountIn {G : zG} {h : zH} {r : Nat} {dk dr t : Int32} (hg : zg h r = some (.inr (1, [.int dk, .int dr]))) : EvF G mX1_amountIn [.ref r, .int t] h (some (.int (sX1_amountIn dk dr t))) h := by
  generalize hs : (sX1_amountIn dk dr t) = zz
  refine EvF.of pnX1 rfl ?_
  refine R_aload_n 1 dX1_amountIn_0 rfl rfl ?_
  refine R_get 4 dX1_amountIn_1 rfl fX1_7 hg (v := .int dk) rfl ?_
  by_cases c1 : dk = 1
  ·
    refine R_tableAt 36 (off := 32) 1 c1 dX1_amountIn_4 (by decide) (by decide) ?_
    refine R_aload_n 37 dX1_amountIn_36 rfl rfl ?_
    refine R_iload_n 38 dX1_amountIn_37 rfl rfl ?_
    refine R_callVi 41 (eX1_swinging (dk := dk) (dr := dr) hg) dX1_amountIn_38 rfl kX1_swinging lX1_16 rfl rfl rfl rfl rfl hg rfl ?_
    refine R_ireturn dX1_amountIn_41 rfl rfl ?_
    have e : zz = (sX1_swinging dk dr t) := by rw [← hs]; unfold sX1_amountIn; rw [if_pos c1]
    subst e; exact ⟨rfl, rfl⟩
  by_cases c2 : dk = 2
  ·
    refine R_tableAt 42 (off := 38) 2 c2 dX1_amountIn_4 (by decide) (by decide) ?_
    refine R_aload_n 43 dX1_amountIn_42 rfl rfl ?_
    refine R_iload_n 44 dX1_amountIn_43 rfl rfl ?_
    refine R_bipush 46 dX1_amountIn_44 rfl (v := 20) (by decide) ?_
    refine R_idiv 47 dX1_amountIn_46 rfl (by decide) ?_
    refine R_callVi 50 (eX1_cooled (dk := dk) (dr := dr) hg) dX1_amountIn_47 rfl kX1_cooled lX1_20 rfl rfl rfl rfl rfl hg rfl ?_
    refine R_ireturn dX1_amountIn_50 rfl rfl ?_
    have e : zz = (sX1_cooled dk dr (t / 20)) := by rw [← hs]; unfold sX1_amountIn; rw [if_neg c1, if_pos c2]
    subst e; exact ⟨rfl, rfl⟩
  by_cases c3 : dk = 3
  ·
    refine R_tableAt 51 (off := 47) 3 c3 dX1_amountIn_4 (by decide) (by decide) ?_
    refine R_iload_n 52 dX1_amountIn_51 rfl rfl ?_
    refine R_iconst 53 dX1_amountIn_52 rfl (v := 3) (by decide) ?_
    refine R_irem 54 dX1_amountIn_53 rfl (by decide) ?_
    refine R_cut 67 [(0, .ref r), (1, .int t)] (.int (if (t - t / 3 * 3) = 0 then 3 * dr else 0) :: []) h ?_ (fun kj => ?_)
    ·
      refine R_ireturn dX1_amountIn_67 rfl rfl ?_
      have e : zz = if (t - t / 3 * 3) = 0 then 3 * dr else 0 := by rw [← hs]; unfold sX1_amountIn; rw [if_neg c1, if_neg c2, if_pos c3]
      subst e; exact ⟨rfl, rfl⟩
    refine R_if_ne 57 66 dX1_amountIn_54 rfl (by decide) (fun c4 => ?_) (fun c4 => ?_)
    · refine R_iconst 67 dX1_amountIn_66 rfl (v := 0) (by decide) ?_
      rw [if_neg c4] at kj; exact kj
    · refine R_iconst 58 dX1_amountIn_57 rfl (v := 3) (by decide) ?_
      refine R_aload_n 59 dX1_amountIn_58 rfl rfl ?_
      refine R_get 62 dX1_amountIn_59 rfl fX1_13 hg (v := .int dr) rfl ?_
      refine R_imul 63 dX1_amountIn_62 rfl ?_
      refine R_goto 67 dX1_amountIn_63 (by decide) ?_
      rw [if_pos c4] at kj; exact kj
  by_cases c5 : dk = 4
  ·
    refine R_tableAt 68 (off := 64) 4 c5 dX1_amountIn_4 (by decide) (by decide) ?_
    refine R_iload_n 69 dX1_amountIn_68 rfl rfl ?_
    refine R_iconst 70 dX1_amountIn_69 rfl (v := 2) (by decide) ?_
    refine R_irem 71 dX1_amountIn_70 rfl (by decide) ?_
    refine R_if_ne 74 84 dX1_amountIn_71 rfl (by decide) (fun c6 => ?_) (fun c6 => ?_)
    ·
      refine R_aload_n 85 dX1_amountIn_84 rfl rfl ?_
      refine R_iload_n 86 dX1_amountIn_85 rfl rfl ?_
      refine R_callVi 89 (eX1_swinging (dk := dk) (dr := dr) hg) dX1_amountIn_86 rfl kX1_swinging lX1_16 rfl rfl rfl rfl rfl hg rfl ?_
      refine R_ireturn dX1_amountIn_89 rfl rfl ?_
      have e : zz = (sX1_swinging dk dr t) := by rw [← hs]; unfold sX1_amountIn; rw [if_neg c1, if_neg c2, if_neg c3, if_pos c5, if_neg c6]
      subst e; exact ⟨rfl, rfl⟩
    ·
      refine R_aload_n 75 dX1_amountIn_74 rfl rfl ?_
      refine R_iload_n 76 dX1_amountIn_75 rfl rfl ?_
      refine R_callVi 79 (eX1_swinging (dk := dk) (dr := dr) hg) dX1_amountIn_76 rfl kX1_swinging lX1_16 rfl rfl rfl rfl rfl hg rfl ?_
      refine R_iconst 80 dX1_amountIn_79 rfl (v := 1) (by decide) ?_
      refine R_iadd 81 dX1_amountIn_80 rfl ?_
      refine R_goto 89 dX1_amountIn_81 (by decide) ?_
      refine R_ireturn dX1_amountIn_89 rfl rfl ?_
      have e : zz = (sX1_swinging dk dr t) + 1 := by rw [← hs]; unfold sX1_amountIn; rw [if_neg c1, if_neg c2, if_neg c3, if_pos c5, if_pos c6]
      subst e; exact ⟨rfl, rfl⟩
  refine R_tableD 90 [1, 2, 3, 4] dX1_amountIn_4 (List.forall_mem_cons.mpr ⟨lv_neT c1 (show (1 : Int32).toInt = 1 by decide), List.forall_mem_cons.mpr ⟨lv_neT c2 (show (2 : Int32).toInt = 2 by decide), List.forall_mem_cons.mpr ⟨lv_neT c3 (show (3 : Int32).toInt = 3 by decide), List.forall_mem_cons.mpr ⟨lv_neT c5 (show (4 : Int32).toInt = 4 by decide), fun _ h => absurd h List.not_mem_nil⟩⟩⟩⟩) (by decide) (by decide) ?_
  refine R_aload_n 91 dX1_amountIn_90 rfl rfl ?_
  refine R_get 94 dX1_amountIn_91 rfl fX1_13 hg (v := .int dr) rfl ?_
  refine R_ireturn dX1_amountIn_94 rfl rfl ?_
  have e : zz = dr := by rw [← hs]; unfold sX1_amountIn; rw [if_neg c1, if_neg c2, if_neg c3, if_neg c5]
  subst e; exact ⟨rfl, rfl⟩
def sX4_against (rk : Int32) (rl : Int32) (rp : Int32) (own : Int32) (d : Int32) : Int32 := if d = 0 then own else if d ≤ 0 then own + rp else own - rp
set_option maxRecDepth 20000 in
theorem eX4_against {G : zG} {h : zH} {r : Nat} {rk rl rp own d : Int32} (hg : zg h r = some (.inr (4, [.int rk, .int rl, .int rp]))) : EvF G mX4_against [.ref r, .int own, .int d] h (some (.int (sX4_against rk rl rp own d))) h := by
  generalize hs : (sX4_against rk rl rp own d) = zz
  refine EvF.of pnX4 rfl ?_
  refine R_iload_n 1 dX4_against_0 rfl rfl ?_
  refine R_if_ne 4 6 dX4_against_1 rfl (by decide) (fun c1 => ?_) (fun c1 => ?_)
  ·
    refine R_iload_n 7 dX4_against_6 rfl rfl ?_
    refine R_cut 25 [(0, .ref r), (1, .int own), (2, .int d)] (.int (if d ≤ 0 then own + rp else own - rp) :: []) h ?_ (fun kj => ?_)
    ·
      refine R_ireturn dX4_against_25 rfl rfl ?_
      have e : zz = if d ≤ 0 then own + rp else own - rp := by rw [← hs]; unfold sX4_against; rw [if_neg c1]
      subst e; exact ⟨rfl, rfl⟩
    refine R_if_le 10 19 dX4_against_7 rfl (by decide) (fun c2 => ?_) (fun c2 => ?_)
    · refine R_iload_n 20 dX4_against_19 rfl rfl ?_
      refine R_aload_n 21 dX4_against_20 rfl rfl ?_
      refine R_get 24 dX4_against_21 rfl fX4_16 hg (v := .int rp) rfl ?_
      refine R_iadd 25 dX4_against_24 rfl ?_
      rw [if_pos c2] at kj; exact kj
    · refine R_iload_n 11 dX4_against_10 rfl rfl ?_
      refine R_aload_n 12 dX4_against_11 rfl rfl ?_
      refine R_get 15 dX4_against_12 rfl fX4_16 hg (v := .int rp) rfl ?_
      refine R_isub 16 dX4_against_15 rfl ?_
      refine R_goto 25 dX4_against_16 (by decide) ?_
      rw [if_neg c2] at kj; exact kj
  ·
    refine R_iload_n 5 dX4_against_4 rfl rfl ?_
    refine R_ireturn dX4_against_5 rfl rfl ?_
    have e : zz = own := by rw [← hs]; unfold sX4_against; rw [if_pos c1]
    subst e; exact ⟨rfl, rfl⟩
def sX4_rouses (rk : Int32) (rl : Int32) (rp : Int32) (off : Int32) (mi : Int32) : Bool := if rk = 2 then (if rl ≤ 0 then false else decide ((mi - mi / rl * rl) = 0)) else if rk = 4 then (!decide (off ≤ (2 * rl))) else (!decide (off ≤ rl))
set_option maxRecDepth 20000 in
theorem eX4_rouses {G : zG} {h : zH} {r : Nat} {rk rl rp off mi : Int32} (hg : zg h r = some (.inr (4, [.int rk, .int rl, .int rp]))) : EvF G mX4_rouses [.ref r, .int off, .int mi] h (some (.int (b2i (sX4_rouses rk rl rp off mi)))) h := by
  generalize hs : (sX4_rouses rk rl rp off mi) = zz
  refine EvF.of pnX4 rfl ?_
  refine R_aload_n 1 dX4_rouses_0 rfl rfl ?_
  refine R_get 4 dX4_rouses_1 rfl fX4_7 hg (v := .int rk) rfl ?_
  by_cases c1 : rk = 2
  ·
    refine R_lookAt 32 (off := 28) 2 c1 dX4_rouses_4 (by decide) (by decide) ?_
    refine R_aload_n 33 dX4_rouses_32 rfl rfl ?_
    refine R_get 36 dX4_rouses_33 rfl fX4_13 hg (v := .int rl) rfl ?_
    refine R_if_le 39 52 dX4_rouses_36 rfl (by decide) (fun c2 => ?_) (fun c2 => ?_)
    ·
      refine R_iconst 53 dX4_rouses_52 rfl (v := 0) (by decide) ?_
      refine R_ireturn dX4_rouses_53 rfl (by decide) ?_
      have e : zz = false := by rw [← hs]; unfold sX4_rouses; rw [if_pos c1, if_pos c2]
      subst e; exact ⟨rfl, rfl⟩
    ·
      refine R_iload_n 40 dX4_rouses_39 rfl rfl ?_
      refine R_aload_n 41 dX4_rouses_40 rfl rfl ?_
      refine R_get 44 dX4_rouses_41 rfl fX4_13 hg (v := .int rl) rfl ?_
      refine R_irem 45 dX4_rouses_44 rfl (ne0_le c2) ?_
      refine R_cut 53 [(0, .ref r), (1, .int off), (2, .int mi)] (.int (b2i (decide ((mi - mi / rl * rl) = 0))) :: []) h ?_ (fun kj => ?_)
      ·
        refine R_ireturn dX4_rouses_53 rfl (nar_b _) ?_
        have e : zz = decide ((mi - mi / rl * rl) = 0) := by rw [← hs]; unfold sX4_rouses; rw [if_pos c1, if_neg c2]
        subst e; exact ⟨rfl, rfl⟩
      refine R_if_ne 48 52 dX4_rouses_45 rfl (by decide) (fun c3 => ?_) (fun c3 => ?_)
      · refine R_iconst 53 dX4_rouses_52 rfl (v := 0) (by decide) ?_
        rw [b2i_n c3] at kj; exact kj
      · refine R_iconst 49 dX4_rouses_48 rfl (v := 1) (by decide) ?_
        refine R_goto 53 dX4_rouses_49 (by decide) ?_
        rw [b2i_p c3] at kj; exact kj
  by_cases c4 : rk = 4
  ·
    refine R_lookAt 54 (off := 50) 4 c4 dX4_rouses_4 (by decide) (by decide) ?_
    refine R_iload_n 55 dX4_rouses_54 rfl rfl ?_
    refine R_iconst 56 dX4_rouses_55 rfl (v := 2) (by decide) ?_
    refine R_aload_n 57 dX4_rouses_56 rfl rfl ?_
    refine R_get 60 dX4_rouses_57 rfl fX4_13 hg (v := .int rl) rfl ?_
    refine R_imul 61 dX4_rouses_60 rfl ?_
    refine R_cut 69 [(0, .ref r), (1, .int off), (2, .int mi)] (.int (b2i (!decide (off ≤ (2 * rl)))) :: []) h ?_ (fun kj => ?_)
    ·
      refine R_ireturn dX4_rouses_69 rfl (nar_b _) ?_
      have e : zz = (!decide (off ≤ (2 * rl))) := by rw [← hs]; unfold sX4_rouses; rw [if_neg c1, if_pos c4]
      subst e; exact ⟨rfl, rfl⟩
    refine R_icmp_le 64 68 dX4_rouses_61 rfl (by decide) (fun c5 => ?_) (fun c5 => ?_)
    · refine R_iconst 69 dX4_rouses_68 rfl (v := 0) (by decide) ?_
      rw [b2i_np c5] at kj; exact kj
    · refine R_iconst 65 dX4_rouses_64 rfl (v := 1) (by decide) ?_
      refine R_goto 69 dX4_rouses_65 (by decide) ?_
      rw [b2i_nn c5] at kj; exact kj
  refine R_lookup 70 (off := 66) dX4_rouses_4 (by decide) (by rw [lv_osw c1 (show (2 : Int32).toInt = 2 by decide), lv_osw c4 (show (4 : Int32).toInt = 4 by decide)]; rfl) (by decide) ?_
  refine R_iload_n 71 dX4_rouses_70 rfl rfl ?_
  refine R_aload_n 72 dX4_rouses_71 rfl rfl ?_
  refine R_get 75 dX4_rouses_72 rfl fX4_13 hg (v := .int rl) rfl ?_
  refine R_cut 83 [(0, .ref r), (1, .int off), (2, .int mi)] (.int (b2i (!decide (off ≤ rl))) :: []) h ?_ (fun kj => ?_)
  ·
    refine R_ireturn dX4_rouses_83 rfl (nar_b _) ?_
    have e : zz = (!decide (off ≤ rl)) := by rw [← hs]; unfold sX4_rouses; rw [if_neg c1, if_neg c4]
    subst e; exact ⟨rfl, rfl⟩
  refine R_icmp_le 78 82 dX4_rouses_75 rfl (by decide) (fun c6 => ?_) (fun c6 => ?_)
  · refine R_iconst 83 dX4_rouses_82 rfl (v := 0) (by decide) ?_
    rw [b2i_np c6] at kj; exact kj
  · refine R_iconst 79 dX4_rouses_78 rfl (v := 1) (by decide) ?_
    refine R_goto 83 dX4_rouses_79 (by decide) ?_
    rw [b2i_nn c6] at kj; exact kj
def sX4_aim (rk : Int32) (rl : Int32) (rp : Int32) (own : Int32) (mid : Int32) (d : Int32) : Int32 := if rk = 1 then (sX4_against rk rl rp own d) else if rk = 3 then mid else if rk = 4 then (sX4_against rk rl rp own d) else own
set_option maxRecDepth 20000 in
theorem eX4_aim {G : zG} {h : zH} {r : Nat} {rk rl rp own mid d : Int32} (hg : zg h r = some (.inr (4, [.int rk, .int rl, .int rp]))) : EvF G mX4_aim [.ref r, .int own, .int mid, .int d] h (some (.int (sX4_aim rk rl rp own mid d))) h := by
  generalize hs : (sX4_aim rk rl rp own mid d) = zz
  refine EvF.of pnX4 rfl ?_
  refine R_aload_n 1 dX4_aim_0 rfl rfl ?_
  refine R_get 4 dX4_aim_1 rfl fX4_7 hg (v := .int rk) rfl ?_
  by_cases c1 : rk = 1
  ·
    refine R_tableAt 36 (off := 32) 1 c1 dX4_aim_4 (by decide) (by decide) ?_
    refine R_aload_n 37 dX4_aim_36 rfl rfl ?_
    refine R_iload_n 38 dX4_aim_37 rfl rfl ?_
    refine R_iload_n 39 dX4_aim_38 rfl rfl ?_
    refine R_callVi 42 (eX4_against (rk := rk) (rl := rl) (rp := rp) hg) dX4_aim_39 rfl kX4_against lX4_19 rfl rfl rfl rfl rfl hg rfl ?_
    refine R_ireturn dX4_aim_42 rfl rfl ?_
    have e : zz = (sX4_against rk rl rp own d) := by rw [← hs]; unfold sX4_aim; rw [if_pos c1]
    subst e; exact ⟨rfl, rfl⟩
  by_cases c2 : rk = 3
  ·
    refine R_tableAt 43 (off := 39) 3 c2 dX4_aim_4 (by decide) (by decide) ?_
    refine R_iload_n 44 dX4_aim_43 rfl rfl ?_
    refine R_ireturn dX4_aim_44 rfl rfl ?_
    have e : zz = mid := by rw [← hs]; unfold sX4_aim; rw [if_neg c1, if_pos c2]
    subst e; exact ⟨rfl, rfl⟩
  by_cases c3 : rk = 4
  ·
    refine R_tableAt 36 (off := 32) 4 c3 dX4_aim_4 (by decide) (by decide) ?_
    refine R_aload_n 37 dX4_aim_36 rfl rfl ?_
    refine R_iload_n 38 dX4_aim_37 rfl rfl ?_
    refine R_iload_n 39 dX4_aim_38 rfl rfl ?_
    refine R_callVi 42 (eX4_against (rk := rk) (rl := rl) (rp := rp) hg) dX4_aim_39 rfl kX4_against lX4_19 rfl rfl rfl rfl rfl hg rfl ?_
    refine R_ireturn dX4_aim_42 rfl rfl ?_
    have e : zz = (sX4_against rk rl rp own d) := by rw [← hs]; unfold sX4_aim; rw [if_neg c1, if_neg c2, if_pos c3]
    subst e; exact ⟨rfl, rfl⟩
  refine R_tableD 45 [1, 3, 4] dX4_aim_4 (List.forall_mem_cons.mpr ⟨lv_neT c1 (show (1 : Int32).toInt = 1 by decide), List.forall_mem_cons.mpr ⟨lv_neT c2 (show (3 : Int32).toInt = 3 by decide), List.forall_mem_cons.mpr ⟨lv_neT c3 (show (4 : Int32).toInt = 4 by decide), fun _ h => absurd h List.not_mem_nil⟩⟩⟩) (by decide) (by decide) ?_
  refine R_iload_n 46 dX4_aim_45 rfl rfl ?_
  refine R_ireturn dX4_aim_46 rfl rfl ?_
  have e : zz = own := by rw [← hs]; unfold sX4_aim; rw [if_neg c1, if_neg c2, if_neg c3]
  subst e; exact ⟨rfl, rfl⟩
def sX3_deafTo (pk : Int32) (pm : Int32) (pf : Int32) (ps : Int32) (ph : Int32) (pp : Int32) (x : Int32) (u : Int32) : Int32 := if x ≤ u then 0 else (x - u) * pm
set_option maxRecDepth 20000 in
theorem eX3_deafTo {G : zG} {h : zH} {r : Nat} {pk pm pf ps ph pp x u : Int32} (hg : zg h r = some (.inr (3, [.int pk, .int pm, .int pf, .int ps, .int ph, .int pp]))) : EvF G mX3_deafTo [.ref r, .int x, .int u] h (some (.int (sX3_deafTo pk pm pf ps ph pp x u))) h := by
  generalize hs : (sX3_deafTo pk pm pf ps ph pp x u) = zz
  refine EvF.of pnX3 rfl ?_
  refine R_iload_n 1 dX3_deafTo_0 rfl rfl ?_
  refine R_iload_n 2 dX3_deafTo_1 rfl rfl ?_
  refine R_cut 17 [(0, .ref r), (1, .int x), (2, .int u)] (.int (if x ≤ u then 0 else (x - u) * pm) :: []) h ?_ (fun kj => ?_)
  ·
    refine R_ireturn dX3_deafTo_17 rfl rfl ?_
    have e : zz = if x ≤ u then 0 else (x - u) * pm := by rw [← hs]; unfold sX3_deafTo; rfl
    subst e; exact ⟨rfl, rfl⟩
  refine R_icmp_le 5 16 dX3_deafTo_2 rfl (by decide) (fun c1 => ?_) (fun c1 => ?_)
  · refine R_iconst 17 dX3_deafTo_16 rfl (v := 0) (by decide) ?_
    rw [if_pos c1] at kj; exact kj
  · refine R_iload_n 6 dX3_deafTo_5 rfl rfl ?_
    refine R_iload_n 7 dX3_deafTo_6 rfl rfl ?_
    refine R_isub 8 dX3_deafTo_7 rfl ?_
    refine R_aload_n 9 dX3_deafTo_8 rfl rfl ?_
    refine R_get 12 dX3_deafTo_9 rfl fX3_16 hg (v := .int pm) rfl ?_
    refine R_imul 13 dX3_deafTo_12 rfl ?_
    refine R_goto 17 dX3_deafTo_13 (by decide) ?_
    rw [if_neg c1] at kj; exact kj
def sX3_botheredBy (pk : Int32) (pm : Int32) (pf : Int32) (ps : Int32) (ph : Int32) (pp : Int32) (x : Int32) : Int32 := if pk = 1 then (sX3_deafTo pk pm pf ps ph pp x pf) else if pk = 2 then (2 * x) * pm else if pk = 3 then (if x ≤ 2 then (2 * x) * pm else ((2 * x) * pm) + pf) else if pk = 4 then (if x < 20 then (sX3_deafTo pk pm pf ps ph pp x (2 * pf)) else x * pm) else x * pm
set_option maxRecDepth 20000 in
theorem eX3_botheredBy {G : zG} {h : zH} {r : Nat} {pk pm pf ps ph pp x : Int32} (hg : zg h r = some (.inr (3, [.int pk, .int pm, .int pf, .int ps, .int ph, .int pp]))) : EvF G mX3_botheredBy [.ref r, .int x] h (some (.int (sX3_botheredBy pk pm pf ps ph pp x))) h := by
  generalize hs : (sX3_botheredBy pk pm pf ps ph pp x) = zz
  refine EvF.of pnX3 rfl ?_
  refine R_aload_n 1 dX3_botheredBy_0 rfl rfl ?_
  refine R_get 4 dX3_botheredBy_1 rfl fX3_13 hg (v := .int pk) rfl ?_
  by_cases c1 : pk = 1
  ·
    refine R_tableAt 36 (off := 32) 1 c1 dX3_botheredBy_4 (by decide) (by decide) ?_
    refine R_aload_n 37 dX3_botheredBy_36 rfl rfl ?_
    refine R_iload_n 38 dX3_botheredBy_37 rfl rfl ?_
    refine R_aload_n 39 dX3_botheredBy_38 rfl rfl ?_
    refine R_get 42 dX3_botheredBy_39 rfl fX3_19 hg (v := .int pf) rfl ?_
    refine R_callVi 45 (eX3_deafTo (pk := pk) (pm := pm) (pf := pf) (ps := ps) (ph := ph) (pp := pp) hg) dX3_botheredBy_42 rfl kX3_deafTo lX3_28 rfl rfl rfl rfl rfl hg rfl ?_
    refine R_ireturn dX3_botheredBy_45 rfl rfl ?_
    have e : zz = (sX3_deafTo pk pm pf ps ph pp x pf) := by rw [← hs]; unfold sX3_botheredBy; rw [if_pos c1]
    subst e; exact ⟨rfl, rfl⟩
  by_cases c2 : pk = 2
  ·
    refine R_tableAt 46 (off := 42) 2 c2 dX3_botheredBy_4 (by decide) (by decide) ?_
    refine R_iconst 47 dX3_botheredBy_46 rfl (v := 2) (by decide) ?_
    refine R_iload_n 48 dX3_botheredBy_47 rfl rfl ?_
    refine R_imul 49 dX3_botheredBy_48 rfl ?_
    refine R_aload_n 50 dX3_botheredBy_49 rfl rfl ?_
    refine R_get 53 dX3_botheredBy_50 rfl fX3_16 hg (v := .int pm) rfl ?_
    refine R_imul 54 dX3_botheredBy_53 rfl ?_
    refine R_ireturn dX3_botheredBy_54 rfl rfl ?_
    have e : zz = (2 * x) * pm := by rw [← hs]; unfold sX3_botheredBy; rw [if_neg c1, if_pos c2]
    subst e; exact ⟨rfl, rfl⟩
  by_cases c3 : pk = 3
  ·
    refine R_tableAt 55 (off := 51) 3 c3 dX3_botheredBy_4 (by decide) (by decide) ?_
    refine R_iload_n 56 dX3_botheredBy_55 rfl rfl ?_
    refine R_iconst 57 dX3_botheredBy_56 rfl (v := 2) (by decide) ?_
    refine R_cut 84 [(0, .ref r), (1, .int x)] (.int (if x ≤ 2 then (2 * x) * pm else ((2 * x) * pm) + pf) :: []) h ?_ (fun kj => ?_)
    ·
      refine R_ireturn dX3_botheredBy_84 rfl rfl ?_
      have e : zz = if x ≤ 2 then (2 * x) * pm else ((2 * x) * pm) + pf := by rw [← hs]; unfold sX3_botheredBy; rw [if_neg c1, if_neg c2, if_pos c3]
      subst e; exact ⟨rfl, rfl⟩
    refine R_icmp_le 60 76 dX3_botheredBy_57 rfl (by decide) (fun c4 => ?_) (fun c4 => ?_)
    · refine R_iconst 77 dX3_botheredBy_76 rfl (v := 2) (by decide) ?_
      refine R_iload_n 78 dX3_botheredBy_77 rfl rfl ?_
      refine R_imul 79 dX3_botheredBy_78 rfl ?_
      refine R_aload_n 80 dX3_botheredBy_79 rfl rfl ?_
      refine R_get 83 dX3_botheredBy_80 rfl fX3_16 hg (v := .int pm) rfl ?_
      refine R_imul 84 dX3_botheredBy_83 rfl ?_
      rw [if_pos c4] at kj; exact kj
    · refine R_iconst 61 dX3_botheredBy_60 rfl (v := 2) (by decide) ?_
      refine R_iload_n 62 dX3_botheredBy_61 rfl rfl ?_
      refine R_imul 63 dX3_botheredBy_62 rfl ?_
      refine R_aload_n 64 dX3_botheredBy_63 rfl rfl ?_
      refine R_get 67 dX3_botheredBy_64 rfl fX3_16 hg (v := .int pm) rfl ?_
      refine R_imul 68 dX3_botheredBy_67 rfl ?_
      refine R_aload_n 69 dX3_botheredBy_68 rfl rfl ?_
      refine R_get 72 dX3_botheredBy_69 rfl fX3_19 hg (v := .int pf) rfl ?_
      refine R_iadd 73 dX3_botheredBy_72 rfl ?_
      refine R_goto 84 dX3_botheredBy_73 (by decide) ?_
      rw [if_neg c4] at kj; exact kj
  by_cases c5 : pk = 4
  ·
    refine R_tableAt 85 (off := 81) 4 c5 dX3_botheredBy_4 (by decide) (by decide) ?_
    refine R_iload_n 86 dX3_botheredBy_85 rfl rfl ?_
    refine R_bipush 88 dX3_botheredBy_86 rfl (v := 20) (by decide) ?_
    refine R_icmp_lt 91 100 dX3_botheredBy_88 rfl (by decide) (fun c6 => ?_) (fun c6 => ?_)
    ·
      refine R_aload_n 101 dX3_botheredBy_100 rfl rfl ?_
      refine R_iload_n 102 dX3_botheredBy_101 rfl rfl ?_
      refine R_iconst 103 dX3_botheredBy_102 rfl (v := 2) (by decide) ?_
      refine R_aload_n 104 dX3_botheredBy_103 rfl rfl ?_
      refine R_get 107 dX3_botheredBy_104 rfl fX3_19 hg (v := .int pf) rfl ?_
      refine R_imul 108 dX3_botheredBy_107 rfl ?_
      refine R_callVi 111 (eX3_deafTo (pk := pk) (pm := pm) (pf := pf) (ps := ps) (ph := ph) (pp := pp) hg) dX3_botheredBy_108 rfl kX3_deafTo lX3_28 rfl rfl rfl rfl rfl hg rfl ?_
      refine R_ireturn dX3_botheredBy_111 rfl rfl ?_
      have e : zz = (sX3_deafTo pk pm pf ps ph pp x (2 * pf)) := by rw [← hs]; unfold sX3_botheredBy; rw [if_neg c1, if_neg c2, if_neg c3, if_pos c5, if_pos c6]
      subst e; exact ⟨rfl, rfl⟩
    ·
      refine R_iload_n 92 dX3_botheredBy_91 rfl rfl ?_
      refine R_aload_n 93 dX3_botheredBy_92 rfl rfl ?_
      refine R_get 96 dX3_botheredBy_93 rfl fX3_16 hg (v := .int pm) rfl ?_
      refine R_imul 97 dX3_botheredBy_96 rfl ?_
      refine R_goto 111 dX3_botheredBy_97 (by decide) ?_
      refine R_ireturn dX3_botheredBy_111 rfl rfl ?_
      have e : zz = x * pm := by rw [← hs]; unfold sX3_botheredBy; rw [if_neg c1, if_neg c2, if_neg c3, if_pos c5, if_neg c6]
      subst e; exact ⟨rfl, rfl⟩
  refine R_tableD 112 [1, 2, 3, 4] dX3_botheredBy_4 (List.forall_mem_cons.mpr ⟨lv_neT c1 (show (1 : Int32).toInt = 1 by decide), List.forall_mem_cons.mpr ⟨lv_neT c2 (show (2 : Int32).toInt = 2 by decide), List.forall_mem_cons.mpr ⟨lv_neT c3 (show (3 : Int32).toInt = 3 by decide), List.forall_mem_cons.mpr ⟨lv_neT c5 (show (4 : Int32).toInt = 4 by decide), fun _ h => absurd h List.not_mem_nil⟩⟩⟩⟩) (by decide) (by decide) ?_
  refine R_iload_n 113 dX3_botheredBy_112 rfl rfl ?_
  refine R_aload_n 114 dX3_botheredBy_113 rfl rfl ?_
  refine R_get 117 dX3_botheredBy_114 rfl fX3_16 hg (v := .int pm) rfl ?_
  refine R_imul 118 dX3_botheredBy_117 rfl ?_
  refine R_ireturn dX3_botheredBy_118 rfl rfl ?_
  have e : zz = x * pm := by rw [← hs]; unfold sX3_botheredBy; rw [if_neg c1, if_neg c2, if_neg c3, if_neg c5]
  subst e; exact ⟨rfl, rfl⟩
def sX3_detail (pk : Int32) (pm : Int32) (pf : Int32) (ps : Int32) (ph : Int32) (pp : Int32) (w : Int32) : Int32 := if w = 0 then pk else if w = 1 then pm else if w = 2 then pf else if w = 3 then ps else if w = 4 then ph else pp
set_option maxRecDepth 20000 in
theorem eX3_detail {G : zG} {h : zH} {r : Nat} {pk pm pf ps ph pp w : Int32} (hg : zg h r = some (.inr (3, [.int pk, .int pm, .int pf, .int ps, .int ph, .int pp]))) : EvF G mX3_detail [.ref r, .int w] h (some (.int (sX3_detail pk pm pf ps ph pp w))) h := by
  generalize hs : (sX3_detail pk pm pf ps ph pp w) = zz
  refine EvF.of pnX3 rfl ?_
  refine R_iload_n 1 dX3_detail_0 rfl rfl ?_
  by_cases c1 : w = 0
  ·
    refine R_tableAt 36 (off := 35) 0 c1 dX3_detail_1 (by decide) (by decide) ?_
    refine R_aload_n 37 dX3_detail_36 rfl rfl ?_
    refine R_get 40 dX3_detail_37 rfl fX3_13 hg (v := .int pk) rfl ?_
    refine R_ireturn dX3_detail_40 rfl rfl ?_
    have e : zz = pk := by rw [← hs]; unfold sX3_detail; rw [if_pos c1]
    subst e; exact ⟨rfl, rfl⟩
  by_cases c2 : w = 1
  ·
    refine R_tableAt 41 (off := 40) 1 c2 dX3_detail_1 (by decide) (by decide) ?_
    refine R_aload_n 42 dX3_detail_41 rfl rfl ?_
    refine R_get 45 dX3_detail_42 rfl fX3_16 hg (v := .int pm) rfl ?_
    refine R_ireturn dX3_detail_45 rfl rfl ?_
    have e : zz = pm := by rw [← hs]; unfold sX3_detail; rw [if_neg c1, if_pos c2]
    subst e; exact ⟨rfl, rfl⟩
  by_cases c3 : w = 2
  ·
    refine R_tableAt 46 (off := 45) 2 c3 dX3_detail_1 (by decide) (by decide) ?_
    refine R_aload_n 47 dX3_detail_46 rfl rfl ?_
    refine R_get 50 dX3_detail_47 rfl fX3_19 hg (v := .int pf) rfl ?_
    refine R_ireturn dX3_detail_50 rfl rfl ?_
    have e : zz = pf := by rw [← hs]; unfold sX3_detail; rw [if_neg c1, if_neg c2, if_pos c3]
    subst e; exact ⟨rfl, rfl⟩
  by_cases c4 : w = 3
  ·
    refine R_tableAt 51 (off := 50) 3 c4 dX3_detail_1 (by decide) (by decide) ?_
    refine R_aload_n 52 dX3_detail_51 rfl rfl ?_
    refine R_get 55 dX3_detail_52 rfl fX3_22 hg (v := .int ps) rfl ?_
    refine R_ireturn dX3_detail_55 rfl rfl ?_
    have e : zz = ps := by rw [← hs]; unfold sX3_detail; rw [if_neg c1, if_neg c2, if_neg c3, if_pos c4]
    subst e; exact ⟨rfl, rfl⟩
  by_cases c5 : w = 4
  ·
    refine R_tableAt 56 (off := 55) 4 c5 dX3_detail_1 (by decide) (by decide) ?_
    refine R_aload_n 57 dX3_detail_56 rfl rfl ?_
    refine R_get 60 dX3_detail_57 rfl fX3_7 hg (v := .int ph) rfl ?_
    refine R_ireturn dX3_detail_60 rfl rfl ?_
    have e : zz = ph := by rw [← hs]; unfold sX3_detail; rw [if_neg c1, if_neg c2, if_neg c3, if_neg c4, if_pos c5]
    subst e; exact ⟨rfl, rfl⟩
  refine R_tableD 61 [0, 1, 2, 3, 4] dX3_detail_1 (List.forall_mem_cons.mpr ⟨lv_neT c1 (show (0 : Int32).toInt = 0 by decide), List.forall_mem_cons.mpr ⟨lv_neT c2 (show (1 : Int32).toInt = 1 by decide), List.forall_mem_cons.mpr ⟨lv_neT c3 (show (2 : Int32).toInt = 2 by decide), List.forall_mem_cons.mpr ⟨lv_neT c4 (show (3 : Int32).toInt = 3 by decide), List.forall_mem_cons.mpr ⟨lv_neT c5 (show (4 : Int32).toInt = 4 by decide), fun _ h => absurd h List.not_mem_nil⟩⟩⟩⟩⟩) (by decide) (by decide) ?_
  refine R_aload_n 62 dX3_detail_61 rfl rfl ?_
  refine R_get 65 dX3_detail_62 rfl fX3_25 hg (v := .int pp) rfl ?_
  refine R_ireturn dX3_detail_65 rfl rfl ?_
  have e : zz = pp := by rw [← hs]; unfold sX3_detail; rw [if_neg c1, if_neg c2, if_neg c3, if_neg c4, if_neg c5]
  subst e; exact ⟨rfl, rfl⟩
def sX3_turned (pk : Int32) (pm : Int32) (pf : Int32) (ps : Int32) (ph : Int32) (pp : Int32) (fr : Int32) (aim : Int32) : Int32 := if 1 ≤ ph then (if (2 * ((sAbs (aim - fr)) - (sAbs (aim - fr)) / ph * ph)) ≤ ph then (if aim ≤ fr then fr - (((sAbs (aim - fr)) / ph) * ph) else fr + (((sAbs (aim - fr)) / ph) * ph)) else if aim ≤ fr then fr - ((((sAbs (aim - fr)) / ph) + 1) * ph) else fr + ((((sAbs (aim - fr)) / ph) + 1) * ph)) else fr
set_option maxRecDepth 20000 in
theorem eX3_turned {G : zG} {h : zH} {r : Nat} {pk pm pf ps ph pp fr aim : Int32} (hg : zg h r = some (.inr (3, [.int pk, .int pm, .int pf, .int ps, .int ph, .int pp]))) : EvF G mX3_turned [.ref r, .int fr, .int aim] h (some (.int (sX3_turned pk pm pf ps ph pp fr aim))) h := by
  generalize hs : (sX3_turned pk pm pf ps ph pp fr aim) = zz
  refine EvF.of pnX3 rfl ?_
  refine R_aload_n 1 dX3_turned_0 rfl rfl ?_
  refine R_get 4 dX3_turned_1 rfl fX3_7 hg (v := .int ph) rfl ?_
  refine R_iconst 5 dX3_turned_4 rfl (v := 1) (by decide) ?_
  refine R_icmp_ge 8 10 dX3_turned_5 rfl (by decide) (fun c1 => ?_) (fun c1 => ?_)
  ·
    refine R_iload_n 11 dX3_turned_10 rfl rfl ?_
    refine R_iload_n 12 dX3_turned_11 rfl rfl ?_
    refine R_isub 13 dX3_turned_12 rfl ?_
    refine R_mabs 16 dX3_turned_13 rfl lmX3_32 mw_abs rfl rfl rfl ?_
    refine R_top (y := sAbs (aim - fr)) rfl ?_
    refine R_istore_n 17 dX3_turned_16 rfl rfl (by decide) (loc' := [(0, .ref r), (1, .int fr), (2, .int aim), (3, .int (sAbs (aim - fr)))]) rfl ?_
    refine R_iload_n 18 dX3_turned_17 rfl rfl ?_
    refine R_aload_n 19 dX3_turned_18 rfl rfl ?_
    refine R_get 22 dX3_turned_19 rfl fX3_7 hg (v := .int ph) rfl ?_
    refine R_idiv 23 dX3_turned_22 rfl (ne0_1 c1) ?_
    refine R_istore 25 dX3_turned_23 rfl rfl (by decide) (loc' := [(0, .ref r), (1, .int fr), (2, .int aim), (3, .int (sAbs (aim - fr))), (4, .int ((sAbs (aim - fr)) / ph))]) rfl ?_
    refine R_iconst 26 dX3_turned_25 rfl (v := 2) (by decide) ?_
    refine R_iload_n 27 dX3_turned_26 rfl rfl ?_
    refine R_aload_n 28 dX3_turned_27 rfl rfl ?_
    refine R_get 31 dX3_turned_28 rfl fX3_7 hg (v := .int ph) rfl ?_
    refine R_irem 32 dX3_turned_31 rfl (ne0_1 c1) ?_
    refine R_imul 33 dX3_turned_32 rfl ?_
    refine R_aload_n 34 dX3_turned_33 rfl rfl ?_
    refine R_get 37 dX3_turned_34 rfl fX3_7 hg (v := .int ph) rfl ?_
    refine R_icmp_le 40 43 dX3_turned_37 rfl (by decide) (fun c2 => ?_) (fun c2 => ?_)
    ·
      refine R_iload_n 44 dX3_turned_43 rfl rfl ?_
      refine R_iload_n 45 dX3_turned_44 rfl rfl ?_
      refine R_cut 69 [(0, .ref r), (1, .int fr), (2, .int aim), (3, .int (sAbs (aim - fr))), (4, .int ((sAbs (aim - fr)) / ph))] (.int (if aim ≤ fr then fr - (((sAbs (aim - fr)) / ph) * ph) else fr + (((sAbs (aim - fr)) / ph) * ph)) :: []) h ?_ (fun kj => ?_)
      ·
        refine R_ireturn dX3_turned_69 rfl rfl ?_
        have e : zz = if aim ≤ fr then fr - (((sAbs (aim - fr)) / ph) * ph) else fr + (((sAbs (aim - fr)) / ph) * ph) := by rw [← hs]; unfold sX3_turned; rw [if_pos c1, if_pos c2]
        subst e; exact ⟨rfl, rfl⟩
      refine R_icmp_le 48 60 dX3_turned_45 rfl (by decide) (fun c3 => ?_) (fun c3 => ?_)
      · refine R_iload_n 61 dX3_turned_60 rfl rfl ?_
        refine R_iload 63 dX3_turned_61 rfl rfl ?_
        refine R_aload_n 64 dX3_turned_63 rfl rfl ?_
        refine R_get 67 dX3_turned_64 rfl fX3_7 hg (v := .int ph) rfl ?_
        refine R_imul 68 dX3_turned_67 rfl ?_
        refine R_isub 69 dX3_turned_68 rfl ?_
        rw [if_pos c3] at kj; exact kj
      · refine R_iload_n 49 dX3_turned_48 rfl rfl ?_
        refine R_iload 51 dX3_turned_49 rfl rfl ?_
        refine R_aload_n 52 dX3_turned_51 rfl rfl ?_
        refine R_get 55 dX3_turned_52 rfl fX3_7 hg (v := .int ph) rfl ?_
        refine R_imul 56 dX3_turned_55 rfl ?_
        refine R_iadd 57 dX3_turned_56 rfl ?_
        refine R_goto 69 dX3_turned_57 (by decide) ?_
        rw [if_neg c3] at kj; exact kj
    ·
      refine R_iinc 43 dX3_turned_40 rfl rfl (v := (((sAbs (aim - fr)) / ph) + 1)) rfl rfl (by decide) (loc' := [(0, .ref r), (1, .int fr), (2, .int aim), (3, .int (sAbs (aim - fr))), (4, .int (((sAbs (aim - fr)) / ph) + 1))]) rfl ?_
      refine R_iload_n 44 dX3_turned_43 rfl rfl ?_
      refine R_iload_n 45 dX3_turned_44 rfl rfl ?_
      refine R_cut 69 [(0, .ref r), (1, .int fr), (2, .int aim), (3, .int (sAbs (aim - fr))), (4, .int (((sAbs (aim - fr)) / ph) + 1))] (.int (if aim ≤ fr then fr - ((((sAbs (aim - fr)) / ph) + 1) * ph) else fr + ((((sAbs (aim - fr)) / ph) + 1) * ph)) :: []) h ?_ (fun kj => ?_)
      ·
        refine R_ireturn dX3_turned_69 rfl rfl ?_
        have e : zz = if aim ≤ fr then fr - ((((sAbs (aim - fr)) / ph) + 1) * ph) else fr + ((((sAbs (aim - fr)) / ph) + 1) * ph) := by rw [← hs]; unfold sX3_turned; rw [if_pos c1, if_neg c2]
        subst e; exact ⟨rfl, rfl⟩
      refine R_icmp_le 48 60 dX3_turned_45 rfl (by decide) (fun c4 => ?_) (fun c4 => ?_)
      · refine R_iload_n 61 dX3_turned_60 rfl rfl ?_
        refine R_iload 63 dX3_turned_61 rfl rfl ?_
        refine R_aload_n 64 dX3_turned_63 rfl rfl ?_
        refine R_get 67 dX3_turned_64 rfl fX3_7 hg (v := .int ph) rfl ?_
        refine R_imul 68 dX3_turned_67 rfl ?_
        refine R_isub 69 dX3_turned_68 rfl ?_
        rw [if_pos c4] at kj; exact kj
      · refine R_iload_n 49 dX3_turned_48 rfl rfl ?_
        refine R_iload 51 dX3_turned_49 rfl rfl ?_
        refine R_aload_n 52 dX3_turned_51 rfl rfl ?_
        refine R_get 55 dX3_turned_52 rfl fX3_7 hg (v := .int ph) rfl ?_
        refine R_imul 56 dX3_turned_55 rfl ?_
        refine R_iadd 57 dX3_turned_56 rfl ?_
        refine R_goto 69 dX3_turned_57 (by decide) ?_
        rw [if_neg c4] at kj; exact kj
  ·
    refine R_iload_n 9 dX3_turned_8 rfl rfl ?_
    refine R_ireturn dX3_turned_9 rfl rfl ?_
    have e : zz = fr := by rw [← hs]; unfold sX3_turned; rw [if_neg c1]
    subst e; exact ⟨rfl, rfl⟩
def sX2_off (at : Int32) (p0 : Int32) (p1 : Int32) (sz : Int32) (tu : Int32) (mi : Int32) (s : Int32) : Int32 := sAbs (at - (if s = 0 then p0 else p1))
set_option maxRecDepth 20000 in
theorem eX2_off {G : zG} {h : zH} {r d1 d2 d3 : Nat} {at p0 p1 sz tu mi s : Int32} (hg : zg h r = some (.inr (2, [.int at, .int p0, .int p1, .ref d1, .ref d2, .ref d3, .int sz, .int tu, .int mi]))) : EvF G mX2_off [.ref r, .int s] h (some (.int (sX2_off at p0 p1 sz tu mi s))) h := by
  generalize hs : (sX2_off at p0 p1 sz tu mi s) = zz
  refine EvF.of pnX2 rfl ?_
  refine R_aload_n 1 dX2_off_0 rfl rfl ?_
  refine R_get 4 dX2_off_1 rfl fX2_36 hg (v := .int at) rfl ?_
  refine R_iload_n 5 dX2_off_4 rfl rfl ?_
  refine R_cut 19 [(0, .ref r), (1, .int s)] (.int (if s = 0 then p0 else p1) :: [.int at]) h ?_ (fun kj => ?_)
  ·
    refine R_isub 20 dX2_off_19 rfl ?_
    refine R_mabs 23 dX2_off_20 rfl lmX2_142 mw_abs rfl rfl rfl ?_
    refine R_top (y := sAbs (at - (if s = 0 then p0 else p1))) rfl ?_
    refine R_ireturn dX2_off_23 rfl rfl ?_
    have e : zz = sAbs (at - (if s = 0 then p0 else p1)) := by rw [← hs]; unfold sX2_off; rfl
    subst e; exact ⟨rfl, rfl⟩
  refine R_if_ne 8 15 dX2_off_5 rfl (by decide) (fun c1 => ?_) (fun c1 => ?_)
  · refine R_aload_n 16 dX2_off_15 rfl rfl ?_
    refine R_get 19 dX2_off_16 rfl fX2_9 hg (v := .int p1) rfl ?_
    rw [if_neg c1] at kj; exact kj
  · refine R_aload_n 9 dX2_off_8 rfl rfl ?_
    refine R_get 12 dX2_off_9 rfl fX2_39 hg (v := .int p0) rfl ?_
    refine R_goto 19 dX2_off_12 (by decide) ?_
    rw [if_pos c1] at kj; exact kj
def sX2_has (at : Int32) (p0 : Int32) (p1 : Int32) (sz : Int32) (tu : Int32) (mi : Int32) (p : Int32) : Bool := if p < 0 then false else if sz ≤ p then false else (!decide (5 ≤ p))
set_option maxRecDepth 20000 in
theorem eX2_has {G : zG} {h : zH} {r d1 d2 d3 : Nat} {at p0 p1 sz tu mi p : Int32} (hg : zg h r = some (.inr (2, [.int at, .int p0, .int p1, .ref d1, .ref d2, .ref d3, .int sz, .int tu, .int mi]))) : EvF G mX2_has [.ref r, .int p] h (some (.int (b2i (sX2_has at p0 p1 sz tu mi p)))) h := by
  generalize hs : (sX2_has at p0 p1 sz tu mi p) = zz
  refine EvF.of pnX2 rfl ?_
  refine R_iload_n 1 dX2_has_0 rfl rfl ?_
  refine R_if_lt 4 21 dX2_has_1 rfl (by decide) (fun c1 => ?_) (fun c1 => ?_)
  ·
    refine R_iconst 22 dX2_has_21 rfl (v := 0) (by decide) ?_
    refine R_ireturn dX2_has_22 rfl (by decide) ?_
    have e : zz = false := by rw [← hs]; unfold sX2_has; rw [if_pos c1]
    subst e; exact ⟨rfl, rfl⟩
  ·
    refine R_iload_n 5 dX2_has_4 rfl rfl ?_
    refine R_aload_n 6 dX2_has_5 rfl rfl ?_
    refine R_get 9 dX2_has_6 rfl fX2_49 hg (v := .int sz) rfl ?_
    refine R_icmp_ge 12 21 dX2_has_9 rfl (by decide) (fun c2 => ?_) (fun c2 => ?_)
    ·
      refine R_iconst 22 dX2_has_21 rfl (v := 0) (by decide) ?_
      refine R_ireturn dX2_has_22 rfl (by decide) ?_
      have e : zz = false := by rw [← hs]; unfold sX2_has; rw [if_neg c1, if_pos c2]
      subst e; exact ⟨rfl, rfl⟩
    ·
      refine R_iload_n 13 dX2_has_12 rfl rfl ?_
      refine R_iconst 14 dX2_has_13 rfl (v := 5) (by decide) ?_
      refine R_cut 22 [(0, .ref r), (1, .int p)] (.int (b2i (!decide (5 ≤ p))) :: []) h ?_ (fun kj => ?_)
      ·
        refine R_ireturn dX2_has_22 rfl (nar_b _) ?_
        have e : zz = (!decide (5 ≤ p)) := by rw [← hs]; unfold sX2_has; rw [if_neg c1, if_neg c2]
        subst e; exact ⟨rfl, rfl⟩
      refine R_icmp_ge 17 21 dX2_has_14 rfl (by decide) (fun c3 => ?_) (fun c3 => ?_)
      · refine R_iconst 22 dX2_has_21 rfl (v := 0) (by decide) ?_
        rw [b2i_np c3] at kj; exact kj
      · refine R_iconst 18 dX2_has_17 rfl (v := 1) (by decide) ?_
        refine R_goto 22 dX2_has_18 (by decide) ?_
        rw [b2i_nn c3] at kj; exact kj
end
