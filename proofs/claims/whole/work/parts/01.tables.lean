-- ===== PART A: goes FIRST, ahead of the names: the tables' words, and 'selects' of the private methods out of them =====
/-- a private method of a class that the tables say can be made, by its rows of tables_1 -/
def lw_okq (q : MethodName × Nat) : Prop := (q.1.cls ≠ "java/lang/invoke/MethodHandle" ∧ q.1.cls ≠ "java/lang/invoke/VarHandle") ∧ Cond.instantiable q.1.cls q.2 ∈ tables_1 ∧ Cond.privateMethod q.1 ∈ tables_1 ∧ Cond.instanceMethod q.1 ∈ tables_1
theorem lw_p0 : lw_okq (⟨"DoorBell", "found", "(I)I"⟩, 10) := ⟨⟨by decide +kernel, by decide +kernel⟩, List.mem_of_getElem? (i := 13) (by decide +kernel), List.mem_of_getElem? (i := 238) (by decide +kernel), List.mem_of_getElem? (i := 239) (by decide +kernel)⟩
theorem lw_p1 : lw_okq (⟨"DoorBell", "foundNone", "(I)I"⟩, 10) := ⟨⟨by decide +kernel, by decide +kernel⟩, List.mem_of_getElem? (i := 13) (by decide +kernel), List.mem_of_getElem? (i := 247) (by decide +kernel), List.mem_of_getElem? (i := 248) (by decide +kernel)⟩
theorem lw_p2 : lw_okq (⟨"DoorBell$Reader", "readLaw", "(LDoorBell$Street;)Z"⟩, 5) := ⟨⟨by decide +kernel, by decide +kernel⟩, List.mem_of_getElem? (i := 97) (by decide +kernel), List.mem_of_getElem? (i := 298) (by decide +kernel), List.mem_of_getElem? (i := 299) (by decide +kernel)⟩
theorem lw_p3 : lw_okq (⟨"DoorBell$Reader", "readSign", "(I)Z"⟩, 5) := ⟨⟨by decide +kernel, by decide +kernel⟩, List.mem_of_getElem? (i := 97) (by decide +kernel), List.mem_of_getElem? (i := 302) (by decide +kernel), List.mem_of_getElem? (i := 303) (by decide +kernel)⟩
theorem lw_p4 : lw_okq (⟨"DoorBell$Reader", "nextIs", "(I)Z"⟩, 5) := ⟨⟨by decide +kernel, by decide +kernel⟩, List.mem_of_getElem? (i := 97) (by decide +kernel), List.mem_of_getElem? (i := 306) (by decide +kernel), List.mem_of_getElem? (i := 307) (by decide +kernel)⟩
theorem lw_p5 : lw_okq (⟨"DoorBell$Reader", "fail", "(I)Z"⟩, 5) := ⟨⟨by decide +kernel, by decide +kernel⟩, List.mem_of_getElem? (i := 97) (by decide +kernel), List.mem_of_getElem? (i := 310) (by decide +kernel), List.mem_of_getElem? (i := 311) (by decide +kernel)⟩
theorem lw_p6 : lw_okq (⟨"DoorBell$Reader", "readNumber", "(II)I"⟩, 5) := ⟨⟨by decide +kernel, by decide +kernel⟩, List.mem_of_getElem? (i := 97) (by decide +kernel), List.mem_of_getElem? (i := 314) (by decide +kernel), List.mem_of_getElem? (i := 315) (by decide +kernel)⟩
theorem lw_p7 : lw_okq (⟨"DoorBell$Reader", "readDoor", "(LDoorBell$Street;)Z"⟩, 5) := ⟨⟨by decide +kernel, by decide +kernel⟩, List.mem_of_getElem? (i := 97) (by decide +kernel), List.mem_of_getElem? (i := 325) (by decide +kernel), List.mem_of_getElem? (i := 326) (by decide +kernel)⟩
theorem lw_p8 : lw_okq (⟨"DoorBell$Reader", "readCaller", "(LDoorBell$Street;)Z"⟩, 5) := ⟨⟨by decide +kernel, by decide +kernel⟩, List.mem_of_getElem? (i := 97) (by decide +kernel), List.mem_of_getElem? (i := 341) (by decide +kernel), List.mem_of_getElem? (i := 342) (by decide +kernel)⟩
theorem lw_p9 : lw_okq (⟨"DoorBell", "areApartSets", "(II)Z"⟩, 10) := ⟨⟨by decide +kernel, by decide +kernel⟩, List.mem_of_getElem? (i := 13) (by decide +kernel), List.mem_of_getElem? (i := 520) (by decide +kernel), List.mem_of_getElem? (i := 521) (by decide +kernel)⟩
theorem lw_p10 : lw_okq (⟨"DoorBell$Laying", "totalOf", "(I)I"⟩, 4) := ⟨⟨by decide +kernel, by decide +kernel⟩, List.mem_of_getElem? (i := 145) (by decide +kernel), List.mem_of_getElem? (i := 548) (by decide +kernel), List.mem_of_getElem? (i := 549) (by decide +kernel)⟩
theorem lw_p11 : lw_okq (⟨"DoorBell$Laying", "isAhead", "(II)Z"⟩, 4) := ⟨⟨by decide +kernel, by decide +kernel⟩, List.mem_of_getElem? (i := 145) (by decide +kernel), List.mem_of_getElem? (i := 556) (by decide +kernel), List.mem_of_getElem? (i := 557) (by decide +kernel)⟩
theorem lw_p12 : lw_okq (⟨"DoorBell", "meetingCases", "(II)I"⟩, 10) := ⟨⟨by decide +kernel, by decide +kernel⟩, List.mem_of_getElem? (i := 13) (by decide +kernel), List.mem_of_getElem? (i := 584) (by decide +kernel), List.mem_of_getElem? (i := 585) (by decide +kernel)⟩
theorem lw_p13 : lw_okq (⟨"DoorBell$Asker", "give", "(ILDoorBell$Street;II)I"⟩, 2) := ⟨⟨by decide +kernel, by decide +kernel⟩, List.mem_of_getElem? (i := 166) (by decide +kernel), List.mem_of_getElem? (i := 663) (by decide +kernel), List.mem_of_getElem? (i := 664) (by decide +kernel)⟩
theorem lw_p14 : lw_okq (⟨"DoorBell$Asker", "leave", "(I)V"⟩, 2) := ⟨⟨by decide +kernel, by decide +kernel⟩, List.mem_of_getElem? (i := 166) (by decide +kernel), List.mem_of_getElem? (i := 667) (by decide +kernel), List.mem_of_getElem? (i := 668) (by decide +kernel)⟩
theorem lw_p15 : lw_okq (⟨"DoorBell", "rowsThere", "()I"⟩, 10) := ⟨⟨by decide +kernel, by decide +kernel⟩, List.mem_of_getElem? (i := 13) (by decide +kernel), List.mem_of_getElem? (i := 679) (by decide +kernel), List.mem_of_getElem? (i := 680) (by decide +kernel)⟩
def lw_privs_1 : List (MethodName × Nat) := [(⟨"DoorBell", "found", "(I)I"⟩, 10), (⟨"DoorBell", "foundNone", "(I)I"⟩, 10), (⟨"DoorBell$Reader", "readLaw", "(LDoorBell$Street;)Z"⟩, 5), (⟨"DoorBell$Reader", "readSign", "(I)Z"⟩, 5), (⟨"DoorBell$Reader", "nextIs", "(I)Z"⟩, 5), (⟨"DoorBell$Reader", "fail", "(I)Z"⟩, 5), (⟨"DoorBell$Reader", "readNumber", "(II)I"⟩, 5), (⟨"DoorBell$Reader", "readDoor", "(LDoorBell$Street;)Z"⟩, 5), (⟨"DoorBell$Reader", "readCaller", "(LDoorBell$Street;)Z"⟩, 5), (⟨"DoorBell", "areApartSets", "(II)Z"⟩, 10), (⟨"DoorBell$Laying", "totalOf", "(I)I"⟩, 4), (⟨"DoorBell$Laying", "isAhead", "(II)Z"⟩, 4), (⟨"DoorBell", "meetingCases", "(II)I"⟩, 10), (⟨"DoorBell$Asker", "give", "(ILDoorBell$Street;II)I"⟩, 2), (⟨"DoorBell$Asker", "leave", "(I)V"⟩, 2), (⟨"DoorBell", "rowsThere", "()I"⟩, 10)]
theorem lw_r1 : ∀ q ∈ lw_privs_1, lw_okq q := List.forall_mem_cons.mpr ⟨lw_p0, List.forall_mem_cons.mpr ⟨lw_p1, List.forall_mem_cons.mpr ⟨lw_p2, List.forall_mem_cons.mpr ⟨lw_p3, List.forall_mem_cons.mpr ⟨lw_p4, List.forall_mem_cons.mpr ⟨lw_p5, List.forall_mem_cons.mpr ⟨lw_p6, List.forall_mem_cons.mpr ⟨lw_p7, List.forall_mem_cons.mpr ⟨lw_p8, List.forall_mem_cons.mpr ⟨lw_p9, List.forall_mem_cons.mpr ⟨lw_p10, List.forall_mem_cons.mpr ⟨lw_p11, List.forall_mem_cons.mpr ⟨lw_p12, List.forall_mem_cons.mpr ⟨lw_p13, List.forall_mem_cons.mpr ⟨lw_p14, List.forall_mem_cons.mpr ⟨lw_p15, fun _ h => absurd h List.not_mem_nil⟩⟩⟩⟩⟩⟩⟩⟩⟩⟩⟩⟩⟩⟩⟩⟩
theorem lw_p16 : lw_okq (⟨"DoorBellModel", "finds", "(I)I"⟩, 23) := ⟨⟨by decide +kernel, by decide +kernel⟩, List.mem_of_getElem? (i := 691) (by decide +kernel), List.mem_of_getElem? (i := 779) (by decide +kernel), List.mem_of_getElem? (i := 780) (by decide +kernel)⟩
theorem lw_p17 : lw_okq (⟨"DoorBellModel", "done", "(I)I"⟩, 23) := ⟨⟨by decide +kernel, by decide +kernel⟩, List.mem_of_getElem? (i := 691) (by decide +kernel), List.mem_of_getElem? (i := 784) (by decide +kernel), List.mem_of_getElem? (i := 785) (by decide +kernel)⟩
theorem lw_p18 : lw_okq (⟨"DoorBellModel", "isRead", "()Z"⟩, 23) := ⟨⟨by decide +kernel, by decide +kernel⟩, List.mem_of_getElem? (i := 691) (by decide +kernel), List.mem_of_getElem? (i := 812) (by decide +kernel), List.mem_of_getElem? (i := 813) (by decide +kernel)⟩
theorem lw_p19 : lw_okq (⟨"DoorBellModel", "isLaw", "()Z"⟩, 23) := ⟨⟨by decide +kernel, by decide +kernel⟩, List.mem_of_getElem? (i := 691) (by decide +kernel), List.mem_of_getElem? (i := 816) (by decide +kernel), List.mem_of_getElem? (i := 817) (by decide +kernel)⟩
theorem lw_p20 : lw_okq (⟨"DoorBellModel", "isSign", "(I)Z"⟩, 23) := ⟨⟨by decide +kernel, by decide +kernel⟩, List.mem_of_getElem? (i := 691) (by decide +kernel), List.mem_of_getElem? (i := 820) (by decide +kernel), List.mem_of_getElem? (i := 821) (by decide +kernel)⟩
theorem lw_p21 : lw_okq (⟨"DoorBellModel", "nextToken", "()V"⟩, 23) := ⟨⟨by decide +kernel, by decide +kernel⟩, List.mem_of_getElem? (i := 691) (by decide +kernel), List.mem_of_getElem? (i := 824) (by decide +kernel), List.mem_of_getElem? (i := 825) (by decide +kernel)⟩
theorem lw_p22 : lw_okq (⟨"DoorBellModel", "fails", "(I)Z"⟩, 23) := ⟨⟨by decide +kernel, by decide +kernel⟩, List.mem_of_getElem? (i := 691) (by decide +kernel), List.mem_of_getElem? (i := 828) (by decide +kernel), List.mem_of_getElem? (i := 829) (by decide +kernel)⟩
theorem lw_p23 : lw_okq (⟨"DoorBellModel", "isNumber", "(II)Z"⟩, 23) := ⟨⟨by decide +kernel, by decide +kernel⟩, List.mem_of_getElem? (i := 691) (by decide +kernel), List.mem_of_getElem? (i := 832) (by decide +kernel), List.mem_of_getElem? (i := 833) (by decide +kernel)⟩
theorem lw_p24 : lw_okq (⟨"DoorBellModel", "isCaller", "()Z"⟩, 23) := ⟨⟨by decide +kernel, by decide +kernel⟩, List.mem_of_getElem? (i := 691) (by decide +kernel), List.mem_of_getElem? (i := 839) (by decide +kernel), List.mem_of_getElem? (i := 840) (by decide +kernel)⟩
theorem lw_p25 : lw_okq (⟨"DoorBellModel", "isDoor", "()Z"⟩, 23) := ⟨⟨by decide +kernel, by decide +kernel⟩, List.mem_of_getElem? (i := 691) (by decide +kernel), List.mem_of_getElem? (i := 843) (by decide +kernel), List.mem_of_getElem? (i := 844) (by decide +kernel)⟩
theorem lw_p26 : lw_okq (⟨"DoorBellModel", "isDoorAt", "(I)Z"⟩, 23) := ⟨⟨by decide +kernel, by decide +kernel⟩, List.mem_of_getElem? (i := 691) (by decide +kernel), List.mem_of_getElem? (i := 864) (by decide +kernel), List.mem_of_getElem? (i := 865) (by decide +kernel)⟩
theorem lw_p27 : lw_okq (⟨"DoorBellModel", "secondsUsed", "()I"⟩, 23) := ⟨⟨by decide +kernel, by decide +kernel⟩, List.mem_of_getElem? (i := 691) (by decide +kernel), List.mem_of_getElem? (i := 868) (by decide +kernel), List.mem_of_getElem? (i := 869) (by decide +kernel)⟩
theorem lw_p28 : lw_okq (⟨"DoorBellModel", "act", "()V"⟩, 23) := ⟨⟨by decide +kernel, by decide +kernel⟩, List.mem_of_getElem? (i := 691) (by decide +kernel), List.mem_of_getElem? (i := 872) (by decide +kernel), List.mem_of_getElem? (i := 873) (by decide +kernel)⟩
theorem lw_p29 : lw_okq (⟨"DoorBellModel", "soundsUsed", "()I"⟩, 23) := ⟨⟨by decide +kernel, by decide +kernel⟩, List.mem_of_getElem? (i := 691) (by decide +kernel), List.mem_of_getElem? (i := 880) (by decide +kernel), List.mem_of_getElem? (i := 881) (by decide +kernel)⟩
theorem lw_p30 : lw_okq (⟨"DoorBellModel", "isStreet", "()Z"⟩, 23) := ⟨⟨by decide +kernel, by decide +kernel⟩, List.mem_of_getElem? (i := 691) (by decide +kernel), List.mem_of_getElem? (i := 888) (by decide +kernel), List.mem_of_getElem? (i := 889) (by decide +kernel)⟩
theorem lw_p31 : lw_okq (⟨"DoorBellModel", "callersAt", "(I)I"⟩, 23) := ⟨⟨by decide +kernel, by decide +kernel⟩, List.mem_of_getElem? (i := 691) (by decide +kernel), List.mem_of_getElem? (i := 923) (by decide +kernel), List.mem_of_getElem? (i := 924) (by decide +kernel)⟩
def lw_privs_2 : List (MethodName × Nat) := [(⟨"DoorBellModel", "finds", "(I)I"⟩, 23), (⟨"DoorBellModel", "done", "(I)I"⟩, 23), (⟨"DoorBellModel", "isRead", "()Z"⟩, 23), (⟨"DoorBellModel", "isLaw", "()Z"⟩, 23), (⟨"DoorBellModel", "isSign", "(I)Z"⟩, 23), (⟨"DoorBellModel", "nextToken", "()V"⟩, 23), (⟨"DoorBellModel", "fails", "(I)Z"⟩, 23), (⟨"DoorBellModel", "isNumber", "(II)Z"⟩, 23), (⟨"DoorBellModel", "isCaller", "()Z"⟩, 23), (⟨"DoorBellModel", "isDoor", "()Z"⟩, 23), (⟨"DoorBellModel", "isDoorAt", "(I)Z"⟩, 23), (⟨"DoorBellModel", "secondsUsed", "()I"⟩, 23), (⟨"DoorBellModel", "act", "()V"⟩, 23), (⟨"DoorBellModel", "soundsUsed", "()I"⟩, 23), (⟨"DoorBellModel", "isStreet", "()Z"⟩, 23), (⟨"DoorBellModel", "callersAt", "(I)I"⟩, 23)]
theorem lw_r2 : ∀ q ∈ lw_privs_2, lw_okq q := List.forall_mem_cons.mpr ⟨lw_p16, List.forall_mem_cons.mpr ⟨lw_p17, List.forall_mem_cons.mpr ⟨lw_p18, List.forall_mem_cons.mpr ⟨lw_p19, List.forall_mem_cons.mpr ⟨lw_p20, List.forall_mem_cons.mpr ⟨lw_p21, List.forall_mem_cons.mpr ⟨lw_p22, List.forall_mem_cons.mpr ⟨lw_p23, List.forall_mem_cons.mpr ⟨lw_p24, List.forall_mem_cons.mpr ⟨lw_p25, List.forall_mem_cons.mpr ⟨lw_p26, List.forall_mem_cons.mpr ⟨lw_p27, List.forall_mem_cons.mpr ⟨lw_p28, List.forall_mem_cons.mpr ⟨lw_p29, List.forall_mem_cons.mpr ⟨lw_p30, List.forall_mem_cons.mpr ⟨lw_p31, fun _ h => absurd h List.not_mem_nil⟩⟩⟩⟩⟩⟩⟩⟩⟩⟩⟩⟩⟩⟩⟩⟩
theorem lw_p32 : lw_okq (⟨"DoorBellModel", "isOne", "(I)Z"⟩, 23) := ⟨⟨by decide +kernel, by decide +kernel⟩, List.mem_of_getElem? (i := 691) (by decide +kernel), List.mem_of_getElem? (i := 931) (by decide +kernel), List.mem_of_getElem? (i := 932) (by decide +kernel)⟩
theorem lw_p33 : lw_okq (⟨"DoorBellModel", "areSets", "(II)Z"⟩, 23) := ⟨⟨by decide +kernel, by decide +kernel⟩, List.mem_of_getElem? (i := 691) (by decide +kernel), List.mem_of_getElem? (i := 960) (by decide +kernel), List.mem_of_getElem? (i := 961) (by decide +kernel)⟩
theorem lw_p34 : lw_okq (⟨"DoorBellModel", "layLeast", "(II)I"⟩, 23) := ⟨⟨by decide +kernel, by decide +kernel⟩, List.mem_of_getElem? (i := 691) (by decide +kernel), List.mem_of_getElem? (i := 964) (by decide +kernel), List.mem_of_getElem? (i := 965) (by decide +kernel)⟩
theorem lw_p35 : lw_okq (⟨"DoorBellModel", "layCosts", "(II)V"⟩, 23) := ⟨⟨by decide +kernel, by decide +kernel⟩, List.mem_of_getElem? (i := 691) (by decide +kernel), List.mem_of_getElem? (i := 968) (by decide +kernel), List.mem_of_getElem? (i := 969) (by decide +kernel)⟩
theorem lw_p36 : lw_okq (⟨"DoorBellModel", "costBy", "(IIIIII)I"⟩, 23) := ⟨⟨by decide +kernel, by decide +kernel⟩, List.mem_of_getElem? (i := 691) (by decide +kernel), List.mem_of_getElem? (i := 972) (by decide +kernel), List.mem_of_getElem? (i := 973) (by decide +kernel)⟩
theorem lw_p37 : lw_okq (⟨"DoorBellModel", "fits", "(IIIZII)Z"⟩, 23) := ⟨⟨by decide +kernel, by decide +kernel⟩, List.mem_of_getElem? (i := 691) (by decide +kernel), List.mem_of_getElem? (i := 976) (by decide +kernel), List.mem_of_getElem? (i := 977) (by decide +kernel)⟩
theorem lw_p38 : lw_okq (⟨"DoorBellModel", "kindOf", "(I)I"⟩, 23) := ⟨⟨by decide +kernel, by decide +kernel⟩, List.mem_of_getElem? (i := 691) (by decide +kernel), List.mem_of_getElem? (i := 1024) (by decide +kernel), List.mem_of_getElem? (i := 1025) (by decide +kernel)⟩
theorem lw_p39 : lw_okq (⟨"DoorBellModel", "sizeOf", "(I)I"⟩, 23) := ⟨⟨by decide +kernel, by decide +kernel⟩, List.mem_of_getElem? (i := 691) (by decide +kernel), List.mem_of_getElem? (i := 1039) (by decide +kernel), List.mem_of_getElem? (i := 1040) (by decide +kernel)⟩
theorem lw_p40 : lw_okq (⟨"DoorBellModel", "begins", "(I)V"⟩, 23) := ⟨⟨by decide +kernel, by decide +kernel⟩, List.mem_of_getElem? (i := 691) (by decide +kernel), List.mem_of_getElem? (i := 1043) (by decide +kernel), List.mem_of_getElem? (i := 1044) (by decide +kernel)⟩
theorem lw_p41 : lw_okq (⟨"DoorBellModel", "sizePost", "(I)I"⟩, 23) := ⟨⟨by decide +kernel, by decide +kernel⟩, List.mem_of_getElem? (i := 691) (by decide +kernel), List.mem_of_getElem? (i := 1047) (by decide +kernel), List.mem_of_getElem? (i := 1048) (by decide +kernel)⟩
theorem lw_p42 : lw_okq (⟨"DoorBellModel", "markPlain", "(I)I"⟩, 23) := ⟨⟨by decide +kernel, by decide +kernel⟩, List.mem_of_getElem? (i := 691) (by decide +kernel), List.mem_of_getElem? (i := 1051) (by decide +kernel), List.mem_of_getElem? (i := 1052) (by decide +kernel)⟩
theorem lw_p43 : lw_okq (⟨"DoorBellModel", "markGuest", "(I)I"⟩, 23) := ⟨⟨by decide +kernel, by decide +kernel⟩, List.mem_of_getElem? (i := 691) (by decide +kernel), List.mem_of_getElem? (i := 1055) (by decide +kernel), List.mem_of_getElem? (i := 1056) (by decide +kernel)⟩
theorem lw_p44 : lw_okq (⟨"DoorBellModel", "markOf", "(I)I"⟩, 23) := ⟨⟨by decide +kernel, by decide +kernel⟩, List.mem_of_getElem? (i := 691) (by decide +kernel), List.mem_of_getElem? (i := 1059) (by decide +kernel), List.mem_of_getElem? (i := 1060) (by decide +kernel)⟩
def lw_privs_3 : List (MethodName × Nat) := [(⟨"DoorBellModel", "isOne", "(I)Z"⟩, 23), (⟨"DoorBellModel", "areSets", "(II)Z"⟩, 23), (⟨"DoorBellModel", "layLeast", "(II)I"⟩, 23), (⟨"DoorBellModel", "layCosts", "(II)V"⟩, 23), (⟨"DoorBellModel", "costBy", "(IIIIII)I"⟩, 23), (⟨"DoorBellModel", "fits", "(IIIZII)Z"⟩, 23), (⟨"DoorBellModel", "kindOf", "(I)I"⟩, 23), (⟨"DoorBellModel", "sizeOf", "(I)I"⟩, 23), (⟨"DoorBellModel", "begins", "(I)V"⟩, 23), (⟨"DoorBellModel", "sizePost", "(I)I"⟩, 23), (⟨"DoorBellModel", "markPlain", "(I)I"⟩, 23), (⟨"DoorBellModel", "markGuest", "(I)I"⟩, 23), (⟨"DoorBellModel", "markOf", "(I)I"⟩, 23)]
theorem lw_r3 : ∀ q ∈ lw_privs_3, lw_okq q := List.forall_mem_cons.mpr ⟨lw_p32, List.forall_mem_cons.mpr ⟨lw_p33, List.forall_mem_cons.mpr ⟨lw_p34, List.forall_mem_cons.mpr ⟨lw_p35, List.forall_mem_cons.mpr ⟨lw_p36, List.forall_mem_cons.mpr ⟨lw_p37, List.forall_mem_cons.mpr ⟨lw_p38, List.forall_mem_cons.mpr ⟨lw_p39, List.forall_mem_cons.mpr ⟨lw_p40, List.forall_mem_cons.mpr ⟨lw_p41, List.forall_mem_cons.mpr ⟨lw_p42, List.forall_mem_cons.mpr ⟨lw_p43, List.forall_mem_cons.mpr ⟨lw_p44, fun _ h => absurd h List.not_mem_nil⟩⟩⟩⟩⟩⟩⟩⟩⟩⟩⟩⟩⟩
def lw_privs : List (MethodName × Nat) := lw_privs_1 ++ (lw_privs_2 ++ (lw_privs_3))
def lw_tbl : List Cond := k2_sels lw_privs ++ tables_1
theorem lw_privs_ok : ∀ q ∈ lw_privs, lw_okq q := by
  show ∀ q ∈ lw_privs_1 ++ (lw_privs_2 ++ (lw_privs_3)), lw_okq q
  exact List.forall_mem_append.mpr ⟨lw_r1, List.forall_mem_append.mpr ⟨lw_r2, lw_r3⟩⟩

def RX0 : String := "DoorBell$Acts"
def TX0 : u_T := fun k => match k with
  | 0 => ("DoorBell$Acts", "whats", "[I", true)
  | 1 => ("DoorBell$Acts", "doors", "[I", true)
  | 2 => ("DoorBell$Acts", "befores", "[I", true)
  | 3 => ("DoorBell$Acts", "next", "I", false)
  | _ => ("DoorBell$Acts", "kept", "I", false)
def tyX0 : Nat → FieldType := fun k => match k with
  | 0 => .array .int
  | 1 => .array .int
  | 2 => .array .int
  | 3 => .int
  | _ => .int
abbrev wsX00 : List Cond := u_ws RX0 TX0 5
theorem nmX0 : ∀ a, a < 5 → ∀ b, b < 5 → a ≠ b → (TX0 a).2.1 ≠ (TX0 b).2.1 := by decide +kernel
theorem tyX0_ok : ∀ k, k < 5 → parseFieldDescriptor (TX0 k).2.2.1 = some (tyX0 k) := by decide +kernel
abbrev cX0_init : ByteArray := prog_2_method_1_code
def yX0_init : MethodName := ⟨RX0, "<init>", "()V"⟩
abbrev cX0_forgetAll : ByteArray := prog_2_method_2_code
def yX0_forgetAll : MethodName := ⟨RX0, "forgetAll", "()V"⟩
abbrev cX0_keep : ByteArray := prog_2_method_3_code
def yX0_keep : MethodName := ⟨RX0, "keep", "(III)V"⟩
abbrev cX0_takeBackLatest : ByteArray := prog_2_method_4_code
def yX0_takeBackLatest : MethodName := ⟨RX0, "takeBackLatest", "(LDoorBell$Street;)V"⟩
def RX1 : String := "DoorBell$Asker"
def TX1 : u_T := fun k => match k with
  | 0 => ("DoorBell$Asker", "numbers", "[I", true)
  | _ => ("DoorBell$Asker", "left", "I", false)
def tyX1 : Nat → FieldType := fun k => match k with
  | 0 => .array .int
  | _ => .int
abbrev wsX10 : List Cond := u_ws RX1 TX1 2
theorem nmX1 : ∀ a, a < 2 → ∀ b, b < 2 → a ≠ b → (TX1 a).2.1 ≠ (TX1 b).2.1 := by decide +kernel
theorem tyX1_ok : ∀ k, k < 2 → parseFieldDescriptor (TX1 k).2.2.1 = some (tyX1 k) := by decide +kernel
abbrev cX1_init : ByteArray := prog_3_method_1_code
def yX1_init : MethodName := ⟨RX1, "<init>", "()V"⟩
abbrev cX1_answer : ByteArray := prog_3_method_2_code
def yX1_answer : MethodName := ⟨RX1, "answer", "(LDoorBell$Street;II)I"⟩
abbrev cX1_give : ByteArray := prog_3_method_3_code
def yX1_give : MethodName := ⟨RX1, "give", "(ILDoorBell$Street;II)I"⟩
abbrev cX1_leave : ByteArray := prog_3_method_4_code
def yX1_leave : MethodName := ⟨RX1, "leave", "(I)V"⟩
def RX2 : String := "DoorBell$Laying"
def TX2 : u_T := fun k => match k with
  | 0 => ("DoorBell$Laying", "cheapest", "[I", true)
  | 1 => ("DoorBell$Laying", "doors", "I", false)
  | 2 => ("DoorBell$Laying", "chosen", "I", false)
  | _ => ("DoorBell$Laying", "total", "I", false)
def tyX2 : Nat → FieldType := fun k => match k with
  | 0 => .array .int
  | 1 => .int
  | 2 => .int
  | _ => .int
abbrev wsX20 : List Cond := u_ws RX2 TX2 4
theorem nmX2 : ∀ a, a < 4 → ∀ b, b < 4 → a ≠ b → (TX2 a).2.1 ≠ (TX2 b).2.1 := by decide +kernel
theorem tyX2_ok : ∀ k, k < 4 → parseFieldDescriptor (TX2 k).2.2.1 = some (tyX2 k) := by decide +kernel
abbrev cX2_init : ByteArray := prog_4_method_1_code
def yX2_init : MethodName := ⟨RX2, "<init>", "()V"⟩
abbrev cX2_weigh : ByteArray := prog_4_method_2_code
def yX2_weigh : MethodName := ⟨RX2, "weigh", "(LDoorBell$Street;II)V"⟩
abbrev cX2_choose : ByteArray := prog_4_method_3_code
def yX2_choose : MethodName := ⟨RX2, "choose", "()Z"⟩
abbrev cX2_firstThatCanNot : ByteArray := prog_4_method_4_code
def yX2_firstThatCanNot : MethodName := ⟨RX2, "firstThatCanNot", "()I"⟩
abbrev cX2_codeAt : ByteArray := prog_4_method_5_code
def yX2_codeAt : MethodName := ⟨RX2, "codeAt", "(II)I"⟩
abbrev cX2_totalOf : ByteArray := prog_4_method_6_code
def yX2_totalOf : MethodName := ⟨RX2, "totalOf", "(I)I"⟩
abbrev cX2_isAhead : ByteArray := prog_4_method_7_code
def yX2_isAhead : MethodName := ⟨RX2, "isAhead", "(II)Z"⟩
abbrev cX2_costOf : ByteArray := prog_4_method_8_code
def yX2_costOf : MethodName := ⟨RX2, "costOf", "(I)I"⟩
abbrev cX2_cheapestAt : ByteArray := prog_4_method_9_code
def yX2_cheapestAt : MethodName := ⟨RX2, "cheapestAt", "(LDoorBell$Street;IIII)I"⟩
abbrev cX2_meetersAt : ByteArray := prog_4_method_10_code
def yX2_meetersAt : MethodName := ⟨RX2, "meetersAt", "(LDoorBell$Street;IIII)I"⟩
def RX3 : String := "DoorBell$Reader"
def TX3 : u_T := fun k => match k with
  | 0 => ("DoorBell$Reader", "tape", "[I", true)
  | 1 => ("DoorBell$Reader", "length", "I", false)
  | 2 => ("DoorBell$Reader", "at", "I", false)
  | 3 => ("DoorBell$Reader", "faultPlace", "I", false)
  | _ => ("DoorBell$Reader", "faultNumber", "I", false)
def tyX3 : Nat → FieldType := fun k => match k with
  | 0 => .array .int
  | 1 => .int
  | 2 => .int
  | 3 => .int
  | _ => .int
abbrev wsX30 : List Cond := u_ws RX3 TX3 5
theorem nmX3 : ∀ a, a < 5 → ∀ b, b < 5 → a ≠ b → (TX3 a).2.1 ≠ (TX3 b).2.1 := by decide +kernel
theorem tyX3_ok : ∀ k, k < 5 → parseFieldDescriptor (TX3 k).2.2.1 = some (tyX3 k) := by decide +kernel
abbrev cX3_init : ByteArray := prog_5_method_1_code
def yX3_init : MethodName := ⟨RX3, "<init>", "()V"⟩
abbrev cX3_take : ByteArray := prog_5_method_2_code
def yX3_take : MethodName := ⟨RX3, "take", "(I)Z"⟩
abbrev cX3_readInto : ByteArray := prog_5_method_3_code
def yX3_readInto : MethodName := ⟨RX3, "readInto", "(LDoorBell$Street;)Z"⟩
abbrev cX3_readLaw : ByteArray := prog_5_method_4_code
def yX3_readLaw : MethodName := ⟨RX3, "readLaw", "(LDoorBell$Street;)Z"⟩
abbrev cX3_readDoor : ByteArray := prog_5_method_5_code
def yX3_readDoor : MethodName := ⟨RX3, "readDoor", "(LDoorBell$Street;)Z"⟩
abbrev cX3_readCaller : ByteArray := prog_5_method_6_code
def yX3_readCaller : MethodName := ⟨RX3, "readCaller", "(LDoorBell$Street;)Z"⟩
abbrev cX3_readSign : ByteArray := prog_5_method_7_code
def yX3_readSign : MethodName := ⟨RX3, "readSign", "(I)Z"⟩
abbrev cX3_readNumber : ByteArray := prog_5_method_8_code
def yX3_readNumber : MethodName := ⟨RX3, "readNumber", "(II)I"⟩
abbrev cX3_nextIs : ByteArray := prog_5_method_9_code
def yX3_nextIs : MethodName := ⟨RX3, "nextIs", "(I)Z"⟩
abbrev cX3_fail : ByteArray := prog_5_method_10_code
def yX3_fail : MethodName := ⟨RX3, "fail", "(I)Z"⟩
abbrev cX3_isFigure : ByteArray := prog_5_method_11_code
def yX3_isFigure : MethodName := ⟨RX3, "isFigure", "(I)Z"⟩
abbrev cX3_kindOfSort : ByteArray := prog_5_method_12_code
def yX3_kindOfSort : MethodName := ⟨RX3, "kindOfSort", "(I)I"⟩
def RX4 : String := "DoorBell$Row"
def TX4 : u_T := fun k => match k with
  | 0 => ("DoorBell$Row", "items", "[I", true)
  | 1 => ("DoorBell$Row", "lane", "I", false)
  | _ => ("DoorBell$Row", "size", "I", false)
def tyX4 : Nat → FieldType := fun k => match k with
  | 0 => .array .int
  | 1 => .int
  | _ => .int
abbrev wsX40 : List Cond := u_ws RX4 TX4 3
theorem nmX4 : ∀ a, a < 3 → ∀ b, b < 3 → a ≠ b → (TX4 a).2.1 ≠ (TX4 b).2.1 := by decide +kernel
theorem tyX4_ok : ∀ k, k < 3 → parseFieldDescriptor (TX4 k).2.2.1 = some (tyX4 k) := by decide +kernel
abbrev cX4_init : ByteArray := prog_6_method_1_code
def yX4_init : MethodName := ⟨RX4, "<init>", "()V"⟩
abbrev cX4_isMissing : ByteArray := prog_6_method_2_code
def yX4_isMissing : MethodName := ⟨RX4, "isMissing", "()Z"⟩
abbrev cX4_begin : ByteArray := prog_6_method_3_code
def yX4_begin : MethodName := ⟨RX4, "begin", "(II)V"⟩
abbrev cX4_spans : ByteArray := prog_6_method_4_code
def yX4_spans : MethodName := ⟨RX4, "spans", "(II)Z"⟩
abbrev cX4_narrowed : ByteArray := prog_6_method_5_code
def yX4_narrowed : MethodName := ⟨RX4, "narrowed", "(I)I"⟩
abbrev cX4_tellsMeetingsFrom : ByteArray := prog_6_method_6_code
def yX4_tellsMeetingsFrom : MethodName := ⟨RX4, "tellsMeetingsFrom", "(III)Z"⟩
def RX5 : String := "DoorBell$Street"
def TX5 : u_T := fun k => match k with
  | 0 => ("DoorBell$Street", "openings", "[I", true)
  | 1 => ("DoorBell$Street", "stretches", "[I", true)
  | 2 => ("DoorBell$Street", "coughs", "[I", true)
  | 3 => ("DoorBell$Street", "dogs", "[I", true)
  | 4 => ("DoorBell$Street", "kinds", "[I", true)
  | 5 => ("DoorBell$Street", "places", "[I", true)
  | 6 => ("DoorBell$Street", "patiences", "[I", true)
  | 7 => ("DoorBell$Street", "mets", "[I", true)
  | 8 => ("DoorBell$Street", "doors", "I", false)
  | 9 => ("DoorBell$Street", "callers", "I", false)
  | 10 => ("DoorBell$Street", "seconds", "I", false)
  | 11 => ("DoorBell$Street", "sounds", "I", false)
  | _ => ("DoorBell$Street", "day", "I", false)
def tyX5 : Nat → FieldType := fun k => match k with
  | 0 => .array .int
  | 1 => .array .int
  | 2 => .array .int
  | 3 => .array .int
  | 4 => .array .int
  | 5 => .array .int
  | 6 => .array .int
  | 7 => .array .int
  | 8 => .int
  | 9 => .int
  | 10 => .int
  | 11 => .int
  | _ => .int
abbrev wsX50 : List Cond := u_ws RX5 TX5 13
theorem nmX5 : ∀ a, a < 13 → ∀ b, b < 13 → a ≠ b → (TX5 a).2.1 ≠ (TX5 b).2.1 := by decide +kernel
theorem tyX5_ok : ∀ k, k < 13 → parseFieldDescriptor (TX5 k).2.2.1 = some (tyX5 k) := by decide +kernel
abbrev cX5_init : ByteArray := prog_7_method_1_code
def yX5_init : MethodName := ⟨RX5, "<init>", "()V"⟩
abbrev cX5_isTold : ByteArray := prog_7_method_2_code
def yX5_isTold : MethodName := ⟨RX5, "isTold", "()Z"⟩
abbrev cX5_hasDoor : ByteArray := prog_7_method_3_code
def yX5_hasDoor : MethodName := ⟨RX5, "hasDoor", "(I)Z"⟩
abbrev cX5_hasCaller : ByteArray := prog_7_method_4_code
def yX5_hasCaller : MethodName := ⟨RX5, "hasCaller", "(I)Z"⟩
abbrev cX5_allDoors : ByteArray := prog_7_method_5_code
def yX5_allDoors : MethodName := ⟨RX5, "allDoors", "()I"⟩
abbrev cX5_allCallers : ByteArray := prog_7_method_6_code
def yX5_allCallers : MethodName := ⟨RX5, "allCallers", "()I"⟩
abbrev cX5_begin : ByteArray := prog_7_method_7_code
def yX5_begin : MethodName := ⟨RX5, "begin", "(II)V"⟩
abbrev cX5_addDoor : ByteArray := prog_7_method_8_code
def yX5_addDoor : MethodName := ⟨RX5, "addDoor", "(I)V"⟩
abbrev cX5_addCaller : ByteArray := prog_7_method_9_code
def yX5_addCaller : MethodName := ⟨RX5, "addCaller", "(III)V"⟩
abbrev cX5_clearDoor : ByteArray := prog_7_method_10_code
def yX5_clearDoor : MethodName := ⟨RX5, "clearDoor", "(I)V"⟩
abbrev cX5_takeOver : ByteArray := prog_7_method_11_code
def yX5_takeOver : MethodName := ⟨RX5, "takeOver", "(LDoorBell$Street;)V"⟩
abbrev cX5_usedSeconds : ByteArray := prog_7_method_12_code
def yX5_usedSeconds : MethodName := ⟨RX5, "usedSeconds", "()I"⟩
abbrev cX5_usedSounds : ByteArray := prog_7_method_13_code
def yX5_usedSounds : MethodName := ⟨RX5, "usedSounds", "()I"⟩
abbrev cX5_metsAdded : ByteArray := prog_7_method_14_code
def yX5_metsAdded : MethodName := ⟨RX5, "metsAdded", "()I"⟩
abbrev cX5_placesAdded : ByteArray := prog_7_method_15_code
def yX5_placesAdded : MethodName := ⟨RX5, "placesAdded", "()I"⟩
abbrev cX5_heardAt : ByteArray := prog_7_method_16_code
def yX5_heardAt : MethodName := ⟨RX5, "heardAt", "(I)I"⟩
abbrev cX5_opensBehind : ByteArray := prog_7_method_17_code
def yX5_opensBehind : MethodName := ⟨RX5, "opensBehind", "(I)I"⟩
abbrev cX5_staysHowLong : ByteArray := prog_7_method_18_code
def yX5_staysHowLong : MethodName := ⟨RX5, "staysHowLong", "(I)I"⟩
abbrev cX5_staysAs : ByteArray := prog_7_method_19_code
def yX5_staysAs : MethodName := ⟨RX5, "staysAs", "(III)I"⟩
abbrev cX5_isMeeting : ByteArray := prog_7_method_20_code
def yX5_isMeeting : MethodName := ⟨RX5, "isMeeting", "(I)Z"⟩
abbrev cX5_meetsAs : ByteArray := prog_7_method_21_code
def yX5_meetsAs : MethodName := ⟨RX5, "meetsAs", "(III)Z"⟩
abbrev cX5_callersAt : ByteArray := prog_7_method_22_code
def yX5_callersAt : MethodName := ⟨RX5, "callersAt", "(I)I"⟩
abbrev cX5_meetingNow : ByteArray := prog_7_method_23_code
def yX5_meetingNow : MethodName := ⟨RX5, "meetingNow", "()I"⟩
abbrev cX5_firstOnNothing : ByteArray := prog_7_method_24_code
def yX5_firstOnNothing : MethodName := ⟨RX5, "firstOnNothing", "()I"⟩
abbrev cX5_firstMeeting : ByteArray := prog_7_method_25_code
def yX5_firstMeeting : MethodName := ⟨RX5, "firstMeeting", "(II)I"⟩
abbrev cX5_placeAfter : ByteArray := prog_7_method_26_code
def yX5_placeAfter : MethodName := ⟨RX5, "placeAfter", "(II)I"⟩
abbrev cX5_passDay : ByteArray := prog_7_method_27_code
def yX5_passDay : MethodName := ⟨RX5, "passDay", "()I"⟩
abbrev cX5_takeBackDay : ByteArray := prog_7_method_28_code
def yX5_takeBackDay : MethodName := ⟨RX5, "takeBackDay", "(I)V"⟩
abbrev cX5_layByDraw : ByteArray := prog_7_method_29_code
def yX5_layByDraw : MethodName := ⟨RX5, "layByDraw", "(J)V"⟩
abbrev cX5_sum : ByteArray := prog_7_method_30_code
def yX5_sum : MethodName := ⟨RX5, "sum", "([II)I"⟩
abbrev cX5_opening : ByteArray := prog_7_method_31_code
def yX5_opening : MethodName := ⟨RX5, "opening", "(IIII)I"⟩
abbrev cX5_staying : ByteArray := prog_7_method_32_code
def yX5_staying : MethodName := ⟨RX5, "staying", "(IIIII)I"⟩
def RX6 : String := "DoorBell"
def TX6 : u_T := fun k => match k with
  | 0 => ("DoorBell", "rows", "[LDoorBell$Row;", true)
  | 1 => ("DoorBell", "images", "[LDoorBell$Street;", true)
  | 2 => ("DoorBell", "here", "LDoorBell$Street;", true)
  | 3 => ("DoorBell", "trial", "LDoorBell$Street;", true)
  | 4 => ("DoorBell", "reader", "LDoorBell$Reader;", true)
  | 5 => ("DoorBell", "acts", "LDoorBell$Acts;", true)
  | 6 => ("DoorBell", "laying", "LDoorBell$Laying;", true)
  | 7 => ("DoorBell", "asker", "LDoorBell$Asker;", true)
  | 8 => ("DoorBell", "latestFault", "I", false)
  | _ => ("DoorBell", "latestFinding", "I", false)
def tyX6 : Nat → FieldType := fun k => match k with
  | 0 => .array (.object "DoorBell$Row")
  | 1 => .array (.object "DoorBell$Street")
  | 2 => .object "DoorBell$Street"
  | 3 => .object "DoorBell$Street"
  | 4 => .object "DoorBell$Reader"
  | 5 => .object "DoorBell$Acts"
  | 6 => .object "DoorBell$Laying"
  | 7 => .object "DoorBell$Asker"
  | 8 => .int
  | _ => .int
abbrev wsX60 : List Cond := u_ws RX6 TX6 10
theorem nmX6 : ∀ a, a < 10 → ∀ b, b < 10 → a ≠ b → (TX6 a).2.1 ≠ (TX6 b).2.1 := by decide +kernel
theorem tyX6_ok : ∀ k, k < 10 → parseFieldDescriptor (TX6 k).2.2.1 = some (tyX6 k) := by decide +kernel
abbrev cX6_init : ByteArray := prog_1_method_1_code
def yX6_init : MethodName := ⟨RX6, "<init>", "()V"⟩
abbrev cX6_row : ByteArray := prog_1_method_2_code
def yX6_row : MethodName := ⟨RX6, "row", "(III)I"⟩
abbrev cX6_set : ByteArray := prog_1_method_3_code
def yX6_set : MethodName := ⟨RX6, "set", "(III)I"⟩
abbrev cX6_copy : ByteArray := prog_1_method_4_code
def yX6_copy : MethodName := ⟨RX6, "copy", "(IIIII)I"⟩
abbrev cX6_drop : ByteArray := prog_1_method_5_code
def yX6_drop : MethodName := ⟨RX6, "drop", "(I)I"⟩
abbrev cX6_feed : ByteArray := prog_1_method_6_code
def yX6_feed : MethodName := ⟨RX6, "feed", "(I)I"⟩
abbrev cX6_street : ByteArray := prog_1_method_7_code
def yX6_street : MethodName := ⟨RX6, "street", "()I"⟩
abbrev cX6_fault : ByteArray := prog_1_method_8_code
def yX6_fault : MethodName := ⟨RX6, "fault", "()I"⟩
abbrev cX6_undo : ByteArray := prog_1_method_9_code
def yX6_undo : MethodName := ⟨RX6, "undo", "()I"⟩
abbrev cX6_stretch : ByteArray := prog_1_method_10_code
def yX6_stretch : MethodName := ⟨RX6, "stretch", "(II)I"⟩
abbrev cX6_sound : ByteArray := prog_1_method_11_code
def yX6_sound : MethodName := ⟨RX6, "sound", "(III)I"⟩
abbrev cX6_days : ByteArray := prog_1_method_12_code
def yX6_days : MethodName := ⟨RX6, "days", "(I)I"⟩
abbrev cX6_door : ByteArray := prog_1_method_13_code
def yX6_door : MethodName := ⟨RX6, "door", "(II)I"⟩
abbrev cX6_caller : ByteArray := prog_1_method_14_code
def yX6_caller : MethodName := ⟨RX6, "caller", "(II)I"⟩
abbrev cX6_used : ByteArray := prog_1_method_15_code
def yX6_used : MethodName := ⟨RX6, "used", "(I)I"⟩
abbrev cX6_meets : ByteArray := prog_1_method_16_code
def yX6_meets : MethodName := ⟨RX6, "meets", "()I"⟩
abbrev cX6_nothing : ByteArray := prog_1_method_17_code
def yX6_nothing : MethodName := ⟨RX6, "nothing", "()I"⟩
abbrev cX6_ahead : ByteArray := prog_1_method_18_code
def yX6_ahead : MethodName := ⟨RX6, "ahead", "(III)I"⟩
abbrev cX6_soon : ByteArray := prog_1_method_19_code
def yX6_soon : MethodName := ⟨RX6, "soon", "(I)I"⟩
abbrev cX6_least : ByteArray := prog_1_method_20_code
def yX6_least : MethodName := ⟨RX6, "least", "(III)I"⟩
abbrev cX6_whichDoor : ByteArray := prog_1_method_21_code
def yX6_whichDoor : MethodName := ⟨RX6, "whichDoor", "(II)I"⟩
abbrev cX6_who : ByteArray := prog_1_method_22_code
def yX6_who : MethodName := ⟨RX6, "who", "(IIII)I"⟩
abbrev cX6_sleeps : ByteArray := prog_1_method_23_code
def yX6_sleeps : MethodName := ⟨RX6, "sleeps", "(III)J"⟩
abbrev cX6_reaches : ByteArray := prog_1_method_24_code
def yX6_reaches : MethodName := ⟨RX6, "reaches", "(II)I"⟩
abbrev cX6_rather : ByteArray := prog_1_method_25_code
def yX6_rather : MethodName := ⟨RX6, "rather", "(III)I"⟩
abbrev cX6_drawn : ByteArray := prog_1_method_26_code
def yX6_drawn : MethodName := ⟨RX6, "drawn", "(III)I"⟩
abbrev cX6_image : ByteArray := prog_1_method_27_code
def yX6_image : MethodName := ⟨RX6, "image", "(I)I"⟩
abbrev cX6_restore : ByteArray := prog_1_method_28_code
def yX6_restore : MethodName := ⟨RX6, "restore", "(I)I"⟩
abbrev cX6_kind : ByteArray := prog_1_method_29_code
def yX6_kind : MethodName := ⟨RX6, "kind", "(I)I"⟩
abbrev cX6_as : ByteArray := prog_1_method_30_code
def yX6_as : MethodName := ⟨RX6, "as", "(II)I"⟩
abbrev cX6_ask : ByteArray := prog_1_method_31_code
def yX6_ask : MethodName := ⟨RX6, "ask", "(II)I"⟩
abbrev cX6_trace : ByteArray := prog_1_method_32_code
def yX6_trace : MethodName := ⟨RX6, "trace", "(I)I"⟩
abbrev cX6_count : ByteArray := prog_1_method_33_code
def yX6_count : MethodName := ⟨RX6, "count", "(I)I"⟩
abbrev cX6_status : ByteArray := prog_1_method_34_code
def yX6_status : MethodName := ⟨RX6, "status", "()I"⟩
abbrev cX6_found : ByteArray := prog_1_method_35_code
def yX6_found : MethodName := ⟨RX6, "found", "(I)I"⟩
abbrev cX6_foundNone : ByteArray := prog_1_method_36_code
def yX6_foundNone : MethodName := ⟨RX6, "foundNone", "(I)I"⟩
abbrev cX6_rowsThere : ByteArray := prog_1_method_37_code
def yX6_rowsThere : MethodName := ⟨RX6, "rowsThere", "()I"⟩
abbrev cX6_areApartSets : ByteArray := prog_1_method_38_code
def yX6_areApartSets : MethodName := ⟨RX6, "areApartSets", "(II)Z"⟩
abbrev cX6_meetingCases : ByteArray := prog_1_method_39_code
def yX6_meetingCases : MethodName := ⟨RX6, "meetingCases", "(II)I"⟩
abbrev cX6_isRow : ByteArray := prog_1_method_40_code
def yX6_isRow : MethodName := ⟨RX6, "isRow", "(I)Z"⟩
abbrev cX6_isBit : ByteArray := prog_1_method_41_code
def yX6_isBit : MethodName := ⟨RX6, "isBit", "(I)Z"⟩
abbrev cX6_findingAt : ByteArray := prog_1_method_42_code
def yX6_findingAt : MethodName := ⟨RX6, "findingAt", "(LDoorBell$Row;II)I"⟩
abbrev cX6_commonDivisor : ByteArray := prog_1_method_43_code
def yX6_commonDivisor : MethodName := ⟨RX6, "commonDivisor", "(II)I"⟩
abbrev cX6_steadyWays : ByteArray := prog_1_method_44_code
def yX6_steadyWays : MethodName := ⟨RX6, "steadyWays", "([II)I"⟩
abbrev cX6_isOneOf : ByteArray := prog_1_method_45_code
def yX6_isOneOf : MethodName := ⟨RX6, "isOneOf", "(II)Z"⟩
def RX7 : String := "DoorBellModel"
def TX7 : u_T := fun k => match k with
  | 0 => ("DoorBellModel", "lane", "[I", true)
  | 1 => ("DoorBellModel", "size", "[I", true)
  | 2 => ("DoorBellModel", "items", "[I", true)
  | 3 => ("DoorBellModel", "status", "I", false)
  | 4 => ("DoorBellModel", "letters", "I", false)
  | 5 => ("DoorBellModel", "tape", "[I", true)
  | 6 => ("DoorBellModel", "position", "I", false)
  | 7 => ("DoorBellModel", "tokenAt", "I", false)
  | 8 => ("DoorBellModel", "token", "I", false)
  | 9 => ("DoorBellModel", "number", "I", false)
  | 10 => ("DoorBellModel", "faultIs", "I", false)
  | 11 => ("DoorBellModel", "faultNow", "I", false)
  | 12 => ("DoorBellModel", "now", "[I", true)
  | 13 => ("DoorBellModel", "read", "[I", true)
  | 14 => ("DoorBellModel", "tried", "[I", true)
  | 15 => ("DoorBellModel", "image", "[I", true)
  | 16 => ("DoorBellModel", "isKept", "[Z", true)
  | 17 => ("DoorBellModel", "actOf", "[I", true)
  | 18 => ("DoorBellModel", "acts", "I", false)
  | 19 => ("DoorBellModel", "trace", "[I", true)
  | 20 => ("DoorBellModel", "traceMany", "I", false)
  | 21 => ("DoorBellModel", "laid", "[I", true)
  | _ => ("DoorBellModel", "costOf", "[I", true)
def tyX7 : Nat → FieldType := fun k => match k with
  | 0 => .array .int
  | 1 => .array .int
  | 2 => .array .int
  | 3 => .int
  | 4 => .int
  | 5 => .array .int
  | 6 => .int
  | 7 => .int
  | 8 => .int
  | 9 => .int
  | 10 => .int
  | 11 => .int
  | 12 => .array .int
  | 13 => .array .int
  | 14 => .array .int
  | 15 => .array .int
  | 16 => .array .boolean
  | 17 => .array .int
  | 18 => .int
  | 19 => .array .int
  | 20 => .int
  | 21 => .array .int
  | _ => .array .int
abbrev wsX70 : List Cond := u_ws RX7 TX7 23
theorem nmX7 : ∀ a, a < 23 → ∀ b, b < 23 → a ≠ b → (TX7 a).2.1 ≠ (TX7 b).2.1 := by decide +kernel
theorem tyX7_ok : ∀ k, k < 23 → parseFieldDescriptor (TX7 k).2.2.1 = some (tyX7 k) := by decide +kernel
abbrev cX7_init : ByteArray := prog_9_method_1_code
def yX7_init : MethodName := ⟨RX7, "<init>", "()V"⟩
abbrev cX7_in : ByteArray := prog_9_method_2_code
def yX7_in : MethodName := ⟨RX7, "in", "(III)Z"⟩
abbrev cX7_has : ByteArray := prog_9_method_3_code
def yX7_has : MethodName := ⟨RX7, "has", "(II)Z"⟩
abbrev cX7_finds : ByteArray := prog_9_method_4_code
def yX7_finds : MethodName := ⟨RX7, "finds", "(I)I"⟩
abbrev cX7_done : ByteArray := prog_9_method_5_code
def yX7_done : MethodName := ⟨RX7, "done", "(I)I"⟩
abbrev cX7_isRow : ByteArray := prog_9_method_6_code
def yX7_isRow : MethodName := ⟨RX7, "isRow", "(I)Z"⟩
abbrev cX7_row : ByteArray := prog_9_method_7_code
def yX7_row : MethodName := ⟨RX7, "row", "(III)I"⟩
abbrev cX7_set : ByteArray := prog_9_method_8_code
def yX7_set : MethodName := ⟨RX7, "set", "(III)I"⟩
abbrev cX7_isPart : ByteArray := prog_9_method_9_code
def yX7_isPart : MethodName := ⟨RX7, "isPart", "(III)Z"⟩
abbrev cX7_copy : ByteArray := prog_9_method_10_code
def yX7_copy : MethodName := ⟨RX7, "copy", "(IIIII)I"⟩
abbrev cX7_drop : ByteArray := prog_9_method_11_code
def yX7_drop : MethodName := ⟨RX7, "drop", "(I)I"⟩
abbrev cX7_feed : ByteArray := prog_9_method_12_code
def yX7_feed : MethodName := ⟨RX7, "feed", "(I)I"⟩
abbrev cX7_nextToken : ByteArray := prog_9_method_13_code
def yX7_nextToken : MethodName := ⟨RX7, "nextToken", "()V"⟩
abbrev cX7_fails : ByteArray := prog_9_method_14_code
def yX7_fails : MethodName := ⟨RX7, "fails", "(I)Z"⟩
abbrev cX7_isNumber : ByteArray := prog_9_method_15_code
def yX7_isNumber : MethodName := ⟨RX7, "isNumber", "(II)Z"⟩
abbrev cX7_isSign : ByteArray := prog_9_method_16_code
def yX7_isSign : MethodName := ⟨RX7, "isSign", "(I)Z"⟩
abbrev cX7_isLaw : ByteArray := prog_9_method_17_code
def yX7_isLaw : MethodName := ⟨RX7, "isLaw", "()Z"⟩
abbrev cX7_isDoor : ByteArray := prog_9_method_18_code
def yX7_isDoor : MethodName := ⟨RX7, "isDoor", "()Z"⟩
abbrev cX7_sortOf : ByteArray := prog_9_method_19_code
def yX7_sortOf : MethodName := ⟨RX7, "sortOf", "(I)I"⟩
abbrev cX7_isCaller : ByteArray := prog_9_method_20_code
def yX7_isCaller : MethodName := ⟨RX7, "isCaller", "()Z"⟩
abbrev cX7_isRead : ByteArray := prog_9_method_21_code
def yX7_isRead : MethodName := ⟨RX7, "isRead", "()Z"⟩
abbrev cX7_street : ByteArray := prog_9_method_22_code
def yX7_street : MethodName := ⟨RX7, "street", "()I"⟩
abbrev cX7_fault : ByteArray := prog_9_method_23_code
def yX7_fault : MethodName := ⟨RX7, "fault", "()I"⟩
abbrev cX7_lay : ByteArray := prog_9_method_24_code
def yX7_lay : MethodName := ⟨RX7, "lay", "([II[II)V"⟩
abbrev cX7_isStreet : ByteArray := prog_9_method_25_code
def yX7_isStreet : MethodName := ⟨RX7, "isStreet", "()Z"⟩
abbrev cX7_isDoorAt : ByteArray := prog_9_method_26_code
def yX7_isDoorAt : MethodName := ⟨RX7, "isDoorAt", "(I)Z"⟩
abbrev cX7_isOne : ByteArray := prog_9_method_27_code
def yX7_isOne : MethodName := ⟨RX7, "isOne", "(I)Z"⟩
abbrev cX7_isHeard : ByteArray := prog_9_method_28_code
def yX7_isHeard : MethodName := ⟨RX7, "isHeard", "([II)Z"⟩
abbrev cX7_opensAt : ByteArray := prog_9_method_29_code
def yX7_opensAt : MethodName := ⟨RX7, "opensAt", "(IIIZ)I"⟩
abbrev cX7_staysAt : ByteArray := prog_9_method_30_code
def yX7_staysAt : MethodName := ⟨RX7, "staysAt", "(IIIIZ)I"⟩
abbrev cX7_opensOf : ByteArray := prog_9_method_31_code
def yX7_opensOf : MethodName := ⟨RX7, "opensOf", "([II)I"⟩
abbrev cX7_staysOf : ByteArray := prog_9_method_32_code
def yX7_staysOf : MethodName := ⟨RX7, "staysOf", "([II)I"⟩
abbrev cX7_doesMeet : ByteArray := prog_9_method_33_code
def yX7_doesMeet : MethodName := ⟨RX7, "doesMeet", "([II)Z"⟩
abbrev cX7_meetersOf : ByteArray := prog_9_method_34_code
def yX7_meetersOf : MethodName := ⟨RX7, "meetersOf", "([I)I"⟩
abbrev cX7_pass : ByteArray := prog_9_method_35_code
def yX7_pass : MethodName := ⟨RX7, "pass", "([I)I"⟩
abbrev cX7_callersAt : ByteArray := prog_9_method_36_code
def yX7_callersAt : MethodName := ⟨RX7, "callersAt", "(I)I"⟩
abbrev cX7_secondsUsed : ByteArray := prog_9_method_37_code
def yX7_secondsUsed : MethodName := ⟨RX7, "secondsUsed", "()I"⟩
abbrev cX7_soundsUsed : ByteArray := prog_9_method_38_code
def yX7_soundsUsed : MethodName := ⟨RX7, "soundsUsed", "()I"⟩
abbrev cX7_act : ByteArray := prog_9_method_39_code
def yX7_act : MethodName := ⟨RX7, "act", "()V"⟩
abbrev cX7_undo : ByteArray := prog_9_method_40_code
def yX7_undo : MethodName := ⟨RX7, "undo", "()I"⟩
abbrev cX7_stretch : ByteArray := prog_9_method_41_code
def yX7_stretch : MethodName := ⟨RX7, "stretch", "(II)I"⟩
abbrev cX7_sound : ByteArray := prog_9_method_42_code
def yX7_sound : MethodName := ⟨RX7, "sound", "(III)I"⟩
abbrev cX7_days : ByteArray := prog_9_method_43_code
def yX7_days : MethodName := ⟨RX7, "days", "(I)I"⟩
abbrev cX7_door : ByteArray := prog_9_method_44_code
def yX7_door : MethodName := ⟨RX7, "door", "(II)I"⟩
abbrev cX7_caller : ByteArray := prog_9_method_45_code
def yX7_caller : MethodName := ⟨RX7, "caller", "(II)I"⟩
abbrev cX7_used : ByteArray := prog_9_method_46_code
def yX7_used : MethodName := ⟨RX7, "used", "(I)I"⟩
abbrev cX7_meets : ByteArray := prog_9_method_47_code
def yX7_meets : MethodName := ⟨RX7, "meets", "()I"⟩
abbrev cX7_nothing : ByteArray := prog_9_method_48_code
def yX7_nothing : MethodName := ⟨RX7, "nothing", "()I"⟩
abbrev cX7_ahead : ByteArray := prog_9_method_49_code
def yX7_ahead : MethodName := ⟨RX7, "ahead", "(III)I"⟩
abbrev cX7_soon : ByteArray := prog_9_method_50_code
def yX7_soon : MethodName := ⟨RX7, "soon", "(I)I"⟩
abbrev cX7_fits : ByteArray := prog_9_method_51_code
def yX7_fits : MethodName := ⟨RX7, "fits", "(IIIZII)Z"⟩
abbrev cX7_costBy : ByteArray := prog_9_method_52_code
def yX7_costBy : MethodName := ⟨RX7, "costBy", "(IIIIII)I"⟩
abbrev cX7_layCosts : ByteArray := prog_9_method_53_code
def yX7_layCosts : MethodName := ⟨RX7, "layCosts", "(II)V"⟩
abbrev cX7_layLeast : ByteArray := prog_9_method_54_code
def yX7_layLeast : MethodName := ⟨RX7, "layLeast", "(II)I"⟩
abbrev cX7_areSets : ByteArray := prog_9_method_55_code
def yX7_areSets : MethodName := ⟨RX7, "areSets", "(II)Z"⟩
abbrev cX7_least : ByteArray := prog_9_method_56_code
def yX7_least : MethodName := ⟨RX7, "least", "(III)I"⟩
abbrev cX7_whichDoor : ByteArray := prog_9_method_57_code
def yX7_whichDoor : MethodName := ⟨RX7, "whichDoor", "(II)I"⟩
abbrev cX7_who : ByteArray := prog_9_method_58_code
def yX7_who : MethodName := ⟨RX7, "who", "(IIII)I"⟩
abbrev cX7_sleeps : ByteArray := prog_9_method_59_code
def yX7_sleeps : MethodName := ⟨RX7, "sleeps", "(III)J"⟩
abbrev cX7_reaches : ByteArray := prog_9_method_60_code
def yX7_reaches : MethodName := ⟨RX7, "reaches", "(II)I"⟩
abbrev cX7_rather : ByteArray := prog_9_method_61_code
def yX7_rather : MethodName := ⟨RX7, "rather", "(III)I"⟩
abbrev cX7_drawn : ByteArray := prog_9_method_62_code
def yX7_drawn : MethodName := ⟨RX7, "drawn", "(III)I"⟩
abbrev cX7_image : ByteArray := prog_9_method_63_code
def yX7_image : MethodName := ⟨RX7, "image", "(I)I"⟩
abbrev cX7_restore : ByteArray := prog_9_method_64_code
def yX7_restore : MethodName := ⟨RX7, "restore", "(I)I"⟩
abbrev cX7_kindOf : ByteArray := prog_9_method_65_code
def yX7_kindOf : MethodName := ⟨RX7, "kindOf", "(I)I"⟩
abbrev cX7_kind : ByteArray := prog_9_method_66_code
def yX7_kind : MethodName := ⟨RX7, "kind", "(I)I"⟩
abbrev cX7_parentOf : ByteArray := prog_9_method_67_code
def yX7_parentOf : MethodName := ⟨RX7, "parentOf", "(I)I"⟩
abbrev cX7_as : ByteArray := prog_9_method_68_code
def yX7_as : MethodName := ⟨RX7, "as", "(II)I"⟩
abbrev cX7_begins : ByteArray := prog_9_method_69_code
def yX7_begins : MethodName := ⟨RX7, "begins", "(I)V"⟩
abbrev cX7_markGuest : ByteArray := prog_9_method_70_code
def yX7_markGuest : MethodName := ⟨RX7, "markGuest", "(I)I"⟩
abbrev cX7_markPlain : ByteArray := prog_9_method_71_code
def yX7_markPlain : MethodName := ⟨RX7, "markPlain", "(I)I"⟩
abbrev cX7_sizePost : ByteArray := prog_9_method_72_code
def yX7_sizePost : MethodName := ⟨RX7, "sizePost", "(I)I"⟩
abbrev cX7_sizeOf : ByteArray := prog_9_method_73_code
def yX7_sizeOf : MethodName := ⟨RX7, "sizeOf", "(I)I"⟩
abbrev cX7_markOf : ByteArray := prog_9_method_74_code
def yX7_markOf : MethodName := ⟨RX7, "markOf", "(I)I"⟩
abbrev cX7_ask : ByteArray := prog_9_method_75_code
def yX7_ask : MethodName := ⟨RX7, "ask", "(II)I"⟩
abbrev cX7_trace : ByteArray := prog_9_method_76_code
def yX7_trace : MethodName := ⟨RX7, "trace", "(I)I"⟩
abbrev cX7_count : ByteArray := prog_9_method_77_code
def yX7_count : MethodName := ⟨RX7, "count", "(I)I"⟩
abbrev cX7_status : ByteArray := prog_9_method_78_code
def yX7_status : MethodName := ⟨RX7, "status", "()I"⟩
def RJ6 : String := "java/lang/Integer"
def TJ6 : u_T := fun k => match k with
  | _ => ("", "", "", false)
def tyJ6 : Nat → FieldType := fun k => match k with
  | _ => .int
theorem nmJ6 : ∀ a, a < 0 → ∀ b, b < 0 → a ≠ b → (TJ6 a).2.1 ≠ (TJ6 b).2.1 := by decide +kernel
theorem tyJ6_ok : ∀ k, k < 0 → parseFieldDescriptor (TJ6 k).2.2.1 = some (tyJ6 k) := by decide +kernel
abbrev cJ6_bitCount_0f7a4 : ByteArray := prog_10_method_49_code
def yJ6_bitCount_0f7a4 : MethodName := ⟨RJ6, "bitCount", "(I)I"⟩
def RJ9 : String := "java/lang/Math"
def TJ9 : u_T := fun k => match k with
  | _ => ("", "", "", false)
def tyJ9 : Nat → FieldType := fun k => match k with
  | _ => .int
theorem nmJ9 : ∀ a, a < 0 → ∀ b, b < 0 → a ≠ b → (TJ9 a).2.1 ≠ (TJ9 b).2.1 := by decide +kernel
theorem tyJ9_ok : ∀ k, k < 0 → parseFieldDescriptor (TJ9 k).2.2.1 = some (tyJ9 k) := by decide +kernel
abbrev cJ9_max_7cf53 : ByteArray := prog_11_method_65_code
def yJ9_max_7cf53 : MethodName := ⟨RJ9, "max", "(II)I"⟩
abbrev cJ9_min_7cf53 : ByteArray := prog_11_method_69_code
def yJ9_min_7cf53 : MethodName := ⟨RJ9, "min", "(II)I"⟩
def RJ10 : String := "java/lang/System"
def TJ10 : u_T := fun k => match k with
  | _ => ("", "", "", false)
def tyJ10 : Nat → FieldType := fun k => match k with
  | _ => .int
theorem nmJ10 : ∀ a, a < 0 → ∀ b, b < 0 → a ≠ b → (TJ10 a).2.1 ≠ (TJ10 b).2.1 := by decide +kernel
theorem tyJ10_ok : ∀ k, k < 0 → parseFieldDescriptor (TJ10 k).2.2.1 = some (tyJ10 k) := by decide +kernel
def RL : String := "DoorBellLaw"
abbrev cL_law : ByteArray := code
def yL_law : MethodName := ⟨RL, "law", "([I)Z"⟩
abbrev vwCl : List vw_C := [(RX0, TX0, 5), (RX1, TX1, 2), (RX2, TX2, 4), (RX3, TX3, 5), (RX4, TX4, 3), (RX5, TX5, 13), (RX6, TX6, 10), (RX7, TX7, 23)]
