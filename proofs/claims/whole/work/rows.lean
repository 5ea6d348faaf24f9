section
-- ===== PART A: goes FIRST, ahead of the names: the tables' words, and 'selects' of the private methods out of them =====
/-- a private method of a class that the tables say can be made, by its rows of tables_1 -/
def lw_okq (q : MethodName × Nat) : Prop := (q.1.cls ≠ "java/lang/invoke/MethodHandle" ∧ q.1.cls ≠ "java/lang/invoke/VarHandle") ∧ Cond.instantiable q.1.cls q.2 ∈ tables_1 ∧ Cond.privateMethod q.1 ∈ tables_1 ∧ Cond.instanceMethod q.1 ∈ tables_1
theorem lw_p0 : lw_okq (⟨"DoorBell", "found", "(I)I"⟩, 10) := ⟨⟨by decide +kernel, by decide +kernel⟩, List.mem_of_getElem? (i := 13) (by decide +kernel), List.mem_of_getElem? (i := 238) (by decide +kernel), List.mem_of_getElem? (i := 239) (by decide +kernel)⟩
theorem lw_p1 : lw_okq (⟨"DoorBell", "foundNone", "(I)I"⟩, 10) := ⟨⟨by decide +kernel, by decide +kernel⟩, List.mem_of_getElem? (i := 13) (by decide +kernel), List.mem_of_getElem? (i := 247) (by decide +kernel), List.mem_of_getElem? (i := 248) (by decide +kernel)⟩
theorem lw_p2 : lw_okq (⟨"DoorBell$Reader", "readLaw", "(LDoorBell$Street;)Z"⟩, 5) := ⟨⟨by decide +kernel, by decide +kernel⟩, List.mem_of_getElem? (i := 97) (by decide +kernel), List.mem_of_getElem? (i := 298) (by decide +kernel), List.mem_of_getElem? (i := 299) (by decide +kernel)⟩
theorem lw_p3 : lw_okq (⟨"DoorBell$Reader", "readSign", "(I)Z"⟩, 5) := ⟨⟨by decide +kernel, by decide +kernel⟩, List.mem_of_getElem? (i := 97) (by decide +kernel), List.mem_of_getElem? (i := 302) (by decide +kernel), List.mem_of_getElem? (i := 303) (by decide +kernel)⟩
theorem lw_p4 : lw_okq (⟨"DoorBell$Reader", "nextIs", "(I)Z"⟩, 5) := ⟨⟨by decide +kernel, by decide +kernel⟩, List.mem_of_getElem? (i := 97) (by decide +kernel), List.mem_of_getElem? (i := 306) (by decide +kernel), List.mem_of_getElem? (i := 307) (by decide +kernel)⟩
theorem lw_p5 : lw_okq (⟨"DoorBell$Reader", "fail", "(I)Z"⟩, 5) := ⟨⟨by decide +kernel, by decide +kernel⟩, List.mem_of_getElem? (i := 97) (by decide +kernel), List.mem_of_getElem? (i := 310) (by decide +kernel), List.mem_of_getElem? (i := 311) (by decide +kernel)⟩
theorem lw_p6 : lw_okq (⟨"DoorBell$Reader", "readNumber", "(II)I"⟩, 5) := ⟨⟨by decide +kernel, by decide +kernel⟩, List.mem_of_getElem? (i := 97) (by decide +kernel), List.mem_of_getElem? (i := 314) (by decide +kernel), List.mem_of_getElem? (i := 315) (by decide +kernel)⟩
theorem lw_p7 : lw_okq (⟨"DoorBell$Reader", "readDoor", "(LDoorBell$Street;)Z"⟩, 5) := ⟨⟨by decide +kernel, by decide +kernel⟩, List.mem_of_getElem? (i := 97) (by decide +kernel), List.mem_of_getElem? (i := 325) (by decide +kernel), List.mem_of_getElem? (i := 326) (by decide +kernel)⟩
theorem lw_p8 : lw_okq (⟨"DoorBell$Reader", "readCaller", "(LDoorBell$Street;)Z"⟩, 5) := ⟨⟨by decide +kernel, by decide +kernel⟩, List.mem_of_getElem? (i := 97) (by decide +kernel), List.mem_of_getElem? (i := 341) (by decide +kernel), List.mem_of_getElem? (i := 342) (by decide +kernel)⟩
theorem lw_p9 : lw_okq (⟨"DoorBell", "areApartSets", "(II)Z"⟩, 10) := ⟨⟨by decide +kernel, by decide +kernel⟩, List.mem_of_getElem? (i := 13) (by decide +kernel), List.mem_of_getElem? (i := 520) (by decide +kernel), List.mem_of_getElem? (i := 521) (by decide +kernel)⟩
theorem lw_p10 : lw_okq (⟨"DoorBell$Laying", "totalOf", "(I)I"⟩, 4) := ⟨⟨by decide +kernel, by decide +kernel⟩, List.mem_of_getElem? (i := 145) (by decide +kernel), List.mem_of_getElem? (i := 548) (by decide +kernel), List.mem_of_getElem? (i := 549) (by decide +kernel)⟩
theorem lw_p11 : lw_okq (⟨"DoorBell$Laying", "isAhead", "(II)Z"⟩, 4) := ⟨⟨by decide +kernel, by decide +kernel⟩, List.mem_of_getElem? (i := 145) (by decide +kernel), List.mem_of_getElem? (i := 556) (by decide +kernel), List.mem_of_getElem? (i := 557) (by decide +kernel)⟩
theorem lw_p12 : lw_okq (⟨"DoorBell", "meetingCases", "(II)I"⟩, 10) := ⟨⟨by decide +kernel, by decide +kernel⟩, List.mem_of_getElem? (i := 13) (by decide +kernel), List.mem_of_getElem? (i := 584) (by decide +kernel), List.mem_of_getElem? (i := 585) (by decide +kernel)⟩
theorem lw_p13 : lw_okq (⟨"DoorBell$Asker", "give", "(ILDoorBell$Street;II)I"⟩, 2) := ⟨⟨by decide +kernel, by decide +kernel⟩, List.mem_of_getElem? (i := 166) (by decide +kernel), List.mem_of_getElem? (i := 663) (by decide +kernel), List.mem_of_getElem? (i := 664) (by decide +kernel)⟩
theorem lw_p14 : lw_okq (⟨"DoorBell$Asker", "leave", "(I)V"⟩, 2) := ⟨⟨by decide +kernel, by decide +kernel⟩, List.mem_of_getElem? (i := 166) (by decide +kernel), List.mem_of_getElem? (i := 667) (by decide +kernel), List.mem_of_getElem? (i := 668) (by decide +kernel)⟩
theorem lw_p15 : lw_okq (⟨"DoorBell", "rowsThere", "()I"⟩, 10) := ⟨⟨by decide +kernel, by decide +kernel⟩, List.mem_of_getElem? (i := 13) (by decide +kernel), List.mem_of_getElem? (i := 679) (by decide +kernel), List.mem_of_getElem? (i := 680) (by decide +kernel)⟩
def lw_privs_1 : List (MethodName × Nat) := [(⟨"DoorBell", "found", "(I)I"⟩, 10), (⟨"DoorBell", "foundNone", "(I)I"⟩, 10), (⟨"DoorBell$Reader", "readLaw", "(LDoorBell$Street;)Z"⟩, 5), (⟨"DoorBell$Reader", "readSign", "(I)Z"⟩, 5), (⟨"DoorBell$Reader", "nextIs", "(I)Z"⟩, 5), (⟨"DoorBell$Reader", "fail", "(I)Z"⟩, 5), (⟨"DoorBell$Reader", "readNumber", "(II)I"⟩, 5), (⟨"DoorBell$Reader", "readDoor", "(LDoorBell$Street;)Z"⟩, 5), (⟨"DoorBell$Reader", "readCaller", "(LDoorBell$Street;)Z"⟩, 5), (⟨"DoorBell", "areApartSets", "(II)Z"⟩, 10), (⟨"DoorBell$Laying", "totalOf", "(I)I"⟩, 4), (⟨"DoorBell$Laying", "isAhead", "(II)Z"⟩, 4), (⟨"DoorBell", "meetingCases", "(II)I"⟩, 10), (⟨"DoorBell$Asker", "give", "(ILDoorBell$Street;II)I"⟩, 2), (⟨"DoorBell$Asker", "leave", "(I)V"⟩, 2), (⟨"DoorBell", "rowsThere", "()I"⟩, 10)]
theorem lw_r1 : ∀ q ∈ lw_privs_1, lw_okq q := List.forall_mem_cons.mpr ⟨lw_p0, List.forall_mem_cons.mpr ⟨lw_p1, List.forall_mem_cons.mpr ⟨lw_p2, List.forall_mem_cons.mpr ⟨lw_p3, List.forall_mem_cons.mpr ⟨lw_p4, List.forall_mem_cons.mpr ⟨lw_p5, List.forall_mem_cons.mpr ⟨lw_p6, List.forall_mem_cons.mpr ⟨lw_p7, List.forall_mem_cons.mpr ⟨lw_p8, List.forall_mem_cons.mpr ⟨lw_p9, List.forall_mem_cons.mpr ⟨lw_p10, List.forall_mem_cons.mpr ⟨lw_p11, List.forall_mem_cons.mpr ⟨lw_p12, List.forall_mem_cons.mpr ⟨lw_p13, List.forall_mem_cons.mpr ⟨lw_p14, List.forall_mem_cons.mpr ⟨lw_p15, fun _ h => absurd h List.not_mem_nil⟩⟩⟩⟩⟩⟩⟩⟩⟩⟩⟩⟩⟩⟩⟩⟩
theorem lw_p16 : lw_okq (⟨"DoorBellModel", "finds", "(I)I"⟩, 23) := ⟨⟨by decide +kernel, by decide +kernel⟩, List.mem_of_getElem? (i := 691) (by decide +kernel), List.mem_of_getElem? (i := 779) (by decide +kernel), List.mem_of_getElem? (i := 780) (by decide +kernel)⟩
theorem lw_p17 : lw_okq (⟨"DoorBellModel", "done", "(I)I"⟩, 23) := ⟨⟨by decide +kernel, by decide +kernel⟩, List.mem_of_getElem? (i := 691) (by decide +kernel), List.mem_of_getElem? (i := 784) (by decide +kernel), List.mem_of_getElem? (i := 785) (by decide +kernel)⟩
theorem lw_p18 : lw_okq (⟨"DoorBellModel", "isRead", "()Z"⟩, 23) := ⟨⟨by decide +kernel, by decide +kernel⟩, List.mem_of_getElem? (i := 691) (by decide +kernel), List.mem_of_getElem? (i := 812) (by decide +kernel), List.mem_of_getElem? (i := 813) (by decide +kernel)⟩
theorem lw_p19 : lw_okq (⟨"DoorBellModel", "isLaw", "()Z"⟩, 23) := ⟨⟨by decide +kernel, by decide +kernel⟩, List.mem_of_getElem? (i := 691) (by decide +kernel), List.mem_of_getElem? (i := 816) (by decide +kernel), List.mem_of_getElem? (i := 817) (by decide +kernel)⟩
theorem lw_p20 : lw_okq (⟨"DoorBellModel", "isSign", "(I)Z"⟩, 23) := ⟨⟨by decide +kernel, by decide +kernel⟩, List.mem_of_getElem? (i := 691) (by decide +kernel), List.mem_of_getElem? (i := 820) (by decide +kernel), List.mem_of_getElem? (i := 821) (by decide +kernel)⟩
theorem lw_p21 : lw_okq (⟨"DoorBellModel", "nextToken", "()V"⟩, 23) := ⟨⟨by decide +kernel, by decide +kernel⟩, List.mem_of_getElem? (i := 691) (by decide +kernel), List.mem_of_getElem? (i := 824) (by decide +kernel), List.mem_of_getElem? (i := 825) (by decide +kernel)⟩
theorem lw_p22 : lw_okq (⟨"DoorBellModel", "fails", "(I)Z"⟩, 23) := ⟨⟨by decide +kernel, by decide +kernel⟩, List.mem_of_getElem? (i := 691) (by decide +kernel), List.mem_of_getElem? (i := 828) (by decide +kernel), List.mem_of_getElem? (i := 829) (by decide +kernel)⟩
theorem lw_p23 : lw_okq (⟨"DoorBellModel", "isNumber", "(II)Z"⟩, 23) := ⟨⟨by decide +kernel, by decide +kernel⟩, List.mem_of_getElem? (i := 691) (by decide +kernel), List.mem_of_getElem? (i := 832) (by decide +kernel), List.mem_of_getElem? (i := 833) (by decide +kernel)⟩
theorem lw_p24 : lw_okq (⟨"DoorBellModel", "isCaller", "()Z"⟩, 23) := ⟨⟨by decide +kernel, by decide +kernel⟩, List.mem_of_getElem? (i := 691) (by decide +kernel), List.mem_of_getElem? (i := 839) (by decide +kernel), List.mem_of_getElem? (i := 840) (by decide +kernel)⟩
theorem lw_p25 : lw_okq (⟨"DoorBellModel", "isDoor", "()Z"⟩, 23) := ⟨⟨by decide +kernel, by decide +kernel⟩, List.mem_of_getElem? (i := 691) (by decide +kernel), List.mem_of_getElem? (i := 843) (by decide +kernel), List.mem_of_getElem? (i := 844) (by decide +kernel)⟩
theorem lw_p26 : lw_okq (⟨"DoorBellModel", "isDoorAt", "(I)Z"⟩, 23) := ⟨⟨by decide +kernel, by decide +kernel⟩, List.mem_of_getElem? (i := 691) (by decide +kernel), List.mem_of_getElem? (i := 864) (by decide +kernel), List.mem_of_getElem? (i := 865) (by decide +kernel)⟩
theorem lw_p27 : lw_okq (⟨"DoorBellModel", "secondsUsed", "()I"⟩, 23) := ⟨⟨by decide +kernel, by decide +kernel⟩, List.mem_of_getElem? (i := 691) (by decide +kernel), List.mem_of_getElem? (i := 868) (by decide +kernel), List.mem_of_getElem? (i := 869) (by decide +kernel)⟩
theorem lw_p28 : lw_okq (⟨"DoorBellModel", "act", "()V"⟩, 23) := ⟨⟨by decide +kernel, by decide +kernel⟩, List.mem_of_getElem? (i := 691) (by decide +kernel), List.mem_of_getElem? (i := 872) (by decide +kernel), List.mem_of_getElem? (i := 873) (by decide +kernel)⟩
theorem lw_p29 : lw_okq (⟨"DoorBellModel", "soundsUsed", "()I"⟩, 23) := ⟨⟨by decide +kernel, by decide +kernel⟩, List.mem_of_getElem? (i := 691) (by decide +kernel), List.mem_of_getElem? (i := 880) (by decide +kernel), List.mem_of_getElem? (i := 881) (by decide +kernel)⟩
theorem lw_p30 : lw_okq (⟨"DoorBellModel", "isStreet", "()Z"⟩, 23) := ⟨⟨by decide +kernel, by decide +kernel⟩, List.mem_of_getElem? (i := 691) (by decide +kernel), List.mem_of_getElem? (i := 888) (by decide +kernel), List.mem_of_getElem? (i := 889) (by decide +kernel)⟩
theorem lw_p31 : lw_okq (⟨"DoorBellModel", "callersAt", "(I)I"⟩, 23) := ⟨⟨by decide +kernel, by decide +kernel⟩, List.mem_of_getElem? (i := 691) (by decide +kernel), List.mem_of_getElem? (i := 923) (by decide +kernel), List.mem_of_getElem? (i := 924) (by decide +kernel)⟩
def lw_privs_2 : List (MethodName × Nat) := [(⟨"DoorBellModel", "finds", "(I)I"⟩, 23), (⟨"DoorBellModel", "done", "(I)I"⟩, 23), (⟨"DoorBellModel", "isRead", "()Z"⟩, 23), (⟨"DoorBellModel", "isLaw", "()Z"⟩, 23), (⟨"DoorBellModel", "isSign", "(I)Z"⟩, 23), (⟨"DoorBellModel", "nextToken", "()V"⟩, 23), (⟨"DoorBellModel", "fails", "(I)Z"⟩, 23), (⟨"DoorBellModel", "isNumber", "(II)Z"⟩, 23), (⟨"DoorBellModel", "isCaller", "()Z"⟩, 23), (⟨"DoorBellModel", "isDoor", "()Z"⟩, 23), (⟨"DoorBellModel", "isDoorAt", "(I)Z"⟩, 23), (⟨"DoorBellModel", "secondsUsed", "()I"⟩, 23), (⟨"DoorBellModel", "act", "()V"⟩, 23), (⟨"DoorBellModel", "soundsUsed", "()I"⟩, 23), (⟨"DoorBellModel", "isStreet", "()Z"⟩, 23), (⟨"DoorBellModel", "callersAt", "(I)I"⟩, 23)]
theorem lw_r2 : ∀ q ∈ lw_privs_2, lw_okq q := List.forall_mem_cons.mpr ⟨lw_p16, List.forall_mem_cons.mpr ⟨lw_p17, List.forall_mem_cons.mpr ⟨lw_p18, List.forall_mem_cons.mpr ⟨lw_p19, List.forall_mem_cons.mpr ⟨lw_p20, List.forall_mem_cons.mpr ⟨lw_p21, List.forall_mem_cons.mpr ⟨lw_p22, List.forall_mem_cons.mpr ⟨lw_p23, List.forall_mem_cons.mpr ⟨lw_p24, List.forall_mem_cons.mpr ⟨lw_p25, List.forall_mem_cons.mpr ⟨lw_p26, List.forall_mem_cons.mpr ⟨lw_p27, List.forall_mem_cons.mpr ⟨lw_p28, List.forall_mem_cons.mpr ⟨lw_p29, List.forall_mem_cons.mpr ⟨lw_p30, List.forall_mem_cons.mpr ⟨lw_p31, fun _ h => absurd h List.not_mem_nil⟩⟩⟩⟩⟩⟩⟩⟩⟩⟩⟩⟩⟩⟩⟩⟩
theorem lw_p32 : lw_okq (⟨"DoorBellModel", "isOne", "(I)Z"⟩, 23) := ⟨⟨by decide +kernel, by decide +kernel⟩, List.mem_of_getElem? (i := 691) (by decide +kernel), List.mem_of_getElem? (i := 931) (by decide +kernel), List.mem_of_getElem? (i := 932) (by decide +kernel)⟩
theorem lw_p33 : lw_okq (⟨"DoorBellModel", "areSets", "(II)Z"⟩, 23) := ⟨⟨by decide +kernel, by decide +kernel⟩, List.mem_of_getElem? (i := 691) (by decide +kernel), List.mem_of_getElem? (i := 960) (by decide +kernel), List.mem_of_getElem? (i := 961) (by decide +kernel)⟩
theorem lw_p34 : lw_okq (⟨"DoorBellModel", "layLeast", "(II)I"⟩, 23) := ⟨⟨by decide +kernel, by decide +kernel⟩, List.mem_of_getElem? (i := 691) (by decide +kernel), List.mem_of_getElem? (i := 964) (by decide +kernel), List.mem_of_getElem? (i := 965) (by decide +kernel)⟩
theorem lw_p35 : lw_okq (⟨"DoorBellModel", "layCosts", "(II)V"⟩, 23) := ⟨⟨by decide +kernel, by decide +kernel⟩, List.mem_of_getElem? (i := 691) (by decide +kernel), List.mem_of_getElem? (i := 968) (by decide +kernel), List.mem_of_getElem? (i := 969) (by decide +kernel)⟩
theorem lw_p36 : lw_okq (⟨"DoorBellModel", "costBy", "(IIIIII)I"⟩, 23) := ⟨⟨by decide +kernel, by decide +kernel⟩, List.mem_of_getElem? (i := 691) (by decide +kernel), List.mem_of_getElem? (i := 972) (by decide +kernel), List.mem_of_getElem? (i := 973) (by decide +kernel)⟩
theorem lw_p37 : lw_okq (⟨"DoorBellModel", "fits", "(IIIZII)Z"⟩, 23) := ⟨⟨by decide +kernel, by decide +kernel⟩, List.mem_of_getElem? (i := 691) (by decide +kernel), List.mem_of_getElem? (i := 976) (by decide +kernel), List.mem_of_getElem? (i := 977) (by decide +kernel)⟩
theorem lw_p38 : lw_okq (⟨"DoorBellModel", "kindOf", "(I)I"⟩, 23) := ⟨⟨by decide +kernel, by decide +kernel⟩, List.mem_of_getElem? (i := 691) (by decide +kernel), List.mem_of_getElem? (i := 1024) (by decide +kernel), List.mem_of_getElem? (i := 1025) (by decide +kernel)⟩
theorem lw_p39 : lw_okq (⟨"DoorBellModel", "sizeOf", "(I)I"⟩, 23) := ⟨⟨by decide +kernel, by decide +kernel⟩, List.mem_of_getElem? (i := 691) (by decide +kernel), List.mem_of_getElem? (i := 1039) (by decide +kernel), List.mem_of_getElem? (i := 1040) (by decide +kernel)⟩
theorem lw_p40 : lw_okq (⟨"DoorBellModel", "begins", "(I)V"⟩, 23) := ⟨⟨by decide +kernel, by decide +kernel⟩, List.mem_of_getElem? (i := 691) (by decide +kernel), List.mem_of_getElem? (i := 1043) (by decide +kernel), List.mem_of_getElem? (i := 1044) (by decide +kernel)⟩
theorem lw_p41 : lw_okq (⟨"DoorBellModel", "sizePost", "(I)I"⟩, 23) := ⟨⟨by decide +kernel, by decide +kernel⟩, List.mem_of_getElem? (i := 691) (by decide +kernel), List.mem_of_getElem? (i := 1047) (by decide +kernel), List.mem_of_getElem? (i := 1048) (by decide +kernel)⟩
theorem lw_p42 : lw_okq (⟨"DoorBellModel", "markPlain", "(I)I"⟩, 23) := ⟨⟨by decide +kernel, by decide +kernel⟩, List.mem_of_getElem? (i := 691) (by decide +kernel), List.mem_of_getElem? (i := 1051) (by decide +kernel), List.mem_of_getElem? (i := 1052) (by decide +kernel)⟩
theorem lw_p43 : lw_okq (⟨"DoorBellModel", "markGuest", "(I)I"⟩, 23) := ⟨⟨by decide +kernel, by decide +kernel⟩, List.mem_of_getElem? (i := 691) (by decide +kernel), List.mem_of_getElem? (i := 1055) (by decide +kernel), List.mem_of_getElem? (i := 1056) (by decide +kernel)⟩
theorem lw_p44 : lw_okq (⟨"DoorBellModel", "markOf", "(I)I"⟩, 23) := ⟨⟨by decide +kernel, by decide +kernel⟩, List.mem_of_getElem? (i := 691) (by decide +kernel), List.mem_of_getElem? (i := 1059) (by decide +kernel), List.mem_of_getElem? (i := 1060) (by decide +kernel)⟩
def lw_privs_3 : List (MethodName × Nat) := [(⟨"DoorBellModel", "isOne", "(I)Z"⟩, 23), (⟨"DoorBellModel", "areSets", "(II)Z"⟩, 23), (⟨"DoorBellModel", "layLeast", "(II)I"⟩, 23), (⟨"DoorBellModel", "layCosts", "(II)V"⟩, 23), (⟨"DoorBellModel", "costBy", "(IIIIII)I"⟩, 23), (⟨"DoorBellModel", "fits", "(IIIZII)Z"⟩, 23), (⟨"DoorBellModel", "kindOf", "(I)I"⟩, 23), (⟨"DoorBellModel", "sizeOf", "(I)I"⟩, 23), (⟨"DoorBellModel", "begins", "(I)V"⟩, 23), (⟨"DoorBellModel", "sizePost", "(I)I"⟩, 23), (⟨"DoorBellModel", "markPlain", "(I)I"⟩, 23), (⟨"DoorBellModel", "markGuest", "(I)I"⟩, 23), (⟨"DoorBellModel", "markOf", "(I)I"⟩, 23)]
theorem lw_r3 : ∀ q ∈ lw_privs_3, lw_okq q := List.forall_mem_cons.mpr ⟨lw_p32, List.forall_mem_cons.mpr ⟨lw_p33, List.forall_mem_cons.mpr ⟨lw_p34, List.forall_mem_cons.mpr ⟨lw_p35, List.forall_mem_cons.mpr ⟨lw_p36, List.forall_mem_cons.mpr ⟨lw_p37, List.forall_mem_cons.mpr ⟨lw_p38, List.forall_mem_cons.mpr ⟨lw_p39, List.forall_mem_cons.mpr ⟨lw_p40, List.forall_mem_cons.mpr ⟨lw_p41, List.forall_mem_cons.mpr ⟨lw_p42, List.forall_mem_cons.mpr ⟨lw_p43, List.forall_mem_cons.mpr ⟨lw_p44, fun _ h => absurd h List.not_mem_nil⟩⟩⟩⟩⟩⟩⟩⟩⟩⟩⟩⟩⟩
def lw_privs : List (MethodName × Nat) := lw_privs_1 ++ (lw_privs_2 ++ (lw_privs_3))
def lw_tbl : List Cond := k2_sels lw_privs ++ tables_1
theorem lw_privs_ok : ∀ q ∈ lw_privs, lw_okq q := by
  show ∀ q ∈ lw_privs_1 ++ (lw_privs_2 ++ (lw_privs_3)), lw_okq q
  exact List.forall_mem_append.mpr ⟨lw_r1, List.forall_mem_append.mpr ⟨lw_r2, lw_r3⟩⟩

def RX0 : String := "DoorBell$Acts"
def TX0 : u_T := fun k => match k with
  | 0 => ("DoorBell$Acts", "whats", "[I", true)
  | 1 => ("DoorBell$Acts", "doors", "[I", true)
  | 2 => ("DoorBell$Acts", "befores", "[I", true)
  | 3 => ("DoorBell$Acts", "next", "I", false)
  | _ => ("DoorBell$Acts", "kept", "I", false)
def tyX0 : Nat → FieldType := fun k => match k with
  | 0 => .array .int
  | 1 => .array .int
  | 2 => .array .int
  | 3 => .int
  | _ => .int
abbrev wsX00 : List Cond := u_ws RX0 TX0 5
theorem nmX0 : ∀ a, a < 5 → ∀ b, b < 5 → a ≠ b → (TX0 a).2.1 ≠ (TX0 b).2.1 := by decide +kernel
theorem tyX0_ok : ∀ k, k < 5 → parseFieldDescriptor (TX0 k).2.2.1 = some (tyX0 k) := by decide +kernel
abbrev cX0_init : ByteArray := prog_2_method_1_code
def yX0_init : MethodName := ⟨RX0, "<init>", "()V"⟩
abbrev cX0_forgetAll : ByteArray := prog_2_method_2_code
def yX0_forgetAll : MethodName := ⟨RX0, "forgetAll", "()V"⟩
abbrev cX0_keep : ByteArray := prog_2_method_3_code
def yX0_keep : MethodName := ⟨RX0, "keep", "(III)V"⟩
abbrev cX0_takeBackLatest : ByteArray := prog_2_method_4_code
def yX0_takeBackLatest : MethodName := ⟨RX0, "takeBackLatest", "(LDoorBell$Street;)V"⟩
def RX1 : String := "DoorBell$Asker"
def TX1 : u_T := fun k => match k with
  | 0 => ("DoorBell$Asker", "numbers", "[I", true)
  | _ => ("DoorBell$Asker", "left", "I", false)
def tyX1 : Nat → FieldType := fun k => match k with
  | 0 => .array .int
  | _ => .int
abbrev wsX10 : List Cond := u_ws RX1 TX1 2
theorem nmX1 : ∀ a, a < 2 → ∀ b, b < 2 → a ≠ b → (TX1 a).2.1 ≠ (TX1 b).2.1 := by decide +kernel
theorem tyX1_ok : ∀ k, k < 2 → parseFieldDescriptor (TX1 k).2.2.1 = some (tyX1 k) := by decide +kernel
abbrev cX1_init : ByteArray := prog_3_method_1_code
def yX1_init : MethodName := ⟨RX1, "<init>", "()V"⟩
abbrev cX1_answer : ByteArray := prog_3_method_2_code
def yX1_answer : MethodName := ⟨RX1, "answer", "(LDoorBell$Street;II)I"⟩
abbrev cX1_give : ByteArray := prog_3_method_3_code
def yX1_give : MethodName := ⟨RX1, "give", "(ILDoorBell$Street;II)I"⟩
abbrev cX1_leave : ByteArray := prog_3_method_4_code
def yX1_leave : MethodName := ⟨RX1, "leave", "(I)V"⟩
def RX2 : String := "DoorBell$Laying"
def TX2 : u_T := fun k => match k with
  | 0 => ("DoorBell$Laying", "cheapest", "[I", true)
  | 1 => ("DoorBell$Laying", "doors", "I", false)
  | 2 => ("DoorBell$Laying", "chosen", "I", false)
  | _ => ("DoorBell$Laying", "total", "I", false)
def tyX2 : Nat → FieldType := fun k => match k with
  | 0 => .array .int
  | 1 => .int
  | 2 => .int
  | _ => .int
abbrev wsX20 : List Cond := u_ws RX2 TX2 4
theorem nmX2 : ∀ a, a < 4 → ∀ b, b < 4 → a ≠ b → (TX2 a).2.1 ≠ (TX2 b).2.1 := by decide +kernel
theorem tyX2_ok : ∀ k, k < 4 → parseFieldDescriptor (TX2 k).2.2.1 = some (tyX2 k) := by decide +kernel
abbrev cX2_init : ByteArray := prog_4_method_1_code
def yX2_init : MethodName := ⟨RX2, "<init>", "()V"⟩
abbrev cX2_weigh : ByteArray := prog_4_method_2_code
def yX2_weigh : MethodName := ⟨RX2, "weigh", "(LDoorBell$Street;II)V"⟩
abbrev cX2_choose : ByteArray := prog_4_method_3_code
def yX2_choose : MethodName := ⟨RX2, "choose", "()Z"⟩
abbrev cX2_firstThatCanNot : ByteArray := prog_4_method_4_code
def yX2_firstThatCanNot : MethodName := ⟨RX2, "firstThatCanNot", "()I"⟩
abbrev cX2_codeAt : ByteArray := prog_4_method_5_code
def yX2_codeAt : MethodName := ⟨RX2, "codeAt", "(II)I"⟩
abbrev cX2_totalOf : ByteArray := prog_4_method_6_code
def yX2_totalOf : MethodName := ⟨RX2, "totalOf", "(I)I"⟩
abbrev cX2_isAhead : ByteArray := prog_4_method_7_code
def yX2_isAhead : MethodName := ⟨RX2, "isAhead", "(II)Z"⟩
abbrev cX2_costOf : ByteArray := prog_4_method_8_code
def yX2_costOf : MethodName := ⟨RX2, "costOf", "(I)I"⟩
abbrev cX2_cheapestAt : ByteArray := prog_4_method_9_code
def yX2_cheapestAt : MethodName := ⟨RX2, "cheapestAt", "(LDoorBell$Street;IIII)I"⟩
abbrev cX2_meetersAt : ByteArray := prog_4_method_10_code
def yX2_meetersAt : MethodName := ⟨RX2, "meetersAt", "(LDoorBell$Street;IIII)I"⟩
def RX3 : String := "DoorBell$Reader"
def TX3 : u_T := fun k => match k with
  | 0 => ("DoorBell$Reader", "tape", "[I", true)
  | 1 => ("DoorBell$Reader", "length", "I", false)
  | 2 => ("DoorBell$Reader", "at", "I", false)
  | 3 => ("DoorBell$Reader", "faultPlace", "I", false)
  | _ => ("DoorBell$Reader", "faultNumber", "I", false)
def tyX3 : Nat → FieldType := fun k => match k with
  | 0 => .array .int
  | 1 => .int
  | 2 => .int
  | 3 => .int
  | _ => .int
abbrev wsX30 : List Cond := u_ws RX3 TX3 5
theorem nmX3 : ∀ a, a < 5 → ∀ b, b < 5 → a ≠ b → (TX3 a).2.1 ≠ (TX3 b).2.1 := by decide +kernel
theorem tyX3_ok : ∀ k, k < 5 → parseFieldDescriptor (TX3 k).2.2.1 = some (tyX3 k) := by decide +kernel
abbrev cX3_init : ByteArray := prog_5_method_1_code
def yX3_init : MethodName := ⟨RX3, "<init>", "()V"⟩
abbrev cX3_take : ByteArray := prog_5_method_2_code
def yX3_take : MethodName := ⟨RX3, "take", "(I)Z"⟩
abbrev cX3_readInto : ByteArray := prog_5_method_3_code
def yX3_readInto : MethodName := ⟨RX3, "readInto", "(LDoorBell$Street;)Z"⟩
abbrev cX3_readLaw : ByteArray := prog_5_method_4_code
def yX3_readLaw : MethodName := ⟨RX3, "readLaw", "(LDoorBell$Street;)Z"⟩
abbrev cX3_readDoor : ByteArray := prog_5_method_5_code
def yX3_readDoor : MethodName := ⟨RX3, "readDoor", "(LDoorBell$Street;)Z"⟩
abbrev cX3_readCaller : ByteArray := prog_5_method_6_code
def yX3_readCaller : MethodName := ⟨RX3, "readCaller", "(LDoorBell$Street;)Z"⟩
abbrev cX3_readSign : ByteArray := prog_5_method_7_code
def yX3_readSign : MethodName := ⟨RX3, "readSign", "(I)Z"⟩
abbrev cX3_readNumber : ByteArray := prog_5_method_8_code
def yX3_readNumber : MethodName := ⟨RX3, "readNumber", "(II)I"⟩
abbrev cX3_nextIs : ByteArray := prog_5_method_9_code
def yX3_nextIs : MethodName := ⟨RX3, "nextIs", "(I)Z"⟩
abbrev cX3_fail : ByteArray := prog_5_method_10_code
def yX3_fail : MethodName := ⟨RX3, "fail", "(I)Z"⟩
abbrev cX3_isFigure : ByteArray := prog_5_method_11_code
def yX3_isFigure : MethodName := ⟨RX3, "isFigure", "(I)Z"⟩
abbrev cX3_kindOfSort : ByteArray := prog_5_method_12_code
def yX3_kindOfSort : MethodName := ⟨RX3, "kindOfSort", "(I)I"⟩
def RX4 : String := "DoorBell$Row"
def TX4 : u_T := fun k => match k with
  | 0 => ("DoorBell$Row", "items", "[I", true)
  | 1 => ("DoorBell$Row", "lane", "I", false)
  | _ => ("DoorBell$Row", "size", "I", false)
def tyX4 : Nat → FieldType := fun k => match k with
  | 0 => .array .int
  | 1 => .int
  | _ => .int
abbrev wsX40 : List Cond := u_ws RX4 TX4 3
theorem nmX4 : ∀ a, a < 3 → ∀ b, b < 3 → a ≠ b → (TX4 a).2.1 ≠ (TX4 b).2.1 := by decide +kernel
theorem tyX4_ok : ∀ k, k < 3 → parseFieldDescriptor (TX4 k).2.2.1 = some (tyX4 k) := by decide +kernel
abbrev cX4_init : ByteArray := prog_6_method_1_code
def yX4_init : MethodName := ⟨RX4, "<init>", "()V"⟩
abbrev cX4_isMissing : ByteArray := prog_6_method_2_code
def yX4_isMissing : MethodName := ⟨RX4, "isMissing", "()Z"⟩
abbrev cX4_begin : ByteArray := prog_6_method_3_code
def yX4_begin : MethodName := ⟨RX4, "begin", "(II)V"⟩
abbrev cX4_spans : ByteArray := prog_6_method_4_code
def yX4_spans : MethodName := ⟨RX4, "spans", "(II)Z"⟩
abbrev cX4_narrowed : ByteArray := prog_6_method_5_code
def yX4_narrowed : MethodName := ⟨RX4, "narrowed", "(I)I"⟩
abbrev cX4_tellsMeetingsFrom : ByteArray := prog_6_method_6_code
def yX4_tellsMeetingsFrom : MethodName := ⟨RX4, "tellsMeetingsFrom", "(III)Z"⟩
def RX5 : String := "DoorBell$Street"
def TX5 : u_T := fun k => match k with
  | 0 => ("DoorBell$Street", "openings", "[I", true)
  | 1 => ("DoorBell$Street", "stretches", "[I", true)
  | 2 => ("DoorBell$Street", "coughs", "[I", true)
  | 3 => ("DoorBell$Street", "dogs", "[I", true)
  | 4 => ("DoorBell$Street", "kinds", "[I", true)
  | 5 => ("DoorBell$Street", "places", "[I", true)
  | 6 => ("DoorBell$Street", "patiences", "[I", true)
  | 7 => ("DoorBell$Street", "mets", "[I", true)
  | 8 => ("DoorBell$Street", "doors", "I", false)
  | 9 => ("DoorBell$Street", "callers", "I", false)
  | 10 => ("DoorBell$Street", "seconds", "I", false)
  | 11 => ("DoorBell$Street", "sounds", "I", false)
  | _ => ("DoorBell$Street", "day", "I", false)
def tyX5 : Nat → FieldType := fun k => match k with
  | 0 => .array .int
  | 1 => .array .int
  | 2 => .array .int
  | 3 => .array .int
  | 4 => .array .int
  | 5 => .array .int
  | 6 => .array .int
  | 7 => .array .int
  | 8 => .int
  | 9 => .int
  | 10 => .int
  | 11 => .int
  | _ => .int
abbrev wsX50 : List Cond := u_ws RX5 TX5 13
theorem nmX5 : ∀ a, a < 13 → ∀ b, b < 13 → a ≠ b → (TX5 a).2.1 ≠ (TX5 b).2.1 := by decide +kernel
theorem tyX5_ok : ∀ k, k < 13 → parseFieldDescriptor (TX5 k).2.2.1 = some (tyX5 k) := by decide +kernel
abbrev cX5_init : ByteArray := prog_7_method_1_code
def yX5_init : MethodName := ⟨RX5, "<init>", "()V"⟩
abbrev cX5_isTold : ByteArray := prog_7_method_2_code
def yX5_isTold : MethodName := ⟨RX5, "isTold", "()Z"⟩
abbrev cX5_hasDoor : ByteArray := prog_7_method_3_code
def yX5_hasDoor : MethodName := ⟨RX5, "hasDoor", "(I)Z"⟩
abbrev cX5_hasCaller : ByteArray := prog_7_method_4_code
def yX5_hasCaller : MethodName := ⟨RX5, "hasCaller", "(I)Z"⟩
abbrev cX5_allDoors : ByteArray := prog_7_method_5_code
def yX5_allDoors : MethodName := ⟨RX5, "allDoors", "()I"⟩
abbrev cX5_allCallers : ByteArray := prog_7_method_6_code
def yX5_allCallers : MethodName := ⟨RX5, "allCallers", "()I"⟩
abbrev cX5_begin : ByteArray := prog_7_method_7_code
def yX5_begin : MethodName := ⟨RX5, "begin", "(II)V"⟩
abbrev cX5_addDoor : ByteArray := prog_7_method_8_code
def yX5_addDoor : MethodName := ⟨RX5, "addDoor", "(I)V"⟩
abbrev cX5_addCaller : ByteArray := prog_7_method_9_code
def yX5_addCaller : MethodName := ⟨RX5, "addCaller", "(III)V"⟩
abbrev cX5_clearDoor : ByteArray := prog_7_method_10_code
def yX5_clearDoor : MethodName := ⟨RX5, "clearDoor", "(I)V"⟩
abbrev cX5_takeOver : ByteArray := prog_7_method_11_code
def yX5_takeOver : MethodName := ⟨RX5, "takeOver", "(LDoorBell$Street;)V"⟩
abbrev cX5_usedSeconds : ByteArray := prog_7_method_12_code
def yX5_usedSeconds : MethodName := ⟨RX5, "usedSeconds", "()I"⟩
abbrev cX5_usedSounds : ByteArray := prog_7_method_13_code
def yX5_usedSounds : MethodName := ⟨RX5, "usedSounds", "()I"⟩
abbrev cX5_metsAdded : ByteArray := prog_7_method_14_code
def yX5_metsAdded : MethodName := ⟨RX5, "metsAdded", "()I"⟩
abbrev cX5_placesAdded : ByteArray := prog_7_method_15_code
def yX5_placesAdded : MethodName := ⟨RX5, "placesAdded", "()I"⟩
abbrev cX5_heardAt : ByteArray := prog_7_method_16_code
def yX5_heardAt : MethodName := ⟨RX5, "heardAt", "(I)I"⟩
abbrev cX5_opensBehind : ByteArray := prog_7_method_17_code
def yX5_opensBehind : MethodName := ⟨RX5, "opensBehind", "(I)I"⟩
abbrev cX5_staysHowLong : ByteArray := prog_7_method_18_code
def yX5_staysHowLong : MethodName := ⟨RX5, "staysHowLong", "(I)I"⟩
abbrev cX5_staysAs : ByteArray := prog_7_method_19_code
def yX5_staysAs : MethodName := ⟨RX5, "staysAs", "(III)I"⟩
abbrev cX5_isMeeting : ByteArray := prog_7_method_20_code
def yX5_isMeeting : MethodName := ⟨RX5, "isMeeting", "(I)Z"⟩
abbrev cX5_meetsAs : ByteArray := prog_7_method_21_code
def yX5_meetsAs : MethodName := ⟨RX5, "meetsAs", "(III)Z"⟩
abbrev cX5_callersAt : ByteArray := prog_7_method_22_code
def yX5_callersAt : MethodName := ⟨RX5, "callersAt", "(I)I"⟩
abbrev cX5_meetingNow : ByteArray := prog_7_method_23_code
def yX5_meetingNow : MethodName := ⟨RX5, "meetingNow", "()I"⟩
abbrev cX5_firstOnNothing : ByteArray := prog_7_method_24_code
def yX5_firstOnNothing : MethodName := ⟨RX5, "firstOnNothing", "()I"⟩
abbrev cX5_firstMeeting : ByteArray := prog_7_method_25_code
def yX5_firstMeeting : MethodName := ⟨RX5, "firstMeeting", "(II)I"⟩
abbrev cX5_placeAfter : ByteArray := prog_7_method_26_code
def yX5_placeAfter : MethodName := ⟨RX5, "placeAfter", "(II)I"⟩
abbrev cX5_passDay : ByteArray := prog_7_method_27_code
def yX5_passDay : MethodName := ⟨RX5, "passDay", "()I"⟩
abbrev cX5_takeBackDay : ByteArray := prog_7_method_28_code
def yX5_takeBackDay : MethodName := ⟨RX5, "takeBackDay", "(I)V"⟩
abbrev cX5_layByDraw : ByteArray := prog_7_method_29_code
def yX5_layByDraw : MethodName := ⟨RX5, "layByDraw", "(J)V"⟩
abbrev cX5_sum : ByteArray := prog_7_method_30_code
def yX5_sum : MethodName := ⟨RX5, "sum", "([II)I"⟩
abbrev cX5_opening : ByteArray := prog_7_method_31_code
def yX5_opening : MethodName := ⟨RX5, "opening", "(IIII)I"⟩
abbrev cX5_staying : ByteArray := prog_7_method_32_code
def yX5_staying : MethodName := ⟨RX5, "staying", "(IIIII)I"⟩
def RX6 : String := "DoorBell"
def TX6 : u_T := fun k => match k with
  | 0 => ("DoorBell", "rows", "[LDoorBell$Row;", true)
  | 1 => ("DoorBell", "images", "[LDoorBell$Street;", true)
  | 2 => ("DoorBell", "here", "LDoorBell$Street;", true)
  | 3 => ("DoorBell", "trial", "LDoorBell$Street;", true)
  | 4 => ("DoorBell", "reader", "LDoorBell$Reader;", true)
  | 5 => ("DoorBell", "acts", "LDoorBell$Acts;", true)
  | 6 => ("DoorBell", "laying", "LDoorBell$Laying;", true)
  | 7 => ("DoorBell", "asker", "LDoorBell$Asker;", true)
  | 8 => ("DoorBell", "latestFault", "I", false)
  | _ => ("DoorBell", "latestFinding", "I", false)
def tyX6 : Nat → FieldType := fun k => match k with
  | 0 => .array (.object "DoorBell$Row")
  | 1 => .array (.object "DoorBell$Street")
  | 2 => .object "DoorBell$Street"
  | 3 => .object "DoorBell$Street"
  | 4 => .object "DoorBell$Reader"
  | 5 => .object "DoorBell$Acts"
  | 6 => .object "DoorBell$Laying"
  | 7 => .object "DoorBell$Asker"
  | 8 => .int
  | _ => .int
abbrev wsX60 : List Cond := u_ws RX6 TX6 10
theorem nmX6 : ∀ a, a < 10 → ∀ b, b < 10 → a ≠ b → (TX6 a).2.1 ≠ (TX6 b).2.1 := by decide +kernel
theorem tyX6_ok : ∀ k, k < 10 → parseFieldDescriptor (TX6 k).2.2.1 = some (tyX6 k) := by decide +kernel
abbrev cX6_init : ByteArray := prog_1_method_1_code
def yX6_init : MethodName := ⟨RX6, "<init>", "()V"⟩
abbrev cX6_row : ByteArray := prog_1_method_2_code
def yX6_row : MethodName := ⟨RX6, "row", "(III)I"⟩
abbrev cX6_set : ByteArray := prog_1_method_3_code
def yX6_set : MethodName := ⟨RX6, "set", "(III)I"⟩
abbrev cX6_copy : ByteArray := prog_1_method_4_code
def yX6_copy : MethodName := ⟨RX6, "copy", "(IIIII)I"⟩
abbrev cX6_drop : ByteArray := prog_1_method_5_code
def yX6_drop : MethodName := ⟨RX6, "drop", "(I)I"⟩
abbrev cX6_feed : ByteArray := prog_1_method_6_code
def yX6_feed : MethodName := ⟨RX6, "feed", "(I)I"⟩
abbrev cX6_street : ByteArray := prog_1_method_7_code
def yX6_street : MethodName := ⟨RX6, "street", "()I"⟩
abbrev cX6_fault : ByteArray := prog_1_method_8_code
def yX6_fault : MethodName := ⟨RX6, "fault", "()I"⟩
abbrev cX6_undo : ByteArray := prog_1_method_9_code
def yX6_undo : MethodName := ⟨RX6, "undo", "()I"⟩
abbrev cX6_stretch : ByteArray := prog_1_method_10_code
def yX6_stretch : MethodName := ⟨RX6, "stretch", "(II)I"⟩
abbrev cX6_sound : ByteArray := prog_1_method_11_code
def yX6_sound : MethodName := ⟨RX6, "sound", "(III)I"⟩
abbrev cX6_days : ByteArray := prog_1_method_12_code
def yX6_days : MethodName := ⟨RX6, "days", "(I)I"⟩
abbrev cX6_door : ByteArray := prog_1_method_13_code
def yX6_door : MethodName := ⟨RX6, "door", "(II)I"⟩
abbrev cX6_caller : ByteArray := prog_1_method_14_code
def yX6_caller : MethodName := ⟨RX6, "caller", "(II)I"⟩
abbrev cX6_used : ByteArray := prog_1_method_15_code
def yX6_used : MethodName := ⟨RX6, "used", "(I)I"⟩
abbrev cX6_meets : ByteArray := prog_1_method_16_code
def yX6_meets : MethodName := ⟨RX6, "meets", "()I"⟩
abbrev cX6_nothing : ByteArray := prog_1_method_17_code
def yX6_nothing : MethodName := ⟨RX6, "nothing", "()I"⟩
abbrev cX6_ahead : ByteArray := prog_1_method_18_code
def yX6_ahead : MethodName := ⟨RX6, "ahead", "(III)I"⟩
abbrev cX6_soon : ByteArray := prog_1_method_19_code
def yX6_soon : MethodName := ⟨RX6, "soon", "(I)I"⟩
abbrev cX6_least : ByteArray := prog_1_method_20_code
def yX6_least : MethodName := ⟨RX6, "least", "(III)I"⟩
abbrev cX6_whichDoor : ByteArray := prog_1_method_21_code
def yX6_whichDoor : MethodName := ⟨RX6, "whichDoor", "(II)I"⟩
abbrev cX6_who : ByteArray := prog_1_method_22_code
def yX6_who : MethodName := ⟨RX6, "who", "(IIII)I"⟩
abbrev cX6_sleeps : ByteArray := prog_1_method_23_code
def yX6_sleeps : MethodName := ⟨RX6, "sleeps", "(III)J"⟩
abbrev cX6_reaches : ByteArray := prog_1_method_24_code
def yX6_reaches : MethodName := ⟨RX6, "reaches", "(II)I"⟩
abbrev cX6_rather : ByteArray := prog_1_method_25_code
def yX6_rather : MethodName := ⟨RX6, "rather", "(III)I"⟩
abbrev cX6_drawn : ByteArray := prog_1_method_26_code
def yX6_drawn : MethodName := ⟨RX6, "drawn", "(III)I"⟩
abbrev cX6_image : ByteArray := prog_1_method_27_code
def yX6_image : MethodName := ⟨RX6, "image", "(I)I"⟩
abbrev cX6_restore : ByteArray := prog_1_method_28_code
def yX6_restore : MethodName := ⟨RX6, "restore", "(I)I"⟩
abbrev cX6_kind : ByteArray := prog_1_method_29_code
def yX6_kind : MethodName := ⟨RX6, "kind", "(I)I"⟩
abbrev cX6_as : ByteArray := prog_1_method_30_code
def yX6_as : MethodName := ⟨RX6, "as", "(II)I"⟩
abbrev cX6_ask : ByteArray := prog_1_method_31_code
def yX6_ask : MethodName := ⟨RX6, "ask", "(II)I"⟩
abbrev cX6_trace : ByteArray := prog_1_method_32_code
def yX6_trace : MethodName := ⟨RX6, "trace", "(I)I"⟩
abbrev cX6_count : ByteArray := prog_1_method_33_code
def yX6_count : MethodName := ⟨RX6, "count", "(I)I"⟩
abbrev cX6_status : ByteArray := prog_1_method_34_code
def yX6_status : MethodName := ⟨RX6, "status", "()I"⟩
abbrev cX6_found : ByteArray := prog_1_method_35_code
def yX6_found : MethodName := ⟨RX6, "found", "(I)I"⟩
abbrev cX6_foundNone : ByteArray := prog_1_method_36_code
def yX6_foundNone : MethodName := ⟨RX6, "foundNone", "(I)I"⟩
abbrev cX6_rowsThere : ByteArray := prog_1_method_37_code
def yX6_rowsThere : MethodName := ⟨RX6, "rowsThere", "()I"⟩
abbrev cX6_areApartSets : ByteArray := prog_1_method_38_code
def yX6_areApartSets : MethodName := ⟨RX6, "areApartSets", "(II)Z"⟩
abbrev cX6_meetingCases : ByteArray := prog_1_method_39_code
def yX6_meetingCases : MethodName := ⟨RX6, "meetingCases", "(II)I"⟩
abbrev cX6_isRow : ByteArray := prog_1_method_40_code
def yX6_isRow : MethodName := ⟨RX6, "isRow", "(I)Z"⟩
abbrev cX6_isBit : ByteArray := prog_1_method_41_code
def yX6_isBit : MethodName := ⟨RX6, "isBit", "(I)Z"⟩
abbrev cX6_findingAt : ByteArray := prog_1_method_42_code
def yX6_findingAt : MethodName := ⟨RX6, "findingAt", "(LDoorBell$Row;II)I"⟩
abbrev cX6_commonDivisor : ByteArray := prog_1_method_43_code
def yX6_commonDivisor : MethodName := ⟨RX6, "commonDivisor", "(II)I"⟩
abbrev cX6_steadyWays : ByteArray := prog_1_method_44_code
def yX6_steadyWays : MethodName := ⟨RX6, "steadyWays", "([II)I"⟩
abbrev cX6_isOneOf : ByteArray := prog_1_method_45_code
def yX6_isOneOf : MethodName := ⟨RX6, "isOneOf", "(II)Z"⟩
def RX7 : String := "DoorBellModel"
def TX7 : u_T := fun k => match k with
  | 0 => ("DoorBellModel", "lane", "[I", true)
  | 1 => ("DoorBellModel", "size", "[I", true)
  | 2 => ("DoorBellModel", "items", "[I", true)
  | 3 => ("DoorBellModel", "status", "I", false)
  | 4 => ("DoorBellModel", "letters", "I", false)
  | 5 => ("DoorBellModel", "tape", "[I", true)
  | 6 => ("DoorBellModel", "position", "I", false)
  | 7 => ("DoorBellModel", "tokenAt", "I", false)
  | 8 => ("DoorBellModel", "token", "I", false)
  | 9 => ("DoorBellModel", "number", "I", false)
  | 10 => ("DoorBellModel", "faultIs", "I", false)
  | 11 => ("DoorBellModel", "faultNow", "I", false)
  | 12 => ("DoorBellModel", "now", "[I", true)
  | 13 => ("DoorBellModel", "read", "[I", true)
  | 14 => ("DoorBellModel", "tried", "[I", true)
  | 15 => ("DoorBellModel", "image", "[I", true)
  | 16 => ("DoorBellModel", "isKept", "[Z", true)
  | 17 => ("DoorBellModel", "actOf", "[I", true)
  | 18 => ("DoorBellModel", "acts", "I", false)
  | 19 => ("DoorBellModel", "trace", "[I", true)
  | 20 => ("DoorBellModel", "traceMany", "I", false)
  | 21 => ("DoorBellModel", "laid", "[I", true)
  | _ => ("DoorBellModel", "costOf", "[I", true)
def tyX7 : Nat → FieldType := fun k => match k with
  | 0 => .array .int
  | 1 => .array .int
  | 2 => .array .int
  | 3 => .int
  | 4 => .int
  | 5 => .array .int
  | 6 => .int
  | 7 => .int
  | 8 => .int
  | 9 => .int
  | 10 => .int
  | 11 => .int
  | 12 => .array .int
  | 13 => .array .int
  | 14 => .array .int
  | 15 => .array .int
  | 16 => .array .boolean
  | 17 => .array .int
  | 18 => .int
  | 19 => .array .int
  | 20 => .int
  | 21 => .array .int
  | _ => .array .int
abbrev wsX70 : List Cond := u_ws RX7 TX7 23
theorem nmX7 : ∀ a, a < 23 → ∀ b, b < 23 → a ≠ b → (TX7 a).2.1 ≠ (TX7 b).2.1 := by decide +kernel
theorem tyX7_ok : ∀ k, k < 23 → parseFieldDescriptor (TX7 k).2.2.1 = some (tyX7 k) := by decide +kernel
abbrev cX7_init : ByteArray := prog_9_method_1_code
def yX7_init : MethodName := ⟨RX7, "<init>", "()V"⟩
abbrev cX7_in : ByteArray := prog_9_method_2_code
def yX7_in : MethodName := ⟨RX7, "in", "(III)Z"⟩
abbrev cX7_has : ByteArray := prog_9_method_3_code
def yX7_has : MethodName := ⟨RX7, "has", "(II)Z"⟩
abbrev cX7_finds : ByteArray := prog_9_method_4_code
def yX7_finds : MethodName := ⟨RX7, "finds", "(I)I"⟩
abbrev cX7_done : ByteArray := prog_9_method_5_code
def yX7_done : MethodName := ⟨RX7, "done", "(I)I"⟩
abbrev cX7_isRow : ByteArray := prog_9_method_6_code
def yX7_isRow : MethodName := ⟨RX7, "isRow", "(I)Z"⟩
abbrev cX7_row : ByteArray := prog_9_method_7_code
def yX7_row : MethodName := ⟨RX7, "row", "(III)I"⟩
abbrev cX7_set : ByteArray := prog_9_method_8_code
def yX7_set : MethodName := ⟨RX7, "set", "(III)I"⟩
abbrev cX7_isPart : ByteArray := prog_9_method_9_code
def yX7_isPart : MethodName := ⟨RX7, "isPart", "(III)Z"⟩
abbrev cX7_copy : ByteArray := prog_9_method_10_code
def yX7_copy : MethodName := ⟨RX7, "copy", "(IIIII)I"⟩
abbrev cX7_drop : ByteArray := prog_9_method_11_code
def yX7_drop : MethodName := ⟨RX7, "drop", "(I)I"⟩
abbrev cX7_feed : ByteArray := prog_9_method_12_code
def yX7_feed : MethodName := ⟨RX7, "feed", "(I)I"⟩
abbrev cX7_nextToken : ByteArray := prog_9_method_13_code
def yX7_nextToken : MethodName := ⟨RX7, "nextToken", "()V"⟩
abbrev cX7_fails : ByteArray := prog_9_method_14_code
def yX7_fails : MethodName := ⟨RX7, "fails", "(I)Z"⟩
abbrev cX7_isNumber : ByteArray := prog_9_method_15_code
def yX7_isNumber : MethodName := ⟨RX7, "isNumber", "(II)Z"⟩
abbrev cX7_isSign : ByteArray := prog_9_method_16_code
def yX7_isSign : MethodName := ⟨RX7, "isSign", "(I)Z"⟩
abbrev cX7_isLaw : ByteArray := prog_9_method_17_code
def yX7_isLaw : MethodName := ⟨RX7, "isLaw", "()Z"⟩
abbrev cX7_isDoor : ByteArray := prog_9_method_18_code
def yX7_isDoor : MethodName := ⟨RX7, "isDoor", "()Z"⟩
abbrev cX7_sortOf : ByteArray := prog_9_method_19_code
def yX7_sortOf : MethodName := ⟨RX7, "sortOf", "(I)I"⟩
abbrev cX7_isCaller : ByteArray := prog_9_method_20_code
def yX7_isCaller : MethodName := ⟨RX7, "isCaller", "()Z"⟩
abbrev cX7_isRead : ByteArray := prog_9_method_21_code
def yX7_isRead : MethodName := ⟨RX7, "isRead", "()Z"⟩
abbrev cX7_street : ByteArray := prog_9_method_22_code
def yX7_street : MethodName := ⟨RX7, "street", "()I"⟩
abbrev cX7_fault : ByteArray := prog_9_method_23_code
def yX7_fault : MethodName := ⟨RX7, "fault", "()I"⟩
abbrev cX7_lay : ByteArray := prog_9_method_24_code
def yX7_lay : MethodName := ⟨RX7, "lay", "([II[II)V"⟩
abbrev cX7_isStreet : ByteArray := prog_9_method_25_code
def yX7_isStreet : MethodName := ⟨RX7, "isStreet", "()Z"⟩
abbrev cX7_isDoorAt : ByteArray := prog_9_method_26_code
def yX7_isDoorAt : MethodName := ⟨RX7, "isDoorAt", "(I)Z"⟩
abbrev cX7_isOne : ByteArray := prog_9_method_27_code
def yX7_isOne : MethodName := ⟨RX7, "isOne", "(I)Z"⟩
abbrev cX7_isHeard : ByteArray := prog_9_method_28_code
def yX7_isHeard : MethodName := ⟨RX7, "isHeard", "([II)Z"⟩
abbrev cX7_opensAt : ByteArray := prog_9_method_29_code
def yX7_opensAt : MethodName := ⟨RX7, "opensAt", "(IIIZ)I"⟩
abbrev cX7_staysAt : ByteArray := prog_9_method_30_code
def yX7_staysAt : MethodName := ⟨RX7, "staysAt", "(IIIIZ)I"⟩
abbrev cX7_opensOf : ByteArray := prog_9_method_31_code
def yX7_opensOf : MethodName := ⟨RX7, "opensOf", "([II)I"⟩
abbrev cX7_staysOf : ByteArray := prog_9_method_32_code
def yX7_staysOf : MethodName := ⟨RX7, "staysOf", "([II)I"⟩
abbrev cX7_doesMeet : ByteArray := prog_9_method_33_code
def yX7_doesMeet : MethodName := ⟨RX7, "doesMeet", "([II)Z"⟩
abbrev cX7_meetersOf : ByteArray := prog_9_method_34_code
def yX7_meetersOf : MethodName := ⟨RX7, "meetersOf", "([I)I"⟩
abbrev cX7_pass : ByteArray := prog_9_method_35_code
def yX7_pass : MethodName := ⟨RX7, "pass", "([I)I"⟩
abbrev cX7_callersAt : ByteArray := prog_9_method_36_code
def yX7_callersAt : MethodName := ⟨RX7, "callersAt", "(I)I"⟩
abbrev cX7_secondsUsed : ByteArray := prog_9_method_37_code
def yX7_secondsUsed : MethodName := ⟨RX7, "secondsUsed", "()I"⟩
abbrev cX7_soundsUsed : ByteArray := prog_9_method_38_code
def yX7_soundsUsed : MethodName := ⟨RX7, "soundsUsed", "()I"⟩
abbrev cX7_act : ByteArray := prog_9_method_39_code
def yX7_act : MethodName := ⟨RX7, "act", "()V"⟩
abbrev cX7_undo : ByteArray := prog_9_method_40_code
def yX7_undo : MethodName := ⟨RX7, "undo", "()I"⟩
abbrev cX7_stretch : ByteArray := prog_9_method_41_code
def yX7_stretch : MethodName := ⟨RX7, "stretch", "(II)I"⟩
abbrev cX7_sound : ByteArray := prog_9_method_42_code
def yX7_sound : MethodName := ⟨RX7, "sound", "(III)I"⟩
abbrev cX7_days : ByteArray := prog_9_method_43_code
def yX7_days : MethodName := ⟨RX7, "days", "(I)I"⟩
abbrev cX7_door : ByteArray := prog_9_method_44_code
def yX7_door : MethodName := ⟨RX7, "door", "(II)I"⟩
abbrev cX7_caller : ByteArray := prog_9_method_45_code
def yX7_caller : MethodName := ⟨RX7, "caller", "(II)I"⟩
abbrev cX7_used : ByteArray := prog_9_method_46_code
def yX7_used : MethodName := ⟨RX7, "used", "(I)I"⟩
abbrev cX7_meets : ByteArray := prog_9_method_47_code
def yX7_meets : MethodName := ⟨RX7, "meets", "()I"⟩
abbrev cX7_nothing : ByteArray := prog_9_method_48_code
def yX7_nothing : MethodName := ⟨RX7, "nothing", "()I"⟩
abbrev cX7_ahead : ByteArray := prog_9_method_49_code
def yX7_ahead : MethodName := ⟨RX7, "ahead", "(III)I"⟩
abbrev cX7_soon : ByteArray := prog_9_method_50_code
def yX7_soon : MethodName := ⟨RX7, "soon", "(I)I"⟩
abbrev cX7_fits : ByteArray := prog_9_method_51_code
def yX7_fits : MethodName := ⟨RX7, "fits", "(IIIZII)Z"⟩
abbrev cX7_costBy : ByteArray := prog_9_method_52_code
def yX7_costBy : MethodName := ⟨RX7, "costBy", "(IIIIII)I"⟩
abbrev cX7_layCosts : ByteArray := prog_9_method_53_code
def yX7_layCosts : MethodName := ⟨RX7, "layCosts", "(II)V"⟩
abbrev cX7_layLeast : ByteArray := prog_9_method_54_code
def yX7_layLeast : MethodName := ⟨RX7, "layLeast", "(II)I"⟩
abbrev cX7_areSets : ByteArray := prog_9_method_55_code
def yX7_areSets : MethodName := ⟨RX7, "areSets", "(II)Z"⟩
abbrev cX7_least : ByteArray := prog_9_method_56_code
def yX7_least : MethodName := ⟨RX7, "least", "(III)I"⟩
abbrev cX7_whichDoor : ByteArray := prog_9_method_57_code
def yX7_whichDoor : MethodName := ⟨RX7, "whichDoor", "(II)I"⟩
abbrev cX7_who : ByteArray := prog_9_method_58_code
def yX7_who : MethodName := ⟨RX7, "who", "(IIII)I"⟩
abbrev cX7_sleeps : ByteArray := prog_9_method_59_code
def yX7_sleeps : MethodName := ⟨RX7, "sleeps", "(III)J"⟩
abbrev cX7_reaches : ByteArray := prog_9_method_60_code
def yX7_reaches : MethodName := ⟨RX7, "reaches", "(II)I"⟩
abbrev cX7_rather : ByteArray := prog_9_method_61_code
def yX7_rather : MethodName := ⟨RX7, "rather", "(III)I"⟩
abbrev cX7_drawn : ByteArray := prog_9_method_62_code
def yX7_drawn : MethodName := ⟨RX7, "drawn", "(III)I"⟩
abbrev cX7_image : ByteArray := prog_9_method_63_code
def yX7_image : MethodName := ⟨RX7, "image", "(I)I"⟩
abbrev cX7_restore : ByteArray := prog_9_method_64_code
def yX7_restore : MethodName := ⟨RX7, "restore", "(I)I"⟩
abbrev cX7_kindOf : ByteArray := prog_9_method_65_code
def yX7_kindOf : MethodName := ⟨RX7, "kindOf", "(I)I"⟩
abbrev cX7_kind : ByteArray := prog_9_method_66_code
def yX7_kind : MethodName := ⟨RX7, "kind", "(I)I"⟩
abbrev cX7_parentOf : ByteArray := prog_9_method_67_code
def yX7_parentOf : MethodName := ⟨RX7, "parentOf", "(I)I"⟩
abbrev cX7_as : ByteArray := prog_9_method_68_code
def yX7_as : MethodName := ⟨RX7, "as", "(II)I"⟩
abbrev cX7_begins : ByteArray := prog_9_method_69_code
def yX7_begins : MethodName := ⟨RX7, "begins", "(I)V"⟩
abbrev cX7_markGuest : ByteArray := prog_9_method_70_code
def yX7_markGuest : MethodName := ⟨RX7, "markGuest", "(I)I"⟩
abbrev cX7_markPlain : ByteArray := prog_9_method_71_code
def yX7_markPlain : MethodName := ⟨RX7, "markPlain", "(I)I"⟩
abbrev cX7_sizePost : ByteArray := prog_9_method_72_code
def yX7_sizePost : MethodName := ⟨RX7, "sizePost", "(I)I"⟩
abbrev cX7_sizeOf : ByteArray := prog_9_method_73_code
def yX7_sizeOf : MethodName := ⟨RX7, "sizeOf", "(I)I"⟩
abbrev cX7_markOf : ByteArray := prog_9_method_74_code
def yX7_markOf : MethodName := ⟨RX7, "markOf", "(I)I"⟩
abbrev cX7_ask : ByteArray := prog_9_method_75_code
def yX7_ask : MethodName := ⟨RX7, "ask", "(II)I"⟩
abbrev cX7_trace : ByteArray := prog_9_method_76_code
def yX7_trace : MethodName := ⟨RX7, "trace", "(I)I"⟩
abbrev cX7_count : ByteArray := prog_9_method_77_code
def yX7_count : MethodName := ⟨RX7, "count", "(I)I"⟩
abbrev cX7_status : ByteArray := prog_9_method_78_code
def yX7_status : MethodName := ⟨RX7, "status", "()I"⟩
def RJ6 : String := "java/lang/Integer"
def TJ6 : u_T := fun k => match k with
  | _ => ("", "", "", false)
def tyJ6 : Nat → FieldType := fun k => match k with
  | _ => .int
theorem nmJ6 : ∀ a, a < 0 → ∀ b, b < 0 → a ≠ b → (TJ6 a).2.1 ≠ (TJ6 b).2.1 := by decide +kernel
theorem tyJ6_ok : ∀ k, k < 0 → parseFieldDescriptor (TJ6 k).2.2.1 = some (tyJ6 k) := by decide +kernel
abbrev cJ6_bitCount_0f7a4 : ByteArray := prog_10_method_49_code
def yJ6_bitCount_0f7a4 : MethodName := ⟨RJ6, "bitCount", "(I)I"⟩
def RJ9 : String := "java/lang/Math"
def TJ9 : u_T := fun k => match k with
  | _ => ("", "", "", false)
def tyJ9 : Nat → FieldType := fun k => match k with
  | _ => .int
theorem nmJ9 : ∀ a, a < 0 → ∀ b, b < 0 → a ≠ b → (TJ9 a).2.1 ≠ (TJ9 b).2.1 := by decide +kernel
theorem tyJ9_ok : ∀ k, k < 0 → parseFieldDescriptor (TJ9 k).2.2.1 = some (tyJ9 k) := by decide +kernel
abbrev cJ9_max_7cf53 : ByteArray := prog_11_method_65_code
def yJ9_max_7cf53 : MethodName := ⟨RJ9, "max", "(II)I"⟩
abbrev cJ9_min_7cf53 : ByteArray := prog_11_method_69_code
def yJ9_min_7cf53 : MethodName := ⟨RJ9, "min", "(II)I"⟩
def RJ10 : String := "java/lang/System"
def TJ10 : u_T := fun k => match k with
  | _ => ("", "", "", false)
def tyJ10 : Nat → FieldType := fun k => match k with
  | _ => .int
theorem nmJ10 : ∀ a, a < 0 → ∀ b, b < 0 → a ≠ b → (TJ10 a).2.1 ≠ (TJ10 b).2.1 := by decide +kernel
theorem tyJ10_ok : ∀ k, k < 0 → parseFieldDescriptor (TJ10 k).2.2.1 = some (tyJ10 k) := by decide +kernel
def RL : String := "DoorBellLaw"
abbrev cL_law : ByteArray := code
def yL_law : MethodName := ⟨RL, "law", "([I)Z"⟩
abbrev vwCl : List vw_C := [(RX0, TX0, 5), (RX1, TX1, 2), (RX2, TX2, 4), (RX3, TX3, 5), (RX4, TX4, 3), (RX5, TX5, 13), (RX6, TX6, 10), (RX7, TX7, 23)]
end
section
theorem dX0_init_0 : decode cX0_init 0 = .ok (.aload_n 0, 1) := by decide +kernel
theorem dX0_init_1 : decode cX0_init 1 = .ok (.invokespecial 3, 3) := by decide +kernel
theorem dX0_init_4 : decode cX0_init 4 = .ok (.aload_n 0, 1) := by decide +kernel
theorem dX0_init_5 : decode cX0_init 5 = .ok (.bipush 24, 2) := by decide +kernel
theorem dX0_init_7 : decode cX0_init 7 = .ok (.newarray .int, 2) := by decide +kernel
theorem dX0_init_9 : decode cX0_init 9 = .ok (.putfield 9, 3) := by decide +kernel
theorem dX0_init_12 : decode cX0_init 12 = .ok (.aload_n 0, 1) := by decide +kernel
theorem dX0_init_13 : decode cX0_init 13 = .ok (.bipush 24, 2) := by decide +kernel
theorem dX0_init_15 : decode cX0_init 15 = .ok (.newarray .int, 2) := by decide +kernel
theorem dX0_init_17 : decode cX0_init 17 = .ok (.putfield 15, 3) := by decide +kernel
theorem dX0_init_20 : decode cX0_init 20 = .ok (.aload_n 0, 1) := by decide +kernel
theorem dX0_init_21 : decode cX0_init 21 = .ok (.bipush 24, 2) := by decide +kernel
theorem dX0_init_23 : decode cX0_init 23 = .ok (.newarray .int, 2) := by decide +kernel
theorem dX0_init_25 : decode cX0_init 25 = .ok (.putfield 18, 3) := by decide +kernel
theorem dX0_init_28 : decode cX0_init 28 = .ok (.aload_n 0, 1) := by decide +kernel
theorem dX0_init_29 : decode cX0_init 29 = .ok (.iconst 0, 1) := by decide +kernel
theorem dX0_init_30 : decode cX0_init 30 = .ok (.putfield 21, 3) := by decide +kernel
theorem dX0_init_33 : decode cX0_init 33 = .ok (.aload_n 0, 1) := by decide +kernel
theorem dX0_init_34 : decode cX0_init 34 = .ok (.iconst 0, 1) := by decide +kernel
theorem dX0_init_35 : decode cX0_init 35 = .ok (.putfield 25, 3) := by decide +kernel
theorem dX0_init_38 : decode cX0_init 38 = .ok (.return_, 1) := by decide +kernel
theorem dX0_forgetAll_0 : decode cX0_forgetAll 0 = .ok (.aload_n 0, 1) := by decide +kernel
theorem dX0_forgetAll_1 : decode cX0_forgetAll 1 = .ok (.iconst 0, 1) := by decide +kernel
theorem dX0_forgetAll_2 : decode cX0_forgetAll 2 = .ok (.putfield 21, 3) := by decide +kernel
theorem dX0_forgetAll_5 : decode cX0_forgetAll 5 = .ok (.aload_n 0, 1) := by decide +kernel
theorem dX0_forgetAll_6 : decode cX0_forgetAll 6 = .ok (.iconst 0, 1) := by decide +kernel
theorem dX0_forgetAll_7 : decode cX0_forgetAll 7 = .ok (.putfield 25, 3) := by decide +kernel
theorem dX0_forgetAll_10 : decode cX0_forgetAll 10 = .ok (.return_, 1) := by decide +kernel
theorem dX0_keep_0 : decode cX0_keep 0 = .ok (.aload_n 0, 1) := by decide +kernel
theorem dX0_keep_1 : decode cX0_keep 1 = .ok (.getfield 9, 3) := by decide +kernel
theorem dX0_keep_4 : decode cX0_keep 4 = .ok (.aload_n 0, 1) := by decide +kernel
theorem dX0_keep_5 : decode cX0_keep 5 = .ok (.getfield 21, 3) := by decide +kernel
theorem dX0_keep_8 : decode cX0_keep 8 = .ok (.iload_n 1, 1) := by decide +kernel
theorem dX0_keep_9 : decode cX0_keep 9 = .ok (.iastore, 1) := by decide +kernel
theorem dX0_keep_10 : decode cX0_keep 10 = .ok (.aload_n 0, 1) := by decide +kernel
theorem dX0_keep_11 : decode cX0_keep 11 = .ok (.getfield 15, 3) := by decide +kernel
theorem dX0_keep_14 : decode cX0_keep 14 = .ok (.aload_n 0, 1) := by decide +kernel
theorem dX0_keep_15 : decode cX0_keep 15 = .ok (.getfield 21, 3) := by decide +kernel
theorem dX0_keep_18 : decode cX0_keep 18 = .ok (.iload_n 2, 1) := by decide +kernel
theorem dX0_keep_19 : decode cX0_keep 19 = .ok (.iastore, 1) := by decide +kernel
theorem dX0_keep_20 : decode cX0_keep 20 = .ok (.aload_n 0, 1) := by decide +kernel
theorem dX0_keep_21 : decode cX0_keep 21 = .ok (.getfield 18, 3) := by decide +kernel
theorem dX0_keep_24 : decode cX0_keep 24 = .ok (.aload_n 0, 1) := by decide +kernel
theorem dX0_keep_25 : decode cX0_keep 25 = .ok (.getfield 21, 3) := by decide +kernel
theorem dX0_keep_28 : decode cX0_keep 28 = .ok (.iload_n 3, 1) := by decide +kernel
theorem dX0_keep_29 : decode cX0_keep 29 = .ok (.iastore, 1) := by decide +kernel
theorem dX0_keep_30 : decode cX0_keep 30 = .ok (.aload_n 0, 1) := by decide +kernel
theorem dX0_keep_31 : decode cX0_keep 31 = .ok (.aload_n 0, 1) := by decide +kernel
theorem dX0_keep_32 : decode cX0_keep 32 = .ok (.getfield 21, 3) := by decide +kernel
theorem dX0_keep_35 : decode cX0_keep 35 = .ok (.iconst 1, 1) := by decide +kernel
theorem dX0_keep_36 : decode cX0_keep 36 = .ok (.iadd, 1) := by decide +kernel
theorem dX0_keep_37 : decode cX0_keep 37 = .ok (.bipush 24, 2) := by decide +kernel
theorem dX0_keep_39 : decode cX0_keep 39 = .ok (.irem, 1) := by decide +kernel
theorem dX0_keep_40 : decode cX0_keep 40 = .ok (.putfield 21, 3) := by decide +kernel
theorem dX0_keep_43 : decode cX0_keep 43 = .ok (.aload_n 0, 1) := by decide +kernel
theorem dX0_keep_44 : decode cX0_keep 44 = .ok (.aload_n 0, 1) := by decide +kernel
theorem dX0_keep_45 : decode cX0_keep 45 = .ok (.getfield 25, 3) := by decide +kernel
theorem dX0_keep_48 : decode cX0_keep 48 = .ok (.iconst 1, 1) := by decide +kernel
theorem dX0_keep_49 : decode cX0_keep 49 = .ok (.iadd, 1) := by decide +kernel
theorem dX0_keep_50 : decode cX0_keep 50 = .ok (.bipush 24, 2) := by decide +kernel
theorem dX0_keep_52 : decode cX0_keep 52 = .ok (.invokestatic 28, 3) := by decide +kernel
theorem dX0_keep_55 : decode cX0_keep 55 = .ok (.putfield 25, 3) := by decide +kernel
theorem dX0_keep_58 : decode cX0_keep 58 = .ok (.return_, 1) := by decide +kernel
theorem dX0_takeBackLatest_0 : decode cX0_takeBackLatest 0 = .ok (.aload_n 0, 1) := by decide +kernel
theorem dX0_takeBackLatest_1 : decode cX0_takeBackLatest 1 = .ok (.aload_n 0, 1) := by decide +kernel
theorem dX0_takeBackLatest_2 : decode cX0_takeBackLatest 2 = .ok (.getfield 21, 3) := by decide +kernel
theorem dX0_takeBackLatest_5 : decode cX0_takeBackLatest 5 = .ok (.bipush 24, 2) := by decide +kernel
theorem dX0_takeBackLatest_7 : decode cX0_takeBackLatest 7 = .ok (.iadd, 1) := by decide +kernel
theorem dX0_takeBackLatest_8 : decode cX0_takeBackLatest 8 = .ok (.iconst 1, 1) := by decide +kernel
theorem dX0_takeBackLatest_9 : decode cX0_takeBackLatest 9 = .ok (.isub, 1) := by decide +kernel
theorem dX0_takeBackLatest_10 : decode cX0_takeBackLatest 10 = .ok (.bipush 24, 2) := by decide +kernel
theorem dX0_takeBackLatest_12 : decode cX0_takeBackLatest 12 = .ok (.irem, 1) := by decide +kernel
theorem dX0_takeBackLatest_13 : decode cX0_takeBackLatest 13 = .ok (.putfield 21, 3) := by decide +kernel
theorem dX0_takeBackLatest_16 : decode cX0_takeBackLatest 16 = .ok (.aload_n 0, 1) := by decide +kernel
theorem dX0_takeBackLatest_17 : decode cX0_takeBackLatest 17 = .ok (.aload_n 0, 1) := by decide +kernel
theorem dX0_takeBackLatest_18 : decode cX0_takeBackLatest 18 = .ok (.getfield 25, 3) := by decide +kernel
theorem dX0_takeBackLatest_21 : decode cX0_takeBackLatest 21 = .ok (.iconst 1, 1) := by decide +kernel
theorem dX0_takeBackLatest_22 : decode cX0_takeBackLatest 22 = .ok (.isub, 1) := by decide +kernel
theorem dX0_takeBackLatest_23 : decode cX0_takeBackLatest 23 = .ok (.iconst 0, 1) := by decide +kernel
theorem dX0_takeBackLatest_24 : decode cX0_takeBackLatest 24 = .ok (.invokestatic 34, 3) := by decide +kernel
theorem dX0_takeBackLatest_27 : decode cX0_takeBackLatest 27 = .ok (.putfield 25, 3) := by decide +kernel
theorem dX0_takeBackLatest_30 : decode cX0_takeBackLatest 30 = .ok (.aload_n 0, 1) := by decide +kernel
theorem dX0_takeBackLatest_31 : decode cX0_takeBackLatest 31 = .ok (.getfield 15, 3) := by decide +kernel
theorem dX0_takeBackLatest_34 : decode cX0_takeBackLatest 34 = .ok (.aload_n 0, 1) := by decide +kernel
theorem dX0_takeBackLatest_35 : decode cX0_takeBackLatest 35 = .ok (.getfield 21, 3) := by decide +kernel
theorem dX0_takeBackLatest_38 : decode cX0_takeBackLatest 38 = .ok (.iaload, 1) := by decide +kernel
theorem dX0_takeBackLatest_39 : decode cX0_takeBackLatest 39 = .ok (.istore_n 2, 1) := by decide +kernel
theorem dX0_takeBackLatest_40 : decode cX0_takeBackLatest 40 = .ok (.aload_n 0, 1) := by decide +kernel
theorem dX0_takeBackLatest_41 : decode cX0_takeBackLatest 41 = .ok (.getfield 18, 3) := by decide +kernel
theorem dX0_takeBackLatest_44 : decode cX0_takeBackLatest 44 = .ok (.aload_n 0, 1) := by decide +kernel
theorem dX0_takeBackLatest_45 : decode cX0_takeBackLatest 45 = .ok (.getfield 21, 3) := by decide +kernel
theorem dX0_takeBackLatest_48 : decode cX0_takeBackLatest 48 = .ok (.iaload, 1) := by decide +kernel
theorem dX0_takeBackLatest_49 : decode cX0_takeBackLatest 49 = .ok (.istore_n 3, 1) := by decide +kernel
theorem dX0_takeBackLatest_50 : decode cX0_takeBackLatest 50 = .ok (.aload_n 0, 1) := by decide +kernel
theorem dX0_takeBackLatest_51 : decode cX0_takeBackLatest 51 = .ok (.getfield 9, 3) := by decide +kernel
theorem dX0_takeBackLatest_54 : decode cX0_takeBackLatest 54 = .ok (.aload_n 0, 1) := by decide +kernel
theorem dX0_takeBackLatest_55 : decode cX0_takeBackLatest 55 = .ok (.getfield 21, 3) := by decide +kernel
theorem dX0_takeBackLatest_58 : decode cX0_takeBackLatest 58 = .ok (.iaload, 1) := by decide +kernel
theorem dX0_takeBackLatest_59 : decode cX0_takeBackLatest 59 = .ok (.tableswitch 55 0 2 #[25, 35, 45], 25) := by decide +kernel
theorem dX0_takeBackLatest_84 : decode cX0_takeBackLatest 84 = .ok (.aload_n 1, 1) := by decide +kernel
theorem dX0_takeBackLatest_85 : decode cX0_takeBackLatest 85 = .ok (.getfield 37, 3) := by decide +kernel
theorem dX0_takeBackLatest_88 : decode cX0_takeBackLatest 88 = .ok (.iload_n 2, 1) := by decide +kernel
theorem dX0_takeBackLatest_89 : decode cX0_takeBackLatest 89 = .ok (.iload_n 3, 1) := by decide +kernel
theorem dX0_takeBackLatest_90 : decode cX0_takeBackLatest 90 = .ok (.iastore, 1) := by decide +kernel
theorem dX0_takeBackLatest_91 : decode cX0_takeBackLatest 91 = .ok (.goto 28, 3) := by decide +kernel
theorem dX0_takeBackLatest_94 : decode cX0_takeBackLatest 94 = .ok (.aload_n 1, 1) := by decide +kernel
theorem dX0_takeBackLatest_95 : decode cX0_takeBackLatest 95 = .ok (.getfield 42, 3) := by decide +kernel
theorem dX0_takeBackLatest_98 : decode cX0_takeBackLatest 98 = .ok (.iload_n 2, 1) := by decide +kernel
theorem dX0_takeBackLatest_99 : decode cX0_takeBackLatest 99 = .ok (.iload_n 3, 1) := by decide +kernel
theorem dX0_takeBackLatest_100 : decode cX0_takeBackLatest 100 = .ok (.iastore, 1) := by decide +kernel
theorem dX0_takeBackLatest_101 : decode cX0_takeBackLatest 101 = .ok (.goto 18, 3) := by decide +kernel
theorem dX0_takeBackLatest_104 : decode cX0_takeBackLatest 104 = .ok (.aload_n 1, 1) := by decide +kernel
theorem dX0_takeBackLatest_105 : decode cX0_takeBackLatest 105 = .ok (.getfield 45, 3) := by decide +kernel
theorem dX0_takeBackLatest_108 : decode cX0_takeBackLatest 108 = .ok (.iload_n 2, 1) := by decide +kernel
theorem dX0_takeBackLatest_109 : decode cX0_takeBackLatest 109 = .ok (.iload_n 3, 1) := by decide +kernel
theorem dX0_takeBackLatest_110 : decode cX0_takeBackLatest 110 = .ok (.iastore, 1) := by decide +kernel
theorem dX0_takeBackLatest_111 : decode cX0_takeBackLatest 111 = .ok (.goto 8, 3) := by decide +kernel
theorem dX0_takeBackLatest_114 : decode cX0_takeBackLatest 114 = .ok (.aload_n 1, 1) := by decide +kernel
theorem dX0_takeBackLatest_115 : decode cX0_takeBackLatest 115 = .ok (.iload_n 3, 1) := by decide +kernel
theorem dX0_takeBackLatest_116 : decode cX0_takeBackLatest 116 = .ok (.invokevirtual 48, 3) := by decide +kernel
theorem dX0_takeBackLatest_119 : decode cX0_takeBackLatest 119 = .ok (.return_, 1) := by decide +kernel
theorem dX1_init_0 : decode cX1_init 0 = .ok (.aload_n 0, 1) := by decide +kernel
theorem dX1_init_1 : decode cX1_init 1 = .ok (.invokespecial 1, 3) := by decide +kernel
theorem dX1_init_4 : decode cX1_init 4 = .ok (.aload_n 0, 1) := by decide +kernel
theorem dX1_init_5 : decode cX1_init 5 = .ok (.bipush 16, 2) := by decide +kernel
theorem dX1_init_7 : decode cX1_init 7 = .ok (.newarray .int, 2) := by decide +kernel
theorem dX1_init_9 : decode cX1_init 9 = .ok (.putfield 9, 3) := by decide +kernel
theorem dX1_init_12 : decode cX1_init 12 = .ok (.aload_n 0, 1) := by decide +kernel
theorem dX1_init_13 : decode cX1_init 13 = .ok (.iconst 0, 1) := by decide +kernel
theorem dX1_init_14 : decode cX1_init 14 = .ok (.putfield 13, 3) := by decide +kernel
theorem dX1_init_17 : decode cX1_init 17 = .ok (.return_, 1) := by decide +kernel
theorem dX1_answer_0 : decode cX1_answer 0 = .ok (.aload_n 0, 1) := by decide +kernel
theorem dX1_answer_1 : decode cX1_answer 1 = .ok (.iconst 0, 1) := by decide +kernel
theorem dX1_answer_2 : decode cX1_answer 2 = .ok (.putfield 13, 3) := by decide +kernel
theorem dX1_answer_5 : decode cX1_answer 5 = .ok (.aload_n 1, 1) := by decide +kernel
theorem dX1_answer_6 : decode cX1_answer 6 = .ok (.getfield 17, 3) := by decide +kernel
theorem dX1_answer_9 : decode cX1_answer 9 = .ok (.iload_n 2, 1) := by decide +kernel
theorem dX1_answer_10 : decode cX1_answer 10 = .ok (.iaload, 1) := by decide +kernel
theorem dX1_answer_11 : decode cX1_answer 11 = .ok (.istore 4, 2) := by decide +kernel
theorem dX1_answer_13 : decode cX1_answer 13 = .ok (.aload_n 0, 1) := by decide +kernel
theorem dX1_answer_14 : decode cX1_answer 14 = .ok (.iload_n 3, 1) := by decide +kernel
theorem dX1_answer_15 : decode cX1_answer 15 = .ok (.ifCond .ne 12, 3) := by decide +kernel
theorem dX1_answer_18 : decode cX1_answer 18 = .ok (.getstatic 22, 3) := by decide +kernel
theorem dX1_answer_21 : decode cX1_answer 21 = .ok (.iload 4, 2) := by decide +kernel
theorem dX1_answer_23 : decode cX1_answer 23 = .ok (.iaload, 1) := by decide +kernel
theorem dX1_answer_24 : decode cX1_answer 24 = .ok (.goto 9, 3) := by decide +kernel
theorem dX1_answer_27 : decode cX1_answer 27 = .ok (.getstatic 25, 3) := by decide +kernel
theorem dX1_answer_30 : decode cX1_answer 30 = .ok (.iload 4, 2) := by decide +kernel
theorem dX1_answer_32 : decode cX1_answer 32 = .ok (.iaload, 1) := by decide +kernel
theorem dX1_answer_33 : decode cX1_answer 33 = .ok (.aload_n 1, 1) := by decide +kernel
theorem dX1_answer_34 : decode cX1_answer 34 = .ok (.iload_n 2, 1) := by decide +kernel
theorem dX1_answer_35 : decode cX1_answer 35 = .ok (.iconst 0, 1) := by decide +kernel
theorem dX1_answer_36 : decode cX1_answer 36 = .ok (.invokevirtual 28, 3) := by decide +kernel
theorem dX1_answer_39 : decode cX1_answer 39 = .ok (.ireturn, 1) := by decide +kernel
theorem dX1_give_0 : decode cX1_give 0 = .ok (.iload 4, 2) := by decide +kernel
theorem dX1_give_2 : decode cX1_give 2 = .ok (.bipush 16, 2) := by decide +kernel
theorem dX1_give_4 : decode cX1_give 4 = .ok (.if_icmp .le 5, 3) := by decide +kernel
theorem dX1_give_7 : decode cX1_give 7 = .ok (.iconst 0, 1) := by decide +kernel
theorem dX1_give_8 : decode cX1_give 8 = .ok (.ireturn, 1) := by decide +kernel
theorem dX1_give_9 : decode cX1_give 9 = .ok (.aload_n 0, 1) := by decide +kernel
theorem dX1_give_10 : decode cX1_give 10 = .ok (.iload_n 1, 1) := by decide +kernel
theorem dX1_give_11 : decode cX1_give 11 = .ok (.invokevirtual 32, 3) := by decide +kernel
theorem dX1_give_14 : decode cX1_give 14 = .ok (.aload_n 2, 1) := by decide +kernel
theorem dX1_give_15 : decode cX1_give 15 = .ok (.getfield 17, 3) := by decide +kernel
theorem dX1_give_18 : decode cX1_give 18 = .ok (.iload_n 3, 1) := by decide +kernel
theorem dX1_give_19 : decode cX1_give 19 = .ok (.iaload, 1) := by decide +kernel
theorem dX1_give_20 : decode cX1_give 20 = .ok (.istore 5, 2) := by decide +kernel
theorem dX1_give_22 : decode cX1_give 22 = .ok (.iload 4, 2) := by decide +kernel
theorem dX1_give_24 : decode cX1_give 24 = .ok (.iconst 1, 1) := by decide +kernel
theorem dX1_give_25 : decode cX1_give 25 = .ok (.iadd, 1) := by decide +kernel
theorem dX1_give_26 : decode cX1_give 26 = .ok (.istore 6, 2) := by decide +kernel
theorem dX1_give_28 : decode cX1_give 28 = .ok (.iload_n 1, 1) := by decide +kernel
theorem dX1_give_29 : decode cX1_give 29 = .ok (.tableswitch 221 10 24 #[75, 82, 108, 120, 134, 221, 221, 221, 221, 221, 147, 149, 167, 182, 208], 75) := by decide +kernel
theorem dX1_give_104 : decode cX1_give 104 = .ok (.aload_n 2, 1) := by decide +kernel
theorem dX1_give_105 : decode cX1_give 105 = .ok (.getfield 36, 3) := by decide +kernel
theorem dX1_give_108 : decode cX1_give 108 = .ok (.iload_n 3, 1) := by decide +kernel
theorem dX1_give_109 : decode cX1_give 109 = .ok (.iaload, 1) := by decide +kernel
theorem dX1_give_110 : decode cX1_give 110 = .ok (.ireturn, 1) := by decide +kernel
theorem dX1_give_111 : decode cX1_give 111 = .ok (.aload_n 0, 1) := by decide +kernel
theorem dX1_give_112 : decode cX1_give 112 = .ok (.bipush 10, 2) := by decide +kernel
theorem dX1_give_114 : decode cX1_give 114 = .ok (.aload_n 2, 1) := by decide +kernel
theorem dX1_give_115 : decode cX1_give 115 = .ok (.iload_n 3, 1) := by decide +kernel
theorem dX1_give_116 : decode cX1_give 116 = .ok (.iload 6, 2) := by decide +kernel
theorem dX1_give_118 : decode cX1_give 118 = .ok (.invokevirtual 28, 3) := by decide +kernel
theorem dX1_give_121 : decode cX1_give 121 = .ok (.aload_n 0, 1) := by decide +kernel
theorem dX1_give_122 : decode cX1_give 122 = .ok (.getstatic 25, 3) := by decide +kernel
theorem dX1_give_125 : decode cX1_give 125 = .ok (.iload 5, 2) := by decide +kernel
theorem dX1_give_127 : decode cX1_give 127 = .ok (.iaload, 1) := by decide +kernel
theorem dX1_give_128 : decode cX1_give 128 = .ok (.aload_n 2, 1) := by decide +kernel
theorem dX1_give_129 : decode cX1_give 129 = .ok (.iload_n 3, 1) := by decide +kernel
theorem dX1_give_130 : decode cX1_give 130 = .ok (.iload 6, 2) := by decide +kernel
theorem dX1_give_132 : decode cX1_give 132 = .ok (.invokevirtual 28, 3) := by decide +kernel
theorem dX1_give_135 : decode cX1_give 135 = .ok (.iadd, 1) := by decide +kernel
theorem dX1_give_136 : decode cX1_give 136 = .ok (.ireturn, 1) := by decide +kernel
theorem dX1_give_137 : decode cX1_give 137 = .ok (.aload_n 0, 1) := by decide +kernel
theorem dX1_give_138 : decode cX1_give 138 = .ok (.bipush 11, 2) := by decide +kernel
theorem dX1_give_140 : decode cX1_give 140 = .ok (.aload_n 2, 1) := by decide +kernel
theorem dX1_give_141 : decode cX1_give 141 = .ok (.iload_n 3, 1) := by decide +kernel
theorem dX1_give_142 : decode cX1_give 142 = .ok (.iload 6, 2) := by decide +kernel
theorem dX1_give_144 : decode cX1_give 144 = .ok (.invokevirtual 28, 3) := by decide +kernel
theorem dX1_give_147 : decode cX1_give 147 = .ok (.ineg, 1) := by decide +kernel
theorem dX1_give_148 : decode cX1_give 148 = .ok (.ireturn, 1) := by decide +kernel
theorem dX1_give_149 : decode cX1_give 149 = .ok (.aload_n 0, 1) := by decide +kernel
theorem dX1_give_150 : decode cX1_give 150 = .ok (.bipush 10, 2) := by decide +kernel
theorem dX1_give_152 : decode cX1_give 152 = .ok (.aload_n 2, 1) := by decide +kernel
theorem dX1_give_153 : decode cX1_give 153 = .ok (.iload_n 3, 1) := by decide +kernel
theorem dX1_give_154 : decode cX1_give 154 = .ok (.iload 6, 2) := by decide +kernel
theorem dX1_give_156 : decode cX1_give 156 = .ok (.invokevirtual 28, 3) := by decide +kernel
theorem dX1_give_159 : decode cX1_give 159 = .ok (.bipush 100, 2) := by decide +kernel
theorem dX1_give_161 : decode cX1_give 161 = .ok (.isub, 1) := by decide +kernel
theorem dX1_give_162 : decode cX1_give 162 = .ok (.ireturn, 1) := by decide +kernel
theorem dX1_give_163 : decode cX1_give 163 = .ok (.iconst 2, 1) := by decide +kernel
theorem dX1_give_164 : decode cX1_give 164 = .ok (.aload_n 0, 1) := by decide +kernel
theorem dX1_give_165 : decode cX1_give 165 = .ok (.bipush 13, 2) := by decide +kernel
theorem dX1_give_167 : decode cX1_give 167 = .ok (.aload_n 2, 1) := by decide +kernel
theorem dX1_give_168 : decode cX1_give 168 = .ok (.iload_n 3, 1) := by decide +kernel
theorem dX1_give_169 : decode cX1_give 169 = .ok (.iload 6, 2) := by decide +kernel
theorem dX1_give_171 : decode cX1_give 171 = .ok (.invokevirtual 28, 3) := by decide +kernel
theorem dX1_give_174 : decode cX1_give 174 = .ok (.imul, 1) := by decide +kernel
theorem dX1_give_175 : decode cX1_give 175 = .ok (.ireturn, 1) := by decide +kernel
theorem dX1_give_176 : decode cX1_give 176 = .ok (.iload_n 3, 1) := by decide +kernel
theorem dX1_give_177 : decode cX1_give 177 = .ok (.ireturn, 1) := by decide +kernel
theorem dX1_give_178 : decode cX1_give 178 = .ok (.aload_n 0, 1) := by decide +kernel
theorem dX1_give_179 : decode cX1_give 179 = .ok (.bipush 20, 2) := by decide +kernel
theorem dX1_give_181 : decode cX1_give 181 = .ok (.aload_n 2, 1) := by decide +kernel
theorem dX1_give_182 : decode cX1_give 182 = .ok (.iload_n 3, 1) := by decide +kernel
theorem dX1_give_183 : decode cX1_give 183 = .ok (.iload 6, 2) := by decide +kernel
theorem dX1_give_185 : decode cX1_give 185 = .ok (.invokevirtual 28, 3) := by decide +kernel
theorem dX1_give_188 : decode cX1_give 188 = .ok (.aload_n 2, 1) := by decide +kernel
theorem dX1_give_189 : decode cX1_give 189 = .ok (.getfield 39, 3) := by decide +kernel
theorem dX1_give_192 : decode cX1_give 192 = .ok (.iload_n 3, 1) := by decide +kernel
theorem dX1_give_193 : decode cX1_give 193 = .ok (.iaload, 1) := by decide +kernel
theorem dX1_give_194 : decode cX1_give 194 = .ok (.iadd, 1) := by decide +kernel
theorem dX1_give_195 : decode cX1_give 195 = .ok (.ireturn, 1) := by decide +kernel
theorem dX1_give_196 : decode cX1_give 196 = .ok (.aload_n 0, 1) := by decide +kernel
theorem dX1_give_197 : decode cX1_give 197 = .ok (.bipush 21, 2) := by decide +kernel
theorem dX1_give_199 : decode cX1_give 199 = .ok (.aload_n 2, 1) := by decide +kernel
theorem dX1_give_200 : decode cX1_give 200 = .ok (.iload_n 3, 1) := by decide +kernel
theorem dX1_give_201 : decode cX1_give 201 = .ok (.iload 6, 2) := by decide +kernel
theorem dX1_give_203 : decode cX1_give 203 = .ok (.invokevirtual 28, 3) := by decide +kernel
theorem dX1_give_206 : decode cX1_give 206 = .ok (.sipush 1000, 3) := by decide +kernel
theorem dX1_give_209 : decode cX1_give 209 = .ok (.isub, 1) := by decide +kernel
theorem dX1_give_210 : decode cX1_give 210 = .ok (.ireturn, 1) := by decide +kernel
theorem dX1_give_211 : decode cX1_give 211 = .ok (.aload_n 0, 1) := by decide +kernel
theorem dX1_give_212 : decode cX1_give 212 = .ok (.bipush 20, 2) := by decide +kernel
theorem dX1_give_214 : decode cX1_give 214 = .ok (.aload_n 2, 1) := by decide +kernel
theorem dX1_give_215 : decode cX1_give 215 = .ok (.iload_n 3, 1) := by decide +kernel
theorem dX1_give_216 : decode cX1_give 216 = .ok (.iload 6, 2) := by decide +kernel
theorem dX1_give_218 : decode cX1_give 218 = .ok (.invokevirtual 28, 3) := by decide +kernel
theorem dX1_give_221 : decode cX1_give 221 = .ok (.aload_n 0, 1) := by decide +kernel
theorem dX1_give_222 : decode cX1_give 222 = .ok (.getstatic 22, 3) := by decide +kernel
theorem dX1_give_225 : decode cX1_give 225 = .ok (.iload 5, 2) := by decide +kernel
theorem dX1_give_227 : decode cX1_give 227 = .ok (.iaload, 1) := by decide +kernel
theorem dX1_give_228 : decode cX1_give 228 = .ok (.aload_n 2, 1) := by decide +kernel
theorem dX1_give_229 : decode cX1_give 229 = .ok (.iload_n 3, 1) := by decide +kernel
theorem dX1_give_230 : decode cX1_give 230 = .ok (.iload 6, 2) := by decide +kernel
theorem dX1_give_232 : decode cX1_give 232 = .ok (.invokevirtual 28, 3) := by decide +kernel
theorem dX1_give_235 : decode cX1_give 235 = .ok (.isub, 1) := by decide +kernel
theorem dX1_give_236 : decode cX1_give 236 = .ok (.ireturn, 1) := by decide +kernel
theorem dX1_give_237 : decode cX1_give 237 = .ok (.iconst 2, 1) := by decide +kernel
theorem dX1_give_238 : decode cX1_give 238 = .ok (.aload_n 0, 1) := by decide +kernel
theorem dX1_give_239 : decode cX1_give 239 = .ok (.bipush 21, 2) := by decide +kernel
theorem dX1_give_241 : decode cX1_give 241 = .ok (.aload_n 2, 1) := by decide +kernel
theorem dX1_give_242 : decode cX1_give 242 = .ok (.iload_n 3, 1) := by decide +kernel
theorem dX1_give_243 : decode cX1_give 243 = .ok (.iload 6, 2) := by decide +kernel
theorem dX1_give_245 : decode cX1_give 245 = .ok (.invokevirtual 28, 3) := by decide +kernel
theorem dX1_give_248 : decode cX1_give 248 = .ok (.imul, 1) := by decide +kernel
theorem dX1_give_249 : decode cX1_give 249 = .ok (.ireturn, 1) := by decide +kernel
theorem dX1_give_250 : decode cX1_give 250 = .ok (.iconst 0, 1) := by decide +kernel
theorem dX1_give_251 : decode cX1_give 251 = .ok (.ireturn, 1) := by decide +kernel
theorem dX1_leave_0 : decode cX1_leave 0 = .ok (.aload_n 0, 1) := by decide +kernel
theorem dX1_leave_1 : decode cX1_leave 1 = .ok (.getfield 13, 3) := by decide +kernel
theorem dX1_leave_4 : decode cX1_leave 4 = .ok (.bipush 16, 2) := by decide +kernel
theorem dX1_leave_6 : decode cX1_leave 6 = .ok (.if_icmp .ge 23, 3) := by decide +kernel
theorem dX1_leave_9 : decode cX1_leave 9 = .ok (.aload_n 0, 1) := by decide +kernel
theorem dX1_leave_10 : decode cX1_leave 10 = .ok (.getfield 9, 3) := by decide +kernel
theorem dX1_leave_13 : decode cX1_leave 13 = .ok (.aload_n 0, 1) := by decide +kernel
theorem dX1_leave_14 : decode cX1_leave 14 = .ok (.getfield 13, 3) := by decide +kernel
theorem dX1_leave_17 : decode cX1_leave 17 = .ok (.iload_n 1, 1) := by decide +kernel
theorem dX1_leave_18 : decode cX1_leave 18 = .ok (.iastore, 1) := by decide +kernel
theorem dX1_leave_19 : decode cX1_leave 19 = .ok (.aload_n 0, 1) := by decide +kernel
theorem dX1_leave_20 : decode cX1_leave 20 = .ok (.dup, 1) := by decide +kernel
theorem dX1_leave_21 : decode cX1_leave 21 = .ok (.getfield 13, 3) := by decide +kernel
theorem dX1_leave_24 : decode cX1_leave 24 = .ok (.iconst 1, 1) := by decide +kernel
theorem dX1_leave_25 : decode cX1_leave 25 = .ok (.iadd, 1) := by decide +kernel
theorem dX1_leave_26 : decode cX1_leave 26 = .ok (.putfield 13, 3) := by decide +kernel
theorem dX1_leave_29 : decode cX1_leave 29 = .ok (.return_, 1) := by decide +kernel
theorem dX2_init_0 : decode cX2_init 0 = .ok (.aload_n 0, 1) := by decide +kernel
theorem dX2_init_1 : decode cX2_init 1 = .ok (.invokespecial 3, 3) := by decide +kernel
theorem dX2_init_4 : decode cX2_init 4 = .ok (.aload_n 0, 1) := by decide +kernel
theorem dX2_init_5 : decode cX2_init 5 = .ok (.bipush 12, 2) := by decide +kernel
theorem dX2_init_7 : decode cX2_init 7 = .ok (.newarray .int, 2) := by decide +kernel
theorem dX2_init_9 : decode cX2_init 9 = .ok (.putfield 9, 3) := by decide +kernel
theorem dX2_init_12 : decode cX2_init 12 = .ok (.aload_n 0, 1) := by decide +kernel
theorem dX2_init_13 : decode cX2_init 13 = .ok (.iconst 0, 1) := by decide +kernel
theorem dX2_init_14 : decode cX2_init 14 = .ok (.putfield 15, 3) := by decide +kernel
theorem dX2_init_17 : decode cX2_init 17 = .ok (.aload_n 0, 1) := by decide +kernel
theorem dX2_init_18 : decode cX2_init 18 = .ok (.iconst 0, 1) := by decide +kernel
theorem dX2_init_19 : decode cX2_init 19 = .ok (.putfield 19, 3) := by decide +kernel
theorem dX2_init_22 : decode cX2_init 22 = .ok (.aload_n 0, 1) := by decide +kernel
theorem dX2_init_23 : decode cX2_init 23 = .ok (.iconst (-1), 1) := by decide +kernel
theorem dX2_init_24 : decode cX2_init 24 = .ok (.putfield 22, 3) := by decide +kernel
theorem dX2_init_27 : decode cX2_init 27 = .ok (.return_, 1) := by decide +kernel
theorem dX2_weigh_0 : decode cX2_weigh 0 = .ok (.aload_n 0, 1) := by decide +kernel
theorem dX2_weigh_1 : decode cX2_weigh 1 = .ok (.aload_n 1, 1) := by decide +kernel
theorem dX2_weigh_2 : decode cX2_weigh 2 = .ok (.getfield 25, 3) := by decide +kernel
theorem dX2_weigh_5 : decode cX2_weigh 5 = .ok (.putfield 15, 3) := by decide +kernel
theorem dX2_weigh_8 : decode cX2_weigh 8 = .ok (.iconst 0, 1) := by decide +kernel
theorem dX2_weigh_9 : decode cX2_weigh 9 = .ok (.istore 4, 2) := by decide +kernel
theorem dX2_weigh_11 : decode cX2_weigh 11 = .ok (.iload 4, 2) := by decide +kernel
theorem dX2_weigh_13 : decode cX2_weigh 13 = .ok (.aload_n 0, 1) := by decide +kernel
theorem dX2_weigh_14 : decode cX2_weigh 14 = .ok (.getfield 15, 3) := by decide +kernel
theorem dX2_weigh_17 : decode cX2_weigh 17 = .ok (.if_icmp .ge 60, 3) := by decide +kernel
theorem dX2_weigh_20 : decode cX2_weigh 20 = .ok (.aload_n 1, 1) := by decide +kernel
theorem dX2_weigh_21 : decode cX2_weigh 21 = .ok (.iload 4, 2) := by decide +kernel
theorem dX2_weigh_23 : decode cX2_weigh 23 = .ok (.invokevirtual 28, 3) := by decide +kernel
theorem dX2_weigh_26 : decode cX2_weigh 26 = .ok (.istore 5, 2) := by decide +kernel
theorem dX2_weigh_28 : decode cX2_weigh 28 = .ok (.iconst 0, 1) := by decide +kernel
theorem dX2_weigh_29 : decode cX2_weigh 29 = .ok (.istore 6, 2) := by decide +kernel
theorem dX2_weigh_31 : decode cX2_weigh 31 = .ok (.iload 6, 2) := by decide +kernel
theorem dX2_weigh_33 : decode cX2_weigh 33 = .ok (.iconst 2, 1) := by decide +kernel
theorem dX2_weigh_34 : decode cX2_weigh 34 = .ok (.if_icmp .ge 37, 3) := by decide +kernel
theorem dX2_weigh_37 : decode cX2_weigh 37 = .ok (.aload_n 0, 1) := by decide +kernel
theorem dX2_weigh_38 : decode cX2_weigh 38 = .ok (.getfield 9, 3) := by decide +kernel
theorem dX2_weigh_41 : decode cX2_weigh 41 = .ok (.iconst 2, 1) := by decide +kernel
theorem dX2_weigh_42 : decode cX2_weigh 42 = .ok (.iload 4, 2) := by decide +kernel
theorem dX2_weigh_44 : decode cX2_weigh 44 = .ok (.imul, 1) := by decide +kernel
theorem dX2_weigh_45 : decode cX2_weigh 45 = .ok (.iload 6, 2) := by decide +kernel
theorem dX2_weigh_47 : decode cX2_weigh 47 = .ok (.iadd, 1) := by decide +kernel
theorem dX2_weigh_48 : decode cX2_weigh 48 = .ok (.aload_n 1, 1) := by decide +kernel
theorem dX2_weigh_49 : decode cX2_weigh 49 = .ok (.iload 4, 2) := by decide +kernel
theorem dX2_weigh_51 : decode cX2_weigh 51 = .ok (.iload 6, 2) := by decide +kernel
theorem dX2_weigh_53 : decode cX2_weigh 53 = .ok (.iload_n 2, 1) := by decide +kernel
theorem dX2_weigh_54 : decode cX2_weigh 54 = .ok (.iload 5, 2) := by decide +kernel
theorem dX2_weigh_56 : decode cX2_weigh 56 = .ok (.iand, 1) := by decide +kernel
theorem dX2_weigh_57 : decode cX2_weigh 57 = .ok (.iload_n 3, 1) := by decide +kernel
theorem dX2_weigh_58 : decode cX2_weigh 58 = .ok (.iload 5, 2) := by decide +kernel
theorem dX2_weigh_60 : decode cX2_weigh 60 = .ok (.iand, 1) := by decide +kernel
theorem dX2_weigh_61 : decode cX2_weigh 61 = .ok (.invokestatic 32, 3) := by decide +kernel
theorem dX2_weigh_64 : decode cX2_weigh 64 = .ok (.iastore, 1) := by decide +kernel
theorem dX2_weigh_65 : decode cX2_weigh 65 = .ok (.iinc 6 1, 3) := by decide +kernel
theorem dX2_weigh_68 : decode cX2_weigh 68 = .ok (.goto (-37), 3) := by decide +kernel
theorem dX2_weigh_71 : decode cX2_weigh 71 = .ok (.iinc 4 1, 3) := by decide +kernel
theorem dX2_weigh_74 : decode cX2_weigh 74 = .ok (.goto (-63), 3) := by decide +kernel
theorem dX2_weigh_77 : decode cX2_weigh 77 = .ok (.return_, 1) := by decide +kernel
theorem dX2_choose_0 : decode cX2_choose 0 = .ok (.aload_n 0, 1) := by decide +kernel
theorem dX2_choose_1 : decode cX2_choose 1 = .ok (.iconst (-1), 1) := by decide +kernel
theorem dX2_choose_2 : decode cX2_choose 2 = .ok (.putfield 22, 3) := by decide +kernel
theorem dX2_choose_5 : decode cX2_choose 5 = .ok (.iconst 0, 1) := by decide +kernel
theorem dX2_choose_6 : decode cX2_choose 6 = .ok (.istore_n 1, 1) := by decide +kernel
theorem dX2_choose_7 : decode cX2_choose 7 = .ok (.iload_n 1, 1) := by decide +kernel
theorem dX2_choose_8 : decode cX2_choose 8 = .ok (.iconst 1, 1) := by decide +kernel
theorem dX2_choose_9 : decode cX2_choose 9 = .ok (.aload_n 0, 1) := by decide +kernel
theorem dX2_choose_10 : decode cX2_choose 10 = .ok (.getfield 15, 3) := by decide +kernel
theorem dX2_choose_13 : decode cX2_choose 13 = .ok (.ishl, 1) := by decide +kernel
theorem dX2_choose_14 : decode cX2_choose 14 = .ok (.if_icmp .ge 81, 3) := by decide +kernel
theorem dX2_choose_17 : decode cX2_choose 17 = .ok (.aload_n 0, 1) := by decide +kernel
theorem dX2_choose_18 : decode cX2_choose 18 = .ok (.iload_n 1, 1) := by decide +kernel
theorem dX2_choose_19 : decode cX2_choose 19 = .ok (.invokevirtual 36, 3) := by decide +kernel
theorem dX2_choose_22 : decode cX2_choose 22 = .ok (.istore_n 2, 1) := by decide +kernel
theorem dX2_choose_23 : decode cX2_choose 23 = .ok (.iload_n 2, 1) := by decide +kernel
theorem dX2_choose_24 : decode cX2_choose 24 = .ok (.iconst (-1), 1) := by decide +kernel
theorem dX2_choose_25 : decode cX2_choose 25 = .ok (.if_icmp .eq 23, 3) := by decide +kernel
theorem dX2_choose_28 : decode cX2_choose 28 = .ok (.aload_n 0, 1) := by decide +kernel
theorem dX2_choose_29 : decode cX2_choose 29 = .ok (.getfield 22, 3) := by decide +kernel
theorem dX2_choose_32 : decode cX2_choose 32 = .ok (.iconst (-1), 1) := by decide +kernel
theorem dX2_choose_33 : decode cX2_choose 33 = .ok (.if_icmp .eq 11, 3) := by decide +kernel
theorem dX2_choose_36 : decode cX2_choose 36 = .ok (.iload_n 2, 1) := by decide +kernel
theorem dX2_choose_37 : decode cX2_choose 37 = .ok (.aload_n 0, 1) := by decide +kernel
theorem dX2_choose_38 : decode cX2_choose 38 = .ok (.getfield 22, 3) := by decide +kernel
theorem dX2_choose_41 : decode cX2_choose 41 = .ok (.if_icmp .ge 7, 3) := by decide +kernel
theorem dX2_choose_44 : decode cX2_choose 44 = .ok (.iconst 1, 1) := by decide +kernel
theorem dX2_choose_45 : decode cX2_choose 45 = .ok (.goto 4, 3) := by decide +kernel
theorem dX2_choose_48 : decode cX2_choose 48 = .ok (.iconst 0, 1) := by decide +kernel
theorem dX2_choose_49 : decode cX2_choose 49 = .ok (.istore_n 3, 1) := by decide +kernel
theorem dX2_choose_50 : decode cX2_choose 50 = .ok (.iload_n 3, 1) := by decide +kernel
theorem dX2_choose_51 : decode cX2_choose 51 = .ok (.ifCond .ne 28, 3) := by decide +kernel
theorem dX2_choose_54 : decode cX2_choose 54 = .ok (.iload_n 2, 1) := by decide +kernel
theorem dX2_choose_55 : decode cX2_choose 55 = .ok (.iconst (-1), 1) := by decide +kernel
theorem dX2_choose_56 : decode cX2_choose 56 = .ok (.if_icmp .eq 33, 3) := by decide +kernel
theorem dX2_choose_59 : decode cX2_choose 59 = .ok (.iload_n 2, 1) := by decide +kernel
theorem dX2_choose_60 : decode cX2_choose 60 = .ok (.aload_n 0, 1) := by decide +kernel
theorem dX2_choose_61 : decode cX2_choose 61 = .ok (.getfield 22, 3) := by decide +kernel
theorem dX2_choose_64 : decode cX2_choose 64 = .ok (.if_icmp .ne 25, 3) := by decide +kernel
theorem dX2_choose_67 : decode cX2_choose 67 = .ok (.aload_n 0, 1) := by decide +kernel
theorem dX2_choose_68 : decode cX2_choose 68 = .ok (.iload_n 1, 1) := by decide +kernel
theorem dX2_choose_69 : decode cX2_choose 69 = .ok (.aload_n 0, 1) := by decide +kernel
theorem dX2_choose_70 : decode cX2_choose 70 = .ok (.getfield 19, 3) := by decide +kernel
theorem dX2_choose_73 : decode cX2_choose 73 = .ok (.invokevirtual 39, 3) := by decide +kernel
theorem dX2_choose_76 : decode cX2_choose 76 = .ok (.ifCond .eq 13, 3) := by decide +kernel
theorem dX2_choose_79 : decode cX2_choose 79 = .ok (.aload_n 0, 1) := by decide +kernel
theorem dX2_choose_80 : decode cX2_choose 80 = .ok (.iload_n 2, 1) := by decide +kernel
theorem dX2_choose_81 : decode cX2_choose 81 = .ok (.putfield 22, 3) := by decide +kernel
theorem dX2_choose_84 : decode cX2_choose 84 = .ok (.aload_n 0, 1) := by decide +kernel
theorem dX2_choose_85 : decode cX2_choose 85 = .ok (.iload_n 1, 1) := by decide +kernel
theorem dX2_choose_86 : decode cX2_choose 86 = .ok (.putfield 19, 3) := by decide +kernel
theorem dX2_choose_89 : decode cX2_choose 89 = .ok (.iinc 1 1, 3) := by decide +kernel
theorem dX2_choose_92 : decode cX2_choose 92 = .ok (.goto (-85), 3) := by decide +kernel
theorem dX2_choose_95 : decode cX2_choose 95 = .ok (.aload_n 0, 1) := by decide +kernel
theorem dX2_choose_96 : decode cX2_choose 96 = .ok (.getfield 22, 3) := by decide +kernel
theorem dX2_choose_99 : decode cX2_choose 99 = .ok (.iconst (-1), 1) := by decide +kernel
theorem dX2_choose_100 : decode cX2_choose 100 = .ok (.if_icmp .eq 7, 3) := by decide +kernel
theorem dX2_choose_103 : decode cX2_choose 103 = .ok (.iconst 1, 1) := by decide +kernel
theorem dX2_choose_104 : decode cX2_choose 104 = .ok (.goto 4, 3) := by decide +kernel
theorem dX2_choose_107 : decode cX2_choose 107 = .ok (.iconst 0, 1) := by decide +kernel
theorem dX2_choose_108 : decode cX2_choose 108 = .ok (.ireturn, 1) := by decide +kernel
theorem dX2_firstThatCanNot_0 : decode cX2_firstThatCanNot 0 = .ok (.iconst 0, 1) := by decide +kernel
theorem dX2_firstThatCanNot_1 : decode cX2_firstThatCanNot 1 = .ok (.istore_n 1, 1) := by decide +kernel
theorem dX2_firstThatCanNot_2 : decode cX2_firstThatCanNot 2 = .ok (.iload_n 1, 1) := by decide +kernel
theorem dX2_firstThatCanNot_3 : decode cX2_firstThatCanNot 3 = .ok (.aload_n 0, 1) := by decide +kernel
theorem dX2_firstThatCanNot_4 : decode cX2_firstThatCanNot 4 = .ok (.getfield 15, 3) := by decide +kernel
theorem dX2_firstThatCanNot_7 : decode cX2_firstThatCanNot 7 = .ok (.if_icmp .ge 37, 3) := by decide +kernel
theorem dX2_firstThatCanNot_10 : decode cX2_firstThatCanNot 10 = .ok (.aload_n 0, 1) := by decide +kernel
theorem dX2_firstThatCanNot_11 : decode cX2_firstThatCanNot 11 = .ok (.getfield 9, 3) := by decide +kernel
theorem dX2_firstThatCanNot_14 : decode cX2_firstThatCanNot 14 = .ok (.iconst 2, 1) := by decide +kernel
theorem dX2_firstThatCanNot_15 : decode cX2_firstThatCanNot 15 = .ok (.iload_n 1, 1) := by decide +kernel
theorem dX2_firstThatCanNot_16 : decode cX2_firstThatCanNot 16 = .ok (.imul, 1) := by decide +kernel
theorem dX2_firstThatCanNot_17 : decode cX2_firstThatCanNot 17 = .ok (.iaload, 1) := by decide +kernel
theorem dX2_firstThatCanNot_18 : decode cX2_firstThatCanNot 18 = .ok (.iconst (-1), 1) := by decide +kernel
theorem dX2_firstThatCanNot_19 : decode cX2_firstThatCanNot 19 = .ok (.if_icmp .ne 19, 3) := by decide +kernel
theorem dX2_firstThatCanNot_22 : decode cX2_firstThatCanNot 22 = .ok (.aload_n 0, 1) := by decide +kernel
theorem dX2_firstThatCanNot_23 : decode cX2_firstThatCanNot 23 = .ok (.getfield 9, 3) := by decide +kernel
theorem dX2_firstThatCanNot_26 : decode cX2_firstThatCanNot 26 = .ok (.iconst 2, 1) := by decide +kernel
theorem dX2_firstThatCanNot_27 : decode cX2_firstThatCanNot 27 = .ok (.iload_n 1, 1) := by decide +kernel
theorem dX2_firstThatCanNot_28 : decode cX2_firstThatCanNot 28 = .ok (.imul, 1) := by decide +kernel
theorem dX2_firstThatCanNot_29 : decode cX2_firstThatCanNot 29 = .ok (.iconst 1, 1) := by decide +kernel
theorem dX2_firstThatCanNot_30 : decode cX2_firstThatCanNot 30 = .ok (.iadd, 1) := by decide +kernel
theorem dX2_firstThatCanNot_31 : decode cX2_firstThatCanNot 31 = .ok (.iaload, 1) := by decide +kernel
theorem dX2_firstThatCanNot_32 : decode cX2_firstThatCanNot 32 = .ok (.iconst (-1), 1) := by decide +kernel
theorem dX2_firstThatCanNot_33 : decode cX2_firstThatCanNot 33 = .ok (.if_icmp .ne 5, 3) := by decide +kernel
theorem dX2_firstThatCanNot_36 : decode cX2_firstThatCanNot 36 = .ok (.iload_n 1, 1) := by decide +kernel
theorem dX2_firstThatCanNot_37 : decode cX2_firstThatCanNot 37 = .ok (.ireturn, 1) := by decide +kernel
theorem dX2_firstThatCanNot_38 : decode cX2_firstThatCanNot 38 = .ok (.iinc 1 1, 3) := by decide +kernel
theorem dX2_firstThatCanNot_41 : decode cX2_firstThatCanNot 41 = .ok (.goto (-39), 3) := by decide +kernel
theorem dX2_firstThatCanNot_44 : decode cX2_firstThatCanNot 44 = .ok (.ldc 43, 2) := by decide +kernel
theorem dX2_firstThatCanNot_46 : decode cX2_firstThatCanNot 46 = .ok (.ireturn, 1) := by decide +kernel
theorem dX2_codeAt_0 : decode cX2_codeAt 0 = .ok (.bipush 7, 2) := by decide +kernel
theorem dX2_codeAt_2 : decode cX2_codeAt 2 = .ok (.iload_n 1, 1) := by decide +kernel
theorem dX2_codeAt_3 : decode cX2_codeAt 3 = .ok (.ishl, 1) := by decide +kernel
theorem dX2_codeAt_4 : decode cX2_codeAt 4 = .ok (.iconst 1, 1) := by decide +kernel
theorem dX2_codeAt_5 : decode cX2_codeAt 5 = .ok (.ishr, 1) := by decide +kernel
theorem dX2_codeAt_6 : decode cX2_codeAt 6 = .ok (.istore_n 3, 1) := by decide +kernel
theorem dX2_codeAt_7 : decode cX2_codeAt 7 = .ok (.iload_n 2, 1) := by decide +kernel
theorem dX2_codeAt_8 : decode cX2_codeAt 8 = .ok (.iload_n 3, 1) := by decide +kernel
theorem dX2_codeAt_9 : decode cX2_codeAt 9 = .ok (.iand, 1) := by decide +kernel
theorem dX2_codeAt_10 : decode cX2_codeAt 10 = .ok (.ifCond .eq 7, 3) := by decide +kernel
theorem dX2_codeAt_13 : decode cX2_codeAt 13 = .ok (.iconst 1, 1) := by decide +kernel
theorem dX2_codeAt_14 : decode cX2_codeAt 14 = .ok (.goto 4, 3) := by decide +kernel
theorem dX2_codeAt_17 : decode cX2_codeAt 17 = .ok (.iconst 0, 1) := by decide +kernel
theorem dX2_codeAt_18 : decode cX2_codeAt 18 = .ok (.istore 4, 2) := by decide +kernel
theorem dX2_codeAt_20 : decode cX2_codeAt 20 = .ok (.aload_n 0, 1) := by decide +kernel
theorem dX2_codeAt_21 : decode cX2_codeAt 21 = .ok (.getfield 9, 3) := by decide +kernel
theorem dX2_codeAt_24 : decode cX2_codeAt 24 = .ok (.iconst 2, 1) := by decide +kernel
theorem dX2_codeAt_25 : decode cX2_codeAt 25 = .ok (.iload_n 1, 1) := by decide +kernel
theorem dX2_codeAt_26 : decode cX2_codeAt 26 = .ok (.imul, 1) := by decide +kernel
theorem dX2_codeAt_27 : decode cX2_codeAt 27 = .ok (.iload 4, 2) := by decide +kernel
theorem dX2_codeAt_29 : decode cX2_codeAt 29 = .ok (.iadd, 1) := by decide +kernel
theorem dX2_codeAt_30 : decode cX2_codeAt 30 = .ok (.iaload, 1) := by decide +kernel
theorem dX2_codeAt_31 : decode cX2_codeAt 31 = .ok (.istore 5, 2) := by decide +kernel
theorem dX2_codeAt_33 : decode cX2_codeAt 33 = .ok (.iload 5, 2) := by decide +kernel
theorem dX2_codeAt_35 : decode cX2_codeAt 35 = .ok (.iconst (-1), 1) := by decide +kernel
theorem dX2_codeAt_36 : decode cX2_codeAt 36 = .ok (.if_icmp .ne 7, 3) := by decide +kernel
theorem dX2_codeAt_39 : decode cX2_codeAt 39 = .ok (.iconst (-1), 1) := by decide +kernel
theorem dX2_codeAt_40 : decode cX2_codeAt 40 = .ok (.goto 11, 3) := by decide +kernel
theorem dX2_codeAt_43 : decode cX2_codeAt 43 = .ok (.iload 5, 2) := by decide +kernel
theorem dX2_codeAt_45 : decode cX2_codeAt 45 = .ok (.iload_n 2, 1) := by decide +kernel
theorem dX2_codeAt_46 : decode cX2_codeAt 46 = .ok (.iload_n 1, 1) := by decide +kernel
theorem dX2_codeAt_47 : decode cX2_codeAt 47 = .ok (.ishr, 1) := by decide +kernel
theorem dX2_codeAt_48 : decode cX2_codeAt 48 = .ok (.iconst 1, 1) := by decide +kernel
theorem dX2_codeAt_49 : decode cX2_codeAt 49 = .ok (.iand, 1) := by decide +kernel
theorem dX2_codeAt_50 : decode cX2_codeAt 50 = .ok (.iadd, 1) := by decide +kernel
theorem dX2_codeAt_51 : decode cX2_codeAt 51 = .ok (.ireturn, 1) := by decide +kernel
theorem dX2_totalOf_0 : decode cX2_totalOf 0 = .ok (.iconst 0, 1) := by decide +kernel
theorem dX2_totalOf_1 : decode cX2_totalOf 1 = .ok (.istore_n 2, 1) := by decide +kernel
theorem dX2_totalOf_2 : decode cX2_totalOf 2 = .ok (.iconst 0, 1) := by decide +kernel
theorem dX2_totalOf_3 : decode cX2_totalOf 3 = .ok (.istore_n 3, 1) := by decide +kernel
theorem dX2_totalOf_4 : decode cX2_totalOf 4 = .ok (.iload_n 3, 1) := by decide +kernel
theorem dX2_totalOf_5 : decode cX2_totalOf 5 = .ok (.aload_n 0, 1) := by decide +kernel
theorem dX2_totalOf_6 : decode cX2_totalOf 6 = .ok (.getfield 15, 3) := by decide +kernel
theorem dX2_totalOf_9 : decode cX2_totalOf 9 = .ok (.if_icmp .ge 33, 3) := by decide +kernel
theorem dX2_totalOf_12 : decode cX2_totalOf 12 = .ok (.aload_n 0, 1) := by decide +kernel
theorem dX2_totalOf_13 : decode cX2_totalOf 13 = .ok (.iload_n 3, 1) := by decide +kernel
theorem dX2_totalOf_14 : decode cX2_totalOf 14 = .ok (.iload_n 1, 1) := by decide +kernel
theorem dX2_totalOf_15 : decode cX2_totalOf 15 = .ok (.invokevirtual 44, 3) := by decide +kernel
theorem dX2_totalOf_18 : decode cX2_totalOf 18 = .ok (.istore 4, 2) := by decide +kernel
theorem dX2_totalOf_20 : decode cX2_totalOf 20 = .ok (.iload 4, 2) := by decide +kernel
theorem dX2_totalOf_22 : decode cX2_totalOf 22 = .ok (.iconst (-1), 1) := by decide +kernel
theorem dX2_totalOf_23 : decode cX2_totalOf 23 = .ok (.if_icmp .ne 5, 3) := by decide +kernel
theorem dX2_totalOf_26 : decode cX2_totalOf 26 = .ok (.iconst (-1), 1) := by decide +kernel
theorem dX2_totalOf_27 : decode cX2_totalOf 27 = .ok (.ireturn, 1) := by decide +kernel
theorem dX2_totalOf_28 : decode cX2_totalOf 28 = .ok (.iload_n 2, 1) := by decide +kernel
theorem dX2_totalOf_29 : decode cX2_totalOf 29 = .ok (.iload 4, 2) := by decide +kernel
theorem dX2_totalOf_31 : decode cX2_totalOf 31 = .ok (.invokestatic 48, 3) := by decide +kernel
theorem dX2_totalOf_34 : decode cX2_totalOf 34 = .ok (.iadd, 1) := by decide +kernel
theorem dX2_totalOf_35 : decode cX2_totalOf 35 = .ok (.istore_n 2, 1) := by decide +kernel
theorem dX2_totalOf_36 : decode cX2_totalOf 36 = .ok (.iinc 3 1, 3) := by decide +kernel
theorem dX2_totalOf_39 : decode cX2_totalOf 39 = .ok (.goto (-35), 3) := by decide +kernel
theorem dX2_totalOf_42 : decode cX2_totalOf 42 = .ok (.iload_n 2, 1) := by decide +kernel
theorem dX2_totalOf_43 : decode cX2_totalOf 43 = .ok (.ireturn, 1) := by decide +kernel
theorem dX2_isAhead_0 : decode cX2_isAhead 0 = .ok (.iconst 0, 1) := by decide +kernel
theorem dX2_isAhead_1 : decode cX2_isAhead 1 = .ok (.istore_n 3, 1) := by decide +kernel
theorem dX2_isAhead_2 : decode cX2_isAhead 2 = .ok (.iload_n 3, 1) := by decide +kernel
theorem dX2_isAhead_3 : decode cX2_isAhead 3 = .ok (.aload_n 0, 1) := by decide +kernel
theorem dX2_isAhead_4 : decode cX2_isAhead 4 = .ok (.getfield 15, 3) := by decide +kernel
theorem dX2_isAhead_7 : decode cX2_isAhead 7 = .ok (.if_icmp .ge 45, 3) := by decide +kernel
theorem dX2_isAhead_10 : decode cX2_isAhead 10 = .ok (.aload_n 0, 1) := by decide +kernel
theorem dX2_isAhead_11 : decode cX2_isAhead 11 = .ok (.iload_n 3, 1) := by decide +kernel
theorem dX2_isAhead_12 : decode cX2_isAhead 12 = .ok (.iload_n 1, 1) := by decide +kernel
theorem dX2_isAhead_13 : decode cX2_isAhead 13 = .ok (.invokevirtual 44, 3) := by decide +kernel
theorem dX2_isAhead_16 : decode cX2_isAhead 16 = .ok (.istore 4, 2) := by decide +kernel
theorem dX2_isAhead_18 : decode cX2_isAhead 18 = .ok (.aload_n 0, 1) := by decide +kernel
theorem dX2_isAhead_19 : decode cX2_isAhead 19 = .ok (.iload_n 3, 1) := by decide +kernel
theorem dX2_isAhead_20 : decode cX2_isAhead 20 = .ok (.iload_n 2, 1) := by decide +kernel
theorem dX2_isAhead_21 : decode cX2_isAhead 21 = .ok (.invokevirtual 44, 3) := by decide +kernel
theorem dX2_isAhead_24 : decode cX2_isAhead 24 = .ok (.istore 5, 2) := by decide +kernel
theorem dX2_isAhead_26 : decode cX2_isAhead 26 = .ok (.iload 4, 2) := by decide +kernel
theorem dX2_isAhead_28 : decode cX2_isAhead 28 = .ok (.iload 5, 2) := by decide +kernel
theorem dX2_isAhead_30 : decode cX2_isAhead 30 = .ok (.if_icmp .eq 16, 3) := by decide +kernel
theorem dX2_isAhead_33 : decode cX2_isAhead 33 = .ok (.iload 4, 2) := by decide +kernel
theorem dX2_isAhead_35 : decode cX2_isAhead 35 = .ok (.iload 5, 2) := by decide +kernel
theorem dX2_isAhead_37 : decode cX2_isAhead 37 = .ok (.if_icmp .ge 7, 3) := by decide +kernel
theorem dX2_isAhead_40 : decode cX2_isAhead 40 = .ok (.iconst 1, 1) := by decide +kernel
theorem dX2_isAhead_41 : decode cX2_isAhead 41 = .ok (.goto 4, 3) := by decide +kernel
theorem dX2_isAhead_44 : decode cX2_isAhead 44 = .ok (.iconst 0, 1) := by decide +kernel
theorem dX2_isAhead_45 : decode cX2_isAhead 45 = .ok (.ireturn, 1) := by decide +kernel
theorem dX2_isAhead_46 : decode cX2_isAhead 46 = .ok (.iinc 3 1, 3) := by decide +kernel
theorem dX2_isAhead_49 : decode cX2_isAhead 49 = .ok (.goto (-47), 3) := by decide +kernel
theorem dX2_isAhead_52 : decode cX2_isAhead 52 = .ok (.iconst 0, 1) := by decide +kernel
theorem dX2_isAhead_53 : decode cX2_isAhead 53 = .ok (.ireturn, 1) := by decide +kernel
theorem dX2_costOf_0 : decode cX2_costOf 0 = .ok (.iload_n 0, 1) := by decide +kernel
theorem dX2_costOf_1 : decode cX2_costOf 1 = .ok (.iconst 2, 1) := by decide +kernel
theorem dX2_costOf_2 : decode cX2_costOf 2 = .ok (.ishr, 1) := by decide +kernel
theorem dX2_costOf_3 : decode cX2_costOf 3 = .ok (.iload_n 0, 1) := by decide +kernel
theorem dX2_costOf_4 : decode cX2_costOf 4 = .ok (.iconst 1, 1) := by decide +kernel
theorem dX2_costOf_5 : decode cX2_costOf 5 = .ok (.ishr, 1) := by decide +kernel
theorem dX2_costOf_6 : decode cX2_costOf 6 = .ok (.iconst 1, 1) := by decide +kernel
theorem dX2_costOf_7 : decode cX2_costOf 7 = .ok (.iand, 1) := by decide +kernel
theorem dX2_costOf_8 : decode cX2_costOf 8 = .ok (.iadd, 1) := by decide +kernel
theorem dX2_costOf_9 : decode cX2_costOf 9 = .ok (.iload_n 0, 1) := by decide +kernel
theorem dX2_costOf_10 : decode cX2_costOf 10 = .ok (.iconst 1, 1) := by decide +kernel
theorem dX2_costOf_11 : decode cX2_costOf 11 = .ok (.iand, 1) := by decide +kernel
theorem dX2_costOf_12 : decode cX2_costOf 12 = .ok (.iadd, 1) := by decide +kernel
theorem dX2_costOf_13 : decode cX2_costOf 13 = .ok (.ireturn, 1) := by decide +kernel
theorem dX2_cheapestAt_0 : decode cX2_cheapestAt 0 = .ok (.iconst (-1), 1) := by decide +kernel
theorem dX2_cheapestAt_1 : decode cX2_cheapestAt 1 = .ok (.istore 5, 2) := by decide +kernel
theorem dX2_cheapestAt_3 : decode cX2_cheapestAt 3 = .ok (.iconst 0, 1) := by decide +kernel
theorem dX2_cheapestAt_4 : decode cX2_cheapestAt 4 = .ok (.istore 6, 2) := by decide +kernel
theorem dX2_cheapestAt_6 : decode cX2_cheapestAt 6 = .ok (.iload 6, 2) := by decide +kernel
theorem dX2_cheapestAt_8 : decode cX2_cheapestAt 8 = .ok (.bipush 22, 2) := by decide +kernel
theorem dX2_cheapestAt_10 : decode cX2_cheapestAt 10 = .ok (.if_icmp .gt 60, 3) := by decide +kernel
theorem dX2_cheapestAt_13 : decode cX2_cheapestAt 13 = .ok (.iload 5, 2) := by decide +kernel
theorem dX2_cheapestAt_15 : decode cX2_cheapestAt 15 = .ok (.iconst (-1), 1) := by decide +kernel
theorem dX2_cheapestAt_16 : decode cX2_cheapestAt 16 = .ok (.if_icmp .eq 16, 3) := by decide +kernel
theorem dX2_cheapestAt_19 : decode cX2_cheapestAt 19 = .ok (.iload 6, 2) := by decide +kernel
theorem dX2_cheapestAt_21 : decode cX2_cheapestAt 21 = .ok (.invokestatic 48, 3) := by decide +kernel
theorem dX2_cheapestAt_24 : decode cX2_cheapestAt 24 = .ok (.iload 5, 2) := by decide +kernel
theorem dX2_cheapestAt_26 : decode cX2_cheapestAt 26 = .ok (.invokestatic 48, 3) := by decide +kernel
theorem dX2_cheapestAt_29 : decode cX2_cheapestAt 29 = .ok (.if_icmp .ge 7, 3) := by decide +kernel
theorem dX2_cheapestAt_32 : decode cX2_cheapestAt 32 = .ok (.iconst 1, 1) := by decide +kernel
theorem dX2_cheapestAt_33 : decode cX2_cheapestAt 33 = .ok (.goto 4, 3) := by decide +kernel
theorem dX2_cheapestAt_36 : decode cX2_cheapestAt 36 = .ok (.iconst 0, 1) := by decide +kernel
theorem dX2_cheapestAt_37 : decode cX2_cheapestAt 37 = .ok (.istore 7, 2) := by decide +kernel
theorem dX2_cheapestAt_39 : decode cX2_cheapestAt 39 = .ok (.iload 7, 2) := by decide +kernel
theorem dX2_cheapestAt_41 : decode cX2_cheapestAt 41 = .ok (.ifCond .eq 23, 3) := by decide +kernel
theorem dX2_cheapestAt_44 : decode cX2_cheapestAt 44 = .ok (.aload_n 0, 1) := by decide +kernel
theorem dX2_cheapestAt_45 : decode cX2_cheapestAt 45 = .ok (.iload_n 1, 1) := by decide +kernel
theorem dX2_cheapestAt_46 : decode cX2_cheapestAt 46 = .ok (.iload_n 2, 1) := by decide +kernel
theorem dX2_cheapestAt_47 : decode cX2_cheapestAt 47 = .ok (.iload 6, 2) := by decide +kernel
theorem dX2_cheapestAt_49 : decode cX2_cheapestAt 49 = .ok (.iload_n 3, 1) := by decide +kernel
theorem dX2_cheapestAt_50 : decode cX2_cheapestAt 50 = .ok (.iload 4, 2) := by decide +kernel
theorem dX2_cheapestAt_52 : decode cX2_cheapestAt 52 = .ok (.ior, 1) := by decide +kernel
theorem dX2_cheapestAt_53 : decode cX2_cheapestAt 53 = .ok (.invokestatic 51, 3) := by decide +kernel
theorem dX2_cheapestAt_56 : decode cX2_cheapestAt 56 = .ok (.iload_n 3, 1) := by decide +kernel
theorem dX2_cheapestAt_57 : decode cX2_cheapestAt 57 = .ok (.if_icmp .ne 7, 3) := by decide +kernel
theorem dX2_cheapestAt_60 : decode cX2_cheapestAt 60 = .ok (.iload 6, 2) := by decide +kernel
theorem dX2_cheapestAt_62 : decode cX2_cheapestAt 62 = .ok (.istore 5, 2) := by decide +kernel
theorem dX2_cheapestAt_64 : decode cX2_cheapestAt 64 = .ok (.iinc 6 2, 3) := by decide +kernel
theorem dX2_cheapestAt_67 : decode cX2_cheapestAt 67 = .ok (.goto (-61), 3) := by decide +kernel
theorem dX2_cheapestAt_70 : decode cX2_cheapestAt 70 = .ok (.iload 5, 2) := by decide +kernel
theorem dX2_cheapestAt_72 : decode cX2_cheapestAt 72 = .ok (.ireturn, 1) := by decide +kernel
theorem dX2_meetersAt_0 : decode cX2_meetersAt 0 = .ok (.iload_n 3, 1) := by decide +kernel
theorem dX2_meetersAt_1 : decode cX2_meetersAt 1 = .ok (.iconst 2, 1) := by decide +kernel
theorem dX2_meetersAt_2 : decode cX2_meetersAt 2 = .ok (.ishr, 1) := by decide +kernel
theorem dX2_meetersAt_3 : decode cX2_meetersAt 3 = .ok (.istore 5, 2) := by decide +kernel
theorem dX2_meetersAt_5 : decode cX2_meetersAt 5 = .ok (.iload_n 3, 1) := by decide +kernel
theorem dX2_meetersAt_6 : decode cX2_meetersAt 6 = .ok (.iconst 1, 1) := by decide +kernel
theorem dX2_meetersAt_7 : decode cX2_meetersAt 7 = .ok (.ishr, 1) := by decide +kernel
theorem dX2_meetersAt_8 : decode cX2_meetersAt 8 = .ok (.iconst 1, 1) := by decide +kernel
theorem dX2_meetersAt_9 : decode cX2_meetersAt 9 = .ok (.iand, 1) := by decide +kernel
theorem dX2_meetersAt_10 : decode cX2_meetersAt 10 = .ok (.istore 6, 2) := by decide +kernel
theorem dX2_meetersAt_12 : decode cX2_meetersAt 12 = .ok (.aload_n 0, 1) := by decide +kernel
theorem dX2_meetersAt_13 : decode cX2_meetersAt 13 = .ok (.getfield 54, 3) := by decide +kernel
theorem dX2_meetersAt_16 : decode cX2_meetersAt 16 = .ok (.iload_n 1, 1) := by decide +kernel
theorem dX2_meetersAt_17 : decode cX2_meetersAt 17 = .ok (.iaload, 1) := by decide +kernel
theorem dX2_meetersAt_18 : decode cX2_meetersAt 18 = .ok (.iload 5, 2) := by decide +kernel
theorem dX2_meetersAt_20 : decode cX2_meetersAt 20 = .ok (.iload 6, 2) := by decide +kernel
theorem dX2_meetersAt_22 : decode cX2_meetersAt 22 = .ok (.iload_n 2, 1) := by decide +kernel
theorem dX2_meetersAt_23 : decode cX2_meetersAt 23 = .ok (.invokestatic 57, 3) := by decide +kernel
theorem dX2_meetersAt_26 : decode cX2_meetersAt 26 = .ok (.istore 7, 2) := by decide +kernel
theorem dX2_meetersAt_28 : decode cX2_meetersAt 28 = .ok (.iconst 0, 1) := by decide +kernel
theorem dX2_meetersAt_29 : decode cX2_meetersAt 29 = .ok (.istore 8, 2) := by decide +kernel
theorem dX2_meetersAt_31 : decode cX2_meetersAt 31 = .ok (.iconst 0, 1) := by decide +kernel
theorem dX2_meetersAt_32 : decode cX2_meetersAt 32 = .ok (.istore 9, 2) := by decide +kernel
theorem dX2_meetersAt_34 : decode cX2_meetersAt 34 = .ok (.iload 9, 2) := by decide +kernel
theorem dX2_meetersAt_36 : decode cX2_meetersAt 36 = .ok (.aload_n 0, 1) := by decide +kernel
theorem dX2_meetersAt_37 : decode cX2_meetersAt 37 = .ok (.getfield 61, 3) := by decide +kernel
theorem dX2_meetersAt_40 : decode cX2_meetersAt 40 = .ok (.if_icmp .ge 60, 3) := by decide +kernel
theorem dX2_meetersAt_43 : decode cX2_meetersAt 43 = .ok (.aload_n 0, 1) := by decide +kernel
theorem dX2_meetersAt_44 : decode cX2_meetersAt 44 = .ok (.getfield 64, 3) := by decide +kernel
theorem dX2_meetersAt_47 : decode cX2_meetersAt 47 = .ok (.iload 9, 2) := by decide +kernel
theorem dX2_meetersAt_49 : decode cX2_meetersAt 49 = .ok (.iaload, 1) := by decide +kernel
theorem dX2_meetersAt_50 : decode cX2_meetersAt 50 = .ok (.aload_n 0, 1) := by decide +kernel
theorem dX2_meetersAt_51 : decode cX2_meetersAt 51 = .ok (.getfield 67, 3) := by decide +kernel
theorem dX2_meetersAt_54 : decode cX2_meetersAt 54 = .ok (.iload 9, 2) := by decide +kernel
theorem dX2_meetersAt_56 : decode cX2_meetersAt 56 = .ok (.iaload, 1) := by decide +kernel
theorem dX2_meetersAt_57 : decode cX2_meetersAt 57 = .ok (.iload 5, 2) := by decide +kernel
theorem dX2_meetersAt_59 : decode cX2_meetersAt 59 = .ok (.iload 6, 2) := by decide +kernel
theorem dX2_meetersAt_61 : decode cX2_meetersAt 61 = .ok (.iload_n 2, 1) := by decide +kernel
theorem dX2_meetersAt_62 : decode cX2_meetersAt 62 = .ok (.invokestatic 70, 3) := by decide +kernel
theorem dX2_meetersAt_65 : decode cX2_meetersAt 65 = .ok (.istore 10, 2) := by decide +kernel
theorem dX2_meetersAt_67 : decode cX2_meetersAt 67 = .ok (.iload 4, 2) := by decide +kernel
theorem dX2_meetersAt_69 : decode cX2_meetersAt 69 = .ok (.iload 9, 2) := by decide +kernel
theorem dX2_meetersAt_71 : decode cX2_meetersAt 71 = .ok (.ishr, 1) := by decide +kernel
theorem dX2_meetersAt_72 : decode cX2_meetersAt 72 = .ok (.iconst 1, 1) := by decide +kernel
theorem dX2_meetersAt_73 : decode cX2_meetersAt 73 = .ok (.iand, 1) := by decide +kernel
theorem dX2_meetersAt_74 : decode cX2_meetersAt 74 = .ok (.iconst 1, 1) := by decide +kernel
theorem dX2_meetersAt_75 : decode cX2_meetersAt 75 = .ok (.if_icmp .ne 19, 3) := by decide +kernel
theorem dX2_meetersAt_78 : decode cX2_meetersAt 78 = .ok (.iload 7, 2) := by decide +kernel
theorem dX2_meetersAt_80 : decode cX2_meetersAt 80 = .ok (.iload 10, 2) := by decide +kernel
theorem dX2_meetersAt_82 : decode cX2_meetersAt 82 = .ok (.if_icmp .gt 12, 3) := by decide +kernel
theorem dX2_meetersAt_85 : decode cX2_meetersAt 85 = .ok (.iload 8, 2) := by decide +kernel
theorem dX2_meetersAt_87 : decode cX2_meetersAt 87 = .ok (.iconst 1, 1) := by decide +kernel
theorem dX2_meetersAt_88 : decode cX2_meetersAt 88 = .ok (.iload 9, 2) := by decide +kernel
theorem dX2_meetersAt_90 : decode cX2_meetersAt 90 = .ok (.ishl, 1) := by decide +kernel
theorem dX2_meetersAt_91 : decode cX2_meetersAt 91 = .ok (.ior, 1) := by decide +kernel
theorem dX2_meetersAt_92 : decode cX2_meetersAt 92 = .ok (.istore 8, 2) := by decide +kernel
theorem dX2_meetersAt_94 : decode cX2_meetersAt 94 = .ok (.iinc 9 1, 3) := by decide +kernel
theorem dX2_meetersAt_97 : decode cX2_meetersAt 97 = .ok (.goto (-63), 3) := by decide +kernel
theorem dX2_meetersAt_100 : decode cX2_meetersAt 100 = .ok (.iload 8, 2) := by decide +kernel
theorem dX2_meetersAt_102 : decode cX2_meetersAt 102 = .ok (.ireturn, 1) := by decide +kernel
theorem dX3_init_0 : decode cX3_init 0 = .ok (.aload_n 0, 1) := by decide +kernel
theorem dX3_init_1 : decode cX3_init 1 = .ok (.invokespecial 3, 3) := by decide +kernel
theorem dX3_init_4 : decode cX3_init 4 = .ok (.aload_n 0, 1) := by decide +kernel
theorem dX3_init_5 : decode cX3_init 5 = .ok (.bipush 100, 2) := by decide +kernel
theorem dX3_init_7 : decode cX3_init 7 = .ok (.newarray .int, 2) := by decide +kernel
theorem dX3_init_9 : decode cX3_init 9 = .ok (.putfield 9, 3) := by decide +kernel
theorem dX3_init_12 : decode cX3_init 12 = .ok (.aload_n 0, 1) := by decide +kernel
theorem dX3_init_13 : decode cX3_init 13 = .ok (.iconst 0, 1) := by decide +kernel
theorem dX3_init_14 : decode cX3_init 14 = .ok (.putfield 15, 3) := by decide +kernel
theorem dX3_init_17 : decode cX3_init 17 = .ok (.aload_n 0, 1) := by decide +kernel
theorem dX3_init_18 : decode cX3_init 18 = .ok (.iconst 0, 1) := by decide +kernel
theorem dX3_init_19 : decode cX3_init 19 = .ok (.putfield 19, 3) := by decide +kernel
theorem dX3_init_22 : decode cX3_init 22 = .ok (.aload_n 0, 1) := by decide +kernel
theorem dX3_init_23 : decode cX3_init 23 = .ok (.iconst 0, 1) := by decide +kernel
theorem dX3_init_24 : decode cX3_init 24 = .ok (.putfield 22, 3) := by decide +kernel
theorem dX3_init_27 : decode cX3_init 27 = .ok (.aload_n 0, 1) := by decide +kernel
theorem dX3_init_28 : decode cX3_init 28 = .ok (.iconst 0, 1) := by decide +kernel
theorem dX3_init_29 : decode cX3_init 29 = .ok (.putfield 25, 3) := by decide +kernel
theorem dX3_init_32 : decode cX3_init 32 = .ok (.return_, 1) := by decide +kernel
theorem dX3_take_0 : decode cX3_take 0 = .ok (.aload_n 0, 1) := by decide +kernel
theorem dX3_take_1 : decode cX3_take 1 = .ok (.getfield 15, 3) := by decide +kernel
theorem dX3_take_4 : decode cX3_take 4 = .ok (.bipush 100, 2) := by decide +kernel
theorem dX3_take_6 : decode cX3_take 6 = .ok (.if_icmp .lt 5, 3) := by decide +kernel
theorem dX3_take_9 : decode cX3_take 9 = .ok (.iconst 0, 1) := by decide +kernel
theorem dX3_take_10 : decode cX3_take 10 = .ok (.ireturn, 1) := by decide +kernel
theorem dX3_take_11 : decode cX3_take 11 = .ok (.aload_n 0, 1) := by decide +kernel
theorem dX3_take_12 : decode cX3_take 12 = .ok (.getfield 9, 3) := by decide +kernel
theorem dX3_take_15 : decode cX3_take 15 = .ok (.aload_n 0, 1) := by decide +kernel
theorem dX3_take_16 : decode cX3_take 16 = .ok (.getfield 15, 3) := by decide +kernel
theorem dX3_take_19 : decode cX3_take 19 = .ok (.iload_n 1, 1) := by decide +kernel
theorem dX3_take_20 : decode cX3_take 20 = .ok (.iastore, 1) := by decide +kernel
theorem dX3_take_21 : decode cX3_take 21 = .ok (.aload_n 0, 1) := by decide +kernel
theorem dX3_take_22 : decode cX3_take 22 = .ok (.dup, 1) := by decide +kernel
theorem dX3_take_23 : decode cX3_take 23 = .ok (.getfield 15, 3) := by decide +kernel
theorem dX3_take_26 : decode cX3_take 26 = .ok (.iconst 1, 1) := by decide +kernel
theorem dX3_take_27 : decode cX3_take 27 = .ok (.iadd, 1) := by decide +kernel
theorem dX3_take_28 : decode cX3_take 28 = .ok (.putfield 15, 3) := by decide +kernel
theorem dX3_take_31 : decode cX3_take 31 = .ok (.iconst 1, 1) := by decide +kernel
theorem dX3_take_32 : decode cX3_take 32 = .ok (.ireturn, 1) := by decide +kernel
theorem dX3_readInto_0 : decode cX3_readInto 0 = .ok (.aload_n 0, 1) := by decide +kernel
theorem dX3_readInto_1 : decode cX3_readInto 1 = .ok (.iconst 0, 1) := by decide +kernel
theorem dX3_readInto_2 : decode cX3_readInto 2 = .ok (.putfield 19, 3) := by decide +kernel
theorem dX3_readInto_5 : decode cX3_readInto 5 = .ok (.aload_n 0, 1) := by decide +kernel
theorem dX3_readInto_6 : decode cX3_readInto 6 = .ok (.aload_n 1, 1) := by decide +kernel
theorem dX3_readInto_7 : decode cX3_readInto 7 = .ok (.invokevirtual 28, 3) := by decide +kernel
theorem dX3_readInto_10 : decode cX3_readInto 10 = .ok (.ifCond .eq 11, 3) := by decide +kernel
theorem dX3_readInto_13 : decode cX3_readInto 13 = .ok (.aload_n 0, 1) := by decide +kernel
theorem dX3_readInto_14 : decode cX3_readInto 14 = .ok (.aload_n 1, 1) := by decide +kernel
theorem dX3_readInto_15 : decode cX3_readInto 15 = .ok (.invokevirtual 32, 3) := by decide +kernel
theorem dX3_readInto_18 : decode cX3_readInto 18 = .ok (.ifCond .ne 5, 3) := by decide +kernel
theorem dX3_readInto_21 : decode cX3_readInto 21 = .ok (.iconst 0, 1) := by decide +kernel
theorem dX3_readInto_22 : decode cX3_readInto 22 = .ok (.ireturn, 1) := by decide +kernel
theorem dX3_readInto_23 : decode cX3_readInto 23 = .ok (.iconst 0, 1) := by decide +kernel
theorem dX3_readInto_24 : decode cX3_readInto 24 = .ok (.istore_n 2, 1) := by decide +kernel
theorem dX3_readInto_25 : decode cX3_readInto 25 = .ok (.iload_n 2, 1) := by decide +kernel
theorem dX3_readInto_26 : decode cX3_readInto 26 = .ok (.bipush 100, 2) := by decide +kernel
theorem dX3_readInto_28 : decode cX3_readInto 28 = .ok (.if_icmp .ge 68, 3) := by decide +kernel
theorem dX3_readInto_31 : decode cX3_readInto 31 = .ok (.aload_n 0, 1) := by decide +kernel
theorem dX3_readInto_32 : decode cX3_readInto 32 = .ok (.getfield 19, 3) := by decide +kernel
theorem dX3_readInto_35 : decode cX3_readInto 35 = .ok (.aload_n 0, 1) := by decide +kernel
theorem dX3_readInto_36 : decode cX3_readInto 36 = .ok (.getfield 15, 3) := by decide +kernel
theorem dX3_readInto_39 : decode cX3_readInto 39 = .ok (.if_icmp .ge 57, 3) := by decide +kernel
theorem dX3_readInto_42 : decode cX3_readInto 42 = .ok (.aload_n 1, 1) := by decide +kernel
theorem dX3_readInto_43 : decode cX3_readInto 43 = .ok (.getfield 35, 3) := by decide +kernel
theorem dX3_readInto_46 : decode cX3_readInto 46 = .ok (.ifCond .ne 16, 3) := by decide +kernel
theorem dX3_readInto_49 : decode cX3_readInto 49 = .ok (.aload_n 0, 1) := by decide +kernel
theorem dX3_readInto_50 : decode cX3_readInto 50 = .ok (.bipush 100, 2) := by decide +kernel
theorem dX3_readInto_52 : decode cX3_readInto 52 = .ok (.invokevirtual 40, 3) := by decide +kernel
theorem dX3_readInto_55 : decode cX3_readInto 55 = .ok (.ifCond .eq 7, 3) := by decide +kernel
theorem dX3_readInto_58 : decode cX3_readInto 58 = .ok (.iconst 1, 1) := by decide +kernel
theorem dX3_readInto_59 : decode cX3_readInto 59 = .ok (.goto 4, 3) := by decide +kernel
theorem dX3_readInto_62 : decode cX3_readInto 62 = .ok (.iconst 0, 1) := by decide +kernel
theorem dX3_readInto_63 : decode cX3_readInto 63 = .ok (.istore_n 3, 1) := by decide +kernel
theorem dX3_readInto_64 : decode cX3_readInto 64 = .ok (.iload_n 3, 1) := by decide +kernel
theorem dX3_readInto_65 : decode cX3_readInto 65 = .ok (.ifCond .eq 11, 3) := by decide +kernel
theorem dX3_readInto_68 : decode cX3_readInto 68 = .ok (.aload_n 0, 1) := by decide +kernel
theorem dX3_readInto_69 : decode cX3_readInto 69 = .ok (.aload_n 1, 1) := by decide +kernel
theorem dX3_readInto_70 : decode cX3_readInto 70 = .ok (.invokevirtual 32, 3) := by decide +kernel
theorem dX3_readInto_73 : decode cX3_readInto 73 = .ok (.goto 8, 3) := by decide +kernel
theorem dX3_readInto_76 : decode cX3_readInto 76 = .ok (.aload_n 0, 1) := by decide +kernel
theorem dX3_readInto_77 : decode cX3_readInto 77 = .ok (.aload_n 1, 1) := by decide +kernel
theorem dX3_readInto_78 : decode cX3_readInto 78 = .ok (.invokevirtual 44, 3) := by decide +kernel
theorem dX3_readInto_81 : decode cX3_readInto 81 = .ok (.istore 4, 2) := by decide +kernel
theorem dX3_readInto_83 : decode cX3_readInto 83 = .ok (.iload 4, 2) := by decide +kernel
theorem dX3_readInto_85 : decode cX3_readInto 85 = .ok (.ifCond .ne 5, 3) := by decide +kernel
theorem dX3_readInto_88 : decode cX3_readInto 88 = .ok (.iconst 0, 1) := by decide +kernel
theorem dX3_readInto_89 : decode cX3_readInto 89 = .ok (.ireturn, 1) := by decide +kernel
theorem dX3_readInto_90 : decode cX3_readInto 90 = .ok (.iinc 2 1, 3) := by decide +kernel
theorem dX3_readInto_93 : decode cX3_readInto 93 = .ok (.goto (-68), 3) := by decide +kernel
theorem dX3_readInto_96 : decode cX3_readInto 96 = .ok (.iconst 1, 1) := by decide +kernel
theorem dX3_readInto_97 : decode cX3_readInto 97 = .ok (.ireturn, 1) := by decide +kernel
theorem dX3_readLaw_0 : decode cX3_readLaw 0 = .ok (.aload_n 0, 1) := by decide +kernel
theorem dX3_readLaw_1 : decode cX3_readLaw 1 = .ok (.bipush 103, 2) := by decide +kernel
theorem dX3_readLaw_3 : decode cX3_readLaw 3 = .ok (.invokevirtual 47, 3) := by decide +kernel
theorem dX3_readLaw_6 : decode cX3_readLaw 6 = .ok (.ifCond .ne 5, 3) := by decide +kernel
theorem dX3_readLaw_9 : decode cX3_readLaw 9 = .ok (.iconst 0, 1) := by decide +kernel
theorem dX3_readLaw_10 : decode cX3_readLaw 10 = .ok (.ireturn, 1) := by decide +kernel
theorem dX3_readLaw_11 : decode cX3_readLaw 11 = .ok (.aload_n 0, 1) := by decide +kernel
theorem dX3_readLaw_12 : decode cX3_readLaw 12 = .ok (.iconst 0, 1) := by decide +kernel
theorem dX3_readLaw_13 : decode cX3_readLaw 13 = .ok (.bipush 60, 2) := by decide +kernel
theorem dX3_readLaw_15 : decode cX3_readLaw 15 = .ok (.invokevirtual 50, 3) := by decide +kernel
theorem dX3_readLaw_18 : decode cX3_readLaw 18 = .ok (.istore_n 2, 1) := by decide +kernel
theorem dX3_readLaw_19 : decode cX3_readLaw 19 = .ok (.iload_n 2, 1) := by decide +kernel
theorem dX3_readLaw_20 : decode cX3_readLaw 20 = .ok (.ifCond .lt 12, 3) := by decide +kernel
theorem dX3_readLaw_23 : decode cX3_readLaw 23 = .ok (.aload_n 0, 1) := by decide +kernel
theorem dX3_readLaw_24 : decode cX3_readLaw 24 = .ok (.bipush 44, 2) := by decide +kernel
theorem dX3_readLaw_26 : decode cX3_readLaw 26 = .ok (.invokevirtual 47, 3) := by decide +kernel
theorem dX3_readLaw_29 : decode cX3_readLaw 29 = .ok (.ifCond .ne 5, 3) := by decide +kernel
theorem dX3_readLaw_32 : decode cX3_readLaw 32 = .ok (.iconst 0, 1) := by decide +kernel
theorem dX3_readLaw_33 : decode cX3_readLaw 33 = .ok (.ireturn, 1) := by decide +kernel
theorem dX3_readLaw_34 : decode cX3_readLaw 34 = .ok (.aload_n 0, 1) := by decide +kernel
theorem dX3_readLaw_35 : decode cX3_readLaw 35 = .ok (.iconst 0, 1) := by decide +kernel
theorem dX3_readLaw_36 : decode cX3_readLaw 36 = .ok (.bipush 12, 2) := by decide +kernel
theorem dX3_readLaw_38 : decode cX3_readLaw 38 = .ok (.invokevirtual 50, 3) := by decide +kernel
theorem dX3_readLaw_41 : decode cX3_readLaw 41 = .ok (.istore_n 3, 1) := by decide +kernel
theorem dX3_readLaw_42 : decode cX3_readLaw 42 = .ok (.iload_n 3, 1) := by decide +kernel
theorem dX3_readLaw_43 : decode cX3_readLaw 43 = .ok (.ifCond .lt 12, 3) := by decide +kernel
theorem dX3_readLaw_46 : decode cX3_readLaw 46 = .ok (.aload_n 0, 1) := by decide +kernel
theorem dX3_readLaw_47 : decode cX3_readLaw 47 = .ok (.bipush 59, 2) := by decide +kernel
theorem dX3_readLaw_49 : decode cX3_readLaw 49 = .ok (.invokevirtual 47, 3) := by decide +kernel
theorem dX3_readLaw_52 : decode cX3_readLaw 52 = .ok (.ifCond .ne 5, 3) := by decide +kernel
theorem dX3_readLaw_55 : decode cX3_readLaw 55 = .ok (.iconst 0, 1) := by decide +kernel
theorem dX3_readLaw_56 : decode cX3_readLaw 56 = .ok (.ireturn, 1) := by decide +kernel
theorem dX3_readLaw_57 : decode cX3_readLaw 57 = .ok (.aload_n 1, 1) := by decide +kernel
theorem dX3_readLaw_58 : decode cX3_readLaw 58 = .ok (.iload_n 2, 1) := by decide +kernel
theorem dX3_readLaw_59 : decode cX3_readLaw 59 = .ok (.iload_n 3, 1) := by decide +kernel
theorem dX3_readLaw_60 : decode cX3_readLaw 60 = .ok (.invokevirtual 54, 3) := by decide +kernel
theorem dX3_readLaw_63 : decode cX3_readLaw 63 = .ok (.iconst 1, 1) := by decide +kernel
theorem dX3_readLaw_64 : decode cX3_readLaw 64 = .ok (.ireturn, 1) := by decide +kernel
theorem dX3_readDoor_0 : decode cX3_readDoor 0 = .ok (.aload_n 0, 1) := by decide +kernel
theorem dX3_readDoor_1 : decode cX3_readDoor 1 = .ok (.bipush 100, 2) := by decide +kernel
theorem dX3_readDoor_3 : decode cX3_readDoor 3 = .ok (.invokevirtual 40, 3) := by decide +kernel
theorem dX3_readDoor_6 : decode cX3_readDoor 6 = .ok (.ifCond .eq 18, 3) := by decide +kernel
theorem dX3_readDoor_9 : decode cX3_readDoor 9 = .ok (.aload_n 1, 1) := by decide +kernel
theorem dX3_readDoor_10 : decode cX3_readDoor 10 = .ok (.getfield 58, 3) := by decide +kernel
theorem dX3_readDoor_13 : decode cX3_readDoor 13 = .ok (.bipush 6, 2) := by decide +kernel
theorem dX3_readDoor_15 : decode cX3_readDoor 15 = .ok (.if_icmp .lt 9, 3) := by decide +kernel
theorem dX3_readDoor_18 : decode cX3_readDoor 18 = .ok (.aload_n 0, 1) := by decide +kernel
theorem dX3_readDoor_19 : decode cX3_readDoor 19 = .ok (.iconst 3, 1) := by decide +kernel
theorem dX3_readDoor_20 : decode cX3_readDoor 20 = .ok (.invokevirtual 61, 3) := by decide +kernel
theorem dX3_readDoor_23 : decode cX3_readDoor 23 = .ok (.ireturn, 1) := by decide +kernel
theorem dX3_readDoor_24 : decode cX3_readDoor 24 = .ok (.aload_n 0, 1) := by decide +kernel
theorem dX3_readDoor_25 : decode cX3_readDoor 25 = .ok (.bipush 100, 2) := by decide +kernel
theorem dX3_readDoor_27 : decode cX3_readDoor 27 = .ok (.invokevirtual 47, 3) := by decide +kernel
theorem dX3_readDoor_30 : decode cX3_readDoor 30 = .ok (.ifCond .ne 5, 3) := by decide +kernel
theorem dX3_readDoor_33 : decode cX3_readDoor 33 = .ok (.iconst 0, 1) := by decide +kernel
theorem dX3_readDoor_34 : decode cX3_readDoor 34 = .ok (.ireturn, 1) := by decide +kernel
theorem dX3_readDoor_35 : decode cX3_readDoor 35 = .ok (.aload_n 0, 1) := by decide +kernel
theorem dX3_readDoor_36 : decode cX3_readDoor 36 = .ok (.iconst 1, 1) := by decide +kernel
theorem dX3_readDoor_37 : decode cX3_readDoor 37 = .ok (.bipush 20, 2) := by decide +kernel
theorem dX3_readDoor_39 : decode cX3_readDoor 39 = .ok (.invokevirtual 50, 3) := by decide +kernel
theorem dX3_readDoor_42 : decode cX3_readDoor 42 = .ok (.istore_n 2, 1) := by decide +kernel
theorem dX3_readDoor_43 : decode cX3_readDoor 43 = .ok (.iload_n 2, 1) := by decide +kernel
theorem dX3_readDoor_44 : decode cX3_readDoor 44 = .ok (.ifCond .lt 12, 3) := by decide +kernel
theorem dX3_readDoor_47 : decode cX3_readDoor 47 = .ok (.aload_n 0, 1) := by decide +kernel
theorem dX3_readDoor_48 : decode cX3_readDoor 48 = .ok (.bipush 59, 2) := by decide +kernel
theorem dX3_readDoor_50 : decode cX3_readDoor 50 = .ok (.invokevirtual 47, 3) := by decide +kernel
theorem dX3_readDoor_53 : decode cX3_readDoor 53 = .ok (.ifCond .ne 5, 3) := by decide +kernel
theorem dX3_readDoor_56 : decode cX3_readDoor 56 = .ok (.iconst 0, 1) := by decide +kernel
theorem dX3_readDoor_57 : decode cX3_readDoor 57 = .ok (.ireturn, 1) := by decide +kernel
theorem dX3_readDoor_58 : decode cX3_readDoor 58 = .ok (.aload_n 1, 1) := by decide +kernel
theorem dX3_readDoor_59 : decode cX3_readDoor 59 = .ok (.iload_n 2, 1) := by decide +kernel
theorem dX3_readDoor_60 : decode cX3_readDoor 60 = .ok (.invokevirtual 64, 3) := by decide +kernel
theorem dX3_readDoor_63 : decode cX3_readDoor 63 = .ok (.iconst 1, 1) := by decide +kernel
theorem dX3_readDoor_64 : decode cX3_readDoor 64 = .ok (.ireturn, 1) := by decide +kernel
theorem dX3_readCaller_0 : decode cX3_readCaller 0 = .ok (.aload_n 0, 1) := by decide +kernel
theorem dX3_readCaller_1 : decode cX3_readCaller 1 = .ok (.getfield 19, 3) := by decide +kernel
theorem dX3_readCaller_4 : decode cX3_readCaller 4 = .ok (.aload_n 0, 1) := by decide +kernel
theorem dX3_readCaller_5 : decode cX3_readCaller 5 = .ok (.getfield 15, 3) := by decide +kernel
theorem dX3_readCaller_8 : decode cX3_readCaller 8 = .ok (.if_icmp .ge 18, 3) := by decide +kernel
theorem dX3_readCaller_11 : decode cX3_readCaller 11 = .ok (.aload_n 0, 1) := by decide +kernel
theorem dX3_readCaller_12 : decode cX3_readCaller 12 = .ok (.getfield 9, 3) := by decide +kernel
theorem dX3_readCaller_15 : decode cX3_readCaller 15 = .ok (.aload_n 0, 1) := by decide +kernel
theorem dX3_readCaller_16 : decode cX3_readCaller 16 = .ok (.getfield 19, 3) := by decide +kernel
theorem dX3_readCaller_19 : decode cX3_readCaller 19 = .ok (.iaload, 1) := by decide +kernel
theorem dX3_readCaller_20 : decode cX3_readCaller 20 = .ok (.invokestatic 68, 3) := by decide +kernel
theorem dX3_readCaller_23 : decode cX3_readCaller 23 = .ok (.goto 4, 3) := by decide +kernel
theorem dX3_readCaller_26 : decode cX3_readCaller 26 = .ok (.iconst 0, 1) := by decide +kernel
theorem dX3_readCaller_27 : decode cX3_readCaller 27 = .ok (.istore_n 2, 1) := by decide +kernel
theorem dX3_readCaller_28 : decode cX3_readCaller 28 = .ok (.iload_n 2, 1) := by decide +kernel
theorem dX3_readCaller_29 : decode cX3_readCaller 29 = .ok (.ifCond .ne 9, 3) := by decide +kernel
theorem dX3_readCaller_32 : decode cX3_readCaller 32 = .ok (.aload_n 0, 1) := by decide +kernel
theorem dX3_readCaller_33 : decode cX3_readCaller 33 = .ok (.iconst 1, 1) := by decide +kernel
theorem dX3_readCaller_34 : decode cX3_readCaller 34 = .ok (.invokevirtual 61, 3) := by decide +kernel
theorem dX3_readCaller_37 : decode cX3_readCaller 37 = .ok (.ireturn, 1) := by decide +kernel
theorem dX3_readCaller_38 : decode cX3_readCaller 38 = .ok (.aload_n 1, 1) := by decide +kernel
theorem dX3_readCaller_39 : decode cX3_readCaller 39 = .ok (.getfield 35, 3) := by decide +kernel
theorem dX3_readCaller_42 : decode cX3_readCaller 42 = .ok (.bipush 6, 2) := by decide +kernel
theorem dX3_readCaller_44 : decode cX3_readCaller 44 = .ok (.if_icmp .lt 9, 3) := by decide +kernel
theorem dX3_readCaller_47 : decode cX3_readCaller 47 = .ok (.aload_n 0, 1) := by decide +kernel
theorem dX3_readCaller_48 : decode cX3_readCaller 48 = .ok (.iconst 3, 1) := by decide +kernel
theorem dX3_readCaller_49 : decode cX3_readCaller 49 = .ok (.invokevirtual 61, 3) := by decide +kernel
theorem dX3_readCaller_52 : decode cX3_readCaller 52 = .ok (.ireturn, 1) := by decide +kernel
theorem dX3_readCaller_53 : decode cX3_readCaller 53 = .ok (.aload_n 0, 1) := by decide +kernel
theorem dX3_readCaller_54 : decode cX3_readCaller 54 = .ok (.dup, 1) := by decide +kernel
theorem dX3_readCaller_55 : decode cX3_readCaller 55 = .ok (.getfield 19, 3) := by decide +kernel
theorem dX3_readCaller_58 : decode cX3_readCaller 58 = .ok (.iconst 1, 1) := by decide +kernel
theorem dX3_readCaller_59 : decode cX3_readCaller 59 = .ok (.iadd, 1) := by decide +kernel
theorem dX3_readCaller_60 : decode cX3_readCaller 60 = .ok (.putfield 19, 3) := by decide +kernel
theorem dX3_readCaller_63 : decode cX3_readCaller 63 = .ok (.aload_n 0, 1) := by decide +kernel
theorem dX3_readCaller_64 : decode cX3_readCaller 64 = .ok (.iconst 0, 1) := by decide +kernel
theorem dX3_readCaller_65 : decode cX3_readCaller 65 = .ok (.aload_n 1, 1) := by decide +kernel
theorem dX3_readCaller_66 : decode cX3_readCaller 66 = .ok (.getfield 58, 3) := by decide +kernel
theorem dX3_readCaller_69 : decode cX3_readCaller 69 = .ok (.iconst 1, 1) := by decide +kernel
theorem dX3_readCaller_70 : decode cX3_readCaller 70 = .ok (.isub, 1) := by decide +kernel
theorem dX3_readCaller_71 : decode cX3_readCaller 71 = .ok (.invokevirtual 50, 3) := by decide +kernel
theorem dX3_readCaller_74 : decode cX3_readCaller 74 = .ok (.istore_n 3, 1) := by decide +kernel
theorem dX3_readCaller_75 : decode cX3_readCaller 75 = .ok (.iload_n 3, 1) := by decide +kernel
theorem dX3_readCaller_76 : decode cX3_readCaller 76 = .ok (.ifCond .lt 12, 3) := by decide +kernel
theorem dX3_readCaller_79 : decode cX3_readCaller 79 = .ok (.aload_n 0, 1) := by decide +kernel
theorem dX3_readCaller_80 : decode cX3_readCaller 80 = .ok (.bipush 44, 2) := by decide +kernel
theorem dX3_readCaller_82 : decode cX3_readCaller 82 = .ok (.invokevirtual 47, 3) := by decide +kernel
theorem dX3_readCaller_85 : decode cX3_readCaller 85 = .ok (.ifCond .ne 5, 3) := by decide +kernel
theorem dX3_readCaller_88 : decode cX3_readCaller 88 = .ok (.iconst 0, 1) := by decide +kernel
theorem dX3_readCaller_89 : decode cX3_readCaller 89 = .ok (.ireturn, 1) := by decide +kernel
theorem dX3_readCaller_90 : decode cX3_readCaller 90 = .ok (.aload_n 0, 1) := by decide +kernel
theorem dX3_readCaller_91 : decode cX3_readCaller 91 = .ok (.iconst 0, 1) := by decide +kernel
theorem dX3_readCaller_92 : decode cX3_readCaller 92 = .ok (.bipush 20, 2) := by decide +kernel
theorem dX3_readCaller_94 : decode cX3_readCaller 94 = .ok (.invokevirtual 50, 3) := by decide +kernel
theorem dX3_readCaller_97 : decode cX3_readCaller 97 = .ok (.istore 4, 2) := by decide +kernel
theorem dX3_readCaller_99 : decode cX3_readCaller 99 = .ok (.iload 4, 2) := by decide +kernel
theorem dX3_readCaller_101 : decode cX3_readCaller 101 = .ok (.ifCond .lt 12, 3) := by decide +kernel
theorem dX3_readCaller_104 : decode cX3_readCaller 104 = .ok (.aload_n 0, 1) := by decide +kernel
theorem dX3_readCaller_105 : decode cX3_readCaller 105 = .ok (.bipush 59, 2) := by decide +kernel
theorem dX3_readCaller_107 : decode cX3_readCaller 107 = .ok (.invokevirtual 47, 3) := by decide +kernel
theorem dX3_readCaller_110 : decode cX3_readCaller 110 = .ok (.ifCond .ne 5, 3) := by decide +kernel
theorem dX3_readCaller_113 : decode cX3_readCaller 113 = .ok (.iconst 0, 1) := by decide +kernel
theorem dX3_readCaller_114 : decode cX3_readCaller 114 = .ok (.ireturn, 1) := by decide +kernel
theorem dX3_readCaller_115 : decode cX3_readCaller 115 = .ok (.aload_n 1, 1) := by decide +kernel
theorem dX3_readCaller_116 : decode cX3_readCaller 116 = .ok (.iload_n 2, 1) := by decide +kernel
theorem dX3_readCaller_117 : decode cX3_readCaller 117 = .ok (.iload_n 3, 1) := by decide +kernel
theorem dX3_readCaller_118 : decode cX3_readCaller 118 = .ok (.iload 4, 2) := by decide +kernel
theorem dX3_readCaller_120 : decode cX3_readCaller 120 = .ok (.invokevirtual 72, 3) := by decide +kernel
theorem dX3_readCaller_123 : decode cX3_readCaller 123 = .ok (.iconst 1, 1) := by decide +kernel
theorem dX3_readCaller_124 : decode cX3_readCaller 124 = .ok (.ireturn, 1) := by decide +kernel
theorem dX3_readSign_0 : decode cX3_readSign 0 = .ok (.aload_n 0, 1) := by decide +kernel
theorem dX3_readSign_1 : decode cX3_readSign 1 = .ok (.iload_n 1, 1) := by decide +kernel
theorem dX3_readSign_2 : decode cX3_readSign 2 = .ok (.invokevirtual 40, 3) := by decide +kernel
theorem dX3_readSign_5 : decode cX3_readSign 5 = .ok (.ifCond .ne 9, 3) := by decide +kernel
theorem dX3_readSign_8 : decode cX3_readSign 8 = .ok (.aload_n 0, 1) := by decide +kernel
theorem dX3_readSign_9 : decode cX3_readSign 9 = .ok (.iconst 1, 1) := by decide +kernel
theorem dX3_readSign_10 : decode cX3_readSign 10 = .ok (.invokevirtual 61, 3) := by decide +kernel
theorem dX3_readSign_13 : decode cX3_readSign 13 = .ok (.ireturn, 1) := by decide +kernel
theorem dX3_readSign_14 : decode cX3_readSign 14 = .ok (.aload_n 0, 1) := by decide +kernel
theorem dX3_readSign_15 : decode cX3_readSign 15 = .ok (.dup, 1) := by decide +kernel
theorem dX3_readSign_16 : decode cX3_readSign 16 = .ok (.getfield 19, 3) := by decide +kernel
theorem dX3_readSign_19 : decode cX3_readSign 19 = .ok (.iconst 1, 1) := by decide +kernel
theorem dX3_readSign_20 : decode cX3_readSign 20 = .ok (.iadd, 1) := by decide +kernel
theorem dX3_readSign_21 : decode cX3_readSign 21 = .ok (.putfield 19, 3) := by decide +kernel
theorem dX3_readSign_24 : decode cX3_readSign 24 = .ok (.iconst 1, 1) := by decide +kernel
theorem dX3_readSign_25 : decode cX3_readSign 25 = .ok (.ireturn, 1) := by decide +kernel
theorem dX3_readNumber_0 : decode cX3_readNumber 0 = .ok (.iconst 0, 1) := by decide +kernel
theorem dX3_readNumber_1 : decode cX3_readNumber 1 = .ok (.istore_n 3, 1) := by decide +kernel
theorem dX3_readNumber_2 : decode cX3_readNumber 2 = .ok (.iconst 0, 1) := by decide +kernel
theorem dX3_readNumber_3 : decode cX3_readNumber 3 = .ok (.istore 4, 2) := by decide +kernel
theorem dX3_readNumber_5 : decode cX3_readNumber 5 = .ok (.aload_n 0, 1) := by decide +kernel
theorem dX3_readNumber_6 : decode cX3_readNumber 6 = .ok (.getfield 19, 3) := by decide +kernel
theorem dX3_readNumber_9 : decode cX3_readNumber 9 = .ok (.istore 5, 2) := by decide +kernel
theorem dX3_readNumber_11 : decode cX3_readNumber 11 = .ok (.iload 5, 2) := by decide +kernel
theorem dX3_readNumber_13 : decode cX3_readNumber 13 = .ok (.aload_n 0, 1) := by decide +kernel
theorem dX3_readNumber_14 : decode cX3_readNumber 14 = .ok (.getfield 15, 3) := by decide +kernel
theorem dX3_readNumber_17 : decode cX3_readNumber 17 = .ok (.if_icmp .ge 47, 3) := by decide +kernel
theorem dX3_readNumber_20 : decode cX3_readNumber 20 = .ok (.aload_n 0, 1) := by decide +kernel
theorem dX3_readNumber_21 : decode cX3_readNumber 21 = .ok (.getfield 9, 3) := by decide +kernel
theorem dX3_readNumber_24 : decode cX3_readNumber 24 = .ok (.iload 5, 2) := by decide +kernel
theorem dX3_readNumber_26 : decode cX3_readNumber 26 = .ok (.iaload, 1) := by decide +kernel
theorem dX3_readNumber_27 : decode cX3_readNumber 27 = .ok (.invokestatic 76, 3) := by decide +kernel
theorem dX3_readNumber_30 : decode cX3_readNumber 30 = .ok (.ifCond .eq 34, 3) := by decide +kernel
theorem dX3_readNumber_33 : decode cX3_readNumber 33 = .ok (.iload 4, 2) := by decide +kernel
theorem dX3_readNumber_35 : decode cX3_readNumber 35 = .ok (.iconst 3, 1) := by decide +kernel
theorem dX3_readNumber_36 : decode cX3_readNumber 36 = .ok (.if_icmp .ge 28, 3) := by decide +kernel
theorem dX3_readNumber_39 : decode cX3_readNumber 39 = .ok (.bipush 10, 2) := by decide +kernel
theorem dX3_readNumber_41 : decode cX3_readNumber 41 = .ok (.iload_n 3, 1) := by decide +kernel
theorem dX3_readNumber_42 : decode cX3_readNumber 42 = .ok (.imul, 1) := by decide +kernel
theorem dX3_readNumber_43 : decode cX3_readNumber 43 = .ok (.aload_n 0, 1) := by decide +kernel
theorem dX3_readNumber_44 : decode cX3_readNumber 44 = .ok (.getfield 9, 3) := by decide +kernel
theorem dX3_readNumber_47 : decode cX3_readNumber 47 = .ok (.iload 5, 2) := by decide +kernel
theorem dX3_readNumber_49 : decode cX3_readNumber 49 = .ok (.iaload, 1) := by decide +kernel
theorem dX3_readNumber_50 : decode cX3_readNumber 50 = .ok (.iadd, 1) := by decide +kernel
theorem dX3_readNumber_51 : decode cX3_readNumber 51 = .ok (.bipush 48, 2) := by decide +kernel
theorem dX3_readNumber_53 : decode cX3_readNumber 53 = .ok (.isub, 1) := by decide +kernel
theorem dX3_readNumber_54 : decode cX3_readNumber 54 = .ok (.istore_n 3, 1) := by decide +kernel
theorem dX3_readNumber_55 : decode cX3_readNumber 55 = .ok (.iinc 4 1, 3) := by decide +kernel
theorem dX3_readNumber_58 : decode cX3_readNumber 58 = .ok (.iinc 5 1, 3) := by decide +kernel
theorem dX3_readNumber_61 : decode cX3_readNumber 61 = .ok (.goto (-50), 3) := by decide +kernel
theorem dX3_readNumber_64 : decode cX3_readNumber 64 = .ok (.iload 4, 2) := by decide +kernel
theorem dX3_readNumber_66 : decode cX3_readNumber 66 = .ok (.iconst 1, 1) := by decide +kernel
theorem dX3_readNumber_67 : decode cX3_readNumber 67 = .ok (.if_icmp .eq 9, 3) := by decide +kernel
theorem dX3_readNumber_70 : decode cX3_readNumber 70 = .ok (.iload 4, 2) := by decide +kernel
theorem dX3_readNumber_72 : decode cX3_readNumber 72 = .ok (.iconst 2, 1) := by decide +kernel
theorem dX3_readNumber_73 : decode cX3_readNumber 73 = .ok (.if_icmp .ne 7, 3) := by decide +kernel
theorem dX3_readNumber_76 : decode cX3_readNumber 76 = .ok (.iconst 1, 1) := by decide +kernel
theorem dX3_readNumber_77 : decode cX3_readNumber 77 = .ok (.goto 4, 3) := by decide +kernel
theorem dX3_readNumber_80 : decode cX3_readNumber 80 = .ok (.iconst 0, 1) := by decide +kernel
theorem dX3_readNumber_81 : decode cX3_readNumber 81 = .ok (.istore 5, 2) := by decide +kernel
theorem dX3_readNumber_83 : decode cX3_readNumber 83 = .ok (.iload 5, 2) := by decide +kernel
theorem dX3_readNumber_85 : decode cX3_readNumber 85 = .ok (.ifCond .eq 13, 3) := by decide +kernel
theorem dX3_readNumber_88 : decode cX3_readNumber 88 = .ok (.iload_n 3, 1) := by decide +kernel
theorem dX3_readNumber_89 : decode cX3_readNumber 89 = .ok (.iload_n 1, 1) := by decide +kernel
theorem dX3_readNumber_90 : decode cX3_readNumber 90 = .ok (.if_icmp .lt 8, 3) := by decide +kernel
theorem dX3_readNumber_93 : decode cX3_readNumber 93 = .ok (.iload_n 3, 1) := by decide +kernel
theorem dX3_readNumber_94 : decode cX3_readNumber 94 = .ok (.iload_n 2, 1) := by decide +kernel
theorem dX3_readNumber_95 : decode cX3_readNumber 95 = .ok (.if_icmp .le 20, 3) := by decide +kernel
theorem dX3_readNumber_98 : decode cX3_readNumber 98 = .ok (.aload_n 0, 1) := by decide +kernel
theorem dX3_readNumber_99 : decode cX3_readNumber 99 = .ok (.iload 5, 2) := by decide +kernel
theorem dX3_readNumber_101 : decode cX3_readNumber 101 = .ok (.ifCond .eq 7, 3) := by decide +kernel
theorem dX3_readNumber_104 : decode cX3_readNumber 104 = .ok (.iconst 2, 1) := by decide +kernel
theorem dX3_readNumber_105 : decode cX3_readNumber 105 = .ok (.goto 4, 3) := by decide +kernel
theorem dX3_readNumber_108 : decode cX3_readNumber 108 = .ok (.iconst 1, 1) := by decide +kernel
theorem dX3_readNumber_109 : decode cX3_readNumber 109 = .ok (.invokevirtual 61, 3) := by decide +kernel
theorem dX3_readNumber_112 : decode cX3_readNumber 112 = .ok (.pop, 1) := by decide +kernel
theorem dX3_readNumber_113 : decode cX3_readNumber 113 = .ok (.iconst (-1), 1) := by decide +kernel
theorem dX3_readNumber_114 : decode cX3_readNumber 114 = .ok (.ireturn, 1) := by decide +kernel
theorem dX3_readNumber_115 : decode cX3_readNumber 115 = .ok (.aload_n 0, 1) := by decide +kernel
theorem dX3_readNumber_116 : decode cX3_readNumber 116 = .ok (.dup, 1) := by decide +kernel
theorem dX3_readNumber_117 : decode cX3_readNumber 117 = .ok (.getfield 19, 3) := by decide +kernel
theorem dX3_readNumber_120 : decode cX3_readNumber 120 = .ok (.iload 4, 2) := by decide +kernel
theorem dX3_readNumber_122 : decode cX3_readNumber 122 = .ok (.iadd, 1) := by decide +kernel
theorem dX3_readNumber_123 : decode cX3_readNumber 123 = .ok (.putfield 19, 3) := by decide +kernel
theorem dX3_readNumber_126 : decode cX3_readNumber 126 = .ok (.iload_n 3, 1) := by decide +kernel
theorem dX3_readNumber_127 : decode cX3_readNumber 127 = .ok (.ireturn, 1) := by decide +kernel
theorem dX3_nextIs_0 : decode cX3_nextIs 0 = .ok (.aload_n 0, 1) := by decide +kernel
theorem dX3_nextIs_1 : decode cX3_nextIs 1 = .ok (.getfield 19, 3) := by decide +kernel
theorem dX3_nextIs_4 : decode cX3_nextIs 4 = .ok (.aload_n 0, 1) := by decide +kernel
theorem dX3_nextIs_5 : decode cX3_nextIs 5 = .ok (.getfield 15, 3) := by decide +kernel
theorem dX3_nextIs_8 : decode cX3_nextIs 8 = .ok (.if_icmp .ge 20, 3) := by decide +kernel
theorem dX3_nextIs_11 : decode cX3_nextIs 11 = .ok (.aload_n 0, 1) := by decide +kernel
theorem dX3_nextIs_12 : decode cX3_nextIs 12 = .ok (.getfield 9, 3) := by decide +kernel
theorem dX3_nextIs_15 : decode cX3_nextIs 15 = .ok (.aload_n 0, 1) := by decide +kernel
theorem dX3_nextIs_16 : decode cX3_nextIs 16 = .ok (.getfield 19, 3) := by decide +kernel
theorem dX3_nextIs_19 : decode cX3_nextIs 19 = .ok (.iaload, 1) := by decide +kernel
theorem dX3_nextIs_20 : decode cX3_nextIs 20 = .ok (.iload_n 1, 1) := by decide +kernel
theorem dX3_nextIs_21 : decode cX3_nextIs 21 = .ok (.if_icmp .ne 7, 3) := by decide +kernel
theorem dX3_nextIs_24 : decode cX3_nextIs 24 = .ok (.iconst 1, 1) := by decide +kernel
theorem dX3_nextIs_25 : decode cX3_nextIs 25 = .ok (.goto 4, 3) := by decide +kernel
theorem dX3_nextIs_28 : decode cX3_nextIs 28 = .ok (.iconst 0, 1) := by decide +kernel
theorem dX3_nextIs_29 : decode cX3_nextIs 29 = .ok (.ireturn, 1) := by decide +kernel
theorem dX3_fail_0 : decode cX3_fail 0 = .ok (.aload_n 0, 1) := by decide +kernel
theorem dX3_fail_1 : decode cX3_fail 1 = .ok (.aload_n 0, 1) := by decide +kernel
theorem dX3_fail_2 : decode cX3_fail 2 = .ok (.getfield 19, 3) := by decide +kernel
theorem dX3_fail_5 : decode cX3_fail 5 = .ok (.putfield 22, 3) := by decide +kernel
theorem dX3_fail_8 : decode cX3_fail 8 = .ok (.aload_n 0, 1) := by decide +kernel
theorem dX3_fail_9 : decode cX3_fail 9 = .ok (.iload_n 1, 1) := by decide +kernel
theorem dX3_fail_10 : decode cX3_fail 10 = .ok (.putfield 25, 3) := by decide +kernel
theorem dX3_fail_13 : decode cX3_fail 13 = .ok (.iconst 0, 1) := by decide +kernel
theorem dX3_fail_14 : decode cX3_fail 14 = .ok (.ireturn, 1) := by decide +kernel
theorem dX3_isFigure_0 : decode cX3_isFigure 0 = .ok (.iload_n 0, 1) := by decide +kernel
theorem dX3_isFigure_1 : decode cX3_isFigure 1 = .ok (.bipush 48, 2) := by decide +kernel
theorem dX3_isFigure_3 : decode cX3_isFigure 3 = .ok (.if_icmp .lt 13, 3) := by decide +kernel
theorem dX3_isFigure_6 : decode cX3_isFigure 6 = .ok (.iload_n 0, 1) := by decide +kernel
theorem dX3_isFigure_7 : decode cX3_isFigure 7 = .ok (.bipush 57, 2) := by decide +kernel
theorem dX3_isFigure_9 : decode cX3_isFigure 9 = .ok (.if_icmp .gt 7, 3) := by decide +kernel
theorem dX3_isFigure_12 : decode cX3_isFigure 12 = .ok (.iconst 1, 1) := by decide +kernel
theorem dX3_isFigure_13 : decode cX3_isFigure 13 = .ok (.goto 4, 3) := by decide +kernel
theorem dX3_isFigure_16 : decode cX3_isFigure 16 = .ok (.iconst 0, 1) := by decide +kernel
theorem dX3_isFigure_17 : decode cX3_isFigure 17 = .ok (.ireturn, 1) := by decide +kernel
theorem dX3_kindOfSort_0 : decode cX3_kindOfSort 0 = .ok (.iload_n 0, 1) := by decide +kernel
theorem dX3_kindOfSort_1 : decode cX3_kindOfSort 1 = .ok (.lookupswitch 61 #[(98, 55), (107, 59), (108, 53), (112, 57), (117, 51)], 51) := by decide +kernel
theorem dX3_kindOfSort_52 : decode cX3_kindOfSort 52 = .ok (.iconst 1, 1) := by decide +kernel
theorem dX3_kindOfSort_53 : decode cX3_kindOfSort 53 = .ok (.ireturn, 1) := by decide +kernel
theorem dX3_kindOfSort_54 : decode cX3_kindOfSort 54 = .ok (.iconst 2, 1) := by decide +kernel
theorem dX3_kindOfSort_55 : decode cX3_kindOfSort 55 = .ok (.ireturn, 1) := by decide +kernel
theorem dX3_kindOfSort_56 : decode cX3_kindOfSort 56 = .ok (.iconst 3, 1) := by decide +kernel
theorem dX3_kindOfSort_57 : decode cX3_kindOfSort 57 = .ok (.ireturn, 1) := by decide +kernel
theorem dX3_kindOfSort_58 : decode cX3_kindOfSort 58 = .ok (.iconst 4, 1) := by decide +kernel
theorem dX3_kindOfSort_59 : decode cX3_kindOfSort 59 = .ok (.ireturn, 1) := by decide +kernel
theorem dX3_kindOfSort_60 : decode cX3_kindOfSort 60 = .ok (.iconst 5, 1) := by decide +kernel
theorem dX3_kindOfSort_61 : decode cX3_kindOfSort 61 = .ok (.ireturn, 1) := by decide +kernel
theorem dX3_kindOfSort_62 : decode cX3_kindOfSort 62 = .ok (.iconst 0, 1) := by decide +kernel
theorem dX3_kindOfSort_63 : decode cX3_kindOfSort 63 = .ok (.ireturn, 1) := by decide +kernel
theorem dX4_init_0 : decode cX4_init 0 = .ok (.aload_n 0, 1) := by decide +kernel
theorem dX4_init_1 : decode cX4_init 1 = .ok (.invokespecial 3, 3) := by decide +kernel
theorem dX4_init_4 : decode cX4_init 4 = .ok (.aload_n 0, 1) := by decide +kernel
theorem dX4_init_5 : decode cX4_init 5 = .ok (.bipush 40, 2) := by decide +kernel
theorem dX4_init_7 : decode cX4_init 7 = .ok (.newarray .int, 2) := by decide +kernel
theorem dX4_init_9 : decode cX4_init 9 = .ok (.putfield 9, 3) := by decide +kernel
theorem dX4_init_12 : decode cX4_init 12 = .ok (.aload_n 0, 1) := by decide +kernel
theorem dX4_init_13 : decode cX4_init 13 = .ok (.iconst (-1), 1) := by decide +kernel
theorem dX4_init_14 : decode cX4_init 14 = .ok (.putfield 15, 3) := by decide +kernel
theorem dX4_init_17 : decode cX4_init 17 = .ok (.aload_n 0, 1) := by decide +kernel
theorem dX4_init_18 : decode cX4_init 18 = .ok (.iconst 0, 1) := by decide +kernel
theorem dX4_init_19 : decode cX4_init 19 = .ok (.putfield 19, 3) := by decide +kernel
theorem dX4_init_22 : decode cX4_init 22 = .ok (.return_, 1) := by decide +kernel
theorem dX4_isMissing_0 : decode cX4_isMissing 0 = .ok (.aload_n 0, 1) := by decide +kernel
theorem dX4_isMissing_1 : decode cX4_isMissing 1 = .ok (.getfield 15, 3) := by decide +kernel
theorem dX4_isMissing_4 : decode cX4_isMissing 4 = .ok (.iconst (-1), 1) := by decide +kernel
theorem dX4_isMissing_5 : decode cX4_isMissing 5 = .ok (.if_icmp .ne 7, 3) := by decide +kernel
theorem dX4_isMissing_8 : decode cX4_isMissing 8 = .ok (.iconst 1, 1) := by decide +kernel
theorem dX4_isMissing_9 : decode cX4_isMissing 9 = .ok (.goto 4, 3) := by decide +kernel
theorem dX4_isMissing_12 : decode cX4_isMissing 12 = .ok (.iconst 0, 1) := by decide +kernel
theorem dX4_isMissing_13 : decode cX4_isMissing 13 = .ok (.ireturn, 1) := by decide +kernel
theorem dX4_begin_0 : decode cX4_begin 0 = .ok (.aload_n 0, 1) := by decide +kernel
theorem dX4_begin_1 : decode cX4_begin 1 = .ok (.iload_n 1, 1) := by decide +kernel
theorem dX4_begin_2 : decode cX4_begin 2 = .ok (.putfield 15, 3) := by decide +kernel
theorem dX4_begin_5 : decode cX4_begin 5 = .ok (.aload_n 0, 1) := by decide +kernel
theorem dX4_begin_6 : decode cX4_begin 6 = .ok (.iload_n 2, 1) := by decide +kernel
theorem dX4_begin_7 : decode cX4_begin 7 = .ok (.putfield 19, 3) := by decide +kernel
theorem dX4_begin_10 : decode cX4_begin 10 = .ok (.iconst 0, 1) := by decide +kernel
theorem dX4_begin_11 : decode cX4_begin 11 = .ok (.istore_n 3, 1) := by decide +kernel
theorem dX4_begin_12 : decode cX4_begin 12 = .ok (.iload_n 3, 1) := by decide +kernel
theorem dX4_begin_13 : decode cX4_begin 13 = .ok (.bipush 40, 2) := by decide +kernel
theorem dX4_begin_15 : decode cX4_begin 15 = .ok (.if_icmp .ge 16, 3) := by decide +kernel
theorem dX4_begin_18 : decode cX4_begin 18 = .ok (.aload_n 0, 1) := by decide +kernel
theorem dX4_begin_19 : decode cX4_begin 19 = .ok (.getfield 9, 3) := by decide +kernel
theorem dX4_begin_22 : decode cX4_begin 22 = .ok (.iload_n 3, 1) := by decide +kernel
theorem dX4_begin_23 : decode cX4_begin 23 = .ok (.iconst 0, 1) := by decide +kernel
theorem dX4_begin_24 : decode cX4_begin 24 = .ok (.iastore, 1) := by decide +kernel
theorem dX4_begin_25 : decode cX4_begin 25 = .ok (.iinc 3 1, 3) := by decide +kernel
theorem dX4_begin_28 : decode cX4_begin 28 = .ok (.goto (-16), 3) := by decide +kernel
theorem dX4_begin_31 : decode cX4_begin 31 = .ok (.return_, 1) := by decide +kernel
theorem dX4_spans_0 : decode cX4_spans 0 = .ok (.iload_n 1, 1) := by decide +kernel
theorem dX4_spans_1 : decode cX4_spans 1 = .ok (.ifCond .lt 29, 3) := by decide +kernel
theorem dX4_spans_4 : decode cX4_spans 4 = .ok (.iload_n 2, 1) := by decide +kernel
theorem dX4_spans_5 : decode cX4_spans 5 = .ok (.ifCond .lt 25, 3) := by decide +kernel
theorem dX4_spans_8 : decode cX4_spans 8 = .ok (.iload_n 2, 1) := by decide +kernel
theorem dX4_spans_9 : decode cX4_spans 9 = .ok (.aload_n 0, 1) := by decide +kernel
theorem dX4_spans_10 : decode cX4_spans 10 = .ok (.getfield 19, 3) := by decide +kernel
theorem dX4_spans_13 : decode cX4_spans 13 = .ok (.if_icmp .gt 17, 3) := by decide +kernel
theorem dX4_spans_16 : decode cX4_spans 16 = .ok (.iload_n 1, 1) := by decide +kernel
theorem dX4_spans_17 : decode cX4_spans 17 = .ok (.aload_n 0, 1) := by decide +kernel
theorem dX4_spans_18 : decode cX4_spans 18 = .ok (.getfield 19, 3) := by decide +kernel
theorem dX4_spans_21 : decode cX4_spans 21 = .ok (.iload_n 2, 1) := by decide +kernel
theorem dX4_spans_22 : decode cX4_spans 22 = .ok (.isub, 1) := by decide +kernel
theorem dX4_spans_23 : decode cX4_spans 23 = .ok (.if_icmp .gt 7, 3) := by decide +kernel
theorem dX4_spans_26 : decode cX4_spans 26 = .ok (.iconst 1, 1) := by decide +kernel
theorem dX4_spans_27 : decode cX4_spans 27 = .ok (.goto 4, 3) := by decide +kernel
theorem dX4_spans_30 : decode cX4_spans 30 = .ok (.iconst 0, 1) := by decide +kernel
theorem dX4_spans_31 : decode cX4_spans 31 = .ok (.ireturn, 1) := by decide +kernel
theorem dX4_narrowed_0 : decode cX4_narrowed 0 = .ok (.aload_n 0, 1) := by decide +kernel
theorem dX4_narrowed_1 : decode cX4_narrowed 1 = .ok (.getfield 15, 3) := by decide +kernel
theorem dX4_narrowed_4 : decode cX4_narrowed 4 = .ok (.ifCond .ne 6, 3) := by decide +kernel
theorem dX4_narrowed_7 : decode cX4_narrowed 7 = .ok (.iload_n 1, 1) := by decide +kernel
theorem dX4_narrowed_8 : decode cX4_narrowed 8 = .ok (.i2b, 1) := by decide +kernel
theorem dX4_narrowed_9 : decode cX4_narrowed 9 = .ok (.ireturn, 1) := by decide +kernel
theorem dX4_narrowed_10 : decode cX4_narrowed 10 = .ok (.aload_n 0, 1) := by decide +kernel
theorem dX4_narrowed_11 : decode cX4_narrowed 11 = .ok (.getfield 15, 3) := by decide +kernel
theorem dX4_narrowed_14 : decode cX4_narrowed 14 = .ok (.iconst 1, 1) := by decide +kernel
theorem dX4_narrowed_15 : decode cX4_narrowed 15 = .ok (.if_icmp .ne 8, 3) := by decide +kernel
theorem dX4_narrowed_18 : decode cX4_narrowed 18 = .ok (.iload_n 1, 1) := by decide +kernel
theorem dX4_narrowed_19 : decode cX4_narrowed 19 = .ok (.i2s, 1) := by decide +kernel
theorem dX4_narrowed_20 : decode cX4_narrowed 20 = .ok (.goto 4, 3) := by decide +kernel
theorem dX4_narrowed_23 : decode cX4_narrowed 23 = .ok (.iload_n 1, 1) := by decide +kernel
theorem dX4_narrowed_24 : decode cX4_narrowed 24 = .ok (.ireturn, 1) := by decide +kernel
theorem dX4_tellsMeetingsFrom_0 : decode cX4_tellsMeetingsFrom 0 = .ok (.iconst 0, 1) := by decide +kernel
theorem dX4_tellsMeetingsFrom_1 : decode cX4_tellsMeetingsFrom 1 = .ok (.istore 4, 2) := by decide +kernel
theorem dX4_tellsMeetingsFrom_3 : decode cX4_tellsMeetingsFrom 3 = .ok (.iload 4, 2) := by decide +kernel
theorem dX4_tellsMeetingsFrom_5 : decode cX4_tellsMeetingsFrom 5 = .ok (.iload_n 3, 1) := by decide +kernel
theorem dX4_tellsMeetingsFrom_6 : decode cX4_tellsMeetingsFrom 6 = .ok (.if_icmp .ge 44, 3) := by decide +kernel
theorem dX4_tellsMeetingsFrom_9 : decode cX4_tellsMeetingsFrom 9 = .ok (.iload_n 1, 1) := by decide +kernel
theorem dX4_tellsMeetingsFrom_10 : decode cX4_tellsMeetingsFrom 10 = .ok (.ldc 22, 2) := by decide +kernel
theorem dX4_tellsMeetingsFrom_12 : decode cX4_tellsMeetingsFrom 12 = .ok (.if_icmp .eq 13, 3) := by decide +kernel
theorem dX4_tellsMeetingsFrom_15 : decode cX4_tellsMeetingsFrom 15 = .ok (.iload 4, 2) := by decide +kernel
theorem dX4_tellsMeetingsFrom_17 : decode cX4_tellsMeetingsFrom 17 = .ok (.iload_n 1, 1) := by decide +kernel
theorem dX4_tellsMeetingsFrom_18 : decode cX4_tellsMeetingsFrom 18 = .ok (.if_icmp .lt 7, 3) := by decide +kernel
theorem dX4_tellsMeetingsFrom_21 : decode cX4_tellsMeetingsFrom 21 = .ok (.iconst 1, 1) := by decide +kernel
theorem dX4_tellsMeetingsFrom_22 : decode cX4_tellsMeetingsFrom 22 = .ok (.goto 4, 3) := by decide +kernel
theorem dX4_tellsMeetingsFrom_25 : decode cX4_tellsMeetingsFrom 25 = .ok (.iconst 0, 1) := by decide +kernel
theorem dX4_tellsMeetingsFrom_26 : decode cX4_tellsMeetingsFrom 26 = .ok (.istore 5, 2) := by decide +kernel
theorem dX4_tellsMeetingsFrom_28 : decode cX4_tellsMeetingsFrom 28 = .ok (.aload_n 0, 1) := by decide +kernel
theorem dX4_tellsMeetingsFrom_29 : decode cX4_tellsMeetingsFrom 29 = .ok (.getfield 9, 3) := by decide +kernel
theorem dX4_tellsMeetingsFrom_32 : decode cX4_tellsMeetingsFrom 32 = .ok (.iload_n 2, 1) := by decide +kernel
theorem dX4_tellsMeetingsFrom_33 : decode cX4_tellsMeetingsFrom 33 = .ok (.iload 4, 2) := by decide +kernel
theorem dX4_tellsMeetingsFrom_35 : decode cX4_tellsMeetingsFrom 35 = .ok (.iadd, 1) := by decide +kernel
theorem dX4_tellsMeetingsFrom_36 : decode cX4_tellsMeetingsFrom 36 = .ok (.iaload, 1) := by decide +kernel
theorem dX4_tellsMeetingsFrom_37 : decode cX4_tellsMeetingsFrom 37 = .ok (.iload 5, 2) := by decide +kernel
theorem dX4_tellsMeetingsFrom_39 : decode cX4_tellsMeetingsFrom 39 = .ok (.if_icmp .eq 5, 3) := by decide +kernel
theorem dX4_tellsMeetingsFrom_42 : decode cX4_tellsMeetingsFrom 42 = .ok (.iconst 0, 1) := by decide +kernel
theorem dX4_tellsMeetingsFrom_43 : decode cX4_tellsMeetingsFrom 43 = .ok (.ireturn, 1) := by decide +kernel
theorem dX4_tellsMeetingsFrom_44 : decode cX4_tellsMeetingsFrom 44 = .ok (.iinc 4 1, 3) := by decide +kernel
theorem dX4_tellsMeetingsFrom_47 : decode cX4_tellsMeetingsFrom 47 = .ok (.goto (-44), 3) := by decide +kernel
theorem dX4_tellsMeetingsFrom_50 : decode cX4_tellsMeetingsFrom 50 = .ok (.iconst 1, 1) := by decide +kernel
theorem dX4_tellsMeetingsFrom_51 : decode cX4_tellsMeetingsFrom 51 = .ok (.ireturn, 1) := by decide +kernel
theorem dX5_init_0 : decode cX5_init 0 = .ok (.aload_n 0, 1) := by decide +kernel
theorem dX5_init_1 : decode cX5_init 1 = .ok (.invokespecial 3, 3) := by decide +kernel
theorem dX5_init_4 : decode cX5_init 4 = .ok (.aload_n 0, 1) := by decide +kernel
theorem dX5_init_5 : decode cX5_init 5 = .ok (.bipush 6, 2) := by decide +kernel
theorem dX5_init_7 : decode cX5_init 7 = .ok (.newarray .int, 2) := by decide +kernel
theorem dX5_init_9 : decode cX5_init 9 = .ok (.putfield 9, 3) := by decide +kernel
theorem dX5_init_12 : decode cX5_init 12 = .ok (.aload_n 0, 1) := by decide +kernel
theorem dX5_init_13 : decode cX5_init 13 = .ok (.bipush 6, 2) := by decide +kernel
theorem dX5_init_15 : decode cX5_init 15 = .ok (.newarray .int, 2) := by decide +kernel
theorem dX5_init_17 : decode cX5_init 17 = .ok (.putfield 15, 3) := by decide +kernel
theorem dX5_init_20 : decode cX5_init 20 = .ok (.aload_n 0, 1) := by decide +kernel
theorem dX5_init_21 : decode cX5_init 21 = .ok (.bipush 6, 2) := by decide +kernel
theorem dX5_init_23 : decode cX5_init 23 = .ok (.newarray .int, 2) := by decide +kernel
theorem dX5_init_25 : decode cX5_init 25 = .ok (.putfield 18, 3) := by decide +kernel
theorem dX5_init_28 : decode cX5_init 28 = .ok (.aload_n 0, 1) := by decide +kernel
theorem dX5_init_29 : decode cX5_init 29 = .ok (.bipush 6, 2) := by decide +kernel
theorem dX5_init_31 : decode cX5_init 31 = .ok (.newarray .int, 2) := by decide +kernel
theorem dX5_init_33 : decode cX5_init 33 = .ok (.putfield 21, 3) := by decide +kernel
theorem dX5_init_36 : decode cX5_init 36 = .ok (.aload_n 0, 1) := by decide +kernel
theorem dX5_init_37 : decode cX5_init 37 = .ok (.bipush 6, 2) := by decide +kernel
theorem dX5_init_39 : decode cX5_init 39 = .ok (.newarray .int, 2) := by decide +kernel
theorem dX5_init_41 : decode cX5_init 41 = .ok (.putfield 24, 3) := by decide +kernel
theorem dX5_init_44 : decode cX5_init 44 = .ok (.aload_n 0, 1) := by decide +kernel
theorem dX5_init_45 : decode cX5_init 45 = .ok (.bipush 6, 2) := by decide +kernel
theorem dX5_init_47 : decode cX5_init 47 = .ok (.newarray .int, 2) := by decide +kernel
theorem dX5_init_49 : decode cX5_init 49 = .ok (.putfield 27, 3) := by decide +kernel
theorem dX5_init_52 : decode cX5_init 52 = .ok (.aload_n 0, 1) := by decide +kernel
theorem dX5_init_53 : decode cX5_init 53 = .ok (.bipush 6, 2) := by decide +kernel
theorem dX5_init_55 : decode cX5_init 55 = .ok (.newarray .int, 2) := by decide +kernel
theorem dX5_init_57 : decode cX5_init 57 = .ok (.putfield 30, 3) := by decide +kernel
theorem dX5_init_60 : decode cX5_init 60 = .ok (.aload_n 0, 1) := by decide +kernel
theorem dX5_init_61 : decode cX5_init 61 = .ok (.bipush 6, 2) := by decide +kernel
theorem dX5_init_63 : decode cX5_init 63 = .ok (.newarray .int, 2) := by decide +kernel
theorem dX5_init_65 : decode cX5_init 65 = .ok (.putfield 33, 3) := by decide +kernel
theorem dX5_init_68 : decode cX5_init 68 = .ok (.aload_n 0, 1) := by decide +kernel
theorem dX5_init_69 : decode cX5_init 69 = .ok (.iconst 0, 1) := by decide +kernel
theorem dX5_init_70 : decode cX5_init 70 = .ok (.putfield 36, 3) := by decide +kernel
theorem dX5_init_73 : decode cX5_init 73 = .ok (.aload_n 0, 1) := by decide +kernel
theorem dX5_init_74 : decode cX5_init 74 = .ok (.iconst 0, 1) := by decide +kernel
theorem dX5_init_75 : decode cX5_init 75 = .ok (.putfield 40, 3) := by decide +kernel
theorem dX5_init_78 : decode cX5_init 78 = .ok (.aload_n 0, 1) := by decide +kernel
theorem dX5_init_79 : decode cX5_init 79 = .ok (.iconst 0, 1) := by decide +kernel
theorem dX5_init_80 : decode cX5_init 80 = .ok (.putfield 43, 3) := by decide +kernel
theorem dX5_init_83 : decode cX5_init 83 = .ok (.aload_n 0, 1) := by decide +kernel
theorem dX5_init_84 : decode cX5_init 84 = .ok (.iconst 0, 1) := by decide +kernel
theorem dX5_init_85 : decode cX5_init 85 = .ok (.putfield 46, 3) := by decide +kernel
theorem dX5_init_88 : decode cX5_init 88 = .ok (.aload_n 0, 1) := by decide +kernel
theorem dX5_init_89 : decode cX5_init 89 = .ok (.iconst 0, 1) := by decide +kernel
theorem dX5_init_90 : decode cX5_init 90 = .ok (.putfield 49, 3) := by decide +kernel
theorem dX5_init_93 : decode cX5_init 93 = .ok (.return_, 1) := by decide +kernel
theorem dX5_isTold_0 : decode cX5_isTold 0 = .ok (.aload_n 0, 1) := by decide +kernel
theorem dX5_isTold_1 : decode cX5_isTold 1 = .ok (.getfield 36, 3) := by decide +kernel
theorem dX5_isTold_4 : decode cX5_isTold 4 = .ok (.ifCond .le 7, 3) := by decide +kernel
theorem dX5_isTold_7 : decode cX5_isTold 7 = .ok (.iconst 1, 1) := by decide +kernel
theorem dX5_isTold_8 : decode cX5_isTold 8 = .ok (.goto 4, 3) := by decide +kernel
theorem dX5_isTold_11 : decode cX5_isTold 11 = .ok (.iconst 0, 1) := by decide +kernel
theorem dX5_isTold_12 : decode cX5_isTold 12 = .ok (.ireturn, 1) := by decide +kernel
theorem dX5_hasDoor_0 : decode cX5_hasDoor 0 = .ok (.iload_n 1, 1) := by decide +kernel
theorem dX5_hasDoor_1 : decode cX5_hasDoor 1 = .ok (.ifCond .lt 15, 3) := by decide +kernel
theorem dX5_hasDoor_4 : decode cX5_hasDoor 4 = .ok (.iload_n 1, 1) := by decide +kernel
theorem dX5_hasDoor_5 : decode cX5_hasDoor 5 = .ok (.aload_n 0, 1) := by decide +kernel
theorem dX5_hasDoor_6 : decode cX5_hasDoor 6 = .ok (.getfield 36, 3) := by decide +kernel
theorem dX5_hasDoor_9 : decode cX5_hasDoor 9 = .ok (.if_icmp .ge 7, 3) := by decide +kernel
theorem dX5_hasDoor_12 : decode cX5_hasDoor 12 = .ok (.iconst 1, 1) := by decide +kernel
theorem dX5_hasDoor_13 : decode cX5_hasDoor 13 = .ok (.goto 4, 3) := by decide +kernel
theorem dX5_hasDoor_16 : decode cX5_hasDoor 16 = .ok (.iconst 0, 1) := by decide +kernel
theorem dX5_hasDoor_17 : decode cX5_hasDoor 17 = .ok (.ireturn, 1) := by decide +kernel
theorem dX5_hasCaller_0 : decode cX5_hasCaller 0 = .ok (.iload_n 1, 1) := by decide +kernel
theorem dX5_hasCaller_1 : decode cX5_hasCaller 1 = .ok (.ifCond .lt 15, 3) := by decide +kernel
theorem dX5_hasCaller_4 : decode cX5_hasCaller 4 = .ok (.iload_n 1, 1) := by decide +kernel
theorem dX5_hasCaller_5 : decode cX5_hasCaller 5 = .ok (.aload_n 0, 1) := by decide +kernel
theorem dX5_hasCaller_6 : decode cX5_hasCaller 6 = .ok (.getfield 40, 3) := by decide +kernel
theorem dX5_hasCaller_9 : decode cX5_hasCaller 9 = .ok (.if_icmp .ge 7, 3) := by decide +kernel
theorem dX5_hasCaller_12 : decode cX5_hasCaller 12 = .ok (.iconst 1, 1) := by decide +kernel
theorem dX5_hasCaller_13 : decode cX5_hasCaller 13 = .ok (.goto 4, 3) := by decide +kernel
theorem dX5_hasCaller_16 : decode cX5_hasCaller 16 = .ok (.iconst 0, 1) := by decide +kernel
theorem dX5_hasCaller_17 : decode cX5_hasCaller 17 = .ok (.ireturn, 1) := by decide +kernel
theorem dX5_allDoors_0 : decode cX5_allDoors 0 = .ok (.iconst 1, 1) := by decide +kernel
theorem dX5_allDoors_1 : decode cX5_allDoors 1 = .ok (.aload_n 0, 1) := by decide +kernel
theorem dX5_allDoors_2 : decode cX5_allDoors 2 = .ok (.getfield 36, 3) := by decide +kernel
theorem dX5_allDoors_5 : decode cX5_allDoors 5 = .ok (.ishl, 1) := by decide +kernel
theorem dX5_allDoors_6 : decode cX5_allDoors 6 = .ok (.iconst 1, 1) := by decide +kernel
theorem dX5_allDoors_7 : decode cX5_allDoors 7 = .ok (.isub, 1) := by decide +kernel
theorem dX5_allDoors_8 : decode cX5_allDoors 8 = .ok (.ireturn, 1) := by decide +kernel
theorem dX5_allCallers_0 : decode cX5_allCallers 0 = .ok (.iconst 1, 1) := by decide +kernel
theorem dX5_allCallers_1 : decode cX5_allCallers 1 = .ok (.aload_n 0, 1) := by decide +kernel
theorem dX5_allCallers_2 : decode cX5_allCallers 2 = .ok (.getfield 40, 3) := by decide +kernel
theorem dX5_allCallers_5 : decode cX5_allCallers 5 = .ok (.ishl, 1) := by decide +kernel
theorem dX5_allCallers_6 : decode cX5_allCallers 6 = .ok (.iconst 1, 1) := by decide +kernel
theorem dX5_allCallers_7 : decode cX5_allCallers 7 = .ok (.isub, 1) := by decide +kernel
theorem dX5_allCallers_8 : decode cX5_allCallers 8 = .ok (.ireturn, 1) := by decide +kernel
theorem dX5_begin_0 : decode cX5_begin 0 = .ok (.aload_n 0, 1) := by decide +kernel
theorem dX5_begin_1 : decode cX5_begin 1 = .ok (.iconst 0, 1) := by decide +kernel
theorem dX5_begin_2 : decode cX5_begin 2 = .ok (.putfield 36, 3) := by decide +kernel
theorem dX5_begin_5 : decode cX5_begin 5 = .ok (.aload_n 0, 1) := by decide +kernel
theorem dX5_begin_6 : decode cX5_begin 6 = .ok (.iconst 0, 1) := by decide +kernel
theorem dX5_begin_7 : decode cX5_begin 7 = .ok (.putfield 40, 3) := by decide +kernel
theorem dX5_begin_10 : decode cX5_begin 10 = .ok (.aload_n 0, 1) := by decide +kernel
theorem dX5_begin_11 : decode cX5_begin 11 = .ok (.iload_n 1, 1) := by decide +kernel
theorem dX5_begin_12 : decode cX5_begin 12 = .ok (.putfield 43, 3) := by decide +kernel
theorem dX5_begin_15 : decode cX5_begin 15 = .ok (.aload_n 0, 1) := by decide +kernel
theorem dX5_begin_16 : decode cX5_begin 16 = .ok (.iload_n 2, 1) := by decide +kernel
theorem dX5_begin_17 : decode cX5_begin 17 = .ok (.putfield 46, 3) := by decide +kernel
theorem dX5_begin_20 : decode cX5_begin 20 = .ok (.aload_n 0, 1) := by decide +kernel
theorem dX5_begin_21 : decode cX5_begin 21 = .ok (.iconst 0, 1) := by decide +kernel
theorem dX5_begin_22 : decode cX5_begin 22 = .ok (.putfield 49, 3) := by decide +kernel
theorem dX5_begin_25 : decode cX5_begin 25 = .ok (.return_, 1) := by decide +kernel
theorem dX5_addDoor_0 : decode cX5_addDoor 0 = .ok (.aload_n 0, 1) := by decide +kernel
theorem dX5_addDoor_1 : decode cX5_addDoor 1 = .ok (.getfield 9, 3) := by decide +kernel
theorem dX5_addDoor_4 : decode cX5_addDoor 4 = .ok (.aload_n 0, 1) := by decide +kernel
theorem dX5_addDoor_5 : decode cX5_addDoor 5 = .ok (.getfield 36, 3) := by decide +kernel
theorem dX5_addDoor_8 : decode cX5_addDoor 8 = .ok (.iload_n 1, 1) := by decide +kernel
theorem dX5_addDoor_9 : decode cX5_addDoor 9 = .ok (.iastore, 1) := by decide +kernel
theorem dX5_addDoor_10 : decode cX5_addDoor 10 = .ok (.aload_n 0, 1) := by decide +kernel
theorem dX5_addDoor_11 : decode cX5_addDoor 11 = .ok (.dup, 1) := by decide +kernel
theorem dX5_addDoor_12 : decode cX5_addDoor 12 = .ok (.getfield 36, 3) := by decide +kernel
theorem dX5_addDoor_15 : decode cX5_addDoor 15 = .ok (.iconst 1, 1) := by decide +kernel
theorem dX5_addDoor_16 : decode cX5_addDoor 16 = .ok (.iadd, 1) := by decide +kernel
theorem dX5_addDoor_17 : decode cX5_addDoor 17 = .ok (.putfield 36, 3) := by decide +kernel
theorem dX5_addDoor_20 : decode cX5_addDoor 20 = .ok (.aload_n 0, 1) := by decide +kernel
theorem dX5_addDoor_21 : decode cX5_addDoor 21 = .ok (.aload_n 0, 1) := by decide +kernel
theorem dX5_addDoor_22 : decode cX5_addDoor 22 = .ok (.getfield 36, 3) := by decide +kernel
theorem dX5_addDoor_25 : decode cX5_addDoor 25 = .ok (.iconst 1, 1) := by decide +kernel
theorem dX5_addDoor_26 : decode cX5_addDoor 26 = .ok (.isub, 1) := by decide +kernel
theorem dX5_addDoor_27 : decode cX5_addDoor 27 = .ok (.invokevirtual 52, 3) := by decide +kernel
theorem dX5_addDoor_30 : decode cX5_addDoor 30 = .ok (.return_, 1) := by decide +kernel
theorem dX5_addCaller_0 : decode cX5_addCaller 0 = .ok (.aload_n 0, 1) := by decide +kernel
theorem dX5_addCaller_1 : decode cX5_addCaller 1 = .ok (.getfield 24, 3) := by decide +kernel
theorem dX5_addCaller_4 : decode cX5_addCaller 4 = .ok (.aload_n 0, 1) := by decide +kernel
theorem dX5_addCaller_5 : decode cX5_addCaller 5 = .ok (.getfield 40, 3) := by decide +kernel
theorem dX5_addCaller_8 : decode cX5_addCaller 8 = .ok (.iload_n 1, 1) := by decide +kernel
theorem dX5_addCaller_9 : decode cX5_addCaller 9 = .ok (.iastore, 1) := by decide +kernel
theorem dX5_addCaller_10 : decode cX5_addCaller 10 = .ok (.aload_n 0, 1) := by decide +kernel
theorem dX5_addCaller_11 : decode cX5_addCaller 11 = .ok (.getfield 27, 3) := by decide +kernel
theorem dX5_addCaller_14 : decode cX5_addCaller 14 = .ok (.aload_n 0, 1) := by decide +kernel
theorem dX5_addCaller_15 : decode cX5_addCaller 15 = .ok (.getfield 40, 3) := by decide +kernel
theorem dX5_addCaller_18 : decode cX5_addCaller 18 = .ok (.iload_n 2, 1) := by decide +kernel
theorem dX5_addCaller_19 : decode cX5_addCaller 19 = .ok (.iastore, 1) := by decide +kernel
theorem dX5_addCaller_20 : decode cX5_addCaller 20 = .ok (.aload_n 0, 1) := by decide +kernel
theorem dX5_addCaller_21 : decode cX5_addCaller 21 = .ok (.getfield 30, 3) := by decide +kernel
theorem dX5_addCaller_24 : decode cX5_addCaller 24 = .ok (.aload_n 0, 1) := by decide +kernel
theorem dX5_addCaller_25 : decode cX5_addCaller 25 = .ok (.getfield 40, 3) := by decide +kernel
theorem dX5_addCaller_28 : decode cX5_addCaller 28 = .ok (.iload_n 3, 1) := by decide +kernel
theorem dX5_addCaller_29 : decode cX5_addCaller 29 = .ok (.iastore, 1) := by decide +kernel
theorem dX5_addCaller_30 : decode cX5_addCaller 30 = .ok (.aload_n 0, 1) := by decide +kernel
theorem dX5_addCaller_31 : decode cX5_addCaller 31 = .ok (.getfield 33, 3) := by decide +kernel
theorem dX5_addCaller_34 : decode cX5_addCaller 34 = .ok (.aload_n 0, 1) := by decide +kernel
theorem dX5_addCaller_35 : decode cX5_addCaller 35 = .ok (.getfield 40, 3) := by decide +kernel
theorem dX5_addCaller_38 : decode cX5_addCaller 38 = .ok (.iconst 0, 1) := by decide +kernel
theorem dX5_addCaller_39 : decode cX5_addCaller 39 = .ok (.iastore, 1) := by decide +kernel
theorem dX5_addCaller_40 : decode cX5_addCaller 40 = .ok (.aload_n 0, 1) := by decide +kernel
theorem dX5_addCaller_41 : decode cX5_addCaller 41 = .ok (.dup, 1) := by decide +kernel
theorem dX5_addCaller_42 : decode cX5_addCaller 42 = .ok (.getfield 40, 3) := by decide +kernel
theorem dX5_addCaller_45 : decode cX5_addCaller 45 = .ok (.iconst 1, 1) := by decide +kernel
theorem dX5_addCaller_46 : decode cX5_addCaller 46 = .ok (.iadd, 1) := by decide +kernel
theorem dX5_addCaller_47 : decode cX5_addCaller 47 = .ok (.putfield 40, 3) := by decide +kernel
theorem dX5_addCaller_50 : decode cX5_addCaller 50 = .ok (.return_, 1) := by decide +kernel
theorem dX5_clearDoor_0 : decode cX5_clearDoor 0 = .ok (.aload_n 0, 1) := by decide +kernel
theorem dX5_clearDoor_1 : decode cX5_clearDoor 1 = .ok (.iload_n 1, 1) := by decide +kernel
theorem dX5_clearDoor_2 : decode cX5_clearDoor 2 = .ok (.invokevirtual 56, 3) := by decide +kernel
theorem dX5_clearDoor_5 : decode cX5_clearDoor 5 = .ok (.ifCond .eq 24, 3) := by decide +kernel
theorem dX5_clearDoor_8 : decode cX5_clearDoor 8 = .ok (.aload_n 0, 1) := by decide +kernel
theorem dX5_clearDoor_9 : decode cX5_clearDoor 9 = .ok (.getfield 15, 3) := by decide +kernel
theorem dX5_clearDoor_12 : decode cX5_clearDoor 12 = .ok (.iload_n 1, 1) := by decide +kernel
theorem dX5_clearDoor_13 : decode cX5_clearDoor 13 = .ok (.iconst 0, 1) := by decide +kernel
theorem dX5_clearDoor_14 : decode cX5_clearDoor 14 = .ok (.iastore, 1) := by decide +kernel
theorem dX5_clearDoor_15 : decode cX5_clearDoor 15 = .ok (.aload_n 0, 1) := by decide +kernel
theorem dX5_clearDoor_16 : decode cX5_clearDoor 16 = .ok (.getfield 18, 3) := by decide +kernel
theorem dX5_clearDoor_19 : decode cX5_clearDoor 19 = .ok (.iload_n 1, 1) := by decide +kernel
theorem dX5_clearDoor_20 : decode cX5_clearDoor 20 = .ok (.iconst 0, 1) := by decide +kernel
theorem dX5_clearDoor_21 : decode cX5_clearDoor 21 = .ok (.iastore, 1) := by decide +kernel
theorem dX5_clearDoor_22 : decode cX5_clearDoor 22 = .ok (.aload_n 0, 1) := by decide +kernel
theorem dX5_clearDoor_23 : decode cX5_clearDoor 23 = .ok (.getfield 21, 3) := by decide +kernel
theorem dX5_clearDoor_26 : decode cX5_clearDoor 26 = .ok (.iload_n 1, 1) := by decide +kernel
theorem dX5_clearDoor_27 : decode cX5_clearDoor 27 = .ok (.iconst 0, 1) := by decide +kernel
theorem dX5_clearDoor_28 : decode cX5_clearDoor 28 = .ok (.iastore, 1) := by decide +kernel
theorem dX5_clearDoor_29 : decode cX5_clearDoor 29 = .ok (.return_, 1) := by decide +kernel
theorem dX5_takeOver_0 : decode cX5_takeOver 0 = .ok (.aload_n 1, 1) := by decide +kernel
theorem dX5_takeOver_1 : decode cX5_takeOver 1 = .ok (.getfield 9, 3) := by decide +kernel
theorem dX5_takeOver_4 : decode cX5_takeOver 4 = .ok (.iconst 0, 1) := by decide +kernel
theorem dX5_takeOver_5 : decode cX5_takeOver 5 = .ok (.aload_n 0, 1) := by decide +kernel
theorem dX5_takeOver_6 : decode cX5_takeOver 6 = .ok (.getfield 9, 3) := by decide +kernel
theorem dX5_takeOver_9 : decode cX5_takeOver 9 = .ok (.iconst 0, 1) := by decide +kernel
theorem dX5_takeOver_10 : decode cX5_takeOver 10 = .ok (.bipush 6, 2) := by decide +kernel
theorem dX5_takeOver_12 : decode cX5_takeOver 12 = .ok (.invokestatic 60, 3) := by decide +kernel
theorem dX5_takeOver_15 : decode cX5_takeOver 15 = .ok (.aload_n 1, 1) := by decide +kernel
theorem dX5_takeOver_16 : decode cX5_takeOver 16 = .ok (.getfield 15, 3) := by decide +kernel
theorem dX5_takeOver_19 : decode cX5_takeOver 19 = .ok (.iconst 0, 1) := by decide +kernel
end
section
theorem dX5_takeOver_20 : decode cX5_takeOver 20 = .ok (.aload_n 0, 1) := by decide +kernel
theorem dX5_takeOver_21 : decode cX5_takeOver 21 = .ok (.getfield 15, 3) := by decide +kernel
theorem dX5_takeOver_24 : decode cX5_takeOver 24 = .ok (.iconst 0, 1) := by decide +kernel
theorem dX5_takeOver_25 : decode cX5_takeOver 25 = .ok (.bipush 6, 2) := by decide +kernel
theorem dX5_takeOver_27 : decode cX5_takeOver 27 = .ok (.invokestatic 60, 3) := by decide +kernel
theorem dX5_takeOver_30 : decode cX5_takeOver 30 = .ok (.aload_n 1, 1) := by decide +kernel
theorem dX5_takeOver_31 : decode cX5_takeOver 31 = .ok (.getfield 18, 3) := by decide +kernel
theorem dX5_takeOver_34 : decode cX5_takeOver 34 = .ok (.iconst 0, 1) := by decide +kernel
theorem dX5_takeOver_35 : decode cX5_takeOver 35 = .ok (.aload_n 0, 1) := by decide +kernel
theorem dX5_takeOver_36 : decode cX5_takeOver 36 = .ok (.getfield 18, 3) := by decide +kernel
theorem dX5_takeOver_39 : decode cX5_takeOver 39 = .ok (.iconst 0, 1) := by decide +kernel
theorem dX5_takeOver_40 : decode cX5_takeOver 40 = .ok (.bipush 6, 2) := by decide +kernel
theorem dX5_takeOver_42 : decode cX5_takeOver 42 = .ok (.invokestatic 60, 3) := by decide +kernel
theorem dX5_takeOver_45 : decode cX5_takeOver 45 = .ok (.aload_n 1, 1) := by decide +kernel
theorem dX5_takeOver_46 : decode cX5_takeOver 46 = .ok (.getfield 21, 3) := by decide +kernel
theorem dX5_takeOver_49 : decode cX5_takeOver 49 = .ok (.iconst 0, 1) := by decide +kernel
theorem dX5_takeOver_50 : decode cX5_takeOver 50 = .ok (.aload_n 0, 1) := by decide +kernel
theorem dX5_takeOver_51 : decode cX5_takeOver 51 = .ok (.getfield 21, 3) := by decide +kernel
theorem dX5_takeOver_54 : decode cX5_takeOver 54 = .ok (.iconst 0, 1) := by decide +kernel
theorem dX5_takeOver_55 : decode cX5_takeOver 55 = .ok (.bipush 6, 2) := by decide +kernel
theorem dX5_takeOver_57 : decode cX5_takeOver 57 = .ok (.invokestatic 60, 3) := by decide +kernel
theorem dX5_takeOver_60 : decode cX5_takeOver 60 = .ok (.aload_n 1, 1) := by decide +kernel
theorem dX5_takeOver_61 : decode cX5_takeOver 61 = .ok (.getfield 24, 3) := by decide +kernel
theorem dX5_takeOver_64 : decode cX5_takeOver 64 = .ok (.iconst 0, 1) := by decide +kernel
theorem dX5_takeOver_65 : decode cX5_takeOver 65 = .ok (.aload_n 0, 1) := by decide +kernel
theorem dX5_takeOver_66 : decode cX5_takeOver 66 = .ok (.getfield 24, 3) := by decide +kernel
theorem dX5_takeOver_69 : decode cX5_takeOver 69 = .ok (.iconst 0, 1) := by decide +kernel
theorem dX5_takeOver_70 : decode cX5_takeOver 70 = .ok (.bipush 6, 2) := by decide +kernel
theorem dX5_takeOver_72 : decode cX5_takeOver 72 = .ok (.invokestatic 60, 3) := by decide +kernel
theorem dX5_takeOver_75 : decode cX5_takeOver 75 = .ok (.aload_n 1, 1) := by decide +kernel
theorem dX5_takeOver_76 : decode cX5_takeOver 76 = .ok (.getfield 27, 3) := by decide +kernel
theorem dX5_takeOver_79 : decode cX5_takeOver 79 = .ok (.iconst 0, 1) := by decide +kernel
theorem dX5_takeOver_80 : decode cX5_takeOver 80 = .ok (.aload_n 0, 1) := by decide +kernel
theorem dX5_takeOver_81 : decode cX5_takeOver 81 = .ok (.getfield 27, 3) := by decide +kernel
theorem dX5_takeOver_84 : decode cX5_takeOver 84 = .ok (.iconst 0, 1) := by decide +kernel
theorem dX5_takeOver_85 : decode cX5_takeOver 85 = .ok (.bipush 6, 2) := by decide +kernel
theorem dX5_takeOver_87 : decode cX5_takeOver 87 = .ok (.invokestatic 60, 3) := by decide +kernel
theorem dX5_takeOver_90 : decode cX5_takeOver 90 = .ok (.aload_n 1, 1) := by decide +kernel
theorem dX5_takeOver_91 : decode cX5_takeOver 91 = .ok (.getfield 30, 3) := by decide +kernel
theorem dX5_takeOver_94 : decode cX5_takeOver 94 = .ok (.iconst 0, 1) := by decide +kernel
theorem dX5_takeOver_95 : decode cX5_takeOver 95 = .ok (.aload_n 0, 1) := by decide +kernel
theorem dX5_takeOver_96 : decode cX5_takeOver 96 = .ok (.getfield 30, 3) := by decide +kernel
theorem dX5_takeOver_99 : decode cX5_takeOver 99 = .ok (.iconst 0, 1) := by decide +kernel
theorem dX5_takeOver_100 : decode cX5_takeOver 100 = .ok (.bipush 6, 2) := by decide +kernel
theorem dX5_takeOver_102 : decode cX5_takeOver 102 = .ok (.invokestatic 60, 3) := by decide +kernel
theorem dX5_takeOver_105 : decode cX5_takeOver 105 = .ok (.aload_n 1, 1) := by decide +kernel
theorem dX5_takeOver_106 : decode cX5_takeOver 106 = .ok (.getfield 33, 3) := by decide +kernel
theorem dX5_takeOver_109 : decode cX5_takeOver 109 = .ok (.iconst 0, 1) := by decide +kernel
theorem dX5_takeOver_110 : decode cX5_takeOver 110 = .ok (.aload_n 0, 1) := by decide +kernel
theorem dX5_takeOver_111 : decode cX5_takeOver 111 = .ok (.getfield 33, 3) := by decide +kernel
theorem dX5_takeOver_114 : decode cX5_takeOver 114 = .ok (.iconst 0, 1) := by decide +kernel
theorem dX5_takeOver_115 : decode cX5_takeOver 115 = .ok (.bipush 6, 2) := by decide +kernel
theorem dX5_takeOver_117 : decode cX5_takeOver 117 = .ok (.invokestatic 60, 3) := by decide +kernel
theorem dX5_takeOver_120 : decode cX5_takeOver 120 = .ok (.aload_n 0, 1) := by decide +kernel
theorem dX5_takeOver_121 : decode cX5_takeOver 121 = .ok (.aload_n 1, 1) := by decide +kernel
theorem dX5_takeOver_122 : decode cX5_takeOver 122 = .ok (.getfield 36, 3) := by decide +kernel
theorem dX5_takeOver_125 : decode cX5_takeOver 125 = .ok (.putfield 36, 3) := by decide +kernel
theorem dX5_takeOver_128 : decode cX5_takeOver 128 = .ok (.aload_n 0, 1) := by decide +kernel
theorem dX5_takeOver_129 : decode cX5_takeOver 129 = .ok (.aload_n 1, 1) := by decide +kernel
theorem dX5_takeOver_130 : decode cX5_takeOver 130 = .ok (.getfield 40, 3) := by decide +kernel
theorem dX5_takeOver_133 : decode cX5_takeOver 133 = .ok (.putfield 40, 3) := by decide +kernel
theorem dX5_takeOver_136 : decode cX5_takeOver 136 = .ok (.aload_n 0, 1) := by decide +kernel
theorem dX5_takeOver_137 : decode cX5_takeOver 137 = .ok (.aload_n 1, 1) := by decide +kernel
theorem dX5_takeOver_138 : decode cX5_takeOver 138 = .ok (.getfield 43, 3) := by decide +kernel
theorem dX5_takeOver_141 : decode cX5_takeOver 141 = .ok (.putfield 43, 3) := by decide +kernel
theorem dX5_takeOver_144 : decode cX5_takeOver 144 = .ok (.aload_n 0, 1) := by decide +kernel
theorem dX5_takeOver_145 : decode cX5_takeOver 145 = .ok (.aload_n 1, 1) := by decide +kernel
theorem dX5_takeOver_146 : decode cX5_takeOver 146 = .ok (.getfield 46, 3) := by decide +kernel
theorem dX5_takeOver_149 : decode cX5_takeOver 149 = .ok (.putfield 46, 3) := by decide +kernel
theorem dX5_takeOver_152 : decode cX5_takeOver 152 = .ok (.aload_n 0, 1) := by decide +kernel
theorem dX5_takeOver_153 : decode cX5_takeOver 153 = .ok (.aload_n 1, 1) := by decide +kernel
theorem dX5_takeOver_154 : decode cX5_takeOver 154 = .ok (.getfield 49, 3) := by decide +kernel
theorem dX5_takeOver_157 : decode cX5_takeOver 157 = .ok (.putfield 49, 3) := by decide +kernel
theorem dX5_takeOver_160 : decode cX5_takeOver 160 = .ok (.return_, 1) := by decide +kernel
theorem dX5_usedSeconds_0 : decode cX5_usedSeconds 0 = .ok (.aload_n 0, 1) := by decide +kernel
theorem dX5_usedSeconds_1 : decode cX5_usedSeconds 1 = .ok (.getfield 15, 3) := by decide +kernel
theorem dX5_usedSeconds_4 : decode cX5_usedSeconds 4 = .ok (.aload_n 0, 1) := by decide +kernel
theorem dX5_usedSeconds_5 : decode cX5_usedSeconds 5 = .ok (.getfield 36, 3) := by decide +kernel
theorem dX5_usedSeconds_8 : decode cX5_usedSeconds 8 = .ok (.invokestatic 66, 3) := by decide +kernel
theorem dX5_usedSeconds_11 : decode cX5_usedSeconds 11 = .ok (.ireturn, 1) := by decide +kernel
theorem dX5_usedSounds_0 : decode cX5_usedSounds 0 = .ok (.aload_n 0, 1) := by decide +kernel
theorem dX5_usedSounds_1 : decode cX5_usedSounds 1 = .ok (.getfield 18, 3) := by decide +kernel
theorem dX5_usedSounds_4 : decode cX5_usedSounds 4 = .ok (.aload_n 0, 1) := by decide +kernel
theorem dX5_usedSounds_5 : decode cX5_usedSounds 5 = .ok (.getfield 36, 3) := by decide +kernel
theorem dX5_usedSounds_8 : decode cX5_usedSounds 8 = .ok (.invokestatic 66, 3) := by decide +kernel
theorem dX5_usedSounds_11 : decode cX5_usedSounds 11 = .ok (.aload_n 0, 1) := by decide +kernel
theorem dX5_usedSounds_12 : decode cX5_usedSounds 12 = .ok (.getfield 21, 3) := by decide +kernel
theorem dX5_usedSounds_15 : decode cX5_usedSounds 15 = .ok (.aload_n 0, 1) := by decide +kernel
theorem dX5_usedSounds_16 : decode cX5_usedSounds 16 = .ok (.getfield 36, 3) := by decide +kernel
theorem dX5_usedSounds_19 : decode cX5_usedSounds 19 = .ok (.invokestatic 66, 3) := by decide +kernel
theorem dX5_usedSounds_22 : decode cX5_usedSounds 22 = .ok (.iadd, 1) := by decide +kernel
theorem dX5_usedSounds_23 : decode cX5_usedSounds 23 = .ok (.ireturn, 1) := by decide +kernel
theorem dX5_metsAdded_0 : decode cX5_metsAdded 0 = .ok (.aload_n 0, 1) := by decide +kernel
theorem dX5_metsAdded_1 : decode cX5_metsAdded 1 = .ok (.getfield 33, 3) := by decide +kernel
theorem dX5_metsAdded_4 : decode cX5_metsAdded 4 = .ok (.aload_n 0, 1) := by decide +kernel
theorem dX5_metsAdded_5 : decode cX5_metsAdded 5 = .ok (.getfield 40, 3) := by decide +kernel
theorem dX5_metsAdded_8 : decode cX5_metsAdded 8 = .ok (.invokestatic 66, 3) := by decide +kernel
theorem dX5_metsAdded_11 : decode cX5_metsAdded 11 = .ok (.ireturn, 1) := by decide +kernel
theorem dX5_placesAdded_0 : decode cX5_placesAdded 0 = .ok (.aload_n 0, 1) := by decide +kernel
theorem dX5_placesAdded_1 : decode cX5_placesAdded 1 = .ok (.getfield 27, 3) := by decide +kernel
theorem dX5_placesAdded_4 : decode cX5_placesAdded 4 = .ok (.aload_n 0, 1) := by decide +kernel
theorem dX5_placesAdded_5 : decode cX5_placesAdded 5 = .ok (.getfield 40, 3) := by decide +kernel
theorem dX5_placesAdded_8 : decode cX5_placesAdded 8 = .ok (.invokestatic 66, 3) := by decide +kernel
theorem dX5_placesAdded_11 : decode cX5_placesAdded 11 = .ok (.ireturn, 1) := by decide +kernel
theorem dX5_heardAt_0 : decode cX5_heardAt 0 = .ok (.iload_n 1, 1) := by decide +kernel
theorem dX5_heardAt_1 : decode cX5_heardAt 1 = .ok (.iconst 1, 1) := by decide +kernel
theorem dX5_heardAt_2 : decode cX5_heardAt 2 = .ok (.isub, 1) := by decide +kernel
theorem dX5_heardAt_3 : decode cX5_heardAt 3 = .ok (.istore_n 2, 1) := by decide +kernel
theorem dX5_heardAt_4 : decode cX5_heardAt 4 = .ok (.iload_n 2, 1) := by decide +kernel
theorem dX5_heardAt_5 : decode cX5_heardAt 5 = .ok (.iload_n 1, 1) := by decide +kernel
theorem dX5_heardAt_6 : decode cX5_heardAt 6 = .ok (.iconst 1, 1) := by decide +kernel
theorem dX5_heardAt_7 : decode cX5_heardAt 7 = .ok (.iadd, 1) := by decide +kernel
theorem dX5_heardAt_8 : decode cX5_heardAt 8 = .ok (.if_icmp .gt 29, 3) := by decide +kernel
theorem dX5_heardAt_11 : decode cX5_heardAt 11 = .ok (.aload_n 0, 1) := by decide +kernel
theorem dX5_heardAt_12 : decode cX5_heardAt 12 = .ok (.iload_n 2, 1) := by decide +kernel
theorem dX5_heardAt_13 : decode cX5_heardAt 13 = .ok (.invokevirtual 56, 3) := by decide +kernel
theorem dX5_heardAt_16 : decode cX5_heardAt 16 = .ok (.ifCond .eq 15, 3) := by decide +kernel
theorem dX5_heardAt_19 : decode cX5_heardAt 19 = .ok (.aload_n 0, 1) := by decide +kernel
theorem dX5_heardAt_20 : decode cX5_heardAt 20 = .ok (.getfield 21, 3) := by decide +kernel
theorem dX5_heardAt_23 : decode cX5_heardAt 23 = .ok (.iload_n 2, 1) := by decide +kernel
theorem dX5_heardAt_24 : decode cX5_heardAt 24 = .ok (.iaload, 1) := by decide +kernel
theorem dX5_heardAt_25 : decode cX5_heardAt 25 = .ok (.iconst 1, 1) := by decide +kernel
theorem dX5_heardAt_26 : decode cX5_heardAt 26 = .ok (.if_icmp .ne 5, 3) := by decide +kernel
theorem dX5_heardAt_29 : decode cX5_heardAt 29 = .ok (.iconst 1, 1) := by decide +kernel
theorem dX5_heardAt_30 : decode cX5_heardAt 30 = .ok (.ireturn, 1) := by decide +kernel
theorem dX5_heardAt_31 : decode cX5_heardAt 31 = .ok (.iinc 2 1, 3) := by decide +kernel
theorem dX5_heardAt_34 : decode cX5_heardAt 34 = .ok (.goto (-30), 3) := by decide +kernel
theorem dX5_heardAt_37 : decode cX5_heardAt 37 = .ok (.iconst 0, 1) := by decide +kernel
theorem dX5_heardAt_38 : decode cX5_heardAt 38 = .ok (.ireturn, 1) := by decide +kernel
theorem dX5_opensBehind_0 : decode cX5_opensBehind 0 = .ok (.aload_n 0, 1) := by decide +kernel
theorem dX5_opensBehind_1 : decode cX5_opensBehind 1 = .ok (.getfield 9, 3) := by decide +kernel
theorem dX5_opensBehind_4 : decode cX5_opensBehind 4 = .ok (.iload_n 1, 1) := by decide +kernel
theorem dX5_opensBehind_5 : decode cX5_opensBehind 5 = .ok (.iaload, 1) := by decide +kernel
theorem dX5_opensBehind_6 : decode cX5_opensBehind 6 = .ok (.aload_n 0, 1) := by decide +kernel
theorem dX5_opensBehind_7 : decode cX5_opensBehind 7 = .ok (.getfield 15, 3) := by decide +kernel
theorem dX5_opensBehind_10 : decode cX5_opensBehind 10 = .ok (.iload_n 1, 1) := by decide +kernel
theorem dX5_opensBehind_11 : decode cX5_opensBehind 11 = .ok (.iaload, 1) := by decide +kernel
theorem dX5_opensBehind_12 : decode cX5_opensBehind 12 = .ok (.aload_n 0, 1) := by decide +kernel
theorem dX5_opensBehind_13 : decode cX5_opensBehind 13 = .ok (.getfield 18, 3) := by decide +kernel
theorem dX5_opensBehind_16 : decode cX5_opensBehind 16 = .ok (.iload_n 1, 1) := by decide +kernel
theorem dX5_opensBehind_17 : decode cX5_opensBehind 17 = .ok (.iaload, 1) := by decide +kernel
theorem dX5_opensBehind_18 : decode cX5_opensBehind 18 = .ok (.aload_n 0, 1) := by decide +kernel
theorem dX5_opensBehind_19 : decode cX5_opensBehind 19 = .ok (.iload_n 1, 1) := by decide +kernel
theorem dX5_opensBehind_20 : decode cX5_opensBehind 20 = .ok (.invokevirtual 70, 3) := by decide +kernel
theorem dX5_opensBehind_23 : decode cX5_opensBehind 23 = .ok (.invokestatic 74, 3) := by decide +kernel
theorem dX5_opensBehind_26 : decode cX5_opensBehind 26 = .ok (.ireturn, 1) := by decide +kernel
theorem dX5_staysHowLong_0 : decode cX5_staysHowLong 0 = .ok (.aload_n 0, 1) := by decide +kernel
theorem dX5_staysHowLong_1 : decode cX5_staysHowLong 1 = .ok (.iload_n 1, 1) := by decide +kernel
theorem dX5_staysHowLong_2 : decode cX5_staysHowLong 2 = .ok (.aload_n 0, 1) := by decide +kernel
theorem dX5_staysHowLong_3 : decode cX5_staysHowLong 3 = .ok (.getfield 24, 3) := by decide +kernel
theorem dX5_staysHowLong_6 : decode cX5_staysHowLong 6 = .ok (.iload_n 1, 1) := by decide +kernel
theorem dX5_staysHowLong_7 : decode cX5_staysHowLong 7 = .ok (.iaload, 1) := by decide +kernel
theorem dX5_staysHowLong_8 : decode cX5_staysHowLong 8 = .ok (.aload_n 0, 1) := by decide +kernel
theorem dX5_staysHowLong_9 : decode cX5_staysHowLong 9 = .ok (.getfield 27, 3) := by decide +kernel
theorem dX5_staysHowLong_12 : decode cX5_staysHowLong 12 = .ok (.iload_n 1, 1) := by decide +kernel
theorem dX5_staysHowLong_13 : decode cX5_staysHowLong 13 = .ok (.iaload, 1) := by decide +kernel
theorem dX5_staysHowLong_14 : decode cX5_staysHowLong 14 = .ok (.invokevirtual 78, 3) := by decide +kernel
theorem dX5_staysHowLong_17 : decode cX5_staysHowLong 17 = .ok (.ireturn, 1) := by decide +kernel
theorem dX5_staysAs_0 : decode cX5_staysAs 0 = .ok (.iload_n 2, 1) := by decide +kernel
theorem dX5_staysAs_1 : decode cX5_staysAs 1 = .ok (.aload_n 0, 1) := by decide +kernel
theorem dX5_staysAs_2 : decode cX5_staysAs 2 = .ok (.getfield 30, 3) := by decide +kernel
theorem dX5_staysAs_5 : decode cX5_staysAs 5 = .ok (.iload_n 1, 1) := by decide +kernel
theorem dX5_staysAs_6 : decode cX5_staysAs 6 = .ok (.iaload, 1) := by decide +kernel
theorem dX5_staysAs_7 : decode cX5_staysAs 7 = .ok (.aload_n 0, 1) := by decide +kernel
theorem dX5_staysAs_8 : decode cX5_staysAs 8 = .ok (.getfield 15, 3) := by decide +kernel
theorem dX5_staysAs_11 : decode cX5_staysAs 11 = .ok (.iload_n 3, 1) := by decide +kernel
theorem dX5_staysAs_12 : decode cX5_staysAs 12 = .ok (.iaload, 1) := by decide +kernel
theorem dX5_staysAs_13 : decode cX5_staysAs 13 = .ok (.aload_n 0, 1) := by decide +kernel
theorem dX5_staysAs_14 : decode cX5_staysAs 14 = .ok (.getfield 18, 3) := by decide +kernel
theorem dX5_staysAs_17 : decode cX5_staysAs 17 = .ok (.iload_n 3, 1) := by decide +kernel
theorem dX5_staysAs_18 : decode cX5_staysAs 18 = .ok (.iaload, 1) := by decide +kernel
theorem dX5_staysAs_19 : decode cX5_staysAs 19 = .ok (.aload_n 0, 1) := by decide +kernel
theorem dX5_staysAs_20 : decode cX5_staysAs 20 = .ok (.iload_n 3, 1) := by decide +kernel
theorem dX5_staysAs_21 : decode cX5_staysAs 21 = .ok (.invokevirtual 70, 3) := by decide +kernel
theorem dX5_staysAs_24 : decode cX5_staysAs 24 = .ok (.invokestatic 82, 3) := by decide +kernel
theorem dX5_staysAs_27 : decode cX5_staysAs 27 = .ok (.ireturn, 1) := by decide +kernel
theorem dX5_isMeeting_0 : decode cX5_isMeeting 0 = .ok (.aload_n 0, 1) := by decide +kernel
theorem dX5_isMeeting_1 : decode cX5_isMeeting 1 = .ok (.iload_n 1, 1) := by decide +kernel
theorem dX5_isMeeting_2 : decode cX5_isMeeting 2 = .ok (.aload_n 0, 1) := by decide +kernel
theorem dX5_isMeeting_3 : decode cX5_isMeeting 3 = .ok (.getfield 24, 3) := by decide +kernel
theorem dX5_isMeeting_6 : decode cX5_isMeeting 6 = .ok (.iload_n 1, 1) := by decide +kernel
theorem dX5_isMeeting_7 : decode cX5_isMeeting 7 = .ok (.iaload, 1) := by decide +kernel
theorem dX5_isMeeting_8 : decode cX5_isMeeting 8 = .ok (.aload_n 0, 1) := by decide +kernel
theorem dX5_isMeeting_9 : decode cX5_isMeeting 9 = .ok (.getfield 27, 3) := by decide +kernel
theorem dX5_isMeeting_12 : decode cX5_isMeeting 12 = .ok (.iload_n 1, 1) := by decide +kernel
theorem dX5_isMeeting_13 : decode cX5_isMeeting 13 = .ok (.iaload, 1) := by decide +kernel
theorem dX5_isMeeting_14 : decode cX5_isMeeting 14 = .ok (.invokevirtual 86, 3) := by decide +kernel
theorem dX5_isMeeting_17 : decode cX5_isMeeting 17 = .ok (.ireturn, 1) := by decide +kernel
theorem dX5_meetsAs_0 : decode cX5_meetsAs 0 = .ok (.aload_n 0, 1) := by decide +kernel
theorem dX5_meetsAs_1 : decode cX5_meetsAs 1 = .ok (.iload_n 3, 1) := by decide +kernel
theorem dX5_meetsAs_2 : decode cX5_meetsAs 2 = .ok (.invokevirtual 90, 3) := by decide +kernel
theorem dX5_meetsAs_5 : decode cX5_meetsAs 5 = .ok (.aload_n 0, 1) := by decide +kernel
theorem dX5_meetsAs_6 : decode cX5_meetsAs 6 = .ok (.iload_n 1, 1) := by decide +kernel
theorem dX5_meetsAs_7 : decode cX5_meetsAs 7 = .ok (.iload_n 2, 1) := by decide +kernel
theorem dX5_meetsAs_8 : decode cX5_meetsAs 8 = .ok (.iload_n 3, 1) := by decide +kernel
theorem dX5_meetsAs_9 : decode cX5_meetsAs 9 = .ok (.invokevirtual 78, 3) := by decide +kernel
theorem dX5_meetsAs_12 : decode cX5_meetsAs 12 = .ok (.if_icmp .gt 7, 3) := by decide +kernel
theorem dX5_meetsAs_15 : decode cX5_meetsAs 15 = .ok (.iconst 1, 1) := by decide +kernel
theorem dX5_meetsAs_16 : decode cX5_meetsAs 16 = .ok (.goto 4, 3) := by decide +kernel
theorem dX5_meetsAs_19 : decode cX5_meetsAs 19 = .ok (.iconst 0, 1) := by decide +kernel
theorem dX5_meetsAs_20 : decode cX5_meetsAs 20 = .ok (.ireturn, 1) := by decide +kernel
theorem dX5_callersAt_0 : decode cX5_callersAt 0 = .ok (.iconst 0, 1) := by decide +kernel
theorem dX5_callersAt_1 : decode cX5_callersAt 1 = .ok (.istore_n 2, 1) := by decide +kernel
theorem dX5_callersAt_2 : decode cX5_callersAt 2 = .ok (.iconst 0, 1) := by decide +kernel
theorem dX5_callersAt_3 : decode cX5_callersAt 3 = .ok (.istore_n 3, 1) := by decide +kernel
theorem dX5_callersAt_4 : decode cX5_callersAt 4 = .ok (.iload_n 3, 1) := by decide +kernel
theorem dX5_callersAt_5 : decode cX5_callersAt 5 = .ok (.aload_n 0, 1) := by decide +kernel
theorem dX5_callersAt_6 : decode cX5_callersAt 6 = .ok (.getfield 40, 3) := by decide +kernel
theorem dX5_callersAt_9 : decode cX5_callersAt 9 = .ok (.if_icmp .ge 25, 3) := by decide +kernel
theorem dX5_callersAt_12 : decode cX5_callersAt 12 = .ok (.aload_n 0, 1) := by decide +kernel
theorem dX5_callersAt_13 : decode cX5_callersAt 13 = .ok (.getfield 27, 3) := by decide +kernel
theorem dX5_callersAt_16 : decode cX5_callersAt 16 = .ok (.iload_n 3, 1) := by decide +kernel
theorem dX5_callersAt_17 : decode cX5_callersAt 17 = .ok (.iaload, 1) := by decide +kernel
theorem dX5_callersAt_18 : decode cX5_callersAt 18 = .ok (.iload_n 1, 1) := by decide +kernel
theorem dX5_callersAt_19 : decode cX5_callersAt 19 = .ok (.if_icmp .ne 9, 3) := by decide +kernel
theorem dX5_callersAt_22 : decode cX5_callersAt 22 = .ok (.iload_n 2, 1) := by decide +kernel
theorem dX5_callersAt_23 : decode cX5_callersAt 23 = .ok (.iconst 1, 1) := by decide +kernel
theorem dX5_callersAt_24 : decode cX5_callersAt 24 = .ok (.iload_n 3, 1) := by decide +kernel
theorem dX5_callersAt_25 : decode cX5_callersAt 25 = .ok (.ishl, 1) := by decide +kernel
theorem dX5_callersAt_26 : decode cX5_callersAt 26 = .ok (.ior, 1) := by decide +kernel
theorem dX5_callersAt_27 : decode cX5_callersAt 27 = .ok (.istore_n 2, 1) := by decide +kernel
theorem dX5_callersAt_28 : decode cX5_callersAt 28 = .ok (.iinc 3 1, 3) := by decide +kernel
theorem dX5_callersAt_31 : decode cX5_callersAt 31 = .ok (.goto (-27), 3) := by decide +kernel
theorem dX5_callersAt_34 : decode cX5_callersAt 34 = .ok (.iload_n 2, 1) := by decide +kernel
theorem dX5_callersAt_35 : decode cX5_callersAt 35 = .ok (.ireturn, 1) := by decide +kernel
theorem dX5_meetingNow_0 : decode cX5_meetingNow 0 = .ok (.iconst 0, 1) := by decide +kernel
theorem dX5_meetingNow_1 : decode cX5_meetingNow 1 = .ok (.istore_n 1, 1) := by decide +kernel
theorem dX5_meetingNow_2 : decode cX5_meetingNow 2 = .ok (.iconst 0, 1) := by decide +kernel
theorem dX5_meetingNow_3 : decode cX5_meetingNow 3 = .ok (.istore_n 2, 1) := by decide +kernel
theorem dX5_meetingNow_4 : decode cX5_meetingNow 4 = .ok (.iload_n 2, 1) := by decide +kernel
theorem dX5_meetingNow_5 : decode cX5_meetingNow 5 = .ok (.aload_n 0, 1) := by decide +kernel
theorem dX5_meetingNow_6 : decode cX5_meetingNow 6 = .ok (.getfield 40, 3) := by decide +kernel
theorem dX5_meetingNow_9 : decode cX5_meetingNow 9 = .ok (.if_icmp .ge 35, 3) := by decide +kernel
theorem dX5_meetingNow_12 : decode cX5_meetingNow 12 = .ok (.aload_n 0, 1) := by decide +kernel
theorem dX5_meetingNow_13 : decode cX5_meetingNow 13 = .ok (.iload_n 2, 1) := by decide +kernel
theorem dX5_meetingNow_14 : decode cX5_meetingNow 14 = .ok (.aload_n 0, 1) := by decide +kernel
theorem dX5_meetingNow_15 : decode cX5_meetingNow 15 = .ok (.getfield 24, 3) := by decide +kernel
theorem dX5_meetingNow_18 : decode cX5_meetingNow 18 = .ok (.iload_n 2, 1) := by decide +kernel
theorem dX5_meetingNow_19 : decode cX5_meetingNow 19 = .ok (.iaload, 1) := by decide +kernel
theorem dX5_meetingNow_20 : decode cX5_meetingNow 20 = .ok (.aload_n 0, 1) := by decide +kernel
theorem dX5_meetingNow_21 : decode cX5_meetingNow 21 = .ok (.getfield 27, 3) := by decide +kernel
theorem dX5_meetingNow_24 : decode cX5_meetingNow 24 = .ok (.iload_n 2, 1) := by decide +kernel
theorem dX5_meetingNow_25 : decode cX5_meetingNow 25 = .ok (.iaload, 1) := by decide +kernel
theorem dX5_meetingNow_26 : decode cX5_meetingNow 26 = .ok (.invokevirtual 86, 3) := by decide +kernel
theorem dX5_meetingNow_29 : decode cX5_meetingNow 29 = .ok (.ifCond .eq 9, 3) := by decide +kernel
theorem dX5_meetingNow_32 : decode cX5_meetingNow 32 = .ok (.iload_n 1, 1) := by decide +kernel
theorem dX5_meetingNow_33 : decode cX5_meetingNow 33 = .ok (.iconst 1, 1) := by decide +kernel
theorem dX5_meetingNow_34 : decode cX5_meetingNow 34 = .ok (.iload_n 2, 1) := by decide +kernel
theorem dX5_meetingNow_35 : decode cX5_meetingNow 35 = .ok (.ishl, 1) := by decide +kernel
theorem dX5_meetingNow_36 : decode cX5_meetingNow 36 = .ok (.ior, 1) := by decide +kernel
theorem dX5_meetingNow_37 : decode cX5_meetingNow 37 = .ok (.istore_n 1, 1) := by decide +kernel
theorem dX5_meetingNow_38 : decode cX5_meetingNow 38 = .ok (.iinc 2 1, 3) := by decide +kernel
theorem dX5_meetingNow_41 : decode cX5_meetingNow 41 = .ok (.goto (-37), 3) := by decide +kernel
theorem dX5_meetingNow_44 : decode cX5_meetingNow 44 = .ok (.iload_n 1, 1) := by decide +kernel
theorem dX5_meetingNow_45 : decode cX5_meetingNow 45 = .ok (.ireturn, 1) := by decide +kernel
theorem dX5_firstOnNothing_0 : decode cX5_firstOnNothing 0 = .ok (.aload_n 0, 1) := by decide +kernel
theorem dX5_firstOnNothing_1 : decode cX5_firstOnNothing 1 = .ok (.invokevirtual 93, 3) := by decide +kernel
theorem dX5_firstOnNothing_4 : decode cX5_firstOnNothing 4 = .ok (.istore_n 1, 1) := by decide +kernel
theorem dX5_firstOnNothing_5 : decode cX5_firstOnNothing 5 = .ok (.iconst 0, 1) := by decide +kernel
theorem dX5_firstOnNothing_6 : decode cX5_firstOnNothing 6 = .ok (.istore_n 2, 1) := by decide +kernel
theorem dX5_firstOnNothing_7 : decode cX5_firstOnNothing 7 = .ok (.iload_n 2, 1) := by decide +kernel
theorem dX5_firstOnNothing_8 : decode cX5_firstOnNothing 8 = .ok (.aload_n 0, 1) := by decide +kernel
theorem dX5_firstOnNothing_9 : decode cX5_firstOnNothing 9 = .ok (.getfield 36, 3) := by decide +kernel
theorem dX5_firstOnNothing_12 : decode cX5_firstOnNothing 12 = .ok (.if_icmp .ge 27, 3) := by decide +kernel
theorem dX5_firstOnNothing_15 : decode cX5_firstOnNothing 15 = .ok (.aload_n 0, 1) := by decide +kernel
theorem dX5_firstOnNothing_16 : decode cX5_firstOnNothing 16 = .ok (.iload_n 2, 1) := by decide +kernel
theorem dX5_firstOnNothing_17 : decode cX5_firstOnNothing 17 = .ok (.invokevirtual 97, 3) := by decide +kernel
theorem dX5_firstOnNothing_20 : decode cX5_firstOnNothing 20 = .ok (.istore_n 3, 1) := by decide +kernel
theorem dX5_firstOnNothing_21 : decode cX5_firstOnNothing 21 = .ok (.iload_n 3, 1) := by decide +kernel
theorem dX5_firstOnNothing_22 : decode cX5_firstOnNothing 22 = .ok (.ifCond .eq 11, 3) := by decide +kernel
theorem dX5_firstOnNothing_25 : decode cX5_firstOnNothing 25 = .ok (.iload_n 3, 1) := by decide +kernel
theorem dX5_firstOnNothing_26 : decode cX5_firstOnNothing 26 = .ok (.iload_n 1, 1) := by decide +kernel
theorem dX5_firstOnNothing_27 : decode cX5_firstOnNothing 27 = .ok (.iand, 1) := by decide +kernel
theorem dX5_firstOnNothing_28 : decode cX5_firstOnNothing 28 = .ok (.ifCond .ne 5, 3) := by decide +kernel
theorem dX5_firstOnNothing_31 : decode cX5_firstOnNothing 31 = .ok (.iload_n 2, 1) := by decide +kernel
theorem dX5_firstOnNothing_32 : decode cX5_firstOnNothing 32 = .ok (.ireturn, 1) := by decide +kernel
theorem dX5_firstOnNothing_33 : decode cX5_firstOnNothing 33 = .ok (.iinc 2 1, 3) := by decide +kernel
theorem dX5_firstOnNothing_36 : decode cX5_firstOnNothing 36 = .ok (.goto (-29), 3) := by decide +kernel
theorem dX5_firstOnNothing_39 : decode cX5_firstOnNothing 39 = .ok (.ldc 100, 2) := by decide +kernel
theorem dX5_firstOnNothing_41 : decode cX5_firstOnNothing 41 = .ok (.ireturn, 1) := by decide +kernel
theorem dX5_firstMeeting_0 : decode cX5_firstMeeting 0 = .ok (.iconst 0, 1) := by decide +kernel
theorem dX5_firstMeeting_1 : decode cX5_firstMeeting 1 = .ok (.istore_n 3, 1) := by decide +kernel
theorem dX5_firstMeeting_2 : decode cX5_firstMeeting 2 = .ok (.iload_n 3, 1) := by decide +kernel
theorem dX5_firstMeeting_3 : decode cX5_firstMeeting 3 = .ok (.aload_n 0, 1) := by decide +kernel
theorem dX5_firstMeeting_4 : decode cX5_firstMeeting 4 = .ok (.getfield 36, 3) := by decide +kernel
theorem dX5_firstMeeting_7 : decode cX5_firstMeeting 7 = .ok (.if_icmp .ge 26, 3) := by decide +kernel
theorem dX5_firstMeeting_10 : decode cX5_firstMeeting 10 = .ok (.aload_n 0, 1) := by decide +kernel
theorem dX5_firstMeeting_11 : decode cX5_firstMeeting 11 = .ok (.iload_n 1, 1) := by decide +kernel
theorem dX5_firstMeeting_12 : decode cX5_firstMeeting 12 = .ok (.iload_n 2, 1) := by decide +kernel
theorem dX5_firstMeeting_13 : decode cX5_firstMeeting 13 = .ok (.aload_n 0, 1) := by decide +kernel
theorem dX5_firstMeeting_14 : decode cX5_firstMeeting 14 = .ok (.iload_n 1, 1) := by decide +kernel
theorem dX5_firstMeeting_15 : decode cX5_firstMeeting 15 = .ok (.iload_n 3, 1) := by decide +kernel
theorem dX5_firstMeeting_16 : decode cX5_firstMeeting 16 = .ok (.invokevirtual 101, 3) := by decide +kernel
theorem dX5_firstMeeting_19 : decode cX5_firstMeeting 19 = .ok (.invokevirtual 86, 3) := by decide +kernel
theorem dX5_firstMeeting_22 : decode cX5_firstMeeting 22 = .ok (.ifCond .eq 5, 3) := by decide +kernel
theorem dX5_firstMeeting_25 : decode cX5_firstMeeting 25 = .ok (.iload_n 3, 1) := by decide +kernel
theorem dX5_firstMeeting_26 : decode cX5_firstMeeting 26 = .ok (.ireturn, 1) := by decide +kernel
theorem dX5_firstMeeting_27 : decode cX5_firstMeeting 27 = .ok (.iinc 3 1, 3) := by decide +kernel
theorem dX5_firstMeeting_30 : decode cX5_firstMeeting 30 = .ok (.goto (-28), 3) := by decide +kernel
theorem dX5_firstMeeting_33 : decode cX5_firstMeeting 33 = .ok (.ldc 100, 2) := by decide +kernel
theorem dX5_firstMeeting_35 : decode cX5_firstMeeting 35 = .ok (.ireturn, 1) := by decide +kernel
theorem dX5_placeAfter_0 : decode cX5_placeAfter 0 = .ok (.aload_n 0, 1) := by decide +kernel
theorem dX5_placeAfter_1 : decode cX5_placeAfter 1 = .ok (.getfield 36, 3) := by decide +kernel
theorem dX5_placeAfter_4 : decode cX5_placeAfter 4 = .ok (.ifCond .le 19, 3) := by decide +kernel
theorem dX5_placeAfter_7 : decode cX5_placeAfter 7 = .ok (.aload_n 0, 1) := by decide +kernel
theorem dX5_placeAfter_8 : decode cX5_placeAfter 8 = .ok (.getfield 27, 3) := by decide +kernel
theorem dX5_placeAfter_11 : decode cX5_placeAfter 11 = .ok (.iload_n 1, 1) := by decide +kernel
theorem dX5_placeAfter_12 : decode cX5_placeAfter 12 = .ok (.iaload, 1) := by decide +kernel
theorem dX5_placeAfter_13 : decode cX5_placeAfter 13 = .ok (.iload_n 2, 1) := by decide +kernel
theorem dX5_placeAfter_14 : decode cX5_placeAfter 14 = .ok (.iadd, 1) := by decide +kernel
theorem dX5_placeAfter_15 : decode cX5_placeAfter 15 = .ok (.aload_n 0, 1) := by decide +kernel
theorem dX5_placeAfter_16 : decode cX5_placeAfter 16 = .ok (.getfield 36, 3) := by decide +kernel
theorem dX5_placeAfter_19 : decode cX5_placeAfter 19 = .ok (.irem, 1) := by decide +kernel
theorem dX5_placeAfter_20 : decode cX5_placeAfter 20 = .ok (.goto 4, 3) := by decide +kernel
theorem dX5_placeAfter_23 : decode cX5_placeAfter 23 = .ok (.iconst 0, 1) := by decide +kernel
theorem dX5_placeAfter_24 : decode cX5_placeAfter 24 = .ok (.ireturn, 1) := by decide +kernel
theorem dX5_passDay_0 : decode cX5_passDay 0 = .ok (.aload_n 0, 1) := by decide +kernel
theorem dX5_passDay_1 : decode cX5_passDay 1 = .ok (.invokevirtual 93, 3) := by decide +kernel
theorem dX5_passDay_4 : decode cX5_passDay 4 = .ok (.istore_n 1, 1) := by decide +kernel
theorem dX5_passDay_5 : decode cX5_passDay 5 = .ok (.iconst 0, 1) := by decide +kernel
theorem dX5_passDay_6 : decode cX5_passDay 6 = .ok (.istore_n 2, 1) := by decide +kernel
theorem dX5_passDay_7 : decode cX5_passDay 7 = .ok (.iload_n 2, 1) := by decide +kernel
theorem dX5_passDay_8 : decode cX5_passDay 8 = .ok (.aload_n 0, 1) := by decide +kernel
theorem dX5_passDay_9 : decode cX5_passDay 9 = .ok (.getfield 40, 3) := by decide +kernel
theorem dX5_passDay_12 : decode cX5_passDay 12 = .ok (.if_icmp .ge 43, 3) := by decide +kernel
theorem dX5_passDay_15 : decode cX5_passDay 15 = .ok (.iload_n 1, 1) := by decide +kernel
theorem dX5_passDay_16 : decode cX5_passDay 16 = .ok (.iload_n 2, 1) := by decide +kernel
theorem dX5_passDay_17 : decode cX5_passDay 17 = .ok (.ishr, 1) := by decide +kernel
theorem dX5_passDay_18 : decode cX5_passDay 18 = .ok (.iconst 1, 1) := by decide +kernel
theorem dX5_passDay_19 : decode cX5_passDay 19 = .ok (.iand, 1) := by decide +kernel
theorem dX5_passDay_20 : decode cX5_passDay 20 = .ok (.iconst 1, 1) := by decide +kernel
theorem dX5_passDay_21 : decode cX5_passDay 21 = .ok (.if_icmp .ne 16, 3) := by decide +kernel
theorem dX5_passDay_24 : decode cX5_passDay 24 = .ok (.aload_n 0, 1) := by decide +kernel
theorem dX5_passDay_25 : decode cX5_passDay 25 = .ok (.getfield 33, 3) := by decide +kernel
theorem dX5_passDay_28 : decode cX5_passDay 28 = .ok (.iload_n 2, 1) := by decide +kernel
theorem dX5_passDay_29 : decode cX5_passDay 29 = .ok (.dup2, 1) := by decide +kernel
theorem dX5_passDay_30 : decode cX5_passDay 30 = .ok (.iaload, 1) := by decide +kernel
theorem dX5_passDay_31 : decode cX5_passDay 31 = .ok (.iconst 1, 1) := by decide +kernel
theorem dX5_passDay_32 : decode cX5_passDay 32 = .ok (.iadd, 1) := by decide +kernel
theorem dX5_passDay_33 : decode cX5_passDay 33 = .ok (.iastore, 1) := by decide +kernel
theorem dX5_passDay_34 : decode cX5_passDay 34 = .ok (.goto 15, 3) := by decide +kernel
theorem dX5_passDay_37 : decode cX5_passDay 37 = .ok (.aload_n 0, 1) := by decide +kernel
theorem dX5_passDay_38 : decode cX5_passDay 38 = .ok (.getfield 27, 3) := by decide +kernel
theorem dX5_passDay_41 : decode cX5_passDay 41 = .ok (.iload_n 2, 1) := by decide +kernel
theorem dX5_passDay_42 : decode cX5_passDay 42 = .ok (.aload_n 0, 1) := by decide +kernel
theorem dX5_passDay_43 : decode cX5_passDay 43 = .ok (.iload_n 2, 1) := by decide +kernel
theorem dX5_passDay_44 : decode cX5_passDay 44 = .ok (.iconst 1, 1) := by decide +kernel
theorem dX5_passDay_45 : decode cX5_passDay 45 = .ok (.invokevirtual 101, 3) := by decide +kernel
theorem dX5_passDay_48 : decode cX5_passDay 48 = .ok (.iastore, 1) := by decide +kernel
theorem dX5_passDay_49 : decode cX5_passDay 49 = .ok (.iinc 2 1, 3) := by decide +kernel
theorem dX5_passDay_52 : decode cX5_passDay 52 = .ok (.goto (-45), 3) := by decide +kernel
theorem dX5_passDay_55 : decode cX5_passDay 55 = .ok (.aload_n 0, 1) := by decide +kernel
theorem dX5_passDay_56 : decode cX5_passDay 56 = .ok (.dup, 1) := by decide +kernel
theorem dX5_passDay_57 : decode cX5_passDay 57 = .ok (.getfield 49, 3) := by decide +kernel
theorem dX5_passDay_60 : decode cX5_passDay 60 = .ok (.iconst 1, 1) := by decide +kernel
theorem dX5_passDay_61 : decode cX5_passDay 61 = .ok (.iadd, 1) := by decide +kernel
theorem dX5_passDay_62 : decode cX5_passDay 62 = .ok (.putfield 49, 3) := by decide +kernel
theorem dX5_passDay_65 : decode cX5_passDay 65 = .ok (.iload_n 1, 1) := by decide +kernel
theorem dX5_passDay_66 : decode cX5_passDay 66 = .ok (.ireturn, 1) := by decide +kernel
theorem dX5_takeBackDay_0 : decode cX5_takeBackDay 0 = .ok (.iconst 0, 1) := by decide +kernel
theorem dX5_takeBackDay_1 : decode cX5_takeBackDay 1 = .ok (.istore_n 2, 1) := by decide +kernel
theorem dX5_takeBackDay_2 : decode cX5_takeBackDay 2 = .ok (.iload_n 2, 1) := by decide +kernel
theorem dX5_takeBackDay_3 : decode cX5_takeBackDay 3 = .ok (.aload_n 0, 1) := by decide +kernel
theorem dX5_takeBackDay_4 : decode cX5_takeBackDay 4 = .ok (.getfield 40, 3) := by decide +kernel
theorem dX5_takeBackDay_7 : decode cX5_takeBackDay 7 = .ok (.if_icmp .ge 48, 3) := by decide +kernel
theorem dX5_takeBackDay_10 : decode cX5_takeBackDay 10 = .ok (.iload_n 1, 1) := by decide +kernel
theorem dX5_takeBackDay_11 : decode cX5_takeBackDay 11 = .ok (.iload_n 2, 1) := by decide +kernel
theorem dX5_takeBackDay_12 : decode cX5_takeBackDay 12 = .ok (.ishr, 1) := by decide +kernel
theorem dX5_takeBackDay_13 : decode cX5_takeBackDay 13 = .ok (.iconst 1, 1) := by decide +kernel
theorem dX5_takeBackDay_14 : decode cX5_takeBackDay 14 = .ok (.iand, 1) := by decide +kernel
theorem dX5_takeBackDay_15 : decode cX5_takeBackDay 15 = .ok (.iconst 1, 1) := by decide +kernel
theorem dX5_takeBackDay_16 : decode cX5_takeBackDay 16 = .ok (.if_icmp .ne 16, 3) := by decide +kernel
theorem dX5_takeBackDay_19 : decode cX5_takeBackDay 19 = .ok (.aload_n 0, 1) := by decide +kernel
theorem dX5_takeBackDay_20 : decode cX5_takeBackDay 20 = .ok (.getfield 33, 3) := by decide +kernel
theorem dX5_takeBackDay_23 : decode cX5_takeBackDay 23 = .ok (.iload_n 2, 1) := by decide +kernel
theorem dX5_takeBackDay_24 : decode cX5_takeBackDay 24 = .ok (.dup2, 1) := by decide +kernel
theorem dX5_takeBackDay_25 : decode cX5_takeBackDay 25 = .ok (.iaload, 1) := by decide +kernel
theorem dX5_takeBackDay_26 : decode cX5_takeBackDay 26 = .ok (.iconst 1, 1) := by decide +kernel
theorem dX5_takeBackDay_27 : decode cX5_takeBackDay 27 = .ok (.isub, 1) := by decide +kernel
theorem dX5_takeBackDay_28 : decode cX5_takeBackDay 28 = .ok (.iastore, 1) := by decide +kernel
theorem dX5_takeBackDay_29 : decode cX5_takeBackDay 29 = .ok (.goto 20, 3) := by decide +kernel
theorem dX5_takeBackDay_32 : decode cX5_takeBackDay 32 = .ok (.aload_n 0, 1) := by decide +kernel
theorem dX5_takeBackDay_33 : decode cX5_takeBackDay 33 = .ok (.getfield 27, 3) := by decide +kernel
theorem dX5_takeBackDay_36 : decode cX5_takeBackDay 36 = .ok (.iload_n 2, 1) := by decide +kernel
theorem dX5_takeBackDay_37 : decode cX5_takeBackDay 37 = .ok (.aload_n 0, 1) := by decide +kernel
theorem dX5_takeBackDay_38 : decode cX5_takeBackDay 38 = .ok (.iload_n 2, 1) := by decide +kernel
theorem dX5_takeBackDay_39 : decode cX5_takeBackDay 39 = .ok (.aload_n 0, 1) := by decide +kernel
theorem dX5_takeBackDay_40 : decode cX5_takeBackDay 40 = .ok (.getfield 36, 3) := by decide +kernel
theorem dX5_takeBackDay_43 : decode cX5_takeBackDay 43 = .ok (.iconst 1, 1) := by decide +kernel
theorem dX5_takeBackDay_44 : decode cX5_takeBackDay 44 = .ok (.isub, 1) := by decide +kernel
theorem dX5_takeBackDay_45 : decode cX5_takeBackDay 45 = .ok (.invokevirtual 101, 3) := by decide +kernel
theorem dX5_takeBackDay_48 : decode cX5_takeBackDay 48 = .ok (.iastore, 1) := by decide +kernel
theorem dX5_takeBackDay_49 : decode cX5_takeBackDay 49 = .ok (.iinc 2 1, 3) := by decide +kernel
theorem dX5_takeBackDay_52 : decode cX5_takeBackDay 52 = .ok (.goto (-50), 3) := by decide +kernel
theorem dX5_takeBackDay_55 : decode cX5_takeBackDay 55 = .ok (.aload_n 0, 1) := by decide +kernel
theorem dX5_takeBackDay_56 : decode cX5_takeBackDay 56 = .ok (.dup, 1) := by decide +kernel
theorem dX5_takeBackDay_57 : decode cX5_takeBackDay 57 = .ok (.getfield 49, 3) := by decide +kernel
theorem dX5_takeBackDay_60 : decode cX5_takeBackDay 60 = .ok (.iconst 1, 1) := by decide +kernel
theorem dX5_takeBackDay_61 : decode cX5_takeBackDay 61 = .ok (.isub, 1) := by decide +kernel
theorem dX5_takeBackDay_62 : decode cX5_takeBackDay 62 = .ok (.putfield 49, 3) := by decide +kernel
theorem dX5_takeBackDay_65 : decode cX5_takeBackDay 65 = .ok (.return_, 1) := by decide +kernel
theorem dX5_layByDraw_0 : decode cX5_layByDraw 0 = .ok (.aload_n 0, 1) := by decide +kernel
theorem dX5_layByDraw_1 : decode cX5_layByDraw 1 = .ok (.getfield 36, 3) := by decide +kernel
theorem dX5_layByDraw_4 : decode cX5_layByDraw 4 = .ok (.ifCond .le 66, 3) := by decide +kernel
theorem dX5_layByDraw_7 : decode cX5_layByDraw 7 = .ok (.lload_n 1, 1) := by decide +kernel
theorem dX5_layByDraw_8 : decode cX5_layByDraw 8 = .ok (.aload_n 0, 1) := by decide +kernel
theorem dX5_layByDraw_9 : decode cX5_layByDraw 9 = .ok (.getfield 36, 3) := by decide +kernel
theorem dX5_layByDraw_12 : decode cX5_layByDraw 12 = .ok (.i2l, 1) := by decide +kernel
theorem dX5_layByDraw_13 : decode cX5_layByDraw 13 = .ok (.lrem, 1) := by decide +kernel
theorem dX5_layByDraw_14 : decode cX5_layByDraw 14 = .ok (.l2i, 1) := by decide +kernel
theorem dX5_layByDraw_15 : decode cX5_layByDraw 15 = .ok (.istore_n 3, 1) := by decide +kernel
theorem dX5_layByDraw_16 : decode cX5_layByDraw 16 = .ok (.aload_n 0, 1) := by decide +kernel
theorem dX5_layByDraw_17 : decode cX5_layByDraw 17 = .ok (.getfield 15, 3) := by decide +kernel
theorem dX5_layByDraw_20 : decode cX5_layByDraw 20 = .ok (.iload_n 3, 1) := by decide +kernel
theorem dX5_layByDraw_21 : decode cX5_layByDraw 21 = .ok (.lload_n 1, 1) := by decide +kernel
theorem dX5_layByDraw_22 : decode cX5_layByDraw 22 = .ok (.ldc2_w 105, 3) := by decide +kernel
theorem dX5_layByDraw_25 : decode cX5_layByDraw 25 = .ok (.lrem, 1) := by decide +kernel
theorem dX5_layByDraw_26 : decode cX5_layByDraw 26 = .ok (.l2i, 1) := by decide +kernel
theorem dX5_layByDraw_27 : decode cX5_layByDraw 27 = .ok (.iastore, 1) := by decide +kernel
theorem dX5_layByDraw_28 : decode cX5_layByDraw 28 = .ok (.aload_n 0, 1) := by decide +kernel
theorem dX5_layByDraw_29 : decode cX5_layByDraw 29 = .ok (.getfield 18, 3) := by decide +kernel
theorem dX5_layByDraw_32 : decode cX5_layByDraw 32 = .ok (.iload_n 3, 1) := by decide +kernel
theorem dX5_layByDraw_33 : decode cX5_layByDraw 33 = .ok (.lload_n 1, 1) := by decide +kernel
theorem dX5_layByDraw_34 : decode cX5_layByDraw 34 = .ok (.ldc2_w 107, 3) := by decide +kernel
theorem dX5_layByDraw_37 : decode cX5_layByDraw 37 = .ok (.lrem, 1) := by decide +kernel
theorem dX5_layByDraw_38 : decode cX5_layByDraw 38 = .ok (.lconst 0, 1) := by decide +kernel
theorem dX5_layByDraw_39 : decode cX5_layByDraw 39 = .ok (.lcmp, 1) := by decide +kernel
theorem dX5_layByDraw_40 : decode cX5_layByDraw 40 = .ok (.ifCond .ne 7, 3) := by decide +kernel
theorem dX5_layByDraw_43 : decode cX5_layByDraw 43 = .ok (.iconst 1, 1) := by decide +kernel
theorem dX5_layByDraw_44 : decode cX5_layByDraw 44 = .ok (.goto 4, 3) := by decide +kernel
theorem dX5_layByDraw_47 : decode cX5_layByDraw 47 = .ok (.iconst 0, 1) := by decide +kernel
theorem dX5_layByDraw_48 : decode cX5_layByDraw 48 = .ok (.iastore, 1) := by decide +kernel
theorem dX5_layByDraw_49 : decode cX5_layByDraw 49 = .ok (.aload_n 0, 1) := by decide +kernel
theorem dX5_layByDraw_50 : decode cX5_layByDraw 50 = .ok (.getfield 21, 3) := by decide +kernel
theorem dX5_layByDraw_53 : decode cX5_layByDraw 53 = .ok (.iload_n 3, 1) := by decide +kernel
theorem dX5_layByDraw_54 : decode cX5_layByDraw 54 = .ok (.lload_n 1, 1) := by decide +kernel
theorem dX5_layByDraw_55 : decode cX5_layByDraw 55 = .ok (.ldc2_w 109, 3) := by decide +kernel
theorem dX5_layByDraw_58 : decode cX5_layByDraw 58 = .ok (.lrem, 1) := by decide +kernel
theorem dX5_layByDraw_59 : decode cX5_layByDraw 59 = .ok (.lconst 0, 1) := by decide +kernel
theorem dX5_layByDraw_60 : decode cX5_layByDraw 60 = .ok (.lcmp, 1) := by decide +kernel
theorem dX5_layByDraw_61 : decode cX5_layByDraw 61 = .ok (.ifCond .ne 7, 3) := by decide +kernel
theorem dX5_layByDraw_64 : decode cX5_layByDraw 64 = .ok (.iconst 1, 1) := by decide +kernel
theorem dX5_layByDraw_65 : decode cX5_layByDraw 65 = .ok (.goto 4, 3) := by decide +kernel
theorem dX5_layByDraw_68 : decode cX5_layByDraw 68 = .ok (.iconst 0, 1) := by decide +kernel
theorem dX5_layByDraw_69 : decode cX5_layByDraw 69 = .ok (.iastore, 1) := by decide +kernel
theorem dX5_layByDraw_70 : decode cX5_layByDraw 70 = .ok (.return_, 1) := by decide +kernel
theorem dX5_sum_0 : decode cX5_sum 0 = .ok (.iconst 0, 1) := by decide +kernel
theorem dX5_sum_1 : decode cX5_sum 1 = .ok (.istore_n 2, 1) := by decide +kernel
theorem dX5_sum_2 : decode cX5_sum 2 = .ok (.iconst 0, 1) := by decide +kernel
theorem dX5_sum_3 : decode cX5_sum 3 = .ok (.istore_n 3, 1) := by decide +kernel
theorem dX5_sum_4 : decode cX5_sum 4 = .ok (.iload_n 3, 1) := by decide +kernel
theorem dX5_sum_5 : decode cX5_sum 5 = .ok (.iload_n 1, 1) := by decide +kernel
theorem dX5_sum_6 : decode cX5_sum 6 = .ok (.if_icmp .ge 15, 3) := by decide +kernel
theorem dX5_sum_9 : decode cX5_sum 9 = .ok (.iload_n 2, 1) := by decide +kernel
theorem dX5_sum_10 : decode cX5_sum 10 = .ok (.aload_n 0, 1) := by decide +kernel
theorem dX5_sum_11 : decode cX5_sum 11 = .ok (.iload_n 3, 1) := by decide +kernel
theorem dX5_sum_12 : decode cX5_sum 12 = .ok (.iaload, 1) := by decide +kernel
theorem dX5_sum_13 : decode cX5_sum 13 = .ok (.iadd, 1) := by decide +kernel
theorem dX5_sum_14 : decode cX5_sum 14 = .ok (.istore_n 2, 1) := by decide +kernel
theorem dX5_sum_15 : decode cX5_sum 15 = .ok (.iinc 3 1, 3) := by decide +kernel
theorem dX5_sum_18 : decode cX5_sum 18 = .ok (.goto (-14), 3) := by decide +kernel
theorem dX5_sum_21 : decode cX5_sum 21 = .ok (.iload_n 2, 1) := by decide +kernel
theorem dX5_sum_22 : decode cX5_sum 22 = .ok (.ireturn, 1) := by decide +kernel
theorem dX5_opening_0 : decode cX5_opening 0 = .ok (.iconst 0, 1) := by decide +kernel
theorem dX5_opening_1 : decode cX5_opening 1 = .ok (.iload_n 0, 1) := by decide +kernel
theorem dX5_opening_2 : decode cX5_opening 2 = .ok (.iload_n 1, 1) := by decide +kernel
theorem dX5_opening_3 : decode cX5_opening 3 = .ok (.iadd, 1) := by decide +kernel
theorem dX5_opening_4 : decode cX5_opening 4 = .ok (.iconst 2, 1) := by decide +kernel
theorem dX5_opening_5 : decode cX5_opening 5 = .ok (.iload_n 3, 1) := by decide +kernel
theorem dX5_opening_6 : decode cX5_opening 6 = .ok (.imul, 1) := by decide +kernel
theorem dX5_opening_7 : decode cX5_opening 7 = .ok (.iadd, 1) := by decide +kernel
theorem dX5_opening_8 : decode cX5_opening 8 = .ok (.iload_n 2, 1) := by decide +kernel
theorem dX5_opening_9 : decode cX5_opening 9 = .ok (.isub, 1) := by decide +kernel
theorem dX5_opening_10 : decode cX5_opening 10 = .ok (.invokestatic 111, 3) := by decide +kernel
theorem dX5_opening_13 : decode cX5_opening 13 = .ok (.ireturn, 1) := by decide +kernel
theorem dX5_staying_0 : decode cX5_staying 0 = .ok (.iload_n 1, 1) := by decide +kernel
theorem dX5_staying_1 : decode cX5_staying 1 = .ok (.iconst 2, 1) := by decide +kernel
theorem dX5_staying_2 : decode cX5_staying 2 = .ok (.iload_n 3, 1) := by decide +kernel
theorem dX5_staying_3 : decode cX5_staying 3 = .ok (.imul, 1) := by decide +kernel
theorem dX5_staying_4 : decode cX5_staying 4 = .ok (.iadd, 1) := by decide +kernel
theorem dX5_staying_5 : decode cX5_staying 5 = .ok (.istore 5, 2) := by decide +kernel
theorem dX5_staying_7 : decode cX5_staying 7 = .ok (.iload_n 1, 1) := by decide +kernel
theorem dX5_staying_8 : decode cX5_staying 8 = .ok (.iconst 3, 1) := by decide +kernel
theorem dX5_staying_9 : decode cX5_staying 9 = .ok (.invokestatic 116, 3) := by decide +kernel
theorem dX5_staying_12 : decode cX5_staying 12 = .ok (.istore 6, 2) := by decide +kernel
theorem dX5_staying_14 : decode cX5_staying 14 = .ok (.iload_n 0, 1) := by decide +kernel
theorem dX5_staying_15 : decode cX5_staying 15 = .ok (.tableswitch 60 2 5 #[29, 34, 39, 42], 29) := by decide +kernel
theorem dX5_staying_44 : decode cX5_staying 44 = .ok (.iload 5, 2) := by decide +kernel
theorem dX5_staying_46 : decode cX5_staying 46 = .ok (.iload_n 2, 1) := by decide +kernel
theorem dX5_staying_47 : decode cX5_staying 47 = .ok (.iadd, 1) := by decide +kernel
theorem dX5_staying_48 : decode cX5_staying 48 = .ok (.ireturn, 1) := by decide +kernel
theorem dX5_staying_49 : decode cX5_staying 49 = .ok (.iconst 2, 1) := by decide +kernel
theorem dX5_staying_50 : decode cX5_staying 50 = .ok (.iload 5, 2) := by decide +kernel
theorem dX5_staying_52 : decode cX5_staying 52 = .ok (.imul, 1) := by decide +kernel
theorem dX5_staying_53 : decode cX5_staying 53 = .ok (.ireturn, 1) := by decide +kernel
theorem dX5_staying_54 : decode cX5_staying 54 = .ok (.iload 6, 2) := by decide +kernel
theorem dX5_staying_56 : decode cX5_staying 56 = .ok (.ireturn, 1) := by decide +kernel
theorem dX5_staying_57 : decode cX5_staying 57 = .ok (.iload 4, 2) := by decide +kernel
theorem dX5_staying_59 : decode cX5_staying 59 = .ok (.iconst 1, 1) := by decide +kernel
theorem dX5_staying_60 : decode cX5_staying 60 = .ok (.if_icmp .ne 12, 3) := by decide +kernel
theorem dX5_staying_63 : decode cX5_staying 63 = .ok (.iload 6, 2) := by decide +kernel
theorem dX5_staying_65 : decode cX5_staying 65 = .ok (.iconst 1, 1) := by decide +kernel
theorem dX5_staying_66 : decode cX5_staying 66 = .ok (.invokestatic 116, 3) := by decide +kernel
theorem dX5_staying_69 : decode cX5_staying 69 = .ok (.goto 5, 3) := by decide +kernel
theorem dX5_staying_72 : decode cX5_staying 72 = .ok (.iload 6, 2) := by decide +kernel
theorem dX5_staying_74 : decode cX5_staying 74 = .ok (.ireturn, 1) := by decide +kernel
theorem dX5_staying_75 : decode cX5_staying 75 = .ok (.iload 5, 2) := by decide +kernel
theorem dX5_staying_77 : decode cX5_staying 77 = .ok (.ireturn, 1) := by decide +kernel
theorem dX6_init_0 : decode cX6_init 0 = .ok (.aload_n 0, 1) := by decide +kernel
theorem dX6_init_1 : decode cX6_init 1 = .ok (.invokespecial 1, 3) := by decide +kernel
theorem dX6_init_4 : decode cX6_init 4 = .ok (.aload_n 0, 1) := by decide +kernel
theorem dX6_init_5 : decode cX6_init 5 = .ok (.bipush 8, 2) := by decide +kernel
theorem dX6_init_7 : decode cX6_init 7 = .ok (.anewarray 9, 3) := by decide +kernel
theorem dX6_init_10 : decode cX6_init 10 = .ok (.putfield 11, 3) := by decide +kernel
theorem dX6_init_13 : decode cX6_init 13 = .ok (.aload_n 0, 1) := by decide +kernel
theorem dX6_init_14 : decode cX6_init 14 = .ok (.iconst 2, 1) := by decide +kernel
theorem dX6_init_15 : decode cX6_init 15 = .ok (.anewarray 15, 3) := by decide +kernel
theorem dX6_init_18 : decode cX6_init 18 = .ok (.putfield 17, 3) := by decide +kernel
theorem dX6_init_21 : decode cX6_init 21 = .ok (.aload_n 0, 1) := by decide +kernel
theorem dX6_init_22 : decode cX6_init 22 = .ok (.new 15, 3) := by decide +kernel
theorem dX6_init_25 : decode cX6_init 25 = .ok (.dup, 1) := by decide +kernel
theorem dX6_init_26 : decode cX6_init 26 = .ok (.invokespecial 21, 3) := by decide +kernel
theorem dX6_init_29 : decode cX6_init 29 = .ok (.putfield 22, 3) := by decide +kernel
theorem dX6_init_32 : decode cX6_init 32 = .ok (.aload_n 0, 1) := by decide +kernel
theorem dX6_init_33 : decode cX6_init 33 = .ok (.new 15, 3) := by decide +kernel
theorem dX6_init_36 : decode cX6_init 36 = .ok (.dup, 1) := by decide +kernel
theorem dX6_init_37 : decode cX6_init 37 = .ok (.invokespecial 21, 3) := by decide +kernel
theorem dX6_init_40 : decode cX6_init 40 = .ok (.putfield 26, 3) := by decide +kernel
theorem dX6_init_43 : decode cX6_init 43 = .ok (.aload_n 0, 1) := by decide +kernel
theorem dX6_init_44 : decode cX6_init 44 = .ok (.new 29, 3) := by decide +kernel
theorem dX6_init_47 : decode cX6_init 47 = .ok (.dup, 1) := by decide +kernel
theorem dX6_init_48 : decode cX6_init 48 = .ok (.invokespecial 31, 3) := by decide +kernel
theorem dX6_init_51 : decode cX6_init 51 = .ok (.putfield 32, 3) := by decide +kernel
theorem dX6_init_54 : decode cX6_init 54 = .ok (.aload_n 0, 1) := by decide +kernel
theorem dX6_init_55 : decode cX6_init 55 = .ok (.new 36, 3) := by decide +kernel
theorem dX6_init_58 : decode cX6_init 58 = .ok (.dup, 1) := by decide +kernel
theorem dX6_init_59 : decode cX6_init 59 = .ok (.invokespecial 38, 3) := by decide +kernel
theorem dX6_init_62 : decode cX6_init 62 = .ok (.putfield 39, 3) := by decide +kernel
theorem dX6_init_65 : decode cX6_init 65 = .ok (.aload_n 0, 1) := by decide +kernel
theorem dX6_init_66 : decode cX6_init 66 = .ok (.new 43, 3) := by decide +kernel
theorem dX6_init_69 : decode cX6_init 69 = .ok (.dup, 1) := by decide +kernel
theorem dX6_init_70 : decode cX6_init 70 = .ok (.invokespecial 45, 3) := by decide +kernel
theorem dX6_init_73 : decode cX6_init 73 = .ok (.putfield 46, 3) := by decide +kernel
theorem dX6_init_76 : decode cX6_init 76 = .ok (.aload_n 0, 1) := by decide +kernel
theorem dX6_init_77 : decode cX6_init 77 = .ok (.new 50, 3) := by decide +kernel
theorem dX6_init_80 : decode cX6_init 80 = .ok (.dup, 1) := by decide +kernel
theorem dX6_init_81 : decode cX6_init 81 = .ok (.invokespecial 52, 3) := by decide +kernel
theorem dX6_init_84 : decode cX6_init 84 = .ok (.putfield 53, 3) := by decide +kernel
theorem dX6_init_87 : decode cX6_init 87 = .ok (.aload_n 0, 1) := by decide +kernel
theorem dX6_init_88 : decode cX6_init 88 = .ok (.iconst 0, 1) := by decide +kernel
theorem dX6_init_89 : decode cX6_init 89 = .ok (.putfield 57, 3) := by decide +kernel
theorem dX6_init_92 : decode cX6_init 92 = .ok (.aload_n 0, 1) := by decide +kernel
theorem dX6_init_93 : decode cX6_init 93 = .ok (.iconst 0, 1) := by decide +kernel
theorem dX6_init_94 : decode cX6_init 94 = .ok (.putfield 61, 3) := by decide +kernel
theorem dX6_init_97 : decode cX6_init 97 = .ok (.iconst 0, 1) := by decide +kernel
theorem dX6_init_98 : decode cX6_init 98 = .ok (.istore_n 1, 1) := by decide +kernel
theorem dX6_init_99 : decode cX6_init 99 = .ok (.iload_n 1, 1) := by decide +kernel
theorem dX6_init_100 : decode cX6_init 100 = .ok (.bipush 8, 2) := by decide +kernel
theorem dX6_init_102 : decode cX6_init 102 = .ok (.if_icmp .ge 22, 3) := by decide +kernel
theorem dX6_init_105 : decode cX6_init 105 = .ok (.aload_n 0, 1) := by decide +kernel
theorem dX6_init_106 : decode cX6_init 106 = .ok (.getfield 11, 3) := by decide +kernel
theorem dX6_init_109 : decode cX6_init 109 = .ok (.iload_n 1, 1) := by decide +kernel
theorem dX6_init_110 : decode cX6_init 110 = .ok (.new 9, 3) := by decide +kernel
theorem dX6_init_113 : decode cX6_init 113 = .ok (.dup, 1) := by decide +kernel
theorem dX6_init_114 : decode cX6_init 114 = .ok (.invokespecial 64, 3) := by decide +kernel
theorem dX6_init_117 : decode cX6_init 117 = .ok (.aastore, 1) := by decide +kernel
theorem dX6_init_118 : decode cX6_init 118 = .ok (.iinc 1 1, 3) := by decide +kernel
theorem dX6_init_121 : decode cX6_init 121 = .ok (.goto (-22), 3) := by decide +kernel
theorem dX6_init_124 : decode cX6_init 124 = .ok (.iconst 0, 1) := by decide +kernel
theorem dX6_init_125 : decode cX6_init 125 = .ok (.istore_n 1, 1) := by decide +kernel
theorem dX6_init_126 : decode cX6_init 126 = .ok (.iload_n 1, 1) := by decide +kernel
theorem dX6_init_127 : decode cX6_init 127 = .ok (.iconst 2, 1) := by decide +kernel
theorem dX6_init_128 : decode cX6_init 128 = .ok (.if_icmp .ge 22, 3) := by decide +kernel
theorem dX6_init_131 : decode cX6_init 131 = .ok (.aload_n 0, 1) := by decide +kernel
theorem dX6_init_132 : decode cX6_init 132 = .ok (.getfield 17, 3) := by decide +kernel
theorem dX6_init_135 : decode cX6_init 135 = .ok (.iload_n 1, 1) := by decide +kernel
theorem dX6_init_136 : decode cX6_init 136 = .ok (.new 15, 3) := by decide +kernel
theorem dX6_init_139 : decode cX6_init 139 = .ok (.dup, 1) := by decide +kernel
theorem dX6_init_140 : decode cX6_init 140 = .ok (.invokespecial 21, 3) := by decide +kernel
theorem dX6_init_143 : decode cX6_init 143 = .ok (.aastore, 1) := by decide +kernel
theorem dX6_init_144 : decode cX6_init 144 = .ok (.iinc 1 1, 3) := by decide +kernel
theorem dX6_init_147 : decode cX6_init 147 = .ok (.goto (-21), 3) := by decide +kernel
theorem dX6_init_150 : decode cX6_init 150 = .ok (.return_, 1) := by decide +kernel
theorem dX6_row_0 : decode cX6_row 0 = .ok (.iload_n 1, 1) := by decide +kernel
theorem dX6_row_1 : decode cX6_row 1 = .ok (.invokestatic 65, 3) := by decide +kernel
theorem dX6_row_4 : decode cX6_row 4 = .ok (.ifCond .eq 18, 3) := by decide +kernel
theorem dX6_row_7 : decode cX6_row 7 = .ok (.iload_n 2, 1) := by decide +kernel
theorem dX6_row_8 : decode cX6_row 8 = .ok (.ifCond .lt 14, 3) := by decide +kernel
theorem dX6_row_11 : decode cX6_row 11 = .ok (.iload_n 2, 1) := by decide +kernel
theorem dX6_row_12 : decode cX6_row 12 = .ok (.iconst 2, 1) := by decide +kernel
theorem dX6_row_13 : decode cX6_row 13 = .ok (.if_icmp .gt 9, 3) := by decide +kernel
theorem dX6_row_16 : decode cX6_row 16 = .ok (.iload_n 3, 1) := by decide +kernel
theorem dX6_row_17 : decode cX6_row 17 = .ok (.bipush 40, 2) := by decide +kernel
theorem dX6_row_19 : decode cX6_row 19 = .ok (.if_icmp .le 6, 3) := by decide +kernel
theorem dX6_row_22 : decode cX6_row 22 = .ok (.ldc 69, 2) := by decide +kernel
theorem dX6_row_24 : decode cX6_row 24 = .ok (.ireturn, 1) := by decide +kernel
theorem dX6_row_25 : decode cX6_row 25 = .ok (.iload_n 3, 1) := by decide +kernel
theorem dX6_row_26 : decode cX6_row 26 = .ok (.ifCond .ge 9, 3) := by decide +kernel
theorem dX6_row_29 : decode cX6_row 29 = .ok (.aload_n 0, 1) := by decide +kernel
theorem dX6_row_30 : decode cX6_row 30 = .ok (.iconst 4, 1) := by decide +kernel
theorem dX6_row_31 : decode cX6_row 31 = .ok (.invokevirtual 70, 3) := by decide +kernel
theorem dX6_row_34 : decode cX6_row 34 = .ok (.ireturn, 1) := by decide +kernel
theorem dX6_row_35 : decode cX6_row 35 = .ok (.aload_n 0, 1) := by decide +kernel
theorem dX6_row_36 : decode cX6_row 36 = .ok (.getfield 11, 3) := by decide +kernel
theorem dX6_row_39 : decode cX6_row 39 = .ok (.iload_n 1, 1) := by decide +kernel
theorem dX6_row_40 : decode cX6_row 40 = .ok (.aaload, 1) := by decide +kernel
theorem dX6_row_41 : decode cX6_row 41 = .ok (.iload_n 2, 1) := by decide +kernel
theorem dX6_row_42 : decode cX6_row 42 = .ok (.iload_n 3, 1) := by decide +kernel
theorem dX6_row_43 : decode cX6_row 43 = .ok (.invokevirtual 74, 3) := by decide +kernel
theorem dX6_row_46 : decode cX6_row 46 = .ok (.aload_n 0, 1) := by decide +kernel
theorem dX6_row_47 : decode cX6_row 47 = .ok (.iload_n 3, 1) := by decide +kernel
theorem dX6_row_48 : decode cX6_row 48 = .ok (.invokevirtual 78, 3) := by decide +kernel
theorem dX6_row_51 : decode cX6_row 51 = .ok (.ireturn, 1) := by decide +kernel
theorem dX6_set_0 : decode cX6_set 0 = .ok (.iload_n 1, 1) := by decide +kernel
theorem dX6_set_1 : decode cX6_set 1 = .ok (.invokestatic 65, 3) := by decide +kernel
theorem dX6_set_4 : decode cX6_set 4 = .ok (.ifCond .ne 6, 3) := by decide +kernel
theorem dX6_set_7 : decode cX6_set 7 = .ok (.ldc 69, 2) := by decide +kernel
theorem dX6_set_9 : decode cX6_set 9 = .ok (.ireturn, 1) := by decide +kernel
theorem dX6_set_10 : decode cX6_set 10 = .ok (.aload_n 0, 1) := by decide +kernel
theorem dX6_set_11 : decode cX6_set 11 = .ok (.getfield 11, 3) := by decide +kernel
theorem dX6_set_14 : decode cX6_set 14 = .ok (.iload_n 1, 1) := by decide +kernel
theorem dX6_set_15 : decode cX6_set 15 = .ok (.aaload, 1) := by decide +kernel
theorem dX6_set_16 : decode cX6_set 16 = .ok (.astore 4, 2) := by decide +kernel
theorem dX6_set_18 : decode cX6_set 18 = .ok (.aload 4, 2) := by decide +kernel
theorem dX6_set_20 : decode cX6_set 20 = .ok (.iload_n 2, 1) := by decide +kernel
theorem dX6_set_21 : decode cX6_set 21 = .ok (.iconst 1, 1) := by decide +kernel
theorem dX6_set_22 : decode cX6_set 22 = .ok (.invokestatic 81, 3) := by decide +kernel
theorem dX6_set_25 : decode cX6_set 25 = .ok (.istore 5, 2) := by decide +kernel
theorem dX6_set_27 : decode cX6_set 27 = .ok (.iload 5, 2) := by decide +kernel
theorem dX6_set_29 : decode cX6_set 29 = .ok (.ifCond .eq 10, 3) := by decide +kernel
theorem dX6_set_32 : decode cX6_set 32 = .ok (.aload_n 0, 1) := by decide +kernel
theorem dX6_set_33 : decode cX6_set 33 = .ok (.iload 5, 2) := by decide +kernel
theorem dX6_set_35 : decode cX6_set 35 = .ok (.invokevirtual 70, 3) := by decide +kernel
theorem dX6_set_38 : decode cX6_set 38 = .ok (.ireturn, 1) := by decide +kernel
theorem dX6_set_39 : decode cX6_set 39 = .ok (.aload 4, 2) := by decide +kernel
theorem dX6_set_41 : decode cX6_set 41 = .ok (.getfield 85, 3) := by decide +kernel
theorem dX6_set_44 : decode cX6_set 44 = .ok (.iload_n 2, 1) := by decide +kernel
theorem dX6_set_45 : decode cX6_set 45 = .ok (.aload 4, 2) := by decide +kernel
theorem dX6_set_47 : decode cX6_set 47 = .ok (.iload_n 3, 1) := by decide +kernel
theorem dX6_set_48 : decode cX6_set 48 = .ok (.invokevirtual 89, 3) := by decide +kernel
theorem dX6_set_51 : decode cX6_set 51 = .ok (.iastore, 1) := by decide +kernel
theorem dX6_set_52 : decode cX6_set 52 = .ok (.aload_n 0, 1) := by decide +kernel
theorem dX6_set_53 : decode cX6_set 53 = .ok (.aload 4, 2) := by decide +kernel
theorem dX6_set_55 : decode cX6_set 55 = .ok (.getfield 85, 3) := by decide +kernel
theorem dX6_set_58 : decode cX6_set 58 = .ok (.iload_n 2, 1) := by decide +kernel
theorem dX6_set_59 : decode cX6_set 59 = .ok (.iaload, 1) := by decide +kernel
theorem dX6_set_60 : decode cX6_set 60 = .ok (.invokevirtual 78, 3) := by decide +kernel
theorem dX6_set_63 : decode cX6_set 63 = .ok (.ireturn, 1) := by decide +kernel
theorem dX6_copy_0 : decode cX6_copy 0 = .ok (.iload_n 1, 1) := by decide +kernel
theorem dX6_copy_1 : decode cX6_copy 1 = .ok (.invokestatic 65, 3) := by decide +kernel
theorem dX6_copy_4 : decode cX6_copy 4 = .ok (.ifCond .eq 10, 3) := by decide +kernel
theorem dX6_copy_7 : decode cX6_copy 7 = .ok (.iload_n 3, 1) := by decide +kernel
theorem dX6_copy_8 : decode cX6_copy 8 = .ok (.invokestatic 65, 3) := by decide +kernel
theorem dX6_copy_11 : decode cX6_copy 11 = .ok (.ifCond .ne 6, 3) := by decide +kernel
theorem dX6_copy_14 : decode cX6_copy 14 = .ok (.ldc 69, 2) := by decide +kernel
theorem dX6_copy_16 : decode cX6_copy 16 = .ok (.ireturn, 1) := by decide +kernel
theorem dX6_copy_17 : decode cX6_copy 17 = .ok (.aload_n 0, 1) := by decide +kernel
theorem dX6_copy_18 : decode cX6_copy 18 = .ok (.getfield 11, 3) := by decide +kernel
theorem dX6_copy_21 : decode cX6_copy 21 = .ok (.iload_n 1, 1) := by decide +kernel
theorem dX6_copy_22 : decode cX6_copy 22 = .ok (.aaload, 1) := by decide +kernel
theorem dX6_copy_23 : decode cX6_copy 23 = .ok (.astore 6, 2) := by decide +kernel
theorem dX6_copy_25 : decode cX6_copy 25 = .ok (.aload_n 0, 1) := by decide +kernel
theorem dX6_copy_26 : decode cX6_copy 26 = .ok (.getfield 11, 3) := by decide +kernel
theorem dX6_copy_29 : decode cX6_copy 29 = .ok (.iload_n 3, 1) := by decide +kernel
theorem dX6_copy_30 : decode cX6_copy 30 = .ok (.aaload, 1) := by decide +kernel
theorem dX6_copy_31 : decode cX6_copy 31 = .ok (.astore 7, 2) := by decide +kernel
theorem dX6_copy_33 : decode cX6_copy 33 = .ok (.aload 6, 2) := by decide +kernel
theorem dX6_copy_35 : decode cX6_copy 35 = .ok (.invokevirtual 92, 3) := by decide +kernel
theorem dX6_copy_38 : decode cX6_copy 38 = .ok (.ifCond .ne 11, 3) := by decide +kernel
theorem dX6_copy_41 : decode cX6_copy 41 = .ok (.aload 7, 2) := by decide +kernel
theorem dX6_copy_43 : decode cX6_copy 43 = .ok (.invokevirtual 92, 3) := by decide +kernel
theorem dX6_copy_46 : decode cX6_copy 46 = .ok (.ifCond .eq 9, 3) := by decide +kernel
theorem dX6_copy_49 : decode cX6_copy 49 = .ok (.aload_n 0, 1) := by decide +kernel
theorem dX6_copy_50 : decode cX6_copy 50 = .ok (.iconst 1, 1) := by decide +kernel
theorem dX6_copy_51 : decode cX6_copy 51 = .ok (.invokevirtual 70, 3) := by decide +kernel
theorem dX6_copy_54 : decode cX6_copy 54 = .ok (.ireturn, 1) := by decide +kernel
theorem dX6_copy_55 : decode cX6_copy 55 = .ok (.aload 6, 2) := by decide +kernel
theorem dX6_copy_57 : decode cX6_copy 57 = .ok (.getfield 96, 3) := by decide +kernel
theorem dX6_copy_60 : decode cX6_copy 60 = .ok (.aload 7, 2) := by decide +kernel
theorem dX6_copy_62 : decode cX6_copy 62 = .ok (.getfield 96, 3) := by decide +kernel
theorem dX6_copy_65 : decode cX6_copy 65 = .ok (.if_icmp .eq 9, 3) := by decide +kernel
theorem dX6_copy_68 : decode cX6_copy 68 = .ok (.aload_n 0, 1) := by decide +kernel
theorem dX6_copy_69 : decode cX6_copy 69 = .ok (.iconst 5, 1) := by decide +kernel
theorem dX6_copy_70 : decode cX6_copy 70 = .ok (.invokevirtual 70, 3) := by decide +kernel
theorem dX6_copy_73 : decode cX6_copy 73 = .ok (.ireturn, 1) := by decide +kernel
theorem dX6_copy_74 : decode cX6_copy 74 = .ok (.aload 6, 2) := by decide +kernel
theorem dX6_copy_76 : decode cX6_copy 76 = .ok (.iload_n 2, 1) := by decide +kernel
theorem dX6_copy_77 : decode cX6_copy 77 = .ok (.iload 5, 2) := by decide +kernel
theorem dX6_copy_79 : decode cX6_copy 79 = .ok (.invokevirtual 99, 3) := by decide +kernel
theorem dX6_copy_82 : decode cX6_copy 82 = .ok (.ifCond .eq 15, 3) := by decide +kernel
theorem dX6_copy_85 : decode cX6_copy 85 = .ok (.aload 7, 2) := by decide +kernel
theorem dX6_copy_87 : decode cX6_copy 87 = .ok (.iload 4, 2) := by decide +kernel
theorem dX6_copy_89 : decode cX6_copy 89 = .ok (.iload 5, 2) := by decide +kernel
theorem dX6_copy_91 : decode cX6_copy 91 = .ok (.invokevirtual 99, 3) := by decide +kernel
theorem dX6_copy_94 : decode cX6_copy 94 = .ok (.ifCond .ne 9, 3) := by decide +kernel
theorem dX6_copy_97 : decode cX6_copy 97 = .ok (.aload_n 0, 1) := by decide +kernel
theorem dX6_copy_98 : decode cX6_copy 98 = .ok (.iconst 2, 1) := by decide +kernel
theorem dX6_copy_99 : decode cX6_copy 99 = .ok (.invokevirtual 70, 3) := by decide +kernel
theorem dX6_copy_102 : decode cX6_copy 102 = .ok (.ireturn, 1) := by decide +kernel
theorem dX6_copy_103 : decode cX6_copy 103 = .ok (.aload 6, 2) := by decide +kernel
theorem dX6_copy_105 : decode cX6_copy 105 = .ok (.getfield 85, 3) := by decide +kernel
theorem dX6_copy_108 : decode cX6_copy 108 = .ok (.iload_n 2, 1) := by decide +kernel
theorem dX6_copy_109 : decode cX6_copy 109 = .ok (.aload 7, 2) := by decide +kernel
theorem dX6_copy_111 : decode cX6_copy 111 = .ok (.getfield 85, 3) := by decide +kernel
theorem dX6_copy_114 : decode cX6_copy 114 = .ok (.iload 4, 2) := by decide +kernel
theorem dX6_copy_116 : decode cX6_copy 116 = .ok (.iload 5, 2) := by decide +kernel
theorem dX6_copy_118 : decode cX6_copy 118 = .ok (.invokestatic 103, 3) := by decide +kernel
theorem dX6_copy_121 : decode cX6_copy 121 = .ok (.aload_n 0, 1) := by decide +kernel
theorem dX6_copy_122 : decode cX6_copy 122 = .ok (.iload 5, 2) := by decide +kernel
theorem dX6_copy_124 : decode cX6_copy 124 = .ok (.invokevirtual 78, 3) := by decide +kernel
theorem dX6_copy_127 : decode cX6_copy 127 = .ok (.ireturn, 1) := by decide +kernel
theorem dX6_drop_0 : decode cX6_drop 0 = .ok (.iload_n 1, 1) := by decide +kernel
theorem dX6_drop_1 : decode cX6_drop 1 = .ok (.invokestatic 65, 3) := by decide +kernel
theorem dX6_drop_4 : decode cX6_drop 4 = .ok (.ifCond .ne 6, 3) := by decide +kernel
theorem dX6_drop_7 : decode cX6_drop 7 = .ok (.ldc 69, 2) := by decide +kernel
theorem dX6_drop_9 : decode cX6_drop 9 = .ok (.ireturn, 1) := by decide +kernel
theorem dX6_drop_10 : decode cX6_drop 10 = .ok (.aload_n 0, 1) := by decide +kernel
theorem dX6_drop_11 : decode cX6_drop 11 = .ok (.getfield 11, 3) := by decide +kernel
theorem dX6_drop_14 : decode cX6_drop 14 = .ok (.iload_n 1, 1) := by decide +kernel
theorem dX6_drop_15 : decode cX6_drop 15 = .ok (.aaload, 1) := by decide +kernel
theorem dX6_drop_16 : decode cX6_drop 16 = .ok (.astore_n 2, 1) := by decide +kernel
theorem dX6_drop_17 : decode cX6_drop 17 = .ok (.aload_n 2, 1) := by decide +kernel
theorem dX6_drop_18 : decode cX6_drop 18 = .ok (.invokevirtual 92, 3) := by decide +kernel
theorem dX6_drop_21 : decode cX6_drop 21 = .ok (.ifCond .eq 9, 3) := by decide +kernel
theorem dX6_drop_24 : decode cX6_drop 24 = .ok (.aload_n 0, 1) := by decide +kernel
theorem dX6_drop_25 : decode cX6_drop 25 = .ok (.iconst 1, 1) := by decide +kernel
theorem dX6_drop_26 : decode cX6_drop 26 = .ok (.invokevirtual 70, 3) := by decide +kernel
theorem dX6_drop_29 : decode cX6_drop 29 = .ok (.ireturn, 1) := by decide +kernel
theorem dX6_drop_30 : decode cX6_drop 30 = .ok (.aload_n 2, 1) := by decide +kernel
theorem dX6_drop_31 : decode cX6_drop 31 = .ok (.getfield 109, 3) := by decide +kernel
theorem dX6_drop_34 : decode cX6_drop 34 = .ok (.istore_n 3, 1) := by decide +kernel
theorem dX6_drop_35 : decode cX6_drop 35 = .ok (.aload_n 2, 1) := by decide +kernel
theorem dX6_drop_36 : decode cX6_drop 36 = .ok (.iconst (-1), 1) := by decide +kernel
theorem dX6_drop_37 : decode cX6_drop 37 = .ok (.iconst 0, 1) := by decide +kernel
theorem dX6_drop_38 : decode cX6_drop 38 = .ok (.invokevirtual 74, 3) := by decide +kernel
theorem dX6_drop_41 : decode cX6_drop 41 = .ok (.aload_n 0, 1) := by decide +kernel
theorem dX6_drop_42 : decode cX6_drop 42 = .ok (.iload_n 3, 1) := by decide +kernel
theorem dX6_drop_43 : decode cX6_drop 43 = .ok (.invokevirtual 78, 3) := by decide +kernel
theorem dX6_drop_46 : decode cX6_drop 46 = .ok (.ireturn, 1) := by decide +kernel
theorem dX6_feed_0 : decode cX6_feed 0 = .ok (.iload_n 1, 1) := by decide +kernel
theorem dX6_feed_1 : decode cX6_feed 1 = .ok (.ifCond .lt 10, 3) := by decide +kernel
theorem dX6_feed_4 : decode cX6_feed 4 = .ok (.iload_n 1, 1) := by decide +kernel
theorem dX6_feed_5 : decode cX6_feed 5 = .ok (.sipush 255, 3) := by decide +kernel
theorem dX6_feed_8 : decode cX6_feed 8 = .ok (.if_icmp .le 6, 3) := by decide +kernel
theorem dX6_feed_11 : decode cX6_feed 11 = .ok (.ldc 69, 2) := by decide +kernel
theorem dX6_feed_13 : decode cX6_feed 13 = .ok (.ireturn, 1) := by decide +kernel
theorem dX6_feed_14 : decode cX6_feed 14 = .ok (.aload_n 0, 1) := by decide +kernel
theorem dX6_feed_15 : decode cX6_feed 15 = .ok (.getfield 32, 3) := by decide +kernel
theorem dX6_feed_18 : decode cX6_feed 18 = .ok (.iload_n 1, 1) := by decide +kernel
theorem dX6_feed_19 : decode cX6_feed 19 = .ok (.invokevirtual 112, 3) := by decide +kernel
theorem dX6_feed_22 : decode cX6_feed 22 = .ok (.ifCond .eq 13, 3) := by decide +kernel
theorem dX6_feed_25 : decode cX6_feed 25 = .ok (.aload_n 0, 1) := by decide +kernel
theorem dX6_feed_26 : decode cX6_feed 26 = .ok (.getfield 32, 3) := by decide +kernel
theorem dX6_feed_29 : decode cX6_feed 29 = .ok (.getfield 115, 3) := by decide +kernel
theorem dX6_feed_32 : decode cX6_feed 32 = .ok (.goto 5, 3) := by decide +kernel
theorem dX6_feed_35 : decode cX6_feed 35 = .ok (.ldc 118, 2) := by decide +kernel
theorem dX6_feed_37 : decode cX6_feed 37 = .ok (.ireturn, 1) := by decide +kernel
theorem dX6_street_0 : decode cX6_street 0 = .ok (.aload_n 0, 1) := by decide +kernel
theorem dX6_street_1 : decode cX6_street 1 = .ok (.getfield 32, 3) := by decide +kernel
theorem dX6_street_4 : decode cX6_street 4 = .ok (.aload_n 0, 1) := by decide +kernel
theorem dX6_street_5 : decode cX6_street 5 = .ok (.getfield 26, 3) := by decide +kernel
theorem dX6_street_8 : decode cX6_street 8 = .ok (.invokevirtual 119, 3) := by decide +kernel
theorem dX6_street_11 : decode cX6_street 11 = .ok (.istore_n 1, 1) := by decide +kernel
theorem dX6_street_12 : decode cX6_street 12 = .ok (.aload_n 0, 1) := by decide +kernel
theorem dX6_street_13 : decode cX6_street 13 = .ok (.getfield 32, 3) := by decide +kernel
theorem dX6_street_16 : decode cX6_street 16 = .ok (.iconst 0, 1) := by decide +kernel
theorem dX6_street_17 : decode cX6_street 17 = .ok (.putfield 115, 3) := by decide +kernel
theorem dX6_street_20 : decode cX6_street 20 = .ok (.iload_n 1, 1) := by decide +kernel
theorem dX6_street_21 : decode cX6_street 21 = .ok (.ifCond .ne 25, 3) := by decide +kernel
theorem dX6_street_24 : decode cX6_street 24 = .ok (.aload_n 0, 1) := by decide +kernel
theorem dX6_street_25 : decode cX6_street 25 = .ok (.aload_n 0, 1) := by decide +kernel
theorem dX6_street_26 : decode cX6_street 26 = .ok (.getfield 32, 3) := by decide +kernel
theorem dX6_street_29 : decode cX6_street 29 = .ok (.getfield 123, 3) := by decide +kernel
theorem dX6_street_32 : decode cX6_street 32 = .ok (.putfield 57, 3) := by decide +kernel
theorem dX6_street_35 : decode cX6_street 35 = .ok (.ldc 126, 2) := by decide +kernel
theorem dX6_street_37 : decode cX6_street 37 = .ok (.aload_n 0, 1) := by decide +kernel
theorem dX6_street_38 : decode cX6_street 38 = .ok (.getfield 32, 3) := by decide +kernel
theorem dX6_street_41 : decode cX6_street 41 = .ok (.getfield 127, 3) := by decide +kernel
theorem dX6_street_44 : decode cX6_street 44 = .ok (.isub, 1) := by decide +kernel
theorem dX6_street_45 : decode cX6_street 45 = .ok (.ireturn, 1) := by decide +kernel
theorem dX6_street_46 : decode cX6_street 46 = .ok (.aload_n 0, 1) := by decide +kernel
theorem dX6_street_47 : decode cX6_street 47 = .ok (.getfield 22, 3) := by decide +kernel
theorem dX6_street_50 : decode cX6_street 50 = .ok (.aload_n 0, 1) := by decide +kernel
theorem dX6_street_51 : decode cX6_street 51 = .ok (.getfield 26, 3) := by decide +kernel
theorem dX6_street_54 : decode cX6_street 54 = .ok (.invokevirtual 130, 3) := by decide +kernel
theorem dX6_street_57 : decode cX6_street 57 = .ok (.aload_n 0, 1) := by decide +kernel
theorem dX6_street_58 : decode cX6_street 58 = .ok (.getfield 39, 3) := by decide +kernel
theorem dX6_street_61 : decode cX6_street 61 = .ok (.invokevirtual 134, 3) := by decide +kernel
theorem dX6_street_64 : decode cX6_street 64 = .ok (.aload_n 0, 1) := by decide +kernel
theorem dX6_street_65 : decode cX6_street 65 = .ok (.getfield 22, 3) := by decide +kernel
theorem dX6_street_68 : decode cX6_street 68 = .ok (.getfield 137, 3) := by decide +kernel
theorem dX6_street_71 : decode cX6_street 71 = .ok (.ireturn, 1) := by decide +kernel
theorem dX6_fault_0 : decode cX6_fault 0 = .ok (.aload_n 0, 1) := by decide +kernel
theorem dX6_fault_1 : decode cX6_fault 1 = .ok (.getfield 57, 3) := by decide +kernel
theorem dX6_fault_4 : decode cX6_fault 4 = .ok (.ireturn, 1) := by decide +kernel
theorem dX6_undo_0 : decode cX6_undo 0 = .ok (.aload_n 0, 1) := by decide +kernel
theorem dX6_undo_1 : decode cX6_undo 1 = .ok (.getfield 39, 3) := by decide +kernel
theorem dX6_undo_4 : decode cX6_undo 4 = .ok (.getfield 140, 3) := by decide +kernel
theorem dX6_undo_7 : decode cX6_undo 7 = .ok (.ifCond .ne 6, 3) := by decide +kernel
theorem dX6_undo_10 : decode cX6_undo 10 = .ok (.ldc 143, 2) := by decide +kernel
theorem dX6_undo_12 : decode cX6_undo 12 = .ok (.ireturn, 1) := by decide +kernel
theorem dX6_undo_13 : decode cX6_undo 13 = .ok (.aload_n 0, 1) := by decide +kernel
theorem dX6_undo_14 : decode cX6_undo 14 = .ok (.getfield 39, 3) := by decide +kernel
theorem dX6_undo_17 : decode cX6_undo 17 = .ok (.aload_n 0, 1) := by decide +kernel
theorem dX6_undo_18 : decode cX6_undo 18 = .ok (.getfield 22, 3) := by decide +kernel
theorem dX6_undo_21 : decode cX6_undo 21 = .ok (.invokevirtual 144, 3) := by decide +kernel
theorem dX6_undo_24 : decode cX6_undo 24 = .ok (.aload_n 0, 1) := by decide +kernel
theorem dX6_undo_25 : decode cX6_undo 25 = .ok (.getfield 39, 3) := by decide +kernel
theorem dX6_undo_28 : decode cX6_undo 28 = .ok (.getfield 140, 3) := by decide +kernel
theorem dX6_undo_31 : decode cX6_undo 31 = .ok (.ireturn, 1) := by decide +kernel
theorem dX6_stretch_0 : decode cX6_stretch 0 = .ok (.aload_n 0, 1) := by decide +kernel
theorem dX6_stretch_1 : decode cX6_stretch 1 = .ok (.getfield 22, 3) := by decide +kernel
theorem dX6_stretch_4 : decode cX6_stretch 4 = .ok (.iload_n 1, 1) := by decide +kernel
theorem dX6_stretch_5 : decode cX6_stretch 5 = .ok (.invokevirtual 147, 3) := by decide +kernel
theorem dX6_stretch_8 : decode cX6_stretch 8 = .ok (.ifCond .eq 12, 3) := by decide +kernel
theorem dX6_stretch_11 : decode cX6_stretch 11 = .ok (.iload_n 2, 1) := by decide +kernel
theorem dX6_stretch_12 : decode cX6_stretch 12 = .ok (.ifCond .lt 8, 3) := by decide +kernel
theorem dX6_stretch_15 : decode cX6_stretch 15 = .ok (.iload_n 2, 1) := by decide +kernel
theorem dX6_stretch_16 : decode cX6_stretch 16 = .ok (.iconst 5, 1) := by decide +kernel
theorem dX6_stretch_17 : decode cX6_stretch 17 = .ok (.if_icmp .le 6, 3) := by decide +kernel
theorem dX6_stretch_20 : decode cX6_stretch 20 = .ok (.ldc 69, 2) := by decide +kernel
theorem dX6_stretch_22 : decode cX6_stretch 22 = .ok (.ireturn, 1) := by decide +kernel
theorem dX6_stretch_23 : decode cX6_stretch 23 = .ok (.aload_n 0, 1) := by decide +kernel
theorem dX6_stretch_24 : decode cX6_stretch 24 = .ok (.getfield 22, 3) := by decide +kernel
theorem dX6_stretch_27 : decode cX6_stretch 27 = .ok (.getfield 150, 3) := by decide +kernel
theorem dX6_stretch_30 : decode cX6_stretch 30 = .ok (.iload_n 1, 1) := by decide +kernel
theorem dX6_stretch_31 : decode cX6_stretch 31 = .ok (.iaload, 1) := by decide +kernel
theorem dX6_stretch_32 : decode cX6_stretch 32 = .ok (.istore_n 3, 1) := by decide +kernel
theorem dX6_stretch_33 : decode cX6_stretch 33 = .ok (.aload_n 0, 1) := by decide +kernel
theorem dX6_stretch_34 : decode cX6_stretch 34 = .ok (.getfield 22, 3) := by decide +kernel
theorem dX6_stretch_37 : decode cX6_stretch 37 = .ok (.invokevirtual 153, 3) := by decide +kernel
theorem dX6_stretch_40 : decode cX6_stretch 40 = .ok (.iload_n 3, 1) := by decide +kernel
theorem dX6_stretch_41 : decode cX6_stretch 41 = .ok (.isub, 1) := by decide +kernel
theorem dX6_stretch_42 : decode cX6_stretch 42 = .ok (.iload_n 2, 1) := by decide +kernel
theorem dX6_stretch_43 : decode cX6_stretch 43 = .ok (.iadd, 1) := by decide +kernel
theorem dX6_stretch_44 : decode cX6_stretch 44 = .ok (.aload_n 0, 1) := by decide +kernel
theorem dX6_stretch_45 : decode cX6_stretch 45 = .ok (.getfield 22, 3) := by decide +kernel
theorem dX6_stretch_48 : decode cX6_stretch 48 = .ok (.getfield 157, 3) := by decide +kernel
theorem dX6_stretch_51 : decode cX6_stretch 51 = .ok (.if_icmp .le 6, 3) := by decide +kernel
theorem dX6_stretch_54 : decode cX6_stretch 54 = .ok (.ldc 118, 2) := by decide +kernel
theorem dX6_stretch_56 : decode cX6_stretch 56 = .ok (.ireturn, 1) := by decide +kernel
theorem dX6_stretch_57 : decode cX6_stretch 57 = .ok (.aload_n 0, 1) := by decide +kernel
theorem dX6_stretch_58 : decode cX6_stretch 58 = .ok (.getfield 22, 3) := by decide +kernel
theorem dX6_stretch_61 : decode cX6_stretch 61 = .ok (.getfield 150, 3) := by decide +kernel
theorem dX6_stretch_64 : decode cX6_stretch 64 = .ok (.iload_n 1, 1) := by decide +kernel
theorem dX6_stretch_65 : decode cX6_stretch 65 = .ok (.iload_n 2, 1) := by decide +kernel
theorem dX6_stretch_66 : decode cX6_stretch 66 = .ok (.iastore, 1) := by decide +kernel
theorem dX6_stretch_67 : decode cX6_stretch 67 = .ok (.aload_n 0, 1) := by decide +kernel
theorem dX6_stretch_68 : decode cX6_stretch 68 = .ok (.getfield 39, 3) := by decide +kernel
theorem dX6_stretch_71 : decode cX6_stretch 71 = .ok (.iconst 2, 1) := by decide +kernel
theorem dX6_stretch_72 : decode cX6_stretch 72 = .ok (.iload_n 1, 1) := by decide +kernel
theorem dX6_stretch_73 : decode cX6_stretch 73 = .ok (.iload_n 3, 1) := by decide +kernel
theorem dX6_stretch_74 : decode cX6_stretch 74 = .ok (.invokevirtual 160, 3) := by decide +kernel
theorem dX6_stretch_77 : decode cX6_stretch 77 = .ok (.iload_n 3, 1) := by decide +kernel
theorem dX6_stretch_78 : decode cX6_stretch 78 = .ok (.ireturn, 1) := by decide +kernel
theorem dX6_sound_0 : decode cX6_sound 0 = .ok (.aload_n 0, 1) := by decide +kernel
theorem dX6_sound_1 : decode cX6_sound 1 = .ok (.getfield 22, 3) := by decide +kernel
theorem dX6_sound_4 : decode cX6_sound 4 = .ok (.iload_n 1, 1) := by decide +kernel
theorem dX6_sound_5 : decode cX6_sound 5 = .ok (.invokevirtual 147, 3) := by decide +kernel
theorem dX6_sound_8 : decode cX6_sound 8 = .ok (.ifCond .eq 17, 3) := by decide +kernel
theorem dX6_sound_11 : decode cX6_sound 11 = .ok (.iload_n 2, 1) := by decide +kernel
theorem dX6_sound_12 : decode cX6_sound 12 = .ok (.invokestatic 164, 3) := by decide +kernel
theorem dX6_sound_15 : decode cX6_sound 15 = .ok (.ifCond .eq 10, 3) := by decide +kernel
theorem dX6_sound_18 : decode cX6_sound 18 = .ok (.iload_n 3, 1) := by decide +kernel
theorem dX6_sound_19 : decode cX6_sound 19 = .ok (.invokestatic 164, 3) := by decide +kernel
theorem dX6_sound_22 : decode cX6_sound 22 = .ok (.ifCond .ne 6, 3) := by decide +kernel
theorem dX6_sound_25 : decode cX6_sound 25 = .ok (.ldc 69, 2) := by decide +kernel
theorem dX6_sound_27 : decode cX6_sound 27 = .ok (.ireturn, 1) := by decide +kernel
theorem dX6_sound_28 : decode cX6_sound 28 = .ok (.iload_n 2, 1) := by decide +kernel
theorem dX6_sound_29 : decode cX6_sound 29 = .ok (.ifCond .ne 13, 3) := by decide +kernel
theorem dX6_sound_32 : decode cX6_sound 32 = .ok (.aload_n 0, 1) := by decide +kernel
theorem dX6_sound_33 : decode cX6_sound 33 = .ok (.getfield 22, 3) := by decide +kernel
theorem dX6_sound_36 : decode cX6_sound 36 = .ok (.getfield 167, 3) := by decide +kernel
theorem dX6_sound_39 : decode cX6_sound 39 = .ok (.goto 10, 3) := by decide +kernel
theorem dX6_sound_42 : decode cX6_sound 42 = .ok (.aload_n 0, 1) := by decide +kernel
theorem dX6_sound_43 : decode cX6_sound 43 = .ok (.getfield 22, 3) := by decide +kernel
theorem dX6_sound_46 : decode cX6_sound 46 = .ok (.getfield 170, 3) := by decide +kernel
theorem dX6_sound_49 : decode cX6_sound 49 = .ok (.astore 4, 2) := by decide +kernel
theorem dX6_sound_51 : decode cX6_sound 51 = .ok (.aload 4, 2) := by decide +kernel
theorem dX6_sound_53 : decode cX6_sound 53 = .ok (.iload_n 1, 1) := by decide +kernel
theorem dX6_sound_54 : decode cX6_sound 54 = .ok (.iaload, 1) := by decide +kernel
theorem dX6_sound_55 : decode cX6_sound 55 = .ok (.iload_n 3, 1) := by decide +kernel
theorem dX6_sound_56 : decode cX6_sound 56 = .ok (.if_icmp .ne 6, 3) := by decide +kernel
theorem dX6_sound_59 : decode cX6_sound 59 = .ok (.ldc 143, 2) := by decide +kernel
theorem dX6_sound_61 : decode cX6_sound 61 = .ok (.ireturn, 1) := by decide +kernel
theorem dX6_sound_62 : decode cX6_sound 62 = .ok (.iload_n 3, 1) := by decide +kernel
theorem dX6_sound_63 : decode cX6_sound 63 = .ok (.iconst 1, 1) := by decide +kernel
theorem dX6_sound_64 : decode cX6_sound 64 = .ok (.if_icmp .ne 23, 3) := by decide +kernel
theorem dX6_sound_67 : decode cX6_sound 67 = .ok (.aload_n 0, 1) := by decide +kernel
theorem dX6_sound_68 : decode cX6_sound 68 = .ok (.getfield 22, 3) := by decide +kernel
theorem dX6_sound_71 : decode cX6_sound 71 = .ok (.invokevirtual 173, 3) := by decide +kernel
theorem dX6_sound_74 : decode cX6_sound 74 = .ok (.aload_n 0, 1) := by decide +kernel
theorem dX6_sound_75 : decode cX6_sound 75 = .ok (.getfield 22, 3) := by decide +kernel
theorem dX6_sound_78 : decode cX6_sound 78 = .ok (.getfield 176, 3) := by decide +kernel
theorem dX6_sound_81 : decode cX6_sound 81 = .ok (.if_icmp .lt 6, 3) := by decide +kernel
theorem dX6_sound_84 : decode cX6_sound 84 = .ok (.ldc 118, 2) := by decide +kernel
theorem dX6_sound_86 : decode cX6_sound 86 = .ok (.ireturn, 1) := by decide +kernel
theorem dX6_sound_87 : decode cX6_sound 87 = .ok (.aload 4, 2) := by decide +kernel
theorem dX6_sound_89 : decode cX6_sound 89 = .ok (.iload_n 1, 1) := by decide +kernel
theorem dX6_sound_90 : decode cX6_sound 90 = .ok (.iload_n 3, 1) := by decide +kernel
theorem dX6_sound_91 : decode cX6_sound 91 = .ok (.iastore, 1) := by decide +kernel
theorem dX6_sound_92 : decode cX6_sound 92 = .ok (.aload_n 0, 1) := by decide +kernel
theorem dX6_sound_93 : decode cX6_sound 93 = .ok (.getfield 39, 3) := by decide +kernel
theorem dX6_sound_96 : decode cX6_sound 96 = .ok (.iload_n 2, 1) := by decide +kernel
theorem dX6_sound_97 : decode cX6_sound 97 = .ok (.iload_n 1, 1) := by decide +kernel
theorem dX6_sound_98 : decode cX6_sound 98 = .ok (.iconst 1, 1) := by decide +kernel
theorem dX6_sound_99 : decode cX6_sound 99 = .ok (.iload_n 3, 1) := by decide +kernel
theorem dX6_sound_100 : decode cX6_sound 100 = .ok (.isub, 1) := by decide +kernel
theorem dX6_sound_101 : decode cX6_sound 101 = .ok (.invokevirtual 160, 3) := by decide +kernel
theorem dX6_sound_104 : decode cX6_sound 104 = .ok (.aload_n 0, 1) := by decide +kernel
theorem dX6_sound_105 : decode cX6_sound 105 = .ok (.getfield 22, 3) := by decide +kernel
theorem dX6_sound_108 : decode cX6_sound 108 = .ok (.invokevirtual 173, 3) := by decide +kernel
theorem dX6_sound_111 : decode cX6_sound 111 = .ok (.ireturn, 1) := by decide +kernel
theorem dX6_days_0 : decode cX6_days 0 = .ok (.aload_n 0, 1) := by decide +kernel
theorem dX6_days_1 : decode cX6_days 1 = .ok (.getfield 22, 3) := by decide +kernel
theorem dX6_days_4 : decode cX6_days 4 = .ok (.invokevirtual 179, 3) := by decide +kernel
theorem dX6_days_7 : decode cX6_days 7 = .ok (.ifCond .ne 6, 3) := by decide +kernel
theorem dX6_days_10 : decode cX6_days 10 = .ok (.ldc 143, 2) := by decide +kernel
theorem dX6_days_12 : decode cX6_days 12 = .ok (.ireturn, 1) := by decide +kernel
theorem dX6_days_13 : decode cX6_days 13 = .ok (.iload_n 1, 1) := by decide +kernel
theorem dX6_days_14 : decode cX6_days 14 = .ok (.iconst 1, 1) := by decide +kernel
theorem dX6_days_15 : decode cX6_days 15 = .ok (.if_icmp .lt 9, 3) := by decide +kernel
theorem dX6_days_18 : decode cX6_days 18 = .ok (.iload_n 1, 1) := by decide +kernel
theorem dX6_days_19 : decode cX6_days 19 = .ok (.bipush 24, 2) := by decide +kernel
theorem dX6_days_21 : decode cX6_days 21 = .ok (.if_icmp .le 6, 3) := by decide +kernel
theorem dX6_days_24 : decode cX6_days 24 = .ok (.ldc 69, 2) := by decide +kernel
theorem dX6_days_26 : decode cX6_days 26 = .ok (.ireturn, 1) := by decide +kernel
theorem dX6_days_27 : decode cX6_days 27 = .ok (.aload_n 0, 1) := by decide +kernel
theorem dX6_days_28 : decode cX6_days 28 = .ok (.getfield 22, 3) := by decide +kernel
theorem dX6_days_31 : decode cX6_days 31 = .ok (.getfield 182, 3) := by decide +kernel
theorem dX6_days_34 : decode cX6_days 34 = .ok (.iload_n 1, 1) := by decide +kernel
theorem dX6_days_35 : decode cX6_days 35 = .ok (.iadd, 1) := by decide +kernel
theorem dX6_days_36 : decode cX6_days 36 = .ok (.sipush 999, 3) := by decide +kernel
theorem dX6_days_39 : decode cX6_days 39 = .ok (.if_icmp .le 6, 3) := by decide +kernel
theorem dX6_days_42 : decode cX6_days 42 = .ok (.ldc 118, 2) := by decide +kernel
theorem dX6_days_44 : decode cX6_days 44 = .ok (.ireturn, 1) := by decide +kernel
theorem dX6_days_45 : decode cX6_days 45 = .ok (.iconst 0, 1) := by decide +kernel
theorem dX6_days_46 : decode cX6_days 46 = .ok (.istore_n 2, 1) := by decide +kernel
theorem dX6_days_47 : decode cX6_days 47 = .ok (.iconst 0, 1) := by decide +kernel
theorem dX6_days_48 : decode cX6_days 48 = .ok (.istore_n 3, 1) := by decide +kernel
theorem dX6_days_49 : decode cX6_days 49 = .ok (.iload_n 3, 1) := by decide +kernel
theorem dX6_days_50 : decode cX6_days 50 = .ok (.iload_n 1, 1) := by decide +kernel
theorem dX6_days_51 : decode cX6_days 51 = .ok (.if_icmp .ge 27, 3) := by decide +kernel
theorem dX6_days_54 : decode cX6_days 54 = .ok (.aload_n 0, 1) := by decide +kernel
theorem dX6_days_55 : decode cX6_days 55 = .ok (.getfield 22, 3) := by decide +kernel
theorem dX6_days_58 : decode cX6_days 58 = .ok (.invokevirtual 185, 3) := by decide +kernel
theorem dX6_days_61 : decode cX6_days 61 = .ok (.istore_n 2, 1) := by decide +kernel
theorem dX6_days_62 : decode cX6_days 62 = .ok (.aload_n 0, 1) := by decide +kernel
theorem dX6_days_63 : decode cX6_days 63 = .ok (.getfield 39, 3) := by decide +kernel
theorem dX6_days_66 : decode cX6_days 66 = .ok (.iconst 3, 1) := by decide +kernel
theorem dX6_days_67 : decode cX6_days 67 = .ok (.iconst 0, 1) := by decide +kernel
theorem dX6_days_68 : decode cX6_days 68 = .ok (.iload_n 2, 1) := by decide +kernel
theorem dX6_days_69 : decode cX6_days 69 = .ok (.invokevirtual 160, 3) := by decide +kernel
theorem dX6_days_72 : decode cX6_days 72 = .ok (.iinc 3 1, 3) := by decide +kernel
theorem dX6_days_75 : decode cX6_days 75 = .ok (.goto (-26), 3) := by decide +kernel
theorem dX6_days_78 : decode cX6_days 78 = .ok (.iload_n 2, 1) := by decide +kernel
theorem dX6_days_79 : decode cX6_days 79 = .ok (.ireturn, 1) := by decide +kernel
theorem dX6_door_0 : decode cX6_door 0 = .ok (.aload_n 0, 1) := by decide +kernel
theorem dX6_door_1 : decode cX6_door 1 = .ok (.getfield 22, 3) := by decide +kernel
theorem dX6_door_4 : decode cX6_door 4 = .ok (.iload_n 1, 1) := by decide +kernel
theorem dX6_door_5 : decode cX6_door 5 = .ok (.invokevirtual 147, 3) := by decide +kernel
theorem dX6_door_8 : decode cX6_door 8 = .ok (.ifCond .ne 6, 3) := by decide +kernel
theorem dX6_door_11 : decode cX6_door 11 = .ok (.ldc 69, 2) := by decide +kernel
theorem dX6_door_13 : decode cX6_door 13 = .ok (.ireturn, 1) := by decide +kernel
theorem dX6_door_14 : decode cX6_door 14 = .ok (.iload_n 2, 1) := by decide +kernel
theorem dX6_door_15 : decode cX6_door 15 = .ok (.tableswitch 108 0 6 #[41, 51, 61, 71, 81, 90, 99], 41) := by decide +kernel
theorem dX6_door_56 : decode cX6_door 56 = .ok (.aload_n 0, 1) := by decide +kernel
theorem dX6_door_57 : decode cX6_door 57 = .ok (.getfield 22, 3) := by decide +kernel
theorem dX6_door_60 : decode cX6_door 60 = .ok (.getfield 188, 3) := by decide +kernel
theorem dX6_door_63 : decode cX6_door 63 = .ok (.iload_n 1, 1) := by decide +kernel
theorem dX6_door_64 : decode cX6_door 64 = .ok (.iaload, 1) := by decide +kernel
theorem dX6_door_65 : decode cX6_door 65 = .ok (.ireturn, 1) := by decide +kernel
theorem dX6_door_66 : decode cX6_door 66 = .ok (.aload_n 0, 1) := by decide +kernel
theorem dX6_door_67 : decode cX6_door 67 = .ok (.getfield 22, 3) := by decide +kernel
theorem dX6_door_70 : decode cX6_door 70 = .ok (.getfield 150, 3) := by decide +kernel
theorem dX6_door_73 : decode cX6_door 73 = .ok (.iload_n 1, 1) := by decide +kernel
theorem dX6_door_74 : decode cX6_door 74 = .ok (.iaload, 1) := by decide +kernel
theorem dX6_door_75 : decode cX6_door 75 = .ok (.ireturn, 1) := by decide +kernel
theorem dX6_door_76 : decode cX6_door 76 = .ok (.aload_n 0, 1) := by decide +kernel
theorem dX6_door_77 : decode cX6_door 77 = .ok (.getfield 22, 3) := by decide +kernel
theorem dX6_door_80 : decode cX6_door 80 = .ok (.getfield 167, 3) := by decide +kernel
theorem dX6_door_83 : decode cX6_door 83 = .ok (.iload_n 1, 1) := by decide +kernel
theorem dX6_door_84 : decode cX6_door 84 = .ok (.iaload, 1) := by decide +kernel
theorem dX6_door_85 : decode cX6_door 85 = .ok (.ireturn, 1) := by decide +kernel
theorem dX6_door_86 : decode cX6_door 86 = .ok (.aload_n 0, 1) := by decide +kernel
theorem dX6_door_87 : decode cX6_door 87 = .ok (.getfield 22, 3) := by decide +kernel
theorem dX6_door_90 : decode cX6_door 90 = .ok (.getfield 170, 3) := by decide +kernel
theorem dX6_door_93 : decode cX6_door 93 = .ok (.iload_n 1, 1) := by decide +kernel
theorem dX6_door_94 : decode cX6_door 94 = .ok (.iaload, 1) := by decide +kernel
theorem dX6_door_95 : decode cX6_door 95 = .ok (.ireturn, 1) := by decide +kernel
theorem dX6_door_96 : decode cX6_door 96 = .ok (.aload_n 0, 1) := by decide +kernel
theorem dX6_door_97 : decode cX6_door 97 = .ok (.getfield 22, 3) := by decide +kernel
theorem dX6_door_100 : decode cX6_door 100 = .ok (.iload_n 1, 1) := by decide +kernel
theorem dX6_door_101 : decode cX6_door 101 = .ok (.invokevirtual 191, 3) := by decide +kernel
theorem dX6_door_104 : decode cX6_door 104 = .ok (.ireturn, 1) := by decide +kernel
theorem dX6_door_105 : decode cX6_door 105 = .ok (.aload_n 0, 1) := by decide +kernel
theorem dX6_door_106 : decode cX6_door 106 = .ok (.getfield 22, 3) := by decide +kernel
theorem dX6_door_109 : decode cX6_door 109 = .ok (.iload_n 1, 1) := by decide +kernel
theorem dX6_door_110 : decode cX6_door 110 = .ok (.invokevirtual 194, 3) := by decide +kernel
theorem dX6_door_113 : decode cX6_door 113 = .ok (.ireturn, 1) := by decide +kernel
theorem dX6_door_114 : decode cX6_door 114 = .ok (.aload_n 0, 1) := by decide +kernel
theorem dX6_door_115 : decode cX6_door 115 = .ok (.getfield 22, 3) := by decide +kernel
theorem dX6_door_118 : decode cX6_door 118 = .ok (.iload_n 1, 1) := by decide +kernel
theorem dX6_door_119 : decode cX6_door 119 = .ok (.invokevirtual 197, 3) := by decide +kernel
theorem dX6_door_122 : decode cX6_door 122 = .ok (.ireturn, 1) := by decide +kernel
theorem dX6_door_123 : decode cX6_door 123 = .ok (.ldc 69, 2) := by decide +kernel
theorem dX6_door_125 : decode cX6_door 125 = .ok (.ireturn, 1) := by decide +kernel
theorem dX6_caller_0 : decode cX6_caller 0 = .ok (.aload_n 0, 1) := by decide +kernel
theorem dX6_caller_1 : decode cX6_caller 1 = .ok (.getfield 22, 3) := by decide +kernel
theorem dX6_caller_4 : decode cX6_caller 4 = .ok (.iload_n 1, 1) := by decide +kernel
theorem dX6_caller_5 : decode cX6_caller 5 = .ok (.invokevirtual 200, 3) := by decide +kernel
theorem dX6_caller_8 : decode cX6_caller 8 = .ok (.ifCond .ne 6, 3) := by decide +kernel
theorem dX6_caller_11 : decode cX6_caller 11 = .ok (.ldc 69, 2) := by decide +kernel
theorem dX6_caller_13 : decode cX6_caller 13 = .ok (.ireturn, 1) := by decide +kernel
theorem dX6_caller_14 : decode cX6_caller 14 = .ok (.iload_n 2, 1) := by decide +kernel
theorem dX6_caller_15 : decode cX6_caller 15 = .ok (.tableswitch 89 0 4 #[33, 43, 53, 62, 79], 33) := by decide +kernel
theorem dX6_caller_48 : decode cX6_caller 48 = .ok (.aload_n 0, 1) := by decide +kernel
theorem dX6_caller_49 : decode cX6_caller 49 = .ok (.getfield 22, 3) := by decide +kernel
theorem dX6_caller_52 : decode cX6_caller 52 = .ok (.getfield 203, 3) := by decide +kernel
theorem dX6_caller_55 : decode cX6_caller 55 = .ok (.iload_n 1, 1) := by decide +kernel
theorem dX6_caller_56 : decode cX6_caller 56 = .ok (.iaload, 1) := by decide +kernel
theorem dX6_caller_57 : decode cX6_caller 57 = .ok (.ireturn, 1) := by decide +kernel
theorem dX6_caller_58 : decode cX6_caller 58 = .ok (.aload_n 0, 1) := by decide +kernel
theorem dX6_caller_59 : decode cX6_caller 59 = .ok (.getfield 22, 3) := by decide +kernel
theorem dX6_caller_62 : decode cX6_caller 62 = .ok (.getfield 206, 3) := by decide +kernel
theorem dX6_caller_65 : decode cX6_caller 65 = .ok (.iload_n 1, 1) := by decide +kernel
theorem dX6_caller_66 : decode cX6_caller 66 = .ok (.iaload, 1) := by decide +kernel
theorem dX6_caller_67 : decode cX6_caller 67 = .ok (.ireturn, 1) := by decide +kernel
theorem dX6_caller_68 : decode cX6_caller 68 = .ok (.aload_n 0, 1) := by decide +kernel
theorem dX6_caller_69 : decode cX6_caller 69 = .ok (.getfield 22, 3) := by decide +kernel
theorem dX6_caller_72 : decode cX6_caller 72 = .ok (.iload_n 1, 1) := by decide +kernel
theorem dX6_caller_73 : decode cX6_caller 73 = .ok (.invokevirtual 209, 3) := by decide +kernel
theorem dX6_caller_76 : decode cX6_caller 76 = .ok (.ireturn, 1) := by decide +kernel
theorem dX6_caller_77 : decode cX6_caller 77 = .ok (.aload_n 0, 1) := by decide +kernel
theorem dX6_caller_78 : decode cX6_caller 78 = .ok (.getfield 22, 3) := by decide +kernel
theorem dX6_caller_81 : decode cX6_caller 81 = .ok (.iload_n 1, 1) := by decide +kernel
theorem dX6_caller_82 : decode cX6_caller 82 = .ok (.invokevirtual 212, 3) := by decide +kernel
theorem dX6_caller_85 : decode cX6_caller 85 = .ok (.ifCond .eq 7, 3) := by decide +kernel
theorem dX6_caller_88 : decode cX6_caller 88 = .ok (.iconst 1, 1) := by decide +kernel
theorem dX6_caller_89 : decode cX6_caller 89 = .ok (.goto 4, 3) := by decide +kernel
theorem dX6_caller_92 : decode cX6_caller 92 = .ok (.iconst 0, 1) := by decide +kernel
theorem dX6_caller_93 : decode cX6_caller 93 = .ok (.ireturn, 1) := by decide +kernel
theorem dX6_caller_94 : decode cX6_caller 94 = .ok (.aload_n 0, 1) := by decide +kernel
theorem dX6_caller_95 : decode cX6_caller 95 = .ok (.getfield 22, 3) := by decide +kernel
theorem dX6_caller_98 : decode cX6_caller 98 = .ok (.getfield 215, 3) := by decide +kernel
theorem dX6_caller_101 : decode cX6_caller 101 = .ok (.iload_n 1, 1) := by decide +kernel
theorem dX6_caller_102 : decode cX6_caller 102 = .ok (.iaload, 1) := by decide +kernel
theorem dX6_caller_103 : decode cX6_caller 103 = .ok (.ireturn, 1) := by decide +kernel
theorem dX6_caller_104 : decode cX6_caller 104 = .ok (.ldc 69, 2) := by decide +kernel
theorem dX6_caller_106 : decode cX6_caller 106 = .ok (.ireturn, 1) := by decide +kernel
theorem dX6_used_0 : decode cX6_used 0 = .ok (.aload_n 0, 1) := by decide +kernel
theorem dX6_used_1 : decode cX6_used 1 = .ok (.getfield 22, 3) := by decide +kernel
theorem dX6_used_4 : decode cX6_used 4 = .ok (.invokevirtual 179, 3) := by decide +kernel
theorem dX6_used_7 : decode cX6_used 7 = .ok (.ifCond .ne 6, 3) := by decide +kernel
theorem dX6_used_10 : decode cX6_used 10 = .ok (.ldc 143, 2) := by decide +kernel
theorem dX6_used_12 : decode cX6_used 12 = .ok (.ireturn, 1) := by decide +kernel
theorem dX6_used_13 : decode cX6_used 13 = .ok (.iload_n 1, 1) := by decide +kernel
theorem dX6_used_14 : decode cX6_used 14 = .ok (.invokestatic 164, 3) := by decide +kernel
theorem dX6_used_17 : decode cX6_used 17 = .ok (.ifCond .ne 6, 3) := by decide +kernel
theorem dX6_used_20 : decode cX6_used 20 = .ok (.ldc 69, 2) := by decide +kernel
theorem dX6_used_22 : decode cX6_used 22 = .ok (.ireturn, 1) := by decide +kernel
theorem dX6_used_23 : decode cX6_used 23 = .ok (.iload_n 1, 1) := by decide +kernel
theorem dX6_used_24 : decode cX6_used 24 = .ok (.ifCond .ne 13, 3) := by decide +kernel
theorem dX6_used_27 : decode cX6_used 27 = .ok (.aload_n 0, 1) := by decide +kernel
theorem dX6_used_28 : decode cX6_used 28 = .ok (.getfield 22, 3) := by decide +kernel
theorem dX6_used_31 : decode cX6_used 31 = .ok (.invokevirtual 153, 3) := by decide +kernel
theorem dX6_used_34 : decode cX6_used 34 = .ok (.goto 10, 3) := by decide +kernel
theorem dX6_used_37 : decode cX6_used 37 = .ok (.aload_n 0, 1) := by decide +kernel
theorem dX6_used_38 : decode cX6_used 38 = .ok (.getfield 22, 3) := by decide +kernel
theorem dX6_used_41 : decode cX6_used 41 = .ok (.invokevirtual 173, 3) := by decide +kernel
theorem dX6_used_44 : decode cX6_used 44 = .ok (.ireturn, 1) := by decide +kernel
theorem dX6_meets_0 : decode cX6_meets 0 = .ok (.aload_n 0, 1) := by decide +kernel
theorem dX6_meets_1 : decode cX6_meets 1 = .ok (.getfield 22, 3) := by decide +kernel
theorem dX6_meets_4 : decode cX6_meets 4 = .ok (.invokevirtual 179, 3) := by decide +kernel
theorem dX6_meets_7 : decode cX6_meets 7 = .ok (.ifCond .eq 13, 3) := by decide +kernel
theorem dX6_meets_10 : decode cX6_meets 10 = .ok (.aload_n 0, 1) := by decide +kernel
theorem dX6_meets_11 : decode cX6_meets 11 = .ok (.getfield 22, 3) := by decide +kernel
theorem dX6_meets_14 : decode cX6_meets 14 = .ok (.invokevirtual 218, 3) := by decide +kernel
theorem dX6_meets_17 : decode cX6_meets 17 = .ok (.goto 5, 3) := by decide +kernel
theorem dX6_meets_20 : decode cX6_meets 20 = .ok (.ldc 143, 2) := by decide +kernel
theorem dX6_meets_22 : decode cX6_meets 22 = .ok (.ireturn, 1) := by decide +kernel
theorem dX6_nothing_0 : decode cX6_nothing 0 = .ok (.aload_n 0, 1) := by decide +kernel
theorem dX6_nothing_1 : decode cX6_nothing 1 = .ok (.getfield 22, 3) := by decide +kernel
theorem dX6_nothing_4 : decode cX6_nothing 4 = .ok (.invokevirtual 179, 3) := by decide +kernel
theorem dX6_nothing_7 : decode cX6_nothing 7 = .ok (.ifCond .eq 13, 3) := by decide +kernel
theorem dX6_nothing_10 : decode cX6_nothing 10 = .ok (.aload_n 0, 1) := by decide +kernel
theorem dX6_nothing_11 : decode cX6_nothing 11 = .ok (.getfield 22, 3) := by decide +kernel
theorem dX6_nothing_14 : decode cX6_nothing 14 = .ok (.invokevirtual 221, 3) := by decide +kernel
theorem dX6_nothing_17 : decode cX6_nothing 17 = .ok (.goto 5, 3) := by decide +kernel
theorem dX6_nothing_20 : decode cX6_nothing 20 = .ok (.ldc 143, 2) := by decide +kernel
theorem dX6_nothing_22 : decode cX6_nothing 22 = .ok (.ireturn, 1) := by decide +kernel
theorem dX6_ahead_0 : decode cX6_ahead 0 = .ok (.aload_n 0, 1) := by decide +kernel
theorem dX6_ahead_1 : decode cX6_ahead 1 = .ok (.getfield 22, 3) := by decide +kernel
theorem dX6_ahead_4 : decode cX6_ahead 4 = .ok (.iload_n 1, 1) := by decide +kernel
theorem dX6_ahead_5 : decode cX6_ahead 5 = .ok (.invokevirtual 200, 3) := by decide +kernel
theorem dX6_ahead_8 : decode cX6_ahead 8 = .ok (.ifCond .eq 20, 3) := by decide +kernel
theorem dX6_ahead_11 : decode cX6_ahead 11 = .ok (.iload_n 2, 1) := by decide +kernel
theorem dX6_ahead_12 : decode cX6_ahead 12 = .ok (.ifCond .lt 16, 3) := by decide +kernel
theorem dX6_ahead_15 : decode cX6_ahead 15 = .ok (.iload_n 2, 1) := by decide +kernel
theorem dX6_ahead_16 : decode cX6_ahead 16 = .ok (.bipush 60, 2) := by decide +kernel
theorem dX6_ahead_18 : decode cX6_ahead 18 = .ok (.if_icmp .gt 10, 3) := by decide +kernel
theorem dX6_ahead_21 : decode cX6_ahead 21 = .ok (.iload_n 3, 1) := by decide +kernel
theorem dX6_ahead_22 : decode cX6_ahead 22 = .ok (.invokestatic 164, 3) := by decide +kernel
theorem dX6_ahead_25 : decode cX6_ahead 25 = .ok (.ifCond .ne 6, 3) := by decide +kernel
theorem dX6_ahead_28 : decode cX6_ahead 28 = .ok (.ldc 69, 2) := by decide +kernel
theorem dX6_ahead_30 : decode cX6_ahead 30 = .ok (.ireturn, 1) := by decide +kernel
theorem dX6_ahead_31 : decode cX6_ahead 31 = .ok (.aload_n 0, 1) := by decide +kernel
theorem dX6_ahead_32 : decode cX6_ahead 32 = .ok (.getfield 22, 3) := by decide +kernel
theorem dX6_ahead_35 : decode cX6_ahead 35 = .ok (.iload_n 1, 1) := by decide +kernel
theorem dX6_ahead_36 : decode cX6_ahead 36 = .ok (.aload_n 0, 1) := by decide +kernel
theorem dX6_ahead_37 : decode cX6_ahead 37 = .ok (.getfield 22, 3) := by decide +kernel
theorem dX6_ahead_40 : decode cX6_ahead 40 = .ok (.getfield 224, 3) := by decide +kernel
theorem dX6_ahead_43 : decode cX6_ahead 43 = .ok (.iload_n 1, 1) := by decide +kernel
theorem dX6_ahead_44 : decode cX6_ahead 44 = .ok (.iaload, 1) := by decide +kernel
theorem dX6_ahead_45 : decode cX6_ahead 45 = .ok (.invokevirtual 227, 3) := by decide +kernel
theorem dX6_ahead_48 : decode cX6_ahead 48 = .ok (.istore 4, 2) := by decide +kernel
theorem dX6_ahead_50 : decode cX6_ahead 50 = .ok (.iload 4, 2) := by decide +kernel
theorem dX6_ahead_52 : decode cX6_ahead 52 = .ok (.ldc 231, 2) := by decide +kernel
theorem dX6_ahead_54 : decode cX6_ahead 54 = .ok (.if_icmp .ne 7, 3) := by decide +kernel
theorem dX6_ahead_57 : decode cX6_ahead 57 = .ok (.iload_n 2, 1) := by decide +kernel
theorem dX6_ahead_58 : decode cX6_ahead 58 = .ok (.goto 9, 3) := by decide +kernel
theorem dX6_ahead_61 : decode cX6_ahead 61 = .ok (.iload_n 2, 1) := by decide +kernel
theorem dX6_ahead_62 : decode cX6_ahead 62 = .ok (.iload 4, 2) := by decide +kernel
theorem dX6_ahead_64 : decode cX6_ahead 64 = .ok (.invokestatic 232, 3) := by decide +kernel
theorem dX6_ahead_67 : decode cX6_ahead 67 = .ok (.istore 5, 2) := by decide +kernel
theorem dX6_ahead_69 : decode cX6_ahead 69 = .ok (.iload_n 3, 1) := by decide +kernel
theorem dX6_ahead_70 : decode cX6_ahead 70 = .ok (.ifCond .ne 16, 3) := by decide +kernel
theorem dX6_ahead_73 : decode cX6_ahead 73 = .ok (.aload_n 0, 1) := by decide +kernel
theorem dX6_ahead_74 : decode cX6_ahead 74 = .ok (.getfield 22, 3) := by decide +kernel
theorem dX6_ahead_77 : decode cX6_ahead 77 = .ok (.iload_n 1, 1) := by decide +kernel
theorem dX6_ahead_78 : decode cX6_ahead 78 = .ok (.iload 5, 2) := by decide +kernel
theorem dX6_ahead_80 : decode cX6_ahead 80 = .ok (.invokevirtual 237, 3) := by decide +kernel
theorem dX6_ahead_83 : decode cX6_ahead 83 = .ok (.goto 17, 3) := by decide +kernel
theorem dX6_ahead_86 : decode cX6_ahead 86 = .ok (.aload_n 0, 1) := by decide +kernel
theorem dX6_ahead_87 : decode cX6_ahead 87 = .ok (.getfield 22, 3) := by decide +kernel
theorem dX6_ahead_90 : decode cX6_ahead 90 = .ok (.getfield 215, 3) := by decide +kernel
theorem dX6_ahead_93 : decode cX6_ahead 93 = .ok (.iload_n 1, 1) := by decide +kernel
theorem dX6_ahead_94 : decode cX6_ahead 94 = .ok (.iaload, 1) := by decide +kernel
theorem dX6_ahead_95 : decode cX6_ahead 95 = .ok (.iload_n 2, 1) := by decide +kernel
theorem dX6_ahead_96 : decode cX6_ahead 96 = .ok (.iadd, 1) := by decide +kernel
theorem dX6_ahead_97 : decode cX6_ahead 97 = .ok (.iload 5, 2) := by decide +kernel
theorem dX6_ahead_99 : decode cX6_ahead 99 = .ok (.isub, 1) := by decide +kernel
theorem dX6_ahead_100 : decode cX6_ahead 100 = .ok (.ireturn, 1) := by decide +kernel
theorem dX6_soon_0 : decode cX6_soon 0 = .ok (.aload_n 0, 1) := by decide +kernel
theorem dX6_soon_1 : decode cX6_soon 1 = .ok (.getfield 22, 3) := by decide +kernel
theorem dX6_soon_4 : decode cX6_soon 4 = .ok (.iload_n 1, 1) := by decide +kernel
theorem dX6_soon_5 : decode cX6_soon 5 = .ok (.invokevirtual 200, 3) := by decide +kernel
theorem dX6_soon_8 : decode cX6_soon 8 = .ok (.ifCond .eq 23, 3) := by decide +kernel
theorem dX6_soon_11 : decode cX6_soon 11 = .ok (.aload_n 0, 1) := by decide +kernel
theorem dX6_soon_12 : decode cX6_soon 12 = .ok (.getfield 22, 3) := by decide +kernel
theorem dX6_soon_15 : decode cX6_soon 15 = .ok (.iload_n 1, 1) := by decide +kernel
theorem dX6_soon_16 : decode cX6_soon 16 = .ok (.aload_n 0, 1) := by decide +kernel
theorem dX6_soon_17 : decode cX6_soon 17 = .ok (.getfield 22, 3) := by decide +kernel
theorem dX6_soon_20 : decode cX6_soon 20 = .ok (.getfield 224, 3) := by decide +kernel
theorem dX6_soon_23 : decode cX6_soon 23 = .ok (.iload_n 1, 1) := by decide +kernel
theorem dX6_soon_24 : decode cX6_soon 24 = .ok (.iaload, 1) := by decide +kernel
theorem dX6_soon_25 : decode cX6_soon 25 = .ok (.invokevirtual 227, 3) := by decide +kernel
theorem dX6_soon_28 : decode cX6_soon 28 = .ok (.goto 5, 3) := by decide +kernel
theorem dX6_soon_31 : decode cX6_soon 31 = .ok (.ldc 69, 2) := by decide +kernel
theorem dX6_soon_33 : decode cX6_soon 33 = .ok (.ireturn, 1) := by decide +kernel
theorem dX6_least_0 : decode cX6_least 0 = .ok (.aload_n 0, 1) := by decide +kernel
theorem dX6_least_1 : decode cX6_least 1 = .ok (.getfield 22, 3) := by decide +kernel
theorem dX6_least_4 : decode cX6_least 4 = .ok (.invokevirtual 179, 3) := by decide +kernel
theorem dX6_least_7 : decode cX6_least 7 = .ok (.ifCond .ne 6, 3) := by decide +kernel
theorem dX6_least_10 : decode cX6_least 10 = .ok (.ldc 143, 2) := by decide +kernel
theorem dX6_least_12 : decode cX6_least 12 = .ok (.ireturn, 1) := by decide +kernel
theorem dX6_least_13 : decode cX6_least 13 = .ok (.aload_n 0, 1) := by decide +kernel
theorem dX6_least_14 : decode cX6_least 14 = .ok (.iload_n 1, 1) := by decide +kernel
theorem dX6_least_15 : decode cX6_least 15 = .ok (.iload_n 2, 1) := by decide +kernel
theorem dX6_least_16 : decode cX6_least 16 = .ok (.invokevirtual 240, 3) := by decide +kernel
theorem dX6_least_19 : decode cX6_least 19 = .ok (.ifCond .eq 19, 3) := by decide +kernel
theorem dX6_least_22 : decode cX6_least 22 = .ok (.iload_n 3, 1) := by decide +kernel
theorem dX6_least_23 : decode cX6_least 23 = .ok (.iconst (-1), 1) := by decide +kernel
theorem dX6_least_24 : decode cX6_least 24 = .ok (.if_icmp .eq 17, 3) := by decide +kernel
theorem dX6_least_27 : decode cX6_least 27 = .ok (.aload_n 0, 1) := by decide +kernel
theorem dX6_least_28 : decode cX6_least 28 = .ok (.getfield 22, 3) := by decide +kernel
theorem dX6_least_31 : decode cX6_least 31 = .ok (.iload_n 3, 1) := by decide +kernel
theorem dX6_least_32 : decode cX6_least 32 = .ok (.invokevirtual 147, 3) := by decide +kernel
theorem dX6_least_35 : decode cX6_least 35 = .ok (.ifCond .ne 6, 3) := by decide +kernel
theorem dX6_least_38 : decode cX6_least 38 = .ok (.ldc 69, 2) := by decide +kernel
theorem dX6_least_40 : decode cX6_least 40 = .ok (.ireturn, 1) := by decide +kernel
theorem dX6_least_41 : decode cX6_least 41 = .ok (.aload_n 0, 1) := by decide +kernel
theorem dX6_least_42 : decode cX6_least 42 = .ok (.getfield 46, 3) := by decide +kernel
theorem dX6_least_45 : decode cX6_least 45 = .ok (.aload_n 0, 1) := by decide +kernel
theorem dX6_least_46 : decode cX6_least 46 = .ok (.getfield 22, 3) := by decide +kernel
theorem dX6_least_49 : decode cX6_least 49 = .ok (.iload_n 1, 1) := by decide +kernel
theorem dX6_least_50 : decode cX6_least 50 = .ok (.iload_n 2, 1) := by decide +kernel
theorem dX6_least_51 : decode cX6_least 51 = .ok (.invokevirtual 243, 3) := by decide +kernel
theorem dX6_least_54 : decode cX6_least 54 = .ok (.aload_n 0, 1) := by decide +kernel
theorem dX6_least_55 : decode cX6_least 55 = .ok (.getfield 46, 3) := by decide +kernel
theorem dX6_least_58 : decode cX6_least 58 = .ok (.invokevirtual 247, 3) := by decide +kernel
theorem dX6_least_61 : decode cX6_least 61 = .ok (.ifCond .ne 6, 3) := by decide +kernel
theorem dX6_least_64 : decode cX6_least 64 = .ok (.ldc 231, 2) := by decide +kernel
theorem dX6_least_66 : decode cX6_least 66 = .ok (.ireturn, 1) := by decide +kernel
theorem dX6_least_67 : decode cX6_least 67 = .ok (.iload_n 3, 1) := by decide +kernel
theorem dX6_least_68 : decode cX6_least 68 = .ok (.iconst (-1), 1) := by decide +kernel
theorem dX6_least_69 : decode cX6_least 69 = .ok (.if_icmp .ne 13, 3) := by decide +kernel
theorem dX6_least_72 : decode cX6_least 72 = .ok (.aload_n 0, 1) := by decide +kernel
theorem dX6_least_73 : decode cX6_least 73 = .ok (.getfield 46, 3) := by decide +kernel
theorem dX6_least_76 : decode cX6_least 76 = .ok (.getfield 250, 3) := by decide +kernel
theorem dX6_least_79 : decode cX6_least 79 = .ok (.goto 18, 3) := by decide +kernel
theorem dX6_least_82 : decode cX6_least 82 = .ok (.aload_n 0, 1) := by decide +kernel
theorem dX6_least_83 : decode cX6_least 83 = .ok (.getfield 46, 3) := by decide +kernel
theorem dX6_least_86 : decode cX6_least 86 = .ok (.iload_n 3, 1) := by decide +kernel
theorem dX6_least_87 : decode cX6_least 87 = .ok (.aload_n 0, 1) := by decide +kernel
theorem dX6_least_88 : decode cX6_least 88 = .ok (.getfield 46, 3) := by decide +kernel
theorem dX6_least_91 : decode cX6_least 91 = .ok (.getfield 253, 3) := by decide +kernel
theorem dX6_least_94 : decode cX6_least 94 = .ok (.invokevirtual 256, 3) := by decide +kernel
theorem dX6_least_97 : decode cX6_least 97 = .ok (.ireturn, 1) := by decide +kernel
theorem dX6_whichDoor_0 : decode cX6_whichDoor 0 = .ok (.aload_n 0, 1) := by decide +kernel
theorem dX6_whichDoor_1 : decode cX6_whichDoor 1 = .ok (.getfield 22, 3) := by decide +kernel
theorem dX6_whichDoor_4 : decode cX6_whichDoor 4 = .ok (.invokevirtual 179, 3) := by decide +kernel
theorem dX6_whichDoor_7 : decode cX6_whichDoor 7 = .ok (.ifCond .ne 6, 3) := by decide +kernel
theorem dX6_whichDoor_10 : decode cX6_whichDoor 10 = .ok (.ldc 143, 2) := by decide +kernel
theorem dX6_whichDoor_12 : decode cX6_whichDoor 12 = .ok (.ireturn, 1) := by decide +kernel
theorem dX6_whichDoor_13 : decode cX6_whichDoor 13 = .ok (.aload_n 0, 1) := by decide +kernel
theorem dX6_whichDoor_14 : decode cX6_whichDoor 14 = .ok (.iload_n 1, 1) := by decide +kernel
theorem dX6_whichDoor_15 : decode cX6_whichDoor 15 = .ok (.iload_n 2, 1) := by decide +kernel
theorem dX6_whichDoor_16 : decode cX6_whichDoor 16 = .ok (.invokevirtual 240, 3) := by decide +kernel
theorem dX6_whichDoor_19 : decode cX6_whichDoor 19 = .ok (.ifCond .ne 6, 3) := by decide +kernel
theorem dX6_whichDoor_22 : decode cX6_whichDoor 22 = .ok (.ldc 69, 2) := by decide +kernel
theorem dX6_whichDoor_24 : decode cX6_whichDoor 24 = .ok (.ireturn, 1) := by decide +kernel
theorem dX6_whichDoor_25 : decode cX6_whichDoor 25 = .ok (.aload_n 0, 1) := by decide +kernel
theorem dX6_whichDoor_26 : decode cX6_whichDoor 26 = .ok (.getfield 46, 3) := by decide +kernel
theorem dX6_whichDoor_29 : decode cX6_whichDoor 29 = .ok (.aload_n 0, 1) := by decide +kernel
theorem dX6_whichDoor_30 : decode cX6_whichDoor 30 = .ok (.getfield 22, 3) := by decide +kernel
theorem dX6_whichDoor_33 : decode cX6_whichDoor 33 = .ok (.iload_n 1, 1) := by decide +kernel
theorem dX6_whichDoor_34 : decode cX6_whichDoor 34 = .ok (.iload_n 2, 1) := by decide +kernel
theorem dX6_whichDoor_35 : decode cX6_whichDoor 35 = .ok (.invokevirtual 243, 3) := by decide +kernel
theorem dX6_whichDoor_38 : decode cX6_whichDoor 38 = .ok (.aload_n 0, 1) := by decide +kernel
theorem dX6_whichDoor_39 : decode cX6_whichDoor 39 = .ok (.getfield 46, 3) := by decide +kernel
theorem dX6_whichDoor_42 : decode cX6_whichDoor 42 = .ok (.invokevirtual 259, 3) := by decide +kernel
theorem dX6_whichDoor_45 : decode cX6_whichDoor 45 = .ok (.ireturn, 1) := by decide +kernel
theorem dX6_who_0 : decode cX6_who 0 = .ok (.aload_n 0, 1) := by decide +kernel
theorem dX6_who_1 : decode cX6_who 1 = .ok (.getfield 22, 3) := by decide +kernel
theorem dX6_who_4 : decode cX6_who 4 = .ok (.iload_n 1, 1) := by decide +kernel
theorem dX6_who_5 : decode cX6_who 5 = .ok (.invokevirtual 200, 3) := by decide +kernel
theorem dX6_who_8 : decode cX6_who 8 = .ok (.ifCond .eq 23, 3) := by decide +kernel
theorem dX6_who_11 : decode cX6_who 11 = .ok (.iload_n 2, 1) := by decide +kernel
theorem dX6_who_12 : decode cX6_who 12 = .ok (.invokestatic 65, 3) := by decide +kernel
theorem dX6_who_15 : decode cX6_who 15 = .ok (.ifCond .eq 16, 3) := by decide +kernel
theorem dX6_who_18 : decode cX6_who 18 = .ok (.iload 4, 2) := by decide +kernel
theorem dX6_who_20 : decode cX6_who 20 = .ok (.iconst 1, 1) := by decide +kernel
theorem dX6_who_21 : decode cX6_who 21 = .ok (.if_icmp .lt 10, 3) := by decide +kernel
theorem dX6_who_24 : decode cX6_who 24 = .ok (.iload 4, 2) := by decide +kernel
theorem dX6_who_26 : decode cX6_who 26 = .ok (.bipush 12, 2) := by decide +kernel
theorem dX6_who_28 : decode cX6_who 28 = .ok (.if_icmp .le 6, 3) := by decide +kernel
theorem dX6_who_31 : decode cX6_who 31 = .ok (.ldc 69, 2) := by decide +kernel
theorem dX6_who_33 : decode cX6_who 33 = .ok (.ireturn, 1) := by decide +kernel
theorem dX6_who_34 : decode cX6_who 34 = .ok (.aload_n 0, 1) := by decide +kernel
theorem dX6_who_35 : decode cX6_who 35 = .ok (.getfield 11, 3) := by decide +kernel
theorem dX6_who_38 : decode cX6_who 38 = .ok (.iload_n 2, 1) := by decide +kernel
theorem dX6_who_39 : decode cX6_who 39 = .ok (.aaload, 1) := by decide +kernel
theorem dX6_who_40 : decode cX6_who 40 = .ok (.astore 5, 2) := by decide +kernel
theorem dX6_who_42 : decode cX6_who 42 = .ok (.aload 5, 2) := by decide +kernel
theorem dX6_who_44 : decode cX6_who 44 = .ok (.iload_n 3, 1) := by decide +kernel
theorem dX6_who_45 : decode cX6_who 45 = .ok (.iload 4, 2) := by decide +kernel
theorem dX6_who_47 : decode cX6_who 47 = .ok (.invokestatic 81, 3) := by decide +kernel
theorem dX6_who_50 : decode cX6_who 50 = .ok (.istore 6, 2) := by decide +kernel
theorem dX6_who_52 : decode cX6_who 52 = .ok (.iload 6, 2) := by decide +kernel
theorem dX6_who_54 : decode cX6_who 54 = .ok (.ifCond .eq 10, 3) := by decide +kernel
theorem dX6_who_57 : decode cX6_who 57 = .ok (.aload_n 0, 1) := by decide +kernel
theorem dX6_who_58 : decode cX6_who 58 = .ok (.iload 6, 2) := by decide +kernel
theorem dX6_who_60 : decode cX6_who 60 = .ok (.invokevirtual 70, 3) := by decide +kernel
theorem dX6_who_63 : decode cX6_who 63 = .ok (.ireturn, 1) := by decide +kernel
theorem dX6_who_64 : decode cX6_who 64 = .ok (.iconst 0, 1) := by decide +kernel
theorem dX6_who_65 : decode cX6_who 65 = .ok (.istore 7, 2) := by decide +kernel
theorem dX6_who_67 : decode cX6_who 67 = .ok (.iconst 1, 1) := by decide +kernel
theorem dX6_who_68 : decode cX6_who 68 = .ok (.istore 8, 2) := by decide +kernel
theorem dX6_who_70 : decode cX6_who 70 = .ok (.iload 8, 2) := by decide +kernel
theorem dX6_who_72 : decode cX6_who 72 = .ok (.iconst 5, 1) := by decide +kernel
theorem dX6_who_73 : decode cX6_who 73 = .ok (.if_icmp .gt 39, 3) := by decide +kernel
theorem dX6_who_76 : decode cX6_who 76 = .ok (.aload 5, 2) := by decide +kernel
theorem dX6_who_78 : decode cX6_who 78 = .ok (.aload_n 0, 1) := by decide +kernel
theorem dX6_who_79 : decode cX6_who 79 = .ok (.getfield 22, 3) := by decide +kernel
theorem dX6_who_82 : decode cX6_who 82 = .ok (.iload_n 1, 1) := by decide +kernel
theorem dX6_who_83 : decode cX6_who 83 = .ok (.iload 8, 2) := by decide +kernel
theorem dX6_who_85 : decode cX6_who 85 = .ok (.invokevirtual 227, 3) := by decide +kernel
theorem dX6_who_88 : decode cX6_who 88 = .ok (.iload_n 3, 1) := by decide +kernel
theorem dX6_who_89 : decode cX6_who 89 = .ok (.iload 4, 2) := by decide +kernel
theorem dX6_who_91 : decode cX6_who 91 = .ok (.invokevirtual 262, 3) := by decide +kernel
theorem dX6_who_94 : decode cX6_who 94 = .ok (.ifCond .eq 12, 3) := by decide +kernel
theorem dX6_who_97 : decode cX6_who 97 = .ok (.iload 7, 2) := by decide +kernel
theorem dX6_who_99 : decode cX6_who 99 = .ok (.iconst 1, 1) := by decide +kernel
theorem dX6_who_100 : decode cX6_who 100 = .ok (.iload 8, 2) := by decide +kernel
theorem dX6_who_102 : decode cX6_who 102 = .ok (.ishl, 1) := by decide +kernel
theorem dX6_who_103 : decode cX6_who 103 = .ok (.ior, 1) := by decide +kernel
theorem dX6_who_104 : decode cX6_who 104 = .ok (.istore 7, 2) := by decide +kernel
theorem dX6_who_106 : decode cX6_who 106 = .ok (.iinc 8 1, 3) := by decide +kernel
theorem dX6_who_109 : decode cX6_who 109 = .ok (.goto (-39), 3) := by decide +kernel
theorem dX6_who_112 : decode cX6_who 112 = .ok (.aload_n 0, 1) := by decide +kernel
theorem dX6_who_113 : decode cX6_who 113 = .ok (.iload 7, 2) := by decide +kernel
theorem dX6_who_115 : decode cX6_who 115 = .ok (.invokevirtual 78, 3) := by decide +kernel
theorem dX6_who_118 : decode cX6_who 118 = .ok (.ireturn, 1) := by decide +kernel
theorem dX6_sleeps_0 : decode cX6_sleeps 0 = .ok (.aload_n 0, 1) := by decide +kernel
theorem dX6_sleeps_1 : decode cX6_sleeps 1 = .ok (.getfield 22, 3) := by decide +kernel
theorem dX6_sleeps_4 : decode cX6_sleeps 4 = .ok (.iload_n 1, 1) := by decide +kernel
theorem dX6_sleeps_5 : decode cX6_sleeps 5 = .ok (.invokevirtual 200, 3) := by decide +kernel
theorem dX6_sleeps_8 : decode cX6_sleeps 8 = .ok (.ifCond .eq 20, 3) := by decide +kernel
theorem dX6_sleeps_11 : decode cX6_sleeps 11 = .ok (.iload_n 2, 1) := by decide +kernel
end
section
theorem dX6_sleeps_12 : decode cX6_sleeps 12 = .ok (.ifCond .lt 16, 3) := by decide +kernel
theorem dX6_sleeps_15 : decode cX6_sleeps 15 = .ok (.iload_n 2, 1) := by decide +kernel
theorem dX6_sleeps_16 : decode cX6_sleeps 16 = .ok (.bipush 10, 2) := by decide +kernel
theorem dX6_sleeps_18 : decode cX6_sleeps 18 = .ok (.if_icmp .gt 10, 3) := by decide +kernel
theorem dX6_sleeps_21 : decode cX6_sleeps 21 = .ok (.iload_n 3, 1) := by decide +kernel
theorem dX6_sleeps_22 : decode cX6_sleeps 22 = .ok (.invokestatic 164, 3) := by decide +kernel
theorem dX6_sleeps_25 : decode cX6_sleeps 25 = .ok (.ifCond .ne 7, 3) := by decide +kernel
theorem dX6_sleeps_28 : decode cX6_sleeps 28 = .ok (.ldc2_w 266, 3) := by decide +kernel
theorem dX6_sleeps_31 : decode cX6_sleeps 31 = .ok (.lreturn, 1) := by decide +kernel
theorem dX6_sleeps_32 : decode cX6_sleeps 32 = .ok (.aload_n 0, 1) := by decide +kernel
theorem dX6_sleeps_33 : decode cX6_sleeps 33 = .ok (.iload_n 1, 1) := by decide +kernel
theorem dX6_sleeps_34 : decode cX6_sleeps 34 = .ok (.iload_n 2, 1) := by decide +kernel
theorem dX6_sleeps_35 : decode cX6_sleeps 35 = .ok (.invokevirtual 268, 3) := by decide +kernel
theorem dX6_sleeps_38 : decode cX6_sleeps 38 = .ok (.istore 4, 2) := by decide +kernel
theorem dX6_sleeps_40 : decode cX6_sleeps 40 = .ok (.iconst 1, 1) := by decide +kernel
theorem dX6_sleeps_41 : decode cX6_sleeps 41 = .ok (.sipush 1000, 3) := by decide +kernel
theorem dX6_sleeps_44 : decode cX6_sleeps 44 = .ok (.iload 4, 2) := by decide +kernel
theorem dX6_sleeps_46 : decode cX6_sleeps 46 = .ok (.invokestatic 271, 3) := by decide +kernel
theorem dX6_sleeps_49 : decode cX6_sleeps 49 = .ok (.invokestatic 274, 3) := by decide +kernel
theorem dX6_sleeps_52 : decode cX6_sleeps 52 = .ok (.istore 5, 2) := by decide +kernel
theorem dX6_sleeps_54 : decode cX6_sleeps 54 = .ok (.iload_n 3, 1) := by decide +kernel
theorem dX6_sleeps_55 : decode cX6_sleeps 55 = .ok (.ifCond .ne 8, 3) := by decide +kernel
theorem dX6_sleeps_58 : decode cX6_sleeps 58 = .ok (.iload 4, 2) := by decide +kernel
theorem dX6_sleeps_60 : decode cX6_sleeps 60 = .ok (.goto 6, 3) := by decide +kernel
theorem dX6_sleeps_63 : decode cX6_sleeps 63 = .ok (.sipush 1000, 3) := by decide +kernel
theorem dX6_sleeps_66 : decode cX6_sleeps 66 = .ok (.iload 5, 2) := by decide +kernel
theorem dX6_sleeps_68 : decode cX6_sleeps 68 = .ok (.idiv, 1) := by decide +kernel
theorem dX6_sleeps_69 : decode cX6_sleeps 69 = .ok (.i2l, 1) := by decide +kernel
theorem dX6_sleeps_70 : decode cX6_sleeps 70 = .ok (.lreturn, 1) := by decide +kernel
theorem dX6_reaches_0 : decode cX6_reaches 0 = .ok (.aload_n 0, 1) := by decide +kernel
theorem dX6_reaches_1 : decode cX6_reaches 1 = .ok (.getfield 22, 3) := by decide +kernel
theorem dX6_reaches_4 : decode cX6_reaches 4 = .ok (.iload_n 1, 1) := by decide +kernel
theorem dX6_reaches_5 : decode cX6_reaches 5 = .ok (.invokevirtual 147, 3) := by decide +kernel
theorem dX6_reaches_8 : decode cX6_reaches 8 = .ok (.ifCond .eq 10, 3) := by decide +kernel
theorem dX6_reaches_11 : decode cX6_reaches 11 = .ok (.iload_n 2, 1) := by decide +kernel
theorem dX6_reaches_12 : decode cX6_reaches 12 = .ok (.invokestatic 164, 3) := by decide +kernel
theorem dX6_reaches_15 : decode cX6_reaches 15 = .ok (.ifCond .ne 6, 3) := by decide +kernel
theorem dX6_reaches_18 : decode cX6_reaches 18 = .ok (.ldc 69, 2) := by decide +kernel
theorem dX6_reaches_20 : decode cX6_reaches 20 = .ok (.ireturn, 1) := by decide +kernel
theorem dX6_reaches_21 : decode cX6_reaches 21 = .ok (.iload_n 2, 1) := by decide +kernel
theorem dX6_reaches_22 : decode cX6_reaches 22 = .ok (.ifCond .ne 20, 3) := by decide +kernel
theorem dX6_reaches_25 : decode cX6_reaches 25 = .ok (.bipush 7, 2) := by decide +kernel
theorem dX6_reaches_27 : decode cX6_reaches 27 = .ok (.iload_n 1, 1) := by decide +kernel
theorem dX6_reaches_28 : decode cX6_reaches 28 = .ok (.ishl, 1) := by decide +kernel
theorem dX6_reaches_29 : decode cX6_reaches 29 = .ok (.iconst 1, 1) := by decide +kernel
theorem dX6_reaches_30 : decode cX6_reaches 30 = .ok (.ishr, 1) := by decide +kernel
theorem dX6_reaches_31 : decode cX6_reaches 31 = .ok (.istore_n 3, 1) := by decide +kernel
theorem dX6_reaches_32 : decode cX6_reaches 32 = .ok (.iload_n 3, 1) := by decide +kernel
theorem dX6_reaches_33 : decode cX6_reaches 33 = .ok (.aload_n 0, 1) := by decide +kernel
theorem dX6_reaches_34 : decode cX6_reaches 34 = .ok (.getfield 22, 3) := by decide +kernel
theorem dX6_reaches_37 : decode cX6_reaches 37 = .ok (.invokevirtual 277, 3) := by decide +kernel
theorem dX6_reaches_40 : decode cX6_reaches 40 = .ok (.iand, 1) := by decide +kernel
theorem dX6_reaches_41 : decode cX6_reaches 41 = .ok (.ireturn, 1) := by decide +kernel
theorem dX6_reaches_42 : decode cX6_reaches 42 = .ok (.aload_n 0, 1) := by decide +kernel
theorem dX6_reaches_43 : decode cX6_reaches 43 = .ok (.getfield 26, 3) := by decide +kernel
theorem dX6_reaches_46 : decode cX6_reaches 46 = .ok (.aload_n 0, 1) := by decide +kernel
theorem dX6_reaches_47 : decode cX6_reaches 47 = .ok (.getfield 22, 3) := by decide +kernel
theorem dX6_reaches_50 : decode cX6_reaches 50 = .ok (.invokevirtual 130, 3) := by decide +kernel
theorem dX6_reaches_53 : decode cX6_reaches 53 = .ok (.aload_n 0, 1) := by decide +kernel
theorem dX6_reaches_54 : decode cX6_reaches 54 = .ok (.getfield 26, 3) := by decide +kernel
theorem dX6_reaches_57 : decode cX6_reaches 57 = .ok (.getfield 167, 3) := by decide +kernel
theorem dX6_reaches_60 : decode cX6_reaches 60 = .ok (.iload_n 1, 1) := by decide +kernel
theorem dX6_reaches_61 : decode cX6_reaches 61 = .ok (.iconst 0, 1) := by decide +kernel
theorem dX6_reaches_62 : decode cX6_reaches 62 = .ok (.iastore, 1) := by decide +kernel
theorem dX6_reaches_63 : decode cX6_reaches 63 = .ok (.aload_n 0, 1) := by decide +kernel
theorem dX6_reaches_64 : decode cX6_reaches 64 = .ok (.getfield 26, 3) := by decide +kernel
theorem dX6_reaches_67 : decode cX6_reaches 67 = .ok (.getfield 170, 3) := by decide +kernel
theorem dX6_reaches_70 : decode cX6_reaches 70 = .ok (.iload_n 1, 1) := by decide +kernel
theorem dX6_reaches_71 : decode cX6_reaches 71 = .ok (.iconst 0, 1) := by decide +kernel
theorem dX6_reaches_72 : decode cX6_reaches 72 = .ok (.iastore, 1) := by decide +kernel
theorem dX6_reaches_73 : decode cX6_reaches 73 = .ok (.aload_n 0, 1) := by decide +kernel
theorem dX6_reaches_74 : decode cX6_reaches 74 = .ok (.getfield 22, 3) := by decide +kernel
theorem dX6_reaches_77 : decode cX6_reaches 77 = .ok (.invokevirtual 218, 3) := by decide +kernel
theorem dX6_reaches_80 : decode cX6_reaches 80 = .ok (.aload_n 0, 1) := by decide +kernel
theorem dX6_reaches_81 : decode cX6_reaches 81 = .ok (.getfield 26, 3) := by decide +kernel
theorem dX6_reaches_84 : decode cX6_reaches 84 = .ok (.invokevirtual 218, 3) := by decide +kernel
theorem dX6_reaches_87 : decode cX6_reaches 87 = .ok (.ixor, 1) := by decide +kernel
theorem dX6_reaches_88 : decode cX6_reaches 88 = .ok (.ireturn, 1) := by decide +kernel
theorem dX6_rather_0 : decode cX6_rather 0 = .ok (.iload_n 1, 1) := by decide +kernel
theorem dX6_rather_1 : decode cX6_rather 1 = .ok (.invokestatic 65, 3) := by decide +kernel
theorem dX6_rather_4 : decode cX6_rather 4 = .ok (.ifCond .eq 10, 3) := by decide +kernel
theorem dX6_rather_7 : decode cX6_rather 7 = .ok (.iload_n 3, 1) := by decide +kernel
theorem dX6_rather_8 : decode cX6_rather 8 = .ok (.invokestatic 164, 3) := by decide +kernel
theorem dX6_rather_11 : decode cX6_rather 11 = .ok (.ifCond .ne 6, 3) := by decide +kernel
theorem dX6_rather_14 : decode cX6_rather 14 = .ok (.ldc 69, 2) := by decide +kernel
theorem dX6_rather_16 : decode cX6_rather 16 = .ok (.ireturn, 1) := by decide +kernel
theorem dX6_rather_17 : decode cX6_rather 17 = .ok (.aload_n 0, 1) := by decide +kernel
theorem dX6_rather_18 : decode cX6_rather 18 = .ok (.getfield 11, 3) := by decide +kernel
theorem dX6_rather_21 : decode cX6_rather 21 = .ok (.iload_n 1, 1) := by decide +kernel
theorem dX6_rather_22 : decode cX6_rather 22 = .ok (.aaload, 1) := by decide +kernel
theorem dX6_rather_23 : decode cX6_rather 23 = .ok (.astore 4, 2) := by decide +kernel
theorem dX6_rather_25 : decode cX6_rather 25 = .ok (.aload 4, 2) := by decide +kernel
theorem dX6_rather_27 : decode cX6_rather 27 = .ok (.iload_n 2, 1) := by decide +kernel
theorem dX6_rather_28 : decode cX6_rather 28 = .ok (.bipush 8, 2) := by decide +kernel
theorem dX6_rather_30 : decode cX6_rather 30 = .ok (.invokestatic 81, 3) := by decide +kernel
theorem dX6_rather_33 : decode cX6_rather 33 = .ok (.istore 5, 2) := by decide +kernel
theorem dX6_rather_35 : decode cX6_rather 35 = .ok (.iload 5, 2) := by decide +kernel
theorem dX6_rather_37 : decode cX6_rather 37 = .ok (.ifCond .eq 10, 3) := by decide +kernel
theorem dX6_rather_40 : decode cX6_rather 40 = .ok (.aload_n 0, 1) := by decide +kernel
theorem dX6_rather_41 : decode cX6_rather 41 = .ok (.iload 5, 2) := by decide +kernel
theorem dX6_rather_43 : decode cX6_rather 43 = .ok (.invokevirtual 70, 3) := by decide +kernel
theorem dX6_rather_46 : decode cX6_rather 46 = .ok (.ireturn, 1) := by decide +kernel
theorem dX6_rather_47 : decode cX6_rather 47 = .ok (.iload_n 2, 1) := by decide +kernel
theorem dX6_rather_48 : decode cX6_rather 48 = .ok (.istore 6, 2) := by decide +kernel
theorem dX6_rather_50 : decode cX6_rather 50 = .ok (.iload 6, 2) := by decide +kernel
theorem dX6_rather_52 : decode cX6_rather 52 = .ok (.iload_n 2, 1) := by decide +kernel
theorem dX6_rather_53 : decode cX6_rather 53 = .ok (.bipush 8, 2) := by decide +kernel
theorem dX6_rather_55 : decode cX6_rather 55 = .ok (.iadd, 1) := by decide +kernel
theorem dX6_rather_56 : decode cX6_rather 56 = .ok (.if_icmp .ge 38, 3) := by decide +kernel
theorem dX6_rather_59 : decode cX6_rather 59 = .ok (.aload 4, 2) := by decide +kernel
theorem dX6_rather_61 : decode cX6_rather 61 = .ok (.getfield 85, 3) := by decide +kernel
theorem dX6_rather_64 : decode cX6_rather 64 = .ok (.iload 6, 2) := by decide +kernel
theorem dX6_rather_66 : decode cX6_rather 66 = .ok (.iaload, 1) := by decide +kernel
theorem dX6_rather_67 : decode cX6_rather 67 = .ok (.bipush (-20), 2) := by decide +kernel
theorem dX6_rather_69 : decode cX6_rather 69 = .ok (.if_icmp .lt 16, 3) := by decide +kernel
theorem dX6_rather_72 : decode cX6_rather 72 = .ok (.aload 4, 2) := by decide +kernel
theorem dX6_rather_74 : decode cX6_rather 74 = .ok (.getfield 85, 3) := by decide +kernel
theorem dX6_rather_77 : decode cX6_rather 77 = .ok (.iload 6, 2) := by decide +kernel
theorem dX6_rather_79 : decode cX6_rather 79 = .ok (.iaload, 1) := by decide +kernel
theorem dX6_rather_80 : decode cX6_rather 80 = .ok (.bipush 20, 2) := by decide +kernel
theorem dX6_rather_82 : decode cX6_rather 82 = .ok (.if_icmp .le 6, 3) := by decide +kernel
theorem dX6_rather_85 : decode cX6_rather 85 = .ok (.ldc 69, 2) := by decide +kernel
theorem dX6_rather_87 : decode cX6_rather 87 = .ok (.ireturn, 1) := by decide +kernel
theorem dX6_rather_88 : decode cX6_rather 88 = .ok (.iinc 6 1, 3) := by decide +kernel
theorem dX6_rather_91 : decode cX6_rather 91 = .ok (.goto (-41), 3) := by decide +kernel
theorem dX6_rather_94 : decode cX6_rather 94 = .ok (.aload 4, 2) := by decide +kernel
theorem dX6_rather_96 : decode cX6_rather 96 = .ok (.getfield 85, 3) := by decide +kernel
theorem dX6_rather_99 : decode cX6_rather 99 = .ok (.iload_n 2, 1) := by decide +kernel
theorem dX6_rather_100 : decode cX6_rather 100 = .ok (.invokestatic 280, 3) := by decide +kernel
theorem dX6_rather_103 : decode cX6_rather 103 = .ok (.istore 6, 2) := by decide +kernel
theorem dX6_rather_105 : decode cX6_rather 105 = .ok (.aload_n 0, 1) := by decide +kernel
theorem dX6_rather_106 : decode cX6_rather 106 = .ok (.iload_n 3, 1) := by decide +kernel
theorem dX6_rather_107 : decode cX6_rather 107 = .ok (.ifCond .ne 11, 3) := by decide +kernel
theorem dX6_rather_110 : decode cX6_rather 110 = .ok (.iload 6, 2) := by decide +kernel
theorem dX6_rather_112 : decode cX6_rather 112 = .ok (.invokestatic 284, 3) := by decide +kernel
theorem dX6_rather_115 : decode cX6_rather 115 = .ok (.goto 5, 3) := by decide +kernel
theorem dX6_rather_118 : decode cX6_rather 118 = .ok (.iload 6, 2) := by decide +kernel
theorem dX6_rather_120 : decode cX6_rather 120 = .ok (.invokevirtual 78, 3) := by decide +kernel
theorem dX6_rather_123 : decode cX6_rather 123 = .ok (.ireturn, 1) := by decide +kernel
theorem dX6_drawn_0 : decode cX6_drawn 0 = .ok (.aload_n 0, 1) := by decide +kernel
theorem dX6_drawn_1 : decode cX6_drawn 1 = .ok (.getfield 22, 3) := by decide +kernel
theorem dX6_drawn_4 : decode cX6_drawn 4 = .ok (.invokevirtual 179, 3) := by decide +kernel
theorem dX6_drawn_7 : decode cX6_drawn 7 = .ok (.ifCond .ne 6, 3) := by decide +kernel
theorem dX6_drawn_10 : decode cX6_drawn 10 = .ok (.ldc 143, 2) := by decide +kernel
theorem dX6_drawn_12 : decode cX6_drawn 12 = .ok (.ireturn, 1) := by decide +kernel
theorem dX6_drawn_13 : decode cX6_drawn 13 = .ok (.iload_n 1, 1) := by decide +kernel
theorem dX6_drawn_14 : decode cX6_drawn 14 = .ok (.ifCond .lt 28, 3) := by decide +kernel
theorem dX6_drawn_17 : decode cX6_drawn 17 = .ok (.iload_n 1, 1) := by decide +kernel
theorem dX6_drawn_18 : decode cX6_drawn 18 = .ok (.bipush 60, 2) := by decide +kernel
theorem dX6_drawn_20 : decode cX6_drawn 20 = .ok (.if_icmp .gt 22, 3) := by decide +kernel
theorem dX6_drawn_23 : decode cX6_drawn 23 = .ok (.iload_n 2, 1) := by decide +kernel
theorem dX6_drawn_24 : decode cX6_drawn 24 = .ok (.iconst 1, 1) := by decide +kernel
theorem dX6_drawn_25 : decode cX6_drawn 25 = .ok (.if_icmp .lt 17, 3) := by decide +kernel
theorem dX6_drawn_28 : decode cX6_drawn 28 = .ok (.iload_n 2, 1) := by decide +kernel
theorem dX6_drawn_29 : decode cX6_drawn 29 = .ok (.ldc_w 289, 3) := by decide +kernel
theorem dX6_drawn_32 : decode cX6_drawn 32 = .ok (.if_icmp .gt 10, 3) := by decide +kernel
theorem dX6_drawn_35 : decode cX6_drawn 35 = .ok (.iload_n 3, 1) := by decide +kernel
theorem dX6_drawn_36 : decode cX6_drawn 36 = .ok (.invokestatic 164, 3) := by decide +kernel
theorem dX6_drawn_39 : decode cX6_drawn 39 = .ok (.ifCond .ne 6, 3) := by decide +kernel
theorem dX6_drawn_42 : decode cX6_drawn 42 = .ok (.ldc 69, 2) := by decide +kernel
theorem dX6_drawn_44 : decode cX6_drawn 44 = .ok (.ireturn, 1) := by decide +kernel
theorem dX6_drawn_45 : decode cX6_drawn 45 = .ok (.aload_n 0, 1) := by decide +kernel
theorem dX6_drawn_46 : decode cX6_drawn 46 = .ok (.getfield 26, 3) := by decide +kernel
theorem dX6_drawn_49 : decode cX6_drawn 49 = .ok (.aload_n 0, 1) := by decide +kernel
theorem dX6_drawn_50 : decode cX6_drawn 50 = .ok (.getfield 22, 3) := by decide +kernel
theorem dX6_drawn_53 : decode cX6_drawn 53 = .ok (.invokevirtual 130, 3) := by decide +kernel
theorem dX6_drawn_56 : decode cX6_drawn 56 = .ok (.iconst 0, 1) := by decide +kernel
theorem dX6_drawn_57 : decode cX6_drawn 57 = .ok (.istore 4, 2) := by decide +kernel
theorem dX6_drawn_59 : decode cX6_drawn 59 = .ok (.iload_n 2, 1) := by decide +kernel
theorem dX6_drawn_60 : decode cX6_drawn 60 = .ok (.i2l, 1) := by decide +kernel
theorem dX6_drawn_61 : decode cX6_drawn 61 = .ok (.lstore 5, 2) := by decide +kernel
theorem dX6_drawn_63 : decode cX6_drawn 63 = .ok (.iconst 0, 1) := by decide +kernel
theorem dX6_drawn_64 : decode cX6_drawn 64 = .ok (.istore 7, 2) := by decide +kernel
theorem dX6_drawn_66 : decode cX6_drawn 66 = .ok (.iload 7, 2) := by decide +kernel
theorem dX6_drawn_68 : decode cX6_drawn 68 = .ok (.iload_n 1, 1) := by decide +kernel
theorem dX6_drawn_69 : decode cX6_drawn 69 = .ok (.if_icmp .ge 45, 3) := by decide +kernel
theorem dX6_drawn_72 : decode cX6_drawn 72 = .ok (.lload 5, 2) := by decide +kernel
theorem dX6_drawn_74 : decode cX6_drawn 74 = .ok (.ldc2_w 290, 3) := by decide +kernel
theorem dX6_drawn_77 : decode cX6_drawn 77 = .ok (.lmul, 1) := by decide +kernel
theorem dX6_drawn_78 : decode cX6_drawn 78 = .ok (.ldc2_w 292, 3) := by decide +kernel
theorem dX6_drawn_81 : decode cX6_drawn 81 = .ok (.lrem, 1) := by decide +kernel
theorem dX6_drawn_82 : decode cX6_drawn 82 = .ok (.lstore 5, 2) := by decide +kernel
theorem dX6_drawn_84 : decode cX6_drawn 84 = .ok (.aload_n 0, 1) := by decide +kernel
theorem dX6_drawn_85 : decode cX6_drawn 85 = .ok (.getfield 26, 3) := by decide +kernel
theorem dX6_drawn_88 : decode cX6_drawn 88 = .ok (.lload 5, 2) := by decide +kernel
theorem dX6_drawn_90 : decode cX6_drawn 90 = .ok (.invokevirtual 294, 3) := by decide +kernel
theorem dX6_drawn_93 : decode cX6_drawn 93 = .ok (.iload 4, 2) := by decide +kernel
theorem dX6_drawn_95 : decode cX6_drawn 95 = .ok (.aload_n 0, 1) := by decide +kernel
theorem dX6_drawn_96 : decode cX6_drawn 96 = .ok (.getfield 26, 3) := by decide +kernel
theorem dX6_drawn_99 : decode cX6_drawn 99 = .ok (.invokevirtual 185, 3) := by decide +kernel
theorem dX6_drawn_102 : decode cX6_drawn 102 = .ok (.invokestatic 284, 3) := by decide +kernel
theorem dX6_drawn_105 : decode cX6_drawn 105 = .ok (.iadd, 1) := by decide +kernel
theorem dX6_drawn_106 : decode cX6_drawn 106 = .ok (.istore 4, 2) := by decide +kernel
theorem dX6_drawn_108 : decode cX6_drawn 108 = .ok (.iinc 7 1, 3) := by decide +kernel
theorem dX6_drawn_111 : decode cX6_drawn 111 = .ok (.goto (-45), 3) := by decide +kernel
theorem dX6_drawn_114 : decode cX6_drawn 114 = .ok (.iload_n 3, 1) := by decide +kernel
theorem dX6_drawn_115 : decode cX6_drawn 115 = .ok (.ifCond .ne 8, 3) := by decide +kernel
theorem dX6_drawn_118 : decode cX6_drawn 118 = .ok (.iload 4, 2) := by decide +kernel
theorem dX6_drawn_120 : decode cX6_drawn 120 = .ok (.goto 10, 3) := by decide +kernel
theorem dX6_drawn_123 : decode cX6_drawn 123 = .ok (.aload_n 0, 1) := by decide +kernel
theorem dX6_drawn_124 : decode cX6_drawn 124 = .ok (.getfield 26, 3) := by decide +kernel
theorem dX6_drawn_127 : decode cX6_drawn 127 = .ok (.invokevirtual 298, 3) := by decide +kernel
theorem dX6_drawn_130 : decode cX6_drawn 130 = .ok (.ireturn, 1) := by decide +kernel
theorem dX6_image_0 : decode cX6_image 0 = .ok (.iload_n 1, 1) := by decide +kernel
theorem dX6_image_1 : decode cX6_image 1 = .ok (.invokestatic 164, 3) := by decide +kernel
theorem dX6_image_4 : decode cX6_image 4 = .ok (.ifCond .ne 6, 3) := by decide +kernel
theorem dX6_image_7 : decode cX6_image 7 = .ok (.ldc 69, 2) := by decide +kernel
theorem dX6_image_9 : decode cX6_image 9 = .ok (.ireturn, 1) := by decide +kernel
theorem dX6_image_10 : decode cX6_image 10 = .ok (.aload_n 0, 1) := by decide +kernel
theorem dX6_image_11 : decode cX6_image 11 = .ok (.getfield 22, 3) := by decide +kernel
theorem dX6_image_14 : decode cX6_image 14 = .ok (.invokevirtual 179, 3) := by decide +kernel
theorem dX6_image_17 : decode cX6_image 17 = .ok (.ifCond .ne 6, 3) := by decide +kernel
theorem dX6_image_20 : decode cX6_image 20 = .ok (.ldc 143, 2) := by decide +kernel
theorem dX6_image_22 : decode cX6_image 22 = .ok (.ireturn, 1) := by decide +kernel
theorem dX6_image_23 : decode cX6_image 23 = .ok (.aload_n 0, 1) := by decide +kernel
theorem dX6_image_24 : decode cX6_image 24 = .ok (.getfield 17, 3) := by decide +kernel
theorem dX6_image_27 : decode cX6_image 27 = .ok (.iload_n 1, 1) := by decide +kernel
theorem dX6_image_28 : decode cX6_image 28 = .ok (.aaload, 1) := by decide +kernel
theorem dX6_image_29 : decode cX6_image 29 = .ok (.aload_n 0, 1) := by decide +kernel
theorem dX6_image_30 : decode cX6_image 30 = .ok (.getfield 22, 3) := by decide +kernel
theorem dX6_image_33 : decode cX6_image 33 = .ok (.invokevirtual 130, 3) := by decide +kernel
theorem dX6_image_36 : decode cX6_image 36 = .ok (.iconst 1, 1) := by decide +kernel
theorem dX6_image_37 : decode cX6_image 37 = .ok (.ireturn, 1) := by decide +kernel
theorem dX6_restore_0 : decode cX6_restore 0 = .ok (.iload_n 1, 1) := by decide +kernel
theorem dX6_restore_1 : decode cX6_restore 1 = .ok (.invokestatic 164, 3) := by decide +kernel
theorem dX6_restore_4 : decode cX6_restore 4 = .ok (.ifCond .ne 6, 3) := by decide +kernel
theorem dX6_restore_7 : decode cX6_restore 7 = .ok (.ldc 69, 2) := by decide +kernel
theorem dX6_restore_9 : decode cX6_restore 9 = .ok (.ireturn, 1) := by decide +kernel
theorem dX6_restore_10 : decode cX6_restore 10 = .ok (.aload_n 0, 1) := by decide +kernel
theorem dX6_restore_11 : decode cX6_restore 11 = .ok (.getfield 17, 3) := by decide +kernel
theorem dX6_restore_14 : decode cX6_restore 14 = .ok (.iload_n 1, 1) := by decide +kernel
theorem dX6_restore_15 : decode cX6_restore 15 = .ok (.aaload, 1) := by decide +kernel
theorem dX6_restore_16 : decode cX6_restore 16 = .ok (.invokevirtual 179, 3) := by decide +kernel
theorem dX6_restore_19 : decode cX6_restore 19 = .ok (.ifCond .ne 6, 3) := by decide +kernel
theorem dX6_restore_22 : decode cX6_restore 22 = .ok (.ldc 143, 2) := by decide +kernel
theorem dX6_restore_24 : decode cX6_restore 24 = .ok (.ireturn, 1) := by decide +kernel
theorem dX6_restore_25 : decode cX6_restore 25 = .ok (.aload_n 0, 1) := by decide +kernel
theorem dX6_restore_26 : decode cX6_restore 26 = .ok (.getfield 22, 3) := by decide +kernel
theorem dX6_restore_29 : decode cX6_restore 29 = .ok (.aload_n 0, 1) := by decide +kernel
theorem dX6_restore_30 : decode cX6_restore 30 = .ok (.getfield 17, 3) := by decide +kernel
theorem dX6_restore_33 : decode cX6_restore 33 = .ok (.iload_n 1, 1) := by decide +kernel
theorem dX6_restore_34 : decode cX6_restore 34 = .ok (.aaload, 1) := by decide +kernel
theorem dX6_restore_35 : decode cX6_restore 35 = .ok (.invokevirtual 130, 3) := by decide +kernel
theorem dX6_restore_38 : decode cX6_restore 38 = .ok (.aload_n 0, 1) := by decide +kernel
theorem dX6_restore_39 : decode cX6_restore 39 = .ok (.getfield 39, 3) := by decide +kernel
theorem dX6_restore_42 : decode cX6_restore 42 = .ok (.invokevirtual 134, 3) := by decide +kernel
theorem dX6_restore_45 : decode cX6_restore 45 = .ok (.iconst 1, 1) := by decide +kernel
theorem dX6_restore_46 : decode cX6_restore 46 = .ok (.ireturn, 1) := by decide +kernel
theorem dX6_kind_0 : decode cX6_kind 0 = .ok (.aload_n 0, 1) := by decide +kernel
theorem dX6_kind_1 : decode cX6_kind 1 = .ok (.getfield 22, 3) := by decide +kernel
theorem dX6_kind_4 : decode cX6_kind 4 = .ok (.iload_n 1, 1) := by decide +kernel
theorem dX6_kind_5 : decode cX6_kind 5 = .ok (.invokevirtual 200, 3) := by decide +kernel
theorem dX6_kind_8 : decode cX6_kind 8 = .ok (.ifCond .eq 15, 3) := by decide +kernel
theorem dX6_kind_11 : decode cX6_kind 11 = .ok (.aload_n 0, 1) := by decide +kernel
theorem dX6_kind_12 : decode cX6_kind 12 = .ok (.getfield 22, 3) := by decide +kernel
theorem dX6_kind_15 : decode cX6_kind 15 = .ok (.getfield 224, 3) := by decide +kernel
theorem dX6_kind_18 : decode cX6_kind 18 = .ok (.iload_n 1, 1) := by decide +kernel
theorem dX6_kind_19 : decode cX6_kind 19 = .ok (.iaload, 1) := by decide +kernel
theorem dX6_kind_20 : decode cX6_kind 20 = .ok (.goto 5, 3) := by decide +kernel
theorem dX6_kind_23 : decode cX6_kind 23 = .ok (.ldc 69, 2) := by decide +kernel
theorem dX6_kind_25 : decode cX6_kind 25 = .ok (.ireturn, 1) := by decide +kernel
theorem dX6_as_0 : decode cX6_as 0 = .ok (.aload_n 0, 1) := by decide +kernel
theorem dX6_as_1 : decode cX6_as 1 = .ok (.getfield 22, 3) := by decide +kernel
theorem dX6_as_4 : decode cX6_as 4 = .ok (.iload_n 1, 1) := by decide +kernel
theorem dX6_as_5 : decode cX6_as 5 = .ok (.invokevirtual 200, 3) := by decide +kernel
theorem dX6_as_8 : decode cX6_as 8 = .ok (.ifCond .eq 12, 3) := by decide +kernel
theorem dX6_as_11 : decode cX6_as 11 = .ok (.iload_n 2, 1) := by decide +kernel
theorem dX6_as_12 : decode cX6_as 12 = .ok (.ifCond .lt 8, 3) := by decide +kernel
theorem dX6_as_15 : decode cX6_as 15 = .ok (.iload_n 2, 1) := by decide +kernel
theorem dX6_as_16 : decode cX6_as 16 = .ok (.iconst 5, 1) := by decide +kernel
theorem dX6_as_17 : decode cX6_as 17 = .ok (.if_icmp .le 6, 3) := by decide +kernel
theorem dX6_as_20 : decode cX6_as 20 = .ok (.ldc 69, 2) := by decide +kernel
theorem dX6_as_22 : decode cX6_as 22 = .ok (.ireturn, 1) := by decide +kernel
theorem dX6_as_23 : decode cX6_as 23 = .ok (.aload_n 0, 1) := by decide +kernel
theorem dX6_as_24 : decode cX6_as 24 = .ok (.getfield 22, 3) := by decide +kernel
theorem dX6_as_27 : decode cX6_as 27 = .ok (.getfield 224, 3) := by decide +kernel
theorem dX6_as_30 : decode cX6_as 30 = .ok (.iload_n 1, 1) := by decide +kernel
theorem dX6_as_31 : decode cX6_as 31 = .ok (.iaload, 1) := by decide +kernel
theorem dX6_as_32 : decode cX6_as 32 = .ok (.iload_n 2, 1) := by decide +kernel
theorem dX6_as_33 : decode cX6_as 33 = .ok (.invokestatic 301, 3) := by decide +kernel
theorem dX6_as_36 : decode cX6_as 36 = .ok (.ifCond .eq 11, 3) := by decide +kernel
theorem dX6_as_39 : decode cX6_as 39 = .ok (.aload_n 0, 1) := by decide +kernel
theorem dX6_as_40 : decode cX6_as 40 = .ok (.iload_n 1, 1) := by decide +kernel
theorem dX6_as_41 : decode cX6_as 41 = .ok (.invokevirtual 78, 3) := by decide +kernel
theorem dX6_as_44 : decode cX6_as 44 = .ok (.goto 8, 3) := by decide +kernel
theorem dX6_as_47 : decode cX6_as 47 = .ok (.aload_n 0, 1) := by decide +kernel
theorem dX6_as_48 : decode cX6_as 48 = .ok (.iconst 3, 1) := by decide +kernel
theorem dX6_as_49 : decode cX6_as 49 = .ok (.invokevirtual 70, 3) := by decide +kernel
theorem dX6_as_52 : decode cX6_as 52 = .ok (.ireturn, 1) := by decide +kernel
theorem dX6_ask_0 : decode cX6_ask 0 = .ok (.aload_n 0, 1) := by decide +kernel
theorem dX6_ask_1 : decode cX6_ask 1 = .ok (.getfield 22, 3) := by decide +kernel
theorem dX6_ask_4 : decode cX6_ask 4 = .ok (.iload_n 1, 1) := by decide +kernel
theorem dX6_ask_5 : decode cX6_ask 5 = .ok (.invokevirtual 200, 3) := by decide +kernel
theorem dX6_ask_8 : decode cX6_ask 8 = .ok (.ifCond .eq 10, 3) := by decide +kernel
theorem dX6_ask_11 : decode cX6_ask 11 = .ok (.iload_n 2, 1) := by decide +kernel
theorem dX6_ask_12 : decode cX6_ask 12 = .ok (.invokestatic 164, 3) := by decide +kernel
theorem dX6_ask_15 : decode cX6_ask 15 = .ok (.ifCond .ne 6, 3) := by decide +kernel
theorem dX6_ask_18 : decode cX6_ask 18 = .ok (.ldc 69, 2) := by decide +kernel
theorem dX6_ask_20 : decode cX6_ask 20 = .ok (.ireturn, 1) := by decide +kernel
theorem dX6_ask_21 : decode cX6_ask 21 = .ok (.aload_n 0, 1) := by decide +kernel
theorem dX6_ask_22 : decode cX6_ask 22 = .ok (.getfield 53, 3) := by decide +kernel
theorem dX6_ask_25 : decode cX6_ask 25 = .ok (.aload_n 0, 1) := by decide +kernel
theorem dX6_ask_26 : decode cX6_ask 26 = .ok (.getfield 22, 3) := by decide +kernel
theorem dX6_ask_29 : decode cX6_ask 29 = .ok (.iload_n 1, 1) := by decide +kernel
theorem dX6_ask_30 : decode cX6_ask 30 = .ok (.iload_n 2, 1) := by decide +kernel
theorem dX6_ask_31 : decode cX6_ask 31 = .ok (.invokevirtual 304, 3) := by decide +kernel
theorem dX6_ask_34 : decode cX6_ask 34 = .ok (.ireturn, 1) := by decide +kernel
theorem dX6_trace_0 : decode cX6_trace 0 = .ok (.iload_n 1, 1) := by decide +kernel
theorem dX6_trace_1 : decode cX6_trace 1 = .ok (.ifCond .lt 26, 3) := by decide +kernel
theorem dX6_trace_4 : decode cX6_trace 4 = .ok (.iload_n 1, 1) := by decide +kernel
theorem dX6_trace_5 : decode cX6_trace 5 = .ok (.aload_n 0, 1) := by decide +kernel
theorem dX6_trace_6 : decode cX6_trace 6 = .ok (.getfield 53, 3) := by decide +kernel
theorem dX6_trace_9 : decode cX6_trace 9 = .ok (.getfield 308, 3) := by decide +kernel
theorem dX6_trace_12 : decode cX6_trace 12 = .ok (.if_icmp .ge 15, 3) := by decide +kernel
theorem dX6_trace_15 : decode cX6_trace 15 = .ok (.aload_n 0, 1) := by decide +kernel
theorem dX6_trace_16 : decode cX6_trace 16 = .ok (.getfield 53, 3) := by decide +kernel
theorem dX6_trace_19 : decode cX6_trace 19 = .ok (.getfield 311, 3) := by decide +kernel
theorem dX6_trace_22 : decode cX6_trace 22 = .ok (.iload_n 1, 1) := by decide +kernel
theorem dX6_trace_23 : decode cX6_trace 23 = .ok (.iaload, 1) := by decide +kernel
theorem dX6_trace_24 : decode cX6_trace 24 = .ok (.goto 5, 3) := by decide +kernel
theorem dX6_trace_27 : decode cX6_trace 27 = .ok (.ldc 231, 2) := by decide +kernel
theorem dX6_trace_29 : decode cX6_trace 29 = .ok (.ireturn, 1) := by decide +kernel
theorem dX6_count_0 : decode cX6_count 0 = .ok (.iload_n 1, 1) := by decide +kernel
theorem dX6_count_1 : decode cX6_count 1 = .ok (.tableswitch 120 0 8 #[51, 56, 64, 72, 80, 88, 96, 104, 112], 51) := by decide +kernel
theorem dX6_count_52 : decode cX6_count 52 = .ok (.aload_n 0, 1) := by decide +kernel
theorem dX6_count_53 : decode cX6_count 53 = .ok (.invokevirtual 314, 3) := by decide +kernel
theorem dX6_count_56 : decode cX6_count 56 = .ok (.ireturn, 1) := by decide +kernel
theorem dX6_count_57 : decode cX6_count 57 = .ok (.aload_n 0, 1) := by decide +kernel
theorem dX6_count_58 : decode cX6_count 58 = .ok (.getfield 22, 3) := by decide +kernel
theorem dX6_count_61 : decode cX6_count 61 = .ok (.getfield 317, 3) := by decide +kernel
theorem dX6_count_64 : decode cX6_count 64 = .ok (.ireturn, 1) := by decide +kernel
theorem dX6_count_65 : decode cX6_count 65 = .ok (.aload_n 0, 1) := by decide +kernel
theorem dX6_count_66 : decode cX6_count 66 = .ok (.getfield 22, 3) := by decide +kernel
theorem dX6_count_69 : decode cX6_count 69 = .ok (.getfield 137, 3) := by decide +kernel
theorem dX6_count_72 : decode cX6_count 72 = .ok (.ireturn, 1) := by decide +kernel
theorem dX6_count_73 : decode cX6_count 73 = .ok (.aload_n 0, 1) := by decide +kernel
theorem dX6_count_74 : decode cX6_count 74 = .ok (.getfield 22, 3) := by decide +kernel
theorem dX6_count_77 : decode cX6_count 77 = .ok (.getfield 157, 3) := by decide +kernel
theorem dX6_count_80 : decode cX6_count 80 = .ok (.ireturn, 1) := by decide +kernel
theorem dX6_count_81 : decode cX6_count 81 = .ok (.aload_n 0, 1) := by decide +kernel
theorem dX6_count_82 : decode cX6_count 82 = .ok (.getfield 22, 3) := by decide +kernel
theorem dX6_count_85 : decode cX6_count 85 = .ok (.getfield 176, 3) := by decide +kernel
theorem dX6_count_88 : decode cX6_count 88 = .ok (.ireturn, 1) := by decide +kernel
theorem dX6_count_89 : decode cX6_count 89 = .ok (.aload_n 0, 1) := by decide +kernel
theorem dX6_count_90 : decode cX6_count 90 = .ok (.getfield 22, 3) := by decide +kernel
theorem dX6_count_93 : decode cX6_count 93 = .ok (.getfield 182, 3) := by decide +kernel
theorem dX6_count_96 : decode cX6_count 96 = .ok (.ireturn, 1) := by decide +kernel
theorem dX6_count_97 : decode cX6_count 97 = .ok (.aload_n 0, 1) := by decide +kernel
theorem dX6_count_98 : decode cX6_count 98 = .ok (.getfield 22, 3) := by decide +kernel
theorem dX6_count_101 : decode cX6_count 101 = .ok (.invokevirtual 320, 3) := by decide +kernel
theorem dX6_count_104 : decode cX6_count 104 = .ok (.ireturn, 1) := by decide +kernel
theorem dX6_count_105 : decode cX6_count 105 = .ok (.aload_n 0, 1) := by decide +kernel
theorem dX6_count_106 : decode cX6_count 106 = .ok (.getfield 39, 3) := by decide +kernel
theorem dX6_count_109 : decode cX6_count 109 = .ok (.getfield 140, 3) := by decide +kernel
theorem dX6_count_112 : decode cX6_count 112 = .ok (.ireturn, 1) := by decide +kernel
theorem dX6_count_113 : decode cX6_count 113 = .ok (.aload_n 0, 1) := by decide +kernel
theorem dX6_count_114 : decode cX6_count 114 = .ok (.getfield 32, 3) := by decide +kernel
theorem dX6_count_117 : decode cX6_count 117 = .ok (.getfield 115, 3) := by decide +kernel
theorem dX6_count_120 : decode cX6_count 120 = .ok (.ireturn, 1) := by decide +kernel
theorem dX6_count_121 : decode cX6_count 121 = .ok (.ldc 69, 2) := by decide +kernel
theorem dX6_count_123 : decode cX6_count 123 = .ok (.ireturn, 1) := by decide +kernel
theorem dX6_status_0 : decode cX6_status 0 = .ok (.aload_n 0, 1) := by decide +kernel
theorem dX6_status_1 : decode cX6_status 1 = .ok (.getfield 61, 3) := by decide +kernel
theorem dX6_status_4 : decode cX6_status 4 = .ok (.ireturn, 1) := by decide +kernel
theorem dX6_found_0 : decode cX6_found 0 = .ok (.aload_n 0, 1) := by decide +kernel
theorem dX6_found_1 : decode cX6_found 1 = .ok (.iload_n 1, 1) := by decide +kernel
theorem dX6_found_2 : decode cX6_found 2 = .ok (.putfield 61, 3) := by decide +kernel
theorem dX6_found_5 : decode cX6_found 5 = .ok (.ldc_w 323, 3) := by decide +kernel
theorem dX6_found_8 : decode cX6_found 8 = .ok (.iload_n 1, 1) := by decide +kernel
theorem dX6_found_9 : decode cX6_found 9 = .ok (.isub, 1) := by decide +kernel
theorem dX6_found_10 : decode cX6_found 10 = .ok (.ireturn, 1) := by decide +kernel
theorem dX6_foundNone_0 : decode cX6_foundNone 0 = .ok (.aload_n 0, 1) := by decide +kernel
theorem dX6_foundNone_1 : decode cX6_foundNone 1 = .ok (.iconst 0, 1) := by decide +kernel
theorem dX6_foundNone_2 : decode cX6_foundNone 2 = .ok (.putfield 61, 3) := by decide +kernel
theorem dX6_foundNone_5 : decode cX6_foundNone 5 = .ok (.iload_n 1, 1) := by decide +kernel
theorem dX6_foundNone_6 : decode cX6_foundNone 6 = .ok (.ireturn, 1) := by decide +kernel
theorem dX6_rowsThere_0 : decode cX6_rowsThere 0 = .ok (.iconst 0, 1) := by decide +kernel
theorem dX6_rowsThere_1 : decode cX6_rowsThere 1 = .ok (.istore_n 1, 1) := by decide +kernel
theorem dX6_rowsThere_2 : decode cX6_rowsThere 2 = .ok (.iconst 0, 1) := by decide +kernel
theorem dX6_rowsThere_3 : decode cX6_rowsThere 3 = .ok (.istore_n 2, 1) := by decide +kernel
theorem dX6_rowsThere_4 : decode cX6_rowsThere 4 = .ok (.iload_n 2, 1) := by decide +kernel
theorem dX6_rowsThere_5 : decode cX6_rowsThere 5 = .ok (.bipush 8, 2) := by decide +kernel
theorem dX6_rowsThere_7 : decode cX6_rowsThere 7 = .ok (.if_icmp .ge 24, 3) := by decide +kernel
theorem dX6_rowsThere_10 : decode cX6_rowsThere 10 = .ok (.aload_n 0, 1) := by decide +kernel
theorem dX6_rowsThere_11 : decode cX6_rowsThere 11 = .ok (.getfield 11, 3) := by decide +kernel
theorem dX6_rowsThere_14 : decode cX6_rowsThere 14 = .ok (.iload_n 2, 1) := by decide +kernel
theorem dX6_rowsThere_15 : decode cX6_rowsThere 15 = .ok (.aaload, 1) := by decide +kernel
theorem dX6_rowsThere_16 : decode cX6_rowsThere 16 = .ok (.invokevirtual 92, 3) := by decide +kernel
theorem dX6_rowsThere_19 : decode cX6_rowsThere 19 = .ok (.ifCond .ne 6, 3) := by decide +kernel
theorem dX6_rowsThere_22 : decode cX6_rowsThere 22 = .ok (.iinc 1 1, 3) := by decide +kernel
theorem dX6_rowsThere_25 : decode cX6_rowsThere 25 = .ok (.iinc 2 1, 3) := by decide +kernel
theorem dX6_rowsThere_28 : decode cX6_rowsThere 28 = .ok (.goto (-24), 3) := by decide +kernel
theorem dX6_rowsThere_31 : decode cX6_rowsThere 31 = .ok (.iload_n 1, 1) := by decide +kernel
theorem dX6_rowsThere_32 : decode cX6_rowsThere 32 = .ok (.ireturn, 1) := by decide +kernel
theorem dX6_areApartSets_0 : decode cX6_areApartSets 0 = .ok (.aload_n 0, 1) := by decide +kernel
theorem dX6_areApartSets_1 : decode cX6_areApartSets 1 = .ok (.getfield 22, 3) := by decide +kernel
theorem dX6_areApartSets_4 : decode cX6_areApartSets 4 = .ok (.invokevirtual 324, 3) := by decide +kernel
theorem dX6_areApartSets_7 : decode cX6_areApartSets 7 = .ok (.istore_n 3, 1) := by decide +kernel
theorem dX6_areApartSets_8 : decode cX6_areApartSets 8 = .ok (.iload_n 1, 1) := by decide +kernel
theorem dX6_areApartSets_9 : decode cX6_areApartSets 9 = .ok (.iload_n 3, 1) := by decide +kernel
theorem dX6_areApartSets_10 : decode cX6_areApartSets 10 = .ok (.iconst (-1), 1) := by decide +kernel
theorem dX6_areApartSets_11 : decode cX6_areApartSets 11 = .ok (.ixor, 1) := by decide +kernel
theorem dX6_areApartSets_12 : decode cX6_areApartSets 12 = .ok (.iand, 1) := by decide +kernel
theorem dX6_areApartSets_13 : decode cX6_areApartSets 13 = .ok (.ifCond .ne 21, 3) := by decide +kernel
theorem dX6_areApartSets_16 : decode cX6_areApartSets 16 = .ok (.iload_n 2, 1) := by decide +kernel
theorem dX6_areApartSets_17 : decode cX6_areApartSets 17 = .ok (.iload_n 3, 1) := by decide +kernel
theorem dX6_areApartSets_18 : decode cX6_areApartSets 18 = .ok (.iconst (-1), 1) := by decide +kernel
theorem dX6_areApartSets_19 : decode cX6_areApartSets 19 = .ok (.ixor, 1) := by decide +kernel
theorem dX6_areApartSets_20 : decode cX6_areApartSets 20 = .ok (.iand, 1) := by decide +kernel
theorem dX6_areApartSets_21 : decode cX6_areApartSets 21 = .ok (.ifCond .ne 13, 3) := by decide +kernel
theorem dX6_areApartSets_24 : decode cX6_areApartSets 24 = .ok (.iload_n 1, 1) := by decide +kernel
theorem dX6_areApartSets_25 : decode cX6_areApartSets 25 = .ok (.iload_n 2, 1) := by decide +kernel
theorem dX6_areApartSets_26 : decode cX6_areApartSets 26 = .ok (.iand, 1) := by decide +kernel
theorem dX6_areApartSets_27 : decode cX6_areApartSets 27 = .ok (.ifCond .ne 7, 3) := by decide +kernel
theorem dX6_areApartSets_30 : decode cX6_areApartSets 30 = .ok (.iconst 1, 1) := by decide +kernel
theorem dX6_areApartSets_31 : decode cX6_areApartSets 31 = .ok (.goto 4, 3) := by decide +kernel
theorem dX6_areApartSets_34 : decode cX6_areApartSets 34 = .ok (.iconst 0, 1) := by decide +kernel
theorem dX6_areApartSets_35 : decode cX6_areApartSets 35 = .ok (.ireturn, 1) := by decide +kernel
theorem dX6_meetingCases_0 : decode cX6_meetingCases 0 = .ok (.aload_n 0, 1) := by decide +kernel
theorem dX6_meetingCases_1 : decode cX6_meetingCases 1 = .ok (.getfield 22, 3) := by decide +kernel
theorem dX6_meetingCases_4 : decode cX6_meetingCases 4 = .ok (.getfield 203, 3) := by decide +kernel
theorem dX6_meetingCases_7 : decode cX6_meetingCases 7 = .ok (.iload_n 1, 1) := by decide +kernel
theorem dX6_meetingCases_8 : decode cX6_meetingCases 8 = .ok (.iaload, 1) := by decide +kernel
theorem dX6_meetingCases_9 : decode cX6_meetingCases 9 = .ok (.iconst 1, 1) := by decide +kernel
theorem dX6_meetingCases_10 : decode cX6_meetingCases 10 = .ok (.isub, 1) := by decide +kernel
theorem dX6_meetingCases_11 : decode cX6_meetingCases 11 = .ok (.istore_n 3, 1) := by decide +kernel
theorem dX6_meetingCases_12 : decode cX6_meetingCases 12 = .ok (.iconst 0, 1) := by decide +kernel
theorem dX6_meetingCases_13 : decode cX6_meetingCases 13 = .ok (.istore 4, 2) := by decide +kernel
theorem dX6_meetingCases_15 : decode cX6_meetingCases 15 = .ok (.iconst 0, 1) := by decide +kernel
theorem dX6_meetingCases_16 : decode cX6_meetingCases 16 = .ok (.istore 5, 2) := by decide +kernel
theorem dX6_meetingCases_18 : decode cX6_meetingCases 18 = .ok (.iload 5, 2) := by decide +kernel
theorem dX6_meetingCases_20 : decode cX6_meetingCases 20 = .ok (.bipush 8, 2) := by decide +kernel
theorem dX6_meetingCases_22 : decode cX6_meetingCases 22 = .ok (.if_icmp .ge 96, 3) := by decide +kernel
theorem dX6_meetingCases_25 : decode cX6_meetingCases 25 = .ok (.aload_n 0, 1) := by decide +kernel
theorem dX6_meetingCases_26 : decode cX6_meetingCases 26 = .ok (.getfield 26, 3) := by decide +kernel
theorem dX6_meetingCases_29 : decode cX6_meetingCases 29 = .ok (.aload_n 0, 1) := by decide +kernel
theorem dX6_meetingCases_30 : decode cX6_meetingCases 30 = .ok (.getfield 22, 3) := by decide +kernel
theorem dX6_meetingCases_33 : decode cX6_meetingCases 33 = .ok (.invokevirtual 130, 3) := by decide +kernel
theorem dX6_meetingCases_36 : decode cX6_meetingCases 36 = .ok (.iconst 1, 1) := by decide +kernel
theorem dX6_meetingCases_37 : decode cX6_meetingCases 37 = .ok (.istore 6, 2) := by decide +kernel
theorem dX6_meetingCases_39 : decode cX6_meetingCases 39 = .ok (.iconst 0, 1) := by decide +kernel
theorem dX6_meetingCases_40 : decode cX6_meetingCases 40 = .ok (.istore 7, 2) := by decide +kernel
theorem dX6_meetingCases_42 : decode cX6_meetingCases 42 = .ok (.iload 7, 2) := by decide +kernel
theorem dX6_meetingCases_44 : decode cX6_meetingCases 44 = .ok (.iconst 3, 1) := by decide +kernel
theorem dX6_meetingCases_45 : decode cX6_meetingCases 45 = .ok (.if_icmp .ge 49, 3) := by decide +kernel
theorem dX6_meetingCases_48 : decode cX6_meetingCases 48 = .ok (.iload 5, 2) := by decide +kernel
theorem dX6_meetingCases_50 : decode cX6_meetingCases 50 = .ok (.iload 7, 2) := by decide +kernel
theorem dX6_meetingCases_52 : decode cX6_meetingCases 52 = .ok (.ishr, 1) := by decide +kernel
theorem dX6_meetingCases_53 : decode cX6_meetingCases 53 = .ok (.iconst 1, 1) := by decide +kernel
theorem dX6_meetingCases_54 : decode cX6_meetingCases 54 = .ok (.iand, 1) := by decide +kernel
theorem dX6_meetingCases_55 : decode cX6_meetingCases 55 = .ok (.iconst 1, 1) := by decide +kernel
theorem dX6_meetingCases_56 : decode cX6_meetingCases 56 = .ok (.if_icmp .ne 23, 3) := by decide +kernel
theorem dX6_meetingCases_59 : decode cX6_meetingCases 59 = .ok (.iload 6, 2) := by decide +kernel
theorem dX6_meetingCases_61 : decode cX6_meetingCases 61 = .ok (.iload_n 2, 1) := by decide +kernel
theorem dX6_meetingCases_62 : decode cX6_meetingCases 62 = .ok (.imul, 1) := by decide +kernel
theorem dX6_meetingCases_63 : decode cX6_meetingCases 63 = .ok (.istore 6, 2) := by decide +kernel
theorem dX6_meetingCases_65 : decode cX6_meetingCases 65 = .ok (.aload_n 0, 1) := by decide +kernel
theorem dX6_meetingCases_66 : decode cX6_meetingCases 66 = .ok (.getfield 26, 3) := by decide +kernel
theorem dX6_meetingCases_69 : decode cX6_meetingCases 69 = .ok (.iload_n 3, 1) := by decide +kernel
theorem dX6_meetingCases_70 : decode cX6_meetingCases 70 = .ok (.iload 7, 2) := by decide +kernel
theorem dX6_meetingCases_72 : decode cX6_meetingCases 72 = .ok (.iadd, 1) := by decide +kernel
theorem dX6_meetingCases_73 : decode cX6_meetingCases 73 = .ok (.invokevirtual 327, 3) := by decide +kernel
theorem dX6_meetingCases_76 : decode cX6_meetingCases 76 = .ok (.goto 12, 3) := by decide +kernel
theorem dX6_meetingCases_79 : decode cX6_meetingCases 79 = .ok (.iload 6, 2) := by decide +kernel
theorem dX6_meetingCases_81 : decode cX6_meetingCases 81 = .ok (.bipush 10, 2) := by decide +kernel
theorem dX6_meetingCases_83 : decode cX6_meetingCases 83 = .ok (.iload_n 2, 1) := by decide +kernel
theorem dX6_meetingCases_84 : decode cX6_meetingCases 84 = .ok (.isub, 1) := by decide +kernel
theorem dX6_meetingCases_85 : decode cX6_meetingCases 85 = .ok (.imul, 1) := by decide +kernel
theorem dX6_meetingCases_86 : decode cX6_meetingCases 86 = .ok (.istore 6, 2) := by decide +kernel
theorem dX6_meetingCases_88 : decode cX6_meetingCases 88 = .ok (.iinc 7 1, 3) := by decide +kernel
theorem dX6_meetingCases_91 : decode cX6_meetingCases 91 = .ok (.goto (-49), 3) := by decide +kernel
theorem dX6_meetingCases_94 : decode cX6_meetingCases 94 = .ok (.aload_n 0, 1) := by decide +kernel
theorem dX6_meetingCases_95 : decode cX6_meetingCases 95 = .ok (.getfield 26, 3) := by decide +kernel
theorem dX6_meetingCases_98 : decode cX6_meetingCases 98 = .ok (.iload_n 1, 1) := by decide +kernel
theorem dX6_meetingCases_99 : decode cX6_meetingCases 99 = .ok (.invokevirtual 212, 3) := by decide +kernel
theorem dX6_meetingCases_102 : decode cX6_meetingCases 102 = .ok (.ifCond .eq 10, 3) := by decide +kernel
theorem dX6_meetingCases_105 : decode cX6_meetingCases 105 = .ok (.iload 4, 2) := by decide +kernel
theorem dX6_meetingCases_107 : decode cX6_meetingCases 107 = .ok (.iload 6, 2) := by decide +kernel
theorem dX6_meetingCases_109 : decode cX6_meetingCases 109 = .ok (.iadd, 1) := by decide +kernel
theorem dX6_meetingCases_110 : decode cX6_meetingCases 110 = .ok (.istore 4, 2) := by decide +kernel
theorem dX6_meetingCases_112 : decode cX6_meetingCases 112 = .ok (.iinc 5 1, 3) := by decide +kernel
theorem dX6_meetingCases_115 : decode cX6_meetingCases 115 = .ok (.goto (-97), 3) := by decide +kernel
theorem dX6_meetingCases_118 : decode cX6_meetingCases 118 = .ok (.iload 4, 2) := by decide +kernel
theorem dX6_meetingCases_120 : decode cX6_meetingCases 120 = .ok (.ireturn, 1) := by decide +kernel
theorem dX6_isRow_0 : decode cX6_isRow 0 = .ok (.iload_n 0, 1) := by decide +kernel
theorem dX6_isRow_1 : decode cX6_isRow 1 = .ok (.ifCond .lt 13, 3) := by decide +kernel
theorem dX6_isRow_4 : decode cX6_isRow 4 = .ok (.iload_n 0, 1) := by decide +kernel
theorem dX6_isRow_5 : decode cX6_isRow 5 = .ok (.bipush 8, 2) := by decide +kernel
theorem dX6_isRow_7 : decode cX6_isRow 7 = .ok (.if_icmp .ge 7, 3) := by decide +kernel
theorem dX6_isRow_10 : decode cX6_isRow 10 = .ok (.iconst 1, 1) := by decide +kernel
theorem dX6_isRow_11 : decode cX6_isRow 11 = .ok (.goto 4, 3) := by decide +kernel
theorem dX6_isRow_14 : decode cX6_isRow 14 = .ok (.iconst 0, 1) := by decide +kernel
theorem dX6_isRow_15 : decode cX6_isRow 15 = .ok (.ireturn, 1) := by decide +kernel
theorem dX6_isBit_0 : decode cX6_isBit 0 = .ok (.iload_n 0, 1) := by decide +kernel
theorem dX6_isBit_1 : decode cX6_isBit 1 = .ok (.ifCond .eq 8, 3) := by decide +kernel
theorem dX6_isBit_4 : decode cX6_isBit 4 = .ok (.iload_n 0, 1) := by decide +kernel
theorem dX6_isBit_5 : decode cX6_isBit 5 = .ok (.iconst 1, 1) := by decide +kernel
theorem dX6_isBit_6 : decode cX6_isBit 6 = .ok (.if_icmp .ne 7, 3) := by decide +kernel
theorem dX6_isBit_9 : decode cX6_isBit 9 = .ok (.iconst 1, 1) := by decide +kernel
theorem dX6_isBit_10 : decode cX6_isBit 10 = .ok (.goto 4, 3) := by decide +kernel
theorem dX6_isBit_13 : decode cX6_isBit 13 = .ok (.iconst 0, 1) := by decide +kernel
theorem dX6_isBit_14 : decode cX6_isBit 14 = .ok (.ireturn, 1) := by decide +kernel
theorem dX6_findingAt_0 : decode cX6_findingAt 0 = .ok (.aload_n 0, 1) := by decide +kernel
theorem dX6_findingAt_1 : decode cX6_findingAt 1 = .ok (.invokevirtual 92, 3) := by decide +kernel
theorem dX6_findingAt_4 : decode cX6_findingAt 4 = .ok (.ifCond .eq 5, 3) := by decide +kernel
theorem dX6_findingAt_7 : decode cX6_findingAt 7 = .ok (.iconst 1, 1) := by decide +kernel
theorem dX6_findingAt_8 : decode cX6_findingAt 8 = .ok (.ireturn, 1) := by decide +kernel
theorem dX6_findingAt_9 : decode cX6_findingAt 9 = .ok (.aload_n 0, 1) := by decide +kernel
theorem dX6_findingAt_10 : decode cX6_findingAt 10 = .ok (.iload_n 1, 1) := by decide +kernel
theorem dX6_findingAt_11 : decode cX6_findingAt 11 = .ok (.iload_n 2, 1) := by decide +kernel
theorem dX6_findingAt_12 : decode cX6_findingAt 12 = .ok (.invokevirtual 99, 3) := by decide +kernel
theorem dX6_findingAt_15 : decode cX6_findingAt 15 = .ok (.ifCond .eq 7, 3) := by decide +kernel
theorem dX6_findingAt_18 : decode cX6_findingAt 18 = .ok (.iconst 0, 1) := by decide +kernel
theorem dX6_findingAt_19 : decode cX6_findingAt 19 = .ok (.goto 4, 3) := by decide +kernel
theorem dX6_findingAt_22 : decode cX6_findingAt 22 = .ok (.iconst 2, 1) := by decide +kernel
theorem dX6_findingAt_23 : decode cX6_findingAt 23 = .ok (.ireturn, 1) := by decide +kernel
theorem dX6_commonDivisor_0 : decode cX6_commonDivisor 0 = .ok (.iload_n 0, 1) := by decide +kernel
theorem dX6_commonDivisor_1 : decode cX6_commonDivisor 1 = .ok (.istore_n 2, 1) := by decide +kernel
theorem dX6_commonDivisor_2 : decode cX6_commonDivisor 2 = .ok (.iload_n 1, 1) := by decide +kernel
theorem dX6_commonDivisor_3 : decode cX6_commonDivisor 3 = .ok (.istore_n 3, 1) := by decide +kernel
theorem dX6_commonDivisor_4 : decode cX6_commonDivisor 4 = .ok (.iconst 0, 1) := by decide +kernel
theorem dX6_commonDivisor_5 : decode cX6_commonDivisor 5 = .ok (.istore 4, 2) := by decide +kernel
theorem dX6_commonDivisor_7 : decode cX6_commonDivisor 7 = .ok (.iload 4, 2) := by decide +kernel
theorem dX6_commonDivisor_9 : decode cX6_commonDivisor 9 = .ok (.bipush 64, 2) := by decide +kernel
theorem dX6_commonDivisor_11 : decode cX6_commonDivisor 11 = .ok (.if_icmp .ge 23, 3) := by decide +kernel
theorem dX6_commonDivisor_14 : decode cX6_commonDivisor 14 = .ok (.iload_n 3, 1) := by decide +kernel
theorem dX6_commonDivisor_15 : decode cX6_commonDivisor 15 = .ok (.ifCond .eq 19, 3) := by decide +kernel
theorem dX6_commonDivisor_18 : decode cX6_commonDivisor 18 = .ok (.iload_n 2, 1) := by decide +kernel
theorem dX6_commonDivisor_19 : decode cX6_commonDivisor 19 = .ok (.iload_n 3, 1) := by decide +kernel
theorem dX6_commonDivisor_20 : decode cX6_commonDivisor 20 = .ok (.irem, 1) := by decide +kernel
theorem dX6_commonDivisor_21 : decode cX6_commonDivisor 21 = .ok (.istore 5, 2) := by decide +kernel
theorem dX6_commonDivisor_23 : decode cX6_commonDivisor 23 = .ok (.iload_n 3, 1) := by decide +kernel
theorem dX6_commonDivisor_24 : decode cX6_commonDivisor 24 = .ok (.istore_n 2, 1) := by decide +kernel
theorem dX6_commonDivisor_25 : decode cX6_commonDivisor 25 = .ok (.iload 5, 2) := by decide +kernel
theorem dX6_commonDivisor_27 : decode cX6_commonDivisor 27 = .ok (.istore_n 3, 1) := by decide +kernel
theorem dX6_commonDivisor_28 : decode cX6_commonDivisor 28 = .ok (.iinc 4 1, 3) := by decide +kernel
theorem dX6_commonDivisor_31 : decode cX6_commonDivisor 31 = .ok (.goto (-24), 3) := by decide +kernel
theorem dX6_commonDivisor_34 : decode cX6_commonDivisor 34 = .ok (.iload_n 2, 1) := by decide +kernel
theorem dX6_commonDivisor_35 : decode cX6_commonDivisor 35 = .ok (.ireturn, 1) := by decide +kernel
theorem dX6_steadyWays_0 : decode cX6_steadyWays 0 = .ok (.iconst 0, 1) := by decide +kernel
theorem dX6_steadyWays_1 : decode cX6_steadyWays 1 = .ok (.istore_n 2, 1) := by decide +kernel
theorem dX6_steadyWays_2 : decode cX6_steadyWays 2 = .ok (.iconst 0, 1) := by decide +kernel
theorem dX6_steadyWays_3 : decode cX6_steadyWays 3 = .ok (.istore_n 3, 1) := by decide +kernel
theorem dX6_steadyWays_4 : decode cX6_steadyWays 4 = .ok (.iload_n 3, 1) := by decide +kernel
theorem dX6_steadyWays_5 : decode cX6_steadyWays 5 = .ok (.iconst 4, 1) := by decide +kernel
theorem dX6_steadyWays_6 : decode cX6_steadyWays 6 = .ok (.if_icmp .ge 73, 3) := by decide +kernel
theorem dX6_steadyWays_9 : decode cX6_steadyWays 9 = .ok (.aload_n 0, 1) := by decide +kernel
theorem dX6_steadyWays_10 : decode cX6_steadyWays 10 = .ok (.iload_n 1, 1) := by decide +kernel
theorem dX6_steadyWays_11 : decode cX6_steadyWays 11 = .ok (.iload_n 3, 1) := by decide +kernel
theorem dX6_steadyWays_12 : decode cX6_steadyWays 12 = .ok (.iadd, 1) := by decide +kernel
theorem dX6_steadyWays_13 : decode cX6_steadyWays 13 = .ok (.iaload, 1) := by decide +kernel
theorem dX6_steadyWays_14 : decode cX6_steadyWays 14 = .ok (.aload_n 0, 1) := by decide +kernel
theorem dX6_steadyWays_15 : decode cX6_steadyWays 15 = .ok (.iload_n 1, 1) := by decide +kernel
theorem dX6_steadyWays_16 : decode cX6_steadyWays 16 = .ok (.iload_n 3, 1) := by decide +kernel
theorem dX6_steadyWays_17 : decode cX6_steadyWays 17 = .ok (.iconst 2, 1) := by decide +kernel
theorem dX6_steadyWays_18 : decode cX6_steadyWays 18 = .ok (.ixor, 1) := by decide +kernel
theorem dX6_steadyWays_19 : decode cX6_steadyWays 19 = .ok (.iadd, 1) := by decide +kernel
theorem dX6_steadyWays_20 : decode cX6_steadyWays 20 = .ok (.iaload, 1) := by decide +kernel
theorem dX6_steadyWays_21 : decode cX6_steadyWays 21 = .ok (.if_icmp .lt 7, 3) := by decide +kernel
theorem dX6_steadyWays_24 : decode cX6_steadyWays 24 = .ok (.iconst 1, 1) := by decide +kernel
theorem dX6_steadyWays_25 : decode cX6_steadyWays 25 = .ok (.goto 4, 3) := by decide +kernel
theorem dX6_steadyWays_28 : decode cX6_steadyWays 28 = .ok (.iconst 0, 1) := by decide +kernel
theorem dX6_steadyWays_29 : decode cX6_steadyWays 29 = .ok (.istore 4, 2) := by decide +kernel
theorem dX6_steadyWays_31 : decode cX6_steadyWays 31 = .ok (.aload_n 0, 1) := by decide +kernel
theorem dX6_steadyWays_32 : decode cX6_steadyWays 32 = .ok (.iload_n 1, 1) := by decide +kernel
theorem dX6_steadyWays_33 : decode cX6_steadyWays 33 = .ok (.iconst 4, 1) := by decide +kernel
theorem dX6_steadyWays_34 : decode cX6_steadyWays 34 = .ok (.iadd, 1) := by decide +kernel
theorem dX6_steadyWays_35 : decode cX6_steadyWays 35 = .ok (.iload_n 3, 1) := by decide +kernel
theorem dX6_steadyWays_36 : decode cX6_steadyWays 36 = .ok (.iadd, 1) := by decide +kernel
theorem dX6_steadyWays_37 : decode cX6_steadyWays 37 = .ok (.iaload, 1) := by decide +kernel
theorem dX6_steadyWays_38 : decode cX6_steadyWays 38 = .ok (.aload_n 0, 1) := by decide +kernel
theorem dX6_steadyWays_39 : decode cX6_steadyWays 39 = .ok (.iload_n 1, 1) := by decide +kernel
theorem dX6_steadyWays_40 : decode cX6_steadyWays 40 = .ok (.iconst 4, 1) := by decide +kernel
theorem dX6_steadyWays_41 : decode cX6_steadyWays 41 = .ok (.iadd, 1) := by decide +kernel
theorem dX6_steadyWays_42 : decode cX6_steadyWays 42 = .ok (.iload_n 3, 1) := by decide +kernel
theorem dX6_steadyWays_43 : decode cX6_steadyWays 43 = .ok (.iconst 1, 1) := by decide +kernel
theorem dX6_steadyWays_44 : decode cX6_steadyWays 44 = .ok (.ixor, 1) := by decide +kernel
theorem dX6_steadyWays_45 : decode cX6_steadyWays 45 = .ok (.iadd, 1) := by decide +kernel
theorem dX6_steadyWays_46 : decode cX6_steadyWays 46 = .ok (.iaload, 1) := by decide +kernel
theorem dX6_steadyWays_47 : decode cX6_steadyWays 47 = .ok (.if_icmp .lt 7, 3) := by decide +kernel
theorem dX6_steadyWays_50 : decode cX6_steadyWays 50 = .ok (.iconst 1, 1) := by decide +kernel
theorem dX6_steadyWays_51 : decode cX6_steadyWays 51 = .ok (.goto 4, 3) := by decide +kernel
theorem dX6_steadyWays_54 : decode cX6_steadyWays 54 = .ok (.iconst 0, 1) := by decide +kernel
theorem dX6_steadyWays_55 : decode cX6_steadyWays 55 = .ok (.istore 5, 2) := by decide +kernel
theorem dX6_steadyWays_57 : decode cX6_steadyWays 57 = .ok (.iload 4, 2) := by decide +kernel
theorem dX6_steadyWays_59 : decode cX6_steadyWays 59 = .ok (.ifCond .eq 14, 3) := by decide +kernel
theorem dX6_steadyWays_62 : decode cX6_steadyWays 62 = .ok (.iload 5, 2) := by decide +kernel
theorem dX6_steadyWays_64 : decode cX6_steadyWays 64 = .ok (.ifCond .eq 9, 3) := by decide +kernel
theorem dX6_steadyWays_67 : decode cX6_steadyWays 67 = .ok (.iload_n 2, 1) := by decide +kernel
theorem dX6_steadyWays_68 : decode cX6_steadyWays 68 = .ok (.iconst 1, 1) := by decide +kernel
theorem dX6_steadyWays_69 : decode cX6_steadyWays 69 = .ok (.iload_n 3, 1) := by decide +kernel
theorem dX6_steadyWays_70 : decode cX6_steadyWays 70 = .ok (.ishl, 1) := by decide +kernel
theorem dX6_steadyWays_71 : decode cX6_steadyWays 71 = .ok (.ior, 1) := by decide +kernel
theorem dX6_steadyWays_72 : decode cX6_steadyWays 72 = .ok (.istore_n 2, 1) := by decide +kernel
theorem dX6_steadyWays_73 : decode cX6_steadyWays 73 = .ok (.iinc 3 1, 3) := by decide +kernel
theorem dX6_steadyWays_76 : decode cX6_steadyWays 76 = .ok (.goto (-72), 3) := by decide +kernel
theorem dX6_steadyWays_79 : decode cX6_steadyWays 79 = .ok (.iload_n 2, 1) := by decide +kernel
theorem dX6_steadyWays_80 : decode cX6_steadyWays 80 = .ok (.ireturn, 1) := by decide +kernel
theorem dX6_isOneOf_0 : decode cX6_isOneOf 0 = .ok (.iload_n 1, 1) := by decide +kernel
theorem dX6_isOneOf_1 : decode cX6_isOneOf 1 = .ok (.ifCond .eq 8, 3) := by decide +kernel
theorem dX6_isOneOf_4 : decode cX6_isOneOf 4 = .ok (.iload_n 1, 1) := by decide +kernel
theorem dX6_isOneOf_5 : decode cX6_isOneOf 5 = .ok (.iload_n 0, 1) := by decide +kernel
theorem dX6_isOneOf_6 : decode cX6_isOneOf 6 = .ok (.if_icmp .ne 5, 3) := by decide +kernel
theorem dX6_isOneOf_9 : decode cX6_isOneOf 9 = .ok (.iconst 1, 1) := by decide +kernel
theorem dX6_isOneOf_10 : decode cX6_isOneOf 10 = .ok (.ireturn, 1) := by decide +kernel
theorem dX6_isOneOf_11 : decode cX6_isOneOf 11 = .ok (.iload_n 1, 1) := by decide +kernel
theorem dX6_isOneOf_12 : decode cX6_isOneOf 12 = .ok (.iconst 1, 1) := by decide +kernel
theorem dX6_isOneOf_13 : decode cX6_isOneOf 13 = .ok (.if_icmp .ne 19, 3) := by decide +kernel
theorem dX6_isOneOf_16 : decode cX6_isOneOf 16 = .ok (.iload_n 0, 1) := by decide +kernel
theorem dX6_isOneOf_17 : decode cX6_isOneOf 17 = .ok (.iconst 2, 1) := by decide +kernel
theorem dX6_isOneOf_18 : decode cX6_isOneOf 18 = .ok (.if_icmp .eq 8, 3) := by decide +kernel
theorem dX6_isOneOf_21 : decode cX6_isOneOf 21 = .ok (.iload_n 0, 1) := by decide +kernel
theorem dX6_isOneOf_22 : decode cX6_isOneOf 22 = .ok (.iconst 3, 1) := by decide +kernel
theorem dX6_isOneOf_23 : decode cX6_isOneOf 23 = .ok (.if_icmp .ne 7, 3) := by decide +kernel
theorem dX6_isOneOf_26 : decode cX6_isOneOf 26 = .ok (.iconst 1, 1) := by decide +kernel
theorem dX6_isOneOf_27 : decode cX6_isOneOf 27 = .ok (.goto 4, 3) := by decide +kernel
theorem dX6_isOneOf_30 : decode cX6_isOneOf 30 = .ok (.iconst 0, 1) := by decide +kernel
theorem dX6_isOneOf_31 : decode cX6_isOneOf 31 = .ok (.ireturn, 1) := by decide +kernel
theorem dX6_isOneOf_32 : decode cX6_isOneOf 32 = .ok (.iload_n 1, 1) := by decide +kernel
theorem dX6_isOneOf_33 : decode cX6_isOneOf 33 = .ok (.iconst 4, 1) := by decide +kernel
theorem dX6_isOneOf_34 : decode cX6_isOneOf 34 = .ok (.if_icmp .ne 12, 3) := by decide +kernel
theorem dX6_isOneOf_37 : decode cX6_isOneOf 37 = .ok (.iload_n 0, 1) := by decide +kernel
theorem dX6_isOneOf_38 : decode cX6_isOneOf 38 = .ok (.iconst 5, 1) := by decide +kernel
theorem dX6_isOneOf_39 : decode cX6_isOneOf 39 = .ok (.if_icmp .ne 7, 3) := by decide +kernel
theorem dX6_isOneOf_42 : decode cX6_isOneOf 42 = .ok (.iconst 1, 1) := by decide +kernel
theorem dX6_isOneOf_43 : decode cX6_isOneOf 43 = .ok (.goto 4, 3) := by decide +kernel
theorem dX6_isOneOf_46 : decode cX6_isOneOf 46 = .ok (.iconst 0, 1) := by decide +kernel
theorem dX6_isOneOf_47 : decode cX6_isOneOf 47 = .ok (.ireturn, 1) := by decide +kernel
theorem dX7_init_0 : decode cX7_init 0 = .ok (.aload_n 0, 1) := by decide +kernel
theorem dX7_init_1 : decode cX7_init 1 = .ok (.invokespecial 1, 3) := by decide +kernel
theorem dX7_init_4 : decode cX7_init 4 = .ok (.aload_n 0, 1) := by decide +kernel
theorem dX7_init_5 : decode cX7_init 5 = .ok (.bipush 8, 2) := by decide +kernel
theorem dX7_init_7 : decode cX7_init 7 = .ok (.newarray .int, 2) := by decide +kernel
theorem dX7_init_9 : decode cX7_init 9 = .ok (.putfield 7, 3) := by decide +kernel
theorem dX7_init_12 : decode cX7_init 12 = .ok (.aload_n 0, 1) := by decide +kernel
theorem dX7_init_13 : decode cX7_init 13 = .ok (.bipush 8, 2) := by decide +kernel
theorem dX7_init_15 : decode cX7_init 15 = .ok (.newarray .int, 2) := by decide +kernel
theorem dX7_init_17 : decode cX7_init 17 = .ok (.putfield 13, 3) := by decide +kernel
theorem dX7_init_20 : decode cX7_init 20 = .ok (.aload_n 0, 1) := by decide +kernel
theorem dX7_init_21 : decode cX7_init 21 = .ok (.sipush 320, 3) := by decide +kernel
theorem dX7_init_24 : decode cX7_init 24 = .ok (.newarray .int, 2) := by decide +kernel
theorem dX7_init_26 : decode cX7_init 26 = .ok (.putfield 16, 3) := by decide +kernel
theorem dX7_init_29 : decode cX7_init 29 = .ok (.aload_n 0, 1) := by decide +kernel
theorem dX7_init_30 : decode cX7_init 30 = .ok (.bipush 100, 2) := by decide +kernel
theorem dX7_init_32 : decode cX7_init 32 = .ok (.newarray .int, 2) := by decide +kernel
theorem dX7_init_34 : decode cX7_init 34 = .ok (.putfield 19, 3) := by decide +kernel
theorem dX7_init_37 : decode cX7_init 37 = .ok (.aload_n 0, 1) := by decide +kernel
theorem dX7_init_38 : decode cX7_init 38 = .ok (.bipush 53, 2) := by decide +kernel
theorem dX7_init_40 : decode cX7_init 40 = .ok (.newarray .int, 2) := by decide +kernel
theorem dX7_init_42 : decode cX7_init 42 = .ok (.putfield 22, 3) := by decide +kernel
theorem dX7_init_45 : decode cX7_init 45 = .ok (.aload_n 0, 1) := by decide +kernel
theorem dX7_init_46 : decode cX7_init 46 = .ok (.bipush 53, 2) := by decide +kernel
theorem dX7_init_48 : decode cX7_init 48 = .ok (.newarray .int, 2) := by decide +kernel
theorem dX7_init_50 : decode cX7_init 50 = .ok (.putfield 25, 3) := by decide +kernel
theorem dX7_init_53 : decode cX7_init 53 = .ok (.aload_n 0, 1) := by decide +kernel
theorem dX7_init_54 : decode cX7_init 54 = .ok (.bipush 53, 2) := by decide +kernel
theorem dX7_init_56 : decode cX7_init 56 = .ok (.newarray .int, 2) := by decide +kernel
theorem dX7_init_58 : decode cX7_init 58 = .ok (.putfield 28, 3) := by decide +kernel
theorem dX7_init_61 : decode cX7_init 61 = .ok (.aload_n 0, 1) := by decide +kernel
theorem dX7_init_62 : decode cX7_init 62 = .ok (.bipush 106, 2) := by decide +kernel
theorem dX7_init_64 : decode cX7_init 64 = .ok (.newarray .int, 2) := by decide +kernel
theorem dX7_init_66 : decode cX7_init 66 = .ok (.putfield 31, 3) := by decide +kernel
theorem dX7_init_69 : decode cX7_init 69 = .ok (.aload_n 0, 1) := by decide +kernel
theorem dX7_init_70 : decode cX7_init 70 = .ok (.iconst 2, 1) := by decide +kernel
theorem dX7_init_71 : decode cX7_init 71 = .ok (.newarray .boolean, 2) := by decide +kernel
theorem dX7_init_73 : decode cX7_init 73 = .ok (.putfield 34, 3) := by decide +kernel
theorem dX7_init_76 : decode cX7_init 76 = .ok (.aload_n 0, 1) := by decide +kernel
theorem dX7_init_77 : decode cX7_init 77 = .ok (.sipush 1272, 3) := by decide +kernel
theorem dX7_init_80 : decode cX7_init 80 = .ok (.newarray .int, 2) := by decide +kernel
theorem dX7_init_82 : decode cX7_init 82 = .ok (.putfield 38, 3) := by decide +kernel
theorem dX7_init_85 : decode cX7_init 85 = .ok (.aload_n 0, 1) := by decide +kernel
theorem dX7_init_86 : decode cX7_init 86 = .ok (.bipush 16, 2) := by decide +kernel
theorem dX7_init_88 : decode cX7_init 88 = .ok (.newarray .int, 2) := by decide +kernel
theorem dX7_init_90 : decode cX7_init 90 = .ok (.putfield 41, 3) := by decide +kernel
theorem dX7_init_93 : decode cX7_init 93 = .ok (.aload_n 0, 1) := by decide +kernel
theorem dX7_init_94 : decode cX7_init 94 = .ok (.bipush 6, 2) := by decide +kernel
theorem dX7_init_96 : decode cX7_init 96 = .ok (.newarray .int, 2) := by decide +kernel
theorem dX7_init_98 : decode cX7_init 98 = .ok (.putfield 44, 3) := by decide +kernel
theorem dX7_init_101 : decode cX7_init 101 = .ok (.aload_n 0, 1) := by decide +kernel
theorem dX7_init_102 : decode cX7_init 102 = .ok (.bipush 28, 2) := by decide +kernel
theorem dX7_init_104 : decode cX7_init 104 = .ok (.newarray .int, 2) := by decide +kernel
theorem dX7_init_106 : decode cX7_init 106 = .ok (.putfield 47, 3) := by decide +kernel
theorem dX7_init_109 : decode cX7_init 109 = .ok (.iconst 0, 1) := by decide +kernel
theorem dX7_init_110 : decode cX7_init 110 = .ok (.istore_n 1, 1) := by decide +kernel
theorem dX7_init_111 : decode cX7_init 111 = .ok (.iload_n 1, 1) := by decide +kernel
theorem dX7_init_112 : decode cX7_init 112 = .ok (.bipush 8, 2) := by decide +kernel
theorem dX7_init_114 : decode cX7_init 114 = .ok (.if_icmp .ge 16, 3) := by decide +kernel
theorem dX7_init_117 : decode cX7_init 117 = .ok (.aload_n 0, 1) := by decide +kernel
theorem dX7_init_118 : decode cX7_init 118 = .ok (.getfield 7, 3) := by decide +kernel
theorem dX7_init_121 : decode cX7_init 121 = .ok (.iload_n 1, 1) := by decide +kernel
theorem dX7_init_122 : decode cX7_init 122 = .ok (.iconst (-1), 1) := by decide +kernel
theorem dX7_init_123 : decode cX7_init 123 = .ok (.iastore, 1) := by decide +kernel
theorem dX7_init_124 : decode cX7_init 124 = .ok (.iinc 1 1, 3) := by decide +kernel
theorem dX7_init_127 : decode cX7_init 127 = .ok (.goto (-16), 3) := by decide +kernel
theorem dX7_init_130 : decode cX7_init 130 = .ok (.return_, 1) := by decide +kernel
theorem dX7_in_0 : decode cX7_in 0 = .ok (.iload_n 0, 1) := by decide +kernel
theorem dX7_in_1 : decode cX7_in 1 = .ok (.iload_n 1, 1) := by decide +kernel
theorem dX7_in_2 : decode cX7_in 2 = .ok (.if_icmp .lt 12, 3) := by decide +kernel
theorem dX7_in_5 : decode cX7_in 5 = .ok (.iload_n 0, 1) := by decide +kernel
theorem dX7_in_6 : decode cX7_in 6 = .ok (.iload_n 2, 1) := by decide +kernel
theorem dX7_in_7 : decode cX7_in 7 = .ok (.if_icmp .gt 7, 3) := by decide +kernel
theorem dX7_in_10 : decode cX7_in 10 = .ok (.iconst 1, 1) := by decide +kernel
theorem dX7_in_11 : decode cX7_in 11 = .ok (.goto 4, 3) := by decide +kernel
theorem dX7_in_14 : decode cX7_in 14 = .ok (.iconst 0, 1) := by decide +kernel
theorem dX7_in_15 : decode cX7_in 15 = .ok (.ireturn, 1) := by decide +kernel
theorem dX7_has_0 : decode cX7_has 0 = .ok (.iload_n 0, 1) := by decide +kernel
theorem dX7_has_1 : decode cX7_has 1 = .ok (.iload_n 1, 1) := by decide +kernel
theorem dX7_has_2 : decode cX7_has 2 = .ok (.ishr, 1) := by decide +kernel
theorem dX7_has_3 : decode cX7_has 3 = .ok (.iconst 1, 1) := by decide +kernel
theorem dX7_has_4 : decode cX7_has 4 = .ok (.iand, 1) := by decide +kernel
theorem dX7_has_5 : decode cX7_has 5 = .ok (.iconst 1, 1) := by decide +kernel
theorem dX7_has_6 : decode cX7_has 6 = .ok (.if_icmp .ne 7, 3) := by decide +kernel
theorem dX7_has_9 : decode cX7_has 9 = .ok (.iconst 1, 1) := by decide +kernel
theorem dX7_has_10 : decode cX7_has 10 = .ok (.goto 4, 3) := by decide +kernel
theorem dX7_has_13 : decode cX7_has 13 = .ok (.iconst 0, 1) := by decide +kernel
theorem dX7_has_14 : decode cX7_has 14 = .ok (.ireturn, 1) := by decide +kernel
theorem dX7_finds_0 : decode cX7_finds 0 = .ok (.aload_n 0, 1) := by decide +kernel
theorem dX7_finds_1 : decode cX7_finds 1 = .ok (.iload_n 1, 1) := by decide +kernel
theorem dX7_finds_2 : decode cX7_finds 2 = .ok (.putfield 50, 3) := by decide +kernel
theorem dX7_finds_5 : decode cX7_finds 5 = .ok (.ldc 54, 2) := by decide +kernel
theorem dX7_finds_7 : decode cX7_finds 7 = .ok (.iload_n 1, 1) := by decide +kernel
theorem dX7_finds_8 : decode cX7_finds 8 = .ok (.isub, 1) := by decide +kernel
theorem dX7_finds_9 : decode cX7_finds 9 = .ok (.ireturn, 1) := by decide +kernel
theorem dX7_done_0 : decode cX7_done 0 = .ok (.aload_n 0, 1) := by decide +kernel
theorem dX7_done_1 : decode cX7_done 1 = .ok (.iconst 0, 1) := by decide +kernel
theorem dX7_done_2 : decode cX7_done 2 = .ok (.putfield 50, 3) := by decide +kernel
theorem dX7_done_5 : decode cX7_done 5 = .ok (.iload_n 1, 1) := by decide +kernel
theorem dX7_done_6 : decode cX7_done 6 = .ok (.ireturn, 1) := by decide +kernel
theorem dX7_isRow_0 : decode cX7_isRow 0 = .ok (.iload_n 0, 1) := by decide +kernel
theorem dX7_isRow_1 : decode cX7_isRow 1 = .ok (.iconst 0, 1) := by decide +kernel
theorem dX7_isRow_2 : decode cX7_isRow 2 = .ok (.bipush 7, 2) := by decide +kernel
theorem dX7_isRow_4 : decode cX7_isRow 4 = .ok (.invokestatic 55, 3) := by decide +kernel
theorem dX7_isRow_7 : decode cX7_isRow 7 = .ok (.ireturn, 1) := by decide +kernel
theorem dX7_row_0 : decode cX7_row 0 = .ok (.iload_n 1, 1) := by decide +kernel
theorem dX7_row_1 : decode cX7_row 1 = .ok (.invokestatic 59, 3) := by decide +kernel
theorem dX7_row_4 : decode cX7_row 4 = .ok (.ifCond .eq 18, 3) := by decide +kernel
theorem dX7_row_7 : decode cX7_row 7 = .ok (.iload_n 2, 1) := by decide +kernel
theorem dX7_row_8 : decode cX7_row 8 = .ok (.iconst 0, 1) := by decide +kernel
theorem dX7_row_9 : decode cX7_row 9 = .ok (.iconst 2, 1) := by decide +kernel
theorem dX7_row_10 : decode cX7_row 10 = .ok (.invokestatic 55, 3) := by decide +kernel
theorem dX7_row_13 : decode cX7_row 13 = .ok (.ifCond .eq 9, 3) := by decide +kernel
theorem dX7_row_16 : decode cX7_row 16 = .ok (.iload_n 3, 1) := by decide +kernel
theorem dX7_row_17 : decode cX7_row 17 = .ok (.bipush 40, 2) := by decide +kernel
theorem dX7_row_19 : decode cX7_row 19 = .ok (.if_icmp .le 6, 3) := by decide +kernel
theorem dX7_row_22 : decode cX7_row 22 = .ok (.ldc 63, 2) := by decide +kernel
theorem dX7_row_24 : decode cX7_row 24 = .ok (.ireturn, 1) := by decide +kernel
theorem dX7_row_25 : decode cX7_row 25 = .ok (.iload_n 3, 1) := by decide +kernel
theorem dX7_row_26 : decode cX7_row 26 = .ok (.ifCond .ge 9, 3) := by decide +kernel
theorem dX7_row_29 : decode cX7_row 29 = .ok (.aload_n 0, 1) := by decide +kernel
theorem dX7_row_30 : decode cX7_row 30 = .ok (.iconst 4, 1) := by decide +kernel
theorem dX7_row_31 : decode cX7_row 31 = .ok (.invokevirtual 64, 3) := by decide +kernel
theorem dX7_row_34 : decode cX7_row 34 = .ok (.ireturn, 1) := by decide +kernel
theorem dX7_row_35 : decode cX7_row 35 = .ok (.aload_n 0, 1) := by decide +kernel
theorem dX7_row_36 : decode cX7_row 36 = .ok (.getfield 7, 3) := by decide +kernel
theorem dX7_row_39 : decode cX7_row 39 = .ok (.iload_n 1, 1) := by decide +kernel
theorem dX7_row_40 : decode cX7_row 40 = .ok (.iload_n 2, 1) := by decide +kernel
theorem dX7_row_41 : decode cX7_row 41 = .ok (.iastore, 1) := by decide +kernel
theorem dX7_row_42 : decode cX7_row 42 = .ok (.aload_n 0, 1) := by decide +kernel
theorem dX7_row_43 : decode cX7_row 43 = .ok (.getfield 13, 3) := by decide +kernel
theorem dX7_row_46 : decode cX7_row 46 = .ok (.iload_n 1, 1) := by decide +kernel
theorem dX7_row_47 : decode cX7_row 47 = .ok (.iload_n 3, 1) := by decide +kernel
theorem dX7_row_48 : decode cX7_row 48 = .ok (.iastore, 1) := by decide +kernel
theorem dX7_row_49 : decode cX7_row 49 = .ok (.iconst 0, 1) := by decide +kernel
theorem dX7_row_50 : decode cX7_row 50 = .ok (.istore 4, 2) := by decide +kernel
theorem dX7_row_52 : decode cX7_row 52 = .ok (.iload 4, 2) := by decide +kernel
theorem dX7_row_54 : decode cX7_row 54 = .ok (.bipush 40, 2) := by decide +kernel
theorem dX7_row_56 : decode cX7_row 56 = .ok (.if_icmp .ge 22, 3) := by decide +kernel
theorem dX7_row_59 : decode cX7_row 59 = .ok (.aload_n 0, 1) := by decide +kernel
theorem dX7_row_60 : decode cX7_row 60 = .ok (.getfield 16, 3) := by decide +kernel
theorem dX7_row_63 : decode cX7_row 63 = .ok (.bipush 40, 2) := by decide +kernel
theorem dX7_row_65 : decode cX7_row 65 = .ok (.iload_n 1, 1) := by decide +kernel
theorem dX7_row_66 : decode cX7_row 66 = .ok (.imul, 1) := by decide +kernel
theorem dX7_row_67 : decode cX7_row 67 = .ok (.iload 4, 2) := by decide +kernel
theorem dX7_row_69 : decode cX7_row 69 = .ok (.iadd, 1) := by decide +kernel
theorem dX7_row_70 : decode cX7_row 70 = .ok (.iconst 0, 1) := by decide +kernel
theorem dX7_row_71 : decode cX7_row 71 = .ok (.iastore, 1) := by decide +kernel
theorem dX7_row_72 : decode cX7_row 72 = .ok (.iinc 4 1, 3) := by decide +kernel
theorem dX7_row_75 : decode cX7_row 75 = .ok (.goto (-23), 3) := by decide +kernel
theorem dX7_row_78 : decode cX7_row 78 = .ok (.aload_n 0, 1) := by decide +kernel
theorem dX7_row_79 : decode cX7_row 79 = .ok (.iload_n 3, 1) := by decide +kernel
theorem dX7_row_80 : decode cX7_row 80 = .ok (.invokevirtual 68, 3) := by decide +kernel
theorem dX7_row_83 : decode cX7_row 83 = .ok (.ireturn, 1) := by decide +kernel
theorem dX7_set_0 : decode cX7_set 0 = .ok (.iload_n 1, 1) := by decide +kernel
theorem dX7_set_1 : decode cX7_set 1 = .ok (.invokestatic 59, 3) := by decide +kernel
theorem dX7_set_4 : decode cX7_set 4 = .ok (.ifCond .ne 6, 3) := by decide +kernel
theorem dX7_set_7 : decode cX7_set 7 = .ok (.ldc 63, 2) := by decide +kernel
theorem dX7_set_9 : decode cX7_set 9 = .ok (.ireturn, 1) := by decide +kernel
theorem dX7_set_10 : decode cX7_set 10 = .ok (.aload_n 0, 1) := by decide +kernel
theorem dX7_set_11 : decode cX7_set 11 = .ok (.getfield 7, 3) := by decide +kernel
theorem dX7_set_14 : decode cX7_set 14 = .ok (.iload_n 1, 1) := by decide +kernel
theorem dX7_set_15 : decode cX7_set 15 = .ok (.iaload, 1) := by decide +kernel
theorem dX7_set_16 : decode cX7_set 16 = .ok (.ifCond .ge 9, 3) := by decide +kernel
theorem dX7_set_19 : decode cX7_set 19 = .ok (.aload_n 0, 1) := by decide +kernel
theorem dX7_set_20 : decode cX7_set 20 = .ok (.iconst 1, 1) := by decide +kernel
theorem dX7_set_21 : decode cX7_set 21 = .ok (.invokevirtual 64, 3) := by decide +kernel
theorem dX7_set_24 : decode cX7_set 24 = .ok (.ireturn, 1) := by decide +kernel
theorem dX7_set_25 : decode cX7_set 25 = .ok (.iload_n 2, 1) := by decide +kernel
theorem dX7_set_26 : decode cX7_set 26 = .ok (.iconst 0, 1) := by decide +kernel
theorem dX7_set_27 : decode cX7_set 27 = .ok (.aload_n 0, 1) := by decide +kernel
theorem dX7_set_28 : decode cX7_set 28 = .ok (.getfield 13, 3) := by decide +kernel
theorem dX7_set_31 : decode cX7_set 31 = .ok (.iload_n 1, 1) := by decide +kernel
theorem dX7_set_32 : decode cX7_set 32 = .ok (.iaload, 1) := by decide +kernel
theorem dX7_set_33 : decode cX7_set 33 = .ok (.iconst 1, 1) := by decide +kernel
theorem dX7_set_34 : decode cX7_set 34 = .ok (.isub, 1) := by decide +kernel
theorem dX7_set_35 : decode cX7_set 35 = .ok (.invokestatic 55, 3) := by decide +kernel
theorem dX7_set_38 : decode cX7_set 38 = .ok (.ifCond .ne 9, 3) := by decide +kernel
theorem dX7_set_41 : decode cX7_set 41 = .ok (.aload_n 0, 1) := by decide +kernel
theorem dX7_set_42 : decode cX7_set 42 = .ok (.iconst 2, 1) := by decide +kernel
theorem dX7_set_43 : decode cX7_set 43 = .ok (.invokevirtual 64, 3) := by decide +kernel
theorem dX7_set_46 : decode cX7_set 46 = .ok (.ireturn, 1) := by decide +kernel
theorem dX7_set_47 : decode cX7_set 47 = .ok (.aload_n 0, 1) := by decide +kernel
theorem dX7_set_48 : decode cX7_set 48 = .ok (.getfield 16, 3) := by decide +kernel
theorem dX7_set_51 : decode cX7_set 51 = .ok (.bipush 40, 2) := by decide +kernel
theorem dX7_set_53 : decode cX7_set 53 = .ok (.iload_n 1, 1) := by decide +kernel
theorem dX7_set_54 : decode cX7_set 54 = .ok (.imul, 1) := by decide +kernel
theorem dX7_set_55 : decode cX7_set 55 = .ok (.iload_n 2, 1) := by decide +kernel
theorem dX7_set_56 : decode cX7_set 56 = .ok (.iadd, 1) := by decide +kernel
theorem dX7_set_57 : decode cX7_set 57 = .ok (.aload_n 0, 1) := by decide +kernel
theorem dX7_set_58 : decode cX7_set 58 = .ok (.getfield 7, 3) := by decide +kernel
theorem dX7_set_61 : decode cX7_set 61 = .ok (.iload_n 1, 1) := by decide +kernel
theorem dX7_set_62 : decode cX7_set 62 = .ok (.iaload, 1) := by decide +kernel
theorem dX7_set_63 : decode cX7_set 63 = .ok (.ifCond .ne 8, 3) := by decide +kernel
theorem dX7_set_66 : decode cX7_set 66 = .ok (.iload_n 3, 1) := by decide +kernel
theorem dX7_set_67 : decode cX7_set 67 = .ok (.i2b, 1) := by decide +kernel
theorem dX7_set_68 : decode cX7_set 68 = .ok (.goto 19, 3) := by decide +kernel
theorem dX7_set_71 : decode cX7_set 71 = .ok (.aload_n 0, 1) := by decide +kernel
theorem dX7_set_72 : decode cX7_set 72 = .ok (.getfield 7, 3) := by decide +kernel
theorem dX7_set_75 : decode cX7_set 75 = .ok (.iload_n 1, 1) := by decide +kernel
theorem dX7_set_76 : decode cX7_set 76 = .ok (.iaload, 1) := by decide +kernel
theorem dX7_set_77 : decode cX7_set 77 = .ok (.iconst 1, 1) := by decide +kernel
theorem dX7_set_78 : decode cX7_set 78 = .ok (.if_icmp .ne 8, 3) := by decide +kernel
theorem dX7_set_81 : decode cX7_set 81 = .ok (.iload_n 3, 1) := by decide +kernel
theorem dX7_set_82 : decode cX7_set 82 = .ok (.i2s, 1) := by decide +kernel
theorem dX7_set_83 : decode cX7_set 83 = .ok (.goto 4, 3) := by decide +kernel
theorem dX7_set_86 : decode cX7_set 86 = .ok (.iload_n 3, 1) := by decide +kernel
theorem dX7_set_87 : decode cX7_set 87 = .ok (.iastore, 1) := by decide +kernel
theorem dX7_set_88 : decode cX7_set 88 = .ok (.aload_n 0, 1) := by decide +kernel
theorem dX7_set_89 : decode cX7_set 89 = .ok (.aload_n 0, 1) := by decide +kernel
theorem dX7_set_90 : decode cX7_set 90 = .ok (.getfield 16, 3) := by decide +kernel
theorem dX7_set_93 : decode cX7_set 93 = .ok (.bipush 40, 2) := by decide +kernel
theorem dX7_set_95 : decode cX7_set 95 = .ok (.iload_n 1, 1) := by decide +kernel
theorem dX7_set_96 : decode cX7_set 96 = .ok (.imul, 1) := by decide +kernel
theorem dX7_set_97 : decode cX7_set 97 = .ok (.iload_n 2, 1) := by decide +kernel
theorem dX7_set_98 : decode cX7_set 98 = .ok (.iadd, 1) := by decide +kernel
theorem dX7_set_99 : decode cX7_set 99 = .ok (.iaload, 1) := by decide +kernel
theorem dX7_set_100 : decode cX7_set 100 = .ok (.invokevirtual 68, 3) := by decide +kernel
theorem dX7_set_103 : decode cX7_set 103 = .ok (.ireturn, 1) := by decide +kernel
theorem dX7_isPart_0 : decode cX7_isPart 0 = .ok (.iload_n 0, 1) := by decide +kernel
theorem dX7_isPart_1 : decode cX7_isPart 1 = .ok (.ifCond .lt 23, 3) := by decide +kernel
theorem dX7_isPart_4 : decode cX7_isPart 4 = .ok (.iload_n 1, 1) := by decide +kernel
theorem dX7_isPart_5 : decode cX7_isPart 5 = .ok (.ifCond .lt 19, 3) := by decide +kernel
theorem dX7_isPart_8 : decode cX7_isPart 8 = .ok (.iload_n 1, 1) := by decide +kernel
theorem dX7_isPart_9 : decode cX7_isPart 9 = .ok (.iload_n 2, 1) := by decide +kernel
theorem dX7_isPart_10 : decode cX7_isPart 10 = .ok (.if_icmp .gt 14, 3) := by decide +kernel
theorem dX7_isPart_13 : decode cX7_isPart 13 = .ok (.iload_n 0, 1) := by decide +kernel
theorem dX7_isPart_14 : decode cX7_isPart 14 = .ok (.iload_n 2, 1) := by decide +kernel
theorem dX7_isPart_15 : decode cX7_isPart 15 = .ok (.iload_n 1, 1) := by decide +kernel
theorem dX7_isPart_16 : decode cX7_isPart 16 = .ok (.isub, 1) := by decide +kernel
theorem dX7_isPart_17 : decode cX7_isPart 17 = .ok (.if_icmp .gt 7, 3) := by decide +kernel
theorem dX7_isPart_20 : decode cX7_isPart 20 = .ok (.iconst 1, 1) := by decide +kernel
theorem dX7_isPart_21 : decode cX7_isPart 21 = .ok (.goto 4, 3) := by decide +kernel
theorem dX7_isPart_24 : decode cX7_isPart 24 = .ok (.iconst 0, 1) := by decide +kernel
theorem dX7_isPart_25 : decode cX7_isPart 25 = .ok (.ireturn, 1) := by decide +kernel
theorem dX7_copy_0 : decode cX7_copy 0 = .ok (.iload_n 1, 1) := by decide +kernel
theorem dX7_copy_1 : decode cX7_copy 1 = .ok (.invokestatic 59, 3) := by decide +kernel
theorem dX7_copy_4 : decode cX7_copy 4 = .ok (.ifCond .eq 10, 3) := by decide +kernel
theorem dX7_copy_7 : decode cX7_copy 7 = .ok (.iload_n 3, 1) := by decide +kernel
theorem dX7_copy_8 : decode cX7_copy 8 = .ok (.invokestatic 59, 3) := by decide +kernel
theorem dX7_copy_11 : decode cX7_copy 11 = .ok (.ifCond .ne 6, 3) := by decide +kernel
theorem dX7_copy_14 : decode cX7_copy 14 = .ok (.ldc 63, 2) := by decide +kernel
theorem dX7_copy_16 : decode cX7_copy 16 = .ok (.ireturn, 1) := by decide +kernel
theorem dX7_copy_17 : decode cX7_copy 17 = .ok (.aload_n 0, 1) := by decide +kernel
theorem dX7_copy_18 : decode cX7_copy 18 = .ok (.getfield 7, 3) := by decide +kernel
theorem dX7_copy_21 : decode cX7_copy 21 = .ok (.iload_n 1, 1) := by decide +kernel
theorem dX7_copy_22 : decode cX7_copy 22 = .ok (.iaload, 1) := by decide +kernel
theorem dX7_copy_23 : decode cX7_copy 23 = .ok (.ifCond .lt 12, 3) := by decide +kernel
theorem dX7_copy_26 : decode cX7_copy 26 = .ok (.aload_n 0, 1) := by decide +kernel
theorem dX7_copy_27 : decode cX7_copy 27 = .ok (.getfield 7, 3) := by decide +kernel
theorem dX7_copy_30 : decode cX7_copy 30 = .ok (.iload_n 3, 1) := by decide +kernel
theorem dX7_copy_31 : decode cX7_copy 31 = .ok (.iaload, 1) := by decide +kernel
theorem dX7_copy_32 : decode cX7_copy 32 = .ok (.ifCond .ge 9, 3) := by decide +kernel
theorem dX7_copy_35 : decode cX7_copy 35 = .ok (.aload_n 0, 1) := by decide +kernel
theorem dX7_copy_36 : decode cX7_copy 36 = .ok (.iconst 1, 1) := by decide +kernel
theorem dX7_copy_37 : decode cX7_copy 37 = .ok (.invokevirtual 64, 3) := by decide +kernel
theorem dX7_copy_40 : decode cX7_copy 40 = .ok (.ireturn, 1) := by decide +kernel
theorem dX7_copy_41 : decode cX7_copy 41 = .ok (.aload_n 0, 1) := by decide +kernel
theorem dX7_copy_42 : decode cX7_copy 42 = .ok (.getfield 7, 3) := by decide +kernel
theorem dX7_copy_45 : decode cX7_copy 45 = .ok (.iload_n 1, 1) := by decide +kernel
theorem dX7_copy_46 : decode cX7_copy 46 = .ok (.iaload, 1) := by decide +kernel
theorem dX7_copy_47 : decode cX7_copy 47 = .ok (.aload_n 0, 1) := by decide +kernel
theorem dX7_copy_48 : decode cX7_copy 48 = .ok (.getfield 7, 3) := by decide +kernel
theorem dX7_copy_51 : decode cX7_copy 51 = .ok (.iload_n 3, 1) := by decide +kernel
theorem dX7_copy_52 : decode cX7_copy 52 = .ok (.iaload, 1) := by decide +kernel
theorem dX7_copy_53 : decode cX7_copy 53 = .ok (.if_icmp .eq 9, 3) := by decide +kernel
theorem dX7_copy_56 : decode cX7_copy 56 = .ok (.aload_n 0, 1) := by decide +kernel
theorem dX7_copy_57 : decode cX7_copy 57 = .ok (.iconst 5, 1) := by decide +kernel
theorem dX7_copy_58 : decode cX7_copy 58 = .ok (.invokevirtual 64, 3) := by decide +kernel
theorem dX7_copy_61 : decode cX7_copy 61 = .ok (.ireturn, 1) := by decide +kernel
theorem dX7_copy_62 : decode cX7_copy 62 = .ok (.iload_n 2, 1) := by decide +kernel
theorem dX7_copy_63 : decode cX7_copy 63 = .ok (.iload 5, 2) := by decide +kernel
theorem dX7_copy_65 : decode cX7_copy 65 = .ok (.aload_n 0, 1) := by decide +kernel
theorem dX7_copy_66 : decode cX7_copy 66 = .ok (.getfield 13, 3) := by decide +kernel
theorem dX7_copy_69 : decode cX7_copy 69 = .ok (.iload_n 1, 1) := by decide +kernel
theorem dX7_copy_70 : decode cX7_copy 70 = .ok (.iaload, 1) := by decide +kernel
theorem dX7_copy_71 : decode cX7_copy 71 = .ok (.invokestatic 71, 3) := by decide +kernel
theorem dX7_copy_74 : decode cX7_copy 74 = .ok (.ifCond .eq 19, 3) := by decide +kernel
theorem dX7_copy_77 : decode cX7_copy 77 = .ok (.iload 4, 2) := by decide +kernel
theorem dX7_copy_79 : decode cX7_copy 79 = .ok (.iload 5, 2) := by decide +kernel
theorem dX7_copy_81 : decode cX7_copy 81 = .ok (.aload_n 0, 1) := by decide +kernel
theorem dX7_copy_82 : decode cX7_copy 82 = .ok (.getfield 13, 3) := by decide +kernel
theorem dX7_copy_85 : decode cX7_copy 85 = .ok (.iload_n 3, 1) := by decide +kernel
theorem dX7_copy_86 : decode cX7_copy 86 = .ok (.iaload, 1) := by decide +kernel
theorem dX7_copy_87 : decode cX7_copy 87 = .ok (.invokestatic 71, 3) := by decide +kernel
theorem dX7_copy_90 : decode cX7_copy 90 = .ok (.ifCond .ne 9, 3) := by decide +kernel
theorem dX7_copy_93 : decode cX7_copy 93 = .ok (.aload_n 0, 1) := by decide +kernel
theorem dX7_copy_94 : decode cX7_copy 94 = .ok (.iconst 2, 1) := by decide +kernel
theorem dX7_copy_95 : decode cX7_copy 95 = .ok (.invokevirtual 64, 3) := by decide +kernel
theorem dX7_copy_98 : decode cX7_copy 98 = .ok (.ireturn, 1) := by decide +kernel
theorem dX7_copy_99 : decode cX7_copy 99 = .ok (.iload_n 1, 1) := by decide +kernel
theorem dX7_copy_100 : decode cX7_copy 100 = .ok (.iload_n 3, 1) := by decide +kernel
theorem dX7_copy_101 : decode cX7_copy 101 = .ok (.if_icmp .ne 13, 3) := by decide +kernel
theorem dX7_copy_104 : decode cX7_copy 104 = .ok (.iload 4, 2) := by decide +kernel
theorem dX7_copy_106 : decode cX7_copy 106 = .ok (.iload_n 2, 1) := by decide +kernel
theorem dX7_copy_107 : decode cX7_copy 107 = .ok (.if_icmp .le 7, 3) := by decide +kernel
theorem dX7_copy_110 : decode cX7_copy 110 = .ok (.iconst 1, 1) := by decide +kernel
theorem dX7_copy_111 : decode cX7_copy 111 = .ok (.goto 4, 3) := by decide +kernel
theorem dX7_copy_114 : decode cX7_copy 114 = .ok (.iconst 0, 1) := by decide +kernel
theorem dX7_copy_115 : decode cX7_copy 115 = .ok (.istore 6, 2) := by decide +kernel
theorem dX7_copy_117 : decode cX7_copy 117 = .ok (.iconst 0, 1) := by decide +kernel
theorem dX7_copy_118 : decode cX7_copy 118 = .ok (.istore 7, 2) := by decide +kernel
theorem dX7_copy_120 : decode cX7_copy 120 = .ok (.iload 7, 2) := by decide +kernel
theorem dX7_copy_122 : decode cX7_copy 122 = .ok (.iload 5, 2) := by decide +kernel
theorem dX7_copy_124 : decode cX7_copy 124 = .ok (.if_icmp .ge 57, 3) := by decide +kernel
theorem dX7_copy_127 : decode cX7_copy 127 = .ok (.iload 6, 2) := by decide +kernel
theorem dX7_copy_129 : decode cX7_copy 129 = .ok (.ifCond .eq 13, 3) := by decide +kernel
theorem dX7_copy_132 : decode cX7_copy 132 = .ok (.iload 5, 2) := by decide +kernel
theorem dX7_copy_134 : decode cX7_copy 134 = .ok (.iconst 1, 1) := by decide +kernel
theorem dX7_copy_135 : decode cX7_copy 135 = .ok (.isub, 1) := by decide +kernel
theorem dX7_copy_136 : decode cX7_copy 136 = .ok (.iload 7, 2) := by decide +kernel
theorem dX7_copy_138 : decode cX7_copy 138 = .ok (.isub, 1) := by decide +kernel
theorem dX7_copy_139 : decode cX7_copy 139 = .ok (.goto 5, 3) := by decide +kernel
theorem dX7_copy_142 : decode cX7_copy 142 = .ok (.iload 7, 2) := by decide +kernel
theorem dX7_copy_144 : decode cX7_copy 144 = .ok (.istore 8, 2) := by decide +kernel
theorem dX7_copy_146 : decode cX7_copy 146 = .ok (.aload_n 0, 1) := by decide +kernel
theorem dX7_copy_147 : decode cX7_copy 147 = .ok (.getfield 16, 3) := by decide +kernel
theorem dX7_copy_150 : decode cX7_copy 150 = .ok (.bipush 40, 2) := by decide +kernel
theorem dX7_copy_152 : decode cX7_copy 152 = .ok (.iload_n 3, 1) := by decide +kernel
theorem dX7_copy_153 : decode cX7_copy 153 = .ok (.imul, 1) := by decide +kernel
theorem dX7_copy_154 : decode cX7_copy 154 = .ok (.iload 4, 2) := by decide +kernel
theorem dX7_copy_156 : decode cX7_copy 156 = .ok (.iadd, 1) := by decide +kernel
theorem dX7_copy_157 : decode cX7_copy 157 = .ok (.iload 8, 2) := by decide +kernel
theorem dX7_copy_159 : decode cX7_copy 159 = .ok (.iadd, 1) := by decide +kernel
theorem dX7_copy_160 : decode cX7_copy 160 = .ok (.aload_n 0, 1) := by decide +kernel
theorem dX7_copy_161 : decode cX7_copy 161 = .ok (.getfield 16, 3) := by decide +kernel
theorem dX7_copy_164 : decode cX7_copy 164 = .ok (.bipush 40, 2) := by decide +kernel
theorem dX7_copy_166 : decode cX7_copy 166 = .ok (.iload_n 1, 1) := by decide +kernel
theorem dX7_copy_167 : decode cX7_copy 167 = .ok (.imul, 1) := by decide +kernel
theorem dX7_copy_168 : decode cX7_copy 168 = .ok (.iload_n 2, 1) := by decide +kernel
theorem dX7_copy_169 : decode cX7_copy 169 = .ok (.iadd, 1) := by decide +kernel
theorem dX7_copy_170 : decode cX7_copy 170 = .ok (.iload 8, 2) := by decide +kernel
theorem dX7_copy_172 : decode cX7_copy 172 = .ok (.iadd, 1) := by decide +kernel
theorem dX7_copy_173 : decode cX7_copy 173 = .ok (.iaload, 1) := by decide +kernel
theorem dX7_copy_174 : decode cX7_copy 174 = .ok (.iastore, 1) := by decide +kernel
theorem dX7_copy_175 : decode cX7_copy 175 = .ok (.iinc 7 1, 3) := by decide +kernel
theorem dX7_copy_178 : decode cX7_copy 178 = .ok (.goto (-58), 3) := by decide +kernel
theorem dX7_copy_181 : decode cX7_copy 181 = .ok (.aload_n 0, 1) := by decide +kernel
theorem dX7_copy_182 : decode cX7_copy 182 = .ok (.iload 5, 2) := by decide +kernel
theorem dX7_copy_184 : decode cX7_copy 184 = .ok (.invokevirtual 68, 3) := by decide +kernel
theorem dX7_copy_187 : decode cX7_copy 187 = .ok (.ireturn, 1) := by decide +kernel
theorem dX7_drop_0 : decode cX7_drop 0 = .ok (.iload_n 1, 1) := by decide +kernel
theorem dX7_drop_1 : decode cX7_drop 1 = .ok (.invokestatic 59, 3) := by decide +kernel
theorem dX7_drop_4 : decode cX7_drop 4 = .ok (.ifCond .ne 6, 3) := by decide +kernel
theorem dX7_drop_7 : decode cX7_drop 7 = .ok (.ldc 63, 2) := by decide +kernel
theorem dX7_drop_9 : decode cX7_drop 9 = .ok (.ireturn, 1) := by decide +kernel
theorem dX7_drop_10 : decode cX7_drop 10 = .ok (.aload_n 0, 1) := by decide +kernel
theorem dX7_drop_11 : decode cX7_drop 11 = .ok (.getfield 7, 3) := by decide +kernel
theorem dX7_drop_14 : decode cX7_drop 14 = .ok (.iload_n 1, 1) := by decide +kernel
theorem dX7_drop_15 : decode cX7_drop 15 = .ok (.iaload, 1) := by decide +kernel
theorem dX7_drop_16 : decode cX7_drop 16 = .ok (.ifCond .ge 9, 3) := by decide +kernel
theorem dX7_drop_19 : decode cX7_drop 19 = .ok (.aload_n 0, 1) := by decide +kernel
theorem dX7_drop_20 : decode cX7_drop 20 = .ok (.iconst 1, 1) := by decide +kernel
theorem dX7_drop_21 : decode cX7_drop 21 = .ok (.invokevirtual 64, 3) := by decide +kernel
theorem dX7_drop_24 : decode cX7_drop 24 = .ok (.ireturn, 1) := by decide +kernel
theorem dX7_drop_25 : decode cX7_drop 25 = .ok (.aload_n 0, 1) := by decide +kernel
theorem dX7_drop_26 : decode cX7_drop 26 = .ok (.getfield 7, 3) := by decide +kernel
theorem dX7_drop_29 : decode cX7_drop 29 = .ok (.iload_n 1, 1) := by decide +kernel
theorem dX7_drop_30 : decode cX7_drop 30 = .ok (.iconst (-1), 1) := by decide +kernel
theorem dX7_drop_31 : decode cX7_drop 31 = .ok (.iastore, 1) := by decide +kernel
theorem dX7_drop_32 : decode cX7_drop 32 = .ok (.aload_n 0, 1) := by decide +kernel
theorem dX7_drop_33 : decode cX7_drop 33 = .ok (.aload_n 0, 1) := by decide +kernel
theorem dX7_drop_34 : decode cX7_drop 34 = .ok (.getfield 13, 3) := by decide +kernel
theorem dX7_drop_37 : decode cX7_drop 37 = .ok (.iload_n 1, 1) := by decide +kernel
theorem dX7_drop_38 : decode cX7_drop 38 = .ok (.iaload, 1) := by decide +kernel
theorem dX7_drop_39 : decode cX7_drop 39 = .ok (.invokevirtual 68, 3) := by decide +kernel
theorem dX7_drop_42 : decode cX7_drop 42 = .ok (.ireturn, 1) := by decide +kernel
theorem dX7_feed_0 : decode cX7_feed 0 = .ok (.iload_n 1, 1) := by decide +kernel
theorem dX7_feed_1 : decode cX7_feed 1 = .ok (.iconst 0, 1) := by decide +kernel
theorem dX7_feed_2 : decode cX7_feed 2 = .ok (.sipush 255, 3) := by decide +kernel
theorem dX7_feed_5 : decode cX7_feed 5 = .ok (.invokestatic 55, 3) := by decide +kernel
theorem dX7_feed_8 : decode cX7_feed 8 = .ok (.ifCond .ne 6, 3) := by decide +kernel
theorem dX7_feed_11 : decode cX7_feed 11 = .ok (.ldc 63, 2) := by decide +kernel
theorem dX7_feed_13 : decode cX7_feed 13 = .ok (.ireturn, 1) := by decide +kernel
theorem dX7_feed_14 : decode cX7_feed 14 = .ok (.aload_n 0, 1) := by decide +kernel
theorem dX7_feed_15 : decode cX7_feed 15 = .ok (.getfield 74, 3) := by decide +kernel
theorem dX7_feed_18 : decode cX7_feed 18 = .ok (.bipush 100, 2) := by decide +kernel
theorem dX7_feed_20 : decode cX7_feed 20 = .ok (.if_icmp .ne 6, 3) := by decide +kernel
theorem dX7_feed_23 : decode cX7_feed 23 = .ok (.ldc 77, 2) := by decide +kernel
theorem dX7_feed_25 : decode cX7_feed 25 = .ok (.ireturn, 1) := by decide +kernel
theorem dX7_feed_26 : decode cX7_feed 26 = .ok (.aload_n 0, 1) := by decide +kernel
theorem dX7_feed_27 : decode cX7_feed 27 = .ok (.getfield 19, 3) := by decide +kernel
theorem dX7_feed_30 : decode cX7_feed 30 = .ok (.aload_n 0, 1) := by decide +kernel
theorem dX7_feed_31 : decode cX7_feed 31 = .ok (.getfield 74, 3) := by decide +kernel
theorem dX7_feed_34 : decode cX7_feed 34 = .ok (.iload_n 1, 1) := by decide +kernel
theorem dX7_feed_35 : decode cX7_feed 35 = .ok (.iastore, 1) := by decide +kernel
theorem dX7_feed_36 : decode cX7_feed 36 = .ok (.aload_n 0, 1) := by decide +kernel
theorem dX7_feed_37 : decode cX7_feed 37 = .ok (.dup, 1) := by decide +kernel
theorem dX7_feed_38 : decode cX7_feed 38 = .ok (.getfield 74, 3) := by decide +kernel
theorem dX7_feed_41 : decode cX7_feed 41 = .ok (.iconst 1, 1) := by decide +kernel
theorem dX7_feed_42 : decode cX7_feed 42 = .ok (.iadd, 1) := by decide +kernel
theorem dX7_feed_43 : decode cX7_feed 43 = .ok (.putfield 74, 3) := by decide +kernel
theorem dX7_feed_46 : decode cX7_feed 46 = .ok (.aload_n 0, 1) := by decide +kernel
theorem dX7_feed_47 : decode cX7_feed 47 = .ok (.getfield 74, 3) := by decide +kernel
theorem dX7_feed_50 : decode cX7_feed 50 = .ok (.ireturn, 1) := by decide +kernel
theorem dX7_nextToken_0 : decode cX7_nextToken 0 = .ok (.aload_n 0, 1) := by decide +kernel
theorem dX7_nextToken_1 : decode cX7_nextToken 1 = .ok (.aload_n 0, 1) := by decide +kernel
theorem dX7_nextToken_2 : decode cX7_nextToken 2 = .ok (.getfield 78, 3) := by decide +kernel
theorem dX7_nextToken_5 : decode cX7_nextToken 5 = .ok (.putfield 81, 3) := by decide +kernel
theorem dX7_nextToken_8 : decode cX7_nextToken 8 = .ok (.aload_n 0, 1) := by decide +kernel
theorem dX7_nextToken_9 : decode cX7_nextToken 9 = .ok (.iconst 0, 1) := by decide +kernel
theorem dX7_nextToken_10 : decode cX7_nextToken 10 = .ok (.putfield 84, 3) := by decide +kernel
theorem dX7_nextToken_13 : decode cX7_nextToken 13 = .ok (.aload_n 0, 1) := by decide +kernel
theorem dX7_nextToken_14 : decode cX7_nextToken 14 = .ok (.getfield 78, 3) := by decide +kernel
theorem dX7_nextToken_17 : decode cX7_nextToken 17 = .ok (.aload_n 0, 1) := by decide +kernel
theorem dX7_nextToken_18 : decode cX7_nextToken 18 = .ok (.getfield 74, 3) := by decide +kernel
theorem dX7_nextToken_21 : decode cX7_nextToken 21 = .ok (.if_icmp .ne 12, 3) := by decide +kernel
theorem dX7_nextToken_24 : decode cX7_nextToken 24 = .ok (.aload_n 0, 1) := by decide +kernel
theorem dX7_nextToken_25 : decode cX7_nextToken 25 = .ok (.bipush (-2), 2) := by decide +kernel
theorem dX7_nextToken_27 : decode cX7_nextToken 27 = .ok (.putfield 87, 3) := by decide +kernel
theorem dX7_nextToken_30 : decode cX7_nextToken 30 = .ok (.goto 188, 3) := by decide +kernel
theorem dX7_nextToken_33 : decode cX7_nextToken 33 = .ok (.aload_n 0, 1) := by decide +kernel
theorem dX7_nextToken_34 : decode cX7_nextToken 34 = .ok (.getfield 19, 3) := by decide +kernel
theorem dX7_nextToken_37 : decode cX7_nextToken 37 = .ok (.aload_n 0, 1) := by decide +kernel
theorem dX7_nextToken_38 : decode cX7_nextToken 38 = .ok (.getfield 78, 3) := by decide +kernel
theorem dX7_nextToken_41 : decode cX7_nextToken 41 = .ok (.iaload, 1) := by decide +kernel
theorem dX7_nextToken_42 : decode cX7_nextToken 42 = .ok (.bipush 48, 2) := by decide +kernel
theorem dX7_nextToken_44 : decode cX7_nextToken 44 = .ok (.bipush 57, 2) := by decide +kernel
theorem dX7_nextToken_46 : decode cX7_nextToken 46 = .ok (.invokestatic 55, 3) := by decide +kernel
theorem dX7_nextToken_49 : decode cX7_nextToken 49 = .ok (.ifCond .eq 116, 3) := by decide +kernel
theorem dX7_nextToken_52 : decode cX7_nextToken 52 = .ok (.aload_n 0, 1) := by decide +kernel
theorem dX7_nextToken_53 : decode cX7_nextToken 53 = .ok (.getfield 78, 3) := by decide +kernel
theorem dX7_nextToken_56 : decode cX7_nextToken 56 = .ok (.aload_n 0, 1) := by decide +kernel
theorem dX7_nextToken_57 : decode cX7_nextToken 57 = .ok (.getfield 74, 3) := by decide +kernel
theorem dX7_nextToken_60 : decode cX7_nextToken 60 = .ok (.if_icmp .ge 79, 3) := by decide +kernel
theorem dX7_nextToken_63 : decode cX7_nextToken 63 = .ok (.aload_n 0, 1) := by decide +kernel
theorem dX7_nextToken_64 : decode cX7_nextToken 64 = .ok (.getfield 19, 3) := by decide +kernel
theorem dX7_nextToken_67 : decode cX7_nextToken 67 = .ok (.aload_n 0, 1) := by decide +kernel
theorem dX7_nextToken_68 : decode cX7_nextToken 68 = .ok (.getfield 78, 3) := by decide +kernel
theorem dX7_nextToken_71 : decode cX7_nextToken 71 = .ok (.iaload, 1) := by decide +kernel
theorem dX7_nextToken_72 : decode cX7_nextToken 72 = .ok (.bipush 48, 2) := by decide +kernel
theorem dX7_nextToken_74 : decode cX7_nextToken 74 = .ok (.bipush 57, 2) := by decide +kernel
theorem dX7_nextToken_76 : decode cX7_nextToken 76 = .ok (.invokestatic 55, 3) := by decide +kernel
theorem dX7_nextToken_79 : decode cX7_nextToken 79 = .ok (.ifCond .eq 60, 3) := by decide +kernel
theorem dX7_nextToken_82 : decode cX7_nextToken 82 = .ok (.aload_n 0, 1) := by decide +kernel
theorem dX7_nextToken_83 : decode cX7_nextToken 83 = .ok (.aload_n 0, 1) := by decide +kernel
theorem dX7_nextToken_84 : decode cX7_nextToken 84 = .ok (.getfield 78, 3) := by decide +kernel
theorem dX7_nextToken_87 : decode cX7_nextToken 87 = .ok (.aload_n 0, 1) := by decide +kernel
theorem dX7_nextToken_88 : decode cX7_nextToken 88 = .ok (.getfield 81, 3) := by decide +kernel
theorem dX7_nextToken_91 : decode cX7_nextToken 91 = .ok (.isub, 1) := by decide +kernel
theorem dX7_nextToken_92 : decode cX7_nextToken 92 = .ok (.iconst 2, 1) := by decide +kernel
theorem dX7_nextToken_93 : decode cX7_nextToken 93 = .ok (.if_icmp .ge 26, 3) := by decide +kernel
theorem dX7_nextToken_96 : decode cX7_nextToken 96 = .ok (.bipush 10, 2) := by decide +kernel
theorem dX7_nextToken_98 : decode cX7_nextToken 98 = .ok (.aload_n 0, 1) := by decide +kernel
theorem dX7_nextToken_99 : decode cX7_nextToken 99 = .ok (.getfield 84, 3) := by decide +kernel
theorem dX7_nextToken_102 : decode cX7_nextToken 102 = .ok (.imul, 1) := by decide +kernel
theorem dX7_nextToken_103 : decode cX7_nextToken 103 = .ok (.aload_n 0, 1) := by decide +kernel
theorem dX7_nextToken_104 : decode cX7_nextToken 104 = .ok (.getfield 19, 3) := by decide +kernel
theorem dX7_nextToken_107 : decode cX7_nextToken 107 = .ok (.aload_n 0, 1) := by decide +kernel
theorem dX7_nextToken_108 : decode cX7_nextToken 108 = .ok (.getfield 78, 3) := by decide +kernel
theorem dX7_nextToken_111 : decode cX7_nextToken 111 = .ok (.iaload, 1) := by decide +kernel
theorem dX7_nextToken_112 : decode cX7_nextToken 112 = .ok (.iadd, 1) := by decide +kernel
theorem dX7_nextToken_113 : decode cX7_nextToken 113 = .ok (.bipush 48, 2) := by decide +kernel
theorem dX7_nextToken_115 : decode cX7_nextToken 115 = .ok (.isub, 1) := by decide +kernel
theorem dX7_nextToken_116 : decode cX7_nextToken 116 = .ok (.goto 7, 3) := by decide +kernel
theorem dX7_nextToken_119 : decode cX7_nextToken 119 = .ok (.aload_n 0, 1) := by decide +kernel
theorem dX7_nextToken_120 : decode cX7_nextToken 120 = .ok (.getfield 84, 3) := by decide +kernel
theorem dX7_nextToken_123 : decode cX7_nextToken 123 = .ok (.putfield 84, 3) := by decide +kernel
theorem dX7_nextToken_126 : decode cX7_nextToken 126 = .ok (.aload_n 0, 1) := by decide +kernel
theorem dX7_nextToken_127 : decode cX7_nextToken 127 = .ok (.dup, 1) := by decide +kernel
theorem dX7_nextToken_128 : decode cX7_nextToken 128 = .ok (.getfield 78, 3) := by decide +kernel
theorem dX7_nextToken_131 : decode cX7_nextToken 131 = .ok (.iconst 1, 1) := by decide +kernel
theorem dX7_nextToken_132 : decode cX7_nextToken 132 = .ok (.iadd, 1) := by decide +kernel
theorem dX7_nextToken_133 : decode cX7_nextToken 133 = .ok (.putfield 78, 3) := by decide +kernel
theorem dX7_nextToken_136 : decode cX7_nextToken 136 = .ok (.goto (-84), 3) := by decide +kernel
theorem dX7_nextToken_139 : decode cX7_nextToken 139 = .ok (.aload_n 0, 1) := by decide +kernel
theorem dX7_nextToken_140 : decode cX7_nextToken 140 = .ok (.aload_n 0, 1) := by decide +kernel
theorem dX7_nextToken_141 : decode cX7_nextToken 141 = .ok (.getfield 78, 3) := by decide +kernel
theorem dX7_nextToken_144 : decode cX7_nextToken 144 = .ok (.aload_n 0, 1) := by decide +kernel
theorem dX7_nextToken_145 : decode cX7_nextToken 145 = .ok (.getfield 81, 3) := by decide +kernel
theorem dX7_nextToken_148 : decode cX7_nextToken 148 = .ok (.isub, 1) := by decide +kernel
theorem dX7_nextToken_149 : decode cX7_nextToken 149 = .ok (.iconst 2, 1) := by decide +kernel
theorem dX7_nextToken_150 : decode cX7_nextToken 150 = .ok (.if_icmp .le 8, 3) := by decide +kernel
theorem dX7_nextToken_153 : decode cX7_nextToken 153 = .ok (.bipush (-3), 2) := by decide +kernel
theorem dX7_nextToken_155 : decode cX7_nextToken 155 = .ok (.goto 4, 3) := by decide +kernel
theorem dX7_nextToken_158 : decode cX7_nextToken 158 = .ok (.iconst (-1), 1) := by decide +kernel
theorem dX7_nextToken_159 : decode cX7_nextToken 159 = .ok (.putfield 87, 3) := by decide +kernel
theorem dX7_nextToken_162 : decode cX7_nextToken 162 = .ok (.goto 56, 3) := by decide +kernel
theorem dX7_nextToken_165 : decode cX7_nextToken 165 = .ok (.aload_n 0, 1) := by decide +kernel
theorem dX7_nextToken_166 : decode cX7_nextToken 166 = .ok (.getfield 19, 3) := by decide +kernel
theorem dX7_nextToken_169 : decode cX7_nextToken 169 = .ok (.aload_n 0, 1) := by decide +kernel
theorem dX7_nextToken_170 : decode cX7_nextToken 170 = .ok (.getfield 78, 3) := by decide +kernel
theorem dX7_nextToken_173 : decode cX7_nextToken 173 = .ok (.iaload, 1) := by decide +kernel
theorem dX7_nextToken_174 : decode cX7_nextToken 174 = .ok (.istore_n 1, 1) := by decide +kernel
theorem dX7_nextToken_175 : decode cX7_nextToken 175 = .ok (.aload_n 0, 1) := by decide +kernel
theorem dX7_nextToken_176 : decode cX7_nextToken 176 = .ok (.iload_n 1, 1) := by decide +kernel
theorem dX7_nextToken_177 : decode cX7_nextToken 177 = .ok (.bipush 97, 2) := by decide +kernel
theorem dX7_nextToken_179 : decode cX7_nextToken 179 = .ok (.bipush 122, 2) := by decide +kernel
theorem dX7_nextToken_181 : decode cX7_nextToken 181 = .ok (.invokestatic 55, 3) := by decide +kernel
theorem dX7_nextToken_184 : decode cX7_nextToken 184 = .ok (.ifCond .ne 15, 3) := by decide +kernel
theorem dX7_nextToken_187 : decode cX7_nextToken 187 = .ok (.iload_n 1, 1) := by decide +kernel
theorem dX7_nextToken_188 : decode cX7_nextToken 188 = .ok (.bipush 44, 2) := by decide +kernel
theorem dX7_nextToken_190 : decode cX7_nextToken 190 = .ok (.if_icmp .eq 9, 3) := by decide +kernel
theorem dX7_nextToken_193 : decode cX7_nextToken 193 = .ok (.iload_n 1, 1) := by decide +kernel
theorem dX7_nextToken_194 : decode cX7_nextToken 194 = .ok (.bipush 59, 2) := by decide +kernel
theorem dX7_nextToken_196 : decode cX7_nextToken 196 = .ok (.if_icmp .ne 7, 3) := by decide +kernel
theorem dX7_nextToken_199 : decode cX7_nextToken 199 = .ok (.iload_n 1, 1) := by decide +kernel
theorem dX7_nextToken_200 : decode cX7_nextToken 200 = .ok (.goto 5, 3) := by decide +kernel
theorem dX7_nextToken_203 : decode cX7_nextToken 203 = .ok (.bipush (-3), 2) := by decide +kernel
theorem dX7_nextToken_205 : decode cX7_nextToken 205 = .ok (.putfield 87, 3) := by decide +kernel
theorem dX7_nextToken_208 : decode cX7_nextToken 208 = .ok (.aload_n 0, 1) := by decide +kernel
theorem dX7_nextToken_209 : decode cX7_nextToken 209 = .ok (.dup, 1) := by decide +kernel
theorem dX7_nextToken_210 : decode cX7_nextToken 210 = .ok (.getfield 78, 3) := by decide +kernel
theorem dX7_nextToken_213 : decode cX7_nextToken 213 = .ok (.iconst 1, 1) := by decide +kernel
theorem dX7_nextToken_214 : decode cX7_nextToken 214 = .ok (.iadd, 1) := by decide +kernel
theorem dX7_nextToken_215 : decode cX7_nextToken 215 = .ok (.putfield 78, 3) := by decide +kernel
theorem dX7_nextToken_218 : decode cX7_nextToken 218 = .ok (.return_, 1) := by decide +kernel
theorem dX7_fails_0 : decode cX7_fails 0 = .ok (.aload_n 0, 1) := by decide +kernel
theorem dX7_fails_1 : decode cX7_fails 1 = .ok (.iload_n 1, 1) := by decide +kernel
theorem dX7_fails_2 : decode cX7_fails 2 = .ok (.putfield 90, 3) := by decide +kernel
theorem dX7_fails_5 : decode cX7_fails 5 = .ok (.iconst 0, 1) := by decide +kernel
theorem dX7_fails_6 : decode cX7_fails 6 = .ok (.ireturn, 1) := by decide +kernel
theorem dX7_isNumber_0 : decode cX7_isNumber 0 = .ok (.aload_n 0, 1) := by decide +kernel
theorem dX7_isNumber_1 : decode cX7_isNumber 1 = .ok (.invokevirtual 93, 3) := by decide +kernel
theorem dX7_isNumber_4 : decode cX7_isNumber 4 = .ok (.aload_n 0, 1) := by decide +kernel
theorem dX7_isNumber_5 : decode cX7_isNumber 5 = .ok (.getfield 87, 3) := by decide +kernel
theorem dX7_isNumber_8 : decode cX7_isNumber 8 = .ok (.iconst (-1), 1) := by decide +kernel
theorem dX7_isNumber_9 : decode cX7_isNumber 9 = .ok (.if_icmp .eq 9, 3) := by decide +kernel
theorem dX7_isNumber_12 : decode cX7_isNumber 12 = .ok (.aload_n 0, 1) := by decide +kernel
theorem dX7_isNumber_13 : decode cX7_isNumber 13 = .ok (.iconst 1, 1) := by decide +kernel
theorem dX7_isNumber_14 : decode cX7_isNumber 14 = .ok (.invokevirtual 96, 3) := by decide +kernel
theorem dX7_isNumber_17 : decode cX7_isNumber 17 = .ok (.ireturn, 1) := by decide +kernel
theorem dX7_isNumber_18 : decode cX7_isNumber 18 = .ok (.aload_n 0, 1) := by decide +kernel
theorem dX7_isNumber_19 : decode cX7_isNumber 19 = .ok (.getfield 84, 3) := by decide +kernel
theorem dX7_isNumber_22 : decode cX7_isNumber 22 = .ok (.iload_n 1, 1) := by decide +kernel
theorem dX7_isNumber_23 : decode cX7_isNumber 23 = .ok (.iload_n 2, 1) := by decide +kernel
theorem dX7_isNumber_24 : decode cX7_isNumber 24 = .ok (.invokestatic 55, 3) := by decide +kernel
theorem dX7_isNumber_27 : decode cX7_isNumber 27 = .ok (.ifCond .ne 11, 3) := by decide +kernel
theorem dX7_isNumber_30 : decode cX7_isNumber 30 = .ok (.aload_n 0, 1) := by decide +kernel
theorem dX7_isNumber_31 : decode cX7_isNumber 31 = .ok (.iconst 2, 1) := by decide +kernel
theorem dX7_isNumber_32 : decode cX7_isNumber 32 = .ok (.invokevirtual 96, 3) := by decide +kernel
theorem dX7_isNumber_35 : decode cX7_isNumber 35 = .ok (.ifCond .eq 7, 3) := by decide +kernel
theorem dX7_isNumber_38 : decode cX7_isNumber 38 = .ok (.iconst 1, 1) := by decide +kernel
theorem dX7_isNumber_39 : decode cX7_isNumber 39 = .ok (.goto 4, 3) := by decide +kernel
theorem dX7_isNumber_42 : decode cX7_isNumber 42 = .ok (.iconst 0, 1) := by decide +kernel
theorem dX7_isNumber_43 : decode cX7_isNumber 43 = .ok (.ireturn, 1) := by decide +kernel
theorem dX7_isSign_0 : decode cX7_isSign 0 = .ok (.aload_n 0, 1) := by decide +kernel
theorem dX7_isSign_1 : decode cX7_isSign 1 = .ok (.invokevirtual 93, 3) := by decide +kernel
theorem dX7_isSign_4 : decode cX7_isSign 4 = .ok (.aload_n 0, 1) := by decide +kernel
theorem dX7_isSign_5 : decode cX7_isSign 5 = .ok (.getfield 87, 3) := by decide +kernel
theorem dX7_isSign_8 : decode cX7_isSign 8 = .ok (.iload_n 1, 1) := by decide +kernel
theorem dX7_isSign_9 : decode cX7_isSign 9 = .ok (.if_icmp .eq 11, 3) := by decide +kernel
theorem dX7_isSign_12 : decode cX7_isSign 12 = .ok (.aload_n 0, 1) := by decide +kernel
theorem dX7_isSign_13 : decode cX7_isSign 13 = .ok (.iconst 1, 1) := by decide +kernel
theorem dX7_isSign_14 : decode cX7_isSign 14 = .ok (.invokevirtual 96, 3) := by decide +kernel
theorem dX7_isSign_17 : decode cX7_isSign 17 = .ok (.ifCond .eq 7, 3) := by decide +kernel
theorem dX7_isSign_20 : decode cX7_isSign 20 = .ok (.iconst 1, 1) := by decide +kernel
theorem dX7_isSign_21 : decode cX7_isSign 21 = .ok (.goto 4, 3) := by decide +kernel
theorem dX7_isSign_24 : decode cX7_isSign 24 = .ok (.iconst 0, 1) := by decide +kernel
theorem dX7_isSign_25 : decode cX7_isSign 25 = .ok (.ireturn, 1) := by decide +kernel
theorem dX7_isLaw_0 : decode cX7_isLaw 0 = .ok (.aload_n 0, 1) := by decide +kernel
theorem dX7_isLaw_1 : decode cX7_isLaw 1 = .ok (.bipush 103, 2) := by decide +kernel
theorem dX7_isLaw_3 : decode cX7_isLaw 3 = .ok (.invokevirtual 99, 3) := by decide +kernel
theorem dX7_isLaw_6 : decode cX7_isLaw 6 = .ok (.ifCond .eq 13, 3) := by decide +kernel
theorem dX7_isLaw_9 : decode cX7_isLaw 9 = .ok (.aload_n 0, 1) := by decide +kernel
theorem dX7_isLaw_10 : decode cX7_isLaw 10 = .ok (.iconst 0, 1) := by decide +kernel
theorem dX7_isLaw_11 : decode cX7_isLaw 11 = .ok (.bipush 60, 2) := by decide +kernel
theorem dX7_isLaw_13 : decode cX7_isLaw 13 = .ok (.invokevirtual 102, 3) := by decide +kernel
theorem dX7_isLaw_16 : decode cX7_isLaw 16 = .ok (.ifCond .ne 5, 3) := by decide +kernel
theorem dX7_isLaw_19 : decode cX7_isLaw 19 = .ok (.iconst 0, 1) := by decide +kernel
theorem dX7_isLaw_20 : decode cX7_isLaw 20 = .ok (.ireturn, 1) := by decide +kernel
theorem dX7_isLaw_21 : decode cX7_isLaw 21 = .ok (.aload_n 0, 1) := by decide +kernel
theorem dX7_isLaw_22 : decode cX7_isLaw 22 = .ok (.getfield 25, 3) := by decide +kernel
theorem dX7_isLaw_25 : decode cX7_isLaw 25 = .ok (.iconst 0, 1) := by decide +kernel
theorem dX7_isLaw_26 : decode cX7_isLaw 26 = .ok (.aload_n 0, 1) := by decide +kernel
theorem dX7_isLaw_27 : decode cX7_isLaw 27 = .ok (.getfield 84, 3) := by decide +kernel
theorem dX7_isLaw_30 : decode cX7_isLaw 30 = .ok (.iastore, 1) := by decide +kernel
theorem dX7_isLaw_31 : decode cX7_isLaw 31 = .ok (.aload_n 0, 1) := by decide +kernel
theorem dX7_isLaw_32 : decode cX7_isLaw 32 = .ok (.bipush 44, 2) := by decide +kernel
theorem dX7_isLaw_34 : decode cX7_isLaw 34 = .ok (.invokevirtual 99, 3) := by decide +kernel
theorem dX7_isLaw_37 : decode cX7_isLaw 37 = .ok (.ifCond .eq 13, 3) := by decide +kernel
theorem dX7_isLaw_40 : decode cX7_isLaw 40 = .ok (.aload_n 0, 1) := by decide +kernel
theorem dX7_isLaw_41 : decode cX7_isLaw 41 = .ok (.iconst 0, 1) := by decide +kernel
theorem dX7_isLaw_42 : decode cX7_isLaw 42 = .ok (.bipush 12, 2) := by decide +kernel
theorem dX7_isLaw_44 : decode cX7_isLaw 44 = .ok (.invokevirtual 102, 3) := by decide +kernel
theorem dX7_isLaw_47 : decode cX7_isLaw 47 = .ok (.ifCond .ne 5, 3) := by decide +kernel
theorem dX7_isLaw_50 : decode cX7_isLaw 50 = .ok (.iconst 0, 1) := by decide +kernel
theorem dX7_isLaw_51 : decode cX7_isLaw 51 = .ok (.ireturn, 1) := by decide +kernel
theorem dX7_isLaw_52 : decode cX7_isLaw 52 = .ok (.aload_n 0, 1) := by decide +kernel
theorem dX7_isLaw_53 : decode cX7_isLaw 53 = .ok (.getfield 25, 3) := by decide +kernel
theorem dX7_isLaw_56 : decode cX7_isLaw 56 = .ok (.iconst 1, 1) := by decide +kernel
theorem dX7_isLaw_57 : decode cX7_isLaw 57 = .ok (.aload_n 0, 1) := by decide +kernel
theorem dX7_isLaw_58 : decode cX7_isLaw 58 = .ok (.getfield 84, 3) := by decide +kernel
theorem dX7_isLaw_61 : decode cX7_isLaw 61 = .ok (.iastore, 1) := by decide +kernel
theorem dX7_isLaw_62 : decode cX7_isLaw 62 = .ok (.aload_n 0, 1) := by decide +kernel
theorem dX7_isLaw_63 : decode cX7_isLaw 63 = .ok (.bipush 59, 2) := by decide +kernel
theorem dX7_isLaw_65 : decode cX7_isLaw 65 = .ok (.invokevirtual 99, 3) := by decide +kernel
theorem dX7_isLaw_68 : decode cX7_isLaw 68 = .ok (.ireturn, 1) := by decide +kernel
theorem dX7_isDoor_0 : decode cX7_isDoor 0 = .ok (.aload_n 0, 1) := by decide +kernel
theorem dX7_isDoor_1 : decode cX7_isDoor 1 = .ok (.getfield 25, 3) := by decide +kernel
theorem dX7_isDoor_4 : decode cX7_isDoor 4 = .ok (.iconst 2, 1) := by decide +kernel
theorem dX7_isDoor_5 : decode cX7_isDoor 5 = .ok (.iaload, 1) := by decide +kernel
theorem dX7_isDoor_6 : decode cX7_isDoor 6 = .ok (.bipush 6, 2) := by decide +kernel
theorem dX7_isDoor_8 : decode cX7_isDoor 8 = .ok (.if_icmp .ne 9, 3) := by decide +kernel
theorem dX7_isDoor_11 : decode cX7_isDoor 11 = .ok (.aload_n 0, 1) := by decide +kernel
theorem dX7_isDoor_12 : decode cX7_isDoor 12 = .ok (.iconst 3, 1) := by decide +kernel
theorem dX7_isDoor_13 : decode cX7_isDoor 13 = .ok (.invokevirtual 96, 3) := by decide +kernel
theorem dX7_isDoor_16 : decode cX7_isDoor 16 = .ok (.ireturn, 1) := by decide +kernel
theorem dX7_isDoor_17 : decode cX7_isDoor 17 = .ok (.aload_n 0, 1) := by decide +kernel
theorem dX7_isDoor_18 : decode cX7_isDoor 18 = .ok (.iconst 1, 1) := by decide +kernel
theorem dX7_isDoor_19 : decode cX7_isDoor 19 = .ok (.bipush 20, 2) := by decide +kernel
theorem dX7_isDoor_21 : decode cX7_isDoor 21 = .ok (.invokevirtual 102, 3) := by decide +kernel
theorem dX7_isDoor_24 : decode cX7_isDoor 24 = .ok (.ifCond .ne 5, 3) := by decide +kernel
theorem dX7_isDoor_27 : decode cX7_isDoor 27 = .ok (.iconst 0, 1) := by decide +kernel
theorem dX7_isDoor_28 : decode cX7_isDoor 28 = .ok (.ireturn, 1) := by decide +kernel
theorem dX7_isDoor_29 : decode cX7_isDoor 29 = .ok (.aload_n 0, 1) := by decide +kernel
theorem dX7_isDoor_30 : decode cX7_isDoor 30 = .ok (.getfield 25, 3) := by decide +kernel
theorem dX7_isDoor_33 : decode cX7_isDoor 33 = .ok (.iconst 5, 1) := by decide +kernel
theorem dX7_isDoor_34 : decode cX7_isDoor 34 = .ok (.aload_n 0, 1) := by decide +kernel
theorem dX7_isDoor_35 : decode cX7_isDoor 35 = .ok (.getfield 25, 3) := by decide +kernel
theorem dX7_isDoor_38 : decode cX7_isDoor 38 = .ok (.iconst 2, 1) := by decide +kernel
theorem dX7_isDoor_39 : decode cX7_isDoor 39 = .ok (.iaload, 1) := by decide +kernel
theorem dX7_isDoor_40 : decode cX7_isDoor 40 = .ok (.iadd, 1) := by decide +kernel
theorem dX7_isDoor_41 : decode cX7_isDoor 41 = .ok (.aload_n 0, 1) := by decide +kernel
theorem dX7_isDoor_42 : decode cX7_isDoor 42 = .ok (.getfield 84, 3) := by decide +kernel
theorem dX7_isDoor_45 : decode cX7_isDoor 45 = .ok (.iastore, 1) := by decide +kernel
theorem dX7_isDoor_46 : decode cX7_isDoor 46 = .ok (.aload_n 0, 1) := by decide +kernel
theorem dX7_isDoor_47 : decode cX7_isDoor 47 = .ok (.getfield 25, 3) := by decide +kernel
theorem dX7_isDoor_50 : decode cX7_isDoor 50 = .ok (.iconst 2, 1) := by decide +kernel
theorem dX7_isDoor_51 : decode cX7_isDoor 51 = .ok (.dup2, 1) := by decide +kernel
theorem dX7_isDoor_52 : decode cX7_isDoor 52 = .ok (.iaload, 1) := by decide +kernel
theorem dX7_isDoor_53 : decode cX7_isDoor 53 = .ok (.iconst 1, 1) := by decide +kernel
theorem dX7_isDoor_54 : decode cX7_isDoor 54 = .ok (.iadd, 1) := by decide +kernel
theorem dX7_isDoor_55 : decode cX7_isDoor 55 = .ok (.iastore, 1) := by decide +kernel
theorem dX7_isDoor_56 : decode cX7_isDoor 56 = .ok (.aload_n 0, 1) := by decide +kernel
theorem dX7_isDoor_57 : decode cX7_isDoor 57 = .ok (.bipush 59, 2) := by decide +kernel
theorem dX7_isDoor_59 : decode cX7_isDoor 59 = .ok (.invokevirtual 99, 3) := by decide +kernel
theorem dX7_isDoor_62 : decode cX7_isDoor 62 = .ok (.ireturn, 1) := by decide +kernel
theorem dX7_sortOf_0 : decode cX7_sortOf 0 = .ok (.iload_n 0, 1) := by decide +kernel
theorem dX7_sortOf_1 : decode cX7_sortOf 1 = .ok (.bipush 117, 2) := by decide +kernel
theorem dX7_sortOf_3 : decode cX7_sortOf 3 = .ok (.if_icmp .ne 7, 3) := by decide +kernel
theorem dX7_sortOf_6 : decode cX7_sortOf 6 = .ok (.iconst 1, 1) := by decide +kernel
theorem dX7_sortOf_7 : decode cX7_sortOf 7 = .ok (.goto 44, 3) := by decide +kernel
theorem dX7_sortOf_10 : decode cX7_sortOf 10 = .ok (.iload_n 0, 1) := by decide +kernel
theorem dX7_sortOf_11 : decode cX7_sortOf 11 = .ok (.bipush 108, 2) := by decide +kernel
theorem dX7_sortOf_13 : decode cX7_sortOf 13 = .ok (.if_icmp .ne 7, 3) := by decide +kernel
theorem dX7_sortOf_16 : decode cX7_sortOf 16 = .ok (.iconst 2, 1) := by decide +kernel
theorem dX7_sortOf_17 : decode cX7_sortOf 17 = .ok (.goto 34, 3) := by decide +kernel
theorem dX7_sortOf_20 : decode cX7_sortOf 20 = .ok (.iload_n 0, 1) := by decide +kernel
theorem dX7_sortOf_21 : decode cX7_sortOf 21 = .ok (.bipush 98, 2) := by decide +kernel
theorem dX7_sortOf_23 : decode cX7_sortOf 23 = .ok (.if_icmp .ne 7, 3) := by decide +kernel
theorem dX7_sortOf_26 : decode cX7_sortOf 26 = .ok (.iconst 3, 1) := by decide +kernel
theorem dX7_sortOf_27 : decode cX7_sortOf 27 = .ok (.goto 24, 3) := by decide +kernel
theorem dX7_sortOf_30 : decode cX7_sortOf 30 = .ok (.iload_n 0, 1) := by decide +kernel
theorem dX7_sortOf_31 : decode cX7_sortOf 31 = .ok (.bipush 112, 2) := by decide +kernel
theorem dX7_sortOf_33 : decode cX7_sortOf 33 = .ok (.if_icmp .ne 7, 3) := by decide +kernel
theorem dX7_sortOf_36 : decode cX7_sortOf 36 = .ok (.iconst 4, 1) := by decide +kernel
theorem dX7_sortOf_37 : decode cX7_sortOf 37 = .ok (.goto 14, 3) := by decide +kernel
theorem dX7_sortOf_40 : decode cX7_sortOf 40 = .ok (.iload_n 0, 1) := by decide +kernel
theorem dX7_sortOf_41 : decode cX7_sortOf 41 = .ok (.bipush 107, 2) := by decide +kernel
theorem dX7_sortOf_43 : decode cX7_sortOf 43 = .ok (.if_icmp .ne 7, 3) := by decide +kernel
theorem dX7_sortOf_46 : decode cX7_sortOf 46 = .ok (.iconst 5, 1) := by decide +kernel
theorem dX7_sortOf_47 : decode cX7_sortOf 47 = .ok (.goto 4, 3) := by decide +kernel
theorem dX7_sortOf_50 : decode cX7_sortOf 50 = .ok (.iconst 0, 1) := by decide +kernel
theorem dX7_sortOf_51 : decode cX7_sortOf 51 = .ok (.ireturn, 1) := by decide +kernel
theorem dX7_isCaller_0 : decode cX7_isCaller 0 = .ok (.aload_n 0, 1) := by decide +kernel
theorem dX7_isCaller_1 : decode cX7_isCaller 1 = .ok (.getfield 25, 3) := by decide +kernel
theorem dX7_isCaller_4 : decode cX7_isCaller 4 = .ok (.iconst 3, 1) := by decide +kernel
theorem dX7_isCaller_5 : decode cX7_isCaller 5 = .ok (.iaload, 1) := by decide +kernel
theorem dX7_isCaller_6 : decode cX7_isCaller 6 = .ok (.bipush 6, 2) := by decide +kernel
theorem dX7_isCaller_8 : decode cX7_isCaller 8 = .ok (.if_icmp .ne 9, 3) := by decide +kernel
theorem dX7_isCaller_11 : decode cX7_isCaller 11 = .ok (.aload_n 0, 1) := by decide +kernel
theorem dX7_isCaller_12 : decode cX7_isCaller 12 = .ok (.iconst 3, 1) := by decide +kernel
theorem dX7_isCaller_13 : decode cX7_isCaller 13 = .ok (.invokevirtual 96, 3) := by decide +kernel
theorem dX7_isCaller_16 : decode cX7_isCaller 16 = .ok (.ireturn, 1) := by decide +kernel
theorem dX7_isCaller_17 : decode cX7_isCaller 17 = .ok (.aload_n 0, 1) := by decide +kernel
theorem dX7_isCaller_18 : decode cX7_isCaller 18 = .ok (.getfield 25, 3) := by decide +kernel
theorem dX7_isCaller_21 : decode cX7_isCaller 21 = .ok (.iconst 3, 1) := by decide +kernel
theorem dX7_isCaller_22 : decode cX7_isCaller 22 = .ok (.iaload, 1) := by decide +kernel
theorem dX7_isCaller_23 : decode cX7_isCaller 23 = .ok (.istore_n 1, 1) := by decide +kernel
theorem dX7_isCaller_24 : decode cX7_isCaller 24 = .ok (.aload_n 0, 1) := by decide +kernel
theorem dX7_isCaller_25 : decode cX7_isCaller 25 = .ok (.getfield 25, 3) := by decide +kernel
end
section
theorem dX7_isCaller_28 : decode cX7_isCaller 28 = .ok (.bipush 29, 2) := by decide +kernel
theorem dX7_isCaller_30 : decode cX7_isCaller 30 = .ok (.iload_n 1, 1) := by decide +kernel
theorem dX7_isCaller_31 : decode cX7_isCaller 31 = .ok (.iadd, 1) := by decide +kernel
theorem dX7_isCaller_32 : decode cX7_isCaller 32 = .ok (.aload_n 0, 1) := by decide +kernel
theorem dX7_isCaller_33 : decode cX7_isCaller 33 = .ok (.getfield 87, 3) := by decide +kernel
theorem dX7_isCaller_36 : decode cX7_isCaller 36 = .ok (.invokestatic 106, 3) := by decide +kernel
theorem dX7_isCaller_39 : decode cX7_isCaller 39 = .ok (.iastore, 1) := by decide +kernel
theorem dX7_isCaller_40 : decode cX7_isCaller 40 = .ok (.aload_n 0, 1) := by decide +kernel
theorem dX7_isCaller_41 : decode cX7_isCaller 41 = .ok (.iconst 0, 1) := by decide +kernel
theorem dX7_isCaller_42 : decode cX7_isCaller 42 = .ok (.aload_n 0, 1) := by decide +kernel
theorem dX7_isCaller_43 : decode cX7_isCaller 43 = .ok (.getfield 25, 3) := by decide +kernel
theorem dX7_isCaller_46 : decode cX7_isCaller 46 = .ok (.iconst 2, 1) := by decide +kernel
theorem dX7_isCaller_47 : decode cX7_isCaller 47 = .ok (.iaload, 1) := by decide +kernel
theorem dX7_isCaller_48 : decode cX7_isCaller 48 = .ok (.iconst 1, 1) := by decide +kernel
theorem dX7_isCaller_49 : decode cX7_isCaller 49 = .ok (.isub, 1) := by decide +kernel
theorem dX7_isCaller_50 : decode cX7_isCaller 50 = .ok (.invokevirtual 102, 3) := by decide +kernel
theorem dX7_isCaller_53 : decode cX7_isCaller 53 = .ok (.ifCond .ne 5, 3) := by decide +kernel
theorem dX7_isCaller_56 : decode cX7_isCaller 56 = .ok (.iconst 0, 1) := by decide +kernel
theorem dX7_isCaller_57 : decode cX7_isCaller 57 = .ok (.ireturn, 1) := by decide +kernel
theorem dX7_isCaller_58 : decode cX7_isCaller 58 = .ok (.aload_n 0, 1) := by decide +kernel
theorem dX7_isCaller_59 : decode cX7_isCaller 59 = .ok (.getfield 25, 3) := by decide +kernel
theorem dX7_isCaller_62 : decode cX7_isCaller 62 = .ok (.bipush 41, 2) := by decide +kernel
theorem dX7_isCaller_64 : decode cX7_isCaller 64 = .ok (.iload_n 1, 1) := by decide +kernel
theorem dX7_isCaller_65 : decode cX7_isCaller 65 = .ok (.iadd, 1) := by decide +kernel
theorem dX7_isCaller_66 : decode cX7_isCaller 66 = .ok (.aload_n 0, 1) := by decide +kernel
theorem dX7_isCaller_67 : decode cX7_isCaller 67 = .ok (.getfield 84, 3) := by decide +kernel
theorem dX7_isCaller_70 : decode cX7_isCaller 70 = .ok (.iastore, 1) := by decide +kernel
theorem dX7_isCaller_71 : decode cX7_isCaller 71 = .ok (.aload_n 0, 1) := by decide +kernel
theorem dX7_isCaller_72 : decode cX7_isCaller 72 = .ok (.bipush 44, 2) := by decide +kernel
theorem dX7_isCaller_74 : decode cX7_isCaller 74 = .ok (.invokevirtual 99, 3) := by decide +kernel
theorem dX7_isCaller_77 : decode cX7_isCaller 77 = .ok (.ifCond .eq 13, 3) := by decide +kernel
theorem dX7_isCaller_80 : decode cX7_isCaller 80 = .ok (.aload_n 0, 1) := by decide +kernel
theorem dX7_isCaller_81 : decode cX7_isCaller 81 = .ok (.iconst 0, 1) := by decide +kernel
theorem dX7_isCaller_82 : decode cX7_isCaller 82 = .ok (.bipush 20, 2) := by decide +kernel
theorem dX7_isCaller_84 : decode cX7_isCaller 84 = .ok (.invokevirtual 102, 3) := by decide +kernel
theorem dX7_isCaller_87 : decode cX7_isCaller 87 = .ok (.ifCond .ne 5, 3) := by decide +kernel
theorem dX7_isCaller_90 : decode cX7_isCaller 90 = .ok (.iconst 0, 1) := by decide +kernel
theorem dX7_isCaller_91 : decode cX7_isCaller 91 = .ok (.ireturn, 1) := by decide +kernel
theorem dX7_isCaller_92 : decode cX7_isCaller 92 = .ok (.aload_n 0, 1) := by decide +kernel
theorem dX7_isCaller_93 : decode cX7_isCaller 93 = .ok (.getfield 25, 3) := by decide +kernel
theorem dX7_isCaller_96 : decode cX7_isCaller 96 = .ok (.bipush 35, 2) := by decide +kernel
theorem dX7_isCaller_98 : decode cX7_isCaller 98 = .ok (.iload_n 1, 1) := by decide +kernel
theorem dX7_isCaller_99 : decode cX7_isCaller 99 = .ok (.iadd, 1) := by decide +kernel
theorem dX7_isCaller_100 : decode cX7_isCaller 100 = .ok (.aload_n 0, 1) := by decide +kernel
theorem dX7_isCaller_101 : decode cX7_isCaller 101 = .ok (.getfield 84, 3) := by decide +kernel
theorem dX7_isCaller_104 : decode cX7_isCaller 104 = .ok (.iastore, 1) := by decide +kernel
theorem dX7_isCaller_105 : decode cX7_isCaller 105 = .ok (.aload_n 0, 1) := by decide +kernel
theorem dX7_isCaller_106 : decode cX7_isCaller 106 = .ok (.getfield 25, 3) := by decide +kernel
theorem dX7_isCaller_109 : decode cX7_isCaller 109 = .ok (.iconst 3, 1) := by decide +kernel
theorem dX7_isCaller_110 : decode cX7_isCaller 110 = .ok (.dup2, 1) := by decide +kernel
theorem dX7_isCaller_111 : decode cX7_isCaller 111 = .ok (.iaload, 1) := by decide +kernel
theorem dX7_isCaller_112 : decode cX7_isCaller 112 = .ok (.iconst 1, 1) := by decide +kernel
theorem dX7_isCaller_113 : decode cX7_isCaller 113 = .ok (.iadd, 1) := by decide +kernel
theorem dX7_isCaller_114 : decode cX7_isCaller 114 = .ok (.iastore, 1) := by decide +kernel
theorem dX7_isCaller_115 : decode cX7_isCaller 115 = .ok (.aload_n 0, 1) := by decide +kernel
theorem dX7_isCaller_116 : decode cX7_isCaller 116 = .ok (.bipush 59, 2) := by decide +kernel
theorem dX7_isCaller_118 : decode cX7_isCaller 118 = .ok (.invokevirtual 99, 3) := by decide +kernel
theorem dX7_isCaller_121 : decode cX7_isCaller 121 = .ok (.ireturn, 1) := by decide +kernel
theorem dX7_isRead_0 : decode cX7_isRead 0 = .ok (.aload_n 0, 1) := by decide +kernel
theorem dX7_isRead_1 : decode cX7_isRead 1 = .ok (.iconst 0, 1) := by decide +kernel
theorem dX7_isRead_2 : decode cX7_isRead 2 = .ok (.putfield 78, 3) := by decide +kernel
theorem dX7_isRead_5 : decode cX7_isRead 5 = .ok (.iconst 0, 1) := by decide +kernel
theorem dX7_isRead_6 : decode cX7_isRead 6 = .ok (.istore_n 1, 1) := by decide +kernel
theorem dX7_isRead_7 : decode cX7_isRead 7 = .ok (.iload_n 1, 1) := by decide +kernel
theorem dX7_isRead_8 : decode cX7_isRead 8 = .ok (.bipush 53, 2) := by decide +kernel
theorem dX7_isRead_10 : decode cX7_isRead 10 = .ok (.if_icmp .ge 16, 3) := by decide +kernel
theorem dX7_isRead_13 : decode cX7_isRead 13 = .ok (.aload_n 0, 1) := by decide +kernel
theorem dX7_isRead_14 : decode cX7_isRead 14 = .ok (.getfield 25, 3) := by decide +kernel
theorem dX7_isRead_17 : decode cX7_isRead 17 = .ok (.iload_n 1, 1) := by decide +kernel
theorem dX7_isRead_18 : decode cX7_isRead 18 = .ok (.iconst 0, 1) := by decide +kernel
theorem dX7_isRead_19 : decode cX7_isRead 19 = .ok (.iastore, 1) := by decide +kernel
theorem dX7_isRead_20 : decode cX7_isRead 20 = .ok (.iinc 1 1, 3) := by decide +kernel
theorem dX7_isRead_23 : decode cX7_isRead 23 = .ok (.goto (-16), 3) := by decide +kernel
theorem dX7_isRead_26 : decode cX7_isRead 26 = .ok (.aload_n 0, 1) := by decide +kernel
theorem dX7_isRead_27 : decode cX7_isRead 27 = .ok (.invokevirtual 109, 3) := by decide +kernel
theorem dX7_isRead_30 : decode cX7_isRead 30 = .ok (.ifCond .ne 5, 3) := by decide +kernel
theorem dX7_isRead_33 : decode cX7_isRead 33 = .ok (.iconst 0, 1) := by decide +kernel
theorem dX7_isRead_34 : decode cX7_isRead 34 = .ok (.ireturn, 1) := by decide +kernel
theorem dX7_isRead_35 : decode cX7_isRead 35 = .ok (.aload_n 0, 1) := by decide +kernel
theorem dX7_isRead_36 : decode cX7_isRead 36 = .ok (.invokevirtual 93, 3) := by decide +kernel
theorem dX7_isRead_39 : decode cX7_isRead 39 = .ok (.aload_n 0, 1) := by decide +kernel
theorem dX7_isRead_40 : decode cX7_isRead 40 = .ok (.getfield 87, 3) := by decide +kernel
theorem dX7_isRead_43 : decode cX7_isRead 43 = .ok (.bipush (-2), 2) := by decide +kernel
theorem dX7_isRead_45 : decode cX7_isRead 45 = .ok (.if_icmp .ne 12, 3) := by decide +kernel
theorem dX7_isRead_48 : decode cX7_isRead 48 = .ok (.aload_n 0, 1) := by decide +kernel
theorem dX7_isRead_49 : decode cX7_isRead 49 = .ok (.getfield 25, 3) := by decide +kernel
theorem dX7_isRead_52 : decode cX7_isRead 52 = .ok (.iconst 2, 1) := by decide +kernel
theorem dX7_isRead_53 : decode cX7_isRead 53 = .ok (.iaload, 1) := by decide +kernel
theorem dX7_isRead_54 : decode cX7_isRead 54 = .ok (.ifCond .ne 96, 3) := by decide +kernel
theorem dX7_isRead_57 : decode cX7_isRead 57 = .ok (.aload_n 0, 1) := by decide +kernel
theorem dX7_isRead_58 : decode cX7_isRead 58 = .ok (.getfield 25, 3) := by decide +kernel
theorem dX7_isRead_61 : decode cX7_isRead 61 = .ok (.iconst 2, 1) := by decide +kernel
theorem dX7_isRead_62 : decode cX7_isRead 62 = .ok (.iaload, 1) := by decide +kernel
theorem dX7_isRead_63 : decode cX7_isRead 63 = .ok (.ifCond .le 17, 3) := by decide +kernel
theorem dX7_isRead_66 : decode cX7_isRead 66 = .ok (.aload_n 0, 1) := by decide +kernel
theorem dX7_isRead_67 : decode cX7_isRead 67 = .ok (.getfield 87, 3) := by decide +kernel
theorem dX7_isRead_70 : decode cX7_isRead 70 = .ok (.invokestatic 106, 3) := by decide +kernel
theorem dX7_isRead_73 : decode cX7_isRead 73 = .ok (.ifCond .le 7, 3) := by decide +kernel
theorem dX7_isRead_76 : decode cX7_isRead 76 = .ok (.iconst 1, 1) := by decide +kernel
theorem dX7_isRead_77 : decode cX7_isRead 77 = .ok (.goto 4, 3) := by decide +kernel
theorem dX7_isRead_80 : decode cX7_isRead 80 = .ok (.iconst 0, 1) := by decide +kernel
theorem dX7_isRead_81 : decode cX7_isRead 81 = .ok (.istore_n 1, 1) := by decide +kernel
theorem dX7_isRead_82 : decode cX7_isRead 82 = .ok (.aload_n 0, 1) := by decide +kernel
theorem dX7_isRead_83 : decode cX7_isRead 83 = .ok (.getfield 87, 3) := by decide +kernel
theorem dX7_isRead_86 : decode cX7_isRead 86 = .ok (.bipush 100, 2) := by decide +kernel
theorem dX7_isRead_88 : decode cX7_isRead 88 = .ok (.if_icmp .ne 16, 3) := by decide +kernel
theorem dX7_isRead_91 : decode cX7_isRead 91 = .ok (.aload_n 0, 1) := by decide +kernel
theorem dX7_isRead_92 : decode cX7_isRead 92 = .ok (.getfield 25, 3) := by decide +kernel
theorem dX7_isRead_95 : decode cX7_isRead 95 = .ok (.iconst 3, 1) := by decide +kernel
theorem dX7_isRead_96 : decode cX7_isRead 96 = .ok (.iaload, 1) := by decide +kernel
theorem dX7_isRead_97 : decode cX7_isRead 97 = .ok (.ifCond .ne 7, 3) := by decide +kernel
theorem dX7_isRead_100 : decode cX7_isRead 100 = .ok (.iconst 1, 1) := by decide +kernel
theorem dX7_isRead_101 : decode cX7_isRead 101 = .ok (.goto 4, 3) := by decide +kernel
theorem dX7_isRead_104 : decode cX7_isRead 104 = .ok (.iconst 0, 1) := by decide +kernel
theorem dX7_isRead_105 : decode cX7_isRead 105 = .ok (.istore_n 2, 1) := by decide +kernel
theorem dX7_isRead_106 : decode cX7_isRead 106 = .ok (.iload_n 1, 1) := by decide +kernel
theorem dX7_isRead_107 : decode cX7_isRead 107 = .ok (.ifCond .ne 13, 3) := by decide +kernel
theorem dX7_isRead_110 : decode cX7_isRead 110 = .ok (.iload_n 2, 1) := by decide +kernel
theorem dX7_isRead_111 : decode cX7_isRead 111 = .ok (.ifCond .ne 9, 3) := by decide +kernel
theorem dX7_isRead_114 : decode cX7_isRead 114 = .ok (.aload_n 0, 1) := by decide +kernel
theorem dX7_isRead_115 : decode cX7_isRead 115 = .ok (.iconst 1, 1) := by decide +kernel
theorem dX7_isRead_116 : decode cX7_isRead 116 = .ok (.invokevirtual 96, 3) := by decide +kernel
theorem dX7_isRead_119 : decode cX7_isRead 119 = .ok (.ireturn, 1) := by decide +kernel
theorem dX7_isRead_120 : decode cX7_isRead 120 = .ok (.iload_n 1, 1) := by decide +kernel
theorem dX7_isRead_121 : decode cX7_isRead 121 = .ok (.ifCond .eq 13, 3) := by decide +kernel
theorem dX7_isRead_124 : decode cX7_isRead 124 = .ok (.aload_n 0, 1) := by decide +kernel
theorem dX7_isRead_125 : decode cX7_isRead 125 = .ok (.invokevirtual 113, 3) := by decide +kernel
theorem dX7_isRead_128 : decode cX7_isRead 128 = .ok (.ifCond .ne 15, 3) := by decide +kernel
theorem dX7_isRead_131 : decode cX7_isRead 131 = .ok (.goto 10, 3) := by decide +kernel
theorem dX7_isRead_134 : decode cX7_isRead 134 = .ok (.aload_n 0, 1) := by decide +kernel
theorem dX7_isRead_135 : decode cX7_isRead 135 = .ok (.invokevirtual 116, 3) := by decide +kernel
theorem dX7_isRead_138 : decode cX7_isRead 138 = .ok (.ifCond .ne 5, 3) := by decide +kernel
theorem dX7_isRead_141 : decode cX7_isRead 141 = .ok (.iconst 0, 1) := by decide +kernel
theorem dX7_isRead_142 : decode cX7_isRead 142 = .ok (.ireturn, 1) := by decide +kernel
theorem dX7_isRead_143 : decode cX7_isRead 143 = .ok (.aload_n 0, 1) := by decide +kernel
theorem dX7_isRead_144 : decode cX7_isRead 144 = .ok (.invokevirtual 93, 3) := by decide +kernel
theorem dX7_isRead_147 : decode cX7_isRead 147 = .ok (.goto (-108), 3) := by decide +kernel
theorem dX7_isRead_150 : decode cX7_isRead 150 = .ok (.iconst 1, 1) := by decide +kernel
theorem dX7_isRead_151 : decode cX7_isRead 151 = .ok (.ireturn, 1) := by decide +kernel
theorem dX7_street_0 : decode cX7_street 0 = .ok (.aload_n 0, 1) := by decide +kernel
theorem dX7_street_1 : decode cX7_street 1 = .ok (.invokevirtual 119, 3) := by decide +kernel
theorem dX7_street_4 : decode cX7_street 4 = .ok (.istore_n 1, 1) := by decide +kernel
theorem dX7_street_5 : decode cX7_street 5 = .ok (.aload_n 0, 1) := by decide +kernel
theorem dX7_street_6 : decode cX7_street 6 = .ok (.iconst 0, 1) := by decide +kernel
theorem dX7_street_7 : decode cX7_street 7 = .ok (.putfield 74, 3) := by decide +kernel
theorem dX7_street_10 : decode cX7_street 10 = .ok (.iload_n 1, 1) := by decide +kernel
theorem dX7_street_11 : decode cX7_street 11 = .ok (.ifCond .ne 19, 3) := by decide +kernel
theorem dX7_street_14 : decode cX7_street 14 = .ok (.aload_n 0, 1) := by decide +kernel
theorem dX7_street_15 : decode cX7_street 15 = .ok (.aload_n 0, 1) := by decide +kernel
theorem dX7_street_16 : decode cX7_street 16 = .ok (.getfield 90, 3) := by decide +kernel
theorem dX7_street_19 : decode cX7_street 19 = .ok (.putfield 122, 3) := by decide +kernel
theorem dX7_street_22 : decode cX7_street 22 = .ok (.ldc 125, 2) := by decide +kernel
theorem dX7_street_24 : decode cX7_street 24 = .ok (.aload_n 0, 1) := by decide +kernel
theorem dX7_street_25 : decode cX7_street 25 = .ok (.getfield 81, 3) := by decide +kernel
theorem dX7_street_28 : decode cX7_street 28 = .ok (.isub, 1) := by decide +kernel
theorem dX7_street_29 : decode cX7_street 29 = .ok (.ireturn, 1) := by decide +kernel
theorem dX7_street_30 : decode cX7_street 30 = .ok (.aload_n 0, 1) := by decide +kernel
theorem dX7_street_31 : decode cX7_street 31 = .ok (.getfield 25, 3) := by decide +kernel
theorem dX7_street_34 : decode cX7_street 34 = .ok (.iconst 0, 1) := by decide +kernel
theorem dX7_street_35 : decode cX7_street 35 = .ok (.aload_n 0, 1) := by decide +kernel
theorem dX7_street_36 : decode cX7_street 36 = .ok (.getfield 22, 3) := by decide +kernel
theorem dX7_street_39 : decode cX7_street 39 = .ok (.iconst 0, 1) := by decide +kernel
theorem dX7_street_40 : decode cX7_street 40 = .ok (.invokestatic 126, 3) := by decide +kernel
theorem dX7_street_43 : decode cX7_street 43 = .ok (.aload_n 0, 1) := by decide +kernel
theorem dX7_street_44 : decode cX7_street 44 = .ok (.iconst 0, 1) := by decide +kernel
theorem dX7_street_45 : decode cX7_street 45 = .ok (.putfield 130, 3) := by decide +kernel
theorem dX7_street_48 : decode cX7_street 48 = .ok (.aload_n 0, 1) := by decide +kernel
theorem dX7_street_49 : decode cX7_street 49 = .ok (.getfield 22, 3) := by decide +kernel
theorem dX7_street_52 : decode cX7_street 52 = .ok (.iconst 3, 1) := by decide +kernel
theorem dX7_street_53 : decode cX7_street 53 = .ok (.iaload, 1) := by decide +kernel
theorem dX7_street_54 : decode cX7_street 54 = .ok (.ireturn, 1) := by decide +kernel
theorem dX7_fault_0 : decode cX7_fault 0 = .ok (.aload_n 0, 1) := by decide +kernel
theorem dX7_fault_1 : decode cX7_fault 1 = .ok (.getfield 122, 3) := by decide +kernel
theorem dX7_fault_4 : decode cX7_fault 4 = .ok (.ireturn, 1) := by decide +kernel
theorem dX7_lay_0 : decode cX7_lay 0 = .ok (.iconst 0, 1) := by decide +kernel
theorem dX7_lay_1 : decode cX7_lay 1 = .ok (.istore 4, 2) := by decide +kernel
theorem dX7_lay_3 : decode cX7_lay 3 = .ok (.iload 4, 2) := by decide +kernel
theorem dX7_lay_5 : decode cX7_lay 5 = .ok (.bipush 53, 2) := by decide +kernel
theorem dX7_lay_7 : decode cX7_lay 7 = .ok (.if_icmp .ge 21, 3) := by decide +kernel
theorem dX7_lay_10 : decode cX7_lay 10 = .ok (.aload_n 2, 1) := by decide +kernel
theorem dX7_lay_11 : decode cX7_lay 11 = .ok (.iload_n 3, 1) := by decide +kernel
theorem dX7_lay_12 : decode cX7_lay 12 = .ok (.iload 4, 2) := by decide +kernel
theorem dX7_lay_14 : decode cX7_lay 14 = .ok (.iadd, 1) := by decide +kernel
theorem dX7_lay_15 : decode cX7_lay 15 = .ok (.aload_n 0, 1) := by decide +kernel
theorem dX7_lay_16 : decode cX7_lay 16 = .ok (.iload_n 1, 1) := by decide +kernel
theorem dX7_lay_17 : decode cX7_lay 17 = .ok (.iload 4, 2) := by decide +kernel
theorem dX7_lay_19 : decode cX7_lay 19 = .ok (.iadd, 1) := by decide +kernel
theorem dX7_lay_20 : decode cX7_lay 20 = .ok (.iaload, 1) := by decide +kernel
theorem dX7_lay_21 : decode cX7_lay 21 = .ok (.iastore, 1) := by decide +kernel
theorem dX7_lay_22 : decode cX7_lay 22 = .ok (.iinc 4 1, 3) := by decide +kernel
theorem dX7_lay_25 : decode cX7_lay 25 = .ok (.goto (-22), 3) := by decide +kernel
theorem dX7_lay_28 : decode cX7_lay 28 = .ok (.return_, 1) := by decide +kernel
theorem dX7_isStreet_0 : decode cX7_isStreet 0 = .ok (.aload_n 0, 1) := by decide +kernel
theorem dX7_isStreet_1 : decode cX7_isStreet 1 = .ok (.getfield 22, 3) := by decide +kernel
theorem dX7_isStreet_4 : decode cX7_isStreet 4 = .ok (.iconst 2, 1) := by decide +kernel
theorem dX7_isStreet_5 : decode cX7_isStreet 5 = .ok (.iaload, 1) := by decide +kernel
theorem dX7_isStreet_6 : decode cX7_isStreet 6 = .ok (.ifCond .le 7, 3) := by decide +kernel
theorem dX7_isStreet_9 : decode cX7_isStreet 9 = .ok (.iconst 1, 1) := by decide +kernel
theorem dX7_isStreet_10 : decode cX7_isStreet 10 = .ok (.goto 4, 3) := by decide +kernel
theorem dX7_isStreet_13 : decode cX7_isStreet 13 = .ok (.iconst 0, 1) := by decide +kernel
theorem dX7_isStreet_14 : decode cX7_isStreet 14 = .ok (.ireturn, 1) := by decide +kernel
theorem dX7_isDoorAt_0 : decode cX7_isDoorAt 0 = .ok (.iload_n 1, 1) := by decide +kernel
theorem dX7_isDoorAt_1 : decode cX7_isDoorAt 1 = .ok (.iconst 0, 1) := by decide +kernel
theorem dX7_isDoorAt_2 : decode cX7_isDoorAt 2 = .ok (.aload_n 0, 1) := by decide +kernel
theorem dX7_isDoorAt_3 : decode cX7_isDoorAt 3 = .ok (.getfield 22, 3) := by decide +kernel
theorem dX7_isDoorAt_6 : decode cX7_isDoorAt 6 = .ok (.iconst 2, 1) := by decide +kernel
theorem dX7_isDoorAt_7 : decode cX7_isDoorAt 7 = .ok (.iaload, 1) := by decide +kernel
theorem dX7_isDoorAt_8 : decode cX7_isDoorAt 8 = .ok (.iconst 1, 1) := by decide +kernel
theorem dX7_isDoorAt_9 : decode cX7_isDoorAt 9 = .ok (.isub, 1) := by decide +kernel
theorem dX7_isDoorAt_10 : decode cX7_isDoorAt 10 = .ok (.invokestatic 55, 3) := by decide +kernel
theorem dX7_isDoorAt_13 : decode cX7_isDoorAt 13 = .ok (.ireturn, 1) := by decide +kernel
theorem dX7_isOne_0 : decode cX7_isOne 0 = .ok (.iload_n 1, 1) := by decide +kernel
theorem dX7_isOne_1 : decode cX7_isOne 1 = .ok (.iconst 0, 1) := by decide +kernel
theorem dX7_isOne_2 : decode cX7_isOne 2 = .ok (.aload_n 0, 1) := by decide +kernel
theorem dX7_isOne_3 : decode cX7_isOne 3 = .ok (.getfield 22, 3) := by decide +kernel
theorem dX7_isOne_6 : decode cX7_isOne 6 = .ok (.iconst 3, 1) := by decide +kernel
theorem dX7_isOne_7 : decode cX7_isOne 7 = .ok (.iaload, 1) := by decide +kernel
theorem dX7_isOne_8 : decode cX7_isOne 8 = .ok (.iconst 1, 1) := by decide +kernel
theorem dX7_isOne_9 : decode cX7_isOne 9 = .ok (.isub, 1) := by decide +kernel
theorem dX7_isOne_10 : decode cX7_isOne 10 = .ok (.invokestatic 55, 3) := by decide +kernel
theorem dX7_isOne_13 : decode cX7_isOne 13 = .ok (.ireturn, 1) := by decide +kernel
theorem dX7_isHeard_0 : decode cX7_isHeard 0 = .ok (.iload_n 1, 1) := by decide +kernel
theorem dX7_isHeard_1 : decode cX7_isHeard 1 = .ok (.ifCond .le 19, 3) := by decide +kernel
theorem dX7_isHeard_4 : decode cX7_isHeard 4 = .ok (.aload_n 0, 1) := by decide +kernel
theorem dX7_isHeard_5 : decode cX7_isHeard 5 = .ok (.bipush 23, 2) := by decide +kernel
theorem dX7_isHeard_7 : decode cX7_isHeard 7 = .ok (.iload_n 1, 1) := by decide +kernel
theorem dX7_isHeard_8 : decode cX7_isHeard 8 = .ok (.iadd, 1) := by decide +kernel
theorem dX7_isHeard_9 : decode cX7_isHeard 9 = .ok (.iconst 1, 1) := by decide +kernel
theorem dX7_isHeard_10 : decode cX7_isHeard 10 = .ok (.isub, 1) := by decide +kernel
theorem dX7_isHeard_11 : decode cX7_isHeard 11 = .ok (.iaload, 1) := by decide +kernel
theorem dX7_isHeard_12 : decode cX7_isHeard 12 = .ok (.iconst 1, 1) := by decide +kernel
theorem dX7_isHeard_13 : decode cX7_isHeard 13 = .ok (.if_icmp .ne 7, 3) := by decide +kernel
theorem dX7_isHeard_16 : decode cX7_isHeard 16 = .ok (.iconst 1, 1) := by decide +kernel
theorem dX7_isHeard_17 : decode cX7_isHeard 17 = .ok (.goto 4, 3) := by decide +kernel
theorem dX7_isHeard_20 : decode cX7_isHeard 20 = .ok (.iconst 0, 1) := by decide +kernel
theorem dX7_isHeard_21 : decode cX7_isHeard 21 = .ok (.istore_n 2, 1) := by decide +kernel
theorem dX7_isHeard_22 : decode cX7_isHeard 22 = .ok (.iload_n 1, 1) := by decide +kernel
theorem dX7_isHeard_23 : decode cX7_isHeard 23 = .ok (.iconst 1, 1) := by decide +kernel
theorem dX7_isHeard_24 : decode cX7_isHeard 24 = .ok (.iadd, 1) := by decide +kernel
theorem dX7_isHeard_25 : decode cX7_isHeard 25 = .ok (.aload_n 0, 1) := by decide +kernel
theorem dX7_isHeard_26 : decode cX7_isHeard 26 = .ok (.iconst 2, 1) := by decide +kernel
theorem dX7_isHeard_27 : decode cX7_isHeard 27 = .ok (.iaload, 1) := by decide +kernel
theorem dX7_isHeard_28 : decode cX7_isHeard 28 = .ok (.if_icmp .ge 19, 3) := by decide +kernel
theorem dX7_isHeard_31 : decode cX7_isHeard 31 = .ok (.aload_n 0, 1) := by decide +kernel
theorem dX7_isHeard_32 : decode cX7_isHeard 32 = .ok (.bipush 23, 2) := by decide +kernel
theorem dX7_isHeard_34 : decode cX7_isHeard 34 = .ok (.iload_n 1, 1) := by decide +kernel
theorem dX7_isHeard_35 : decode cX7_isHeard 35 = .ok (.iadd, 1) := by decide +kernel
theorem dX7_isHeard_36 : decode cX7_isHeard 36 = .ok (.iconst 1, 1) := by decide +kernel
theorem dX7_isHeard_37 : decode cX7_isHeard 37 = .ok (.iadd, 1) := by decide +kernel
theorem dX7_isHeard_38 : decode cX7_isHeard 38 = .ok (.iaload, 1) := by decide +kernel
theorem dX7_isHeard_39 : decode cX7_isHeard 39 = .ok (.iconst 1, 1) := by decide +kernel
theorem dX7_isHeard_40 : decode cX7_isHeard 40 = .ok (.if_icmp .ne 7, 3) := by decide +kernel
theorem dX7_isHeard_43 : decode cX7_isHeard 43 = .ok (.iconst 1, 1) := by decide +kernel
theorem dX7_isHeard_44 : decode cX7_isHeard 44 = .ok (.goto 4, 3) := by decide +kernel
theorem dX7_isHeard_47 : decode cX7_isHeard 47 = .ok (.iconst 0, 1) := by decide +kernel
theorem dX7_isHeard_48 : decode cX7_isHeard 48 = .ok (.istore_n 3, 1) := by decide +kernel
theorem dX7_isHeard_49 : decode cX7_isHeard 49 = .ok (.aload_n 0, 1) := by decide +kernel
theorem dX7_isHeard_50 : decode cX7_isHeard 50 = .ok (.bipush 23, 2) := by decide +kernel
theorem dX7_isHeard_52 : decode cX7_isHeard 52 = .ok (.iload_n 1, 1) := by decide +kernel
theorem dX7_isHeard_53 : decode cX7_isHeard 53 = .ok (.iadd, 1) := by decide +kernel
theorem dX7_isHeard_54 : decode cX7_isHeard 54 = .ok (.iaload, 1) := by decide +kernel
theorem dX7_isHeard_55 : decode cX7_isHeard 55 = .ok (.iconst 1, 1) := by decide +kernel
theorem dX7_isHeard_56 : decode cX7_isHeard 56 = .ok (.if_icmp .eq 11, 3) := by decide +kernel
theorem dX7_isHeard_59 : decode cX7_isHeard 59 = .ok (.iload_n 2, 1) := by decide +kernel
theorem dX7_isHeard_60 : decode cX7_isHeard 60 = .ok (.ifCond .ne 7, 3) := by decide +kernel
theorem dX7_isHeard_63 : decode cX7_isHeard 63 = .ok (.iload_n 3, 1) := by decide +kernel
theorem dX7_isHeard_64 : decode cX7_isHeard 64 = .ok (.ifCond .eq 7, 3) := by decide +kernel
theorem dX7_isHeard_67 : decode cX7_isHeard 67 = .ok (.iconst 1, 1) := by decide +kernel
theorem dX7_isHeard_68 : decode cX7_isHeard 68 = .ok (.goto 4, 3) := by decide +kernel
theorem dX7_isHeard_71 : decode cX7_isHeard 71 = .ok (.iconst 0, 1) := by decide +kernel
theorem dX7_isHeard_72 : decode cX7_isHeard 72 = .ok (.ireturn, 1) := by decide +kernel
theorem dX7_opensAt_0 : decode cX7_opensAt 0 = .ok (.iload_n 0, 1) := by decide +kernel
theorem dX7_opensAt_1 : decode cX7_opensAt 1 = .ok (.iload_n 1, 1) := by decide +kernel
theorem dX7_opensAt_2 : decode cX7_opensAt 2 = .ok (.iadd, 1) := by decide +kernel
theorem dX7_opensAt_3 : decode cX7_opensAt 3 = .ok (.iload_n 3, 1) := by decide +kernel
theorem dX7_opensAt_4 : decode cX7_opensAt 4 = .ok (.ifCond .eq 7, 3) := by decide +kernel
theorem dX7_opensAt_7 : decode cX7_opensAt 7 = .ok (.iconst 2, 1) := by decide +kernel
theorem dX7_opensAt_8 : decode cX7_opensAt 8 = .ok (.goto 4, 3) := by decide +kernel
theorem dX7_opensAt_11 : decode cX7_opensAt 11 = .ok (.iconst 0, 1) := by decide +kernel
theorem dX7_opensAt_12 : decode cX7_opensAt 12 = .ok (.iadd, 1) := by decide +kernel
theorem dX7_opensAt_13 : decode cX7_opensAt 13 = .ok (.iload_n 2, 1) := by decide +kernel
theorem dX7_opensAt_14 : decode cX7_opensAt 14 = .ok (.isub, 1) := by decide +kernel
theorem dX7_opensAt_15 : decode cX7_opensAt 15 = .ok (.istore 4, 2) := by decide +kernel
theorem dX7_opensAt_17 : decode cX7_opensAt 17 = .ok (.iload 4, 2) := by decide +kernel
theorem dX7_opensAt_19 : decode cX7_opensAt 19 = .ok (.ifCond .ge 7, 3) := by decide +kernel
theorem dX7_opensAt_22 : decode cX7_opensAt 22 = .ok (.iconst 0, 1) := by decide +kernel
theorem dX7_opensAt_23 : decode cX7_opensAt 23 = .ok (.goto 5, 3) := by decide +kernel
theorem dX7_opensAt_26 : decode cX7_opensAt 26 = .ok (.iload 4, 2) := by decide +kernel
theorem dX7_opensAt_28 : decode cX7_opensAt 28 = .ok (.ireturn, 1) := by decide +kernel
theorem dX7_staysAt_0 : decode cX7_staysAt 0 = .ok (.iload_n 1, 1) := by decide +kernel
theorem dX7_staysAt_1 : decode cX7_staysAt 1 = .ok (.iconst 2, 1) := by decide +kernel
theorem dX7_staysAt_2 : decode cX7_staysAt 2 = .ok (.iload_n 3, 1) := by decide +kernel
theorem dX7_staysAt_3 : decode cX7_staysAt 3 = .ok (.imul, 1) := by decide +kernel
theorem dX7_staysAt_4 : decode cX7_staysAt 4 = .ok (.iadd, 1) := by decide +kernel
theorem dX7_staysAt_5 : decode cX7_staysAt 5 = .ok (.istore 5, 2) := by decide +kernel
theorem dX7_staysAt_7 : decode cX7_staysAt 7 = .ok (.iload_n 1, 1) := by decide +kernel
theorem dX7_staysAt_8 : decode cX7_staysAt 8 = .ok (.iconst 3, 1) := by decide +kernel
theorem dX7_staysAt_9 : decode cX7_staysAt 9 = .ok (.if_icmp .le 7, 3) := by decide +kernel
theorem dX7_staysAt_12 : decode cX7_staysAt 12 = .ok (.iconst 3, 1) := by decide +kernel
theorem dX7_staysAt_13 : decode cX7_staysAt 13 = .ok (.goto 4, 3) := by decide +kernel
theorem dX7_staysAt_16 : decode cX7_staysAt 16 = .ok (.iload_n 1, 1) := by decide +kernel
theorem dX7_staysAt_17 : decode cX7_staysAt 17 = .ok (.istore 6, 2) := by decide +kernel
theorem dX7_staysAt_19 : decode cX7_staysAt 19 = .ok (.iload_n 0, 1) := by decide +kernel
theorem dX7_staysAt_20 : decode cX7_staysAt 20 = .ok (.tableswitch 48 1 4 #[32, 35, 40, 45], 32) := by decide +kernel
theorem dX7_staysAt_52 : decode cX7_staysAt 52 = .ok (.iload 5, 2) := by decide +kernel
theorem dX7_staysAt_54 : decode cX7_staysAt 54 = .ok (.ireturn, 1) := by decide +kernel
theorem dX7_staysAt_55 : decode cX7_staysAt 55 = .ok (.iload 5, 2) := by decide +kernel
theorem dX7_staysAt_57 : decode cX7_staysAt 57 = .ok (.iload_n 2, 1) := by decide +kernel
theorem dX7_staysAt_58 : decode cX7_staysAt 58 = .ok (.iadd, 1) := by decide +kernel
theorem dX7_staysAt_59 : decode cX7_staysAt 59 = .ok (.ireturn, 1) := by decide +kernel
theorem dX7_staysAt_60 : decode cX7_staysAt 60 = .ok (.iconst 2, 1) := by decide +kernel
theorem dX7_staysAt_61 : decode cX7_staysAt 61 = .ok (.iload 5, 2) := by decide +kernel
theorem dX7_staysAt_63 : decode cX7_staysAt 63 = .ok (.imul, 1) := by decide +kernel
theorem dX7_staysAt_64 : decode cX7_staysAt 64 = .ok (.ireturn, 1) := by decide +kernel
theorem dX7_staysAt_65 : decode cX7_staysAt 65 = .ok (.iload 6, 2) := by decide +kernel
theorem dX7_staysAt_67 : decode cX7_staysAt 67 = .ok (.ireturn, 1) := by decide +kernel
theorem dX7_staysAt_68 : decode cX7_staysAt 68 = .ok (.iload 4, 2) := by decide +kernel
theorem dX7_staysAt_70 : decode cX7_staysAt 70 = .ok (.ifCond .eq 13, 3) := by decide +kernel
theorem dX7_staysAt_73 : decode cX7_staysAt 73 = .ok (.iload 6, 2) := by decide +kernel
theorem dX7_staysAt_75 : decode cX7_staysAt 75 = .ok (.iconst 1, 1) := by decide +kernel
theorem dX7_staysAt_76 : decode cX7_staysAt 76 = .ok (.if_icmp .le 7, 3) := by decide +kernel
theorem dX7_staysAt_79 : decode cX7_staysAt 79 = .ok (.iconst 1, 1) := by decide +kernel
theorem dX7_staysAt_80 : decode cX7_staysAt 80 = .ok (.goto 5, 3) := by decide +kernel
theorem dX7_staysAt_83 : decode cX7_staysAt 83 = .ok (.iload 6, 2) := by decide +kernel
theorem dX7_staysAt_85 : decode cX7_staysAt 85 = .ok (.ireturn, 1) := by decide +kernel
theorem dX7_opensOf_0 : decode cX7_opensOf 0 = .ok (.aload_n 0, 1) := by decide +kernel
theorem dX7_opensOf_1 : decode cX7_opensOf 1 = .ok (.iconst 5, 1) := by decide +kernel
theorem dX7_opensOf_2 : decode cX7_opensOf 2 = .ok (.iload_n 1, 1) := by decide +kernel
theorem dX7_opensOf_3 : decode cX7_opensOf 3 = .ok (.iadd, 1) := by decide +kernel
theorem dX7_opensOf_4 : decode cX7_opensOf 4 = .ok (.iaload, 1) := by decide +kernel
theorem dX7_opensOf_5 : decode cX7_opensOf 5 = .ok (.aload_n 0, 1) := by decide +kernel
theorem dX7_opensOf_6 : decode cX7_opensOf 6 = .ok (.bipush 11, 2) := by decide +kernel
theorem dX7_opensOf_8 : decode cX7_opensOf 8 = .ok (.iload_n 1, 1) := by decide +kernel
theorem dX7_opensOf_9 : decode cX7_opensOf 9 = .ok (.iadd, 1) := by decide +kernel
theorem dX7_opensOf_10 : decode cX7_opensOf 10 = .ok (.iaload, 1) := by decide +kernel
theorem dX7_opensOf_11 : decode cX7_opensOf 11 = .ok (.aload_n 0, 1) := by decide +kernel
theorem dX7_opensOf_12 : decode cX7_opensOf 12 = .ok (.bipush 17, 2) := by decide +kernel
theorem dX7_opensOf_14 : decode cX7_opensOf 14 = .ok (.iload_n 1, 1) := by decide +kernel
theorem dX7_opensOf_15 : decode cX7_opensOf 15 = .ok (.iadd, 1) := by decide +kernel
theorem dX7_opensOf_16 : decode cX7_opensOf 16 = .ok (.iaload, 1) := by decide +kernel
theorem dX7_opensOf_17 : decode cX7_opensOf 17 = .ok (.aload_n 0, 1) := by decide +kernel
theorem dX7_opensOf_18 : decode cX7_opensOf 18 = .ok (.iload_n 1, 1) := by decide +kernel
theorem dX7_opensOf_19 : decode cX7_opensOf 19 = .ok (.invokestatic 133, 3) := by decide +kernel
theorem dX7_opensOf_22 : decode cX7_opensOf 22 = .ok (.invokestatic 137, 3) := by decide +kernel
theorem dX7_opensOf_25 : decode cX7_opensOf 25 = .ok (.ireturn, 1) := by decide +kernel
theorem dX7_staysOf_0 : decode cX7_staysOf 0 = .ok (.aload_n 0, 1) := by decide +kernel
theorem dX7_staysOf_1 : decode cX7_staysOf 1 = .ok (.bipush 41, 2) := by decide +kernel
theorem dX7_staysOf_3 : decode cX7_staysOf 3 = .ok (.iload_n 1, 1) := by decide +kernel
theorem dX7_staysOf_4 : decode cX7_staysOf 4 = .ok (.iadd, 1) := by decide +kernel
theorem dX7_staysOf_5 : decode cX7_staysOf 5 = .ok (.iaload, 1) := by decide +kernel
theorem dX7_staysOf_6 : decode cX7_staysOf 6 = .ok (.istore_n 2, 1) := by decide +kernel
theorem dX7_staysOf_7 : decode cX7_staysOf 7 = .ok (.aload_n 0, 1) := by decide +kernel
theorem dX7_staysOf_8 : decode cX7_staysOf 8 = .ok (.bipush 29, 2) := by decide +kernel
theorem dX7_staysOf_10 : decode cX7_staysOf 10 = .ok (.iload_n 1, 1) := by decide +kernel
theorem dX7_staysOf_11 : decode cX7_staysOf 11 = .ok (.iadd, 1) := by decide +kernel
theorem dX7_staysOf_12 : decode cX7_staysOf 12 = .ok (.iaload, 1) := by decide +kernel
theorem dX7_staysOf_13 : decode cX7_staysOf 13 = .ok (.aload_n 0, 1) := by decide +kernel
theorem dX7_staysOf_14 : decode cX7_staysOf 14 = .ok (.bipush 35, 2) := by decide +kernel
theorem dX7_staysOf_16 : decode cX7_staysOf 16 = .ok (.iload_n 1, 1) := by decide +kernel
theorem dX7_staysOf_17 : decode cX7_staysOf 17 = .ok (.iadd, 1) := by decide +kernel
theorem dX7_staysOf_18 : decode cX7_staysOf 18 = .ok (.iaload, 1) := by decide +kernel
theorem dX7_staysOf_19 : decode cX7_staysOf 19 = .ok (.aload_n 0, 1) := by decide +kernel
theorem dX7_staysOf_20 : decode cX7_staysOf 20 = .ok (.bipush 11, 2) := by decide +kernel
theorem dX7_staysOf_22 : decode cX7_staysOf 22 = .ok (.iload_n 2, 1) := by decide +kernel
theorem dX7_staysOf_23 : decode cX7_staysOf 23 = .ok (.iadd, 1) := by decide +kernel
theorem dX7_staysOf_24 : decode cX7_staysOf 24 = .ok (.iaload, 1) := by decide +kernel
theorem dX7_staysOf_25 : decode cX7_staysOf 25 = .ok (.aload_n 0, 1) := by decide +kernel
theorem dX7_staysOf_26 : decode cX7_staysOf 26 = .ok (.bipush 17, 2) := by decide +kernel
theorem dX7_staysOf_28 : decode cX7_staysOf 28 = .ok (.iload_n 2, 1) := by decide +kernel
theorem dX7_staysOf_29 : decode cX7_staysOf 29 = .ok (.iadd, 1) := by decide +kernel
theorem dX7_staysOf_30 : decode cX7_staysOf 30 = .ok (.iaload, 1) := by decide +kernel
theorem dX7_staysOf_31 : decode cX7_staysOf 31 = .ok (.aload_n 0, 1) := by decide +kernel
theorem dX7_staysOf_32 : decode cX7_staysOf 32 = .ok (.iload_n 2, 1) := by decide +kernel
theorem dX7_staysOf_33 : decode cX7_staysOf 33 = .ok (.invokestatic 133, 3) := by decide +kernel
theorem dX7_staysOf_36 : decode cX7_staysOf 36 = .ok (.invokestatic 141, 3) := by decide +kernel
theorem dX7_staysOf_39 : decode cX7_staysOf 39 = .ok (.ireturn, 1) := by decide +kernel
theorem dX7_doesMeet_0 : decode cX7_doesMeet 0 = .ok (.aload_n 0, 1) := by decide +kernel
theorem dX7_doesMeet_1 : decode cX7_doesMeet 1 = .ok (.aload_n 0, 1) := by decide +kernel
theorem dX7_doesMeet_2 : decode cX7_doesMeet 2 = .ok (.bipush 41, 2) := by decide +kernel
theorem dX7_doesMeet_4 : decode cX7_doesMeet 4 = .ok (.iload_n 1, 1) := by decide +kernel
theorem dX7_doesMeet_5 : decode cX7_doesMeet 5 = .ok (.iadd, 1) := by decide +kernel
theorem dX7_doesMeet_6 : decode cX7_doesMeet 6 = .ok (.iaload, 1) := by decide +kernel
theorem dX7_doesMeet_7 : decode cX7_doesMeet 7 = .ok (.invokestatic 145, 3) := by decide +kernel
theorem dX7_doesMeet_10 : decode cX7_doesMeet 10 = .ok (.aload_n 0, 1) := by decide +kernel
theorem dX7_doesMeet_11 : decode cX7_doesMeet 11 = .ok (.iload_n 1, 1) := by decide +kernel
theorem dX7_doesMeet_12 : decode cX7_doesMeet 12 = .ok (.invokestatic 149, 3) := by decide +kernel
theorem dX7_doesMeet_15 : decode cX7_doesMeet 15 = .ok (.if_icmp .gt 7, 3) := by decide +kernel
theorem dX7_doesMeet_18 : decode cX7_doesMeet 18 = .ok (.iconst 1, 1) := by decide +kernel
theorem dX7_doesMeet_19 : decode cX7_doesMeet 19 = .ok (.goto 4, 3) := by decide +kernel
theorem dX7_doesMeet_22 : decode cX7_doesMeet 22 = .ok (.iconst 0, 1) := by decide +kernel
theorem dX7_doesMeet_23 : decode cX7_doesMeet 23 = .ok (.ireturn, 1) := by decide +kernel
theorem dX7_meetersOf_0 : decode cX7_meetersOf 0 = .ok (.iconst 0, 1) := by decide +kernel
theorem dX7_meetersOf_1 : decode cX7_meetersOf 1 = .ok (.istore_n 1, 1) := by decide +kernel
theorem dX7_meetersOf_2 : decode cX7_meetersOf 2 = .ok (.iconst 0, 1) := by decide +kernel
theorem dX7_meetersOf_3 : decode cX7_meetersOf 3 = .ok (.istore_n 2, 1) := by decide +kernel
theorem dX7_meetersOf_4 : decode cX7_meetersOf 4 = .ok (.iload_n 2, 1) := by decide +kernel
theorem dX7_meetersOf_5 : decode cX7_meetersOf 5 = .ok (.aload_n 0, 1) := by decide +kernel
theorem dX7_meetersOf_6 : decode cX7_meetersOf 6 = .ok (.iconst 3, 1) := by decide +kernel
theorem dX7_meetersOf_7 : decode cX7_meetersOf 7 = .ok (.iaload, 1) := by decide +kernel
theorem dX7_meetersOf_8 : decode cX7_meetersOf 8 = .ok (.if_icmp .ge 27, 3) := by decide +kernel
theorem dX7_meetersOf_11 : decode cX7_meetersOf 11 = .ok (.iload_n 1, 1) := by decide +kernel
theorem dX7_meetersOf_12 : decode cX7_meetersOf 12 = .ok (.aload_n 0, 1) := by decide +kernel
theorem dX7_meetersOf_13 : decode cX7_meetersOf 13 = .ok (.iload_n 2, 1) := by decide +kernel
theorem dX7_meetersOf_14 : decode cX7_meetersOf 14 = .ok (.invokestatic 152, 3) := by decide +kernel
theorem dX7_meetersOf_17 : decode cX7_meetersOf 17 = .ok (.ifCond .eq 9, 3) := by decide +kernel
theorem dX7_meetersOf_20 : decode cX7_meetersOf 20 = .ok (.iconst 1, 1) := by decide +kernel
theorem dX7_meetersOf_21 : decode cX7_meetersOf 21 = .ok (.iload_n 2, 1) := by decide +kernel
theorem dX7_meetersOf_22 : decode cX7_meetersOf 22 = .ok (.ishl, 1) := by decide +kernel
theorem dX7_meetersOf_23 : decode cX7_meetersOf 23 = .ok (.goto 4, 3) := by decide +kernel
theorem dX7_meetersOf_26 : decode cX7_meetersOf 26 = .ok (.iconst 0, 1) := by decide +kernel
theorem dX7_meetersOf_27 : decode cX7_meetersOf 27 = .ok (.ior, 1) := by decide +kernel
theorem dX7_meetersOf_28 : decode cX7_meetersOf 28 = .ok (.istore_n 1, 1) := by decide +kernel
theorem dX7_meetersOf_29 : decode cX7_meetersOf 29 = .ok (.iinc 2 1, 3) := by decide +kernel
theorem dX7_meetersOf_32 : decode cX7_meetersOf 32 = .ok (.goto (-28), 3) := by decide +kernel
theorem dX7_meetersOf_35 : decode cX7_meetersOf 35 = .ok (.iload_n 1, 1) := by decide +kernel
theorem dX7_meetersOf_36 : decode cX7_meetersOf 36 = .ok (.ireturn, 1) := by decide +kernel
theorem dX7_pass_0 : decode cX7_pass 0 = .ok (.aload_n 0, 1) := by decide +kernel
theorem dX7_pass_1 : decode cX7_pass 1 = .ok (.invokestatic 155, 3) := by decide +kernel
theorem dX7_pass_4 : decode cX7_pass 4 = .ok (.istore_n 1, 1) := by decide +kernel
theorem dX7_pass_5 : decode cX7_pass 5 = .ok (.iconst 0, 1) := by decide +kernel
theorem dX7_pass_6 : decode cX7_pass 6 = .ok (.istore_n 2, 1) := by decide +kernel
theorem dX7_pass_7 : decode cX7_pass 7 = .ok (.iload_n 2, 1) := by decide +kernel
theorem dX7_pass_8 : decode cX7_pass 8 = .ok (.aload_n 0, 1) := by decide +kernel
theorem dX7_pass_9 : decode cX7_pass 9 = .ok (.iconst 3, 1) := by decide +kernel
theorem dX7_pass_10 : decode cX7_pass 10 = .ok (.iaload, 1) := by decide +kernel
theorem dX7_pass_11 : decode cX7_pass 11 = .ok (.if_icmp .ge 48, 3) := by decide +kernel
theorem dX7_pass_14 : decode cX7_pass 14 = .ok (.iload_n 1, 1) := by decide +kernel
theorem dX7_pass_15 : decode cX7_pass 15 = .ok (.iload_n 2, 1) := by decide +kernel
theorem dX7_pass_16 : decode cX7_pass 16 = .ok (.invokestatic 159, 3) := by decide +kernel
theorem dX7_pass_19 : decode cX7_pass 19 = .ok (.ifCond .eq 16, 3) := by decide +kernel
theorem dX7_pass_22 : decode cX7_pass 22 = .ok (.aload_n 0, 1) := by decide +kernel
theorem dX7_pass_23 : decode cX7_pass 23 = .ok (.bipush 47, 2) := by decide +kernel
theorem dX7_pass_25 : decode cX7_pass 25 = .ok (.iload_n 2, 1) := by decide +kernel
theorem dX7_pass_26 : decode cX7_pass 26 = .ok (.iadd, 1) := by decide +kernel
theorem dX7_pass_27 : decode cX7_pass 27 = .ok (.dup2, 1) := by decide +kernel
theorem dX7_pass_28 : decode cX7_pass 28 = .ok (.iaload, 1) := by decide +kernel
theorem dX7_pass_29 : decode cX7_pass 29 = .ok (.iconst 1, 1) := by decide +kernel
theorem dX7_pass_30 : decode cX7_pass 30 = .ok (.iadd, 1) := by decide +kernel
theorem dX7_pass_31 : decode cX7_pass 31 = .ok (.iastore, 1) := by decide +kernel
theorem dX7_pass_32 : decode cX7_pass 32 = .ok (.goto 21, 3) := by decide +kernel
theorem dX7_pass_35 : decode cX7_pass 35 = .ok (.aload_n 0, 1) := by decide +kernel
theorem dX7_pass_36 : decode cX7_pass 36 = .ok (.bipush 41, 2) := by decide +kernel
theorem dX7_pass_38 : decode cX7_pass 38 = .ok (.iload_n 2, 1) := by decide +kernel
theorem dX7_pass_39 : decode cX7_pass 39 = .ok (.iadd, 1) := by decide +kernel
theorem dX7_pass_40 : decode cX7_pass 40 = .ok (.aload_n 0, 1) := by decide +kernel
theorem dX7_pass_41 : decode cX7_pass 41 = .ok (.bipush 41, 2) := by decide +kernel
theorem dX7_pass_43 : decode cX7_pass 43 = .ok (.iload_n 2, 1) := by decide +kernel
theorem dX7_pass_44 : decode cX7_pass 44 = .ok (.iadd, 1) := by decide +kernel
theorem dX7_pass_45 : decode cX7_pass 45 = .ok (.iaload, 1) := by decide +kernel
theorem dX7_pass_46 : decode cX7_pass 46 = .ok (.iconst 1, 1) := by decide +kernel
theorem dX7_pass_47 : decode cX7_pass 47 = .ok (.iadd, 1) := by decide +kernel
theorem dX7_pass_48 : decode cX7_pass 48 = .ok (.aload_n 0, 1) := by decide +kernel
theorem dX7_pass_49 : decode cX7_pass 49 = .ok (.iconst 2, 1) := by decide +kernel
theorem dX7_pass_50 : decode cX7_pass 50 = .ok (.iaload, 1) := by decide +kernel
theorem dX7_pass_51 : decode cX7_pass 51 = .ok (.irem, 1) := by decide +kernel
theorem dX7_pass_52 : decode cX7_pass 52 = .ok (.iastore, 1) := by decide +kernel
theorem dX7_pass_53 : decode cX7_pass 53 = .ok (.iinc 2 1, 3) := by decide +kernel
theorem dX7_pass_56 : decode cX7_pass 56 = .ok (.goto (-49), 3) := by decide +kernel
theorem dX7_pass_59 : decode cX7_pass 59 = .ok (.aload_n 0, 1) := by decide +kernel
theorem dX7_pass_60 : decode cX7_pass 60 = .ok (.iconst 4, 1) := by decide +kernel
theorem dX7_pass_61 : decode cX7_pass 61 = .ok (.dup2, 1) := by decide +kernel
theorem dX7_pass_62 : decode cX7_pass 62 = .ok (.iaload, 1) := by decide +kernel
theorem dX7_pass_63 : decode cX7_pass 63 = .ok (.iconst 1, 1) := by decide +kernel
theorem dX7_pass_64 : decode cX7_pass 64 = .ok (.iadd, 1) := by decide +kernel
theorem dX7_pass_65 : decode cX7_pass 65 = .ok (.iastore, 1) := by decide +kernel
theorem dX7_pass_66 : decode cX7_pass 66 = .ok (.iload_n 1, 1) := by decide +kernel
theorem dX7_pass_67 : decode cX7_pass 67 = .ok (.ireturn, 1) := by decide +kernel
theorem dX7_callersAt_0 : decode cX7_callersAt 0 = .ok (.iconst 0, 1) := by decide +kernel
theorem dX7_callersAt_1 : decode cX7_callersAt 1 = .ok (.istore_n 2, 1) := by decide +kernel
theorem dX7_callersAt_2 : decode cX7_callersAt 2 = .ok (.iconst 0, 1) := by decide +kernel
theorem dX7_callersAt_3 : decode cX7_callersAt 3 = .ok (.istore_n 3, 1) := by decide +kernel
theorem dX7_callersAt_4 : decode cX7_callersAt 4 = .ok (.iload_n 3, 1) := by decide +kernel
theorem dX7_callersAt_5 : decode cX7_callersAt 5 = .ok (.aload_n 0, 1) := by decide +kernel
theorem dX7_callersAt_6 : decode cX7_callersAt 6 = .ok (.getfield 22, 3) := by decide +kernel
theorem dX7_callersAt_9 : decode cX7_callersAt 9 = .ok (.iconst 3, 1) := by decide +kernel
theorem dX7_callersAt_10 : decode cX7_callersAt 10 = .ok (.iaload, 1) := by decide +kernel
theorem dX7_callersAt_11 : decode cX7_callersAt 11 = .ok (.if_icmp .ge 32, 3) := by decide +kernel
theorem dX7_callersAt_14 : decode cX7_callersAt 14 = .ok (.iload_n 2, 1) := by decide +kernel
theorem dX7_callersAt_15 : decode cX7_callersAt 15 = .ok (.aload_n 0, 1) := by decide +kernel
theorem dX7_callersAt_16 : decode cX7_callersAt 16 = .ok (.getfield 22, 3) := by decide +kernel
theorem dX7_callersAt_19 : decode cX7_callersAt 19 = .ok (.bipush 41, 2) := by decide +kernel
theorem dX7_callersAt_21 : decode cX7_callersAt 21 = .ok (.iload_n 3, 1) := by decide +kernel
theorem dX7_callersAt_22 : decode cX7_callersAt 22 = .ok (.iadd, 1) := by decide +kernel
theorem dX7_callersAt_23 : decode cX7_callersAt 23 = .ok (.iaload, 1) := by decide +kernel
theorem dX7_callersAt_24 : decode cX7_callersAt 24 = .ok (.iload_n 1, 1) := by decide +kernel
theorem dX7_callersAt_25 : decode cX7_callersAt 25 = .ok (.if_icmp .ne 9, 3) := by decide +kernel
theorem dX7_callersAt_28 : decode cX7_callersAt 28 = .ok (.iconst 1, 1) := by decide +kernel
theorem dX7_callersAt_29 : decode cX7_callersAt 29 = .ok (.iload_n 3, 1) := by decide +kernel
theorem dX7_callersAt_30 : decode cX7_callersAt 30 = .ok (.ishl, 1) := by decide +kernel
theorem dX7_callersAt_31 : decode cX7_callersAt 31 = .ok (.goto 4, 3) := by decide +kernel
theorem dX7_callersAt_34 : decode cX7_callersAt 34 = .ok (.iconst 0, 1) := by decide +kernel
theorem dX7_callersAt_35 : decode cX7_callersAt 35 = .ok (.ior, 1) := by decide +kernel
theorem dX7_callersAt_36 : decode cX7_callersAt 36 = .ok (.istore_n 2, 1) := by decide +kernel
theorem dX7_callersAt_37 : decode cX7_callersAt 37 = .ok (.iinc 3 1, 3) := by decide +kernel
theorem dX7_callersAt_40 : decode cX7_callersAt 40 = .ok (.goto (-36), 3) := by decide +kernel
theorem dX7_callersAt_43 : decode cX7_callersAt 43 = .ok (.iload_n 2, 1) := by decide +kernel
theorem dX7_callersAt_44 : decode cX7_callersAt 44 = .ok (.ireturn, 1) := by decide +kernel
theorem dX7_secondsUsed_0 : decode cX7_secondsUsed 0 = .ok (.iconst 0, 1) := by decide +kernel
theorem dX7_secondsUsed_1 : decode cX7_secondsUsed 1 = .ok (.istore_n 1, 1) := by decide +kernel
theorem dX7_secondsUsed_2 : decode cX7_secondsUsed 2 = .ok (.iconst 0, 1) := by decide +kernel
theorem dX7_secondsUsed_3 : decode cX7_secondsUsed 3 = .ok (.istore_n 2, 1) := by decide +kernel
theorem dX7_secondsUsed_4 : decode cX7_secondsUsed 4 = .ok (.iload_n 2, 1) := by decide +kernel
theorem dX7_secondsUsed_5 : decode cX7_secondsUsed 5 = .ok (.bipush 6, 2) := by decide +kernel
theorem dX7_secondsUsed_7 : decode cX7_secondsUsed 7 = .ok (.if_icmp .ge 21, 3) := by decide +kernel
theorem dX7_secondsUsed_10 : decode cX7_secondsUsed 10 = .ok (.iload_n 1, 1) := by decide +kernel
theorem dX7_secondsUsed_11 : decode cX7_secondsUsed 11 = .ok (.aload_n 0, 1) := by decide +kernel
theorem dX7_secondsUsed_12 : decode cX7_secondsUsed 12 = .ok (.getfield 22, 3) := by decide +kernel
theorem dX7_secondsUsed_15 : decode cX7_secondsUsed 15 = .ok (.bipush 11, 2) := by decide +kernel
theorem dX7_secondsUsed_17 : decode cX7_secondsUsed 17 = .ok (.iload_n 2, 1) := by decide +kernel
theorem dX7_secondsUsed_18 : decode cX7_secondsUsed 18 = .ok (.iadd, 1) := by decide +kernel
theorem dX7_secondsUsed_19 : decode cX7_secondsUsed 19 = .ok (.iaload, 1) := by decide +kernel
theorem dX7_secondsUsed_20 : decode cX7_secondsUsed 20 = .ok (.iadd, 1) := by decide +kernel
theorem dX7_secondsUsed_21 : decode cX7_secondsUsed 21 = .ok (.istore_n 1, 1) := by decide +kernel
theorem dX7_secondsUsed_22 : decode cX7_secondsUsed 22 = .ok (.iinc 2 1, 3) := by decide +kernel
theorem dX7_secondsUsed_25 : decode cX7_secondsUsed 25 = .ok (.goto (-21), 3) := by decide +kernel
theorem dX7_secondsUsed_28 : decode cX7_secondsUsed 28 = .ok (.iload_n 1, 1) := by decide +kernel
theorem dX7_secondsUsed_29 : decode cX7_secondsUsed 29 = .ok (.ireturn, 1) := by decide +kernel
theorem dX7_soundsUsed_0 : decode cX7_soundsUsed 0 = .ok (.iconst 0, 1) := by decide +kernel
theorem dX7_soundsUsed_1 : decode cX7_soundsUsed 1 = .ok (.istore_n 1, 1) := by decide +kernel
theorem dX7_soundsUsed_2 : decode cX7_soundsUsed 2 = .ok (.iconst 0, 1) := by decide +kernel
theorem dX7_soundsUsed_3 : decode cX7_soundsUsed 3 = .ok (.istore_n 2, 1) := by decide +kernel
theorem dX7_soundsUsed_4 : decode cX7_soundsUsed 4 = .ok (.iload_n 2, 1) := by decide +kernel
theorem dX7_soundsUsed_5 : decode cX7_soundsUsed 5 = .ok (.bipush 6, 2) := by decide +kernel
theorem dX7_soundsUsed_7 : decode cX7_soundsUsed 7 = .ok (.if_icmp .ge 31, 3) := by decide +kernel
theorem dX7_soundsUsed_10 : decode cX7_soundsUsed 10 = .ok (.iload_n 1, 1) := by decide +kernel
theorem dX7_soundsUsed_11 : decode cX7_soundsUsed 11 = .ok (.aload_n 0, 1) := by decide +kernel
theorem dX7_soundsUsed_12 : decode cX7_soundsUsed 12 = .ok (.getfield 22, 3) := by decide +kernel
theorem dX7_soundsUsed_15 : decode cX7_soundsUsed 15 = .ok (.bipush 17, 2) := by decide +kernel
theorem dX7_soundsUsed_17 : decode cX7_soundsUsed 17 = .ok (.iload_n 2, 1) := by decide +kernel
theorem dX7_soundsUsed_18 : decode cX7_soundsUsed 18 = .ok (.iadd, 1) := by decide +kernel
theorem dX7_soundsUsed_19 : decode cX7_soundsUsed 19 = .ok (.iaload, 1) := by decide +kernel
theorem dX7_soundsUsed_20 : decode cX7_soundsUsed 20 = .ok (.aload_n 0, 1) := by decide +kernel
theorem dX7_soundsUsed_21 : decode cX7_soundsUsed 21 = .ok (.getfield 22, 3) := by decide +kernel
theorem dX7_soundsUsed_24 : decode cX7_soundsUsed 24 = .ok (.bipush 23, 2) := by decide +kernel
theorem dX7_soundsUsed_26 : decode cX7_soundsUsed 26 = .ok (.iload_n 2, 1) := by decide +kernel
theorem dX7_soundsUsed_27 : decode cX7_soundsUsed 27 = .ok (.iadd, 1) := by decide +kernel
theorem dX7_soundsUsed_28 : decode cX7_soundsUsed 28 = .ok (.iaload, 1) := by decide +kernel
theorem dX7_soundsUsed_29 : decode cX7_soundsUsed 29 = .ok (.iadd, 1) := by decide +kernel
theorem dX7_soundsUsed_30 : decode cX7_soundsUsed 30 = .ok (.iadd, 1) := by decide +kernel
theorem dX7_soundsUsed_31 : decode cX7_soundsUsed 31 = .ok (.istore_n 1, 1) := by decide +kernel
theorem dX7_soundsUsed_32 : decode cX7_soundsUsed 32 = .ok (.iinc 2 1, 3) := by decide +kernel
theorem dX7_soundsUsed_35 : decode cX7_soundsUsed 35 = .ok (.goto (-31), 3) := by decide +kernel
theorem dX7_soundsUsed_38 : decode cX7_soundsUsed 38 = .ok (.iload_n 1, 1) := by decide +kernel
theorem dX7_soundsUsed_39 : decode cX7_soundsUsed 39 = .ok (.ireturn, 1) := by decide +kernel
theorem dX7_act_0 : decode cX7_act 0 = .ok (.aload_n 0, 1) := by decide +kernel
theorem dX7_act_1 : decode cX7_act 1 = .ok (.getfield 130, 3) := by decide +kernel
theorem dX7_act_4 : decode cX7_act 4 = .ok (.bipush 24, 2) := by decide +kernel
theorem dX7_act_6 : decode cX7_act 6 = .ok (.if_icmp .ne 43, 3) := by decide +kernel
theorem dX7_act_9 : decode cX7_act 9 = .ok (.iconst 0, 1) := by decide +kernel
theorem dX7_act_10 : decode cX7_act 10 = .ok (.istore_n 1, 1) := by decide +kernel
theorem dX7_act_11 : decode cX7_act 11 = .ok (.iload_n 1, 1) := by decide +kernel
theorem dX7_act_12 : decode cX7_act 12 = .ok (.sipush 1219, 3) := by decide +kernel
theorem dX7_act_15 : decode cX7_act 15 = .ok (.if_icmp .ge 24, 3) := by decide +kernel
theorem dX7_act_18 : decode cX7_act 18 = .ok (.aload_n 0, 1) := by decide +kernel
theorem dX7_act_19 : decode cX7_act 19 = .ok (.getfield 38, 3) := by decide +kernel
theorem dX7_act_22 : decode cX7_act 22 = .ok (.iload_n 1, 1) := by decide +kernel
theorem dX7_act_23 : decode cX7_act 23 = .ok (.aload_n 0, 1) := by decide +kernel
theorem dX7_act_24 : decode cX7_act 24 = .ok (.getfield 38, 3) := by decide +kernel
theorem dX7_act_27 : decode cX7_act 27 = .ok (.iload_n 1, 1) := by decide +kernel
theorem dX7_act_28 : decode cX7_act 28 = .ok (.bipush 53, 2) := by decide +kernel
theorem dX7_act_30 : decode cX7_act 30 = .ok (.iadd, 1) := by decide +kernel
theorem dX7_act_31 : decode cX7_act 31 = .ok (.iaload, 1) := by decide +kernel
theorem dX7_act_32 : decode cX7_act 32 = .ok (.iastore, 1) := by decide +kernel
theorem dX7_act_33 : decode cX7_act 33 = .ok (.iinc 1 1, 3) := by decide +kernel
theorem dX7_act_36 : decode cX7_act 36 = .ok (.goto (-25), 3) := by decide +kernel
theorem dX7_act_39 : decode cX7_act 39 = .ok (.aload_n 0, 1) := by decide +kernel
theorem dX7_act_40 : decode cX7_act 40 = .ok (.dup, 1) := by decide +kernel
theorem dX7_act_41 : decode cX7_act 41 = .ok (.getfield 130, 3) := by decide +kernel
theorem dX7_act_44 : decode cX7_act 44 = .ok (.iconst 1, 1) := by decide +kernel
theorem dX7_act_45 : decode cX7_act 45 = .ok (.isub, 1) := by decide +kernel
theorem dX7_act_46 : decode cX7_act 46 = .ok (.putfield 130, 3) := by decide +kernel
theorem dX7_act_49 : decode cX7_act 49 = .ok (.aload_n 0, 1) := by decide +kernel
theorem dX7_act_50 : decode cX7_act 50 = .ok (.getfield 22, 3) := by decide +kernel
theorem dX7_act_53 : decode cX7_act 53 = .ok (.iconst 0, 1) := by decide +kernel
theorem dX7_act_54 : decode cX7_act 54 = .ok (.aload_n 0, 1) := by decide +kernel
theorem dX7_act_55 : decode cX7_act 55 = .ok (.getfield 38, 3) := by decide +kernel
theorem dX7_act_58 : decode cX7_act 58 = .ok (.bipush 53, 2) := by decide +kernel
theorem dX7_act_60 : decode cX7_act 60 = .ok (.aload_n 0, 1) := by decide +kernel
theorem dX7_act_61 : decode cX7_act 61 = .ok (.getfield 130, 3) := by decide +kernel
theorem dX7_act_64 : decode cX7_act 64 = .ok (.imul, 1) := by decide +kernel
theorem dX7_act_65 : decode cX7_act 65 = .ok (.invokestatic 126, 3) := by decide +kernel
theorem dX7_act_68 : decode cX7_act 68 = .ok (.aload_n 0, 1) := by decide +kernel
theorem dX7_act_69 : decode cX7_act 69 = .ok (.dup, 1) := by decide +kernel
theorem dX7_act_70 : decode cX7_act 70 = .ok (.getfield 130, 3) := by decide +kernel
theorem dX7_act_73 : decode cX7_act 73 = .ok (.iconst 1, 1) := by decide +kernel
theorem dX7_act_74 : decode cX7_act 74 = .ok (.iadd, 1) := by decide +kernel
theorem dX7_act_75 : decode cX7_act 75 = .ok (.putfield 130, 3) := by decide +kernel
theorem dX7_act_78 : decode cX7_act 78 = .ok (.return_, 1) := by decide +kernel
theorem dX7_undo_0 : decode cX7_undo 0 = .ok (.aload_n 0, 1) := by decide +kernel
theorem dX7_undo_1 : decode cX7_undo 1 = .ok (.getfield 130, 3) := by decide +kernel
theorem dX7_undo_4 : decode cX7_undo 4 = .ok (.ifCond .ne 6, 3) := by decide +kernel
theorem dX7_undo_7 : decode cX7_undo 7 = .ok (.ldc 162, 2) := by decide +kernel
theorem dX7_undo_9 : decode cX7_undo 9 = .ok (.ireturn, 1) := by decide +kernel
theorem dX7_undo_10 : decode cX7_undo 10 = .ok (.aload_n 0, 1) := by decide +kernel
theorem dX7_undo_11 : decode cX7_undo 11 = .ok (.dup, 1) := by decide +kernel
theorem dX7_undo_12 : decode cX7_undo 12 = .ok (.getfield 130, 3) := by decide +kernel
theorem dX7_undo_15 : decode cX7_undo 15 = .ok (.iconst 1, 1) := by decide +kernel
theorem dX7_undo_16 : decode cX7_undo 16 = .ok (.isub, 1) := by decide +kernel
theorem dX7_undo_17 : decode cX7_undo 17 = .ok (.putfield 130, 3) := by decide +kernel
theorem dX7_undo_20 : decode cX7_undo 20 = .ok (.aload_n 0, 1) := by decide +kernel
theorem dX7_undo_21 : decode cX7_undo 21 = .ok (.getfield 38, 3) := by decide +kernel
theorem dX7_undo_24 : decode cX7_undo 24 = .ok (.bipush 53, 2) := by decide +kernel
theorem dX7_undo_26 : decode cX7_undo 26 = .ok (.aload_n 0, 1) := by decide +kernel
theorem dX7_undo_27 : decode cX7_undo 27 = .ok (.getfield 130, 3) := by decide +kernel
theorem dX7_undo_30 : decode cX7_undo 30 = .ok (.imul, 1) := by decide +kernel
theorem dX7_undo_31 : decode cX7_undo 31 = .ok (.aload_n 0, 1) := by decide +kernel
theorem dX7_undo_32 : decode cX7_undo 32 = .ok (.getfield 22, 3) := by decide +kernel
theorem dX7_undo_35 : decode cX7_undo 35 = .ok (.iconst 0, 1) := by decide +kernel
theorem dX7_undo_36 : decode cX7_undo 36 = .ok (.invokestatic 126, 3) := by decide +kernel
theorem dX7_undo_39 : decode cX7_undo 39 = .ok (.aload_n 0, 1) := by decide +kernel
theorem dX7_undo_40 : decode cX7_undo 40 = .ok (.getfield 130, 3) := by decide +kernel
theorem dX7_undo_43 : decode cX7_undo 43 = .ok (.ireturn, 1) := by decide +kernel
theorem dX7_stretch_0 : decode cX7_stretch 0 = .ok (.aload_n 0, 1) := by decide +kernel
theorem dX7_stretch_1 : decode cX7_stretch 1 = .ok (.iload_n 1, 1) := by decide +kernel
theorem dX7_stretch_2 : decode cX7_stretch 2 = .ok (.invokevirtual 163, 3) := by decide +kernel
theorem dX7_stretch_5 : decode cX7_stretch 5 = .ok (.ifCond .eq 12, 3) := by decide +kernel
theorem dX7_stretch_8 : decode cX7_stretch 8 = .ok (.iload_n 2, 1) := by decide +kernel
theorem dX7_stretch_9 : decode cX7_stretch 9 = .ok (.iconst 0, 1) := by decide +kernel
theorem dX7_stretch_10 : decode cX7_stretch 10 = .ok (.iconst 5, 1) := by decide +kernel
theorem dX7_stretch_11 : decode cX7_stretch 11 = .ok (.invokestatic 55, 3) := by decide +kernel
theorem dX7_stretch_14 : decode cX7_stretch 14 = .ok (.ifCond .ne 6, 3) := by decide +kernel
theorem dX7_stretch_17 : decode cX7_stretch 17 = .ok (.ldc 63, 2) := by decide +kernel
theorem dX7_stretch_19 : decode cX7_stretch 19 = .ok (.ireturn, 1) := by decide +kernel
theorem dX7_stretch_20 : decode cX7_stretch 20 = .ok (.aload_n 0, 1) := by decide +kernel
theorem dX7_stretch_21 : decode cX7_stretch 21 = .ok (.getfield 22, 3) := by decide +kernel
theorem dX7_stretch_24 : decode cX7_stretch 24 = .ok (.bipush 11, 2) := by decide +kernel
theorem dX7_stretch_26 : decode cX7_stretch 26 = .ok (.iload_n 1, 1) := by decide +kernel
theorem dX7_stretch_27 : decode cX7_stretch 27 = .ok (.iadd, 1) := by decide +kernel
theorem dX7_stretch_28 : decode cX7_stretch 28 = .ok (.iaload, 1) := by decide +kernel
theorem dX7_stretch_29 : decode cX7_stretch 29 = .ok (.istore_n 3, 1) := by decide +kernel
theorem dX7_stretch_30 : decode cX7_stretch 30 = .ok (.aload_n 0, 1) := by decide +kernel
theorem dX7_stretch_31 : decode cX7_stretch 31 = .ok (.invokevirtual 166, 3) := by decide +kernel
theorem dX7_stretch_34 : decode cX7_stretch 34 = .ok (.iload_n 3, 1) := by decide +kernel
theorem dX7_stretch_35 : decode cX7_stretch 35 = .ok (.isub, 1) := by decide +kernel
theorem dX7_stretch_36 : decode cX7_stretch 36 = .ok (.iload_n 2, 1) := by decide +kernel
theorem dX7_stretch_37 : decode cX7_stretch 37 = .ok (.iadd, 1) := by decide +kernel
theorem dX7_stretch_38 : decode cX7_stretch 38 = .ok (.aload_n 0, 1) := by decide +kernel
theorem dX7_stretch_39 : decode cX7_stretch 39 = .ok (.getfield 22, 3) := by decide +kernel
theorem dX7_stretch_42 : decode cX7_stretch 42 = .ok (.iconst 0, 1) := by decide +kernel
theorem dX7_stretch_43 : decode cX7_stretch 43 = .ok (.iaload, 1) := by decide +kernel
theorem dX7_stretch_44 : decode cX7_stretch 44 = .ok (.if_icmp .le 6, 3) := by decide +kernel
theorem dX7_stretch_47 : decode cX7_stretch 47 = .ok (.ldc 77, 2) := by decide +kernel
theorem dX7_stretch_49 : decode cX7_stretch 49 = .ok (.ireturn, 1) := by decide +kernel
theorem dX7_stretch_50 : decode cX7_stretch 50 = .ok (.aload_n 0, 1) := by decide +kernel
theorem dX7_stretch_51 : decode cX7_stretch 51 = .ok (.invokevirtual 170, 3) := by decide +kernel
theorem dX7_stretch_54 : decode cX7_stretch 54 = .ok (.aload_n 0, 1) := by decide +kernel
theorem dX7_stretch_55 : decode cX7_stretch 55 = .ok (.getfield 22, 3) := by decide +kernel
theorem dX7_stretch_58 : decode cX7_stretch 58 = .ok (.bipush 11, 2) := by decide +kernel
theorem dX7_stretch_60 : decode cX7_stretch 60 = .ok (.iload_n 1, 1) := by decide +kernel
theorem dX7_stretch_61 : decode cX7_stretch 61 = .ok (.iadd, 1) := by decide +kernel
theorem dX7_stretch_62 : decode cX7_stretch 62 = .ok (.iload_n 2, 1) := by decide +kernel
theorem dX7_stretch_63 : decode cX7_stretch 63 = .ok (.iastore, 1) := by decide +kernel
theorem dX7_stretch_64 : decode cX7_stretch 64 = .ok (.iload_n 3, 1) := by decide +kernel
theorem dX7_stretch_65 : decode cX7_stretch 65 = .ok (.ireturn, 1) := by decide +kernel
theorem dX7_sound_0 : decode cX7_sound 0 = .ok (.aload_n 0, 1) := by decide +kernel
theorem dX7_sound_1 : decode cX7_sound 1 = .ok (.iload_n 1, 1) := by decide +kernel
theorem dX7_sound_2 : decode cX7_sound 2 = .ok (.invokevirtual 163, 3) := by decide +kernel
theorem dX7_sound_5 : decode cX7_sound 5 = .ok (.ifCond .eq 21, 3) := by decide +kernel
theorem dX7_sound_8 : decode cX7_sound 8 = .ok (.iload_n 2, 1) := by decide +kernel
theorem dX7_sound_9 : decode cX7_sound 9 = .ok (.iconst 0, 1) := by decide +kernel
theorem dX7_sound_10 : decode cX7_sound 10 = .ok (.iconst 1, 1) := by decide +kernel
theorem dX7_sound_11 : decode cX7_sound 11 = .ok (.invokestatic 55, 3) := by decide +kernel
theorem dX7_sound_14 : decode cX7_sound 14 = .ok (.ifCond .eq 12, 3) := by decide +kernel
theorem dX7_sound_17 : decode cX7_sound 17 = .ok (.iload_n 3, 1) := by decide +kernel
theorem dX7_sound_18 : decode cX7_sound 18 = .ok (.iconst 0, 1) := by decide +kernel
theorem dX7_sound_19 : decode cX7_sound 19 = .ok (.iconst 1, 1) := by decide +kernel
theorem dX7_sound_20 : decode cX7_sound 20 = .ok (.invokestatic 55, 3) := by decide +kernel
theorem dX7_sound_23 : decode cX7_sound 23 = .ok (.ifCond .ne 6, 3) := by decide +kernel
theorem dX7_sound_26 : decode cX7_sound 26 = .ok (.ldc 63, 2) := by decide +kernel
theorem dX7_sound_28 : decode cX7_sound 28 = .ok (.ireturn, 1) := by decide +kernel
theorem dX7_sound_29 : decode cX7_sound 29 = .ok (.iload_n 2, 1) := by decide +kernel
theorem dX7_sound_30 : decode cX7_sound 30 = .ok (.ifCond .ne 8, 3) := by decide +kernel
theorem dX7_sound_33 : decode cX7_sound 33 = .ok (.bipush 17, 2) := by decide +kernel
theorem dX7_sound_35 : decode cX7_sound 35 = .ok (.goto 5, 3) := by decide +kernel
theorem dX7_sound_38 : decode cX7_sound 38 = .ok (.bipush 23, 2) := by decide +kernel
theorem dX7_sound_40 : decode cX7_sound 40 = .ok (.iload_n 1, 1) := by decide +kernel
theorem dX7_sound_41 : decode cX7_sound 41 = .ok (.iadd, 1) := by decide +kernel
theorem dX7_sound_42 : decode cX7_sound 42 = .ok (.istore 4, 2) := by decide +kernel
theorem dX7_sound_44 : decode cX7_sound 44 = .ok (.aload_n 0, 1) := by decide +kernel
theorem dX7_sound_45 : decode cX7_sound 45 = .ok (.getfield 22, 3) := by decide +kernel
theorem dX7_sound_48 : decode cX7_sound 48 = .ok (.iload 4, 2) := by decide +kernel
theorem dX7_sound_50 : decode cX7_sound 50 = .ok (.iaload, 1) := by decide +kernel
theorem dX7_sound_51 : decode cX7_sound 51 = .ok (.iload_n 3, 1) := by decide +kernel
theorem dX7_sound_52 : decode cX7_sound 52 = .ok (.if_icmp .ne 6, 3) := by decide +kernel
theorem dX7_sound_55 : decode cX7_sound 55 = .ok (.ldc 162, 2) := by decide +kernel
theorem dX7_sound_57 : decode cX7_sound 57 = .ok (.ireturn, 1) := by decide +kernel
theorem dX7_sound_58 : decode cX7_sound 58 = .ok (.iload_n 3, 1) := by decide +kernel
theorem dX7_sound_59 : decode cX7_sound 59 = .ok (.iconst 1, 1) := by decide +kernel
theorem dX7_sound_60 : decode cX7_sound 60 = .ok (.if_icmp .ne 21, 3) := by decide +kernel
theorem dX7_sound_63 : decode cX7_sound 63 = .ok (.aload_n 0, 1) := by decide +kernel
theorem dX7_sound_64 : decode cX7_sound 64 = .ok (.invokevirtual 173, 3) := by decide +kernel
theorem dX7_sound_67 : decode cX7_sound 67 = .ok (.iconst 1, 1) := by decide +kernel
theorem dX7_sound_68 : decode cX7_sound 68 = .ok (.iadd, 1) := by decide +kernel
theorem dX7_sound_69 : decode cX7_sound 69 = .ok (.aload_n 0, 1) := by decide +kernel
theorem dX7_sound_70 : decode cX7_sound 70 = .ok (.getfield 22, 3) := by decide +kernel
theorem dX7_sound_73 : decode cX7_sound 73 = .ok (.iconst 1, 1) := by decide +kernel
theorem dX7_sound_74 : decode cX7_sound 74 = .ok (.iaload, 1) := by decide +kernel
theorem dX7_sound_75 : decode cX7_sound 75 = .ok (.if_icmp .le 6, 3) := by decide +kernel
theorem dX7_sound_78 : decode cX7_sound 78 = .ok (.ldc 77, 2) := by decide +kernel
theorem dX7_sound_80 : decode cX7_sound 80 = .ok (.ireturn, 1) := by decide +kernel
theorem dX7_sound_81 : decode cX7_sound 81 = .ok (.aload_n 0, 1) := by decide +kernel
theorem dX7_sound_82 : decode cX7_sound 82 = .ok (.invokevirtual 170, 3) := by decide +kernel
theorem dX7_sound_85 : decode cX7_sound 85 = .ok (.aload_n 0, 1) := by decide +kernel
theorem dX7_sound_86 : decode cX7_sound 86 = .ok (.getfield 22, 3) := by decide +kernel
theorem dX7_sound_89 : decode cX7_sound 89 = .ok (.iload 4, 2) := by decide +kernel
theorem dX7_sound_91 : decode cX7_sound 91 = .ok (.iload_n 3, 1) := by decide +kernel
theorem dX7_sound_92 : decode cX7_sound 92 = .ok (.iastore, 1) := by decide +kernel
theorem dX7_sound_93 : decode cX7_sound 93 = .ok (.aload_n 0, 1) := by decide +kernel
theorem dX7_sound_94 : decode cX7_sound 94 = .ok (.invokevirtual 173, 3) := by decide +kernel
theorem dX7_sound_97 : decode cX7_sound 97 = .ok (.ireturn, 1) := by decide +kernel
theorem dX7_days_0 : decode cX7_days 0 = .ok (.aload_n 0, 1) := by decide +kernel
theorem dX7_days_1 : decode cX7_days 1 = .ok (.invokevirtual 176, 3) := by decide +kernel
theorem dX7_days_4 : decode cX7_days 4 = .ok (.ifCond .ne 6, 3) := by decide +kernel
theorem dX7_days_7 : decode cX7_days 7 = .ok (.ldc 162, 2) := by decide +kernel
theorem dX7_days_9 : decode cX7_days 9 = .ok (.ireturn, 1) := by decide +kernel
theorem dX7_days_10 : decode cX7_days 10 = .ok (.iload_n 1, 1) := by decide +kernel
theorem dX7_days_11 : decode cX7_days 11 = .ok (.iconst 1, 1) := by decide +kernel
theorem dX7_days_12 : decode cX7_days 12 = .ok (.bipush 24, 2) := by decide +kernel
theorem dX7_days_14 : decode cX7_days 14 = .ok (.invokestatic 55, 3) := by decide +kernel
theorem dX7_days_17 : decode cX7_days 17 = .ok (.ifCond .ne 6, 3) := by decide +kernel
theorem dX7_days_20 : decode cX7_days 20 = .ok (.ldc 63, 2) := by decide +kernel
theorem dX7_days_22 : decode cX7_days 22 = .ok (.ireturn, 1) := by decide +kernel
theorem dX7_days_23 : decode cX7_days 23 = .ok (.aload_n 0, 1) := by decide +kernel
theorem dX7_days_24 : decode cX7_days 24 = .ok (.getfield 22, 3) := by decide +kernel
theorem dX7_days_27 : decode cX7_days 27 = .ok (.iconst 4, 1) := by decide +kernel
theorem dX7_days_28 : decode cX7_days 28 = .ok (.iaload, 1) := by decide +kernel
theorem dX7_days_29 : decode cX7_days 29 = .ok (.iload_n 1, 1) := by decide +kernel
theorem dX7_days_30 : decode cX7_days 30 = .ok (.iadd, 1) := by decide +kernel
theorem dX7_days_31 : decode cX7_days 31 = .ok (.sipush 999, 3) := by decide +kernel
theorem dX7_days_34 : decode cX7_days 34 = .ok (.if_icmp .le 6, 3) := by decide +kernel
theorem dX7_days_37 : decode cX7_days 37 = .ok (.ldc 77, 2) := by decide +kernel
theorem dX7_days_39 : decode cX7_days 39 = .ok (.ireturn, 1) := by decide +kernel
theorem dX7_days_40 : decode cX7_days 40 = .ok (.iconst 0, 1) := by decide +kernel
theorem dX7_days_41 : decode cX7_days 41 = .ok (.istore_n 2, 1) := by decide +kernel
theorem dX7_days_42 : decode cX7_days 42 = .ok (.iconst 0, 1) := by decide +kernel
theorem dX7_days_43 : decode cX7_days 43 = .ok (.istore_n 3, 1) := by decide +kernel
theorem dX7_days_44 : decode cX7_days 44 = .ok (.iload_n 3, 1) := by decide +kernel
theorem dX7_days_45 : decode cX7_days 45 = .ok (.iload_n 1, 1) := by decide +kernel
theorem dX7_days_46 : decode cX7_days 46 = .ok (.if_icmp .ge 21, 3) := by decide +kernel
theorem dX7_days_49 : decode cX7_days 49 = .ok (.aload_n 0, 1) := by decide +kernel
theorem dX7_days_50 : decode cX7_days 50 = .ok (.invokevirtual 170, 3) := by decide +kernel
theorem dX7_days_53 : decode cX7_days 53 = .ok (.aload_n 0, 1) := by decide +kernel
theorem dX7_days_54 : decode cX7_days 54 = .ok (.getfield 22, 3) := by decide +kernel
theorem dX7_days_57 : decode cX7_days 57 = .ok (.invokestatic 179, 3) := by decide +kernel
theorem dX7_days_60 : decode cX7_days 60 = .ok (.istore_n 2, 1) := by decide +kernel
theorem dX7_days_61 : decode cX7_days 61 = .ok (.iinc 3 1, 3) := by decide +kernel
theorem dX7_days_64 : decode cX7_days 64 = .ok (.goto (-20), 3) := by decide +kernel
theorem dX7_days_67 : decode cX7_days 67 = .ok (.iload_n 2, 1) := by decide +kernel
theorem dX7_days_68 : decode cX7_days 68 = .ok (.ireturn, 1) := by decide +kernel
theorem dX7_door_0 : decode cX7_door 0 = .ok (.aload_n 0, 1) := by decide +kernel
theorem dX7_door_1 : decode cX7_door 1 = .ok (.iload_n 1, 1) := by decide +kernel
theorem dX7_door_2 : decode cX7_door 2 = .ok (.invokevirtual 163, 3) := by decide +kernel
theorem dX7_door_5 : decode cX7_door 5 = .ok (.ifCond .ne 6, 3) := by decide +kernel
theorem dX7_door_8 : decode cX7_door 8 = .ok (.ldc 63, 2) := by decide +kernel
theorem dX7_door_10 : decode cX7_door 10 = .ok (.ireturn, 1) := by decide +kernel
theorem dX7_door_11 : decode cX7_door 11 = .ok (.iload_n 2, 1) := by decide +kernel
theorem dX7_door_12 : decode cX7_door 12 = .ok (.tableswitch 115 0 6 #[44, 53, 63, 73, 83, 100, 109], 44) := by decide +kernel
theorem dX7_door_56 : decode cX7_door 56 = .ok (.aload_n 0, 1) := by decide +kernel
theorem dX7_door_57 : decode cX7_door 57 = .ok (.getfield 22, 3) := by decide +kernel
theorem dX7_door_60 : decode cX7_door 60 = .ok (.iconst 5, 1) := by decide +kernel
theorem dX7_door_61 : decode cX7_door 61 = .ok (.iload_n 1, 1) := by decide +kernel
theorem dX7_door_62 : decode cX7_door 62 = .ok (.iadd, 1) := by decide +kernel
theorem dX7_door_63 : decode cX7_door 63 = .ok (.iaload, 1) := by decide +kernel
theorem dX7_door_64 : decode cX7_door 64 = .ok (.ireturn, 1) := by decide +kernel
theorem dX7_door_65 : decode cX7_door 65 = .ok (.aload_n 0, 1) := by decide +kernel
theorem dX7_door_66 : decode cX7_door 66 = .ok (.getfield 22, 3) := by decide +kernel
theorem dX7_door_69 : decode cX7_door 69 = .ok (.bipush 11, 2) := by decide +kernel
theorem dX7_door_71 : decode cX7_door 71 = .ok (.iload_n 1, 1) := by decide +kernel
theorem dX7_door_72 : decode cX7_door 72 = .ok (.iadd, 1) := by decide +kernel
theorem dX7_door_73 : decode cX7_door 73 = .ok (.iaload, 1) := by decide +kernel
theorem dX7_door_74 : decode cX7_door 74 = .ok (.ireturn, 1) := by decide +kernel
theorem dX7_door_75 : decode cX7_door 75 = .ok (.aload_n 0, 1) := by decide +kernel
theorem dX7_door_76 : decode cX7_door 76 = .ok (.getfield 22, 3) := by decide +kernel
theorem dX7_door_79 : decode cX7_door 79 = .ok (.bipush 17, 2) := by decide +kernel
theorem dX7_door_81 : decode cX7_door 81 = .ok (.iload_n 1, 1) := by decide +kernel
theorem dX7_door_82 : decode cX7_door 82 = .ok (.iadd, 1) := by decide +kernel
theorem dX7_door_83 : decode cX7_door 83 = .ok (.iaload, 1) := by decide +kernel
theorem dX7_door_84 : decode cX7_door 84 = .ok (.ireturn, 1) := by decide +kernel
theorem dX7_door_85 : decode cX7_door 85 = .ok (.aload_n 0, 1) := by decide +kernel
theorem dX7_door_86 : decode cX7_door 86 = .ok (.getfield 22, 3) := by decide +kernel
theorem dX7_door_89 : decode cX7_door 89 = .ok (.bipush 23, 2) := by decide +kernel
theorem dX7_door_91 : decode cX7_door 91 = .ok (.iload_n 1, 1) := by decide +kernel
theorem dX7_door_92 : decode cX7_door 92 = .ok (.iadd, 1) := by decide +kernel
theorem dX7_door_93 : decode cX7_door 93 = .ok (.iaload, 1) := by decide +kernel
theorem dX7_door_94 : decode cX7_door 94 = .ok (.ireturn, 1) := by decide +kernel
theorem dX7_door_95 : decode cX7_door 95 = .ok (.aload_n 0, 1) := by decide +kernel
theorem dX7_door_96 : decode cX7_door 96 = .ok (.getfield 22, 3) := by decide +kernel
theorem dX7_door_99 : decode cX7_door 99 = .ok (.iload_n 1, 1) := by decide +kernel
theorem dX7_door_100 : decode cX7_door 100 = .ok (.invokestatic 133, 3) := by decide +kernel
theorem dX7_door_103 : decode cX7_door 103 = .ok (.ifCond .eq 7, 3) := by decide +kernel
theorem dX7_door_106 : decode cX7_door 106 = .ok (.iconst 1, 1) := by decide +kernel
theorem dX7_door_107 : decode cX7_door 107 = .ok (.goto 4, 3) := by decide +kernel
theorem dX7_door_110 : decode cX7_door 110 = .ok (.iconst 0, 1) := by decide +kernel
theorem dX7_door_111 : decode cX7_door 111 = .ok (.ireturn, 1) := by decide +kernel
theorem dX7_door_112 : decode cX7_door 112 = .ok (.aload_n 0, 1) := by decide +kernel
theorem dX7_door_113 : decode cX7_door 113 = .ok (.getfield 22, 3) := by decide +kernel
theorem dX7_door_116 : decode cX7_door 116 = .ok (.iload_n 1, 1) := by decide +kernel
theorem dX7_door_117 : decode cX7_door 117 = .ok (.invokestatic 145, 3) := by decide +kernel
theorem dX7_door_120 : decode cX7_door 120 = .ok (.ireturn, 1) := by decide +kernel
theorem dX7_door_121 : decode cX7_door 121 = .ok (.aload_n 0, 1) := by decide +kernel
theorem dX7_door_122 : decode cX7_door 122 = .ok (.iload_n 1, 1) := by decide +kernel
theorem dX7_door_123 : decode cX7_door 123 = .ok (.invokevirtual 182, 3) := by decide +kernel
theorem dX7_door_126 : decode cX7_door 126 = .ok (.ireturn, 1) := by decide +kernel
theorem dX7_door_127 : decode cX7_door 127 = .ok (.ldc 63, 2) := by decide +kernel
theorem dX7_door_129 : decode cX7_door 129 = .ok (.ireturn, 1) := by decide +kernel
theorem dX7_caller_0 : decode cX7_caller 0 = .ok (.aload_n 0, 1) := by decide +kernel
theorem dX7_caller_1 : decode cX7_caller 1 = .ok (.iload_n 1, 1) := by decide +kernel
theorem dX7_caller_2 : decode cX7_caller 2 = .ok (.invokevirtual 185, 3) := by decide +kernel
theorem dX7_caller_5 : decode cX7_caller 5 = .ok (.ifCond .ne 6, 3) := by decide +kernel
theorem dX7_caller_8 : decode cX7_caller 8 = .ok (.ldc 63, 2) := by decide +kernel
theorem dX7_caller_10 : decode cX7_caller 10 = .ok (.ireturn, 1) := by decide +kernel
theorem dX7_caller_11 : decode cX7_caller 11 = .ok (.iload_n 2, 1) := by decide +kernel
theorem dX7_caller_12 : decode cX7_caller 12 = .ok (.tableswitch 92 0 4 #[36, 46, 56, 65, 82], 36) := by decide +kernel
theorem dX7_caller_48 : decode cX7_caller 48 = .ok (.aload_n 0, 1) := by decide +kernel
theorem dX7_caller_49 : decode cX7_caller 49 = .ok (.getfield 22, 3) := by decide +kernel
theorem dX7_caller_52 : decode cX7_caller 52 = .ok (.bipush 41, 2) := by decide +kernel
theorem dX7_caller_54 : decode cX7_caller 54 = .ok (.iload_n 1, 1) := by decide +kernel
theorem dX7_caller_55 : decode cX7_caller 55 = .ok (.iadd, 1) := by decide +kernel
theorem dX7_caller_56 : decode cX7_caller 56 = .ok (.iaload, 1) := by decide +kernel
theorem dX7_caller_57 : decode cX7_caller 57 = .ok (.ireturn, 1) := by decide +kernel
theorem dX7_caller_58 : decode cX7_caller 58 = .ok (.aload_n 0, 1) := by decide +kernel
theorem dX7_caller_59 : decode cX7_caller 59 = .ok (.getfield 22, 3) := by decide +kernel
theorem dX7_caller_62 : decode cX7_caller 62 = .ok (.bipush 35, 2) := by decide +kernel
theorem dX7_caller_64 : decode cX7_caller 64 = .ok (.iload_n 1, 1) := by decide +kernel
theorem dX7_caller_65 : decode cX7_caller 65 = .ok (.iadd, 1) := by decide +kernel
theorem dX7_caller_66 : decode cX7_caller 66 = .ok (.iaload, 1) := by decide +kernel
theorem dX7_caller_67 : decode cX7_caller 67 = .ok (.ireturn, 1) := by decide +kernel
theorem dX7_caller_68 : decode cX7_caller 68 = .ok (.aload_n 0, 1) := by decide +kernel
theorem dX7_caller_69 : decode cX7_caller 69 = .ok (.getfield 22, 3) := by decide +kernel
theorem dX7_caller_72 : decode cX7_caller 72 = .ok (.iload_n 1, 1) := by decide +kernel
theorem dX7_caller_73 : decode cX7_caller 73 = .ok (.invokestatic 149, 3) := by decide +kernel
theorem dX7_caller_76 : decode cX7_caller 76 = .ok (.ireturn, 1) := by decide +kernel
theorem dX7_caller_77 : decode cX7_caller 77 = .ok (.aload_n 0, 1) := by decide +kernel
theorem dX7_caller_78 : decode cX7_caller 78 = .ok (.getfield 22, 3) := by decide +kernel
theorem dX7_caller_81 : decode cX7_caller 81 = .ok (.iload_n 1, 1) := by decide +kernel
theorem dX7_caller_82 : decode cX7_caller 82 = .ok (.invokestatic 152, 3) := by decide +kernel
theorem dX7_caller_85 : decode cX7_caller 85 = .ok (.ifCond .eq 7, 3) := by decide +kernel
theorem dX7_caller_88 : decode cX7_caller 88 = .ok (.iconst 1, 1) := by decide +kernel
theorem dX7_caller_89 : decode cX7_caller 89 = .ok (.goto 4, 3) := by decide +kernel
theorem dX7_caller_92 : decode cX7_caller 92 = .ok (.iconst 0, 1) := by decide +kernel
theorem dX7_caller_93 : decode cX7_caller 93 = .ok (.ireturn, 1) := by decide +kernel
theorem dX7_caller_94 : decode cX7_caller 94 = .ok (.aload_n 0, 1) := by decide +kernel
theorem dX7_caller_95 : decode cX7_caller 95 = .ok (.getfield 22, 3) := by decide +kernel
theorem dX7_caller_98 : decode cX7_caller 98 = .ok (.bipush 47, 2) := by decide +kernel
theorem dX7_caller_100 : decode cX7_caller 100 = .ok (.iload_n 1, 1) := by decide +kernel
theorem dX7_caller_101 : decode cX7_caller 101 = .ok (.iadd, 1) := by decide +kernel
theorem dX7_caller_102 : decode cX7_caller 102 = .ok (.iaload, 1) := by decide +kernel
theorem dX7_caller_103 : decode cX7_caller 103 = .ok (.ireturn, 1) := by decide +kernel
theorem dX7_caller_104 : decode cX7_caller 104 = .ok (.ldc 63, 2) := by decide +kernel
theorem dX7_caller_106 : decode cX7_caller 106 = .ok (.ireturn, 1) := by decide +kernel
theorem dX7_used_0 : decode cX7_used 0 = .ok (.aload_n 0, 1) := by decide +kernel
theorem dX7_used_1 : decode cX7_used 1 = .ok (.invokevirtual 176, 3) := by decide +kernel
theorem dX7_used_4 : decode cX7_used 4 = .ok (.ifCond .ne 6, 3) := by decide +kernel
theorem dX7_used_7 : decode cX7_used 7 = .ok (.ldc 162, 2) := by decide +kernel
theorem dX7_used_9 : decode cX7_used 9 = .ok (.ireturn, 1) := by decide +kernel
theorem dX7_used_10 : decode cX7_used 10 = .ok (.iload_n 1, 1) := by decide +kernel
theorem dX7_used_11 : decode cX7_used 11 = .ok (.ifCond .ne 10, 3) := by decide +kernel
theorem dX7_used_14 : decode cX7_used 14 = .ok (.aload_n 0, 1) := by decide +kernel
theorem dX7_used_15 : decode cX7_used 15 = .ok (.invokevirtual 166, 3) := by decide +kernel
theorem dX7_used_18 : decode cX7_used 18 = .ok (.goto 17, 3) := by decide +kernel
theorem dX7_used_21 : decode cX7_used 21 = .ok (.iload_n 1, 1) := by decide +kernel
theorem dX7_used_22 : decode cX7_used 22 = .ok (.iconst 1, 1) := by decide +kernel
theorem dX7_used_23 : decode cX7_used 23 = .ok (.if_icmp .ne 10, 3) := by decide +kernel
theorem dX7_used_26 : decode cX7_used 26 = .ok (.aload_n 0, 1) := by decide +kernel
theorem dX7_used_27 : decode cX7_used 27 = .ok (.invokevirtual 173, 3) := by decide +kernel
theorem dX7_used_30 : decode cX7_used 30 = .ok (.goto 5, 3) := by decide +kernel
theorem dX7_used_33 : decode cX7_used 33 = .ok (.ldc 63, 2) := by decide +kernel
theorem dX7_used_35 : decode cX7_used 35 = .ok (.ireturn, 1) := by decide +kernel
theorem dX7_meets_0 : decode cX7_meets 0 = .ok (.aload_n 0, 1) := by decide +kernel
theorem dX7_meets_1 : decode cX7_meets 1 = .ok (.invokevirtual 176, 3) := by decide +kernel
theorem dX7_meets_4 : decode cX7_meets 4 = .ok (.ifCond .eq 13, 3) := by decide +kernel
theorem dX7_meets_7 : decode cX7_meets 7 = .ok (.aload_n 0, 1) := by decide +kernel
theorem dX7_meets_8 : decode cX7_meets 8 = .ok (.getfield 22, 3) := by decide +kernel
theorem dX7_meets_11 : decode cX7_meets 11 = .ok (.invokestatic 155, 3) := by decide +kernel
theorem dX7_meets_14 : decode cX7_meets 14 = .ok (.goto 5, 3) := by decide +kernel
theorem dX7_meets_17 : decode cX7_meets 17 = .ok (.ldc 162, 2) := by decide +kernel
theorem dX7_meets_19 : decode cX7_meets 19 = .ok (.ireturn, 1) := by decide +kernel
theorem dX7_nothing_0 : decode cX7_nothing 0 = .ok (.aload_n 0, 1) := by decide +kernel
theorem dX7_nothing_1 : decode cX7_nothing 1 = .ok (.invokevirtual 176, 3) := by decide +kernel
theorem dX7_nothing_4 : decode cX7_nothing 4 = .ok (.ifCond .ne 6, 3) := by decide +kernel
theorem dX7_nothing_7 : decode cX7_nothing 7 = .ok (.ldc 162, 2) := by decide +kernel
theorem dX7_nothing_9 : decode cX7_nothing 9 = .ok (.ireturn, 1) := by decide +kernel
theorem dX7_nothing_10 : decode cX7_nothing 10 = .ok (.aload_n 0, 1) := by decide +kernel
theorem dX7_nothing_11 : decode cX7_nothing 11 = .ok (.getfield 22, 3) := by decide +kernel
theorem dX7_nothing_14 : decode cX7_nothing 14 = .ok (.invokestatic 155, 3) := by decide +kernel
theorem dX7_nothing_17 : decode cX7_nothing 17 = .ok (.istore_n 1, 1) := by decide +kernel
theorem dX7_nothing_18 : decode cX7_nothing 18 = .ok (.iconst 0, 1) := by decide +kernel
theorem dX7_nothing_19 : decode cX7_nothing 19 = .ok (.istore_n 2, 1) := by decide +kernel
theorem dX7_nothing_20 : decode cX7_nothing 20 = .ok (.iload_n 2, 1) := by decide +kernel
theorem dX7_nothing_21 : decode cX7_nothing 21 = .ok (.aload_n 0, 1) := by decide +kernel
theorem dX7_nothing_22 : decode cX7_nothing 22 = .ok (.getfield 22, 3) := by decide +kernel
theorem dX7_nothing_25 : decode cX7_nothing 25 = .ok (.iconst 2, 1) := by decide +kernel
theorem dX7_nothing_26 : decode cX7_nothing 26 = .ok (.iaload, 1) := by decide +kernel
theorem dX7_nothing_27 : decode cX7_nothing 27 = .ok (.if_icmp .ge 27, 3) := by decide +kernel
theorem dX7_nothing_30 : decode cX7_nothing 30 = .ok (.aload_n 0, 1) := by decide +kernel
theorem dX7_nothing_31 : decode cX7_nothing 31 = .ok (.iload_n 2, 1) := by decide +kernel
theorem dX7_nothing_32 : decode cX7_nothing 32 = .ok (.invokevirtual 182, 3) := by decide +kernel
theorem dX7_nothing_35 : decode cX7_nothing 35 = .ok (.istore_n 3, 1) := by decide +kernel
theorem dX7_nothing_36 : decode cX7_nothing 36 = .ok (.iload_n 3, 1) := by decide +kernel
theorem dX7_nothing_37 : decode cX7_nothing 37 = .ok (.ifCond .eq 11, 3) := by decide +kernel
theorem dX7_nothing_40 : decode cX7_nothing 40 = .ok (.iload_n 3, 1) := by decide +kernel
theorem dX7_nothing_41 : decode cX7_nothing 41 = .ok (.iload_n 1, 1) := by decide +kernel
theorem dX7_nothing_42 : decode cX7_nothing 42 = .ok (.iand, 1) := by decide +kernel
theorem dX7_nothing_43 : decode cX7_nothing 43 = .ok (.ifCond .ne 5, 3) := by decide +kernel
theorem dX7_nothing_46 : decode cX7_nothing 46 = .ok (.iload_n 2, 1) := by decide +kernel
theorem dX7_nothing_47 : decode cX7_nothing 47 = .ok (.ireturn, 1) := by decide +kernel
theorem dX7_nothing_48 : decode cX7_nothing 48 = .ok (.iinc 2 1, 3) := by decide +kernel
theorem dX7_nothing_51 : decode cX7_nothing 51 = .ok (.goto (-31), 3) := by decide +kernel
theorem dX7_nothing_54 : decode cX7_nothing 54 = .ok (.ldc 188, 2) := by decide +kernel
theorem dX7_nothing_56 : decode cX7_nothing 56 = .ok (.ireturn, 1) := by decide +kernel
theorem dX7_ahead_0 : decode cX7_ahead 0 = .ok (.aload_n 0, 1) := by decide +kernel
theorem dX7_ahead_1 : decode cX7_ahead 1 = .ok (.iload_n 1, 1) := by decide +kernel
theorem dX7_ahead_2 : decode cX7_ahead 2 = .ok (.invokevirtual 185, 3) := by decide +kernel
theorem dX7_ahead_5 : decode cX7_ahead 5 = .ok (.ifCond .eq 22, 3) := by decide +kernel
theorem dX7_ahead_8 : decode cX7_ahead 8 = .ok (.iload_n 2, 1) := by decide +kernel
theorem dX7_ahead_9 : decode cX7_ahead 9 = .ok (.iconst 0, 1) := by decide +kernel
theorem dX7_ahead_10 : decode cX7_ahead 10 = .ok (.bipush 60, 2) := by decide +kernel
theorem dX7_ahead_12 : decode cX7_ahead 12 = .ok (.invokestatic 55, 3) := by decide +kernel
theorem dX7_ahead_15 : decode cX7_ahead 15 = .ok (.ifCond .eq 12, 3) := by decide +kernel
theorem dX7_ahead_18 : decode cX7_ahead 18 = .ok (.iload_n 3, 1) := by decide +kernel
theorem dX7_ahead_19 : decode cX7_ahead 19 = .ok (.iconst 0, 1) := by decide +kernel
theorem dX7_ahead_20 : decode cX7_ahead 20 = .ok (.iconst 1, 1) := by decide +kernel
theorem dX7_ahead_21 : decode cX7_ahead 21 = .ok (.invokestatic 55, 3) := by decide +kernel
theorem dX7_ahead_24 : decode cX7_ahead 24 = .ok (.ifCond .ne 6, 3) := by decide +kernel
theorem dX7_ahead_27 : decode cX7_ahead 27 = .ok (.ldc 63, 2) := by decide +kernel
theorem dX7_ahead_29 : decode cX7_ahead 29 = .ok (.ireturn, 1) := by decide +kernel
theorem dX7_ahead_30 : decode cX7_ahead 30 = .ok (.aload_n 0, 1) := by decide +kernel
theorem dX7_ahead_31 : decode cX7_ahead 31 = .ok (.getfield 22, 3) := by decide +kernel
theorem dX7_ahead_34 : decode cX7_ahead 34 = .ok (.iconst 0, 1) := by decide +kernel
theorem dX7_ahead_35 : decode cX7_ahead 35 = .ok (.aload_n 0, 1) := by decide +kernel
theorem dX7_ahead_36 : decode cX7_ahead 36 = .ok (.getfield 28, 3) := by decide +kernel
theorem dX7_ahead_39 : decode cX7_ahead 39 = .ok (.iconst 0, 1) := by decide +kernel
theorem dX7_ahead_40 : decode cX7_ahead 40 = .ok (.invokestatic 126, 3) := by decide +kernel
theorem dX7_ahead_43 : decode cX7_ahead 43 = .ok (.iconst 0, 1) := by decide +kernel
theorem dX7_ahead_44 : decode cX7_ahead 44 = .ok (.istore 4, 2) := by decide +kernel
theorem dX7_ahead_46 : decode cX7_ahead 46 = .ok (.iload 4, 2) := by decide +kernel
theorem dX7_ahead_48 : decode cX7_ahead 48 = .ok (.iload_n 2, 1) := by decide +kernel
theorem dX7_ahead_49 : decode cX7_ahead 49 = .ok (.if_icmp .ge 17, 3) := by decide +kernel
theorem dX7_ahead_52 : decode cX7_ahead 52 = .ok (.aload_n 0, 1) := by decide +kernel
theorem dX7_ahead_53 : decode cX7_ahead 53 = .ok (.getfield 28, 3) := by decide +kernel
theorem dX7_ahead_56 : decode cX7_ahead 56 = .ok (.invokestatic 179, 3) := by decide +kernel
theorem dX7_ahead_59 : decode cX7_ahead 59 = .ok (.pop, 1) := by decide +kernel
theorem dX7_ahead_60 : decode cX7_ahead 60 = .ok (.iinc 4 1, 3) := by decide +kernel
theorem dX7_ahead_63 : decode cX7_ahead 63 = .ok (.goto (-17), 3) := by decide +kernel
theorem dX7_ahead_66 : decode cX7_ahead 66 = .ok (.iload_n 3, 1) := by decide +kernel
theorem dX7_ahead_67 : decode cX7_ahead 67 = .ok (.ifCond .ne 15, 3) := by decide +kernel
theorem dX7_ahead_70 : decode cX7_ahead 70 = .ok (.aload_n 0, 1) := by decide +kernel
theorem dX7_ahead_71 : decode cX7_ahead 71 = .ok (.getfield 28, 3) := by decide +kernel
theorem dX7_ahead_74 : decode cX7_ahead 74 = .ok (.bipush 41, 2) := by decide +kernel
theorem dX7_ahead_76 : decode cX7_ahead 76 = .ok (.iload_n 1, 1) := by decide +kernel
theorem dX7_ahead_77 : decode cX7_ahead 77 = .ok (.iadd, 1) := by decide +kernel
theorem dX7_ahead_78 : decode cX7_ahead 78 = .ok (.iaload, 1) := by decide +kernel
theorem dX7_ahead_79 : decode cX7_ahead 79 = .ok (.goto 12, 3) := by decide +kernel
theorem dX7_ahead_82 : decode cX7_ahead 82 = .ok (.aload_n 0, 1) := by decide +kernel
theorem dX7_ahead_83 : decode cX7_ahead 83 = .ok (.getfield 28, 3) := by decide +kernel
theorem dX7_ahead_86 : decode cX7_ahead 86 = .ok (.bipush 47, 2) := by decide +kernel
theorem dX7_ahead_88 : decode cX7_ahead 88 = .ok (.iload_n 1, 1) := by decide +kernel
theorem dX7_ahead_89 : decode cX7_ahead 89 = .ok (.iadd, 1) := by decide +kernel
theorem dX7_ahead_90 : decode cX7_ahead 90 = .ok (.iaload, 1) := by decide +kernel
theorem dX7_ahead_91 : decode cX7_ahead 91 = .ok (.ireturn, 1) := by decide +kernel
theorem dX7_soon_0 : decode cX7_soon 0 = .ok (.aload_n 0, 1) := by decide +kernel
theorem dX7_soon_1 : decode cX7_soon 1 = .ok (.iload_n 1, 1) := by decide +kernel
theorem dX7_soon_2 : decode cX7_soon 2 = .ok (.invokevirtual 185, 3) := by decide +kernel
theorem dX7_soon_5 : decode cX7_soon 5 = .ok (.ifCond .ne 6, 3) := by decide +kernel
theorem dX7_soon_8 : decode cX7_soon 8 = .ok (.ldc 63, 2) := by decide +kernel
theorem dX7_soon_10 : decode cX7_soon 10 = .ok (.ireturn, 1) := by decide +kernel
theorem dX7_soon_11 : decode cX7_soon 11 = .ok (.aload_n 0, 1) := by decide +kernel
theorem dX7_soon_12 : decode cX7_soon 12 = .ok (.getfield 22, 3) := by decide +kernel
theorem dX7_soon_15 : decode cX7_soon 15 = .ok (.iconst 0, 1) := by decide +kernel
theorem dX7_soon_16 : decode cX7_soon 16 = .ok (.aload_n 0, 1) := by decide +kernel
theorem dX7_soon_17 : decode cX7_soon 17 = .ok (.getfield 28, 3) := by decide +kernel
theorem dX7_soon_20 : decode cX7_soon 20 = .ok (.iconst 0, 1) := by decide +kernel
theorem dX7_soon_21 : decode cX7_soon 21 = .ok (.invokestatic 126, 3) := by decide +kernel
theorem dX7_soon_24 : decode cX7_soon 24 = .ok (.iconst 0, 1) := by decide +kernel
theorem dX7_soon_25 : decode cX7_soon 25 = .ok (.istore_n 2, 1) := by decide +kernel
theorem dX7_soon_26 : decode cX7_soon 26 = .ok (.iload_n 2, 1) := by decide +kernel
theorem dX7_soon_27 : decode cX7_soon 27 = .ok (.bipush 60, 2) := by decide +kernel
theorem dX7_soon_29 : decode cX7_soon 29 = .ok (.if_icmp .gt 25, 3) := by decide +kernel
theorem dX7_soon_32 : decode cX7_soon 32 = .ok (.aload_n 0, 1) := by decide +kernel
theorem dX7_soon_33 : decode cX7_soon 33 = .ok (.getfield 28, 3) := by decide +kernel
theorem dX7_soon_36 : decode cX7_soon 36 = .ok (.invokestatic 179, 3) := by decide +kernel
theorem dX7_soon_39 : decode cX7_soon 39 = .ok (.iload_n 1, 1) := by decide +kernel
theorem dX7_soon_40 : decode cX7_soon 40 = .ok (.invokestatic 159, 3) := by decide +kernel
theorem dX7_soon_43 : decode cX7_soon 43 = .ok (.ifCond .eq 5, 3) := by decide +kernel
theorem dX7_soon_46 : decode cX7_soon 46 = .ok (.iload_n 2, 1) := by decide +kernel
theorem dX7_soon_47 : decode cX7_soon 47 = .ok (.ireturn, 1) := by decide +kernel
theorem dX7_soon_48 : decode cX7_soon 48 = .ok (.iinc 2 1, 3) := by decide +kernel
theorem dX7_soon_51 : decode cX7_soon 51 = .ok (.goto (-25), 3) := by decide +kernel
theorem dX7_soon_54 : decode cX7_soon 54 = .ok (.ldc 188, 2) := by decide +kernel
theorem dX7_soon_56 : decode cX7_soon 56 = .ok (.ireturn, 1) := by decide +kernel
theorem dX7_fits_0 : decode cX7_fits 0 = .ok (.iconst 1, 1) := by decide +kernel
theorem dX7_fits_1 : decode cX7_fits 1 = .ok (.istore 7, 2) := by decide +kernel
theorem dX7_fits_3 : decode cX7_fits 3 = .ok (.aload_n 0, 1) := by decide +kernel
theorem dX7_fits_4 : decode cX7_fits 4 = .ok (.getfield 22, 3) := by decide +kernel
theorem dX7_fits_7 : decode cX7_fits 7 = .ok (.iconst 5, 1) := by decide +kernel
theorem dX7_fits_8 : decode cX7_fits 8 = .ok (.iload_n 1, 1) := by decide +kernel
theorem dX7_fits_9 : decode cX7_fits 9 = .ok (.iadd, 1) := by decide +kernel
theorem dX7_fits_10 : decode cX7_fits 10 = .ok (.iaload, 1) := by decide +kernel
theorem dX7_fits_11 : decode cX7_fits 11 = .ok (.iload_n 2, 1) := by decide +kernel
theorem dX7_fits_12 : decode cX7_fits 12 = .ok (.iload_n 3, 1) := by decide +kernel
theorem dX7_fits_13 : decode cX7_fits 13 = .ok (.iload 4, 2) := by decide +kernel
theorem dX7_fits_15 : decode cX7_fits 15 = .ok (.invokestatic 137, 3) := by decide +kernel
theorem dX7_fits_18 : decode cX7_fits 18 = .ok (.istore 8, 2) := by decide +kernel
theorem dX7_fits_20 : decode cX7_fits 20 = .ok (.iconst 0, 1) := by decide +kernel
theorem dX7_fits_21 : decode cX7_fits 21 = .ok (.istore 9, 2) := by decide +kernel
theorem dX7_fits_23 : decode cX7_fits 23 = .ok (.iload 9, 2) := by decide +kernel
theorem dX7_fits_25 : decode cX7_fits 25 = .ok (.aload_n 0, 1) := by decide +kernel
theorem dX7_fits_26 : decode cX7_fits 26 = .ok (.getfield 22, 3) := by decide +kernel
theorem dX7_fits_29 : decode cX7_fits 29 = .ok (.iconst 3, 1) := by decide +kernel
theorem dX7_fits_30 : decode cX7_fits 30 = .ok (.iaload, 1) := by decide +kernel
theorem dX7_fits_31 : decode cX7_fits 31 = .ok (.if_icmp .ge 104, 3) := by decide +kernel
theorem dX7_fits_34 : decode cX7_fits 34 = .ok (.iload 8, 2) := by decide +kernel
theorem dX7_fits_36 : decode cX7_fits 36 = .ok (.aload_n 0, 1) := by decide +kernel
theorem dX7_fits_37 : decode cX7_fits 37 = .ok (.getfield 22, 3) := by decide +kernel
theorem dX7_fits_40 : decode cX7_fits 40 = .ok (.bipush 29, 2) := by decide +kernel
theorem dX7_fits_42 : decode cX7_fits 42 = .ok (.iload 9, 2) := by decide +kernel
theorem dX7_fits_44 : decode cX7_fits 44 = .ok (.iadd, 1) := by decide +kernel
theorem dX7_fits_45 : decode cX7_fits 45 = .ok (.iaload, 1) := by decide +kernel
theorem dX7_fits_46 : decode cX7_fits 46 = .ok (.aload_n 0, 1) := by decide +kernel
theorem dX7_fits_47 : decode cX7_fits 47 = .ok (.getfield 22, 3) := by decide +kernel
theorem dX7_fits_50 : decode cX7_fits 50 = .ok (.bipush 35, 2) := by decide +kernel
theorem dX7_fits_52 : decode cX7_fits 52 = .ok (.iload 9, 2) := by decide +kernel
theorem dX7_fits_54 : decode cX7_fits 54 = .ok (.iadd, 1) := by decide +kernel
theorem dX7_fits_55 : decode cX7_fits 55 = .ok (.iaload, 1) := by decide +kernel
theorem dX7_fits_56 : decode cX7_fits 56 = .ok (.iload_n 2, 1) := by decide +kernel
theorem dX7_fits_57 : decode cX7_fits 57 = .ok (.iload_n 3, 1) := by decide +kernel
theorem dX7_fits_58 : decode cX7_fits 58 = .ok (.iload 4, 2) := by decide +kernel
theorem dX7_fits_60 : decode cX7_fits 60 = .ok (.invokestatic 141, 3) := by decide +kernel
theorem dX7_fits_63 : decode cX7_fits 63 = .ok (.if_icmp .gt 7, 3) := by decide +kernel
theorem dX7_fits_66 : decode cX7_fits 66 = .ok (.iconst 1, 1) := by decide +kernel
theorem dX7_fits_67 : decode cX7_fits 67 = .ok (.goto 4, 3) := by decide +kernel
theorem dX7_fits_70 : decode cX7_fits 70 = .ok (.iconst 0, 1) := by decide +kernel
theorem dX7_fits_71 : decode cX7_fits 71 = .ok (.istore 10, 2) := by decide +kernel
theorem dX7_fits_73 : decode cX7_fits 73 = .ok (.iload 7, 2) := by decide +kernel
theorem dX7_fits_75 : decode cX7_fits 75 = .ok (.ifCond .eq 51, 3) := by decide +kernel
theorem dX7_fits_78 : decode cX7_fits 78 = .ok (.aload_n 0, 1) := by decide +kernel
theorem dX7_fits_79 : decode cX7_fits 79 = .ok (.getfield 22, 3) := by decide +kernel
theorem dX7_fits_82 : decode cX7_fits 82 = .ok (.bipush 41, 2) := by decide +kernel
theorem dX7_fits_84 : decode cX7_fits 84 = .ok (.iload 9, 2) := by decide +kernel
theorem dX7_fits_86 : decode cX7_fits 86 = .ok (.iadd, 1) := by decide +kernel
theorem dX7_fits_87 : decode cX7_fits 87 = .ok (.iaload, 1) := by decide +kernel
theorem dX7_fits_88 : decode cX7_fits 88 = .ok (.iload_n 1, 1) := by decide +kernel
theorem dX7_fits_89 : decode cX7_fits 89 = .ok (.if_icmp .ne 33, 3) := by decide +kernel
theorem dX7_fits_92 : decode cX7_fits 92 = .ok (.iload 5, 2) := by decide +kernel
theorem dX7_fits_94 : decode cX7_fits 94 = .ok (.iload 9, 2) := by decide +kernel
theorem dX7_fits_96 : decode cX7_fits 96 = .ok (.invokestatic 159, 3) := by decide +kernel
theorem dX7_fits_99 : decode cX7_fits 99 = .ok (.ifCond .eq 8, 3) := by decide +kernel
theorem dX7_fits_102 : decode cX7_fits 102 = .ok (.iload 10, 2) := by decide +kernel
theorem dX7_fits_104 : decode cX7_fits 104 = .ok (.ifCond .eq 22, 3) := by decide +kernel
theorem dX7_fits_107 : decode cX7_fits 107 = .ok (.iload 6, 2) := by decide +kernel
theorem dX7_fits_109 : decode cX7_fits 109 = .ok (.iload 9, 2) := by decide +kernel
theorem dX7_fits_111 : decode cX7_fits 111 = .ok (.invokestatic 159, 3) := by decide +kernel
theorem dX7_fits_114 : decode cX7_fits 114 = .ok (.ifCond .eq 8, 3) := by decide +kernel
theorem dX7_fits_117 : decode cX7_fits 117 = .ok (.iload 10, 2) := by decide +kernel
theorem dX7_fits_119 : decode cX7_fits 119 = .ok (.ifCond .ne 7, 3) := by decide +kernel
theorem dX7_fits_122 : decode cX7_fits 122 = .ok (.iconst 1, 1) := by decide +kernel
theorem dX7_fits_123 : decode cX7_fits 123 = .ok (.goto 4, 3) := by decide +kernel
theorem dX7_fits_126 : decode cX7_fits 126 = .ok (.iconst 0, 1) := by decide +kernel
theorem dX7_fits_127 : decode cX7_fits 127 = .ok (.istore 7, 2) := by decide +kernel
theorem dX7_fits_129 : decode cX7_fits 129 = .ok (.iinc 9 1, 3) := by decide +kernel
theorem dX7_fits_132 : decode cX7_fits 132 = .ok (.goto (-109), 3) := by decide +kernel
theorem dX7_fits_135 : decode cX7_fits 135 = .ok (.iload 7, 2) := by decide +kernel
theorem dX7_fits_137 : decode cX7_fits 137 = .ok (.ireturn, 1) := by decide +kernel
theorem dX7_costBy_0 : decode cX7_costBy 0 = .ok (.sipush 9999, 3) := by decide +kernel
theorem dX7_costBy_3 : decode cX7_costBy 3 = .ok (.istore 7, 2) := by decide +kernel
theorem dX7_costBy_5 : decode cX7_costBy 5 = .ok (.iload_n 1, 1) := by decide +kernel
theorem dX7_costBy_6 : decode cX7_costBy 6 = .ok (.iconst 1, 1) := by decide +kernel
theorem dX7_costBy_7 : decode cX7_costBy 7 = .ok (.iadd, 1) := by decide +kernel
theorem dX7_costBy_8 : decode cX7_costBy 8 = .ok (.aload_n 0, 1) := by decide +kernel
theorem dX7_costBy_9 : decode cX7_costBy 9 = .ok (.getfield 22, 3) := by decide +kernel
theorem dX7_costBy_12 : decode cX7_costBy 12 = .ok (.iconst 2, 1) := by decide +kernel
theorem dX7_costBy_13 : decode cX7_costBy 13 = .ok (.iaload, 1) := by decide +kernel
theorem dX7_costBy_14 : decode cX7_costBy 14 = .ok (.if_icmp .ne 7, 3) := by decide +kernel
theorem dX7_costBy_17 : decode cX7_costBy 17 = .ok (.iconst 1, 1) := by decide +kernel
theorem dX7_costBy_18 : decode cX7_costBy 18 = .ok (.goto 4, 3) := by decide +kernel
theorem dX7_costBy_21 : decode cX7_costBy 21 = .ok (.iconst 0, 1) := by decide +kernel
theorem dX7_costBy_22 : decode cX7_costBy 22 = .ok (.istore 8, 2) := by decide +kernel
theorem dX7_costBy_24 : decode cX7_costBy 24 = .ok (.iconst 0, 1) := by decide +kernel
theorem dX7_costBy_25 : decode cX7_costBy 25 = .ok (.istore 9, 2) := by decide +kernel
theorem dX7_costBy_27 : decode cX7_costBy 27 = .ok (.iload 9, 2) := by decide +kernel
theorem dX7_costBy_29 : decode cX7_costBy 29 = .ok (.iload 8, 2) := by decide +kernel
theorem dX7_costBy_31 : decode cX7_costBy 31 = .ok (.ifCond .eq 7, 3) := by decide +kernel
theorem dX7_costBy_34 : decode cX7_costBy 34 = .ok (.iconst 1, 1) := by decide +kernel
theorem dX7_costBy_35 : decode cX7_costBy 35 = .ok (.goto 4, 3) := by decide +kernel
theorem dX7_costBy_38 : decode cX7_costBy 38 = .ok (.iconst 2, 1) := by decide +kernel
theorem dX7_costBy_39 : decode cX7_costBy 39 = .ok (.if_icmp .ge 104, 3) := by decide +kernel
theorem dX7_costBy_42 : decode cX7_costBy 42 = .ok (.iload_n 2, 1) := by decide +kernel
theorem dX7_costBy_43 : decode cX7_costBy 43 = .ok (.ifCond .gt 9, 3) := by decide +kernel
theorem dX7_costBy_46 : decode cX7_costBy 46 = .ok (.iload 9, 2) := by decide +kernel
theorem dX7_costBy_48 : decode cX7_costBy 48 = .ok (.iconst 1, 1) := by decide +kernel
theorem dX7_costBy_49 : decode cX7_costBy 49 = .ok (.if_icmp .ne 7, 3) := by decide +kernel
theorem dX7_costBy_52 : decode cX7_costBy 52 = .ok (.iconst 1, 1) := by decide +kernel
theorem dX7_costBy_53 : decode cX7_costBy 53 = .ok (.goto 4, 3) := by decide +kernel
theorem dX7_costBy_56 : decode cX7_costBy 56 = .ok (.iconst 0, 1) := by decide +kernel
theorem dX7_costBy_57 : decode cX7_costBy 57 = .ok (.istore 10, 2) := by decide +kernel
theorem dX7_costBy_59 : decode cX7_costBy 59 = .ok (.aload_n 0, 1) := by decide +kernel
theorem dX7_costBy_60 : decode cX7_costBy 60 = .ok (.iload_n 1, 1) := by decide +kernel
theorem dX7_costBy_61 : decode cX7_costBy 61 = .ok (.iload_n 3, 1) := by decide +kernel
theorem dX7_costBy_62 : decode cX7_costBy 62 = .ok (.iload 4, 2) := by decide +kernel
theorem dX7_costBy_64 : decode cX7_costBy 64 = .ok (.iload 10, 2) := by decide +kernel
theorem dX7_costBy_66 : decode cX7_costBy 66 = .ok (.iload 5, 2) := by decide +kernel
theorem dX7_costBy_68 : decode cX7_costBy 68 = .ok (.iload 6, 2) := by decide +kernel
theorem dX7_costBy_70 : decode cX7_costBy 70 = .ok (.invokevirtual 189, 3) := by decide +kernel
theorem dX7_costBy_73 : decode cX7_costBy 73 = .ok (.ifCond .eq 43, 3) := by decide +kernel
theorem dX7_costBy_76 : decode cX7_costBy 76 = .ok (.iload_n 3, 1) := by decide +kernel
theorem dX7_costBy_77 : decode cX7_costBy 77 = .ok (.iload 4, 2) := by decide +kernel
theorem dX7_costBy_79 : decode cX7_costBy 79 = .ok (.iadd, 1) := by decide +kernel
theorem dX7_costBy_80 : decode cX7_costBy 80 = .ok (.iload_n 2, 1) := by decide +kernel
theorem dX7_costBy_81 : decode cX7_costBy 81 = .ok (.iconst 2, 1) := by decide +kernel
theorem dX7_costBy_82 : decode cX7_costBy 82 = .ok (.irem, 1) := by decide +kernel
theorem dX7_costBy_83 : decode cX7_costBy 83 = .ok (.iadd, 1) := by decide +kernel
theorem dX7_costBy_84 : decode cX7_costBy 84 = .ok (.iload 8, 2) := by decide +kernel
theorem dX7_costBy_86 : decode cX7_costBy 86 = .ok (.ifCond .eq 7, 3) := by decide +kernel
theorem dX7_costBy_89 : decode cX7_costBy 89 = .ok (.iconst 0, 1) := by decide +kernel
theorem dX7_costBy_90 : decode cX7_costBy 90 = .ok (.goto 22, 3) := by decide +kernel
theorem dX7_costBy_93 : decode cX7_costBy 93 = .ok (.aload_n 0, 1) := by decide +kernel
theorem dX7_costBy_94 : decode cX7_costBy 94 = .ok (.getfield 47, 3) := by decide +kernel
theorem dX7_costBy_97 : decode cX7_costBy 97 = .ok (.iconst 4, 1) := by decide +kernel
theorem dX7_costBy_98 : decode cX7_costBy 98 = .ok (.iload_n 1, 1) := by decide +kernel
theorem dX7_costBy_99 : decode cX7_costBy 99 = .ok (.imul, 1) := by decide +kernel
theorem dX7_costBy_100 : decode cX7_costBy 100 = .ok (.iconst 4, 1) := by decide +kernel
theorem dX7_costBy_101 : decode cX7_costBy 101 = .ok (.iadd, 1) := by decide +kernel
theorem dX7_costBy_102 : decode cX7_costBy 102 = .ok (.iload_n 2, 1) := by decide +kernel
theorem dX7_costBy_103 : decode cX7_costBy 103 = .ok (.iconst 2, 1) := by decide +kernel
theorem dX7_costBy_104 : decode cX7_costBy 104 = .ok (.irem, 1) := by decide +kernel
theorem dX7_costBy_105 : decode cX7_costBy 105 = .ok (.iconst 2, 1) := by decide +kernel
theorem dX7_costBy_106 : decode cX7_costBy 106 = .ok (.imul, 1) := by decide +kernel
theorem dX7_costBy_107 : decode cX7_costBy 107 = .ok (.iadd, 1) := by decide +kernel
theorem dX7_costBy_108 : decode cX7_costBy 108 = .ok (.iload 9, 2) := by decide +kernel
theorem dX7_costBy_110 : decode cX7_costBy 110 = .ok (.iadd, 1) := by decide +kernel
theorem dX7_costBy_111 : decode cX7_costBy 111 = .ok (.iaload, 1) := by decide +kernel
theorem dX7_costBy_112 : decode cX7_costBy 112 = .ok (.iadd, 1) := by decide +kernel
theorem dX7_costBy_113 : decode cX7_costBy 113 = .ok (.goto 6, 3) := by decide +kernel
theorem dX7_costBy_116 : decode cX7_costBy 116 = .ok (.sipush 9999, 3) := by decide +kernel
theorem dX7_costBy_119 : decode cX7_costBy 119 = .ok (.istore 11, 2) := by decide +kernel
theorem dX7_costBy_121 : decode cX7_costBy 121 = .ok (.iload 11, 2) := by decide +kernel
theorem dX7_costBy_123 : decode cX7_costBy 123 = .ok (.iload 7, 2) := by decide +kernel
theorem dX7_costBy_125 : decode cX7_costBy 125 = .ok (.if_icmp .ge 8, 3) := by decide +kernel
theorem dX7_costBy_128 : decode cX7_costBy 128 = .ok (.iload 11, 2) := by decide +kernel
theorem dX7_costBy_130 : decode cX7_costBy 130 = .ok (.goto 5, 3) := by decide +kernel
theorem dX7_costBy_133 : decode cX7_costBy 133 = .ok (.iload 7, 2) := by decide +kernel
theorem dX7_costBy_135 : decode cX7_costBy 135 = .ok (.istore 7, 2) := by decide +kernel
theorem dX7_costBy_137 : decode cX7_costBy 137 = .ok (.iinc 9 1, 3) := by decide +kernel
theorem dX7_costBy_140 : decode cX7_costBy 140 = .ok (.goto (-113), 3) := by decide +kernel
theorem dX7_costBy_143 : decode cX7_costBy 143 = .ok (.iload 7, 2) := by decide +kernel
theorem dX7_costBy_145 : decode cX7_costBy 145 = .ok (.ireturn, 1) := by decide +kernel
theorem dX7_layCosts_0 : decode cX7_layCosts 0 = .ok (.aload_n 0, 1) := by decide +kernel
theorem dX7_layCosts_1 : decode cX7_layCosts 1 = .ok (.getfield 22, 3) := by decide +kernel
theorem dX7_layCosts_4 : decode cX7_layCosts 4 = .ok (.iconst 2, 1) := by decide +kernel
theorem dX7_layCosts_5 : decode cX7_layCosts 5 = .ok (.iaload, 1) := by decide +kernel
theorem dX7_layCosts_6 : decode cX7_layCosts 6 = .ok (.iconst 1, 1) := by decide +kernel
theorem dX7_layCosts_7 : decode cX7_layCosts 7 = .ok (.isub, 1) := by decide +kernel
theorem dX7_layCosts_8 : decode cX7_layCosts 8 = .ok (.istore_n 3, 1) := by decide +kernel
theorem dX7_layCosts_9 : decode cX7_layCosts 9 = .ok (.iload_n 3, 1) := by decide +kernel
theorem dX7_layCosts_10 : decode cX7_layCosts 10 = .ok (.ifCond .lt 93, 3) := by decide +kernel
theorem dX7_layCosts_13 : decode cX7_layCosts 13 = .ok (.iconst 0, 1) := by decide +kernel
theorem dX7_layCosts_14 : decode cX7_layCosts 14 = .ok (.istore 4, 2) := by decide +kernel
theorem dX7_layCosts_16 : decode cX7_layCosts 16 = .ok (.iload 4, 2) := by decide +kernel
theorem dX7_layCosts_18 : decode cX7_layCosts 18 = .ok (.iconst 4, 1) := by decide +kernel
theorem dX7_layCosts_19 : decode cX7_layCosts 19 = .ok (.if_icmp .ge 78, 3) := by decide +kernel
theorem dX7_layCosts_22 : decode cX7_layCosts 22 = .ok (.sipush 9999, 3) := by decide +kernel
theorem dX7_layCosts_25 : decode cX7_layCosts 25 = .ok (.istore 5, 2) := by decide +kernel
theorem dX7_layCosts_27 : decode cX7_layCosts 27 = .ok (.iconst 0, 1) := by decide +kernel
theorem dX7_layCosts_28 : decode cX7_layCosts 28 = .ok (.istore 6, 2) := by decide +kernel
theorem dX7_layCosts_30 : decode cX7_layCosts 30 = .ok (.iload 6, 2) := by decide +kernel
theorem dX7_layCosts_32 : decode cX7_layCosts 32 = .ok (.bipush 12, 2) := by decide +kernel
theorem dX7_layCosts_34 : decode cX7_layCosts 34 = .ok (.if_icmp .ge 44, 3) := by decide +kernel
theorem dX7_layCosts_37 : decode cX7_layCosts 37 = .ok (.aload_n 0, 1) := by decide +kernel
theorem dX7_layCosts_38 : decode cX7_layCosts 38 = .ok (.iload_n 3, 1) := by decide +kernel
theorem dX7_layCosts_39 : decode cX7_layCosts 39 = .ok (.iload 4, 2) := by decide +kernel
theorem dX7_layCosts_41 : decode cX7_layCosts 41 = .ok (.iload 6, 2) := by decide +kernel
theorem dX7_layCosts_43 : decode cX7_layCosts 43 = .ok (.iconst 2, 1) := by decide +kernel
theorem dX7_layCosts_44 : decode cX7_layCosts 44 = .ok (.idiv, 1) := by decide +kernel
theorem dX7_layCosts_45 : decode cX7_layCosts 45 = .ok (.iload 6, 2) := by decide +kernel
theorem dX7_layCosts_47 : decode cX7_layCosts 47 = .ok (.iconst 2, 1) := by decide +kernel
theorem dX7_layCosts_48 : decode cX7_layCosts 48 = .ok (.irem, 1) := by decide +kernel
theorem dX7_layCosts_49 : decode cX7_layCosts 49 = .ok (.iload_n 1, 1) := by decide +kernel
theorem dX7_layCosts_50 : decode cX7_layCosts 50 = .ok (.iload_n 2, 1) := by decide +kernel
theorem dX7_layCosts_51 : decode cX7_layCosts 51 = .ok (.invokevirtual 193, 3) := by decide +kernel
theorem dX7_layCosts_54 : decode cX7_layCosts 54 = .ok (.istore 7, 2) := by decide +kernel
theorem dX7_layCosts_56 : decode cX7_layCosts 56 = .ok (.iload 7, 2) := by decide +kernel
theorem dX7_layCosts_58 : decode cX7_layCosts 58 = .ok (.iload 5, 2) := by decide +kernel
theorem dX7_layCosts_60 : decode cX7_layCosts 60 = .ok (.if_icmp .ge 8, 3) := by decide +kernel
theorem dX7_layCosts_63 : decode cX7_layCosts 63 = .ok (.iload 7, 2) := by decide +kernel
theorem dX7_layCosts_65 : decode cX7_layCosts 65 = .ok (.goto 5, 3) := by decide +kernel
theorem dX7_layCosts_68 : decode cX7_layCosts 68 = .ok (.iload 5, 2) := by decide +kernel
theorem dX7_layCosts_70 : decode cX7_layCosts 70 = .ok (.istore 5, 2) := by decide +kernel
theorem dX7_layCosts_72 : decode cX7_layCosts 72 = .ok (.iinc 6 1, 3) := by decide +kernel
theorem dX7_layCosts_75 : decode cX7_layCosts 75 = .ok (.goto (-45), 3) := by decide +kernel
theorem dX7_layCosts_78 : decode cX7_layCosts 78 = .ok (.aload_n 0, 1) := by decide +kernel
theorem dX7_layCosts_79 : decode cX7_layCosts 79 = .ok (.getfield 47, 3) := by decide +kernel
theorem dX7_layCosts_82 : decode cX7_layCosts 82 = .ok (.iconst 4, 1) := by decide +kernel
theorem dX7_layCosts_83 : decode cX7_layCosts 83 = .ok (.iload_n 3, 1) := by decide +kernel
theorem dX7_layCosts_84 : decode cX7_layCosts 84 = .ok (.imul, 1) := by decide +kernel
theorem dX7_layCosts_85 : decode cX7_layCosts 85 = .ok (.iload 4, 2) := by decide +kernel
theorem dX7_layCosts_87 : decode cX7_layCosts 87 = .ok (.iadd, 1) := by decide +kernel
theorem dX7_layCosts_88 : decode cX7_layCosts 88 = .ok (.iload 5, 2) := by decide +kernel
theorem dX7_layCosts_90 : decode cX7_layCosts 90 = .ok (.iastore, 1) := by decide +kernel
theorem dX7_layCosts_91 : decode cX7_layCosts 91 = .ok (.iinc 4 1, 3) := by decide +kernel
theorem dX7_layCosts_94 : decode cX7_layCosts 94 = .ok (.goto (-78), 3) := by decide +kernel
theorem dX7_layCosts_97 : decode cX7_layCosts 97 = .ok (.iinc 3 (-1), 3) := by decide +kernel
theorem dX7_layCosts_100 : decode cX7_layCosts 100 = .ok (.goto (-91), 3) := by decide +kernel
theorem dX7_layCosts_103 : decode cX7_layCosts 103 = .ok (.return_, 1) := by decide +kernel
theorem dX7_layLeast_0 : decode cX7_layLeast 0 = .ok (.aload_n 0, 1) := by decide +kernel
theorem dX7_layLeast_1 : decode cX7_layLeast 1 = .ok (.iload_n 1, 1) := by decide +kernel
theorem dX7_layLeast_2 : decode cX7_layLeast 2 = .ok (.iload_n 2, 1) := by decide +kernel
theorem dX7_layLeast_3 : decode cX7_layLeast 3 = .ok (.invokevirtual 197, 3) := by decide +kernel
theorem dX7_layLeast_6 : decode cX7_layLeast 6 = .ok (.aload_n 0, 1) := by decide +kernel
theorem dX7_layLeast_7 : decode cX7_layLeast 7 = .ok (.getfield 47, 3) := by decide +kernel
theorem dX7_layLeast_10 : decode cX7_layLeast 10 = .ok (.iconst 0, 1) := by decide +kernel
theorem dX7_layLeast_11 : decode cX7_layLeast 11 = .ok (.iaload, 1) := by decide +kernel
theorem dX7_layLeast_12 : decode cX7_layLeast 12 = .ok (.aload_n 0, 1) := by decide +kernel
theorem dX7_layLeast_13 : decode cX7_layLeast 13 = .ok (.getfield 47, 3) := by decide +kernel
theorem dX7_layLeast_16 : decode cX7_layLeast 16 = .ok (.iconst 1, 1) := by decide +kernel
theorem dX7_layLeast_17 : decode cX7_layLeast 17 = .ok (.iaload, 1) := by decide +kernel
theorem dX7_layLeast_18 : decode cX7_layLeast 18 = .ok (.if_icmp .ge 12, 3) := by decide +kernel
theorem dX7_layLeast_21 : decode cX7_layLeast 21 = .ok (.aload_n 0, 1) := by decide +kernel
theorem dX7_layLeast_22 : decode cX7_layLeast 22 = .ok (.getfield 47, 3) := by decide +kernel
theorem dX7_layLeast_25 : decode cX7_layLeast 25 = .ok (.iconst 0, 1) := by decide +kernel
theorem dX7_layLeast_26 : decode cX7_layLeast 26 = .ok (.iaload, 1) := by decide +kernel
theorem dX7_layLeast_27 : decode cX7_layLeast 27 = .ok (.goto 9, 3) := by decide +kernel
theorem dX7_layLeast_30 : decode cX7_layLeast 30 = .ok (.aload_n 0, 1) := by decide +kernel
theorem dX7_layLeast_31 : decode cX7_layLeast 31 = .ok (.getfield 47, 3) := by decide +kernel
theorem dX7_layLeast_34 : decode cX7_layLeast 34 = .ok (.iconst 1, 1) := by decide +kernel
theorem dX7_layLeast_35 : decode cX7_layLeast 35 = .ok (.iaload, 1) := by decide +kernel
theorem dX7_layLeast_36 : decode cX7_layLeast 36 = .ok (.istore_n 3, 1) := by decide +kernel
theorem dX7_layLeast_37 : decode cX7_layLeast 37 = .ok (.iload_n 3, 1) := by decide +kernel
theorem dX7_layLeast_38 : decode cX7_layLeast 38 = .ok (.sipush 9999, 3) := by decide +kernel
theorem dX7_layLeast_41 : decode cX7_layLeast 41 = .ok (.if_icmp .lt 7, 3) := by decide +kernel
theorem dX7_layLeast_44 : decode cX7_layLeast 44 = .ok (.sipush 9999, 3) := by decide +kernel
theorem dX7_layLeast_47 : decode cX7_layLeast 47 = .ok (.ireturn, 1) := by decide +kernel
theorem dX7_layLeast_48 : decode cX7_layLeast 48 = .ok (.iload_n 3, 1) := by decide +kernel
theorem dX7_layLeast_49 : decode cX7_layLeast 49 = .ok (.istore 4, 2) := by decide +kernel
theorem dX7_layLeast_51 : decode cX7_layLeast 51 = .ok (.iconst 0, 1) := by decide +kernel
theorem dX7_layLeast_52 : decode cX7_layLeast 52 = .ok (.istore 5, 2) := by decide +kernel
theorem dX7_layLeast_54 : decode cX7_layLeast 54 = .ok (.iconst (-1), 1) := by decide +kernel
theorem dX7_layLeast_55 : decode cX7_layLeast 55 = .ok (.istore 6, 2) := by decide +kernel
theorem dX7_layLeast_57 : decode cX7_layLeast 57 = .ok (.iconst 0, 1) := by decide +kernel
theorem dX7_layLeast_58 : decode cX7_layLeast 58 = .ok (.istore 7, 2) := by decide +kernel
theorem dX7_layLeast_60 : decode cX7_layLeast 60 = .ok (.iconst 0, 1) := by decide +kernel
theorem dX7_layLeast_61 : decode cX7_layLeast 61 = .ok (.istore 8, 2) := by decide +kernel
theorem dX7_layLeast_63 : decode cX7_layLeast 63 = .ok (.iconst 0, 1) := by decide +kernel
theorem dX7_layLeast_64 : decode cX7_layLeast 64 = .ok (.istore 9, 2) := by decide +kernel
theorem dX7_layLeast_66 : decode cX7_layLeast 66 = .ok (.iload 9, 2) := by decide +kernel
theorem dX7_layLeast_68 : decode cX7_layLeast 68 = .ok (.aload_n 0, 1) := by decide +kernel
theorem dX7_layLeast_69 : decode cX7_layLeast 69 = .ok (.getfield 22, 3) := by decide +kernel
theorem dX7_layLeast_72 : decode cX7_layLeast 72 = .ok (.iconst 2, 1) := by decide +kernel
theorem dX7_layLeast_73 : decode cX7_layLeast 73 = .ok (.iaload, 1) := by decide +kernel
theorem dX7_layLeast_74 : decode cX7_layLeast 74 = .ok (.if_icmp .ge 191, 3) := by decide +kernel
theorem dX7_layLeast_77 : decode cX7_layLeast 77 = .ok (.iconst 0, 1) := by decide +kernel
theorem dX7_layLeast_78 : decode cX7_layLeast 78 = .ok (.istore 10, 2) := by decide +kernel
theorem dX7_layLeast_80 : decode cX7_layLeast 80 = .ok (.iconst 0, 1) := by decide +kernel
theorem dX7_layLeast_81 : decode cX7_layLeast 81 = .ok (.istore 11, 2) := by decide +kernel
theorem dX7_layLeast_83 : decode cX7_layLeast 83 = .ok (.iload 11, 2) := by decide +kernel
theorem dX7_layLeast_85 : decode cX7_layLeast 85 = .ok (.bipush 24, 2) := by decide +kernel
theorem dX7_layLeast_87 : decode cX7_layLeast 87 = .ok (.if_icmp .ge 120, 3) := by decide +kernel
theorem dX7_layLeast_90 : decode cX7_layLeast 90 = .ok (.iload 10, 2) := by decide +kernel
theorem dX7_layLeast_92 : decode cX7_layLeast 92 = .ok (.ifCond .ne 115, 3) := by decide +kernel
theorem dX7_layLeast_95 : decode cX7_layLeast 95 = .ok (.iload 11, 2) := by decide +kernel
theorem dX7_layLeast_97 : decode cX7_layLeast 97 = .ok (.iconst 2, 1) := by decide +kernel
theorem dX7_layLeast_98 : decode cX7_layLeast 98 = .ok (.irem, 1) := by decide +kernel
theorem dX7_layLeast_99 : decode cX7_layLeast 99 = .ok (.istore 12, 2) := by decide +kernel
theorem dX7_layLeast_101 : decode cX7_layLeast 101 = .ok (.iconst 2, 1) := by decide +kernel
theorem dX7_layLeast_102 : decode cX7_layLeast 102 = .ok (.iload 5, 2) := by decide +kernel
theorem dX7_layLeast_104 : decode cX7_layLeast 104 = .ok (.imul, 1) := by decide +kernel
theorem dX7_layLeast_105 : decode cX7_layLeast 105 = .ok (.iload 12, 2) := by decide +kernel
theorem dX7_layLeast_107 : decode cX7_layLeast 107 = .ok (.iadd, 1) := by decide +kernel
theorem dX7_layLeast_108 : decode cX7_layLeast 108 = .ok (.istore 13, 2) := by decide +kernel
theorem dX7_layLeast_110 : decode cX7_layLeast 110 = .ok (.iload 6, 2) := by decide +kernel
theorem dX7_layLeast_112 : decode cX7_layLeast 112 = .ok (.ifCond .lt 40, 3) := by decide +kernel
theorem dX7_layLeast_115 : decode cX7_layLeast 115 = .ok (.aload_n 0, 1) := by decide +kernel
theorem dX7_layLeast_116 : decode cX7_layLeast 116 = .ok (.iload 9, 2) := by decide +kernel
theorem dX7_layLeast_118 : decode cX7_layLeast 118 = .ok (.iconst 1, 1) := by decide +kernel
theorem dX7_layLeast_119 : decode cX7_layLeast 119 = .ok (.isub, 1) := by decide +kernel
theorem dX7_layLeast_120 : decode cX7_layLeast 120 = .ok (.iload 6, 2) := by decide +kernel
theorem dX7_layLeast_122 : decode cX7_layLeast 122 = .ok (.iload 7, 2) := by decide +kernel
theorem dX7_layLeast_124 : decode cX7_layLeast 124 = .ok (.iload 8, 2) := by decide +kernel
theorem dX7_layLeast_126 : decode cX7_layLeast 126 = .ok (.ifCond .gt 13, 3) := by decide +kernel
theorem dX7_layLeast_129 : decode cX7_layLeast 129 = .ok (.iload 5, 2) := by decide +kernel
theorem dX7_layLeast_131 : decode cX7_layLeast 131 = .ok (.ifCond .gt 8, 3) := by decide +kernel
theorem dX7_layLeast_134 : decode cX7_layLeast 134 = .ok (.iload 12, 2) := by decide +kernel
theorem dX7_layLeast_136 : decode cX7_layLeast 136 = .ok (.ifCond .le 7, 3) := by decide +kernel
theorem dX7_layLeast_139 : decode cX7_layLeast 139 = .ok (.iconst 1, 1) := by decide +kernel
theorem dX7_layLeast_140 : decode cX7_layLeast 140 = .ok (.goto 4, 3) := by decide +kernel
theorem dX7_layLeast_143 : decode cX7_layLeast 143 = .ok (.iconst 0, 1) := by decide +kernel
theorem dX7_layLeast_144 : decode cX7_layLeast 144 = .ok (.iload_n 1, 1) := by decide +kernel
theorem dX7_layLeast_145 : decode cX7_layLeast 145 = .ok (.iload_n 2, 1) := by decide +kernel
theorem dX7_layLeast_146 : decode cX7_layLeast 146 = .ok (.invokevirtual 189, 3) := by decide +kernel
theorem dX7_layLeast_149 : decode cX7_layLeast 149 = .ok (.ifCond .eq 7, 3) := by decide +kernel
theorem dX7_layLeast_152 : decode cX7_layLeast 152 = .ok (.iconst 1, 1) := by decide +kernel
theorem dX7_layLeast_153 : decode cX7_layLeast 153 = .ok (.goto 4, 3) := by decide +kernel
theorem dX7_layLeast_156 : decode cX7_layLeast 156 = .ok (.iconst 0, 1) := by decide +kernel
theorem dX7_layLeast_157 : decode cX7_layLeast 157 = .ok (.istore 14, 2) := by decide +kernel
theorem dX7_layLeast_159 : decode cX7_layLeast 159 = .ok (.iload 14, 2) := by decide +kernel
theorem dX7_layLeast_161 : decode cX7_layLeast 161 = .ok (.ifCond .eq 40, 3) := by decide +kernel
theorem dX7_layLeast_164 : decode cX7_layLeast 164 = .ok (.aload_n 0, 1) := by decide +kernel
theorem dX7_layLeast_165 : decode cX7_layLeast 165 = .ok (.iload 9, 2) := by decide +kernel
theorem dX7_layLeast_167 : decode cX7_layLeast 167 = .ok (.iload 13, 2) := by decide +kernel
theorem dX7_layLeast_169 : decode cX7_layLeast 169 = .ok (.iload 11, 2) := by decide +kernel
theorem dX7_layLeast_171 : decode cX7_layLeast 171 = .ok (.iconst 4, 1) := by decide +kernel
end
section
theorem dX7_layLeast_172 : decode cX7_layLeast 172 = .ok (.idiv, 1) := by decide +kernel
theorem dX7_layLeast_173 : decode cX7_layLeast 173 = .ok (.iload 11, 2) := by decide +kernel
theorem dX7_layLeast_175 : decode cX7_layLeast 175 = .ok (.iconst 2, 1) := by decide +kernel
theorem dX7_layLeast_176 : decode cX7_layLeast 176 = .ok (.idiv, 1) := by decide +kernel
theorem dX7_layLeast_177 : decode cX7_layLeast 177 = .ok (.iconst 2, 1) := by decide +kernel
theorem dX7_layLeast_178 : decode cX7_layLeast 178 = .ok (.irem, 1) := by decide +kernel
theorem dX7_layLeast_179 : decode cX7_layLeast 179 = .ok (.iload_n 1, 1) := by decide +kernel
theorem dX7_layLeast_180 : decode cX7_layLeast 180 = .ok (.iload_n 2, 1) := by decide +kernel
theorem dX7_layLeast_181 : decode cX7_layLeast 181 = .ok (.invokevirtual 193, 3) := by decide +kernel
theorem dX7_layLeast_184 : decode cX7_layLeast 184 = .ok (.iload 4, 2) := by decide +kernel
theorem dX7_layLeast_186 : decode cX7_layLeast 186 = .ok (.if_icmp .ne 15, 3) := by decide +kernel
theorem dX7_layLeast_189 : decode cX7_layLeast 189 = .ok (.iconst 1, 1) := by decide +kernel
theorem dX7_layLeast_190 : decode cX7_layLeast 190 = .ok (.istore 10, 2) := by decide +kernel
theorem dX7_layLeast_192 : decode cX7_layLeast 192 = .ok (.aload_n 0, 1) := by decide +kernel
theorem dX7_layLeast_193 : decode cX7_layLeast 193 = .ok (.getfield 44, 3) := by decide +kernel
theorem dX7_layLeast_196 : decode cX7_layLeast 196 = .ok (.iload 9, 2) := by decide +kernel
theorem dX7_layLeast_198 : decode cX7_layLeast 198 = .ok (.iload 11, 2) := by decide +kernel
theorem dX7_layLeast_200 : decode cX7_layLeast 200 = .ok (.iastore, 1) := by decide +kernel
theorem dX7_layLeast_201 : decode cX7_layLeast 201 = .ok (.iinc 11 1, 3) := by decide +kernel
theorem dX7_layLeast_204 : decode cX7_layLeast 204 = .ok (.goto (-121), 3) := by decide +kernel
theorem dX7_layLeast_207 : decode cX7_layLeast 207 = .ok (.iload 5, 2) := by decide +kernel
theorem dX7_layLeast_209 : decode cX7_layLeast 209 = .ok (.istore 8, 2) := by decide +kernel
theorem dX7_layLeast_211 : decode cX7_layLeast 211 = .ok (.aload_n 0, 1) := by decide +kernel
theorem dX7_layLeast_212 : decode cX7_layLeast 212 = .ok (.getfield 44, 3) := by decide +kernel
theorem dX7_layLeast_215 : decode cX7_layLeast 215 = .ok (.iload 9, 2) := by decide +kernel
theorem dX7_layLeast_217 : decode cX7_layLeast 217 = .ok (.iaload, 1) := by decide +kernel
theorem dX7_layLeast_218 : decode cX7_layLeast 218 = .ok (.iconst 2, 1) := by decide +kernel
theorem dX7_layLeast_219 : decode cX7_layLeast 219 = .ok (.irem, 1) := by decide +kernel
theorem dX7_layLeast_220 : decode cX7_layLeast 220 = .ok (.istore 5, 2) := by decide +kernel
theorem dX7_layLeast_222 : decode cX7_layLeast 222 = .ok (.aload_n 0, 1) := by decide +kernel
theorem dX7_layLeast_223 : decode cX7_layLeast 223 = .ok (.getfield 44, 3) := by decide +kernel
theorem dX7_layLeast_226 : decode cX7_layLeast 226 = .ok (.iload 9, 2) := by decide +kernel
theorem dX7_layLeast_228 : decode cX7_layLeast 228 = .ok (.iaload, 1) := by decide +kernel
theorem dX7_layLeast_229 : decode cX7_layLeast 229 = .ok (.iconst 4, 1) := by decide +kernel
theorem dX7_layLeast_230 : decode cX7_layLeast 230 = .ok (.idiv, 1) := by decide +kernel
theorem dX7_layLeast_231 : decode cX7_layLeast 231 = .ok (.istore 6, 2) := by decide +kernel
theorem dX7_layLeast_233 : decode cX7_layLeast 233 = .ok (.aload_n 0, 1) := by decide +kernel
theorem dX7_layLeast_234 : decode cX7_layLeast 234 = .ok (.getfield 44, 3) := by decide +kernel
theorem dX7_layLeast_237 : decode cX7_layLeast 237 = .ok (.iload 9, 2) := by decide +kernel
theorem dX7_layLeast_239 : decode cX7_layLeast 239 = .ok (.iaload, 1) := by decide +kernel
theorem dX7_layLeast_240 : decode cX7_layLeast 240 = .ok (.iconst 2, 1) := by decide +kernel
theorem dX7_layLeast_241 : decode cX7_layLeast 241 = .ok (.idiv, 1) := by decide +kernel
theorem dX7_layLeast_242 : decode cX7_layLeast 242 = .ok (.iconst 2, 1) := by decide +kernel
theorem dX7_layLeast_243 : decode cX7_layLeast 243 = .ok (.irem, 1) := by decide +kernel
theorem dX7_layLeast_244 : decode cX7_layLeast 244 = .ok (.istore 7, 2) := by decide +kernel
theorem dX7_layLeast_246 : decode cX7_layLeast 246 = .ok (.iload 4, 2) := by decide +kernel
theorem dX7_layLeast_248 : decode cX7_layLeast 248 = .ok (.iload 6, 2) := by decide +kernel
theorem dX7_layLeast_250 : decode cX7_layLeast 250 = .ok (.iload 7, 2) := by decide +kernel
theorem dX7_layLeast_252 : decode cX7_layLeast 252 = .ok (.iadd, 1) := by decide +kernel
theorem dX7_layLeast_253 : decode cX7_layLeast 253 = .ok (.iload 5, 2) := by decide +kernel
theorem dX7_layLeast_255 : decode cX7_layLeast 255 = .ok (.iadd, 1) := by decide +kernel
theorem dX7_layLeast_256 : decode cX7_layLeast 256 = .ok (.isub, 1) := by decide +kernel
theorem dX7_layLeast_257 : decode cX7_layLeast 257 = .ok (.istore 4, 2) := by decide +kernel
theorem dX7_layLeast_259 : decode cX7_layLeast 259 = .ok (.iinc 9 1, 3) := by decide +kernel
theorem dX7_layLeast_262 : decode cX7_layLeast 262 = .ok (.goto (-196), 3) := by decide +kernel
theorem dX7_layLeast_265 : decode cX7_layLeast 265 = .ok (.iload_n 3, 1) := by decide +kernel
theorem dX7_layLeast_266 : decode cX7_layLeast 266 = .ok (.ireturn, 1) := by decide +kernel
theorem dX7_areSets_0 : decode cX7_areSets 0 = .ok (.iconst 1, 1) := by decide +kernel
theorem dX7_areSets_1 : decode cX7_areSets 1 = .ok (.aload_n 0, 1) := by decide +kernel
theorem dX7_areSets_2 : decode cX7_areSets 2 = .ok (.getfield 22, 3) := by decide +kernel
theorem dX7_areSets_5 : decode cX7_areSets 5 = .ok (.iconst 3, 1) := by decide +kernel
theorem dX7_areSets_6 : decode cX7_areSets 6 = .ok (.iaload, 1) := by decide +kernel
theorem dX7_areSets_7 : decode cX7_areSets 7 = .ok (.ishl, 1) := by decide +kernel
theorem dX7_areSets_8 : decode cX7_areSets 8 = .ok (.iconst 1, 1) := by decide +kernel
theorem dX7_areSets_9 : decode cX7_areSets 9 = .ok (.isub, 1) := by decide +kernel
theorem dX7_areSets_10 : decode cX7_areSets 10 = .ok (.istore_n 3, 1) := by decide +kernel
theorem dX7_areSets_11 : decode cX7_areSets 11 = .ok (.iload_n 1, 1) := by decide +kernel
theorem dX7_areSets_12 : decode cX7_areSets 12 = .ok (.iconst 0, 1) := by decide +kernel
theorem dX7_areSets_13 : decode cX7_areSets 13 = .ok (.iload_n 3, 1) := by decide +kernel
theorem dX7_areSets_14 : decode cX7_areSets 14 = .ok (.invokestatic 55, 3) := by decide +kernel
theorem dX7_areSets_17 : decode cX7_areSets 17 = .ok (.ifCond .eq 22, 3) := by decide +kernel
theorem dX7_areSets_20 : decode cX7_areSets 20 = .ok (.iload_n 2, 1) := by decide +kernel
theorem dX7_areSets_21 : decode cX7_areSets 21 = .ok (.iconst 0, 1) := by decide +kernel
theorem dX7_areSets_22 : decode cX7_areSets 22 = .ok (.iload_n 3, 1) := by decide +kernel
theorem dX7_areSets_23 : decode cX7_areSets 23 = .ok (.invokestatic 55, 3) := by decide +kernel
theorem dX7_areSets_26 : decode cX7_areSets 26 = .ok (.ifCond .eq 13, 3) := by decide +kernel
theorem dX7_areSets_29 : decode cX7_areSets 29 = .ok (.iload_n 1, 1) := by decide +kernel
theorem dX7_areSets_30 : decode cX7_areSets 30 = .ok (.iload_n 2, 1) := by decide +kernel
theorem dX7_areSets_31 : decode cX7_areSets 31 = .ok (.iand, 1) := by decide +kernel
theorem dX7_areSets_32 : decode cX7_areSets 32 = .ok (.ifCond .ne 7, 3) := by decide +kernel
theorem dX7_areSets_35 : decode cX7_areSets 35 = .ok (.iconst 1, 1) := by decide +kernel
theorem dX7_areSets_36 : decode cX7_areSets 36 = .ok (.goto 4, 3) := by decide +kernel
theorem dX7_areSets_39 : decode cX7_areSets 39 = .ok (.iconst 0, 1) := by decide +kernel
theorem dX7_areSets_40 : decode cX7_areSets 40 = .ok (.ireturn, 1) := by decide +kernel
theorem dX7_least_0 : decode cX7_least 0 = .ok (.aload_n 0, 1) := by decide +kernel
theorem dX7_least_1 : decode cX7_least 1 = .ok (.invokevirtual 176, 3) := by decide +kernel
theorem dX7_least_4 : decode cX7_least 4 = .ok (.ifCond .ne 6, 3) := by decide +kernel
theorem dX7_least_7 : decode cX7_least 7 = .ok (.ldc 162, 2) := by decide +kernel
theorem dX7_least_9 : decode cX7_least 9 = .ok (.ireturn, 1) := by decide +kernel
theorem dX7_least_10 : decode cX7_least 10 = .ok (.aload_n 0, 1) := by decide +kernel
theorem dX7_least_11 : decode cX7_least 11 = .ok (.iload_n 1, 1) := by decide +kernel
theorem dX7_least_12 : decode cX7_least 12 = .ok (.iload_n 2, 1) := by decide +kernel
theorem dX7_least_13 : decode cX7_least 13 = .ok (.invokevirtual 201, 3) := by decide +kernel
theorem dX7_least_16 : decode cX7_least 16 = .ok (.ifCond .eq 16, 3) := by decide +kernel
theorem dX7_least_19 : decode cX7_least 19 = .ok (.iload_n 3, 1) := by decide +kernel
theorem dX7_least_20 : decode cX7_least 20 = .ok (.iconst (-1), 1) := by decide +kernel
theorem dX7_least_21 : decode cX7_least 21 = .ok (.if_icmp .eq 14, 3) := by decide +kernel
theorem dX7_least_24 : decode cX7_least 24 = .ok (.aload_n 0, 1) := by decide +kernel
theorem dX7_least_25 : decode cX7_least 25 = .ok (.iload_n 3, 1) := by decide +kernel
theorem dX7_least_26 : decode cX7_least 26 = .ok (.invokevirtual 163, 3) := by decide +kernel
theorem dX7_least_29 : decode cX7_least 29 = .ok (.ifCond .ne 6, 3) := by decide +kernel
theorem dX7_least_32 : decode cX7_least 32 = .ok (.ldc 63, 2) := by decide +kernel
theorem dX7_least_34 : decode cX7_least 34 = .ok (.ireturn, 1) := by decide +kernel
theorem dX7_least_35 : decode cX7_least 35 = .ok (.aload_n 0, 1) := by decide +kernel
theorem dX7_least_36 : decode cX7_least 36 = .ok (.iload_n 1, 1) := by decide +kernel
theorem dX7_least_37 : decode cX7_least 37 = .ok (.iload_n 2, 1) := by decide +kernel
theorem dX7_least_38 : decode cX7_least 38 = .ok (.invokevirtual 204, 3) := by decide +kernel
theorem dX7_least_41 : decode cX7_least 41 = .ok (.istore 4, 2) := by decide +kernel
theorem dX7_least_43 : decode cX7_least 43 = .ok (.iload 4, 2) := by decide +kernel
theorem dX7_least_45 : decode cX7_least 45 = .ok (.sipush 9999, 3) := by decide +kernel
theorem dX7_least_48 : decode cX7_least 48 = .ok (.if_icmp .lt 8, 3) := by decide +kernel
theorem dX7_least_51 : decode cX7_least 51 = .ok (.ldc 188, 2) := by decide +kernel
theorem dX7_least_53 : decode cX7_least 53 = .ok (.goto 18, 3) := by decide +kernel
theorem dX7_least_56 : decode cX7_least 56 = .ok (.iload_n 3, 1) := by decide +kernel
theorem dX7_least_57 : decode cX7_least 57 = .ok (.ifCond .ge 8, 3) := by decide +kernel
theorem dX7_least_60 : decode cX7_least 60 = .ok (.iload 4, 2) := by decide +kernel
theorem dX7_least_62 : decode cX7_least 62 = .ok (.goto 9, 3) := by decide +kernel
theorem dX7_least_65 : decode cX7_least 65 = .ok (.aload_n 0, 1) := by decide +kernel
theorem dX7_least_66 : decode cX7_least 66 = .ok (.getfield 44, 3) := by decide +kernel
theorem dX7_least_69 : decode cX7_least 69 = .ok (.iload_n 3, 1) := by decide +kernel
theorem dX7_least_70 : decode cX7_least 70 = .ok (.iaload, 1) := by decide +kernel
theorem dX7_least_71 : decode cX7_least 71 = .ok (.ireturn, 1) := by decide +kernel
theorem dX7_whichDoor_0 : decode cX7_whichDoor 0 = .ok (.aload_n 0, 1) := by decide +kernel
theorem dX7_whichDoor_1 : decode cX7_whichDoor 1 = .ok (.invokevirtual 176, 3) := by decide +kernel
theorem dX7_whichDoor_4 : decode cX7_whichDoor 4 = .ok (.ifCond .ne 6, 3) := by decide +kernel
theorem dX7_whichDoor_7 : decode cX7_whichDoor 7 = .ok (.ldc 162, 2) := by decide +kernel
theorem dX7_whichDoor_9 : decode cX7_whichDoor 9 = .ok (.ireturn, 1) := by decide +kernel
theorem dX7_whichDoor_10 : decode cX7_whichDoor 10 = .ok (.aload_n 0, 1) := by decide +kernel
theorem dX7_whichDoor_11 : decode cX7_whichDoor 11 = .ok (.iload_n 1, 1) := by decide +kernel
theorem dX7_whichDoor_12 : decode cX7_whichDoor 12 = .ok (.iload_n 2, 1) := by decide +kernel
theorem dX7_whichDoor_13 : decode cX7_whichDoor 13 = .ok (.invokevirtual 201, 3) := by decide +kernel
theorem dX7_whichDoor_16 : decode cX7_whichDoor 16 = .ok (.ifCond .ne 6, 3) := by decide +kernel
theorem dX7_whichDoor_19 : decode cX7_whichDoor 19 = .ok (.ldc 63, 2) := by decide +kernel
theorem dX7_whichDoor_21 : decode cX7_whichDoor 21 = .ok (.ireturn, 1) := by decide +kernel
theorem dX7_whichDoor_22 : decode cX7_whichDoor 22 = .ok (.iconst 0, 1) := by decide +kernel
theorem dX7_whichDoor_23 : decode cX7_whichDoor 23 = .ok (.istore_n 3, 1) := by decide +kernel
theorem dX7_whichDoor_24 : decode cX7_whichDoor 24 = .ok (.iload_n 3, 1) := by decide +kernel
theorem dX7_whichDoor_25 : decode cX7_whichDoor 25 = .ok (.aload_n 0, 1) := by decide +kernel
theorem dX7_whichDoor_26 : decode cX7_whichDoor 26 = .ok (.getfield 22, 3) := by decide +kernel
theorem dX7_whichDoor_29 : decode cX7_whichDoor 29 = .ok (.iconst 2, 1) := by decide +kernel
theorem dX7_whichDoor_30 : decode cX7_whichDoor 30 = .ok (.iaload, 1) := by decide +kernel
theorem dX7_whichDoor_31 : decode cX7_whichDoor 31 = .ok (.if_icmp .ge 80, 3) := by decide +kernel
theorem dX7_whichDoor_34 : decode cX7_whichDoor 34 = .ok (.iconst 0, 1) := by decide +kernel
theorem dX7_whichDoor_35 : decode cX7_whichDoor 35 = .ok (.istore 4, 2) := by decide +kernel
theorem dX7_whichDoor_37 : decode cX7_whichDoor 37 = .ok (.iconst 0, 1) := by decide +kernel
theorem dX7_whichDoor_38 : decode cX7_whichDoor 38 = .ok (.istore 5, 2) := by decide +kernel
theorem dX7_whichDoor_40 : decode cX7_whichDoor 40 = .ok (.iload 5, 2) := by decide +kernel
theorem dX7_whichDoor_42 : decode cX7_whichDoor 42 = .ok (.bipush 24, 2) := by decide +kernel
theorem dX7_whichDoor_44 : decode cX7_whichDoor 44 = .ok (.if_icmp .ge 54, 3) := by decide +kernel
theorem dX7_whichDoor_47 : decode cX7_whichDoor 47 = .ok (.iload 4, 2) := by decide +kernel
theorem dX7_whichDoor_49 : decode cX7_whichDoor 49 = .ok (.ifCond .ne 36, 3) := by decide +kernel
theorem dX7_whichDoor_52 : decode cX7_whichDoor 52 = .ok (.aload_n 0, 1) := by decide +kernel
theorem dX7_whichDoor_53 : decode cX7_whichDoor 53 = .ok (.iload_n 3, 1) := by decide +kernel
theorem dX7_whichDoor_54 : decode cX7_whichDoor 54 = .ok (.iload 5, 2) := by decide +kernel
theorem dX7_whichDoor_56 : decode cX7_whichDoor 56 = .ok (.iconst 4, 1) := by decide +kernel
theorem dX7_whichDoor_57 : decode cX7_whichDoor 57 = .ok (.idiv, 1) := by decide +kernel
theorem dX7_whichDoor_58 : decode cX7_whichDoor 58 = .ok (.iload 5, 2) := by decide +kernel
theorem dX7_whichDoor_60 : decode cX7_whichDoor 60 = .ok (.iconst 2, 1) := by decide +kernel
theorem dX7_whichDoor_61 : decode cX7_whichDoor 61 = .ok (.idiv, 1) := by decide +kernel
theorem dX7_whichDoor_62 : decode cX7_whichDoor 62 = .ok (.iconst 2, 1) := by decide +kernel
theorem dX7_whichDoor_63 : decode cX7_whichDoor 63 = .ok (.irem, 1) := by decide +kernel
theorem dX7_whichDoor_64 : decode cX7_whichDoor 64 = .ok (.iload 5, 2) := by decide +kernel
theorem dX7_whichDoor_66 : decode cX7_whichDoor 66 = .ok (.iconst 2, 1) := by decide +kernel
theorem dX7_whichDoor_67 : decode cX7_whichDoor 67 = .ok (.irem, 1) := by decide +kernel
theorem dX7_whichDoor_68 : decode cX7_whichDoor 68 = .ok (.iconst 1, 1) := by decide +kernel
theorem dX7_whichDoor_69 : decode cX7_whichDoor 69 = .ok (.if_icmp .ne 7, 3) := by decide +kernel
theorem dX7_whichDoor_72 : decode cX7_whichDoor 72 = .ok (.iconst 1, 1) := by decide +kernel
theorem dX7_whichDoor_73 : decode cX7_whichDoor 73 = .ok (.goto 4, 3) := by decide +kernel
theorem dX7_whichDoor_76 : decode cX7_whichDoor 76 = .ok (.iconst 0, 1) := by decide +kernel
theorem dX7_whichDoor_77 : decode cX7_whichDoor 77 = .ok (.iload_n 1, 1) := by decide +kernel
theorem dX7_whichDoor_78 : decode cX7_whichDoor 78 = .ok (.iload_n 2, 1) := by decide +kernel
theorem dX7_whichDoor_79 : decode cX7_whichDoor 79 = .ok (.invokevirtual 189, 3) := by decide +kernel
theorem dX7_whichDoor_82 : decode cX7_whichDoor 82 = .ok (.ifCond .eq 7, 3) := by decide +kernel
theorem dX7_whichDoor_85 : decode cX7_whichDoor 85 = .ok (.iconst 1, 1) := by decide +kernel
theorem dX7_whichDoor_86 : decode cX7_whichDoor 86 = .ok (.goto 4, 3) := by decide +kernel
theorem dX7_whichDoor_89 : decode cX7_whichDoor 89 = .ok (.iconst 0, 1) := by decide +kernel
theorem dX7_whichDoor_90 : decode cX7_whichDoor 90 = .ok (.istore 4, 2) := by decide +kernel
theorem dX7_whichDoor_92 : decode cX7_whichDoor 92 = .ok (.iinc 5 1, 3) := by decide +kernel
theorem dX7_whichDoor_95 : decode cX7_whichDoor 95 = .ok (.goto (-55), 3) := by decide +kernel
theorem dX7_whichDoor_98 : decode cX7_whichDoor 98 = .ok (.iload 4, 2) := by decide +kernel
theorem dX7_whichDoor_100 : decode cX7_whichDoor 100 = .ok (.ifCond .ne 5, 3) := by decide +kernel
theorem dX7_whichDoor_103 : decode cX7_whichDoor 103 = .ok (.iload_n 3, 1) := by decide +kernel
theorem dX7_whichDoor_104 : decode cX7_whichDoor 104 = .ok (.ireturn, 1) := by decide +kernel
theorem dX7_whichDoor_105 : decode cX7_whichDoor 105 = .ok (.iinc 3 1, 3) := by decide +kernel
theorem dX7_whichDoor_108 : decode cX7_whichDoor 108 = .ok (.goto (-84), 3) := by decide +kernel
theorem dX7_whichDoor_111 : decode cX7_whichDoor 111 = .ok (.ldc 188, 2) := by decide +kernel
theorem dX7_whichDoor_113 : decode cX7_whichDoor 113 = .ok (.ireturn, 1) := by decide +kernel
theorem dX7_who_0 : decode cX7_who 0 = .ok (.aload_n 0, 1) := by decide +kernel
theorem dX7_who_1 : decode cX7_who 1 = .ok (.iload_n 1, 1) := by decide +kernel
theorem dX7_who_2 : decode cX7_who 2 = .ok (.invokevirtual 185, 3) := by decide +kernel
theorem dX7_who_5 : decode cX7_who 5 = .ok (.ifCond .eq 21, 3) := by decide +kernel
theorem dX7_who_8 : decode cX7_who 8 = .ok (.iload_n 2, 1) := by decide +kernel
theorem dX7_who_9 : decode cX7_who 9 = .ok (.invokestatic 59, 3) := by decide +kernel
theorem dX7_who_12 : decode cX7_who 12 = .ok (.ifCond .eq 14, 3) := by decide +kernel
theorem dX7_who_15 : decode cX7_who 15 = .ok (.iload 4, 2) := by decide +kernel
theorem dX7_who_17 : decode cX7_who 17 = .ok (.iconst 1, 1) := by decide +kernel
theorem dX7_who_18 : decode cX7_who 18 = .ok (.bipush 12, 2) := by decide +kernel
theorem dX7_who_20 : decode cX7_who 20 = .ok (.invokestatic 55, 3) := by decide +kernel
theorem dX7_who_23 : decode cX7_who 23 = .ok (.ifCond .ne 6, 3) := by decide +kernel
theorem dX7_who_26 : decode cX7_who 26 = .ok (.ldc 63, 2) := by decide +kernel
theorem dX7_who_28 : decode cX7_who 28 = .ok (.ireturn, 1) := by decide +kernel
theorem dX7_who_29 : decode cX7_who 29 = .ok (.aload_n 0, 1) := by decide +kernel
theorem dX7_who_30 : decode cX7_who 30 = .ok (.getfield 7, 3) := by decide +kernel
theorem dX7_who_33 : decode cX7_who 33 = .ok (.iload_n 2, 1) := by decide +kernel
theorem dX7_who_34 : decode cX7_who 34 = .ok (.iaload, 1) := by decide +kernel
theorem dX7_who_35 : decode cX7_who 35 = .ok (.ifCond .ge 9, 3) := by decide +kernel
theorem dX7_who_38 : decode cX7_who 38 = .ok (.aload_n 0, 1) := by decide +kernel
theorem dX7_who_39 : decode cX7_who 39 = .ok (.iconst 1, 1) := by decide +kernel
theorem dX7_who_40 : decode cX7_who 40 = .ok (.invokevirtual 64, 3) := by decide +kernel
theorem dX7_who_43 : decode cX7_who 43 = .ok (.ireturn, 1) := by decide +kernel
theorem dX7_who_44 : decode cX7_who 44 = .ok (.iload_n 3, 1) := by decide +kernel
theorem dX7_who_45 : decode cX7_who 45 = .ok (.iload 4, 2) := by decide +kernel
theorem dX7_who_47 : decode cX7_who 47 = .ok (.aload_n 0, 1) := by decide +kernel
theorem dX7_who_48 : decode cX7_who 48 = .ok (.getfield 13, 3) := by decide +kernel
theorem dX7_who_51 : decode cX7_who 51 = .ok (.iload_n 2, 1) := by decide +kernel
theorem dX7_who_52 : decode cX7_who 52 = .ok (.iaload, 1) := by decide +kernel
theorem dX7_who_53 : decode cX7_who 53 = .ok (.invokestatic 71, 3) := by decide +kernel
theorem dX7_who_56 : decode cX7_who 56 = .ok (.ifCond .ne 9, 3) := by decide +kernel
theorem dX7_who_59 : decode cX7_who 59 = .ok (.aload_n 0, 1) := by decide +kernel
theorem dX7_who_60 : decode cX7_who 60 = .ok (.iconst 2, 1) := by decide +kernel
theorem dX7_who_61 : decode cX7_who 61 = .ok (.invokevirtual 64, 3) := by decide +kernel
theorem dX7_who_64 : decode cX7_who 64 = .ok (.ireturn, 1) := by decide +kernel
theorem dX7_who_65 : decode cX7_who 65 = .ok (.iconst 0, 1) := by decide +kernel
theorem dX7_who_66 : decode cX7_who 66 = .ok (.istore 5, 2) := by decide +kernel
theorem dX7_who_68 : decode cX7_who 68 = .ok (.iconst 1, 1) := by decide +kernel
theorem dX7_who_69 : decode cX7_who 69 = .ok (.istore 6, 2) := by decide +kernel
theorem dX7_who_71 : decode cX7_who 71 = .ok (.iload 6, 2) := by decide +kernel
theorem dX7_who_73 : decode cX7_who 73 = .ok (.bipush 6, 2) := by decide +kernel
theorem dX7_who_75 : decode cX7_who 75 = .ok (.if_icmp .ge 114, 3) := by decide +kernel
theorem dX7_who_78 : decode cX7_who 78 = .ok (.aload_n 0, 1) := by decide +kernel
theorem dX7_who_79 : decode cX7_who 79 = .ok (.getfield 22, 3) := by decide +kernel
theorem dX7_who_82 : decode cX7_who 82 = .ok (.iconst 0, 1) := by decide +kernel
theorem dX7_who_83 : decode cX7_who 83 = .ok (.aload_n 0, 1) := by decide +kernel
theorem dX7_who_84 : decode cX7_who 84 = .ok (.getfield 28, 3) := by decide +kernel
theorem dX7_who_87 : decode cX7_who 87 = .ok (.iconst 0, 1) := by decide +kernel
theorem dX7_who_88 : decode cX7_who 88 = .ok (.invokestatic 126, 3) := by decide +kernel
theorem dX7_who_91 : decode cX7_who 91 = .ok (.aload_n 0, 1) := by decide +kernel
theorem dX7_who_92 : decode cX7_who 92 = .ok (.getfield 28, 3) := by decide +kernel
theorem dX7_who_95 : decode cX7_who 95 = .ok (.bipush 29, 2) := by decide +kernel
theorem dX7_who_97 : decode cX7_who 97 = .ok (.iload_n 1, 1) := by decide +kernel
theorem dX7_who_98 : decode cX7_who 98 = .ok (.iadd, 1) := by decide +kernel
theorem dX7_who_99 : decode cX7_who 99 = .ok (.iload 6, 2) := by decide +kernel
theorem dX7_who_101 : decode cX7_who 101 = .ok (.iastore, 1) := by decide +kernel
theorem dX7_who_102 : decode cX7_who 102 = .ok (.iconst 1, 1) := by decide +kernel
theorem dX7_who_103 : decode cX7_who 103 = .ok (.istore 7, 2) := by decide +kernel
theorem dX7_who_105 : decode cX7_who 105 = .ok (.iconst 0, 1) := by decide +kernel
theorem dX7_who_106 : decode cX7_who 106 = .ok (.istore 8, 2) := by decide +kernel
theorem dX7_who_108 : decode cX7_who 108 = .ok (.iload 8, 2) := by decide +kernel
theorem dX7_who_110 : decode cX7_who 110 = .ok (.iload 4, 2) := by decide +kernel
theorem dX7_who_112 : decode cX7_who 112 = .ok (.if_icmp .ge 53, 3) := by decide +kernel
theorem dX7_who_115 : decode cX7_who 115 = .ok (.aload_n 0, 1) := by decide +kernel
theorem dX7_who_116 : decode cX7_who 116 = .ok (.getfield 28, 3) := by decide +kernel
theorem dX7_who_119 : decode cX7_who 119 = .ok (.invokestatic 179, 3) := by decide +kernel
theorem dX7_who_122 : decode cX7_who 122 = .ok (.iload_n 1, 1) := by decide +kernel
theorem dX7_who_123 : decode cX7_who 123 = .ok (.ishr, 1) := by decide +kernel
theorem dX7_who_124 : decode cX7_who 124 = .ok (.iconst 1, 1) := by decide +kernel
theorem dX7_who_125 : decode cX7_who 125 = .ok (.iand, 1) := by decide +kernel
theorem dX7_who_126 : decode cX7_who 126 = .ok (.istore 9, 2) := by decide +kernel
theorem dX7_who_128 : decode cX7_who 128 = .ok (.iload 7, 2) := by decide +kernel
theorem dX7_who_130 : decode cX7_who 130 = .ok (.ifCond .eq 26, 3) := by decide +kernel
theorem dX7_who_133 : decode cX7_who 133 = .ok (.aload_n 0, 1) := by decide +kernel
theorem dX7_who_134 : decode cX7_who 134 = .ok (.getfield 16, 3) := by decide +kernel
theorem dX7_who_137 : decode cX7_who 137 = .ok (.bipush 40, 2) := by decide +kernel
theorem dX7_who_139 : decode cX7_who 139 = .ok (.iload_n 2, 1) := by decide +kernel
theorem dX7_who_140 : decode cX7_who 140 = .ok (.imul, 1) := by decide +kernel
theorem dX7_who_141 : decode cX7_who 141 = .ok (.iload_n 3, 1) := by decide +kernel
theorem dX7_who_142 : decode cX7_who 142 = .ok (.iadd, 1) := by decide +kernel
theorem dX7_who_143 : decode cX7_who 143 = .ok (.iload 8, 2) := by decide +kernel
theorem dX7_who_145 : decode cX7_who 145 = .ok (.iadd, 1) := by decide +kernel
theorem dX7_who_146 : decode cX7_who 146 = .ok (.iaload, 1) := by decide +kernel
theorem dX7_who_147 : decode cX7_who 147 = .ok (.iload 9, 2) := by decide +kernel
theorem dX7_who_149 : decode cX7_who 149 = .ok (.if_icmp .ne 7, 3) := by decide +kernel
theorem dX7_who_152 : decode cX7_who 152 = .ok (.iconst 1, 1) := by decide +kernel
theorem dX7_who_153 : decode cX7_who 153 = .ok (.goto 4, 3) := by decide +kernel
theorem dX7_who_156 : decode cX7_who 156 = .ok (.iconst 0, 1) := by decide +kernel
theorem dX7_who_157 : decode cX7_who 157 = .ok (.istore 7, 2) := by decide +kernel
theorem dX7_who_159 : decode cX7_who 159 = .ok (.iinc 8 1, 3) := by decide +kernel
theorem dX7_who_162 : decode cX7_who 162 = .ok (.goto (-54), 3) := by decide +kernel
theorem dX7_who_165 : decode cX7_who 165 = .ok (.iload 5, 2) := by decide +kernel
theorem dX7_who_167 : decode cX7_who 167 = .ok (.iload 7, 2) := by decide +kernel
theorem dX7_who_169 : decode cX7_who 169 = .ok (.ifCond .eq 10, 3) := by decide +kernel
theorem dX7_who_172 : decode cX7_who 172 = .ok (.iconst 1, 1) := by decide +kernel
theorem dX7_who_173 : decode cX7_who 173 = .ok (.iload 6, 2) := by decide +kernel
theorem dX7_who_175 : decode cX7_who 175 = .ok (.ishl, 1) := by decide +kernel
theorem dX7_who_176 : decode cX7_who 176 = .ok (.goto 4, 3) := by decide +kernel
theorem dX7_who_179 : decode cX7_who 179 = .ok (.iconst 0, 1) := by decide +kernel
theorem dX7_who_180 : decode cX7_who 180 = .ok (.ior, 1) := by decide +kernel
theorem dX7_who_181 : decode cX7_who 181 = .ok (.istore 5, 2) := by decide +kernel
theorem dX7_who_183 : decode cX7_who 183 = .ok (.iinc 6 1, 3) := by decide +kernel
theorem dX7_who_186 : decode cX7_who 186 = .ok (.goto (-115), 3) := by decide +kernel
theorem dX7_who_189 : decode cX7_who 189 = .ok (.aload_n 0, 1) := by decide +kernel
theorem dX7_who_190 : decode cX7_who 190 = .ok (.iload 5, 2) := by decide +kernel
theorem dX7_who_192 : decode cX7_who 192 = .ok (.invokevirtual 68, 3) := by decide +kernel
theorem dX7_who_195 : decode cX7_who 195 = .ok (.ireturn, 1) := by decide +kernel
theorem dX7_sleeps_0 : decode cX7_sleeps 0 = .ok (.aload_n 0, 1) := by decide +kernel
theorem dX7_sleeps_1 : decode cX7_sleeps 1 = .ok (.iload_n 1, 1) := by decide +kernel
theorem dX7_sleeps_2 : decode cX7_sleeps 2 = .ok (.invokevirtual 185, 3) := by decide +kernel
theorem dX7_sleeps_5 : decode cX7_sleeps 5 = .ok (.ifCond .eq 22, 3) := by decide +kernel
theorem dX7_sleeps_8 : decode cX7_sleeps 8 = .ok (.iload_n 2, 1) := by decide +kernel
theorem dX7_sleeps_9 : decode cX7_sleeps 9 = .ok (.iconst 0, 1) := by decide +kernel
theorem dX7_sleeps_10 : decode cX7_sleeps 10 = .ok (.bipush 10, 2) := by decide +kernel
theorem dX7_sleeps_12 : decode cX7_sleeps 12 = .ok (.invokestatic 55, 3) := by decide +kernel
theorem dX7_sleeps_15 : decode cX7_sleeps 15 = .ok (.ifCond .eq 12, 3) := by decide +kernel
theorem dX7_sleeps_18 : decode cX7_sleeps 18 = .ok (.iload_n 3, 1) := by decide +kernel
theorem dX7_sleeps_19 : decode cX7_sleeps 19 = .ok (.iconst 0, 1) := by decide +kernel
theorem dX7_sleeps_20 : decode cX7_sleeps 20 = .ok (.iconst 1, 1) := by decide +kernel
theorem dX7_sleeps_21 : decode cX7_sleeps 21 = .ok (.invokestatic 55, 3) := by decide +kernel
theorem dX7_sleeps_24 : decode cX7_sleeps 24 = .ok (.ifCond .ne 7, 3) := by decide +kernel
theorem dX7_sleeps_27 : decode cX7_sleeps 27 = .ok (.ldc2_w 208, 3) := by decide +kernel
theorem dX7_sleeps_30 : decode cX7_sleeps 30 = .ok (.lreturn, 1) := by decide +kernel
theorem dX7_sleeps_31 : decode cX7_sleeps 31 = .ok (.lconst 0, 1) := by decide +kernel
theorem dX7_sleeps_32 : decode cX7_sleeps 32 = .ok (.lstore 4, 2) := by decide +kernel
theorem dX7_sleeps_34 : decode cX7_sleeps 34 = .ok (.iconst 0, 1) := by decide +kernel
theorem dX7_sleeps_35 : decode cX7_sleeps 35 = .ok (.istore 6, 2) := by decide +kernel
theorem dX7_sleeps_37 : decode cX7_sleeps 37 = .ok (.iload 6, 2) := by decide +kernel
theorem dX7_sleeps_39 : decode cX7_sleeps 39 = .ok (.iconst 1, 1) := by decide +kernel
theorem dX7_sleeps_40 : decode cX7_sleeps 40 = .ok (.aload_n 0, 1) := by decide +kernel
theorem dX7_sleeps_41 : decode cX7_sleeps 41 = .ok (.getfield 22, 3) := by decide +kernel
theorem dX7_sleeps_44 : decode cX7_sleeps 44 = .ok (.iconst 2, 1) := by decide +kernel
theorem dX7_sleeps_45 : decode cX7_sleeps 45 = .ok (.iaload, 1) := by decide +kernel
theorem dX7_sleeps_46 : decode cX7_sleeps 46 = .ok (.ishl, 1) := by decide +kernel
theorem dX7_sleeps_47 : decode cX7_sleeps 47 = .ok (.if_icmp .ge 183, 3) := by decide +kernel
theorem dX7_sleeps_50 : decode cX7_sleeps 50 = .ok (.aload_n 0, 1) := by decide +kernel
theorem dX7_sleeps_51 : decode cX7_sleeps 51 = .ok (.getfield 22, 3) := by decide +kernel
theorem dX7_sleeps_54 : decode cX7_sleeps 54 = .ok (.iconst 0, 1) := by decide +kernel
theorem dX7_sleeps_55 : decode cX7_sleeps 55 = .ok (.aload_n 0, 1) := by decide +kernel
theorem dX7_sleeps_56 : decode cX7_sleeps 56 = .ok (.getfield 28, 3) := by decide +kernel
theorem dX7_sleeps_59 : decode cX7_sleeps 59 = .ok (.iconst 0, 1) := by decide +kernel
theorem dX7_sleeps_60 : decode cX7_sleeps 60 = .ok (.invokestatic 126, 3) := by decide +kernel
theorem dX7_sleeps_63 : decode cX7_sleeps 63 = .ok (.lconst 1, 1) := by decide +kernel
theorem dX7_sleeps_64 : decode cX7_sleeps 64 = .ok (.lstore 7, 2) := by decide +kernel
theorem dX7_sleeps_66 : decode cX7_sleeps 66 = .ok (.iconst 0, 1) := by decide +kernel
theorem dX7_sleeps_67 : decode cX7_sleeps 67 = .ok (.istore 9, 2) := by decide +kernel
theorem dX7_sleeps_69 : decode cX7_sleeps 69 = .ok (.iload 9, 2) := by decide +kernel
theorem dX7_sleeps_71 : decode cX7_sleeps 71 = .ok (.aload_n 0, 1) := by decide +kernel
theorem dX7_sleeps_72 : decode cX7_sleeps 72 = .ok (.getfield 22, 3) := by decide +kernel
theorem dX7_sleeps_75 : decode cX7_sleeps 75 = .ok (.iconst 2, 1) := by decide +kernel
theorem dX7_sleeps_76 : decode cX7_sleeps 76 = .ok (.iaload, 1) := by decide +kernel
theorem dX7_sleeps_77 : decode cX7_sleeps 77 = .ok (.if_icmp .ge 125, 3) := by decide +kernel
theorem dX7_sleeps_80 : decode cX7_sleeps 80 = .ok (.iload 6, 2) := by decide +kernel
theorem dX7_sleeps_82 : decode cX7_sleeps 82 = .ok (.iload 9, 2) := by decide +kernel
theorem dX7_sleeps_84 : decode cX7_sleeps 84 = .ok (.invokestatic 159, 3) := by decide +kernel
theorem dX7_sleeps_87 : decode cX7_sleeps 87 = .ok (.istore 10, 2) := by decide +kernel
theorem dX7_sleeps_89 : decode cX7_sleeps 89 = .ok (.lload 7, 2) := by decide +kernel
theorem dX7_sleeps_91 : decode cX7_sleeps 91 = .ok (.iload 10, 2) := by decide +kernel
theorem dX7_sleeps_93 : decode cX7_sleeps 93 = .ok (.ifCond .eq 8, 3) := by decide +kernel
theorem dX7_sleeps_96 : decode cX7_sleeps 96 = .ok (.iload_n 2, 1) := by decide +kernel
theorem dX7_sleeps_97 : decode cX7_sleeps 97 = .ok (.i2l, 1) := by decide +kernel
theorem dX7_sleeps_98 : decode cX7_sleeps 98 = .ok (.goto 8, 3) := by decide +kernel
theorem dX7_sleeps_101 : decode cX7_sleeps 101 = .ok (.bipush 10, 2) := by decide +kernel
theorem dX7_sleeps_103 : decode cX7_sleeps 103 = .ok (.iload_n 2, 1) := by decide +kernel
theorem dX7_sleeps_104 : decode cX7_sleeps 104 = .ok (.isub, 1) := by decide +kernel
theorem dX7_sleeps_105 : decode cX7_sleeps 105 = .ok (.i2l, 1) := by decide +kernel
theorem dX7_sleeps_106 : decode cX7_sleeps 106 = .ok (.lmul, 1) := by decide +kernel
theorem dX7_sleeps_107 : decode cX7_sleeps 107 = .ok (.lstore 7, 2) := by decide +kernel
theorem dX7_sleeps_109 : decode cX7_sleeps 109 = .ok (.aload_n 0, 1) := by decide +kernel
theorem dX7_sleeps_110 : decode cX7_sleeps 110 = .ok (.getfield 28, 3) := by decide +kernel
theorem dX7_sleeps_113 : decode cX7_sleeps 113 = .ok (.bipush 11, 2) := by decide +kernel
theorem dX7_sleeps_115 : decode cX7_sleeps 115 = .ok (.iload 9, 2) := by decide +kernel
theorem dX7_sleeps_117 : decode cX7_sleeps 117 = .ok (.iadd, 1) := by decide +kernel
theorem dX7_sleeps_118 : decode cX7_sleeps 118 = .ok (.iload 10, 2) := by decide +kernel
theorem dX7_sleeps_120 : decode cX7_sleeps 120 = .ok (.ifCond .eq 7, 3) := by decide +kernel
theorem dX7_sleeps_123 : decode cX7_sleeps 123 = .ok (.iconst 0, 1) := by decide +kernel
theorem dX7_sleeps_124 : decode cX7_sleeps 124 = .ok (.goto 13, 3) := by decide +kernel
theorem dX7_sleeps_127 : decode cX7_sleeps 127 = .ok (.aload_n 0, 1) := by decide +kernel
theorem dX7_sleeps_128 : decode cX7_sleeps 128 = .ok (.getfield 22, 3) := by decide +kernel
theorem dX7_sleeps_131 : decode cX7_sleeps 131 = .ok (.bipush 11, 2) := by decide +kernel
theorem dX7_sleeps_133 : decode cX7_sleeps 133 = .ok (.iload 9, 2) := by decide +kernel
theorem dX7_sleeps_135 : decode cX7_sleeps 135 = .ok (.iadd, 1) := by decide +kernel
theorem dX7_sleeps_136 : decode cX7_sleeps 136 = .ok (.iaload, 1) := by decide +kernel
theorem dX7_sleeps_137 : decode cX7_sleeps 137 = .ok (.iastore, 1) := by decide +kernel
theorem dX7_sleeps_138 : decode cX7_sleeps 138 = .ok (.aload_n 0, 1) := by decide +kernel
theorem dX7_sleeps_139 : decode cX7_sleeps 139 = .ok (.getfield 28, 3) := by decide +kernel
theorem dX7_sleeps_142 : decode cX7_sleeps 142 = .ok (.bipush 17, 2) := by decide +kernel
theorem dX7_sleeps_144 : decode cX7_sleeps 144 = .ok (.iload 9, 2) := by decide +kernel
theorem dX7_sleeps_146 : decode cX7_sleeps 146 = .ok (.iadd, 1) := by decide +kernel
theorem dX7_sleeps_147 : decode cX7_sleeps 147 = .ok (.iload 10, 2) := by decide +kernel
theorem dX7_sleeps_149 : decode cX7_sleeps 149 = .ok (.ifCond .eq 7, 3) := by decide +kernel
theorem dX7_sleeps_152 : decode cX7_sleeps 152 = .ok (.iconst 0, 1) := by decide +kernel
theorem dX7_sleeps_153 : decode cX7_sleeps 153 = .ok (.goto 13, 3) := by decide +kernel
theorem dX7_sleeps_156 : decode cX7_sleeps 156 = .ok (.aload_n 0, 1) := by decide +kernel
theorem dX7_sleeps_157 : decode cX7_sleeps 157 = .ok (.getfield 22, 3) := by decide +kernel
theorem dX7_sleeps_160 : decode cX7_sleeps 160 = .ok (.bipush 17, 2) := by decide +kernel
theorem dX7_sleeps_162 : decode cX7_sleeps 162 = .ok (.iload 9, 2) := by decide +kernel
theorem dX7_sleeps_164 : decode cX7_sleeps 164 = .ok (.iadd, 1) := by decide +kernel
theorem dX7_sleeps_165 : decode cX7_sleeps 165 = .ok (.iaload, 1) := by decide +kernel
theorem dX7_sleeps_166 : decode cX7_sleeps 166 = .ok (.iastore, 1) := by decide +kernel
theorem dX7_sleeps_167 : decode cX7_sleeps 167 = .ok (.aload_n 0, 1) := by decide +kernel
theorem dX7_sleeps_168 : decode cX7_sleeps 168 = .ok (.getfield 28, 3) := by decide +kernel
theorem dX7_sleeps_171 : decode cX7_sleeps 171 = .ok (.bipush 23, 2) := by decide +kernel
theorem dX7_sleeps_173 : decode cX7_sleeps 173 = .ok (.iload 9, 2) := by decide +kernel
theorem dX7_sleeps_175 : decode cX7_sleeps 175 = .ok (.iadd, 1) := by decide +kernel
theorem dX7_sleeps_176 : decode cX7_sleeps 176 = .ok (.iload 10, 2) := by decide +kernel
theorem dX7_sleeps_178 : decode cX7_sleeps 178 = .ok (.ifCond .eq 7, 3) := by decide +kernel
theorem dX7_sleeps_181 : decode cX7_sleeps 181 = .ok (.iconst 0, 1) := by decide +kernel
theorem dX7_sleeps_182 : decode cX7_sleeps 182 = .ok (.goto 13, 3) := by decide +kernel
theorem dX7_sleeps_185 : decode cX7_sleeps 185 = .ok (.aload_n 0, 1) := by decide +kernel
theorem dX7_sleeps_186 : decode cX7_sleeps 186 = .ok (.getfield 22, 3) := by decide +kernel
theorem dX7_sleeps_189 : decode cX7_sleeps 189 = .ok (.bipush 23, 2) := by decide +kernel
theorem dX7_sleeps_191 : decode cX7_sleeps 191 = .ok (.iload 9, 2) := by decide +kernel
theorem dX7_sleeps_193 : decode cX7_sleeps 193 = .ok (.iadd, 1) := by decide +kernel
theorem dX7_sleeps_194 : decode cX7_sleeps 194 = .ok (.iaload, 1) := by decide +kernel
theorem dX7_sleeps_195 : decode cX7_sleeps 195 = .ok (.iastore, 1) := by decide +kernel
theorem dX7_sleeps_196 : decode cX7_sleeps 196 = .ok (.iinc 9 1, 3) := by decide +kernel
theorem dX7_sleeps_199 : decode cX7_sleeps 199 = .ok (.goto (-130), 3) := by decide +kernel
theorem dX7_sleeps_202 : decode cX7_sleeps 202 = .ok (.lload 4, 2) := by decide +kernel
theorem dX7_sleeps_204 : decode cX7_sleeps 204 = .ok (.aload_n 0, 1) := by decide +kernel
theorem dX7_sleeps_205 : decode cX7_sleeps 205 = .ok (.getfield 28, 3) := by decide +kernel
theorem dX7_sleeps_208 : decode cX7_sleeps 208 = .ok (.iload_n 1, 1) := by decide +kernel
theorem dX7_sleeps_209 : decode cX7_sleeps 209 = .ok (.invokestatic 152, 3) := by decide +kernel
theorem dX7_sleeps_212 : decode cX7_sleeps 212 = .ok (.ifCond .eq 8, 3) := by decide +kernel
theorem dX7_sleeps_215 : decode cX7_sleeps 215 = .ok (.lload 7, 2) := by decide +kernel
theorem dX7_sleeps_217 : decode cX7_sleeps 217 = .ok (.goto 4, 3) := by decide +kernel
theorem dX7_sleeps_220 : decode cX7_sleeps 220 = .ok (.lconst 0, 1) := by decide +kernel
theorem dX7_sleeps_221 : decode cX7_sleeps 221 = .ok (.ladd, 1) := by decide +kernel
theorem dX7_sleeps_222 : decode cX7_sleeps 222 = .ok (.lstore 4, 2) := by decide +kernel
theorem dX7_sleeps_224 : decode cX7_sleeps 224 = .ok (.iinc 6 1, 3) := by decide +kernel
theorem dX7_sleeps_227 : decode cX7_sleeps 227 = .ok (.goto (-190), 3) := by decide +kernel
theorem dX7_sleeps_230 : decode cX7_sleeps 230 = .ok (.lconst 1, 1) := by decide +kernel
theorem dX7_sleeps_231 : decode cX7_sleeps 231 = .ok (.lstore 6, 2) := by decide +kernel
theorem dX7_sleeps_233 : decode cX7_sleeps 233 = .ok (.iconst 0, 1) := by decide +kernel
theorem dX7_sleeps_234 : decode cX7_sleeps 234 = .ok (.istore 8, 2) := by decide +kernel
theorem dX7_sleeps_236 : decode cX7_sleeps 236 = .ok (.iload 8, 2) := by decide +kernel
theorem dX7_sleeps_238 : decode cX7_sleeps 238 = .ok (.aload_n 0, 1) := by decide +kernel
theorem dX7_sleeps_239 : decode cX7_sleeps 239 = .ok (.getfield 22, 3) := by decide +kernel
theorem dX7_sleeps_242 : decode cX7_sleeps 242 = .ok (.iconst 2, 1) := by decide +kernel
theorem dX7_sleeps_243 : decode cX7_sleeps 243 = .ok (.iaload, 1) := by decide +kernel
theorem dX7_sleeps_244 : decode cX7_sleeps 244 = .ok (.if_icmp .ge 17, 3) := by decide +kernel
theorem dX7_sleeps_247 : decode cX7_sleeps 247 = .ok (.lload 6, 2) := by decide +kernel
theorem dX7_sleeps_249 : decode cX7_sleeps 249 = .ok (.ldc2_w 210, 3) := by decide +kernel
theorem dX7_sleeps_252 : decode cX7_sleeps 252 = .ok (.lmul, 1) := by decide +kernel
theorem dX7_sleeps_253 : decode cX7_sleeps 253 = .ok (.lstore 6, 2) := by decide +kernel
theorem dX7_sleeps_255 : decode cX7_sleeps 255 = .ok (.iinc 8 1, 3) := by decide +kernel
theorem dX7_sleeps_258 : decode cX7_sleeps 258 = .ok (.goto (-22), 3) := by decide +kernel
theorem dX7_sleeps_261 : decode cX7_sleeps 261 = .ok (.lload 4, 2) := by decide +kernel
theorem dX7_sleeps_263 : decode cX7_sleeps 263 = .ok (.lstore 8, 2) := by decide +kernel
theorem dX7_sleeps_265 : decode cX7_sleeps 265 = .ok (.lload 6, 2) := by decide +kernel
theorem dX7_sleeps_267 : decode cX7_sleeps 267 = .ok (.lstore 10, 2) := by decide +kernel
theorem dX7_sleeps_269 : decode cX7_sleeps 269 = .ok (.lload 10, 2) := by decide +kernel
theorem dX7_sleeps_271 : decode cX7_sleeps 271 = .ok (.lconst 0, 1) := by decide +kernel
theorem dX7_sleeps_272 : decode cX7_sleeps 272 = .ok (.lcmp, 1) := by decide +kernel
theorem dX7_sleeps_273 : decode cX7_sleeps 273 = .ok (.ifCond .le 21, 3) := by decide +kernel
theorem dX7_sleeps_276 : decode cX7_sleeps 276 = .ok (.lload 8, 2) := by decide +kernel
theorem dX7_sleeps_278 : decode cX7_sleeps 278 = .ok (.lload 10, 2) := by decide +kernel
theorem dX7_sleeps_280 : decode cX7_sleeps 280 = .ok (.lrem, 1) := by decide +kernel
theorem dX7_sleeps_281 : decode cX7_sleeps 281 = .ok (.lstore 12, 2) := by decide +kernel
theorem dX7_sleeps_283 : decode cX7_sleeps 283 = .ok (.lload 10, 2) := by decide +kernel
theorem dX7_sleeps_285 : decode cX7_sleeps 285 = .ok (.lstore 8, 2) := by decide +kernel
theorem dX7_sleeps_287 : decode cX7_sleeps 287 = .ok (.lload 12, 2) := by decide +kernel
theorem dX7_sleeps_289 : decode cX7_sleeps 289 = .ok (.lstore 10, 2) := by decide +kernel
theorem dX7_sleeps_291 : decode cX7_sleeps 291 = .ok (.goto (-22), 3) := by decide +kernel
theorem dX7_sleeps_294 : decode cX7_sleeps 294 = .ok (.iload_n 3, 1) := by decide +kernel
theorem dX7_sleeps_295 : decode cX7_sleeps 295 = .ok (.ifCond .ne 8, 3) := by decide +kernel
theorem dX7_sleeps_298 : decode cX7_sleeps 298 = .ok (.lload 4, 2) := by decide +kernel
theorem dX7_sleeps_300 : decode cX7_sleeps 300 = .ok (.goto 5, 3) := by decide +kernel
theorem dX7_sleeps_303 : decode cX7_sleeps 303 = .ok (.lload 6, 2) := by decide +kernel
theorem dX7_sleeps_305 : decode cX7_sleeps 305 = .ok (.lload 8, 2) := by decide +kernel
theorem dX7_sleeps_307 : decode cX7_sleeps 307 = .ok (.ldiv, 1) := by decide +kernel
theorem dX7_sleeps_308 : decode cX7_sleeps 308 = .ok (.lreturn, 1) := by decide +kernel
theorem dX7_reaches_0 : decode cX7_reaches 0 = .ok (.aload_n 0, 1) := by decide +kernel
theorem dX7_reaches_1 : decode cX7_reaches 1 = .ok (.iload_n 1, 1) := by decide +kernel
theorem dX7_reaches_2 : decode cX7_reaches 2 = .ok (.invokevirtual 163, 3) := by decide +kernel
theorem dX7_reaches_5 : decode cX7_reaches 5 = .ok (.ifCond .eq 12, 3) := by decide +kernel
theorem dX7_reaches_8 : decode cX7_reaches 8 = .ok (.iload_n 2, 1) := by decide +kernel
theorem dX7_reaches_9 : decode cX7_reaches 9 = .ok (.iconst 0, 1) := by decide +kernel
theorem dX7_reaches_10 : decode cX7_reaches 10 = .ok (.iconst 1, 1) := by decide +kernel
theorem dX7_reaches_11 : decode cX7_reaches 11 = .ok (.invokestatic 55, 3) := by decide +kernel
theorem dX7_reaches_14 : decode cX7_reaches 14 = .ok (.ifCond .ne 6, 3) := by decide +kernel
theorem dX7_reaches_17 : decode cX7_reaches 17 = .ok (.ldc 63, 2) := by decide +kernel
theorem dX7_reaches_19 : decode cX7_reaches 19 = .ok (.ireturn, 1) := by decide +kernel
theorem dX7_reaches_20 : decode cX7_reaches 20 = .ok (.aload_n 0, 1) := by decide +kernel
theorem dX7_reaches_21 : decode cX7_reaches 21 = .ok (.getfield 22, 3) := by decide +kernel
theorem dX7_reaches_24 : decode cX7_reaches 24 = .ok (.iconst 0, 1) := by decide +kernel
theorem dX7_reaches_25 : decode cX7_reaches 25 = .ok (.aload_n 0, 1) := by decide +kernel
theorem dX7_reaches_26 : decode cX7_reaches 26 = .ok (.getfield 28, 3) := by decide +kernel
theorem dX7_reaches_29 : decode cX7_reaches 29 = .ok (.iconst 0, 1) := by decide +kernel
theorem dX7_reaches_30 : decode cX7_reaches 30 = .ok (.invokestatic 126, 3) := by decide +kernel
theorem dX7_reaches_33 : decode cX7_reaches 33 = .ok (.aload_n 0, 1) := by decide +kernel
theorem dX7_reaches_34 : decode cX7_reaches 34 = .ok (.getfield 28, 3) := by decide +kernel
theorem dX7_reaches_37 : decode cX7_reaches 37 = .ok (.bipush 17, 2) := by decide +kernel
theorem dX7_reaches_39 : decode cX7_reaches 39 = .ok (.iload_n 1, 1) := by decide +kernel
theorem dX7_reaches_40 : decode cX7_reaches 40 = .ok (.iadd, 1) := by decide +kernel
theorem dX7_reaches_41 : decode cX7_reaches 41 = .ok (.iconst 0, 1) := by decide +kernel
theorem dX7_reaches_42 : decode cX7_reaches 42 = .ok (.iastore, 1) := by decide +kernel
theorem dX7_reaches_43 : decode cX7_reaches 43 = .ok (.aload_n 0, 1) := by decide +kernel
theorem dX7_reaches_44 : decode cX7_reaches 44 = .ok (.getfield 28, 3) := by decide +kernel
theorem dX7_reaches_47 : decode cX7_reaches 47 = .ok (.bipush 23, 2) := by decide +kernel
theorem dX7_reaches_49 : decode cX7_reaches 49 = .ok (.iload_n 1, 1) := by decide +kernel
theorem dX7_reaches_50 : decode cX7_reaches 50 = .ok (.iadd, 1) := by decide +kernel
theorem dX7_reaches_51 : decode cX7_reaches 51 = .ok (.iconst 0, 1) := by decide +kernel
theorem dX7_reaches_52 : decode cX7_reaches 52 = .ok (.iastore, 1) := by decide +kernel
theorem dX7_reaches_53 : decode cX7_reaches 53 = .ok (.iconst 0, 1) := by decide +kernel
theorem dX7_reaches_54 : decode cX7_reaches 54 = .ok (.istore_n 3, 1) := by decide +kernel
theorem dX7_reaches_55 : decode cX7_reaches 55 = .ok (.iconst 0, 1) := by decide +kernel
theorem dX7_reaches_56 : decode cX7_reaches 56 = .ok (.istore 4, 2) := by decide +kernel
theorem dX7_reaches_58 : decode cX7_reaches 58 = .ok (.iload 4, 2) := by decide +kernel
theorem dX7_reaches_60 : decode cX7_reaches 60 = .ok (.aload_n 0, 1) := by decide +kernel
theorem dX7_reaches_61 : decode cX7_reaches 61 = .ok (.getfield 22, 3) := by decide +kernel
theorem dX7_reaches_64 : decode cX7_reaches 64 = .ok (.iconst 2, 1) := by decide +kernel
theorem dX7_reaches_65 : decode cX7_reaches 65 = .ok (.iaload, 1) := by decide +kernel
theorem dX7_reaches_66 : decode cX7_reaches 66 = .ok (.if_icmp .ge 34, 3) := by decide +kernel
theorem dX7_reaches_69 : decode cX7_reaches 69 = .ok (.iload_n 3, 1) := by decide +kernel
theorem dX7_reaches_70 : decode cX7_reaches 70 = .ok (.iload 4, 2) := by decide +kernel
theorem dX7_reaches_72 : decode cX7_reaches 72 = .ok (.iload_n 1, 1) := by decide +kernel
theorem dX7_reaches_73 : decode cX7_reaches 73 = .ok (.iconst 1, 1) := by decide +kernel
theorem dX7_reaches_74 : decode cX7_reaches 74 = .ok (.isub, 1) := by decide +kernel
theorem dX7_reaches_75 : decode cX7_reaches 75 = .ok (.iload_n 1, 1) := by decide +kernel
theorem dX7_reaches_76 : decode cX7_reaches 76 = .ok (.iconst 1, 1) := by decide +kernel
theorem dX7_reaches_77 : decode cX7_reaches 77 = .ok (.iadd, 1) := by decide +kernel
theorem dX7_reaches_78 : decode cX7_reaches 78 = .ok (.invokestatic 55, 3) := by decide +kernel
theorem dX7_reaches_81 : decode cX7_reaches 81 = .ok (.ifCond .eq 10, 3) := by decide +kernel
theorem dX7_reaches_84 : decode cX7_reaches 84 = .ok (.iconst 1, 1) := by decide +kernel
theorem dX7_reaches_85 : decode cX7_reaches 85 = .ok (.iload 4, 2) := by decide +kernel
theorem dX7_reaches_87 : decode cX7_reaches 87 = .ok (.ishl, 1) := by decide +kernel
theorem dX7_reaches_88 : decode cX7_reaches 88 = .ok (.goto 4, 3) := by decide +kernel
theorem dX7_reaches_91 : decode cX7_reaches 91 = .ok (.iconst 0, 1) := by decide +kernel
theorem dX7_reaches_92 : decode cX7_reaches 92 = .ok (.ior, 1) := by decide +kernel
theorem dX7_reaches_93 : decode cX7_reaches 93 = .ok (.istore_n 3, 1) := by decide +kernel
theorem dX7_reaches_94 : decode cX7_reaches 94 = .ok (.iinc 4 1, 3) := by decide +kernel
theorem dX7_reaches_97 : decode cX7_reaches 97 = .ok (.goto (-39), 3) := by decide +kernel
theorem dX7_reaches_100 : decode cX7_reaches 100 = .ok (.iload_n 2, 1) := by decide +kernel
theorem dX7_reaches_101 : decode cX7_reaches 101 = .ok (.ifCond .ne 7, 3) := by decide +kernel
theorem dX7_reaches_104 : decode cX7_reaches 104 = .ok (.iload_n 3, 1) := by decide +kernel
theorem dX7_reaches_105 : decode cX7_reaches 105 = .ok (.goto 18, 3) := by decide +kernel
theorem dX7_reaches_108 : decode cX7_reaches 108 = .ok (.aload_n 0, 1) := by decide +kernel
theorem dX7_reaches_109 : decode cX7_reaches 109 = .ok (.getfield 22, 3) := by decide +kernel
theorem dX7_reaches_112 : decode cX7_reaches 112 = .ok (.invokestatic 155, 3) := by decide +kernel
theorem dX7_reaches_115 : decode cX7_reaches 115 = .ok (.aload_n 0, 1) := by decide +kernel
theorem dX7_reaches_116 : decode cX7_reaches 116 = .ok (.getfield 28, 3) := by decide +kernel
theorem dX7_reaches_119 : decode cX7_reaches 119 = .ok (.invokestatic 155, 3) := by decide +kernel
theorem dX7_reaches_122 : decode cX7_reaches 122 = .ok (.ixor, 1) := by decide +kernel
theorem dX7_reaches_123 : decode cX7_reaches 123 = .ok (.ireturn, 1) := by decide +kernel
theorem dX7_rather_0 : decode cX7_rather 0 = .ok (.iload_n 1, 1) := by decide +kernel
theorem dX7_rather_1 : decode cX7_rather 1 = .ok (.invokestatic 59, 3) := by decide +kernel
theorem dX7_rather_4 : decode cX7_rather 4 = .ok (.ifCond .eq 12, 3) := by decide +kernel
theorem dX7_rather_7 : decode cX7_rather 7 = .ok (.iload_n 3, 1) := by decide +kernel
theorem dX7_rather_8 : decode cX7_rather 8 = .ok (.iconst 0, 1) := by decide +kernel
theorem dX7_rather_9 : decode cX7_rather 9 = .ok (.iconst 1, 1) := by decide +kernel
theorem dX7_rather_10 : decode cX7_rather 10 = .ok (.invokestatic 55, 3) := by decide +kernel
theorem dX7_rather_13 : decode cX7_rather 13 = .ok (.ifCond .ne 6, 3) := by decide +kernel
theorem dX7_rather_16 : decode cX7_rather 16 = .ok (.ldc 63, 2) := by decide +kernel
theorem dX7_rather_18 : decode cX7_rather 18 = .ok (.ireturn, 1) := by decide +kernel
theorem dX7_rather_19 : decode cX7_rather 19 = .ok (.aload_n 0, 1) := by decide +kernel
theorem dX7_rather_20 : decode cX7_rather 20 = .ok (.getfield 7, 3) := by decide +kernel
theorem dX7_rather_23 : decode cX7_rather 23 = .ok (.iload_n 1, 1) := by decide +kernel
theorem dX7_rather_24 : decode cX7_rather 24 = .ok (.iaload, 1) := by decide +kernel
theorem dX7_rather_25 : decode cX7_rather 25 = .ok (.ifCond .ge 9, 3) := by decide +kernel
theorem dX7_rather_28 : decode cX7_rather 28 = .ok (.aload_n 0, 1) := by decide +kernel
theorem dX7_rather_29 : decode cX7_rather 29 = .ok (.iconst 1, 1) := by decide +kernel
theorem dX7_rather_30 : decode cX7_rather 30 = .ok (.invokevirtual 64, 3) := by decide +kernel
theorem dX7_rather_33 : decode cX7_rather 33 = .ok (.ireturn, 1) := by decide +kernel
theorem dX7_rather_34 : decode cX7_rather 34 = .ok (.iload_n 2, 1) := by decide +kernel
theorem dX7_rather_35 : decode cX7_rather 35 = .ok (.bipush 8, 2) := by decide +kernel
theorem dX7_rather_37 : decode cX7_rather 37 = .ok (.aload_n 0, 1) := by decide +kernel
theorem dX7_rather_38 : decode cX7_rather 38 = .ok (.getfield 13, 3) := by decide +kernel
theorem dX7_rather_41 : decode cX7_rather 41 = .ok (.iload_n 1, 1) := by decide +kernel
theorem dX7_rather_42 : decode cX7_rather 42 = .ok (.iaload, 1) := by decide +kernel
theorem dX7_rather_43 : decode cX7_rather 43 = .ok (.invokestatic 71, 3) := by decide +kernel
theorem dX7_rather_46 : decode cX7_rather 46 = .ok (.ifCond .ne 9, 3) := by decide +kernel
theorem dX7_rather_49 : decode cX7_rather 49 = .ok (.aload_n 0, 1) := by decide +kernel
theorem dX7_rather_50 : decode cX7_rather 50 = .ok (.iconst 2, 1) := by decide +kernel
theorem dX7_rather_51 : decode cX7_rather 51 = .ok (.invokevirtual 64, 3) := by decide +kernel
theorem dX7_rather_54 : decode cX7_rather 54 = .ok (.ireturn, 1) := by decide +kernel
theorem dX7_rather_55 : decode cX7_rather 55 = .ok (.bipush 40, 2) := by decide +kernel
theorem dX7_rather_57 : decode cX7_rather 57 = .ok (.iload_n 1, 1) := by decide +kernel
theorem dX7_rather_58 : decode cX7_rather 58 = .ok (.imul, 1) := by decide +kernel
theorem dX7_rather_59 : decode cX7_rather 59 = .ok (.iload_n 2, 1) := by decide +kernel
theorem dX7_rather_60 : decode cX7_rather 60 = .ok (.iadd, 1) := by decide +kernel
theorem dX7_rather_61 : decode cX7_rather 61 = .ok (.istore 4, 2) := by decide +kernel
theorem dX7_rather_63 : decode cX7_rather 63 = .ok (.iconst 0, 1) := by decide +kernel
theorem dX7_rather_64 : decode cX7_rather 64 = .ok (.istore 5, 2) := by decide +kernel
theorem dX7_rather_66 : decode cX7_rather 66 = .ok (.iload 5, 2) := by decide +kernel
theorem dX7_rather_68 : decode cX7_rather 68 = .ok (.bipush 8, 2) := by decide +kernel
theorem dX7_rather_70 : decode cX7_rather 70 = .ok (.if_icmp .ge 32, 3) := by decide +kernel
theorem dX7_rather_73 : decode cX7_rather 73 = .ok (.aload_n 0, 1) := by decide +kernel
theorem dX7_rather_74 : decode cX7_rather 74 = .ok (.getfield 16, 3) := by decide +kernel
theorem dX7_rather_77 : decode cX7_rather 77 = .ok (.iload 4, 2) := by decide +kernel
theorem dX7_rather_79 : decode cX7_rather 79 = .ok (.iload 5, 2) := by decide +kernel
theorem dX7_rather_81 : decode cX7_rather 81 = .ok (.iadd, 1) := by decide +kernel
theorem dX7_rather_82 : decode cX7_rather 82 = .ok (.iaload, 1) := by decide +kernel
theorem dX7_rather_83 : decode cX7_rather 83 = .ok (.bipush (-20), 2) := by decide +kernel
theorem dX7_rather_85 : decode cX7_rather 85 = .ok (.bipush 20, 2) := by decide +kernel
theorem dX7_rather_87 : decode cX7_rather 87 = .ok (.invokestatic 55, 3) := by decide +kernel
theorem dX7_rather_90 : decode cX7_rather 90 = .ok (.ifCond .ne 6, 3) := by decide +kernel
theorem dX7_rather_93 : decode cX7_rather 93 = .ok (.ldc 63, 2) := by decide +kernel
theorem dX7_rather_95 : decode cX7_rather 95 = .ok (.ireturn, 1) := by decide +kernel
theorem dX7_rather_96 : decode cX7_rather 96 = .ok (.iinc 5 1, 3) := by decide +kernel
theorem dX7_rather_99 : decode cX7_rather 99 = .ok (.goto (-33), 3) := by decide +kernel
theorem dX7_rather_102 : decode cX7_rather 102 = .ok (.iconst 0, 1) := by decide +kernel
theorem dX7_rather_103 : decode cX7_rather 103 = .ok (.istore 5, 2) := by decide +kernel
theorem dX7_rather_105 : decode cX7_rather 105 = .ok (.iconst 0, 1) := by decide +kernel
theorem dX7_rather_106 : decode cX7_rather 106 = .ok (.istore 6, 2) := by decide +kernel
theorem dX7_rather_108 : decode cX7_rather 108 = .ok (.iconst 0, 1) := by decide +kernel
theorem dX7_rather_109 : decode cX7_rather 109 = .ok (.istore 7, 2) := by decide +kernel
theorem dX7_rather_111 : decode cX7_rather 111 = .ok (.iload 7, 2) := by decide +kernel
theorem dX7_rather_113 : decode cX7_rather 113 = .ok (.iconst 4, 1) := by decide +kernel
theorem dX7_rather_114 : decode cX7_rather 114 = .ok (.if_icmp .ge 138, 3) := by decide +kernel
theorem dX7_rather_117 : decode cX7_rather 117 = .ok (.iload 7, 2) := by decide +kernel
theorem dX7_rather_119 : decode cX7_rather 119 = .ok (.iconst 2, 1) := by decide +kernel
theorem dX7_rather_120 : decode cX7_rather 120 = .ok (.if_icmp .ge 10, 3) := by decide +kernel
theorem dX7_rather_123 : decode cX7_rather 123 = .ok (.iload 7, 2) := by decide +kernel
theorem dX7_rather_125 : decode cX7_rather 125 = .ok (.iconst 2, 1) := by decide +kernel
theorem dX7_rather_126 : decode cX7_rather 126 = .ok (.iadd, 1) := by decide +kernel
theorem dX7_rather_127 : decode cX7_rather 127 = .ok (.goto 7, 3) := by decide +kernel
theorem dX7_rather_130 : decode cX7_rather 130 = .ok (.iload 7, 2) := by decide +kernel
theorem dX7_rather_132 : decode cX7_rather 132 = .ok (.iconst 2, 1) := by decide +kernel
theorem dX7_rather_133 : decode cX7_rather 133 = .ok (.isub, 1) := by decide +kernel
theorem dX7_rather_134 : decode cX7_rather 134 = .ok (.istore 8, 2) := by decide +kernel
theorem dX7_rather_136 : decode cX7_rather 136 = .ok (.iload 7, 2) := by decide +kernel
theorem dX7_rather_138 : decode cX7_rather 138 = .ok (.iconst 2, 1) := by decide +kernel
theorem dX7_rather_139 : decode cX7_rather 139 = .ok (.irem, 1) := by decide +kernel
theorem dX7_rather_140 : decode cX7_rather 140 = .ok (.ifCond .ne 10, 3) := by decide +kernel
theorem dX7_rather_143 : decode cX7_rather 143 = .ok (.iload 7, 2) := by decide +kernel
theorem dX7_rather_145 : decode cX7_rather 145 = .ok (.iconst 1, 1) := by decide +kernel
theorem dX7_rather_146 : decode cX7_rather 146 = .ok (.iadd, 1) := by decide +kernel
theorem dX7_rather_147 : decode cX7_rather 147 = .ok (.goto 7, 3) := by decide +kernel
theorem dX7_rather_150 : decode cX7_rather 150 = .ok (.iload 7, 2) := by decide +kernel
theorem dX7_rather_152 : decode cX7_rather 152 = .ok (.iconst 1, 1) := by decide +kernel
theorem dX7_rather_153 : decode cX7_rather 153 = .ok (.isub, 1) := by decide +kernel
theorem dX7_rather_154 : decode cX7_rather 154 = .ok (.istore 9, 2) := by decide +kernel
theorem dX7_rather_156 : decode cX7_rather 156 = .ok (.aload_n 0, 1) := by decide +kernel
theorem dX7_rather_157 : decode cX7_rather 157 = .ok (.getfield 16, 3) := by decide +kernel
theorem dX7_rather_160 : decode cX7_rather 160 = .ok (.iload 4, 2) := by decide +kernel
theorem dX7_rather_162 : decode cX7_rather 162 = .ok (.iload 7, 2) := by decide +kernel
theorem dX7_rather_164 : decode cX7_rather 164 = .ok (.iadd, 1) := by decide +kernel
theorem dX7_rather_165 : decode cX7_rather 165 = .ok (.iaload, 1) := by decide +kernel
theorem dX7_rather_166 : decode cX7_rather 166 = .ok (.aload_n 0, 1) := by decide +kernel
theorem dX7_rather_167 : decode cX7_rather 167 = .ok (.getfield 16, 3) := by decide +kernel
theorem dX7_rather_170 : decode cX7_rather 170 = .ok (.iload 4, 2) := by decide +kernel
theorem dX7_rather_172 : decode cX7_rather 172 = .ok (.iload 8, 2) := by decide +kernel
theorem dX7_rather_174 : decode cX7_rather 174 = .ok (.iadd, 1) := by decide +kernel
theorem dX7_rather_175 : decode cX7_rather 175 = .ok (.iaload, 1) := by decide +kernel
theorem dX7_rather_176 : decode cX7_rather 176 = .ok (.if_icmp .lt 34, 3) := by decide +kernel
theorem dX7_rather_179 : decode cX7_rather 179 = .ok (.aload_n 0, 1) := by decide +kernel
theorem dX7_rather_180 : decode cX7_rather 180 = .ok (.getfield 16, 3) := by decide +kernel
theorem dX7_rather_183 : decode cX7_rather 183 = .ok (.iload 4, 2) := by decide +kernel
theorem dX7_rather_185 : decode cX7_rather 185 = .ok (.iconst 4, 1) := by decide +kernel
theorem dX7_rather_186 : decode cX7_rather 186 = .ok (.iadd, 1) := by decide +kernel
theorem dX7_rather_187 : decode cX7_rather 187 = .ok (.iload 7, 2) := by decide +kernel
theorem dX7_rather_189 : decode cX7_rather 189 = .ok (.iadd, 1) := by decide +kernel
theorem dX7_rather_190 : decode cX7_rather 190 = .ok (.iaload, 1) := by decide +kernel
theorem dX7_rather_191 : decode cX7_rather 191 = .ok (.aload_n 0, 1) := by decide +kernel
theorem dX7_rather_192 : decode cX7_rather 192 = .ok (.getfield 16, 3) := by decide +kernel
theorem dX7_rather_195 : decode cX7_rather 195 = .ok (.iload 4, 2) := by decide +kernel
theorem dX7_rather_197 : decode cX7_rather 197 = .ok (.iconst 4, 1) := by decide +kernel
theorem dX7_rather_198 : decode cX7_rather 198 = .ok (.iadd, 1) := by decide +kernel
theorem dX7_rather_199 : decode cX7_rather 199 = .ok (.iload 9, 2) := by decide +kernel
theorem dX7_rather_201 : decode cX7_rather 201 = .ok (.iadd, 1) := by decide +kernel
theorem dX7_rather_202 : decode cX7_rather 202 = .ok (.iaload, 1) := by decide +kernel
theorem dX7_rather_203 : decode cX7_rather 203 = .ok (.if_icmp .lt 7, 3) := by decide +kernel
theorem dX7_rather_206 : decode cX7_rather 206 = .ok (.iconst 1, 1) := by decide +kernel
theorem dX7_rather_207 : decode cX7_rather 207 = .ok (.goto 4, 3) := by decide +kernel
theorem dX7_rather_210 : decode cX7_rather 210 = .ok (.iconst 0, 1) := by decide +kernel
theorem dX7_rather_211 : decode cX7_rather 211 = .ok (.istore 10, 2) := by decide +kernel
theorem dX7_rather_213 : decode cX7_rather 213 = .ok (.iload 5, 2) := by decide +kernel
theorem dX7_rather_215 : decode cX7_rather 215 = .ok (.iload 10, 2) := by decide +kernel
theorem dX7_rather_217 : decode cX7_rather 217 = .ok (.ifCond .eq 10, 3) := by decide +kernel
theorem dX7_rather_220 : decode cX7_rather 220 = .ok (.iconst 1, 1) := by decide +kernel
theorem dX7_rather_221 : decode cX7_rather 221 = .ok (.iload 7, 2) := by decide +kernel
theorem dX7_rather_223 : decode cX7_rather 223 = .ok (.ishl, 1) := by decide +kernel
theorem dX7_rather_224 : decode cX7_rather 224 = .ok (.goto 4, 3) := by decide +kernel
theorem dX7_rather_227 : decode cX7_rather 227 = .ok (.iconst 0, 1) := by decide +kernel
theorem dX7_rather_228 : decode cX7_rather 228 = .ok (.ior, 1) := by decide +kernel
theorem dX7_rather_229 : decode cX7_rather 229 = .ok (.istore 5, 2) := by decide +kernel
theorem dX7_rather_231 : decode cX7_rather 231 = .ok (.iload 6, 2) := by decide +kernel
theorem dX7_rather_233 : decode cX7_rather 233 = .ok (.iload 10, 2) := by decide +kernel
theorem dX7_rather_235 : decode cX7_rather 235 = .ok (.ifCond .eq 7, 3) := by decide +kernel
theorem dX7_rather_238 : decode cX7_rather 238 = .ok (.iconst 1, 1) := by decide +kernel
theorem dX7_rather_239 : decode cX7_rather 239 = .ok (.goto 4, 3) := by decide +kernel
theorem dX7_rather_242 : decode cX7_rather 242 = .ok (.iconst 0, 1) := by decide +kernel
theorem dX7_rather_243 : decode cX7_rather 243 = .ok (.iadd, 1) := by decide +kernel
theorem dX7_rather_244 : decode cX7_rather 244 = .ok (.istore 6, 2) := by decide +kernel
theorem dX7_rather_246 : decode cX7_rather 246 = .ok (.iinc 7 1, 3) := by decide +kernel
theorem dX7_rather_249 : decode cX7_rather 249 = .ok (.goto (-138), 3) := by decide +kernel
theorem dX7_rather_252 : decode cX7_rather 252 = .ok (.aload_n 0, 1) := by decide +kernel
theorem dX7_rather_253 : decode cX7_rather 253 = .ok (.iload_n 3, 1) := by decide +kernel
theorem dX7_rather_254 : decode cX7_rather 254 = .ok (.ifCond .ne 8, 3) := by decide +kernel
theorem dX7_rather_257 : decode cX7_rather 257 = .ok (.iload 6, 2) := by decide +kernel
theorem dX7_rather_259 : decode cX7_rather 259 = .ok (.goto 5, 3) := by decide +kernel
theorem dX7_rather_262 : decode cX7_rather 262 = .ok (.iload 5, 2) := by decide +kernel
theorem dX7_rather_264 : decode cX7_rather 264 = .ok (.invokevirtual 68, 3) := by decide +kernel
theorem dX7_rather_267 : decode cX7_rather 267 = .ok (.ireturn, 1) := by decide +kernel
theorem dX7_drawn_0 : decode cX7_drawn 0 = .ok (.aload_n 0, 1) := by decide +kernel
theorem dX7_drawn_1 : decode cX7_drawn 1 = .ok (.invokevirtual 176, 3) := by decide +kernel
theorem dX7_drawn_4 : decode cX7_drawn 4 = .ok (.ifCond .ne 6, 3) := by decide +kernel
theorem dX7_drawn_7 : decode cX7_drawn 7 = .ok (.ldc 162, 2) := by decide +kernel
theorem dX7_drawn_9 : decode cX7_drawn 9 = .ok (.ireturn, 1) := by decide +kernel
theorem dX7_drawn_10 : decode cX7_drawn 10 = .ok (.iload_n 1, 1) := by decide +kernel
theorem dX7_drawn_11 : decode cX7_drawn 11 = .ok (.iconst 0, 1) := by decide +kernel
theorem dX7_drawn_12 : decode cX7_drawn 12 = .ok (.bipush 60, 2) := by decide +kernel
theorem dX7_drawn_14 : decode cX7_drawn 14 = .ok (.invokestatic 55, 3) := by decide +kernel
theorem dX7_drawn_17 : decode cX7_drawn 17 = .ok (.ifCond .eq 22, 3) := by decide +kernel
theorem dX7_drawn_20 : decode cX7_drawn 20 = .ok (.iload_n 2, 1) := by decide +kernel
theorem dX7_drawn_21 : decode cX7_drawn 21 = .ok (.iconst 1, 1) := by decide +kernel
theorem dX7_drawn_22 : decode cX7_drawn 22 = .ok (.ldc 212, 2) := by decide +kernel
theorem dX7_drawn_24 : decode cX7_drawn 24 = .ok (.invokestatic 55, 3) := by decide +kernel
theorem dX7_drawn_27 : decode cX7_drawn 27 = .ok (.ifCond .eq 12, 3) := by decide +kernel
theorem dX7_drawn_30 : decode cX7_drawn 30 = .ok (.iload_n 3, 1) := by decide +kernel
theorem dX7_drawn_31 : decode cX7_drawn 31 = .ok (.iconst 0, 1) := by decide +kernel
theorem dX7_drawn_32 : decode cX7_drawn 32 = .ok (.iconst 1, 1) := by decide +kernel
theorem dX7_drawn_33 : decode cX7_drawn 33 = .ok (.invokestatic 55, 3) := by decide +kernel
theorem dX7_drawn_36 : decode cX7_drawn 36 = .ok (.ifCond .ne 6, 3) := by decide +kernel
theorem dX7_drawn_39 : decode cX7_drawn 39 = .ok (.ldc 63, 2) := by decide +kernel
theorem dX7_drawn_41 : decode cX7_drawn 41 = .ok (.ireturn, 1) := by decide +kernel
theorem dX7_drawn_42 : decode cX7_drawn 42 = .ok (.aload_n 0, 1) := by decide +kernel
theorem dX7_drawn_43 : decode cX7_drawn 43 = .ok (.getfield 22, 3) := by decide +kernel
theorem dX7_drawn_46 : decode cX7_drawn 46 = .ok (.iconst 0, 1) := by decide +kernel
theorem dX7_drawn_47 : decode cX7_drawn 47 = .ok (.aload_n 0, 1) := by decide +kernel
theorem dX7_drawn_48 : decode cX7_drawn 48 = .ok (.getfield 28, 3) := by decide +kernel
theorem dX7_drawn_51 : decode cX7_drawn 51 = .ok (.iconst 0, 1) := by decide +kernel
theorem dX7_drawn_52 : decode cX7_drawn 52 = .ok (.invokestatic 126, 3) := by decide +kernel
theorem dX7_drawn_55 : decode cX7_drawn 55 = .ok (.iload_n 2, 1) := by decide +kernel
theorem dX7_drawn_56 : decode cX7_drawn 56 = .ok (.i2l, 1) := by decide +kernel
theorem dX7_drawn_57 : decode cX7_drawn 57 = .ok (.lstore 4, 2) := by decide +kernel
theorem dX7_drawn_59 : decode cX7_drawn 59 = .ok (.iconst 0, 1) := by decide +kernel
theorem dX7_drawn_60 : decode cX7_drawn 60 = .ok (.istore 6, 2) := by decide +kernel
theorem dX7_drawn_62 : decode cX7_drawn 62 = .ok (.iconst 0, 1) := by decide +kernel
theorem dX7_drawn_63 : decode cX7_drawn 63 = .ok (.istore 7, 2) := by decide +kernel
theorem dX7_drawn_65 : decode cX7_drawn 65 = .ok (.iload 7, 2) := by decide +kernel
theorem dX7_drawn_67 : decode cX7_drawn 67 = .ok (.iload_n 1, 1) := by decide +kernel
theorem dX7_drawn_68 : decode cX7_drawn 68 = .ok (.if_icmp .ge 144, 3) := by decide +kernel
theorem dX7_drawn_71 : decode cX7_drawn 71 = .ok (.lload 4, 2) := by decide +kernel
theorem dX7_drawn_73 : decode cX7_drawn 73 = .ok (.ldc2_w 213, 3) := by decide +kernel
theorem dX7_drawn_76 : decode cX7_drawn 76 = .ok (.lmul, 1) := by decide +kernel
theorem dX7_drawn_77 : decode cX7_drawn 77 = .ok (.ldc2_w 215, 3) := by decide +kernel
theorem dX7_drawn_80 : decode cX7_drawn 80 = .ok (.lrem, 1) := by decide +kernel
theorem dX7_drawn_81 : decode cX7_drawn 81 = .ok (.lstore 4, 2) := by decide +kernel
theorem dX7_drawn_83 : decode cX7_drawn 83 = .ok (.lload 4, 2) := by decide +kernel
theorem dX7_drawn_85 : decode cX7_drawn 85 = .ok (.aload_n 0, 1) := by decide +kernel
theorem dX7_drawn_86 : decode cX7_drawn 86 = .ok (.getfield 22, 3) := by decide +kernel
theorem dX7_drawn_89 : decode cX7_drawn 89 = .ok (.iconst 2, 1) := by decide +kernel
theorem dX7_drawn_90 : decode cX7_drawn 90 = .ok (.iaload, 1) := by decide +kernel
theorem dX7_drawn_91 : decode cX7_drawn 91 = .ok (.i2l, 1) := by decide +kernel
theorem dX7_drawn_92 : decode cX7_drawn 92 = .ok (.lrem, 1) := by decide +kernel
theorem dX7_drawn_93 : decode cX7_drawn 93 = .ok (.l2i, 1) := by decide +kernel
theorem dX7_drawn_94 : decode cX7_drawn 94 = .ok (.istore 8, 2) := by decide +kernel
theorem dX7_drawn_96 : decode cX7_drawn 96 = .ok (.aload_n 0, 1) := by decide +kernel
theorem dX7_drawn_97 : decode cX7_drawn 97 = .ok (.getfield 28, 3) := by decide +kernel
theorem dX7_drawn_100 : decode cX7_drawn 100 = .ok (.bipush 11, 2) := by decide +kernel
theorem dX7_drawn_102 : decode cX7_drawn 102 = .ok (.iload 8, 2) := by decide +kernel
theorem dX7_drawn_104 : decode cX7_drawn 104 = .ok (.iadd, 1) := by decide +kernel
theorem dX7_drawn_105 : decode cX7_drawn 105 = .ok (.lload 4, 2) := by decide +kernel
theorem dX7_drawn_107 : decode cX7_drawn 107 = .ok (.ldc2_w 217, 3) := by decide +kernel
theorem dX7_drawn_110 : decode cX7_drawn 110 = .ok (.lrem, 1) := by decide +kernel
theorem dX7_drawn_111 : decode cX7_drawn 111 = .ok (.l2i, 1) := by decide +kernel
theorem dX7_drawn_112 : decode cX7_drawn 112 = .ok (.iastore, 1) := by decide +kernel
theorem dX7_drawn_113 : decode cX7_drawn 113 = .ok (.aload_n 0, 1) := by decide +kernel
theorem dX7_drawn_114 : decode cX7_drawn 114 = .ok (.getfield 28, 3) := by decide +kernel
theorem dX7_drawn_117 : decode cX7_drawn 117 = .ok (.bipush 17, 2) := by decide +kernel
theorem dX7_drawn_119 : decode cX7_drawn 119 = .ok (.iload 8, 2) := by decide +kernel
theorem dX7_drawn_121 : decode cX7_drawn 121 = .ok (.iadd, 1) := by decide +kernel
theorem dX7_drawn_122 : decode cX7_drawn 122 = .ok (.lload 4, 2) := by decide +kernel
theorem dX7_drawn_124 : decode cX7_drawn 124 = .ok (.ldc2_w 219, 3) := by decide +kernel
theorem dX7_drawn_127 : decode cX7_drawn 127 = .ok (.lrem, 1) := by decide +kernel
theorem dX7_drawn_128 : decode cX7_drawn 128 = .ok (.lconst 0, 1) := by decide +kernel
theorem dX7_drawn_129 : decode cX7_drawn 129 = .ok (.lcmp, 1) := by decide +kernel
theorem dX7_drawn_130 : decode cX7_drawn 130 = .ok (.ifCond .ne 7, 3) := by decide +kernel
theorem dX7_drawn_133 : decode cX7_drawn 133 = .ok (.iconst 1, 1) := by decide +kernel
theorem dX7_drawn_134 : decode cX7_drawn 134 = .ok (.goto 4, 3) := by decide +kernel
theorem dX7_drawn_137 : decode cX7_drawn 137 = .ok (.iconst 0, 1) := by decide +kernel
theorem dX7_drawn_138 : decode cX7_drawn 138 = .ok (.iastore, 1) := by decide +kernel
theorem dX7_drawn_139 : decode cX7_drawn 139 = .ok (.aload_n 0, 1) := by decide +kernel
theorem dX7_drawn_140 : decode cX7_drawn 140 = .ok (.getfield 28, 3) := by decide +kernel
theorem dX7_drawn_143 : decode cX7_drawn 143 = .ok (.bipush 23, 2) := by decide +kernel
theorem dX7_drawn_145 : decode cX7_drawn 145 = .ok (.iload 8, 2) := by decide +kernel
theorem dX7_drawn_147 : decode cX7_drawn 147 = .ok (.iadd, 1) := by decide +kernel
theorem dX7_drawn_148 : decode cX7_drawn 148 = .ok (.lload 4, 2) := by decide +kernel
theorem dX7_drawn_150 : decode cX7_drawn 150 = .ok (.ldc2_w 221, 3) := by decide +kernel
theorem dX7_drawn_153 : decode cX7_drawn 153 = .ok (.lrem, 1) := by decide +kernel
theorem dX7_drawn_154 : decode cX7_drawn 154 = .ok (.lconst 0, 1) := by decide +kernel
theorem dX7_drawn_155 : decode cX7_drawn 155 = .ok (.lcmp, 1) := by decide +kernel
theorem dX7_drawn_156 : decode cX7_drawn 156 = .ok (.ifCond .ne 7, 3) := by decide +kernel
theorem dX7_drawn_159 : decode cX7_drawn 159 = .ok (.iconst 1, 1) := by decide +kernel
theorem dX7_drawn_160 : decode cX7_drawn 160 = .ok (.goto 4, 3) := by decide +kernel
theorem dX7_drawn_163 : decode cX7_drawn 163 = .ok (.iconst 0, 1) := by decide +kernel
theorem dX7_drawn_164 : decode cX7_drawn 164 = .ok (.iastore, 1) := by decide +kernel
theorem dX7_drawn_165 : decode cX7_drawn 165 = .ok (.aload_n 0, 1) := by decide +kernel
theorem dX7_drawn_166 : decode cX7_drawn 166 = .ok (.getfield 28, 3) := by decide +kernel
theorem dX7_drawn_169 : decode cX7_drawn 169 = .ok (.invokestatic 179, 3) := by decide +kernel
theorem dX7_drawn_172 : decode cX7_drawn 172 = .ok (.istore 9, 2) := by decide +kernel
theorem dX7_drawn_174 : decode cX7_drawn 174 = .ok (.iconst 0, 1) := by decide +kernel
theorem dX7_drawn_175 : decode cX7_drawn 175 = .ok (.istore 10, 2) := by decide +kernel
theorem dX7_drawn_177 : decode cX7_drawn 177 = .ok (.iload 10, 2) := by decide +kernel
theorem dX7_drawn_179 : decode cX7_drawn 179 = .ok (.aload_n 0, 1) := by decide +kernel
theorem dX7_drawn_180 : decode cX7_drawn 180 = .ok (.getfield 22, 3) := by decide +kernel
theorem dX7_drawn_183 : decode cX7_drawn 183 = .ok (.iconst 3, 1) := by decide +kernel
theorem dX7_drawn_184 : decode cX7_drawn 184 = .ok (.iaload, 1) := by decide +kernel
theorem dX7_drawn_185 : decode cX7_drawn 185 = .ok (.if_icmp .ge 21, 3) := by decide +kernel
theorem dX7_drawn_188 : decode cX7_drawn 188 = .ok (.iload 6, 2) := by decide +kernel
theorem dX7_drawn_190 : decode cX7_drawn 190 = .ok (.iload 9, 2) := by decide +kernel
theorem dX7_drawn_192 : decode cX7_drawn 192 = .ok (.iload 10, 2) := by decide +kernel
theorem dX7_drawn_194 : decode cX7_drawn 194 = .ok (.ishr, 1) := by decide +kernel
theorem dX7_drawn_195 : decode cX7_drawn 195 = .ok (.iconst 1, 1) := by decide +kernel
theorem dX7_drawn_196 : decode cX7_drawn 196 = .ok (.iand, 1) := by decide +kernel
theorem dX7_drawn_197 : decode cX7_drawn 197 = .ok (.iadd, 1) := by decide +kernel
theorem dX7_drawn_198 : decode cX7_drawn 198 = .ok (.istore 6, 2) := by decide +kernel
theorem dX7_drawn_200 : decode cX7_drawn 200 = .ok (.iinc 10 1, 3) := by decide +kernel
theorem dX7_drawn_203 : decode cX7_drawn 203 = .ok (.goto (-26), 3) := by decide +kernel
theorem dX7_drawn_206 : decode cX7_drawn 206 = .ok (.iinc 7 1, 3) := by decide +kernel
theorem dX7_drawn_209 : decode cX7_drawn 209 = .ok (.goto (-144), 3) := by decide +kernel
theorem dX7_drawn_212 : decode cX7_drawn 212 = .ok (.iconst 0, 1) := by decide +kernel
theorem dX7_drawn_213 : decode cX7_drawn 213 = .ok (.istore 7, 2) := by decide +kernel
theorem dX7_drawn_215 : decode cX7_drawn 215 = .ok (.iconst 0, 1) := by decide +kernel
theorem dX7_drawn_216 : decode cX7_drawn 216 = .ok (.istore 8, 2) := by decide +kernel
theorem dX7_drawn_218 : decode cX7_drawn 218 = .ok (.iload 8, 2) := by decide +kernel
theorem dX7_drawn_220 : decode cX7_drawn 220 = .ok (.aload_n 0, 1) := by decide +kernel
theorem dX7_drawn_221 : decode cX7_drawn 221 = .ok (.getfield 22, 3) := by decide +kernel
theorem dX7_drawn_224 : decode cX7_drawn 224 = .ok (.iconst 3, 1) := by decide +kernel
theorem dX7_drawn_225 : decode cX7_drawn 225 = .ok (.iaload, 1) := by decide +kernel
theorem dX7_drawn_226 : decode cX7_drawn 226 = .ok (.if_icmp .ge 24, 3) := by decide +kernel
theorem dX7_drawn_229 : decode cX7_drawn 229 = .ok (.iload 7, 2) := by decide +kernel
theorem dX7_drawn_231 : decode cX7_drawn 231 = .ok (.aload_n 0, 1) := by decide +kernel
theorem dX7_drawn_232 : decode cX7_drawn 232 = .ok (.getfield 28, 3) := by decide +kernel
theorem dX7_drawn_235 : decode cX7_drawn 235 = .ok (.bipush 41, 2) := by decide +kernel
theorem dX7_drawn_237 : decode cX7_drawn 237 = .ok (.iload 8, 2) := by decide +kernel
theorem dX7_drawn_239 : decode cX7_drawn 239 = .ok (.iadd, 1) := by decide +kernel
theorem dX7_drawn_240 : decode cX7_drawn 240 = .ok (.iaload, 1) := by decide +kernel
theorem dX7_drawn_241 : decode cX7_drawn 241 = .ok (.iadd, 1) := by decide +kernel
theorem dX7_drawn_242 : decode cX7_drawn 242 = .ok (.istore 7, 2) := by decide +kernel
theorem dX7_drawn_244 : decode cX7_drawn 244 = .ok (.iinc 8 1, 3) := by decide +kernel
theorem dX7_drawn_247 : decode cX7_drawn 247 = .ok (.goto (-29), 3) := by decide +kernel
theorem dX7_drawn_250 : decode cX7_drawn 250 = .ok (.iload_n 3, 1) := by decide +kernel
theorem dX7_drawn_251 : decode cX7_drawn 251 = .ok (.ifCond .ne 8, 3) := by decide +kernel
theorem dX7_drawn_254 : decode cX7_drawn 254 = .ok (.iload 6, 2) := by decide +kernel
theorem dX7_drawn_256 : decode cX7_drawn 256 = .ok (.goto 5, 3) := by decide +kernel
theorem dX7_drawn_259 : decode cX7_drawn 259 = .ok (.iload 7, 2) := by decide +kernel
theorem dX7_drawn_261 : decode cX7_drawn 261 = .ok (.ireturn, 1) := by decide +kernel
theorem dX7_image_0 : decode cX7_image 0 = .ok (.iload_n 1, 1) := by decide +kernel
theorem dX7_image_1 : decode cX7_image 1 = .ok (.iconst 0, 1) := by decide +kernel
theorem dX7_image_2 : decode cX7_image 2 = .ok (.iconst 1, 1) := by decide +kernel
theorem dX7_image_3 : decode cX7_image 3 = .ok (.invokestatic 55, 3) := by decide +kernel
theorem dX7_image_6 : decode cX7_image 6 = .ok (.ifCond .ne 6, 3) := by decide +kernel
theorem dX7_image_9 : decode cX7_image 9 = .ok (.ldc 63, 2) := by decide +kernel
theorem dX7_image_11 : decode cX7_image 11 = .ok (.ireturn, 1) := by decide +kernel
theorem dX7_image_12 : decode cX7_image 12 = .ok (.aload_n 0, 1) := by decide +kernel
theorem dX7_image_13 : decode cX7_image 13 = .ok (.invokevirtual 176, 3) := by decide +kernel
theorem dX7_image_16 : decode cX7_image 16 = .ok (.ifCond .ne 6, 3) := by decide +kernel
theorem dX7_image_19 : decode cX7_image 19 = .ok (.ldc 162, 2) := by decide +kernel
theorem dX7_image_21 : decode cX7_image 21 = .ok (.ireturn, 1) := by decide +kernel
theorem dX7_image_22 : decode cX7_image 22 = .ok (.aload_n 0, 1) := by decide +kernel
theorem dX7_image_23 : decode cX7_image 23 = .ok (.getfield 22, 3) := by decide +kernel
theorem dX7_image_26 : decode cX7_image 26 = .ok (.iconst 0, 1) := by decide +kernel
theorem dX7_image_27 : decode cX7_image 27 = .ok (.aload_n 0, 1) := by decide +kernel
theorem dX7_image_28 : decode cX7_image 28 = .ok (.getfield 31, 3) := by decide +kernel
theorem dX7_image_31 : decode cX7_image 31 = .ok (.bipush 53, 2) := by decide +kernel
theorem dX7_image_33 : decode cX7_image 33 = .ok (.iload_n 1, 1) := by decide +kernel
theorem dX7_image_34 : decode cX7_image 34 = .ok (.imul, 1) := by decide +kernel
theorem dX7_image_35 : decode cX7_image 35 = .ok (.invokestatic 126, 3) := by decide +kernel
theorem dX7_image_38 : decode cX7_image 38 = .ok (.aload_n 0, 1) := by decide +kernel
theorem dX7_image_39 : decode cX7_image 39 = .ok (.getfield 34, 3) := by decide +kernel
theorem dX7_image_42 : decode cX7_image 42 = .ok (.iload_n 1, 1) := by decide +kernel
theorem dX7_image_43 : decode cX7_image 43 = .ok (.iconst 1, 1) := by decide +kernel
theorem dX7_image_44 : decode cX7_image 44 = .ok (.bastore, 1) := by decide +kernel
theorem dX7_image_45 : decode cX7_image 45 = .ok (.iconst 1, 1) := by decide +kernel
theorem dX7_image_46 : decode cX7_image 46 = .ok (.ireturn, 1) := by decide +kernel
theorem dX7_restore_0 : decode cX7_restore 0 = .ok (.iload_n 1, 1) := by decide +kernel
theorem dX7_restore_1 : decode cX7_restore 1 = .ok (.iconst 0, 1) := by decide +kernel
theorem dX7_restore_2 : decode cX7_restore 2 = .ok (.iconst 1, 1) := by decide +kernel
theorem dX7_restore_3 : decode cX7_restore 3 = .ok (.invokestatic 55, 3) := by decide +kernel
theorem dX7_restore_6 : decode cX7_restore 6 = .ok (.ifCond .ne 6, 3) := by decide +kernel
theorem dX7_restore_9 : decode cX7_restore 9 = .ok (.ldc 63, 2) := by decide +kernel
theorem dX7_restore_11 : decode cX7_restore 11 = .ok (.ireturn, 1) := by decide +kernel
theorem dX7_restore_12 : decode cX7_restore 12 = .ok (.aload_n 0, 1) := by decide +kernel
theorem dX7_restore_13 : decode cX7_restore 13 = .ok (.getfield 34, 3) := by decide +kernel
theorem dX7_restore_16 : decode cX7_restore 16 = .ok (.iload_n 1, 1) := by decide +kernel
theorem dX7_restore_17 : decode cX7_restore 17 = .ok (.baload, 1) := by decide +kernel
theorem dX7_restore_18 : decode cX7_restore 18 = .ok (.ifCond .ne 6, 3) := by decide +kernel
theorem dX7_restore_21 : decode cX7_restore 21 = .ok (.ldc 162, 2) := by decide +kernel
theorem dX7_restore_23 : decode cX7_restore 23 = .ok (.ireturn, 1) := by decide +kernel
theorem dX7_restore_24 : decode cX7_restore 24 = .ok (.aload_n 0, 1) := by decide +kernel
theorem dX7_restore_25 : decode cX7_restore 25 = .ok (.getfield 31, 3) := by decide +kernel
theorem dX7_restore_28 : decode cX7_restore 28 = .ok (.bipush 53, 2) := by decide +kernel
theorem dX7_restore_30 : decode cX7_restore 30 = .ok (.iload_n 1, 1) := by decide +kernel
theorem dX7_restore_31 : decode cX7_restore 31 = .ok (.imul, 1) := by decide +kernel
theorem dX7_restore_32 : decode cX7_restore 32 = .ok (.aload_n 0, 1) := by decide +kernel
theorem dX7_restore_33 : decode cX7_restore 33 = .ok (.getfield 22, 3) := by decide +kernel
theorem dX7_restore_36 : decode cX7_restore 36 = .ok (.iconst 0, 1) := by decide +kernel
theorem dX7_restore_37 : decode cX7_restore 37 = .ok (.invokestatic 126, 3) := by decide +kernel
theorem dX7_restore_40 : decode cX7_restore 40 = .ok (.aload_n 0, 1) := by decide +kernel
theorem dX7_restore_41 : decode cX7_restore 41 = .ok (.iconst 0, 1) := by decide +kernel
theorem dX7_restore_42 : decode cX7_restore 42 = .ok (.putfield 130, 3) := by decide +kernel
theorem dX7_restore_45 : decode cX7_restore 45 = .ok (.iconst 1, 1) := by decide +kernel
theorem dX7_restore_46 : decode cX7_restore 46 = .ok (.ireturn, 1) := by decide +kernel
theorem dX7_kindOf_0 : decode cX7_kindOf 0 = .ok (.aload_n 0, 1) := by decide +kernel
theorem dX7_kindOf_1 : decode cX7_kindOf 1 = .ok (.getfield 22, 3) := by decide +kernel
theorem dX7_kindOf_4 : decode cX7_kindOf 4 = .ok (.bipush 29, 2) := by decide +kernel
theorem dX7_kindOf_6 : decode cX7_kindOf 6 = .ok (.iload_n 1, 1) := by decide +kernel
theorem dX7_kindOf_7 : decode cX7_kindOf 7 = .ok (.iadd, 1) := by decide +kernel
theorem dX7_kindOf_8 : decode cX7_kindOf 8 = .ok (.iaload, 1) := by decide +kernel
theorem dX7_kindOf_9 : decode cX7_kindOf 9 = .ok (.ireturn, 1) := by decide +kernel
theorem dX7_kind_0 : decode cX7_kind 0 = .ok (.aload_n 0, 1) := by decide +kernel
theorem dX7_kind_1 : decode cX7_kind 1 = .ok (.iload_n 1, 1) := by decide +kernel
theorem dX7_kind_2 : decode cX7_kind 2 = .ok (.invokevirtual 185, 3) := by decide +kernel
theorem dX7_kind_5 : decode cX7_kind 5 = .ok (.ifCond .eq 11, 3) := by decide +kernel
theorem dX7_kind_8 : decode cX7_kind 8 = .ok (.aload_n 0, 1) := by decide +kernel
theorem dX7_kind_9 : decode cX7_kind 9 = .ok (.iload_n 1, 1) := by decide +kernel
theorem dX7_kind_10 : decode cX7_kind 10 = .ok (.invokevirtual 223, 3) := by decide +kernel
theorem dX7_kind_13 : decode cX7_kind 13 = .ok (.goto 5, 3) := by decide +kernel
theorem dX7_kind_16 : decode cX7_kind 16 = .ok (.ldc 63, 2) := by decide +kernel
theorem dX7_kind_18 : decode cX7_kind 18 = .ok (.ireturn, 1) := by decide +kernel
theorem dX7_parentOf_0 : decode cX7_parentOf 0 = .ok (.iload_n 0, 1) := by decide +kernel
theorem dX7_parentOf_1 : decode cX7_parentOf 1 = .ok (.iconst 1, 1) := by decide +kernel
theorem dX7_parentOf_2 : decode cX7_parentOf 2 = .ok (.if_icmp .eq 8, 3) := by decide +kernel
theorem dX7_parentOf_5 : decode cX7_parentOf 5 = .ok (.iload_n 0, 1) := by decide +kernel
theorem dX7_parentOf_6 : decode cX7_parentOf 6 = .ok (.iconst 4, 1) := by decide +kernel
theorem dX7_parentOf_7 : decode cX7_parentOf 7 = .ok (.if_icmp .ne 7, 3) := by decide +kernel
theorem dX7_parentOf_10 : decode cX7_parentOf 10 = .ok (.iconst 0, 1) := by decide +kernel
theorem dX7_parentOf_11 : decode cX7_parentOf 11 = .ok (.goto 13, 3) := by decide +kernel
theorem dX7_parentOf_14 : decode cX7_parentOf 14 = .ok (.iload_n 0, 1) := by decide +kernel
theorem dX7_parentOf_15 : decode cX7_parentOf 15 = .ok (.iconst 5, 1) := by decide +kernel
theorem dX7_parentOf_16 : decode cX7_parentOf 16 = .ok (.if_icmp .ne 7, 3) := by decide +kernel
theorem dX7_parentOf_19 : decode cX7_parentOf 19 = .ok (.iconst 4, 1) := by decide +kernel
theorem dX7_parentOf_20 : decode cX7_parentOf 20 = .ok (.goto 4, 3) := by decide +kernel
theorem dX7_parentOf_23 : decode cX7_parentOf 23 = .ok (.iconst 1, 1) := by decide +kernel
theorem dX7_parentOf_24 : decode cX7_parentOf 24 = .ok (.ireturn, 1) := by decide +kernel
theorem dX7_as_0 : decode cX7_as 0 = .ok (.aload_n 0, 1) := by decide +kernel
theorem dX7_as_1 : decode cX7_as 1 = .ok (.iload_n 1, 1) := by decide +kernel
theorem dX7_as_2 : decode cX7_as 2 = .ok (.invokevirtual 185, 3) := by decide +kernel
theorem dX7_as_5 : decode cX7_as 5 = .ok (.ifCond .eq 12, 3) := by decide +kernel
theorem dX7_as_8 : decode cX7_as 8 = .ok (.iload_n 2, 1) := by decide +kernel
theorem dX7_as_9 : decode cX7_as 9 = .ok (.iconst 0, 1) := by decide +kernel
theorem dX7_as_10 : decode cX7_as 10 = .ok (.iconst 5, 1) := by decide +kernel
theorem dX7_as_11 : decode cX7_as 11 = .ok (.invokestatic 55, 3) := by decide +kernel
theorem dX7_as_14 : decode cX7_as 14 = .ok (.ifCond .ne 6, 3) := by decide +kernel
theorem dX7_as_17 : decode cX7_as 17 = .ok (.ldc 63, 2) := by decide +kernel
theorem dX7_as_19 : decode cX7_as 19 = .ok (.ireturn, 1) := by decide +kernel
theorem dX7_as_20 : decode cX7_as 20 = .ok (.aload_n 0, 1) := by decide +kernel
theorem dX7_as_21 : decode cX7_as 21 = .ok (.iload_n 1, 1) := by decide +kernel
theorem dX7_as_22 : decode cX7_as 22 = .ok (.invokevirtual 223, 3) := by decide +kernel
theorem dX7_as_25 : decode cX7_as 25 = .ok (.istore_n 3, 1) := by decide +kernel
theorem dX7_as_26 : decode cX7_as 26 = .ok (.iload_n 2, 1) := by decide +kernel
theorem dX7_as_27 : decode cX7_as 27 = .ok (.ifCond .eq 16, 3) := by decide +kernel
theorem dX7_as_30 : decode cX7_as 30 = .ok (.iload_n 3, 1) := by decide +kernel
theorem dX7_as_31 : decode cX7_as 31 = .ok (.iload_n 2, 1) := by decide +kernel
theorem dX7_as_32 : decode cX7_as 32 = .ok (.if_icmp .eq 11, 3) := by decide +kernel
theorem dX7_as_35 : decode cX7_as 35 = .ok (.iload_n 3, 1) := by decide +kernel
theorem dX7_as_36 : decode cX7_as 36 = .ok (.invokestatic 226, 3) := by decide +kernel
theorem dX7_as_39 : decode cX7_as 39 = .ok (.iload_n 2, 1) := by decide +kernel
theorem dX7_as_40 : decode cX7_as 40 = .ok (.if_icmp .ne 7, 3) := by decide +kernel
theorem dX7_as_43 : decode cX7_as 43 = .ok (.iconst 1, 1) := by decide +kernel
theorem dX7_as_44 : decode cX7_as 44 = .ok (.goto 4, 3) := by decide +kernel
theorem dX7_as_47 : decode cX7_as 47 = .ok (.iconst 0, 1) := by decide +kernel
theorem dX7_as_48 : decode cX7_as 48 = .ok (.istore 4, 2) := by decide +kernel
theorem dX7_as_50 : decode cX7_as 50 = .ok (.iload 4, 2) := by decide +kernel
theorem dX7_as_52 : decode cX7_as 52 = .ok (.ifCond .eq 11, 3) := by decide +kernel
theorem dX7_as_55 : decode cX7_as 55 = .ok (.aload_n 0, 1) := by decide +kernel
theorem dX7_as_56 : decode cX7_as 56 = .ok (.iload_n 1, 1) := by decide +kernel
theorem dX7_as_57 : decode cX7_as 57 = .ok (.invokevirtual 68, 3) := by decide +kernel
theorem dX7_as_60 : decode cX7_as 60 = .ok (.goto 8, 3) := by decide +kernel
theorem dX7_as_63 : decode cX7_as 63 = .ok (.aload_n 0, 1) := by decide +kernel
theorem dX7_as_64 : decode cX7_as 64 = .ok (.iconst 3, 1) := by decide +kernel
theorem dX7_as_65 : decode cX7_as 65 = .ok (.invokevirtual 64, 3) := by decide +kernel
theorem dX7_as_68 : decode cX7_as 68 = .ok (.ireturn, 1) := by decide +kernel
theorem dX7_begins_0 : decode cX7_begins 0 = .ok (.aload_n 0, 1) := by decide +kernel
theorem dX7_begins_1 : decode cX7_begins 1 = .ok (.getfield 229, 3) := by decide +kernel
theorem dX7_begins_4 : decode cX7_begins 4 = .ok (.bipush 16, 2) := by decide +kernel
theorem dX7_begins_6 : decode cX7_begins 6 = .ok (.if_icmp .ge 23, 3) := by decide +kernel
theorem dX7_begins_9 : decode cX7_begins 9 = .ok (.aload_n 0, 1) := by decide +kernel
theorem dX7_begins_10 : decode cX7_begins 10 = .ok (.getfield 41, 3) := by decide +kernel
theorem dX7_begins_13 : decode cX7_begins 13 = .ok (.aload_n 0, 1) := by decide +kernel
theorem dX7_begins_14 : decode cX7_begins 14 = .ok (.getfield 229, 3) := by decide +kernel
theorem dX7_begins_17 : decode cX7_begins 17 = .ok (.iload_n 1, 1) := by decide +kernel
theorem dX7_begins_18 : decode cX7_begins 18 = .ok (.iastore, 1) := by decide +kernel
theorem dX7_begins_19 : decode cX7_begins 19 = .ok (.aload_n 0, 1) := by decide +kernel
theorem dX7_begins_20 : decode cX7_begins 20 = .ok (.dup, 1) := by decide +kernel
theorem dX7_begins_21 : decode cX7_begins 21 = .ok (.getfield 229, 3) := by decide +kernel
theorem dX7_begins_24 : decode cX7_begins 24 = .ok (.iconst 1, 1) := by decide +kernel
theorem dX7_begins_25 : decode cX7_begins 25 = .ok (.iadd, 1) := by decide +kernel
theorem dX7_begins_26 : decode cX7_begins 26 = .ok (.putfield 229, 3) := by decide +kernel
theorem dX7_begins_29 : decode cX7_begins 29 = .ok (.return_, 1) := by decide +kernel
theorem dX7_markGuest_0 : decode cX7_markGuest 0 = .ok (.aload_n 0, 1) := by decide +kernel
theorem dX7_markGuest_1 : decode cX7_markGuest 1 = .ok (.bipush 21, 2) := by decide +kernel
theorem dX7_markGuest_3 : decode cX7_markGuest 3 = .ok (.invokevirtual 232, 3) := by decide +kernel
theorem dX7_markGuest_6 : decode cX7_markGuest 6 = .ok (.aload_n 0, 1) := by decide +kernel
theorem dX7_markGuest_7 : decode cX7_markGuest 7 = .ok (.bipush 20, 2) := by decide +kernel
theorem dX7_markGuest_9 : decode cX7_markGuest 9 = .ok (.invokevirtual 232, 3) := by decide +kernel
theorem dX7_markGuest_12 : decode cX7_markGuest 12 = .ok (.iload_n 1, 1) := by decide +kernel
theorem dX7_markGuest_13 : decode cX7_markGuest 13 = .ok (.aload_n 0, 1) := by decide +kernel
theorem dX7_markGuest_14 : decode cX7_markGuest 14 = .ok (.getfield 22, 3) := by decide +kernel
theorem dX7_markGuest_17 : decode cX7_markGuest 17 = .ok (.bipush 41, 2) := by decide +kernel
theorem dX7_markGuest_19 : decode cX7_markGuest 19 = .ok (.iload_n 1, 1) := by decide +kernel
theorem dX7_markGuest_20 : decode cX7_markGuest 20 = .ok (.iadd, 1) := by decide +kernel
theorem dX7_markGuest_21 : decode cX7_markGuest 21 = .ok (.iaload, 1) := by decide +kernel
theorem dX7_markGuest_22 : decode cX7_markGuest 22 = .ok (.iadd, 1) := by decide +kernel
theorem dX7_markGuest_23 : decode cX7_markGuest 23 = .ok (.ireturn, 1) := by decide +kernel
theorem dX7_markPlain_0 : decode cX7_markPlain 0 = .ok (.aload_n 0, 1) := by decide +kernel
theorem dX7_markPlain_1 : decode cX7_markPlain 1 = .ok (.iload_n 1, 1) := by decide +kernel
theorem dX7_markPlain_2 : decode cX7_markPlain 2 = .ok (.invokevirtual 223, 3) := by decide +kernel
theorem dX7_markPlain_5 : decode cX7_markPlain 5 = .ok (.istore_n 2, 1) := by decide +kernel
theorem dX7_markPlain_6 : decode cX7_markPlain 6 = .ok (.iload_n 2, 1) := by decide +kernel
theorem dX7_markPlain_7 : decode cX7_markPlain 7 = .ok (.iconst 2, 1) := by decide +kernel
theorem dX7_markPlain_8 : decode cX7_markPlain 8 = .ok (.if_icmp .ne 17, 3) := by decide +kernel
theorem dX7_markPlain_11 : decode cX7_markPlain 11 = .ok (.aload_n 0, 1) := by decide +kernel
theorem dX7_markPlain_12 : decode cX7_markPlain 12 = .ok (.bipush 24, 2) := by decide +kernel
theorem dX7_markPlain_14 : decode cX7_markPlain 14 = .ok (.invokevirtual 232, 3) := by decide +kernel
theorem dX7_markPlain_17 : decode cX7_markPlain 17 = .ok (.iconst 2, 1) := by decide +kernel
theorem dX7_markPlain_18 : decode cX7_markPlain 18 = .ok (.aload_n 0, 1) := by decide +kernel
theorem dX7_markPlain_19 : decode cX7_markPlain 19 = .ok (.iload_n 1, 1) := by decide +kernel
theorem dX7_markPlain_20 : decode cX7_markPlain 20 = .ok (.invokevirtual 236, 3) := by decide +kernel
theorem dX7_markPlain_23 : decode cX7_markPlain 23 = .ok (.imul, 1) := by decide +kernel
theorem dX7_markPlain_24 : decode cX7_markPlain 24 = .ok (.ireturn, 1) := by decide +kernel
theorem dX7_markPlain_25 : decode cX7_markPlain 25 = .ok (.iload_n 2, 1) := by decide +kernel
theorem dX7_markPlain_26 : decode cX7_markPlain 26 = .ok (.iconst 3, 1) := by decide +kernel
theorem dX7_markPlain_27 : decode cX7_markPlain 27 = .ok (.if_icmp .ne 19, 3) := by decide +kernel
theorem dX7_markPlain_30 : decode cX7_markPlain 30 = .ok (.aload_n 0, 1) := by decide +kernel
theorem dX7_markPlain_31 : decode cX7_markPlain 31 = .ok (.bipush 22, 2) := by decide +kernel
theorem dX7_markPlain_33 : decode cX7_markPlain 33 = .ok (.invokevirtual 232, 3) := by decide +kernel
theorem dX7_markPlain_36 : decode cX7_markPlain 36 = .ok (.aload_n 0, 1) := by decide +kernel
theorem dX7_markPlain_37 : decode cX7_markPlain 37 = .ok (.iload_n 1, 1) := by decide +kernel
theorem dX7_markPlain_38 : decode cX7_markPlain 38 = .ok (.invokevirtual 236, 3) := by decide +kernel
theorem dX7_markPlain_41 : decode cX7_markPlain 41 = .ok (.sipush 1000, 3) := by decide +kernel
theorem dX7_markPlain_44 : decode cX7_markPlain 44 = .ok (.isub, 1) := by decide +kernel
theorem dX7_markPlain_45 : decode cX7_markPlain 45 = .ok (.ireturn, 1) := by decide +kernel
theorem dX7_markPlain_46 : decode cX7_markPlain 46 = .ok (.aload_n 0, 1) := by decide +kernel
theorem dX7_markPlain_47 : decode cX7_markPlain 47 = .ok (.iload_n 1, 1) := by decide +kernel
theorem dX7_markPlain_48 : decode cX7_markPlain 48 = .ok (.invokevirtual 236, 3) := by decide +kernel
theorem dX7_markPlain_51 : decode cX7_markPlain 51 = .ok (.ireturn, 1) := by decide +kernel
theorem dX7_sizePost_0 : decode cX7_sizePost 0 = .ok (.aload_n 0, 1) := by decide +kernel
theorem dX7_sizePost_1 : decode cX7_sizePost 1 = .ok (.bipush 13, 2) := by decide +kernel
theorem dX7_sizePost_3 : decode cX7_sizePost 3 = .ok (.invokevirtual 232, 3) := by decide +kernel
theorem dX7_sizePost_6 : decode cX7_sizePost 6 = .ok (.aload_n 0, 1) := by decide +kernel
theorem dX7_sizePost_7 : decode cX7_sizePost 7 = .ok (.bipush 10, 2) := by decide +kernel
theorem dX7_sizePost_9 : decode cX7_sizePost 9 = .ok (.invokevirtual 232, 3) := by decide +kernel
theorem dX7_sizePost_12 : decode cX7_sizePost 12 = .ok (.aload_n 0, 1) := by decide +kernel
theorem dX7_sizePost_13 : decode cX7_sizePost 13 = .ok (.getfield 22, 3) := by decide +kernel
theorem dX7_sizePost_16 : decode cX7_sizePost 16 = .ok (.bipush 35, 2) := by decide +kernel
theorem dX7_sizePost_18 : decode cX7_sizePost 18 = .ok (.iload_n 1, 1) := by decide +kernel
theorem dX7_sizePost_19 : decode cX7_sizePost 19 = .ok (.iadd, 1) := by decide +kernel
theorem dX7_sizePost_20 : decode cX7_sizePost 20 = .ok (.iaload, 1) := by decide +kernel
theorem dX7_sizePost_21 : decode cX7_sizePost 21 = .ok (.bipush 100, 2) := by decide +kernel
theorem dX7_sizePost_23 : decode cX7_sizePost 23 = .ok (.isub, 1) := by decide +kernel
theorem dX7_sizePost_24 : decode cX7_sizePost 24 = .ok (.ireturn, 1) := by decide +kernel
theorem dX7_sizeOf_0 : decode cX7_sizeOf 0 = .ok (.aload_n 0, 1) := by decide +kernel
theorem dX7_sizeOf_1 : decode cX7_sizeOf 1 = .ok (.iload_n 1, 1) := by decide +kernel
theorem dX7_sizeOf_2 : decode cX7_sizeOf 2 = .ok (.invokevirtual 223, 3) := by decide +kernel
theorem dX7_sizeOf_5 : decode cX7_sizeOf 5 = .ok (.istore_n 2, 1) := by decide +kernel
theorem dX7_sizeOf_6 : decode cX7_sizeOf 6 = .ok (.iload_n 2, 1) := by decide +kernel
theorem dX7_sizeOf_7 : decode cX7_sizeOf 7 = .ok (.iconst 5, 1) := by decide +kernel
theorem dX7_sizeOf_8 : decode cX7_sizeOf 8 = .ok (.if_icmp .ne 17, 3) := by decide +kernel
theorem dX7_sizeOf_11 : decode cX7_sizeOf 11 = .ok (.aload_n 0, 1) := by decide +kernel
theorem dX7_sizeOf_12 : decode cX7_sizeOf 12 = .ok (.bipush 14, 2) := by decide +kernel
theorem dX7_sizeOf_14 : decode cX7_sizeOf 14 = .ok (.invokevirtual 232, 3) := by decide +kernel
theorem dX7_sizeOf_17 : decode cX7_sizeOf 17 = .ok (.iconst 2, 1) := by decide +kernel
theorem dX7_sizeOf_18 : decode cX7_sizeOf 18 = .ok (.aload_n 0, 1) := by decide +kernel
theorem dX7_sizeOf_19 : decode cX7_sizeOf 19 = .ok (.iload_n 1, 1) := by decide +kernel
theorem dX7_sizeOf_20 : decode cX7_sizeOf 20 = .ok (.invokevirtual 239, 3) := by decide +kernel
theorem dX7_sizeOf_23 : decode cX7_sizeOf 23 = .ok (.imul, 1) := by decide +kernel
theorem dX7_sizeOf_24 : decode cX7_sizeOf 24 = .ok (.ireturn, 1) := by decide +kernel
theorem dX7_sizeOf_25 : decode cX7_sizeOf 25 = .ok (.iload_n 2, 1) := by decide +kernel
theorem dX7_sizeOf_26 : decode cX7_sizeOf 26 = .ok (.iconst 4, 1) := by decide +kernel
theorem dX7_sizeOf_27 : decode cX7_sizeOf 27 = .ok (.if_icmp .ne 9, 3) := by decide +kernel
theorem dX7_sizeOf_30 : decode cX7_sizeOf 30 = .ok (.aload_n 0, 1) := by decide +kernel
theorem dX7_sizeOf_31 : decode cX7_sizeOf 31 = .ok (.iload_n 1, 1) := by decide +kernel
theorem dX7_sizeOf_32 : decode cX7_sizeOf 32 = .ok (.invokevirtual 239, 3) := by decide +kernel
theorem dX7_sizeOf_35 : decode cX7_sizeOf 35 = .ok (.ireturn, 1) := by decide +kernel
theorem dX7_sizeOf_36 : decode cX7_sizeOf 36 = .ok (.iload_n 2, 1) := by decide +kernel
theorem dX7_sizeOf_37 : decode cX7_sizeOf 37 = .ok (.iconst 2, 1) := by decide +kernel
theorem dX7_sizeOf_38 : decode cX7_sizeOf 38 = .ok (.if_icmp .ne 9, 3) := by decide +kernel
theorem dX7_sizeOf_41 : decode cX7_sizeOf 41 = .ok (.aload_n 0, 1) := by decide +kernel
theorem dX7_sizeOf_42 : decode cX7_sizeOf 42 = .ok (.bipush 12, 2) := by decide +kernel
theorem dX7_sizeOf_44 : decode cX7_sizeOf 44 = .ok (.invokevirtual 232, 3) := by decide +kernel
theorem dX7_sizeOf_47 : decode cX7_sizeOf 47 = .ok (.aload_n 0, 1) := by decide +kernel
theorem dX7_sizeOf_48 : decode cX7_sizeOf 48 = .ok (.bipush 11, 2) := by decide +kernel
theorem dX7_sizeOf_50 : decode cX7_sizeOf 50 = .ok (.invokevirtual 232, 3) := by decide +kernel
theorem dX7_sizeOf_53 : decode cX7_sizeOf 53 = .ok (.aload_n 0, 1) := by decide +kernel
theorem dX7_sizeOf_54 : decode cX7_sizeOf 54 = .ok (.bipush 10, 2) := by decide +kernel
theorem dX7_sizeOf_56 : decode cX7_sizeOf 56 = .ok (.invokevirtual 232, 3) := by decide +kernel
theorem dX7_sizeOf_59 : decode cX7_sizeOf 59 = .ok (.aload_n 0, 1) := by decide +kernel
theorem dX7_sizeOf_60 : decode cX7_sizeOf 60 = .ok (.getfield 22, 3) := by decide +kernel
theorem dX7_sizeOf_63 : decode cX7_sizeOf 63 = .ok (.bipush 35, 2) := by decide +kernel
theorem dX7_sizeOf_65 : decode cX7_sizeOf 65 = .ok (.iload_n 1, 1) := by decide +kernel
theorem dX7_sizeOf_66 : decode cX7_sizeOf 66 = .ok (.iadd, 1) := by decide +kernel
theorem dX7_sizeOf_67 : decode cX7_sizeOf 67 = .ok (.iaload, 1) := by decide +kernel
theorem dX7_sizeOf_68 : decode cX7_sizeOf 68 = .ok (.aload_n 0, 1) := by decide +kernel
theorem dX7_sizeOf_69 : decode cX7_sizeOf 69 = .ok (.iload_n 1, 1) := by decide +kernel
theorem dX7_sizeOf_70 : decode cX7_sizeOf 70 = .ok (.invokevirtual 242, 3) := by decide +kernel
theorem dX7_sizeOf_73 : decode cX7_sizeOf 73 = .ok (.iadd, 1) := by decide +kernel
theorem dX7_sizeOf_74 : decode cX7_sizeOf 74 = .ok (.istore_n 3, 1) := by decide +kernel
theorem dX7_sizeOf_75 : decode cX7_sizeOf 75 = .ok (.iload_n 2, 1) := by decide +kernel
theorem dX7_sizeOf_76 : decode cX7_sizeOf 76 = .ok (.iconst 2, 1) := by decide +kernel
theorem dX7_sizeOf_77 : decode cX7_sizeOf 77 = .ok (.if_icmp .ne 8, 3) := by decide +kernel
theorem dX7_sizeOf_80 : decode cX7_sizeOf 80 = .ok (.iload_n 3, 1) := by decide +kernel
theorem dX7_sizeOf_81 : decode cX7_sizeOf 81 = .ok (.ineg, 1) := by decide +kernel
theorem dX7_sizeOf_82 : decode cX7_sizeOf 82 = .ok (.goto 4, 3) := by decide +kernel
theorem dX7_sizeOf_85 : decode cX7_sizeOf 85 = .ok (.iload_n 3, 1) := by decide +kernel
theorem dX7_sizeOf_86 : decode cX7_sizeOf 86 = .ok (.ireturn, 1) := by decide +kernel
theorem dX7_markOf_0 : decode cX7_markOf 0 = .ok (.aload_n 0, 1) := by decide +kernel
theorem dX7_markOf_1 : decode cX7_markOf 1 = .ok (.iload_n 1, 1) := by decide +kernel
theorem dX7_markOf_2 : decode cX7_markOf 2 = .ok (.invokevirtual 223, 3) := by decide +kernel
theorem dX7_markOf_5 : decode cX7_markOf 5 = .ok (.iconst 4, 1) := by decide +kernel
theorem dX7_markOf_6 : decode cX7_markOf 6 = .ok (.if_icmp .ge 9, 3) := by decide +kernel
theorem dX7_markOf_9 : decode cX7_markOf 9 = .ok (.aload_n 0, 1) := by decide +kernel
theorem dX7_markOf_10 : decode cX7_markOf 10 = .ok (.iload_n 1, 1) := by decide +kernel
theorem dX7_markOf_11 : decode cX7_markOf 11 = .ok (.invokevirtual 242, 3) := by decide +kernel
theorem dX7_markOf_14 : decode cX7_markOf 14 = .ok (.ireturn, 1) := by decide +kernel
theorem dX7_markOf_15 : decode cX7_markOf 15 = .ok (.aload_n 0, 1) := by decide +kernel
theorem dX7_markOf_16 : decode cX7_markOf 16 = .ok (.bipush 23, 2) := by decide +kernel
theorem dX7_markOf_18 : decode cX7_markOf 18 = .ok (.invokevirtual 232, 3) := by decide +kernel
theorem dX7_markOf_21 : decode cX7_markOf 21 = .ok (.aload_n 0, 1) := by decide +kernel
theorem dX7_markOf_22 : decode cX7_markOf 22 = .ok (.bipush 20, 2) := by decide +kernel
theorem dX7_markOf_24 : decode cX7_markOf 24 = .ok (.invokevirtual 232, 3) := by decide +kernel
theorem dX7_markOf_27 : decode cX7_markOf 27 = .ok (.iload_n 1, 1) := by decide +kernel
theorem dX7_markOf_28 : decode cX7_markOf 28 = .ok (.aload_n 0, 1) := by decide +kernel
theorem dX7_markOf_29 : decode cX7_markOf 29 = .ok (.iload_n 1, 1) := by decide +kernel
theorem dX7_markOf_30 : decode cX7_markOf 30 = .ok (.invokevirtual 245, 3) := by decide +kernel
theorem dX7_markOf_33 : decode cX7_markOf 33 = .ok (.isub, 1) := by decide +kernel
theorem dX7_markOf_34 : decode cX7_markOf 34 = .ok (.ireturn, 1) := by decide +kernel
theorem dX7_ask_0 : decode cX7_ask 0 = .ok (.aload_n 0, 1) := by decide +kernel
theorem dX7_ask_1 : decode cX7_ask 1 = .ok (.iload_n 1, 1) := by decide +kernel
theorem dX7_ask_2 : decode cX7_ask 2 = .ok (.invokevirtual 185, 3) := by decide +kernel
theorem dX7_ask_5 : decode cX7_ask 5 = .ok (.ifCond .eq 12, 3) := by decide +kernel
theorem dX7_ask_8 : decode cX7_ask 8 = .ok (.iload_n 2, 1) := by decide +kernel
theorem dX7_ask_9 : decode cX7_ask 9 = .ok (.iconst 0, 1) := by decide +kernel
theorem dX7_ask_10 : decode cX7_ask 10 = .ok (.iconst 1, 1) := by decide +kernel
theorem dX7_ask_11 : decode cX7_ask 11 = .ok (.invokestatic 55, 3) := by decide +kernel
theorem dX7_ask_14 : decode cX7_ask 14 = .ok (.ifCond .ne 6, 3) := by decide +kernel
theorem dX7_ask_17 : decode cX7_ask 17 = .ok (.ldc 63, 2) := by decide +kernel
theorem dX7_ask_19 : decode cX7_ask 19 = .ok (.ireturn, 1) := by decide +kernel
theorem dX7_ask_20 : decode cX7_ask 20 = .ok (.aload_n 0, 1) := by decide +kernel
theorem dX7_ask_21 : decode cX7_ask 21 = .ok (.iconst 0, 1) := by decide +kernel
theorem dX7_ask_22 : decode cX7_ask 22 = .ok (.putfield 229, 3) := by decide +kernel
theorem dX7_ask_25 : decode cX7_ask 25 = .ok (.iload_n 2, 1) := by decide +kernel
theorem dX7_ask_26 : decode cX7_ask 26 = .ok (.ifCond .ne 11, 3) := by decide +kernel
theorem dX7_ask_29 : decode cX7_ask 29 = .ok (.aload_n 0, 1) := by decide +kernel
theorem dX7_ask_30 : decode cX7_ask 30 = .ok (.iload_n 1, 1) := by decide +kernel
theorem dX7_ask_31 : decode cX7_ask 31 = .ok (.invokevirtual 245, 3) := by decide +kernel
theorem dX7_ask_34 : decode cX7_ask 34 = .ok (.goto 8, 3) := by decide +kernel
theorem dX7_ask_37 : decode cX7_ask 37 = .ok (.aload_n 0, 1) := by decide +kernel
theorem dX7_ask_38 : decode cX7_ask 38 = .ok (.iload_n 1, 1) := by decide +kernel
theorem dX7_ask_39 : decode cX7_ask 39 = .ok (.invokevirtual 248, 3) := by decide +kernel
theorem dX7_ask_42 : decode cX7_ask 42 = .ok (.ireturn, 1) := by decide +kernel
theorem dX7_trace_0 : decode cX7_trace 0 = .ok (.iload_n 1, 1) := by decide +kernel
theorem dX7_trace_1 : decode cX7_trace 1 = .ok (.iconst 0, 1) := by decide +kernel
theorem dX7_trace_2 : decode cX7_trace 2 = .ok (.aload_n 0, 1) := by decide +kernel
theorem dX7_trace_3 : decode cX7_trace 3 = .ok (.getfield 229, 3) := by decide +kernel
theorem dX7_trace_6 : decode cX7_trace 6 = .ok (.iconst 1, 1) := by decide +kernel
theorem dX7_trace_7 : decode cX7_trace 7 = .ok (.isub, 1) := by decide +kernel
theorem dX7_trace_8 : decode cX7_trace 8 = .ok (.invokestatic 55, 3) := by decide +kernel
theorem dX7_trace_11 : decode cX7_trace 11 = .ok (.ifCond .eq 12, 3) := by decide +kernel
theorem dX7_trace_14 : decode cX7_trace 14 = .ok (.aload_n 0, 1) := by decide +kernel
theorem dX7_trace_15 : decode cX7_trace 15 = .ok (.getfield 41, 3) := by decide +kernel
theorem dX7_trace_18 : decode cX7_trace 18 = .ok (.iload_n 1, 1) := by decide +kernel
theorem dX7_trace_19 : decode cX7_trace 19 = .ok (.iaload, 1) := by decide +kernel
theorem dX7_trace_20 : decode cX7_trace 20 = .ok (.goto 5, 3) := by decide +kernel
theorem dX7_trace_23 : decode cX7_trace 23 = .ok (.ldc 188, 2) := by decide +kernel
theorem dX7_trace_25 : decode cX7_trace 25 = .ok (.ireturn, 1) := by decide +kernel
theorem dX7_count_0 : decode cX7_count 0 = .ok (.iconst 0, 1) := by decide +kernel
theorem dX7_count_1 : decode cX7_count 1 = .ok (.istore_n 2, 1) := by decide +kernel
theorem dX7_count_2 : decode cX7_count 2 = .ok (.iconst 0, 1) := by decide +kernel
theorem dX7_count_3 : decode cX7_count 3 = .ok (.istore_n 3, 1) := by decide +kernel
theorem dX7_count_4 : decode cX7_count 4 = .ok (.iload_n 3, 1) := by decide +kernel
theorem dX7_count_5 : decode cX7_count 5 = .ok (.bipush 8, 2) := by decide +kernel
theorem dX7_count_7 : decode cX7_count 7 = .ok (.if_icmp .ge 26, 3) := by decide +kernel
theorem dX7_count_10 : decode cX7_count 10 = .ok (.iload_n 2, 1) := by decide +kernel
theorem dX7_count_11 : decode cX7_count 11 = .ok (.aload_n 0, 1) := by decide +kernel
theorem dX7_count_12 : decode cX7_count 12 = .ok (.getfield 7, 3) := by decide +kernel
theorem dX7_count_15 : decode cX7_count 15 = .ok (.iload_n 3, 1) := by decide +kernel
theorem dX7_count_16 : decode cX7_count 16 = .ok (.iaload, 1) := by decide +kernel
theorem dX7_count_17 : decode cX7_count 17 = .ok (.ifCond .ge 7, 3) := by decide +kernel
theorem dX7_count_20 : decode cX7_count 20 = .ok (.iconst 0, 1) := by decide +kernel
theorem dX7_count_21 : decode cX7_count 21 = .ok (.goto 4, 3) := by decide +kernel
theorem dX7_count_24 : decode cX7_count 24 = .ok (.iconst 1, 1) := by decide +kernel
theorem dX7_count_25 : decode cX7_count 25 = .ok (.iadd, 1) := by decide +kernel
theorem dX7_count_26 : decode cX7_count 26 = .ok (.istore_n 2, 1) := by decide +kernel
theorem dX7_count_27 : decode cX7_count 27 = .ok (.iinc 3 1, 3) := by decide +kernel
theorem dX7_count_30 : decode cX7_count 30 = .ok (.goto (-26), 3) := by decide +kernel
theorem dX7_count_33 : decode cX7_count 33 = .ok (.iconst 0, 1) := by decide +kernel
theorem dX7_count_34 : decode cX7_count 34 = .ok (.istore_n 3, 1) := by decide +kernel
theorem dX7_count_35 : decode cX7_count 35 = .ok (.iconst 0, 1) := by decide +kernel
theorem dX7_count_36 : decode cX7_count 36 = .ok (.istore 4, 2) := by decide +kernel
theorem dX7_count_38 : decode cX7_count 38 = .ok (.iload 4, 2) := by decide +kernel
theorem dX7_count_40 : decode cX7_count 40 = .ok (.bipush 6, 2) := by decide +kernel
theorem dX7_count_42 : decode cX7_count 42 = .ok (.if_icmp .ge 22, 3) := by decide +kernel
theorem dX7_count_45 : decode cX7_count 45 = .ok (.iload_n 3, 1) := by decide +kernel
theorem dX7_count_46 : decode cX7_count 46 = .ok (.aload_n 0, 1) := by decide +kernel
theorem dX7_count_47 : decode cX7_count 47 = .ok (.getfield 22, 3) := by decide +kernel
theorem dX7_count_50 : decode cX7_count 50 = .ok (.bipush 47, 2) := by decide +kernel
theorem dX7_count_52 : decode cX7_count 52 = .ok (.iload 4, 2) := by decide +kernel
theorem dX7_count_54 : decode cX7_count 54 = .ok (.iadd, 1) := by decide +kernel
theorem dX7_count_55 : decode cX7_count 55 = .ok (.iaload, 1) := by decide +kernel
theorem dX7_count_56 : decode cX7_count 56 = .ok (.iadd, 1) := by decide +kernel
theorem dX7_count_57 : decode cX7_count 57 = .ok (.istore_n 3, 1) := by decide +kernel
theorem dX7_count_58 : decode cX7_count 58 = .ok (.iinc 4 1, 3) := by decide +kernel
theorem dX7_count_61 : decode cX7_count 61 = .ok (.goto (-23), 3) := by decide +kernel
theorem dX7_count_64 : decode cX7_count 64 = .ok (.iload_n 1, 1) := by decide +kernel
theorem dX7_count_65 : decode cX7_count 65 = .ok (.tableswitch 100 0 8 #[51, 53, 60, 67, 74, 81, 88, 90, 95], 51) := by decide +kernel
theorem dX7_count_116 : decode cX7_count 116 = .ok (.iload_n 2, 1) := by decide +kernel
theorem dX7_count_117 : decode cX7_count 117 = .ok (.ireturn, 1) := by decide +kernel
theorem dX7_count_118 : decode cX7_count 118 = .ok (.aload_n 0, 1) := by decide +kernel
theorem dX7_count_119 : decode cX7_count 119 = .ok (.getfield 22, 3) := by decide +kernel
theorem dX7_count_122 : decode cX7_count 122 = .ok (.iconst 2, 1) := by decide +kernel
theorem dX7_count_123 : decode cX7_count 123 = .ok (.iaload, 1) := by decide +kernel
theorem dX7_count_124 : decode cX7_count 124 = .ok (.ireturn, 1) := by decide +kernel
theorem dX7_count_125 : decode cX7_count 125 = .ok (.aload_n 0, 1) := by decide +kernel
theorem dX7_count_126 : decode cX7_count 126 = .ok (.getfield 22, 3) := by decide +kernel
theorem dX7_count_129 : decode cX7_count 129 = .ok (.iconst 3, 1) := by decide +kernel
theorem dX7_count_130 : decode cX7_count 130 = .ok (.iaload, 1) := by decide +kernel
theorem dX7_count_131 : decode cX7_count 131 = .ok (.ireturn, 1) := by decide +kernel
theorem dX7_count_132 : decode cX7_count 132 = .ok (.aload_n 0, 1) := by decide +kernel
theorem dX7_count_133 : decode cX7_count 133 = .ok (.getfield 22, 3) := by decide +kernel
theorem dX7_count_136 : decode cX7_count 136 = .ok (.iconst 0, 1) := by decide +kernel
theorem dX7_count_137 : decode cX7_count 137 = .ok (.iaload, 1) := by decide +kernel
theorem dX7_count_138 : decode cX7_count 138 = .ok (.ireturn, 1) := by decide +kernel
theorem dX7_count_139 : decode cX7_count 139 = .ok (.aload_n 0, 1) := by decide +kernel
theorem dX7_count_140 : decode cX7_count 140 = .ok (.getfield 22, 3) := by decide +kernel
theorem dX7_count_143 : decode cX7_count 143 = .ok (.iconst 1, 1) := by decide +kernel
theorem dX7_count_144 : decode cX7_count 144 = .ok (.iaload, 1) := by decide +kernel
theorem dX7_count_145 : decode cX7_count 145 = .ok (.ireturn, 1) := by decide +kernel
theorem dX7_count_146 : decode cX7_count 146 = .ok (.aload_n 0, 1) := by decide +kernel
theorem dX7_count_147 : decode cX7_count 147 = .ok (.getfield 22, 3) := by decide +kernel
theorem dX7_count_150 : decode cX7_count 150 = .ok (.iconst 4, 1) := by decide +kernel
theorem dX7_count_151 : decode cX7_count 151 = .ok (.iaload, 1) := by decide +kernel
theorem dX7_count_152 : decode cX7_count 152 = .ok (.ireturn, 1) := by decide +kernel
theorem dX7_count_153 : decode cX7_count 153 = .ok (.iload_n 3, 1) := by decide +kernel
theorem dX7_count_154 : decode cX7_count 154 = .ok (.ireturn, 1) := by decide +kernel
theorem dX7_count_155 : decode cX7_count 155 = .ok (.aload_n 0, 1) := by decide +kernel
theorem dX7_count_156 : decode cX7_count 156 = .ok (.getfield 130, 3) := by decide +kernel
theorem dX7_count_159 : decode cX7_count 159 = .ok (.ireturn, 1) := by decide +kernel
theorem dX7_count_160 : decode cX7_count 160 = .ok (.aload_n 0, 1) := by decide +kernel
theorem dX7_count_161 : decode cX7_count 161 = .ok (.getfield 74, 3) := by decide +kernel
theorem dX7_count_164 : decode cX7_count 164 = .ok (.ireturn, 1) := by decide +kernel
theorem dX7_count_165 : decode cX7_count 165 = .ok (.ldc 63, 2) := by decide +kernel
theorem dX7_count_167 : decode cX7_count 167 = .ok (.ireturn, 1) := by decide +kernel
theorem dX7_status_0 : decode cX7_status 0 = .ok (.aload_n 0, 1) := by decide +kernel
theorem dX7_status_1 : decode cX7_status 1 = .ok (.getfield 50, 3) := by decide +kernel
theorem dX7_status_4 : decode cX7_status 4 = .ok (.ireturn, 1) := by decide +kernel
theorem dJ6_bitCount_0f7a4_0 : decode cJ6_bitCount_0f7a4 0 = .ok (.iload_n 0, 1) := by decide +kernel
theorem dJ6_bitCount_0f7a4_1 : decode cJ6_bitCount_0f7a4 1 = .ok (.iload_n 0, 1) := by decide +kernel
theorem dJ6_bitCount_0f7a4_2 : decode cJ6_bitCount_0f7a4 2 = .ok (.iconst 1, 1) := by decide +kernel
theorem dJ6_bitCount_0f7a4_3 : decode cJ6_bitCount_0f7a4 3 = .ok (.iushr, 1) := by decide +kernel
theorem dJ6_bitCount_0f7a4_4 : decode cJ6_bitCount_0f7a4 4 = .ok (.ldc_w 265, 3) := by decide +kernel
theorem dJ6_bitCount_0f7a4_7 : decode cJ6_bitCount_0f7a4 7 = .ok (.iand, 1) := by decide +kernel
theorem dJ6_bitCount_0f7a4_8 : decode cJ6_bitCount_0f7a4 8 = .ok (.isub, 1) := by decide +kernel
theorem dJ6_bitCount_0f7a4_9 : decode cJ6_bitCount_0f7a4 9 = .ok (.istore_n 0, 1) := by decide +kernel
theorem dJ6_bitCount_0f7a4_10 : decode cJ6_bitCount_0f7a4 10 = .ok (.iload_n 0, 1) := by decide +kernel
theorem dJ6_bitCount_0f7a4_11 : decode cJ6_bitCount_0f7a4 11 = .ok (.ldc_w 266, 3) := by decide +kernel
theorem dJ6_bitCount_0f7a4_14 : decode cJ6_bitCount_0f7a4 14 = .ok (.iand, 1) := by decide +kernel
theorem dJ6_bitCount_0f7a4_15 : decode cJ6_bitCount_0f7a4 15 = .ok (.iload_n 0, 1) := by decide +kernel
theorem dJ6_bitCount_0f7a4_16 : decode cJ6_bitCount_0f7a4 16 = .ok (.iconst 2, 1) := by decide +kernel
theorem dJ6_bitCount_0f7a4_17 : decode cJ6_bitCount_0f7a4 17 = .ok (.iushr, 1) := by decide +kernel
theorem dJ6_bitCount_0f7a4_18 : decode cJ6_bitCount_0f7a4 18 = .ok (.ldc_w 266, 3) := by decide +kernel
theorem dJ6_bitCount_0f7a4_21 : decode cJ6_bitCount_0f7a4 21 = .ok (.iand, 1) := by decide +kernel
theorem dJ6_bitCount_0f7a4_22 : decode cJ6_bitCount_0f7a4 22 = .ok (.iadd, 1) := by decide +kernel
theorem dJ6_bitCount_0f7a4_23 : decode cJ6_bitCount_0f7a4 23 = .ok (.istore_n 0, 1) := by decide +kernel
theorem dJ6_bitCount_0f7a4_24 : decode cJ6_bitCount_0f7a4 24 = .ok (.iload_n 0, 1) := by decide +kernel
theorem dJ6_bitCount_0f7a4_25 : decode cJ6_bitCount_0f7a4 25 = .ok (.iload_n 0, 1) := by decide +kernel
theorem dJ6_bitCount_0f7a4_26 : decode cJ6_bitCount_0f7a4 26 = .ok (.iconst 4, 1) := by decide +kernel
theorem dJ6_bitCount_0f7a4_27 : decode cJ6_bitCount_0f7a4 27 = .ok (.iushr, 1) := by decide +kernel
theorem dJ6_bitCount_0f7a4_28 : decode cJ6_bitCount_0f7a4 28 = .ok (.iadd, 1) := by decide +kernel
theorem dJ6_bitCount_0f7a4_29 : decode cJ6_bitCount_0f7a4 29 = .ok (.ldc_w 267, 3) := by decide +kernel
theorem dJ6_bitCount_0f7a4_32 : decode cJ6_bitCount_0f7a4 32 = .ok (.iand, 1) := by decide +kernel
theorem dJ6_bitCount_0f7a4_33 : decode cJ6_bitCount_0f7a4 33 = .ok (.istore_n 0, 1) := by decide +kernel
theorem dJ6_bitCount_0f7a4_34 : decode cJ6_bitCount_0f7a4 34 = .ok (.iload_n 0, 1) := by decide +kernel
theorem dJ6_bitCount_0f7a4_35 : decode cJ6_bitCount_0f7a4 35 = .ok (.iload_n 0, 1) := by decide +kernel
theorem dJ6_bitCount_0f7a4_36 : decode cJ6_bitCount_0f7a4 36 = .ok (.bipush 8, 2) := by decide +kernel
theorem dJ6_bitCount_0f7a4_38 : decode cJ6_bitCount_0f7a4 38 = .ok (.iushr, 1) := by decide +kernel
theorem dJ6_bitCount_0f7a4_39 : decode cJ6_bitCount_0f7a4 39 = .ok (.iadd, 1) := by decide +kernel
theorem dJ6_bitCount_0f7a4_40 : decode cJ6_bitCount_0f7a4 40 = .ok (.istore_n 0, 1) := by decide +kernel
theorem dJ6_bitCount_0f7a4_41 : decode cJ6_bitCount_0f7a4 41 = .ok (.iload_n 0, 1) := by decide +kernel
theorem dJ6_bitCount_0f7a4_42 : decode cJ6_bitCount_0f7a4 42 = .ok (.iload_n 0, 1) := by decide +kernel
theorem dJ6_bitCount_0f7a4_43 : decode cJ6_bitCount_0f7a4 43 = .ok (.bipush 16, 2) := by decide +kernel
theorem dJ6_bitCount_0f7a4_45 : decode cJ6_bitCount_0f7a4 45 = .ok (.iushr, 1) := by decide +kernel
theorem dJ6_bitCount_0f7a4_46 : decode cJ6_bitCount_0f7a4 46 = .ok (.iadd, 1) := by decide +kernel
theorem dJ6_bitCount_0f7a4_47 : decode cJ6_bitCount_0f7a4 47 = .ok (.istore_n 0, 1) := by decide +kernel
theorem dJ6_bitCount_0f7a4_48 : decode cJ6_bitCount_0f7a4 48 = .ok (.iload_n 0, 1) := by decide +kernel
theorem dJ6_bitCount_0f7a4_49 : decode cJ6_bitCount_0f7a4 49 = .ok (.bipush 63, 2) := by decide +kernel
theorem dJ6_bitCount_0f7a4_51 : decode cJ6_bitCount_0f7a4 51 = .ok (.iand, 1) := by decide +kernel
theorem dJ6_bitCount_0f7a4_52 : decode cJ6_bitCount_0f7a4 52 = .ok (.ireturn, 1) := by decide +kernel
theorem dJ9_max_7cf53_0 : decode cJ9_max_7cf53 0 = .ok (.iload_n 0, 1) := by decide +kernel
theorem dJ9_max_7cf53_1 : decode cJ9_max_7cf53 1 = .ok (.iload_n 1, 1) := by decide +kernel
theorem dJ9_max_7cf53_2 : decode cJ9_max_7cf53 2 = .ok (.if_icmp .lt 7, 3) := by decide +kernel
theorem dJ9_max_7cf53_5 : decode cJ9_max_7cf53 5 = .ok (.iload_n 0, 1) := by decide +kernel
theorem dJ9_max_7cf53_6 : decode cJ9_max_7cf53 6 = .ok (.goto 4, 3) := by decide +kernel
theorem dJ9_max_7cf53_9 : decode cJ9_max_7cf53 9 = .ok (.iload_n 1, 1) := by decide +kernel
theorem dJ9_max_7cf53_10 : decode cJ9_max_7cf53 10 = .ok (.ireturn, 1) := by decide +kernel
theorem dJ9_min_7cf53_0 : decode cJ9_min_7cf53 0 = .ok (.iload_n 0, 1) := by decide +kernel
theorem dJ9_min_7cf53_1 : decode cJ9_min_7cf53 1 = .ok (.iload_n 1, 1) := by decide +kernel
theorem dJ9_min_7cf53_2 : decode cJ9_min_7cf53 2 = .ok (.if_icmp .gt 7, 3) := by decide +kernel
theorem dJ9_min_7cf53_5 : decode cJ9_min_7cf53 5 = .ok (.iload_n 0, 1) := by decide +kernel
theorem dJ9_min_7cf53_6 : decode cJ9_min_7cf53 6 = .ok (.goto 4, 3) := by decide +kernel
theorem dJ9_min_7cf53_9 : decode cJ9_min_7cf53 9 = .ok (.iload_n 1, 1) := by decide +kernel
theorem dJ9_min_7cf53_10 : decode cJ9_min_7cf53 10 = .ok (.ireturn, 1) := by decide +kernel
theorem dL_law_0 : decode cL_law 0 = .ok (.new 7, 3) := by decide +kernel
theorem dL_law_3 : decode cL_law 3 = .ok (.dup, 1) := by decide +kernel
theorem dL_law_4 : decode cL_law 4 = .ok (.invokespecial 9, 3) := by decide +kernel
theorem dL_law_7 : decode cL_law 7 = .ok (.astore_n 1, 1) := by decide +kernel
theorem dL_law_8 : decode cL_law 8 = .ok (.new 10, 3) := by decide +kernel
theorem dL_law_11 : decode cL_law 11 = .ok (.dup, 1) := by decide +kernel
theorem dL_law_12 : decode cL_law 12 = .ok (.invokespecial 12, 3) := by decide +kernel
theorem dL_law_15 : decode cL_law 15 = .ok (.astore_n 2, 1) := by decide +kernel
theorem dL_law_16 : decode cL_law 16 = .ok (.iconst 0, 1) := by decide +kernel
theorem dL_law_17 : decode cL_law 17 = .ok (.istore_n 3, 1) := by decide +kernel
theorem dL_law_18 : decode cL_law 18 = .ok (.iload_n 3, 1) := by decide +kernel
theorem dL_law_19 : decode cL_law 19 = .ok (.aload_n 0, 1) := by decide +kernel
theorem dL_law_20 : decode cL_law 20 = .ok (.arraylength, 1) := by decide +kernel
theorem dL_law_21 : decode cL_law 21 = .ok (.bipush 6, 2) := by decide +kernel
theorem dL_law_23 : decode cL_law 23 = .ok (.isub, 1) := by decide +kernel
theorem dL_law_24 : decode cL_law 24 = .ok (.if_icmp .gt 1162, 3) := by decide +kernel
theorem dL_law_27 : decode cL_law 27 = .ok (.aload_n 0, 1) := by decide +kernel
theorem dL_law_28 : decode cL_law 28 = .ok (.iload_n 3, 1) := by decide +kernel
end
section
theorem dL_law_29 : decode cL_law 29 = .ok (.iaload, 1) := by decide +kernel
theorem dL_law_30 : decode cL_law 30 = .ok (.bipush 63, 2) := by decide +kernel
theorem dL_law_32 : decode cL_law 32 = .ok (.iand, 1) := by decide +kernel
theorem dL_law_33 : decode cL_law 33 = .ok (.tableswitch 1147 0 32 #[147, 190, 233, 296, 319, 342, 355, 368, 381, 414, 457, 480, 513, 546, 569, 582, 595, 638, 661, 704, 737, 790, 834, 867, 910, 953, 976, 999, 1022, 1055, 1088, 1111, 1134], 147) := by decide +kernel
theorem dL_law_180 : decode cL_law 180 = .ok (.aload_n 1, 1) := by decide +kernel
theorem dL_law_181 : decode cL_law 181 = .ok (.aload_n 0, 1) := by decide +kernel
theorem dL_law_182 : decode cL_law 182 = .ok (.iload_n 3, 1) := by decide +kernel
theorem dL_law_183 : decode cL_law 183 = .ok (.iconst 1, 1) := by decide +kernel
theorem dL_law_184 : decode cL_law 184 = .ok (.iadd, 1) := by decide +kernel
theorem dL_law_185 : decode cL_law 185 = .ok (.iaload, 1) := by decide +kernel
theorem dL_law_186 : decode cL_law 186 = .ok (.aload_n 0, 1) := by decide +kernel
theorem dL_law_187 : decode cL_law 187 = .ok (.iload_n 3, 1) := by decide +kernel
theorem dL_law_188 : decode cL_law 188 = .ok (.iconst 2, 1) := by decide +kernel
theorem dL_law_189 : decode cL_law 189 = .ok (.iadd, 1) := by decide +kernel
theorem dL_law_190 : decode cL_law 190 = .ok (.iaload, 1) := by decide +kernel
theorem dL_law_191 : decode cL_law 191 = .ok (.aload_n 0, 1) := by decide +kernel
theorem dL_law_192 : decode cL_law 192 = .ok (.iload_n 3, 1) := by decide +kernel
theorem dL_law_193 : decode cL_law 193 = .ok (.iconst 3, 1) := by decide +kernel
theorem dL_law_194 : decode cL_law 194 = .ok (.iadd, 1) := by decide +kernel
theorem dL_law_195 : decode cL_law 195 = .ok (.iaload, 1) := by decide +kernel
theorem dL_law_196 : decode cL_law 196 = .ok (.invokevirtual 13, 3) := by decide +kernel
theorem dL_law_199 : decode cL_law 199 = .ok (.aload_n 2, 1) := by decide +kernel
theorem dL_law_200 : decode cL_law 200 = .ok (.aload_n 0, 1) := by decide +kernel
theorem dL_law_201 : decode cL_law 201 = .ok (.iload_n 3, 1) := by decide +kernel
theorem dL_law_202 : decode cL_law 202 = .ok (.iconst 1, 1) := by decide +kernel
theorem dL_law_203 : decode cL_law 203 = .ok (.iadd, 1) := by decide +kernel
theorem dL_law_204 : decode cL_law 204 = .ok (.iaload, 1) := by decide +kernel
theorem dL_law_205 : decode cL_law 205 = .ok (.aload_n 0, 1) := by decide +kernel
theorem dL_law_206 : decode cL_law 206 = .ok (.iload_n 3, 1) := by decide +kernel
theorem dL_law_207 : decode cL_law 207 = .ok (.iconst 2, 1) := by decide +kernel
theorem dL_law_208 : decode cL_law 208 = .ok (.iadd, 1) := by decide +kernel
theorem dL_law_209 : decode cL_law 209 = .ok (.iaload, 1) := by decide +kernel
theorem dL_law_210 : decode cL_law 210 = .ok (.aload_n 0, 1) := by decide +kernel
theorem dL_law_211 : decode cL_law 211 = .ok (.iload_n 3, 1) := by decide +kernel
theorem dL_law_212 : decode cL_law 212 = .ok (.iconst 3, 1) := by decide +kernel
theorem dL_law_213 : decode cL_law 213 = .ok (.iadd, 1) := by decide +kernel
theorem dL_law_214 : decode cL_law 214 = .ok (.iaload, 1) := by decide +kernel
theorem dL_law_215 : decode cL_law 215 = .ok (.invokevirtual 17, 3) := by decide +kernel
theorem dL_law_218 : decode cL_law 218 = .ok (.if_icmp .eq 962, 3) := by decide +kernel
theorem dL_law_221 : decode cL_law 221 = .ok (.iconst 0, 1) := by decide +kernel
theorem dL_law_222 : decode cL_law 222 = .ok (.ireturn, 1) := by decide +kernel
theorem dL_law_223 : decode cL_law 223 = .ok (.aload_n 1, 1) := by decide +kernel
theorem dL_law_224 : decode cL_law 224 = .ok (.aload_n 0, 1) := by decide +kernel
theorem dL_law_225 : decode cL_law 225 = .ok (.iload_n 3, 1) := by decide +kernel
theorem dL_law_226 : decode cL_law 226 = .ok (.iconst 1, 1) := by decide +kernel
theorem dL_law_227 : decode cL_law 227 = .ok (.iadd, 1) := by decide +kernel
theorem dL_law_228 : decode cL_law 228 = .ok (.iaload, 1) := by decide +kernel
theorem dL_law_229 : decode cL_law 229 = .ok (.aload_n 0, 1) := by decide +kernel
theorem dL_law_230 : decode cL_law 230 = .ok (.iload_n 3, 1) := by decide +kernel
theorem dL_law_231 : decode cL_law 231 = .ok (.iconst 2, 1) := by decide +kernel
theorem dL_law_232 : decode cL_law 232 = .ok (.iadd, 1) := by decide +kernel
theorem dL_law_233 : decode cL_law 233 = .ok (.iaload, 1) := by decide +kernel
theorem dL_law_234 : decode cL_law 234 = .ok (.aload_n 0, 1) := by decide +kernel
theorem dL_law_235 : decode cL_law 235 = .ok (.iload_n 3, 1) := by decide +kernel
theorem dL_law_236 : decode cL_law 236 = .ok (.iconst 3, 1) := by decide +kernel
theorem dL_law_237 : decode cL_law 237 = .ok (.iadd, 1) := by decide +kernel
theorem dL_law_238 : decode cL_law 238 = .ok (.iaload, 1) := by decide +kernel
theorem dL_law_239 : decode cL_law 239 = .ok (.invokevirtual 18, 3) := by decide +kernel
theorem dL_law_242 : decode cL_law 242 = .ok (.aload_n 2, 1) := by decide +kernel
theorem dL_law_243 : decode cL_law 243 = .ok (.aload_n 0, 1) := by decide +kernel
theorem dL_law_244 : decode cL_law 244 = .ok (.iload_n 3, 1) := by decide +kernel
theorem dL_law_245 : decode cL_law 245 = .ok (.iconst 1, 1) := by decide +kernel
theorem dL_law_246 : decode cL_law 246 = .ok (.iadd, 1) := by decide +kernel
theorem dL_law_247 : decode cL_law 247 = .ok (.iaload, 1) := by decide +kernel
theorem dL_law_248 : decode cL_law 248 = .ok (.aload_n 0, 1) := by decide +kernel
theorem dL_law_249 : decode cL_law 249 = .ok (.iload_n 3, 1) := by decide +kernel
theorem dL_law_250 : decode cL_law 250 = .ok (.iconst 2, 1) := by decide +kernel
theorem dL_law_251 : decode cL_law 251 = .ok (.iadd, 1) := by decide +kernel
theorem dL_law_252 : decode cL_law 252 = .ok (.iaload, 1) := by decide +kernel
theorem dL_law_253 : decode cL_law 253 = .ok (.aload_n 0, 1) := by decide +kernel
theorem dL_law_254 : decode cL_law 254 = .ok (.iload_n 3, 1) := by decide +kernel
theorem dL_law_255 : decode cL_law 255 = .ok (.iconst 3, 1) := by decide +kernel
theorem dL_law_256 : decode cL_law 256 = .ok (.iadd, 1) := by decide +kernel
theorem dL_law_257 : decode cL_law 257 = .ok (.iaload, 1) := by decide +kernel
theorem dL_law_258 : decode cL_law 258 = .ok (.invokevirtual 21, 3) := by decide +kernel
theorem dL_law_261 : decode cL_law 261 = .ok (.if_icmp .eq 919, 3) := by decide +kernel
theorem dL_law_264 : decode cL_law 264 = .ok (.iconst 0, 1) := by decide +kernel
theorem dL_law_265 : decode cL_law 265 = .ok (.ireturn, 1) := by decide +kernel
theorem dL_law_266 : decode cL_law 266 = .ok (.aload_n 1, 1) := by decide +kernel
theorem dL_law_267 : decode cL_law 267 = .ok (.aload_n 0, 1) := by decide +kernel
theorem dL_law_268 : decode cL_law 268 = .ok (.iload_n 3, 1) := by decide +kernel
theorem dL_law_269 : decode cL_law 269 = .ok (.iconst 1, 1) := by decide +kernel
theorem dL_law_270 : decode cL_law 270 = .ok (.iadd, 1) := by decide +kernel
theorem dL_law_271 : decode cL_law 271 = .ok (.iaload, 1) := by decide +kernel
theorem dL_law_272 : decode cL_law 272 = .ok (.aload_n 0, 1) := by decide +kernel
theorem dL_law_273 : decode cL_law 273 = .ok (.iload_n 3, 1) := by decide +kernel
theorem dL_law_274 : decode cL_law 274 = .ok (.iconst 2, 1) := by decide +kernel
theorem dL_law_275 : decode cL_law 275 = .ok (.iadd, 1) := by decide +kernel
theorem dL_law_276 : decode cL_law 276 = .ok (.iaload, 1) := by decide +kernel
theorem dL_law_277 : decode cL_law 277 = .ok (.aload_n 0, 1) := by decide +kernel
theorem dL_law_278 : decode cL_law 278 = .ok (.iload_n 3, 1) := by decide +kernel
theorem dL_law_279 : decode cL_law 279 = .ok (.iconst 3, 1) := by decide +kernel
theorem dL_law_280 : decode cL_law 280 = .ok (.iadd, 1) := by decide +kernel
theorem dL_law_281 : decode cL_law 281 = .ok (.iaload, 1) := by decide +kernel
theorem dL_law_282 : decode cL_law 282 = .ok (.aload_n 0, 1) := by decide +kernel
theorem dL_law_283 : decode cL_law 283 = .ok (.iload_n 3, 1) := by decide +kernel
theorem dL_law_284 : decode cL_law 284 = .ok (.iconst 4, 1) := by decide +kernel
theorem dL_law_285 : decode cL_law 285 = .ok (.iadd, 1) := by decide +kernel
theorem dL_law_286 : decode cL_law 286 = .ok (.iaload, 1) := by decide +kernel
theorem dL_law_287 : decode cL_law 287 = .ok (.aload_n 0, 1) := by decide +kernel
theorem dL_law_288 : decode cL_law 288 = .ok (.iload_n 3, 1) := by decide +kernel
theorem dL_law_289 : decode cL_law 289 = .ok (.iconst 5, 1) := by decide +kernel
theorem dL_law_290 : decode cL_law 290 = .ok (.iadd, 1) := by decide +kernel
theorem dL_law_291 : decode cL_law 291 = .ok (.iaload, 1) := by decide +kernel
theorem dL_law_292 : decode cL_law 292 = .ok (.invokevirtual 22, 3) := by decide +kernel
theorem dL_law_295 : decode cL_law 295 = .ok (.aload_n 2, 1) := by decide +kernel
theorem dL_law_296 : decode cL_law 296 = .ok (.aload_n 0, 1) := by decide +kernel
theorem dL_law_297 : decode cL_law 297 = .ok (.iload_n 3, 1) := by decide +kernel
theorem dL_law_298 : decode cL_law 298 = .ok (.iconst 1, 1) := by decide +kernel
theorem dL_law_299 : decode cL_law 299 = .ok (.iadd, 1) := by decide +kernel
theorem dL_law_300 : decode cL_law 300 = .ok (.iaload, 1) := by decide +kernel
theorem dL_law_301 : decode cL_law 301 = .ok (.aload_n 0, 1) := by decide +kernel
theorem dL_law_302 : decode cL_law 302 = .ok (.iload_n 3, 1) := by decide +kernel
theorem dL_law_303 : decode cL_law 303 = .ok (.iconst 2, 1) := by decide +kernel
theorem dL_law_304 : decode cL_law 304 = .ok (.iadd, 1) := by decide +kernel
theorem dL_law_305 : decode cL_law 305 = .ok (.iaload, 1) := by decide +kernel
theorem dL_law_306 : decode cL_law 306 = .ok (.aload_n 0, 1) := by decide +kernel
theorem dL_law_307 : decode cL_law 307 = .ok (.iload_n 3, 1) := by decide +kernel
theorem dL_law_308 : decode cL_law 308 = .ok (.iconst 3, 1) := by decide +kernel
theorem dL_law_309 : decode cL_law 309 = .ok (.iadd, 1) := by decide +kernel
theorem dL_law_310 : decode cL_law 310 = .ok (.iaload, 1) := by decide +kernel
theorem dL_law_311 : decode cL_law 311 = .ok (.aload_n 0, 1) := by decide +kernel
theorem dL_law_312 : decode cL_law 312 = .ok (.iload_n 3, 1) := by decide +kernel
theorem dL_law_313 : decode cL_law 313 = .ok (.iconst 4, 1) := by decide +kernel
theorem dL_law_314 : decode cL_law 314 = .ok (.iadd, 1) := by decide +kernel
theorem dL_law_315 : decode cL_law 315 = .ok (.iaload, 1) := by decide +kernel
theorem dL_law_316 : decode cL_law 316 = .ok (.aload_n 0, 1) := by decide +kernel
theorem dL_law_317 : decode cL_law 317 = .ok (.iload_n 3, 1) := by decide +kernel
theorem dL_law_318 : decode cL_law 318 = .ok (.iconst 5, 1) := by decide +kernel
theorem dL_law_319 : decode cL_law 319 = .ok (.iadd, 1) := by decide +kernel
theorem dL_law_320 : decode cL_law 320 = .ok (.iaload, 1) := by decide +kernel
theorem dL_law_321 : decode cL_law 321 = .ok (.invokevirtual 26, 3) := by decide +kernel
theorem dL_law_324 : decode cL_law 324 = .ok (.if_icmp .eq 856, 3) := by decide +kernel
theorem dL_law_327 : decode cL_law 327 = .ok (.iconst 0, 1) := by decide +kernel
theorem dL_law_328 : decode cL_law 328 = .ok (.ireturn, 1) := by decide +kernel
theorem dL_law_329 : decode cL_law 329 = .ok (.aload_n 1, 1) := by decide +kernel
theorem dL_law_330 : decode cL_law 330 = .ok (.aload_n 0, 1) := by decide +kernel
theorem dL_law_331 : decode cL_law 331 = .ok (.iload_n 3, 1) := by decide +kernel
theorem dL_law_332 : decode cL_law 332 = .ok (.iconst 1, 1) := by decide +kernel
theorem dL_law_333 : decode cL_law 333 = .ok (.iadd, 1) := by decide +kernel
theorem dL_law_334 : decode cL_law 334 = .ok (.iaload, 1) := by decide +kernel
theorem dL_law_335 : decode cL_law 335 = .ok (.invokevirtual 27, 3) := by decide +kernel
theorem dL_law_338 : decode cL_law 338 = .ok (.aload_n 2, 1) := by decide +kernel
theorem dL_law_339 : decode cL_law 339 = .ok (.aload_n 0, 1) := by decide +kernel
theorem dL_law_340 : decode cL_law 340 = .ok (.iload_n 3, 1) := by decide +kernel
theorem dL_law_341 : decode cL_law 341 = .ok (.iconst 1, 1) := by decide +kernel
theorem dL_law_342 : decode cL_law 342 = .ok (.iadd, 1) := by decide +kernel
theorem dL_law_343 : decode cL_law 343 = .ok (.iaload, 1) := by decide +kernel
theorem dL_law_344 : decode cL_law 344 = .ok (.invokevirtual 31, 3) := by decide +kernel
theorem dL_law_347 : decode cL_law 347 = .ok (.if_icmp .eq 833, 3) := by decide +kernel
theorem dL_law_350 : decode cL_law 350 = .ok (.iconst 0, 1) := by decide +kernel
theorem dL_law_351 : decode cL_law 351 = .ok (.ireturn, 1) := by decide +kernel
theorem dL_law_352 : decode cL_law 352 = .ok (.aload_n 1, 1) := by decide +kernel
theorem dL_law_353 : decode cL_law 353 = .ok (.aload_n 0, 1) := by decide +kernel
theorem dL_law_354 : decode cL_law 354 = .ok (.iload_n 3, 1) := by decide +kernel
theorem dL_law_355 : decode cL_law 355 = .ok (.iconst 1, 1) := by decide +kernel
theorem dL_law_356 : decode cL_law 356 = .ok (.iadd, 1) := by decide +kernel
theorem dL_law_357 : decode cL_law 357 = .ok (.iaload, 1) := by decide +kernel
theorem dL_law_358 : decode cL_law 358 = .ok (.invokevirtual 32, 3) := by decide +kernel
theorem dL_law_361 : decode cL_law 361 = .ok (.aload_n 2, 1) := by decide +kernel
theorem dL_law_362 : decode cL_law 362 = .ok (.aload_n 0, 1) := by decide +kernel
theorem dL_law_363 : decode cL_law 363 = .ok (.iload_n 3, 1) := by decide +kernel
theorem dL_law_364 : decode cL_law 364 = .ok (.iconst 1, 1) := by decide +kernel
theorem dL_law_365 : decode cL_law 365 = .ok (.iadd, 1) := by decide +kernel
theorem dL_law_366 : decode cL_law 366 = .ok (.iaload, 1) := by decide +kernel
theorem dL_law_367 : decode cL_law 367 = .ok (.invokevirtual 35, 3) := by decide +kernel
theorem dL_law_370 : decode cL_law 370 = .ok (.if_icmp .eq 810, 3) := by decide +kernel
theorem dL_law_373 : decode cL_law 373 = .ok (.iconst 0, 1) := by decide +kernel
theorem dL_law_374 : decode cL_law 374 = .ok (.ireturn, 1) := by decide +kernel
theorem dL_law_375 : decode cL_law 375 = .ok (.aload_n 1, 1) := by decide +kernel
theorem dL_law_376 : decode cL_law 376 = .ok (.invokevirtual 36, 3) := by decide +kernel
theorem dL_law_379 : decode cL_law 379 = .ok (.aload_n 2, 1) := by decide +kernel
theorem dL_law_380 : decode cL_law 380 = .ok (.invokevirtual 40, 3) := by decide +kernel
theorem dL_law_383 : decode cL_law 383 = .ok (.if_icmp .eq 797, 3) := by decide +kernel
theorem dL_law_386 : decode cL_law 386 = .ok (.iconst 0, 1) := by decide +kernel
theorem dL_law_387 : decode cL_law 387 = .ok (.ireturn, 1) := by decide +kernel
theorem dL_law_388 : decode cL_law 388 = .ok (.aload_n 1, 1) := by decide +kernel
theorem dL_law_389 : decode cL_law 389 = .ok (.invokevirtual 41, 3) := by decide +kernel
theorem dL_law_392 : decode cL_law 392 = .ok (.aload_n 2, 1) := by decide +kernel
theorem dL_law_393 : decode cL_law 393 = .ok (.invokevirtual 44, 3) := by decide +kernel
theorem dL_law_396 : decode cL_law 396 = .ok (.if_icmp .eq 784, 3) := by decide +kernel
theorem dL_law_399 : decode cL_law 399 = .ok (.iconst 0, 1) := by decide +kernel
theorem dL_law_400 : decode cL_law 400 = .ok (.ireturn, 1) := by decide +kernel
theorem dL_law_401 : decode cL_law 401 = .ok (.aload_n 1, 1) := by decide +kernel
theorem dL_law_402 : decode cL_law 402 = .ok (.invokevirtual 45, 3) := by decide +kernel
theorem dL_law_405 : decode cL_law 405 = .ok (.aload_n 2, 1) := by decide +kernel
theorem dL_law_406 : decode cL_law 406 = .ok (.invokevirtual 48, 3) := by decide +kernel
theorem dL_law_409 : decode cL_law 409 = .ok (.if_icmp .eq 771, 3) := by decide +kernel
theorem dL_law_412 : decode cL_law 412 = .ok (.iconst 0, 1) := by decide +kernel
theorem dL_law_413 : decode cL_law 413 = .ok (.ireturn, 1) := by decide +kernel
theorem dL_law_414 : decode cL_law 414 = .ok (.aload_n 1, 1) := by decide +kernel
theorem dL_law_415 : decode cL_law 415 = .ok (.aload_n 0, 1) := by decide +kernel
theorem dL_law_416 : decode cL_law 416 = .ok (.iload_n 3, 1) := by decide +kernel
theorem dL_law_417 : decode cL_law 417 = .ok (.iconst 1, 1) := by decide +kernel
theorem dL_law_418 : decode cL_law 418 = .ok (.iadd, 1) := by decide +kernel
theorem dL_law_419 : decode cL_law 419 = .ok (.iaload, 1) := by decide +kernel
theorem dL_law_420 : decode cL_law 420 = .ok (.aload_n 0, 1) := by decide +kernel
theorem dL_law_421 : decode cL_law 421 = .ok (.iload_n 3, 1) := by decide +kernel
theorem dL_law_422 : decode cL_law 422 = .ok (.iconst 2, 1) := by decide +kernel
theorem dL_law_423 : decode cL_law 423 = .ok (.iadd, 1) := by decide +kernel
theorem dL_law_424 : decode cL_law 424 = .ok (.iaload, 1) := by decide +kernel
theorem dL_law_425 : decode cL_law 425 = .ok (.invokevirtual 49, 3) := by decide +kernel
theorem dL_law_428 : decode cL_law 428 = .ok (.aload_n 2, 1) := by decide +kernel
theorem dL_law_429 : decode cL_law 429 = .ok (.aload_n 0, 1) := by decide +kernel
theorem dL_law_430 : decode cL_law 430 = .ok (.iload_n 3, 1) := by decide +kernel
theorem dL_law_431 : decode cL_law 431 = .ok (.iconst 1, 1) := by decide +kernel
theorem dL_law_432 : decode cL_law 432 = .ok (.iadd, 1) := by decide +kernel
theorem dL_law_433 : decode cL_law 433 = .ok (.iaload, 1) := by decide +kernel
theorem dL_law_434 : decode cL_law 434 = .ok (.aload_n 0, 1) := by decide +kernel
theorem dL_law_435 : decode cL_law 435 = .ok (.iload_n 3, 1) := by decide +kernel
theorem dL_law_436 : decode cL_law 436 = .ok (.iconst 2, 1) := by decide +kernel
theorem dL_law_437 : decode cL_law 437 = .ok (.iadd, 1) := by decide +kernel
theorem dL_law_438 : decode cL_law 438 = .ok (.iaload, 1) := by decide +kernel
theorem dL_law_439 : decode cL_law 439 = .ok (.invokevirtual 53, 3) := by decide +kernel
theorem dL_law_442 : decode cL_law 442 = .ok (.if_icmp .eq 738, 3) := by decide +kernel
theorem dL_law_445 : decode cL_law 445 = .ok (.iconst 0, 1) := by decide +kernel
theorem dL_law_446 : decode cL_law 446 = .ok (.ireturn, 1) := by decide +kernel
theorem dL_law_447 : decode cL_law 447 = .ok (.aload_n 1, 1) := by decide +kernel
theorem dL_law_448 : decode cL_law 448 = .ok (.aload_n 0, 1) := by decide +kernel
theorem dL_law_449 : decode cL_law 449 = .ok (.iload_n 3, 1) := by decide +kernel
theorem dL_law_450 : decode cL_law 450 = .ok (.iconst 1, 1) := by decide +kernel
theorem dL_law_451 : decode cL_law 451 = .ok (.iadd, 1) := by decide +kernel
theorem dL_law_452 : decode cL_law 452 = .ok (.iaload, 1) := by decide +kernel
theorem dL_law_453 : decode cL_law 453 = .ok (.aload_n 0, 1) := by decide +kernel
theorem dL_law_454 : decode cL_law 454 = .ok (.iload_n 3, 1) := by decide +kernel
theorem dL_law_455 : decode cL_law 455 = .ok (.iconst 2, 1) := by decide +kernel
theorem dL_law_456 : decode cL_law 456 = .ok (.iadd, 1) := by decide +kernel
theorem dL_law_457 : decode cL_law 457 = .ok (.iaload, 1) := by decide +kernel
theorem dL_law_458 : decode cL_law 458 = .ok (.aload_n 0, 1) := by decide +kernel
theorem dL_law_459 : decode cL_law 459 = .ok (.iload_n 3, 1) := by decide +kernel
theorem dL_law_460 : decode cL_law 460 = .ok (.iconst 3, 1) := by decide +kernel
theorem dL_law_461 : decode cL_law 461 = .ok (.iadd, 1) := by decide +kernel
theorem dL_law_462 : decode cL_law 462 = .ok (.iaload, 1) := by decide +kernel
theorem dL_law_463 : decode cL_law 463 = .ok (.invokevirtual 54, 3) := by decide +kernel
theorem dL_law_466 : decode cL_law 466 = .ok (.aload_n 2, 1) := by decide +kernel
theorem dL_law_467 : decode cL_law 467 = .ok (.aload_n 0, 1) := by decide +kernel
theorem dL_law_468 : decode cL_law 468 = .ok (.iload_n 3, 1) := by decide +kernel
theorem dL_law_469 : decode cL_law 469 = .ok (.iconst 1, 1) := by decide +kernel
theorem dL_law_470 : decode cL_law 470 = .ok (.iadd, 1) := by decide +kernel
theorem dL_law_471 : decode cL_law 471 = .ok (.iaload, 1) := by decide +kernel
theorem dL_law_472 : decode cL_law 472 = .ok (.aload_n 0, 1) := by decide +kernel
theorem dL_law_473 : decode cL_law 473 = .ok (.iload_n 3, 1) := by decide +kernel
theorem dL_law_474 : decode cL_law 474 = .ok (.iconst 2, 1) := by decide +kernel
theorem dL_law_475 : decode cL_law 475 = .ok (.iadd, 1) := by decide +kernel
theorem dL_law_476 : decode cL_law 476 = .ok (.iaload, 1) := by decide +kernel
theorem dL_law_477 : decode cL_law 477 = .ok (.aload_n 0, 1) := by decide +kernel
theorem dL_law_478 : decode cL_law 478 = .ok (.iload_n 3, 1) := by decide +kernel
theorem dL_law_479 : decode cL_law 479 = .ok (.iconst 3, 1) := by decide +kernel
theorem dL_law_480 : decode cL_law 480 = .ok (.iadd, 1) := by decide +kernel
theorem dL_law_481 : decode cL_law 481 = .ok (.iaload, 1) := by decide +kernel
theorem dL_law_482 : decode cL_law 482 = .ok (.invokevirtual 57, 3) := by decide +kernel
theorem dL_law_485 : decode cL_law 485 = .ok (.if_icmp .eq 695, 3) := by decide +kernel
theorem dL_law_488 : decode cL_law 488 = .ok (.iconst 0, 1) := by decide +kernel
theorem dL_law_489 : decode cL_law 489 = .ok (.ireturn, 1) := by decide +kernel
theorem dL_law_490 : decode cL_law 490 = .ok (.aload_n 1, 1) := by decide +kernel
theorem dL_law_491 : decode cL_law 491 = .ok (.aload_n 0, 1) := by decide +kernel
theorem dL_law_492 : decode cL_law 492 = .ok (.iload_n 3, 1) := by decide +kernel
theorem dL_law_493 : decode cL_law 493 = .ok (.iconst 1, 1) := by decide +kernel
theorem dL_law_494 : decode cL_law 494 = .ok (.iadd, 1) := by decide +kernel
theorem dL_law_495 : decode cL_law 495 = .ok (.iaload, 1) := by decide +kernel
theorem dL_law_496 : decode cL_law 496 = .ok (.invokevirtual 58, 3) := by decide +kernel
theorem dL_law_499 : decode cL_law 499 = .ok (.aload_n 2, 1) := by decide +kernel
theorem dL_law_500 : decode cL_law 500 = .ok (.aload_n 0, 1) := by decide +kernel
theorem dL_law_501 : decode cL_law 501 = .ok (.iload_n 3, 1) := by decide +kernel
theorem dL_law_502 : decode cL_law 502 = .ok (.iconst 1, 1) := by decide +kernel
theorem dL_law_503 : decode cL_law 503 = .ok (.iadd, 1) := by decide +kernel
theorem dL_law_504 : decode cL_law 504 = .ok (.iaload, 1) := by decide +kernel
theorem dL_law_505 : decode cL_law 505 = .ok (.invokevirtual 61, 3) := by decide +kernel
theorem dL_law_508 : decode cL_law 508 = .ok (.if_icmp .eq 672, 3) := by decide +kernel
theorem dL_law_511 : decode cL_law 511 = .ok (.iconst 0, 1) := by decide +kernel
theorem dL_law_512 : decode cL_law 512 = .ok (.ireturn, 1) := by decide +kernel
theorem dL_law_513 : decode cL_law 513 = .ok (.aload_n 1, 1) := by decide +kernel
theorem dL_law_514 : decode cL_law 514 = .ok (.aload_n 0, 1) := by decide +kernel
theorem dL_law_515 : decode cL_law 515 = .ok (.iload_n 3, 1) := by decide +kernel
theorem dL_law_516 : decode cL_law 516 = .ok (.iconst 1, 1) := by decide +kernel
theorem dL_law_517 : decode cL_law 517 = .ok (.iadd, 1) := by decide +kernel
theorem dL_law_518 : decode cL_law 518 = .ok (.iaload, 1) := by decide +kernel
theorem dL_law_519 : decode cL_law 519 = .ok (.aload_n 0, 1) := by decide +kernel
theorem dL_law_520 : decode cL_law 520 = .ok (.iload_n 3, 1) := by decide +kernel
theorem dL_law_521 : decode cL_law 521 = .ok (.iconst 2, 1) := by decide +kernel
theorem dL_law_522 : decode cL_law 522 = .ok (.iadd, 1) := by decide +kernel
theorem dL_law_523 : decode cL_law 523 = .ok (.iaload, 1) := by decide +kernel
theorem dL_law_524 : decode cL_law 524 = .ok (.invokevirtual 62, 3) := by decide +kernel
theorem dL_law_527 : decode cL_law 527 = .ok (.aload_n 2, 1) := by decide +kernel
theorem dL_law_528 : decode cL_law 528 = .ok (.aload_n 0, 1) := by decide +kernel
theorem dL_law_529 : decode cL_law 529 = .ok (.iload_n 3, 1) := by decide +kernel
theorem dL_law_530 : decode cL_law 530 = .ok (.iconst 1, 1) := by decide +kernel
theorem dL_law_531 : decode cL_law 531 = .ok (.iadd, 1) := by decide +kernel
theorem dL_law_532 : decode cL_law 532 = .ok (.iaload, 1) := by decide +kernel
theorem dL_law_533 : decode cL_law 533 = .ok (.aload_n 0, 1) := by decide +kernel
theorem dL_law_534 : decode cL_law 534 = .ok (.iload_n 3, 1) := by decide +kernel
theorem dL_law_535 : decode cL_law 535 = .ok (.iconst 2, 1) := by decide +kernel
theorem dL_law_536 : decode cL_law 536 = .ok (.iadd, 1) := by decide +kernel
theorem dL_law_537 : decode cL_law 537 = .ok (.iaload, 1) := by decide +kernel
theorem dL_law_538 : decode cL_law 538 = .ok (.invokevirtual 65, 3) := by decide +kernel
theorem dL_law_541 : decode cL_law 541 = .ok (.if_icmp .eq 639, 3) := by decide +kernel
theorem dL_law_544 : decode cL_law 544 = .ok (.iconst 0, 1) := by decide +kernel
theorem dL_law_545 : decode cL_law 545 = .ok (.ireturn, 1) := by decide +kernel
theorem dL_law_546 : decode cL_law 546 = .ok (.aload_n 1, 1) := by decide +kernel
theorem dL_law_547 : decode cL_law 547 = .ok (.aload_n 0, 1) := by decide +kernel
theorem dL_law_548 : decode cL_law 548 = .ok (.iload_n 3, 1) := by decide +kernel
theorem dL_law_549 : decode cL_law 549 = .ok (.iconst 1, 1) := by decide +kernel
theorem dL_law_550 : decode cL_law 550 = .ok (.iadd, 1) := by decide +kernel
theorem dL_law_551 : decode cL_law 551 = .ok (.iaload, 1) := by decide +kernel
theorem dL_law_552 : decode cL_law 552 = .ok (.aload_n 0, 1) := by decide +kernel
theorem dL_law_553 : decode cL_law 553 = .ok (.iload_n 3, 1) := by decide +kernel
theorem dL_law_554 : decode cL_law 554 = .ok (.iconst 2, 1) := by decide +kernel
theorem dL_law_555 : decode cL_law 555 = .ok (.iadd, 1) := by decide +kernel
theorem dL_law_556 : decode cL_law 556 = .ok (.iaload, 1) := by decide +kernel
theorem dL_law_557 : decode cL_law 557 = .ok (.invokevirtual 66, 3) := by decide +kernel
theorem dL_law_560 : decode cL_law 560 = .ok (.aload_n 2, 1) := by decide +kernel
theorem dL_law_561 : decode cL_law 561 = .ok (.aload_n 0, 1) := by decide +kernel
theorem dL_law_562 : decode cL_law 562 = .ok (.iload_n 3, 1) := by decide +kernel
theorem dL_law_563 : decode cL_law 563 = .ok (.iconst 1, 1) := by decide +kernel
theorem dL_law_564 : decode cL_law 564 = .ok (.iadd, 1) := by decide +kernel
theorem dL_law_565 : decode cL_law 565 = .ok (.iaload, 1) := by decide +kernel
theorem dL_law_566 : decode cL_law 566 = .ok (.aload_n 0, 1) := by decide +kernel
theorem dL_law_567 : decode cL_law 567 = .ok (.iload_n 3, 1) := by decide +kernel
theorem dL_law_568 : decode cL_law 568 = .ok (.iconst 2, 1) := by decide +kernel
theorem dL_law_569 : decode cL_law 569 = .ok (.iadd, 1) := by decide +kernel
theorem dL_law_570 : decode cL_law 570 = .ok (.iaload, 1) := by decide +kernel
theorem dL_law_571 : decode cL_law 571 = .ok (.invokevirtual 69, 3) := by decide +kernel
theorem dL_law_574 : decode cL_law 574 = .ok (.if_icmp .eq 606, 3) := by decide +kernel
theorem dL_law_577 : decode cL_law 577 = .ok (.iconst 0, 1) := by decide +kernel
theorem dL_law_578 : decode cL_law 578 = .ok (.ireturn, 1) := by decide +kernel
theorem dL_law_579 : decode cL_law 579 = .ok (.aload_n 1, 1) := by decide +kernel
theorem dL_law_580 : decode cL_law 580 = .ok (.aload_n 0, 1) := by decide +kernel
theorem dL_law_581 : decode cL_law 581 = .ok (.iload_n 3, 1) := by decide +kernel
theorem dL_law_582 : decode cL_law 582 = .ok (.iconst 1, 1) := by decide +kernel
theorem dL_law_583 : decode cL_law 583 = .ok (.iadd, 1) := by decide +kernel
theorem dL_law_584 : decode cL_law 584 = .ok (.iaload, 1) := by decide +kernel
theorem dL_law_585 : decode cL_law 585 = .ok (.invokevirtual 70, 3) := by decide +kernel
theorem dL_law_588 : decode cL_law 588 = .ok (.aload_n 2, 1) := by decide +kernel
theorem dL_law_589 : decode cL_law 589 = .ok (.aload_n 0, 1) := by decide +kernel
theorem dL_law_590 : decode cL_law 590 = .ok (.iload_n 3, 1) := by decide +kernel
theorem dL_law_591 : decode cL_law 591 = .ok (.iconst 1, 1) := by decide +kernel
theorem dL_law_592 : decode cL_law 592 = .ok (.iadd, 1) := by decide +kernel
theorem dL_law_593 : decode cL_law 593 = .ok (.iaload, 1) := by decide +kernel
theorem dL_law_594 : decode cL_law 594 = .ok (.invokevirtual 73, 3) := by decide +kernel
theorem dL_law_597 : decode cL_law 597 = .ok (.if_icmp .eq 583, 3) := by decide +kernel
theorem dL_law_600 : decode cL_law 600 = .ok (.iconst 0, 1) := by decide +kernel
theorem dL_law_601 : decode cL_law 601 = .ok (.ireturn, 1) := by decide +kernel
theorem dL_law_602 : decode cL_law 602 = .ok (.aload_n 1, 1) := by decide +kernel
theorem dL_law_603 : decode cL_law 603 = .ok (.invokevirtual 74, 3) := by decide +kernel
theorem dL_law_606 : decode cL_law 606 = .ok (.aload_n 2, 1) := by decide +kernel
theorem dL_law_607 : decode cL_law 607 = .ok (.invokevirtual 77, 3) := by decide +kernel
theorem dL_law_610 : decode cL_law 610 = .ok (.if_icmp .eq 570, 3) := by decide +kernel
theorem dL_law_613 : decode cL_law 613 = .ok (.iconst 0, 1) := by decide +kernel
theorem dL_law_614 : decode cL_law 614 = .ok (.ireturn, 1) := by decide +kernel
theorem dL_law_615 : decode cL_law 615 = .ok (.aload_n 1, 1) := by decide +kernel
theorem dL_law_616 : decode cL_law 616 = .ok (.invokevirtual 78, 3) := by decide +kernel
theorem dL_law_619 : decode cL_law 619 = .ok (.aload_n 2, 1) := by decide +kernel
theorem dL_law_620 : decode cL_law 620 = .ok (.invokevirtual 81, 3) := by decide +kernel
theorem dL_law_623 : decode cL_law 623 = .ok (.if_icmp .eq 557, 3) := by decide +kernel
theorem dL_law_626 : decode cL_law 626 = .ok (.iconst 0, 1) := by decide +kernel
theorem dL_law_627 : decode cL_law 627 = .ok (.ireturn, 1) := by decide +kernel
theorem dL_law_628 : decode cL_law 628 = .ok (.aload_n 1, 1) := by decide +kernel
theorem dL_law_629 : decode cL_law 629 = .ok (.aload_n 0, 1) := by decide +kernel
theorem dL_law_630 : decode cL_law 630 = .ok (.iload_n 3, 1) := by decide +kernel
theorem dL_law_631 : decode cL_law 631 = .ok (.iconst 1, 1) := by decide +kernel
theorem dL_law_632 : decode cL_law 632 = .ok (.iadd, 1) := by decide +kernel
theorem dL_law_633 : decode cL_law 633 = .ok (.iaload, 1) := by decide +kernel
theorem dL_law_634 : decode cL_law 634 = .ok (.aload_n 0, 1) := by decide +kernel
theorem dL_law_635 : decode cL_law 635 = .ok (.iload_n 3, 1) := by decide +kernel
theorem dL_law_636 : decode cL_law 636 = .ok (.iconst 2, 1) := by decide +kernel
theorem dL_law_637 : decode cL_law 637 = .ok (.iadd, 1) := by decide +kernel
theorem dL_law_638 : decode cL_law 638 = .ok (.iaload, 1) := by decide +kernel
theorem dL_law_639 : decode cL_law 639 = .ok (.aload_n 0, 1) := by decide +kernel
theorem dL_law_640 : decode cL_law 640 = .ok (.iload_n 3, 1) := by decide +kernel
theorem dL_law_641 : decode cL_law 641 = .ok (.iconst 3, 1) := by decide +kernel
theorem dL_law_642 : decode cL_law 642 = .ok (.iadd, 1) := by decide +kernel
theorem dL_law_643 : decode cL_law 643 = .ok (.iaload, 1) := by decide +kernel
theorem dL_law_644 : decode cL_law 644 = .ok (.invokevirtual 82, 3) := by decide +kernel
theorem dL_law_647 : decode cL_law 647 = .ok (.aload_n 2, 1) := by decide +kernel
theorem dL_law_648 : decode cL_law 648 = .ok (.aload_n 0, 1) := by decide +kernel
theorem dL_law_649 : decode cL_law 649 = .ok (.iload_n 3, 1) := by decide +kernel
theorem dL_law_650 : decode cL_law 650 = .ok (.iconst 1, 1) := by decide +kernel
theorem dL_law_651 : decode cL_law 651 = .ok (.iadd, 1) := by decide +kernel
theorem dL_law_652 : decode cL_law 652 = .ok (.iaload, 1) := by decide +kernel
theorem dL_law_653 : decode cL_law 653 = .ok (.aload_n 0, 1) := by decide +kernel
theorem dL_law_654 : decode cL_law 654 = .ok (.iload_n 3, 1) := by decide +kernel
theorem dL_law_655 : decode cL_law 655 = .ok (.iconst 2, 1) := by decide +kernel
theorem dL_law_656 : decode cL_law 656 = .ok (.iadd, 1) := by decide +kernel
theorem dL_law_657 : decode cL_law 657 = .ok (.iaload, 1) := by decide +kernel
theorem dL_law_658 : decode cL_law 658 = .ok (.aload_n 0, 1) := by decide +kernel
theorem dL_law_659 : decode cL_law 659 = .ok (.iload_n 3, 1) := by decide +kernel
theorem dL_law_660 : decode cL_law 660 = .ok (.iconst 3, 1) := by decide +kernel
theorem dL_law_661 : decode cL_law 661 = .ok (.iadd, 1) := by decide +kernel
theorem dL_law_662 : decode cL_law 662 = .ok (.iaload, 1) := by decide +kernel
theorem dL_law_663 : decode cL_law 663 = .ok (.invokevirtual 85, 3) := by decide +kernel
theorem dL_law_666 : decode cL_law 666 = .ok (.if_icmp .eq 514, 3) := by decide +kernel
theorem dL_law_669 : decode cL_law 669 = .ok (.iconst 0, 1) := by decide +kernel
theorem dL_law_670 : decode cL_law 670 = .ok (.ireturn, 1) := by decide +kernel
theorem dL_law_671 : decode cL_law 671 = .ok (.aload_n 1, 1) := by decide +kernel
theorem dL_law_672 : decode cL_law 672 = .ok (.aload_n 0, 1) := by decide +kernel
theorem dL_law_673 : decode cL_law 673 = .ok (.iload_n 3, 1) := by decide +kernel
theorem dL_law_674 : decode cL_law 674 = .ok (.iconst 1, 1) := by decide +kernel
theorem dL_law_675 : decode cL_law 675 = .ok (.iadd, 1) := by decide +kernel
theorem dL_law_676 : decode cL_law 676 = .ok (.iaload, 1) := by decide +kernel
theorem dL_law_677 : decode cL_law 677 = .ok (.invokevirtual 86, 3) := by decide +kernel
theorem dL_law_680 : decode cL_law 680 = .ok (.aload_n 2, 1) := by decide +kernel
theorem dL_law_681 : decode cL_law 681 = .ok (.aload_n 0, 1) := by decide +kernel
theorem dL_law_682 : decode cL_law 682 = .ok (.iload_n 3, 1) := by decide +kernel
theorem dL_law_683 : decode cL_law 683 = .ok (.iconst 1, 1) := by decide +kernel
theorem dL_law_684 : decode cL_law 684 = .ok (.iadd, 1) := by decide +kernel
theorem dL_law_685 : decode cL_law 685 = .ok (.iaload, 1) := by decide +kernel
theorem dL_law_686 : decode cL_law 686 = .ok (.invokevirtual 89, 3) := by decide +kernel
theorem dL_law_689 : decode cL_law 689 = .ok (.if_icmp .eq 491, 3) := by decide +kernel
theorem dL_law_692 : decode cL_law 692 = .ok (.iconst 0, 1) := by decide +kernel
theorem dL_law_693 : decode cL_law 693 = .ok (.ireturn, 1) := by decide +kernel
theorem dL_law_694 : decode cL_law 694 = .ok (.aload_n 1, 1) := by decide +kernel
theorem dL_law_695 : decode cL_law 695 = .ok (.aload_n 0, 1) := by decide +kernel
theorem dL_law_696 : decode cL_law 696 = .ok (.iload_n 3, 1) := by decide +kernel
theorem dL_law_697 : decode cL_law 697 = .ok (.iconst 1, 1) := by decide +kernel
theorem dL_law_698 : decode cL_law 698 = .ok (.iadd, 1) := by decide +kernel
theorem dL_law_699 : decode cL_law 699 = .ok (.iaload, 1) := by decide +kernel
theorem dL_law_700 : decode cL_law 700 = .ok (.aload_n 0, 1) := by decide +kernel
theorem dL_law_701 : decode cL_law 701 = .ok (.iload_n 3, 1) := by decide +kernel
theorem dL_law_702 : decode cL_law 702 = .ok (.iconst 2, 1) := by decide +kernel
theorem dL_law_703 : decode cL_law 703 = .ok (.iadd, 1) := by decide +kernel
theorem dL_law_704 : decode cL_law 704 = .ok (.iaload, 1) := by decide +kernel
theorem dL_law_705 : decode cL_law 705 = .ok (.aload_n 0, 1) := by decide +kernel
theorem dL_law_706 : decode cL_law 706 = .ok (.iload_n 3, 1) := by decide +kernel
theorem dL_law_707 : decode cL_law 707 = .ok (.iconst 3, 1) := by decide +kernel
theorem dL_law_708 : decode cL_law 708 = .ok (.iadd, 1) := by decide +kernel
theorem dL_law_709 : decode cL_law 709 = .ok (.iaload, 1) := by decide +kernel
theorem dL_law_710 : decode cL_law 710 = .ok (.invokevirtual 90, 3) := by decide +kernel
theorem dL_law_713 : decode cL_law 713 = .ok (.aload_n 2, 1) := by decide +kernel
theorem dL_law_714 : decode cL_law 714 = .ok (.aload_n 0, 1) := by decide +kernel
theorem dL_law_715 : decode cL_law 715 = .ok (.iload_n 3, 1) := by decide +kernel
theorem dL_law_716 : decode cL_law 716 = .ok (.iconst 1, 1) := by decide +kernel
theorem dL_law_717 : decode cL_law 717 = .ok (.iadd, 1) := by decide +kernel
theorem dL_law_718 : decode cL_law 718 = .ok (.iaload, 1) := by decide +kernel
theorem dL_law_719 : decode cL_law 719 = .ok (.aload_n 0, 1) := by decide +kernel
theorem dL_law_720 : decode cL_law 720 = .ok (.iload_n 3, 1) := by decide +kernel
theorem dL_law_721 : decode cL_law 721 = .ok (.iconst 2, 1) := by decide +kernel
theorem dL_law_722 : decode cL_law 722 = .ok (.iadd, 1) := by decide +kernel
theorem dL_law_723 : decode cL_law 723 = .ok (.iaload, 1) := by decide +kernel
theorem dL_law_724 : decode cL_law 724 = .ok (.aload_n 0, 1) := by decide +kernel
theorem dL_law_725 : decode cL_law 725 = .ok (.iload_n 3, 1) := by decide +kernel
theorem dL_law_726 : decode cL_law 726 = .ok (.iconst 3, 1) := by decide +kernel
theorem dL_law_727 : decode cL_law 727 = .ok (.iadd, 1) := by decide +kernel
theorem dL_law_728 : decode cL_law 728 = .ok (.iaload, 1) := by decide +kernel
theorem dL_law_729 : decode cL_law 729 = .ok (.invokevirtual 93, 3) := by decide +kernel
theorem dL_law_732 : decode cL_law 732 = .ok (.if_icmp .eq 448, 3) := by decide +kernel
theorem dL_law_735 : decode cL_law 735 = .ok (.iconst 0, 1) := by decide +kernel
theorem dL_law_736 : decode cL_law 736 = .ok (.ireturn, 1) := by decide +kernel
theorem dL_law_737 : decode cL_law 737 = .ok (.aload_n 1, 1) := by decide +kernel
theorem dL_law_738 : decode cL_law 738 = .ok (.aload_n 0, 1) := by decide +kernel
theorem dL_law_739 : decode cL_law 739 = .ok (.iload_n 3, 1) := by decide +kernel
theorem dL_law_740 : decode cL_law 740 = .ok (.iconst 1, 1) := by decide +kernel
theorem dL_law_741 : decode cL_law 741 = .ok (.iadd, 1) := by decide +kernel
theorem dL_law_742 : decode cL_law 742 = .ok (.iaload, 1) := by decide +kernel
theorem dL_law_743 : decode cL_law 743 = .ok (.aload_n 0, 1) := by decide +kernel
theorem dL_law_744 : decode cL_law 744 = .ok (.iload_n 3, 1) := by decide +kernel
theorem dL_law_745 : decode cL_law 745 = .ok (.iconst 2, 1) := by decide +kernel
theorem dL_law_746 : decode cL_law 746 = .ok (.iadd, 1) := by decide +kernel
theorem dL_law_747 : decode cL_law 747 = .ok (.iaload, 1) := by decide +kernel
theorem dL_law_748 : decode cL_law 748 = .ok (.invokevirtual 94, 3) := by decide +kernel
theorem dL_law_751 : decode cL_law 751 = .ok (.aload_n 2, 1) := by decide +kernel
theorem dL_law_752 : decode cL_law 752 = .ok (.aload_n 0, 1) := by decide +kernel
theorem dL_law_753 : decode cL_law 753 = .ok (.iload_n 3, 1) := by decide +kernel
theorem dL_law_754 : decode cL_law 754 = .ok (.iconst 1, 1) := by decide +kernel
theorem dL_law_755 : decode cL_law 755 = .ok (.iadd, 1) := by decide +kernel
theorem dL_law_756 : decode cL_law 756 = .ok (.iaload, 1) := by decide +kernel
theorem dL_law_757 : decode cL_law 757 = .ok (.aload_n 0, 1) := by decide +kernel
theorem dL_law_758 : decode cL_law 758 = .ok (.iload_n 3, 1) := by decide +kernel
theorem dL_law_759 : decode cL_law 759 = .ok (.iconst 2, 1) := by decide +kernel
theorem dL_law_760 : decode cL_law 760 = .ok (.iadd, 1) := by decide +kernel
theorem dL_law_761 : decode cL_law 761 = .ok (.iaload, 1) := by decide +kernel
theorem dL_law_762 : decode cL_law 762 = .ok (.invokevirtual 97, 3) := by decide +kernel
theorem dL_law_765 : decode cL_law 765 = .ok (.if_icmp .eq 415, 3) := by decide +kernel
theorem dL_law_768 : decode cL_law 768 = .ok (.iconst 0, 1) := by decide +kernel
theorem dL_law_769 : decode cL_law 769 = .ok (.ireturn, 1) := by decide +kernel
theorem dL_law_770 : decode cL_law 770 = .ok (.aload_n 1, 1) := by decide +kernel
theorem dL_law_771 : decode cL_law 771 = .ok (.aload_n 0, 1) := by decide +kernel
theorem dL_law_772 : decode cL_law 772 = .ok (.iload_n 3, 1) := by decide +kernel
theorem dL_law_773 : decode cL_law 773 = .ok (.iconst 1, 1) := by decide +kernel
theorem dL_law_774 : decode cL_law 774 = .ok (.iadd, 1) := by decide +kernel
theorem dL_law_775 : decode cL_law 775 = .ok (.iaload, 1) := by decide +kernel
theorem dL_law_776 : decode cL_law 776 = .ok (.aload_n 0, 1) := by decide +kernel
theorem dL_law_777 : decode cL_law 777 = .ok (.iload_n 3, 1) := by decide +kernel
theorem dL_law_778 : decode cL_law 778 = .ok (.iconst 2, 1) := by decide +kernel
theorem dL_law_779 : decode cL_law 779 = .ok (.iadd, 1) := by decide +kernel
theorem dL_law_780 : decode cL_law 780 = .ok (.iaload, 1) := by decide +kernel
theorem dL_law_781 : decode cL_law 781 = .ok (.aload_n 0, 1) := by decide +kernel
theorem dL_law_782 : decode cL_law 782 = .ok (.iload_n 3, 1) := by decide +kernel
theorem dL_law_783 : decode cL_law 783 = .ok (.iconst 3, 1) := by decide +kernel
theorem dL_law_784 : decode cL_law 784 = .ok (.iadd, 1) := by decide +kernel
theorem dL_law_785 : decode cL_law 785 = .ok (.iaload, 1) := by decide +kernel
theorem dL_law_786 : decode cL_law 786 = .ok (.aload_n 0, 1) := by decide +kernel
theorem dL_law_787 : decode cL_law 787 = .ok (.iload_n 3, 1) := by decide +kernel
theorem dL_law_788 : decode cL_law 788 = .ok (.iconst 4, 1) := by decide +kernel
theorem dL_law_789 : decode cL_law 789 = .ok (.iadd, 1) := by decide +kernel
theorem dL_law_790 : decode cL_law 790 = .ok (.iaload, 1) := by decide +kernel
theorem dL_law_791 : decode cL_law 791 = .ok (.invokevirtual 98, 3) := by decide +kernel
theorem dL_law_794 : decode cL_law 794 = .ok (.aload_n 2, 1) := by decide +kernel
theorem dL_law_795 : decode cL_law 795 = .ok (.aload_n 0, 1) := by decide +kernel
theorem dL_law_796 : decode cL_law 796 = .ok (.iload_n 3, 1) := by decide +kernel
theorem dL_law_797 : decode cL_law 797 = .ok (.iconst 1, 1) := by decide +kernel
theorem dL_law_798 : decode cL_law 798 = .ok (.iadd, 1) := by decide +kernel
theorem dL_law_799 : decode cL_law 799 = .ok (.iaload, 1) := by decide +kernel
theorem dL_law_800 : decode cL_law 800 = .ok (.aload_n 0, 1) := by decide +kernel
theorem dL_law_801 : decode cL_law 801 = .ok (.iload_n 3, 1) := by decide +kernel
theorem dL_law_802 : decode cL_law 802 = .ok (.iconst 2, 1) := by decide +kernel
theorem dL_law_803 : decode cL_law 803 = .ok (.iadd, 1) := by decide +kernel
theorem dL_law_804 : decode cL_law 804 = .ok (.iaload, 1) := by decide +kernel
theorem dL_law_805 : decode cL_law 805 = .ok (.aload_n 0, 1) := by decide +kernel
theorem dL_law_806 : decode cL_law 806 = .ok (.iload_n 3, 1) := by decide +kernel
theorem dL_law_807 : decode cL_law 807 = .ok (.iconst 3, 1) := by decide +kernel
theorem dL_law_808 : decode cL_law 808 = .ok (.iadd, 1) := by decide +kernel
theorem dL_law_809 : decode cL_law 809 = .ok (.iaload, 1) := by decide +kernel
theorem dL_law_810 : decode cL_law 810 = .ok (.aload_n 0, 1) := by decide +kernel
theorem dL_law_811 : decode cL_law 811 = .ok (.iload_n 3, 1) := by decide +kernel
theorem dL_law_812 : decode cL_law 812 = .ok (.iconst 4, 1) := by decide +kernel
theorem dL_law_813 : decode cL_law 813 = .ok (.iadd, 1) := by decide +kernel
theorem dL_law_814 : decode cL_law 814 = .ok (.iaload, 1) := by decide +kernel
theorem dL_law_815 : decode cL_law 815 = .ok (.invokevirtual 102, 3) := by decide +kernel
theorem dL_law_818 : decode cL_law 818 = .ok (.if_icmp .eq 362, 3) := by decide +kernel
theorem dL_law_821 : decode cL_law 821 = .ok (.iconst 0, 1) := by decide +kernel
theorem dL_law_822 : decode cL_law 822 = .ok (.ireturn, 1) := by decide +kernel
theorem dL_law_823 : decode cL_law 823 = .ok (.aload_n 1, 1) := by decide +kernel
theorem dL_law_824 : decode cL_law 824 = .ok (.aload_n 0, 1) := by decide +kernel
theorem dL_law_825 : decode cL_law 825 = .ok (.iload_n 3, 1) := by decide +kernel
theorem dL_law_826 : decode cL_law 826 = .ok (.iconst 1, 1) := by decide +kernel
theorem dL_law_827 : decode cL_law 827 = .ok (.iadd, 1) := by decide +kernel
theorem dL_law_828 : decode cL_law 828 = .ok (.iaload, 1) := by decide +kernel
theorem dL_law_829 : decode cL_law 829 = .ok (.aload_n 0, 1) := by decide +kernel
theorem dL_law_830 : decode cL_law 830 = .ok (.iload_n 3, 1) := by decide +kernel
theorem dL_law_831 : decode cL_law 831 = .ok (.iconst 2, 1) := by decide +kernel
theorem dL_law_832 : decode cL_law 832 = .ok (.iadd, 1) := by decide +kernel
theorem dL_law_833 : decode cL_law 833 = .ok (.iaload, 1) := by decide +kernel
theorem dL_law_834 : decode cL_law 834 = .ok (.aload_n 0, 1) := by decide +kernel
theorem dL_law_835 : decode cL_law 835 = .ok (.iload_n 3, 1) := by decide +kernel
theorem dL_law_836 : decode cL_law 836 = .ok (.iconst 3, 1) := by decide +kernel
theorem dL_law_837 : decode cL_law 837 = .ok (.iadd, 1) := by decide +kernel
theorem dL_law_838 : decode cL_law 838 = .ok (.iaload, 1) := by decide +kernel
theorem dL_law_839 : decode cL_law 839 = .ok (.invokevirtual 103, 3) := by decide +kernel
theorem dL_law_842 : decode cL_law 842 = .ok (.aload_n 2, 1) := by decide +kernel
theorem dL_law_843 : decode cL_law 843 = .ok (.aload_n 0, 1) := by decide +kernel
theorem dL_law_844 : decode cL_law 844 = .ok (.iload_n 3, 1) := by decide +kernel
theorem dL_law_845 : decode cL_law 845 = .ok (.iconst 1, 1) := by decide +kernel
theorem dL_law_846 : decode cL_law 846 = .ok (.iadd, 1) := by decide +kernel
theorem dL_law_847 : decode cL_law 847 = .ok (.iaload, 1) := by decide +kernel
theorem dL_law_848 : decode cL_law 848 = .ok (.aload_n 0, 1) := by decide +kernel
theorem dL_law_849 : decode cL_law 849 = .ok (.iload_n 3, 1) := by decide +kernel
theorem dL_law_850 : decode cL_law 850 = .ok (.iconst 2, 1) := by decide +kernel
theorem dL_law_851 : decode cL_law 851 = .ok (.iadd, 1) := by decide +kernel
theorem dL_law_852 : decode cL_law 852 = .ok (.iaload, 1) := by decide +kernel
theorem dL_law_853 : decode cL_law 853 = .ok (.aload_n 0, 1) := by decide +kernel
theorem dL_law_854 : decode cL_law 854 = .ok (.iload_n 3, 1) := by decide +kernel
theorem dL_law_855 : decode cL_law 855 = .ok (.iconst 3, 1) := by decide +kernel
theorem dL_law_856 : decode cL_law 856 = .ok (.iadd, 1) := by decide +kernel
theorem dL_law_857 : decode cL_law 857 = .ok (.iaload, 1) := by decide +kernel
theorem dL_law_858 : decode cL_law 858 = .ok (.invokevirtual 107, 3) := by decide +kernel
theorem dL_law_861 : decode cL_law 861 = .ok (.lcmp, 1) := by decide +kernel
theorem dL_law_862 : decode cL_law 862 = .ok (.ifCond .eq 318, 3) := by decide +kernel
theorem dL_law_865 : decode cL_law 865 = .ok (.iconst 0, 1) := by decide +kernel
theorem dL_law_866 : decode cL_law 866 = .ok (.ireturn, 1) := by decide +kernel
theorem dL_law_867 : decode cL_law 867 = .ok (.aload_n 1, 1) := by decide +kernel
theorem dL_law_868 : decode cL_law 868 = .ok (.aload_n 0, 1) := by decide +kernel
theorem dL_law_869 : decode cL_law 869 = .ok (.iload_n 3, 1) := by decide +kernel
theorem dL_law_870 : decode cL_law 870 = .ok (.iconst 1, 1) := by decide +kernel
theorem dL_law_871 : decode cL_law 871 = .ok (.iadd, 1) := by decide +kernel
theorem dL_law_872 : decode cL_law 872 = .ok (.iaload, 1) := by decide +kernel
theorem dL_law_873 : decode cL_law 873 = .ok (.aload_n 0, 1) := by decide +kernel
theorem dL_law_874 : decode cL_law 874 = .ok (.iload_n 3, 1) := by decide +kernel
theorem dL_law_875 : decode cL_law 875 = .ok (.iconst 2, 1) := by decide +kernel
theorem dL_law_876 : decode cL_law 876 = .ok (.iadd, 1) := by decide +kernel
theorem dL_law_877 : decode cL_law 877 = .ok (.iaload, 1) := by decide +kernel
theorem dL_law_878 : decode cL_law 878 = .ok (.invokevirtual 108, 3) := by decide +kernel
theorem dL_law_881 : decode cL_law 881 = .ok (.aload_n 2, 1) := by decide +kernel
theorem dL_law_882 : decode cL_law 882 = .ok (.aload_n 0, 1) := by decide +kernel
theorem dL_law_883 : decode cL_law 883 = .ok (.iload_n 3, 1) := by decide +kernel
theorem dL_law_884 : decode cL_law 884 = .ok (.iconst 1, 1) := by decide +kernel
theorem dL_law_885 : decode cL_law 885 = .ok (.iadd, 1) := by decide +kernel
theorem dL_law_886 : decode cL_law 886 = .ok (.iaload, 1) := by decide +kernel
theorem dL_law_887 : decode cL_law 887 = .ok (.aload_n 0, 1) := by decide +kernel
theorem dL_law_888 : decode cL_law 888 = .ok (.iload_n 3, 1) := by decide +kernel
theorem dL_law_889 : decode cL_law 889 = .ok (.iconst 2, 1) := by decide +kernel
theorem dL_law_890 : decode cL_law 890 = .ok (.iadd, 1) := by decide +kernel
theorem dL_law_891 : decode cL_law 891 = .ok (.iaload, 1) := by decide +kernel
theorem dL_law_892 : decode cL_law 892 = .ok (.invokevirtual 111, 3) := by decide +kernel
theorem dL_law_895 : decode cL_law 895 = .ok (.if_icmp .eq 285, 3) := by decide +kernel
theorem dL_law_898 : decode cL_law 898 = .ok (.iconst 0, 1) := by decide +kernel
theorem dL_law_899 : decode cL_law 899 = .ok (.ireturn, 1) := by decide +kernel
theorem dL_law_900 : decode cL_law 900 = .ok (.aload_n 1, 1) := by decide +kernel
theorem dL_law_901 : decode cL_law 901 = .ok (.aload_n 0, 1) := by decide +kernel
theorem dL_law_902 : decode cL_law 902 = .ok (.iload_n 3, 1) := by decide +kernel
theorem dL_law_903 : decode cL_law 903 = .ok (.iconst 1, 1) := by decide +kernel
theorem dL_law_904 : decode cL_law 904 = .ok (.iadd, 1) := by decide +kernel
theorem dL_law_905 : decode cL_law 905 = .ok (.iaload, 1) := by decide +kernel
theorem dL_law_906 : decode cL_law 906 = .ok (.aload_n 0, 1) := by decide +kernel
theorem dL_law_907 : decode cL_law 907 = .ok (.iload_n 3, 1) := by decide +kernel
theorem dL_law_908 : decode cL_law 908 = .ok (.iconst 2, 1) := by decide +kernel
theorem dL_law_909 : decode cL_law 909 = .ok (.iadd, 1) := by decide +kernel
theorem dL_law_910 : decode cL_law 910 = .ok (.iaload, 1) := by decide +kernel
theorem dL_law_911 : decode cL_law 911 = .ok (.aload_n 0, 1) := by decide +kernel
theorem dL_law_912 : decode cL_law 912 = .ok (.iload_n 3, 1) := by decide +kernel
theorem dL_law_913 : decode cL_law 913 = .ok (.iconst 3, 1) := by decide +kernel
theorem dL_law_914 : decode cL_law 914 = .ok (.iadd, 1) := by decide +kernel
theorem dL_law_915 : decode cL_law 915 = .ok (.iaload, 1) := by decide +kernel
theorem dL_law_916 : decode cL_law 916 = .ok (.invokevirtual 112, 3) := by decide +kernel
theorem dL_law_919 : decode cL_law 919 = .ok (.aload_n 2, 1) := by decide +kernel
theorem dL_law_920 : decode cL_law 920 = .ok (.aload_n 0, 1) := by decide +kernel
theorem dL_law_921 : decode cL_law 921 = .ok (.iload_n 3, 1) := by decide +kernel
theorem dL_law_922 : decode cL_law 922 = .ok (.iconst 1, 1) := by decide +kernel
theorem dL_law_923 : decode cL_law 923 = .ok (.iadd, 1) := by decide +kernel
theorem dL_law_924 : decode cL_law 924 = .ok (.iaload, 1) := by decide +kernel
theorem dL_law_925 : decode cL_law 925 = .ok (.aload_n 0, 1) := by decide +kernel
theorem dL_law_926 : decode cL_law 926 = .ok (.iload_n 3, 1) := by decide +kernel
theorem dL_law_927 : decode cL_law 927 = .ok (.iconst 2, 1) := by decide +kernel
theorem dL_law_928 : decode cL_law 928 = .ok (.iadd, 1) := by decide +kernel
theorem dL_law_929 : decode cL_law 929 = .ok (.iaload, 1) := by decide +kernel
theorem dL_law_930 : decode cL_law 930 = .ok (.aload_n 0, 1) := by decide +kernel
theorem dL_law_931 : decode cL_law 931 = .ok (.iload_n 3, 1) := by decide +kernel
theorem dL_law_932 : decode cL_law 932 = .ok (.iconst 3, 1) := by decide +kernel
theorem dL_law_933 : decode cL_law 933 = .ok (.iadd, 1) := by decide +kernel
theorem dL_law_934 : decode cL_law 934 = .ok (.iaload, 1) := by decide +kernel
theorem dL_law_935 : decode cL_law 935 = .ok (.invokevirtual 115, 3) := by decide +kernel
theorem dL_law_938 : decode cL_law 938 = .ok (.if_icmp .eq 242, 3) := by decide +kernel
theorem dL_law_941 : decode cL_law 941 = .ok (.iconst 0, 1) := by decide +kernel
theorem dL_law_942 : decode cL_law 942 = .ok (.ireturn, 1) := by decide +kernel
theorem dL_law_943 : decode cL_law 943 = .ok (.aload_n 1, 1) := by decide +kernel
theorem dL_law_944 : decode cL_law 944 = .ok (.aload_n 0, 1) := by decide +kernel
theorem dL_law_945 : decode cL_law 945 = .ok (.iload_n 3, 1) := by decide +kernel
theorem dL_law_946 : decode cL_law 946 = .ok (.iconst 1, 1) := by decide +kernel
theorem dL_law_947 : decode cL_law 947 = .ok (.iadd, 1) := by decide +kernel
theorem dL_law_948 : decode cL_law 948 = .ok (.iaload, 1) := by decide +kernel
theorem dL_law_949 : decode cL_law 949 = .ok (.aload_n 0, 1) := by decide +kernel
theorem dL_law_950 : decode cL_law 950 = .ok (.iload_n 3, 1) := by decide +kernel
theorem dL_law_951 : decode cL_law 951 = .ok (.iconst 2, 1) := by decide +kernel
theorem dL_law_952 : decode cL_law 952 = .ok (.iadd, 1) := by decide +kernel
theorem dL_law_953 : decode cL_law 953 = .ok (.iaload, 1) := by decide +kernel
theorem dL_law_954 : decode cL_law 954 = .ok (.aload_n 0, 1) := by decide +kernel
theorem dL_law_955 : decode cL_law 955 = .ok (.iload_n 3, 1) := by decide +kernel
theorem dL_law_956 : decode cL_law 956 = .ok (.iconst 3, 1) := by decide +kernel
theorem dL_law_957 : decode cL_law 957 = .ok (.iadd, 1) := by decide +kernel
theorem dL_law_958 : decode cL_law 958 = .ok (.iaload, 1) := by decide +kernel
theorem dL_law_959 : decode cL_law 959 = .ok (.invokevirtual 116, 3) := by decide +kernel
theorem dL_law_962 : decode cL_law 962 = .ok (.aload_n 2, 1) := by decide +kernel
theorem dL_law_963 : decode cL_law 963 = .ok (.aload_n 0, 1) := by decide +kernel
theorem dL_law_964 : decode cL_law 964 = .ok (.iload_n 3, 1) := by decide +kernel
theorem dL_law_965 : decode cL_law 965 = .ok (.iconst 1, 1) := by decide +kernel
theorem dL_law_966 : decode cL_law 966 = .ok (.iadd, 1) := by decide +kernel
theorem dL_law_967 : decode cL_law 967 = .ok (.iaload, 1) := by decide +kernel
theorem dL_law_968 : decode cL_law 968 = .ok (.aload_n 0, 1) := by decide +kernel
theorem dL_law_969 : decode cL_law 969 = .ok (.iload_n 3, 1) := by decide +kernel
theorem dL_law_970 : decode cL_law 970 = .ok (.iconst 2, 1) := by decide +kernel
theorem dL_law_971 : decode cL_law 971 = .ok (.iadd, 1) := by decide +kernel
theorem dL_law_972 : decode cL_law 972 = .ok (.iaload, 1) := by decide +kernel
theorem dL_law_973 : decode cL_law 973 = .ok (.aload_n 0, 1) := by decide +kernel
theorem dL_law_974 : decode cL_law 974 = .ok (.iload_n 3, 1) := by decide +kernel
theorem dL_law_975 : decode cL_law 975 = .ok (.iconst 3, 1) := by decide +kernel
theorem dL_law_976 : decode cL_law 976 = .ok (.iadd, 1) := by decide +kernel
theorem dL_law_977 : decode cL_law 977 = .ok (.iaload, 1) := by decide +kernel
theorem dL_law_978 : decode cL_law 978 = .ok (.invokevirtual 119, 3) := by decide +kernel
theorem dL_law_981 : decode cL_law 981 = .ok (.if_icmp .eq 199, 3) := by decide +kernel
theorem dL_law_984 : decode cL_law 984 = .ok (.iconst 0, 1) := by decide +kernel
theorem dL_law_985 : decode cL_law 985 = .ok (.ireturn, 1) := by decide +kernel
theorem dL_law_986 : decode cL_law 986 = .ok (.aload_n 1, 1) := by decide +kernel
theorem dL_law_987 : decode cL_law 987 = .ok (.aload_n 0, 1) := by decide +kernel
theorem dL_law_988 : decode cL_law 988 = .ok (.iload_n 3, 1) := by decide +kernel
theorem dL_law_989 : decode cL_law 989 = .ok (.iconst 1, 1) := by decide +kernel
theorem dL_law_990 : decode cL_law 990 = .ok (.iadd, 1) := by decide +kernel
theorem dL_law_991 : decode cL_law 991 = .ok (.iaload, 1) := by decide +kernel
theorem dL_law_992 : decode cL_law 992 = .ok (.invokevirtual 120, 3) := by decide +kernel
theorem dL_law_995 : decode cL_law 995 = .ok (.aload_n 2, 1) := by decide +kernel
theorem dL_law_996 : decode cL_law 996 = .ok (.aload_n 0, 1) := by decide +kernel
theorem dL_law_997 : decode cL_law 997 = .ok (.iload_n 3, 1) := by decide +kernel
theorem dL_law_998 : decode cL_law 998 = .ok (.iconst 1, 1) := by decide +kernel
theorem dL_law_999 : decode cL_law 999 = .ok (.iadd, 1) := by decide +kernel
theorem dL_law_1000 : decode cL_law 1000 = .ok (.iaload, 1) := by decide +kernel
theorem dL_law_1001 : decode cL_law 1001 = .ok (.invokevirtual 123, 3) := by decide +kernel
theorem dL_law_1004 : decode cL_law 1004 = .ok (.if_icmp .eq 176, 3) := by decide +kernel
theorem dL_law_1007 : decode cL_law 1007 = .ok (.iconst 0, 1) := by decide +kernel
theorem dL_law_1008 : decode cL_law 1008 = .ok (.ireturn, 1) := by decide +kernel
theorem dL_law_1009 : decode cL_law 1009 = .ok (.aload_n 1, 1) := by decide +kernel
theorem dL_law_1010 : decode cL_law 1010 = .ok (.aload_n 0, 1) := by decide +kernel
theorem dL_law_1011 : decode cL_law 1011 = .ok (.iload_n 3, 1) := by decide +kernel
theorem dL_law_1012 : decode cL_law 1012 = .ok (.iconst 1, 1) := by decide +kernel
theorem dL_law_1013 : decode cL_law 1013 = .ok (.iadd, 1) := by decide +kernel
theorem dL_law_1014 : decode cL_law 1014 = .ok (.iaload, 1) := by decide +kernel
theorem dL_law_1015 : decode cL_law 1015 = .ok (.invokevirtual 124, 3) := by decide +kernel
theorem dL_law_1018 : decode cL_law 1018 = .ok (.aload_n 2, 1) := by decide +kernel
theorem dL_law_1019 : decode cL_law 1019 = .ok (.aload_n 0, 1) := by decide +kernel
theorem dL_law_1020 : decode cL_law 1020 = .ok (.iload_n 3, 1) := by decide +kernel
theorem dL_law_1021 : decode cL_law 1021 = .ok (.iconst 1, 1) := by decide +kernel
theorem dL_law_1022 : decode cL_law 1022 = .ok (.iadd, 1) := by decide +kernel
theorem dL_law_1023 : decode cL_law 1023 = .ok (.iaload, 1) := by decide +kernel
theorem dL_law_1024 : decode cL_law 1024 = .ok (.invokevirtual 127, 3) := by decide +kernel
theorem dL_law_1027 : decode cL_law 1027 = .ok (.if_icmp .eq 153, 3) := by decide +kernel
theorem dL_law_1030 : decode cL_law 1030 = .ok (.iconst 0, 1) := by decide +kernel
theorem dL_law_1031 : decode cL_law 1031 = .ok (.ireturn, 1) := by decide +kernel
theorem dL_law_1032 : decode cL_law 1032 = .ok (.aload_n 1, 1) := by decide +kernel
theorem dL_law_1033 : decode cL_law 1033 = .ok (.aload_n 0, 1) := by decide +kernel
theorem dL_law_1034 : decode cL_law 1034 = .ok (.iload_n 3, 1) := by decide +kernel
theorem dL_law_1035 : decode cL_law 1035 = .ok (.iconst 1, 1) := by decide +kernel
theorem dL_law_1036 : decode cL_law 1036 = .ok (.iadd, 1) := by decide +kernel
theorem dL_law_1037 : decode cL_law 1037 = .ok (.iaload, 1) := by decide +kernel
theorem dL_law_1038 : decode cL_law 1038 = .ok (.invokevirtual 128, 3) := by decide +kernel
theorem dL_law_1041 : decode cL_law 1041 = .ok (.aload_n 2, 1) := by decide +kernel
theorem dL_law_1042 : decode cL_law 1042 = .ok (.aload_n 0, 1) := by decide +kernel
theorem dL_law_1043 : decode cL_law 1043 = .ok (.iload_n 3, 1) := by decide +kernel
theorem dL_law_1044 : decode cL_law 1044 = .ok (.iconst 1, 1) := by decide +kernel
theorem dL_law_1045 : decode cL_law 1045 = .ok (.iadd, 1) := by decide +kernel
theorem dL_law_1046 : decode cL_law 1046 = .ok (.iaload, 1) := by decide +kernel
theorem dL_law_1047 : decode cL_law 1047 = .ok (.invokevirtual 131, 3) := by decide +kernel
theorem dL_law_1050 : decode cL_law 1050 = .ok (.if_icmp .eq 130, 3) := by decide +kernel
theorem dL_law_1053 : decode cL_law 1053 = .ok (.iconst 0, 1) := by decide +kernel
theorem dL_law_1054 : decode cL_law 1054 = .ok (.ireturn, 1) := by decide +kernel
theorem dL_law_1055 : decode cL_law 1055 = .ok (.aload_n 1, 1) := by decide +kernel
theorem dL_law_1056 : decode cL_law 1056 = .ok (.aload_n 0, 1) := by decide +kernel
theorem dL_law_1057 : decode cL_law 1057 = .ok (.iload_n 3, 1) := by decide +kernel
theorem dL_law_1058 : decode cL_law 1058 = .ok (.iconst 1, 1) := by decide +kernel
theorem dL_law_1059 : decode cL_law 1059 = .ok (.iadd, 1) := by decide +kernel
theorem dL_law_1060 : decode cL_law 1060 = .ok (.iaload, 1) := by decide +kernel
theorem dL_law_1061 : decode cL_law 1061 = .ok (.aload_n 0, 1) := by decide +kernel
theorem dL_law_1062 : decode cL_law 1062 = .ok (.iload_n 3, 1) := by decide +kernel
theorem dL_law_1063 : decode cL_law 1063 = .ok (.iconst 2, 1) := by decide +kernel
theorem dL_law_1064 : decode cL_law 1064 = .ok (.iadd, 1) := by decide +kernel
theorem dL_law_1065 : decode cL_law 1065 = .ok (.iaload, 1) := by decide +kernel
theorem dL_law_1066 : decode cL_law 1066 = .ok (.invokevirtual 132, 3) := by decide +kernel
theorem dL_law_1069 : decode cL_law 1069 = .ok (.aload_n 2, 1) := by decide +kernel
theorem dL_law_1070 : decode cL_law 1070 = .ok (.aload_n 0, 1) := by decide +kernel
theorem dL_law_1071 : decode cL_law 1071 = .ok (.iload_n 3, 1) := by decide +kernel
theorem dL_law_1072 : decode cL_law 1072 = .ok (.iconst 1, 1) := by decide +kernel
theorem dL_law_1073 : decode cL_law 1073 = .ok (.iadd, 1) := by decide +kernel
theorem dL_law_1074 : decode cL_law 1074 = .ok (.iaload, 1) := by decide +kernel
theorem dL_law_1075 : decode cL_law 1075 = .ok (.aload_n 0, 1) := by decide +kernel
theorem dL_law_1076 : decode cL_law 1076 = .ok (.iload_n 3, 1) := by decide +kernel
theorem dL_law_1077 : decode cL_law 1077 = .ok (.iconst 2, 1) := by decide +kernel
theorem dL_law_1078 : decode cL_law 1078 = .ok (.iadd, 1) := by decide +kernel
theorem dL_law_1079 : decode cL_law 1079 = .ok (.iaload, 1) := by decide +kernel
theorem dL_law_1080 : decode cL_law 1080 = .ok (.invokevirtual 135, 3) := by decide +kernel
theorem dL_law_1083 : decode cL_law 1083 = .ok (.if_icmp .eq 97, 3) := by decide +kernel
theorem dL_law_1086 : decode cL_law 1086 = .ok (.iconst 0, 1) := by decide +kernel
theorem dL_law_1087 : decode cL_law 1087 = .ok (.ireturn, 1) := by decide +kernel
theorem dL_law_1088 : decode cL_law 1088 = .ok (.aload_n 1, 1) := by decide +kernel
theorem dL_law_1089 : decode cL_law 1089 = .ok (.aload_n 0, 1) := by decide +kernel
theorem dL_law_1090 : decode cL_law 1090 = .ok (.iload_n 3, 1) := by decide +kernel
theorem dL_law_1091 : decode cL_law 1091 = .ok (.iconst 1, 1) := by decide +kernel
theorem dL_law_1092 : decode cL_law 1092 = .ok (.iadd, 1) := by decide +kernel
theorem dL_law_1093 : decode cL_law 1093 = .ok (.iaload, 1) := by decide +kernel
theorem dL_law_1094 : decode cL_law 1094 = .ok (.aload_n 0, 1) := by decide +kernel
theorem dL_law_1095 : decode cL_law 1095 = .ok (.iload_n 3, 1) := by decide +kernel
theorem dL_law_1096 : decode cL_law 1096 = .ok (.iconst 2, 1) := by decide +kernel
theorem dL_law_1097 : decode cL_law 1097 = .ok (.iadd, 1) := by decide +kernel
theorem dL_law_1098 : decode cL_law 1098 = .ok (.iaload, 1) := by decide +kernel
theorem dL_law_1099 : decode cL_law 1099 = .ok (.invokevirtual 136, 3) := by decide +kernel
theorem dL_law_1102 : decode cL_law 1102 = .ok (.aload_n 2, 1) := by decide +kernel
theorem dL_law_1103 : decode cL_law 1103 = .ok (.aload_n 0, 1) := by decide +kernel
theorem dL_law_1104 : decode cL_law 1104 = .ok (.iload_n 3, 1) := by decide +kernel
theorem dL_law_1105 : decode cL_law 1105 = .ok (.iconst 1, 1) := by decide +kernel
theorem dL_law_1106 : decode cL_law 1106 = .ok (.iadd, 1) := by decide +kernel
theorem dL_law_1107 : decode cL_law 1107 = .ok (.iaload, 1) := by decide +kernel
theorem dL_law_1108 : decode cL_law 1108 = .ok (.aload_n 0, 1) := by decide +kernel
theorem dL_law_1109 : decode cL_law 1109 = .ok (.iload_n 3, 1) := by decide +kernel
theorem dL_law_1110 : decode cL_law 1110 = .ok (.iconst 2, 1) := by decide +kernel
theorem dL_law_1111 : decode cL_law 1111 = .ok (.iadd, 1) := by decide +kernel
theorem dL_law_1112 : decode cL_law 1112 = .ok (.iaload, 1) := by decide +kernel
theorem dL_law_1113 : decode cL_law 1113 = .ok (.invokevirtual 139, 3) := by decide +kernel
theorem dL_law_1116 : decode cL_law 1116 = .ok (.if_icmp .eq 64, 3) := by decide +kernel
theorem dL_law_1119 : decode cL_law 1119 = .ok (.iconst 0, 1) := by decide +kernel
theorem dL_law_1120 : decode cL_law 1120 = .ok (.ireturn, 1) := by decide +kernel
theorem dL_law_1121 : decode cL_law 1121 = .ok (.aload_n 1, 1) := by decide +kernel
theorem dL_law_1122 : decode cL_law 1122 = .ok (.aload_n 0, 1) := by decide +kernel
theorem dL_law_1123 : decode cL_law 1123 = .ok (.iload_n 3, 1) := by decide +kernel
theorem dL_law_1124 : decode cL_law 1124 = .ok (.iconst 1, 1) := by decide +kernel
theorem dL_law_1125 : decode cL_law 1125 = .ok (.iadd, 1) := by decide +kernel
theorem dL_law_1126 : decode cL_law 1126 = .ok (.iaload, 1) := by decide +kernel
theorem dL_law_1127 : decode cL_law 1127 = .ok (.invokevirtual 140, 3) := by decide +kernel
theorem dL_law_1130 : decode cL_law 1130 = .ok (.aload_n 2, 1) := by decide +kernel
theorem dL_law_1131 : decode cL_law 1131 = .ok (.aload_n 0, 1) := by decide +kernel
theorem dL_law_1132 : decode cL_law 1132 = .ok (.iload_n 3, 1) := by decide +kernel
theorem dL_law_1133 : decode cL_law 1133 = .ok (.iconst 1, 1) := by decide +kernel
theorem dL_law_1134 : decode cL_law 1134 = .ok (.iadd, 1) := by decide +kernel
theorem dL_law_1135 : decode cL_law 1135 = .ok (.iaload, 1) := by decide +kernel
theorem dL_law_1136 : decode cL_law 1136 = .ok (.invokevirtual 143, 3) := by decide +kernel
theorem dL_law_1139 : decode cL_law 1139 = .ok (.if_icmp .eq 41, 3) := by decide +kernel
theorem dL_law_1142 : decode cL_law 1142 = .ok (.iconst 0, 1) := by decide +kernel
theorem dL_law_1143 : decode cL_law 1143 = .ok (.ireturn, 1) := by decide +kernel
theorem dL_law_1144 : decode cL_law 1144 = .ok (.aload_n 1, 1) := by decide +kernel
theorem dL_law_1145 : decode cL_law 1145 = .ok (.aload_n 0, 1) := by decide +kernel
theorem dL_law_1146 : decode cL_law 1146 = .ok (.iload_n 3, 1) := by decide +kernel
theorem dL_law_1147 : decode cL_law 1147 = .ok (.iconst 1, 1) := by decide +kernel
theorem dL_law_1148 : decode cL_law 1148 = .ok (.iadd, 1) := by decide +kernel
theorem dL_law_1149 : decode cL_law 1149 = .ok (.iaload, 1) := by decide +kernel
theorem dL_law_1150 : decode cL_law 1150 = .ok (.invokevirtual 144, 3) := by decide +kernel
theorem dL_law_1153 : decode cL_law 1153 = .ok (.aload_n 2, 1) := by decide +kernel
theorem dL_law_1154 : decode cL_law 1154 = .ok (.aload_n 0, 1) := by decide +kernel
theorem dL_law_1155 : decode cL_law 1155 = .ok (.iload_n 3, 1) := by decide +kernel
theorem dL_law_1156 : decode cL_law 1156 = .ok (.iconst 1, 1) := by decide +kernel
theorem dL_law_1157 : decode cL_law 1157 = .ok (.iadd, 1) := by decide +kernel
theorem dL_law_1158 : decode cL_law 1158 = .ok (.iaload, 1) := by decide +kernel
theorem dL_law_1159 : decode cL_law 1159 = .ok (.invokevirtual 147, 3) := by decide +kernel
theorem dL_law_1162 : decode cL_law 1162 = .ok (.if_icmp .eq 18, 3) := by decide +kernel
theorem dL_law_1165 : decode cL_law 1165 = .ok (.iconst 0, 1) := by decide +kernel
theorem dL_law_1166 : decode cL_law 1166 = .ok (.ireturn, 1) := by decide +kernel
theorem dL_law_1167 : decode cL_law 1167 = .ok (.aload_n 1, 1) := by decide +kernel
theorem dL_law_1168 : decode cL_law 1168 = .ok (.invokevirtual 148, 3) := by decide +kernel
theorem dL_law_1171 : decode cL_law 1171 = .ok (.aload_n 2, 1) := by decide +kernel
theorem dL_law_1172 : decode cL_law 1172 = .ok (.invokevirtual 151, 3) := by decide +kernel
theorem dL_law_1175 : decode cL_law 1175 = .ok (.if_icmp .eq 5, 3) := by decide +kernel
theorem dL_law_1178 : decode cL_law 1178 = .ok (.iconst 0, 1) := by decide +kernel
theorem dL_law_1179 : decode cL_law 1179 = .ok (.ireturn, 1) := by decide +kernel
theorem dL_law_1180 : decode cL_law 1180 = .ok (.iinc 3 6, 3) := by decide +kernel
theorem dL_law_1183 : decode cL_law 1183 = .ok (.goto (-1165), 3) := by decide +kernel
theorem dL_law_1186 : decode cL_law 1186 = .ok (.iconst 1, 1) := by decide +kernel
theorem dL_law_1187 : decode cL_law 1187 = .ok (.ireturn, 1) := by decide +kernel
end
section
/-! THE WORLD: 79 cells that stand behind the two constructors; nothing is made later. A state is what the int slots hold. -/
def kdL : List Nat := [6, 10, 4, 8, 4, 8, 4, 8, 4, 8, 4, 8, 4, 8, 4, 8, 4, 8, 11, 5, 8, 8, 8, 8, 8, 8, 8, 8, 5, 8, 8, 8, 8, 8, 8, 8, 8, 5, 8, 8, 8, 8, 8, 8, 8, 8, 5, 8, 8, 8, 8, 8, 8, 8, 8, 3, 8, 0, 8, 8, 8, 2, 8, 1, 8, 7, 8, 8, 8, 8, 8, 8, 8, 8, 9, 8, 8, 8, 8]
def lnL : List Nat := [0, 8, 0, 40, 0, 40, 0, 40, 0, 40, 0, 40, 0, 40, 0, 40, 0, 40, 2, 0, 6, 6, 6, 6, 6, 6, 6, 6, 0, 6, 6, 6, 6, 6, 6, 6, 6, 0, 6, 6, 6, 6, 6, 6, 6, 6, 0, 6, 6, 6, 6, 6, 6, 6, 6, 0, 100, 0, 24, 24, 24, 0, 12, 0, 16, 0, 8, 8, 320, 100, 53, 53, 53, 106, 2, 1272, 16, 6, 28]
def kd (i : Nat) : Nat := kdL.getD i 99
def ln (i : Nat) : Nat := lnL.getD i 0
abbrev St : Type := Nat → Nat → Int32
def st_up (σ : St) (i j : Nat) (v : Int32) : St := fun a => if a = i then upd (σ a) j v else σ a
def st_cp (σ : St) (a sp b dp n : Nat) : St := fun i => if i = b then va_cpy (σ a) (σ b) sp dp n else σ i
/-- addresses; classes' numbers and slots; the array classes of int, boolean, Row, Street; the two constant arrays -/
abbrev Gm : Type := (Nat → Nat) × ((Nat → ClassId) × (Nat → Nat → Nat)) × (ClassId × ClassId × ClassId × ClassId) × (Nat × Nat)
def flds (ad : Nat → Nat) (r : Nat → Int32) (i : Nat) : Nat → List Value
  | 0 => [.ref (ad 58), .ref (ad 59), .ref (ad 60), .int (r 3), .int (r 4)]
  | 1 => [.ref (ad 64), .int (r 1)]
  | 2 => [.ref (ad 62), .int (r 1), .int (r 2), .int (r 3)]
  | 3 => [.ref (ad 56), .int (r 1), .int (r 2), .int (r 3), .int (r 4)]
  | 4 => [.ref (ad (i + 1)), .int (r 1), .int (r 2)]
  | 5 => [.ref (ad (i + 1)), .ref (ad (i + 2)), .ref (ad (i + 3)), .ref (ad (i + 4)), .ref (ad (i + 5)), .ref (ad (i + 6)), .ref (ad (i + 7)), .ref (ad (i + 8)), .int (r 8), .int (r 9), .int (r 10), .int (r 11), .int (r 12)]
  | 6 => [.ref (ad 1), .ref (ad 18), .ref (ad 19), .ref (ad 28), .ref (ad 55), .ref (ad 57), .ref (ad 61), .ref (ad 63), .int (r 8), .int (r 9)]
  | 7 => [.ref (ad 66), .ref (ad 67), .ref (ad 68), .int (r 3), .int (r 4), .ref (ad 69), .int (r 6), .int (r 7), .int (r 8), .int (r 9), .int (r 10), .int (r 11), .ref (ad 70), .ref (ad 71), .ref (ad 72), .ref (ad 73), .ref (ad 74), .ref (ad 75), .int (r 18), .ref (ad 76), .int (r 20), .ref (ad 77), .ref (ad 78)]
  | _ => []
def cellK (Γ : Gm) (r : Nat → Int32) (i : Nat) (K : Nat) : va_E :=
  if K = 8 then .inl (Γ.2.2.1.1, ln i, .inl r)
  else if K = 9 then .inl (Γ.2.2.1.2.1, ln i, .inl r)
  else if K = 10 then .inl (Γ.2.2.1.2.2.1, ln i, .inr (.inr (.inr (.inr (fun j => some (Γ.1 (2 + 2 * j)))))))
  else if K = 11 then .inl (Γ.2.2.1.2.2.2, ln i, .inr (.inr (.inr (.inr (fun j => some (Γ.1 (37 + 9 * j)))))))
  else .inr (K, flds Γ.1 r i K)
def wd (Γ : Gm) (σ : St) : va_W := (List.range 79).map (fun i => (Γ.1 i, cellK Γ (σ i) i (kd i)))
theorem wd_at (Γ : Gm) (σ : St) {i : Nat} (h : i < 79) : (wd Γ σ)[i]? = some (Γ.1 i, cellK Γ (σ i) i (kd i)) := by
  unfold wd
  rw [List.getElem?_map, List.getElem?_range h]
  rfl
theorem wd_len (Γ : Gm) (σ : St) : (wd Γ σ).length = 79 := by unfold wd; simp
theorem kd_lt {i K : Nat} (h : kd i = K) (hK : K < 99) : i < 79 := by
  rcases Nat.lt_or_ge i 79 with q | q
  · exact q
  · exfalso
    have h1 : kdL[i]? = none := List.getElem?_eq_none (by show 79 ≤ i; exact q)
    have h2 : kd i = 99 := by unfold kd; rw [List.getD_eq_getElem?_getD, h1]; rfl
    omega
theorem wd_kd (Γ : Gm) (σ : St) {i K : Nat} (h : kd i = K) (hK : K < 99) : (wd Γ σ)[i]? = some (Γ.1 i, cellK Γ (σ i) i K) := by
  rw [wd_at Γ σ (kd_lt h hK), h]
theorem wd_obj (Γ : Gm) (σ : St) {i K : Nat} (h : kd i = K) (hK : K < 8) : (wd Γ σ)[i]? = some (Γ.1 i, .inr (K, flds Γ.1 (σ i) i K)) := by
  rw [wd_kd Γ σ h (by omega)]
  unfold cellK
  rw [if_neg (by omega), if_neg (by omega), if_neg (by omega), if_neg (by omega)]
theorem wd_int (Γ : Gm) (σ : St) {i : Nat} (h : kd i = 8) : (wd Γ σ)[i]? = some (Γ.1 i, .inl (Γ.2.2.1.1, ln i, .inl (σ i))) := by
  rw [wd_kd Γ σ h (by omega)]; rfl
theorem wd_boo (Γ : Gm) (σ : St) {i : Nat} (h : kd i = 9) : (wd Γ σ)[i]? = some (Γ.1 i, .inl (Γ.2.2.1.2.1, ln i, .inl (σ i))) := by
  rw [wd_kd Γ σ h (by omega)]; rfl
theorem wd_rows (Γ : Gm) (σ : St) : (wd Γ σ)[1]? = some (Γ.1 1, .inl (Γ.2.2.1.2.2.1, 8, .inr (.inr (.inr (.inr (fun j => some (Γ.1 (2 + 2 * j)))))))) := by
  rw [wd_kd Γ σ (i := 1) (K := 10) rfl (by omega)]; rfl
theorem wd_imgs (Γ : Gm) (σ : St) : (wd Γ σ)[18]? = some (Γ.1 18, .inl (Γ.2.2.1.2.2.2, 2, .inr (.inr (.inr (.inr (fun j => some (Γ.1 (37 + 9 * j)))))))) := by
  rw [wd_kd Γ σ (i := 18) (K := 11) rfl (by omega)]; rfl
theorem wd_set (Γ : Gm) {σ σ' : St} {i : Nat} {e : va_E} (hi : i < 79) (he : cellK Γ (σ' i) i (kd i) = e) (ho : ∀ j, j ≠ i → σ' j = σ j) : (wd Γ σ).set i (Γ.1 i, e) = wd Γ σ' := by
  apply List.ext_getElem?
  intro j
  rw [List.getElem?_set]
  by_cases hj : i = j
  · subst hj
    rw [if_pos rfl, if_pos (by rw [wd_len]; exact hi), wd_at Γ σ' hi, he]
  · rw [if_neg hj]
    rcases Nat.lt_or_ge j 79 with q | q
    · rw [wd_at Γ σ q, wd_at Γ σ' q, ho j (fun z => hj z.symm)]
    · rw [List.getElem?_eq_none (by rw [wd_len]; exact q), List.getElem?_eq_none (by rw [wd_len]; exact q)]
def inj (Γ : Gm) : Prop := ∀ i j : Nat, i < 79 → j < 79 → Γ.1 i = Γ.1 j → i = j
def AA (Γ : Gm) : Nat → Prop := fun q => ∃ i : Nat, i < 79 ∧ q = Γ.1 i
theorem wd_D {Γ : Gm} (h : inj Γ) (σ : St) : va_D (AA Γ) (wd Γ σ) := by
  have key : ∀ (i : Nat) (q : Nat × va_E), (wd Γ σ)[i]? = some q → i < 79 ∧ q.1 = Γ.1 i := by
    intro i q hq
    rcases Nat.lt_or_ge i 79 with z | z
    · rw [wd_at Γ σ z] at hq
      cases hq
      exact ⟨z, rfl⟩
    · rw [List.getElem?_eq_none (by rw [wd_len]; exact z)] at hq
      cases hq
  refine ⟨fun i j p q hp hq e => ?_, fun k q hq => ?_⟩
  · obtain ⟨h1, h2⟩ := key i p hp
    obtain ⟨h3, h4⟩ := key j q hq
    exact h i j h1 h3 (by rw [← h2, ← h4]; exact e)
  · obtain ⟨h1, h2⟩ := key k q hq
    exact ⟨k, h1, h2⟩
abbrev tyK (Γ : Gm) : List (ClassId × FieldType) := [(Γ.2.2.1.1, .int), (Γ.2.2.1.2.1, .boolean), (Γ.2.2.1.2.2.1, .object RX4), (Γ.2.2.1.2.2.2, .object RX5)]
def szB : Nat → Int32 := fun j => if j = 0 then 10 else if j = 1 then 11 else if j = 2 then 12 else if j = 3 then 11 else if j = 4 then 13 else 14
def mkB : Nat → Int32 := fun j => if j = 0 then 20 else if j = 1 then 21 else if j = 2 then 24 else if j = 3 then 22 else if j = 4 then 23 else 23
def sTt (Γ : Gm) (U : State) (H : Heap) : Prop := va_Z RX1 "SIZE_BODIES" "[I" (.ref Γ.2.2.2.1) (AA Γ) U H ∧ va_T .int Γ.2.2.2.1 6 (fun j => .int (szB j)) (AA Γ) U H ∧ va_Z RX1 "MARK_BODIES" "[I" (.ref Γ.2.2.2.2) (AA Γ) U H ∧ va_T .int Γ.2.2.2.2 6 (fun j => .int (mkB j)) (AA Γ) U H
theorem sTt.kept {Γ : Gm} {U : State} {H H1 : Heap} (h : sTt Γ U H) (hq : ∀ a : Nat, a < H.size → ¬ AA Γ a → H1[a]? = H[a]?) : sTt Γ U H1 := ⟨h.1.kept hq, h.2.1.kept hq, h.2.2.1.kept hq, h.2.2.2.kept hq⟩
theorem sTt.moved {Γ : Gm} {u U : State} {H : Heap} (hvm : u.vm.Alike U.vm) (h : sTt Γ u H) : sTt Γ U H := ⟨h.1.moved hvm, h.2.1.moved hvm, h.2.2.1.moved hvm, h.2.2.2.moved hvm⟩
def TB : List Cond := lw_tbl.filter goodWord
theorem TB_in {w : Cond} (h : w ∈ TB) : w ∈ lw_tbl := (List.mem_filter.mp h).1
theorem TB_good {w : Cond} (h : w ∈ TB) : (w.onTables && w.keeps) = true ∨ ∃ ty, w = .arrayClass ty := good_of_word (List.mem_filter.mp h).2
theorem TB_of {w : Cond} (h : w ∈ lw_tbl) (hg : goodWord w = true) : w ∈ TB := List.mem_filter.mpr ⟨h, hg⟩
/-- the room that d calls, one in another, take -/
def rmD (d : Nat) : Room := { frames := d, cells := 0, slots := 0, locals := 60 * d }
/-- a method's start -/
def PreW (Γ : Gm) (σ : St) (U : State) : Prop := va_P Γ.2.1 vwCl (wd Γ σ) U.heap ∧ va_K Γ.2.1 vwCl (tyK Γ) U ∧ inj Γ ∧ sTt Γ U U.heap
def PosW (Γ : Gm) (σ : St) (t : State) : Prop := va_P Γ.2.1 vwCl (wd Γ σ) t.heap
abbrev KT : Type := (Program × Launch × Env × Room × State) × (MethodId × Array Value × List Frame × Method × Code) × Gm
/-- what holds all through a method: machine, code, room, words, tables -/
def Cx (κ : KT) (cc : ByteArray) (nL : Nat) (own : String) (d : Nat) (ret : Option FieldType) : Prop :=
  κ.1.1.tables.exec = Jvm.exec ∧ κ.2.1.2.2.2.2.code = cc ∧ κ.2.1.2.2.2.2.maxLocals = nL ∧ κ.1.2.2.2.2.vm.findClass own = some κ.2.1.1.cls ∧ (∀ w ∈ TB, w.before κ.2.1.2.1 κ.1.2.2.2.2 = true) ∧
  va_K κ.2.2.2.1 vwCl (tyK κ.2.2) κ.1.2.2.2.2 ∧ inj κ.2.2 ∧ sTt κ.2.2 κ.1.2.2.2.2 κ.1.2.2.2.2.heap ∧ κ.1.2.2.2.1 = rmD d ∧ κ.2.1.2.2.2.1.sig.returnType = ret ∧ κ.2.1.2.2.2.1.locks = false
/-- the machine, at pc with these locals and this stack and the state σ, comes to Q -/
def Wd (κ : KT) (nL : Nat) (Q : State → Prop) (pc : Nat) (lv : List (Nat × Value)) (st : List Value) (σ : St) : Prop :=
  ∀ (H : Heap) (locs : List Loc) (ls : Array Slot), va_P κ.2.2.2.1 vwCl (wd κ.2.2 σ) H → va_S (AA κ.2.2) κ.1.2.2.2.2.heap H locs → lv_has ls nL lv →
    W κ.1.1 κ.1.2.1 κ.1.2.2.1 κ.1.2.2.2.1 κ.1.2.2.2.2 κ.2.1.1 κ.2.1.2.1 κ.2.1.2.2.1 κ.2.1.2.2.2.1 κ.2.1.2.2.2.2 H locs 0 0 Q (F0 κ.2.1.1 pc ls st)
abbrev aK (κ : KT) (i : Nat) : Value := .ref (κ.2.2.1 i)
def isB (v : Int32) : Prop := v = 0 ∨ v = 1
theorem isB_narrow {v : Int32} (h : isB v) : narrow .boolean (.int v) = .int v := by rcases h with rfl | rfl <;> decide
def QI (κ : KT) (k : Int32 → St → Prop) : State → Prop := MQ κ.2.1.2.2.1 (va_Qi k (PosW κ.2.2) (AA κ.2.2)) κ.2.1.2.1 κ.1.2.2.2.2 0 0 (AA κ.2.2)
def QL (κ : KT) (k : Int64 → St → Prop) : State → Prop := MQ κ.2.1.2.2.1 (va_Ql k (PosW κ.2.2) (AA κ.2.2)) κ.2.1.2.1 κ.1.2.2.2.2 0 0 (AA κ.2.2)
def QV (κ : KT) (k : St → Prop) : State → Prop := MQ κ.2.1.2.2.1 (va_Qv k (PosW κ.2.2) (AA κ.2.2)) κ.2.1.2.1 κ.1.2.2.2.2 0 0 (AA κ.2.2)
/-- contracts -/
def CI (l : Launch) (y : MethodName) (cc : ByteArray) (nL d : Nat) (ret : Option FieldType) (av : (Nat → Nat) → List Value) (σ : St) (k : Int32 → St → Prop) : Prop :=
  ∀ Γ : Gm, Met l y (.code y cc nL ret :: TB) (rmD d) (va_Pc (av Γ.1) (PreW Γ σ)) (va_Qi k (PosW Γ) (AA Γ)) 0 0 (AA Γ)
def CL (l : Launch) (y : MethodName) (cc : ByteArray) (nL d : Nat) (ret : Option FieldType) (av : (Nat → Nat) → List Value) (σ : St) (k : Int64 → St → Prop) : Prop :=
  ∀ Γ : Gm, Met l y (.code y cc nL ret :: TB) (rmD d) (va_Pc (av Γ.1) (PreW Γ σ)) (va_Ql k (PosW Γ) (AA Γ)) 0 0 (AA Γ)
def CV (l : Launch) (y : MethodName) (cc : ByteArray) (nL d : Nat) (ret : Option FieldType) (av : (Nat → Nat) → List Value) (σ : St) (k : St → Prop) : Prop :=
  ∀ Γ : Gm, Met l y (.code y cc nL ret :: TB) (rmD d) (va_Pc (av Γ.1) (PreW Γ σ)) (va_Qv k (PosW Γ) (AA Γ)) 0 0 (AA Γ)
end
section

end
section
section ROWS
variable {κ : KT} {cc : ByteArray} {nL d pc : Nat} {own : String} {ret : Option FieldType} {Q : State → Prop} {lv lv' : List (Nat × Value)} {st : List Value} {σ : St}
theorem lrem_eq_mod (x y : Int64) : x - (x / y) * y = x % y := by
  apply Int64.toInt_inj.mp
  have h1 := Int64.le_toInt (x % y)
  have h2 := Int64.toInt_lt (x % y)
  rw [Int64.toInt_sub, Int64.toInt_mul, Int64.toInt_div, Int.bmod_mul_bmod, Int.sub_bmod_bmod, Int.mul_comm (x.toInt.tdiv y.toInt), ← Int.tmod_def, ← Int64.toInt_mod]
  exact Int.bmod_eq_of_le_mul_two (by omega) (by omega)
theorem r_iconst {n : Int} {v : Int32} (hc : Cx κ cc nL own d ret) (hd : decode cc pc = .ok (.iconst n, 1)) (hv : Int32.ofInt n = v) (k : Wd κ nL Q (pc + 1) lv (.int v :: st) σ) : Wd κ nL Q pc lv (st) σ :=
  fun H locs ls hP hS hl => lv_iconst hc.1 hc.2.1 hd hv (k H locs ls hP hS hl)
theorem r_bipush {n : Int} {v : Int32} (hc : Cx κ cc nL own d ret) (hd : decode cc pc = .ok (.bipush n, 2)) (hv : (Int8.ofInt n).toInt32 = v) (k : Wd κ nL Q (pc + 2) lv (.int v :: st) σ) : Wd κ nL Q pc lv (st) σ :=
  fun H locs ls hP hS hl => lv_bipush hc.1 hc.2.1 hd hv (k H locs ls hP hS hl)
theorem r_sipush {n : Int} {v : Int32} (hc : Cx κ cc nL own d ret) (hd : decode cc pc = .ok (.sipush n, 3)) (hv : (Int16.ofInt n).toInt32 = v) (k : Wd κ nL Q (pc + 3) lv (.int v :: st) σ) : Wd κ nL Q pc lv (st) σ :=
  fun H locs ls hP hS hl => lv_sipush hc.1 hc.2.1 hd hv (k H locs ls hP hS hl)
theorem r_lconst {n : Fin 2} {v : Int64} (hc : Cx κ cc nL own d ret) (hd : decode cc pc = .ok (.lconst n, 1)) (hv : Int64.ofNat (n : Nat) = v) (k : Wd κ nL Q (pc + 1) lv (.long v :: st) σ) : Wd κ nL Q pc lv (st) σ :=
  fun H locs ls hP hS hl => lv_lconst hc.1 hc.2.1 hd hv (k H locs ls hP hS hl)
theorem r_ldc {index : Nat} {v : Int32} (hc : Cx κ cc nL own d ret) (hd : decode cc pc = .ok (.ldc index, 2)) (hw : Cond.constant own index v ∈ TB) (k : Wd κ nL Q (pc + 2) lv (.int v :: st) σ) : Wd κ nL Q pc lv st σ :=
  fun H locs ls hP hS hl => lv_ldc hc.1 hc.2.1 hc.2.2.2.1 (hc.2.2.2.2.1 _ hw) hd (k H locs ls hP hS hl)
theorem r_ldcw {index : Nat} {v : Int32} (hc : Cx κ cc nL own d ret) (hd : decode cc pc = .ok (.ldc_w index, 3)) (hw : Cond.constant own index v ∈ TB) (k : Wd κ nL Q (pc + 3) lv (.int v :: st) σ) : Wd κ nL Q pc lv st σ :=
  fun H locs ls hP hS hl => lv_ldcw hc.1 hc.2.1 hc.2.2.2.1 (hc.2.2.2.2.1 _ hw) hd (k H locs ls hP hS hl)
theorem r_ldc2 {index : Nat} {v : Int64} (hc : Cx κ cc nL own d ret) (hd : decode cc pc = .ok (.ldc2_w index, 3)) (hw : Cond.constantLong own index v ∈ TB) (k : Wd κ nL Q (pc + 3) lv (.long v :: st) σ) : Wd κ nL Q pc lv st σ :=
  fun H locs ls hP hS hl => lv_ldc2 hc.1 hc.2.1 hc.2.2.2.1 (hc.2.2.2.2.1 _ hw) hd (k H locs ls hP hS hl)
theorem r_iload_n {i : Fin 4} {x : Int32} (q : Nat) (hc : Cx κ cc nL own d ret) (hd : decode cc pc = .ok (.iload_n i, 1)) (hq : lv[q]? = some ((i : Nat), .int x)) (k : Wd κ nL Q (pc + 1) lv (.int x :: st) σ) : Wd κ nL Q pc lv st σ :=
  fun H locs ls hP hS hl => lv_iload_n hc.1 hc.2.1 hd rfl (lv_at hl q hq) (k H locs ls hP hS hl)
theorem r_iload {i : Nat} {x : Int32} (q : Nat) (hc : Cx κ cc nL own d ret) (hd : decode cc pc = .ok (.iload i, 2)) (hq : lv[q]? = some (i, .int x)) (k : Wd κ nL Q (pc + 2) lv (.int x :: st) σ) : Wd κ nL Q pc lv st σ :=
  fun H locs ls hP hS hl => lv_iload hc.1 hc.2.1 hd (lv_at hl q hq) (k H locs ls hP hS hl)
theorem r_istore_n {i : Fin 4} {x : Int32} (hc : Cx κ cc nL own d ret) (hd : decode cc pc = .ok (.istore_n i, 1)) (hn : (i : Nat) < nL) (hl : ((i : Nat), Value.int x) :: lv.filter (fun q => !(q.1 == (i : Nat)) && !(q.1 + 1 == (i : Nat) && q.2.category == 2)) = lv') (k : Wd κ nL Q (pc + 1) lv' st σ) : Wd κ nL Q pc lv (.int x :: st) σ :=
  fun H locs ls hP hS h => lv_istore_n hc.1 hc.2.1 hd rfl h hn hl (fun ls' h' => k H locs ls' hP hS h')
theorem r_istore {i : Nat} {x : Int32} (hc : Cx κ cc nL own d ret) (hd : decode cc pc = .ok (.istore i, 2)) (hn : i < nL) (hl : (i, Value.int x) :: lv.filter (fun q => !(q.1 == i) && !(q.1 + 1 == i && q.2.category == 2)) = lv') (k : Wd κ nL Q (pc + 2) lv' st σ) : Wd κ nL Q pc lv (.int x :: st) σ :=
  fun H locs ls hP hS h => lv_istore hc.1 hc.2.1 hd h hn hl (fun ls' h' => k H locs ls' hP hS h')
theorem r_aload_n {i : Fin 4} {x : Nat} (q : Nat) (hc : Cx κ cc nL own d ret) (hd : decode cc pc = .ok (.aload_n i, 1)) (hq : lv[q]? = some ((i : Nat), .ref x)) (k : Wd κ nL Q (pc + 1) lv (.ref x :: st) σ) : Wd κ nL Q pc lv st σ :=
  fun H locs ls hP hS hl => lv_aload_n hc.1 hc.2.1 hd rfl (lv_at hl q hq) (k H locs ls hP hS hl)
theorem r_aload {i : Nat} {x : Nat} (q : Nat) (hc : Cx κ cc nL own d ret) (hd : decode cc pc = .ok (.aload i, 2)) (hq : lv[q]? = some (i, .ref x)) (k : Wd κ nL Q (pc + 2) lv (.ref x :: st) σ) : Wd κ nL Q pc lv st σ :=
  fun H locs ls hP hS hl => lv_aload hc.1 hc.2.1 hd (lv_at hl q hq) (k H locs ls hP hS hl)
theorem r_astore_n {i : Fin 4} {x : Nat} (hc : Cx κ cc nL own d ret) (hd : decode cc pc = .ok (.astore_n i, 1)) (hn : (i : Nat) < nL) (hl : ((i : Nat), Value.ref x) :: lv.filter (fun q => !(q.1 == (i : Nat)) && !(q.1 + 1 == (i : Nat) && q.2.category == 2)) = lv') (k : Wd κ nL Q (pc + 1) lv' st σ) : Wd κ nL Q pc lv (.ref x :: st) σ :=
  fun H locs ls hP hS h => lv_astore_n hc.1 hc.2.1 hd rfl h hn hl (fun ls' h' => k H locs ls' hP hS h')
theorem r_astore {i : Nat} {x : Nat} (hc : Cx κ cc nL own d ret) (hd : decode cc pc = .ok (.astore i, 2)) (hn : i < nL) (hl : (i, Value.ref x) :: lv.filter (fun q => !(q.1 == i) && !(q.1 + 1 == i && q.2.category == 2)) = lv') (k : Wd κ nL Q (pc + 2) lv' st σ) : Wd κ nL Q pc lv (.ref x :: st) σ :=
  fun H locs ls hP hS h => lv_astore hc.1 hc.2.1 hd h hn hl (fun ls' h' => k H locs ls' hP hS h')
theorem r_lload_n {i : Fin 4} {x : Int64} (q : Nat) (hc : Cx κ cc nL own d ret) (hd : decode cc pc = .ok (.lload_n i, 1)) (hq : lv[q]? = some ((i : Nat), .long x)) (k : Wd κ nL Q (pc + 1) lv (.long x :: st) σ) : Wd κ nL Q pc lv st σ :=
  fun H locs ls hP hS hl => lv_lload_n hc.1 hc.2.1 hd rfl (lv_at hl q hq) (k H locs ls hP hS hl)
theorem r_lload {i : Nat} {x : Int64} (q : Nat) (hc : Cx κ cc nL own d ret) (hd : decode cc pc = .ok (.lload i, 2)) (hq : lv[q]? = some (i, .long x)) (k : Wd κ nL Q (pc + 2) lv (.long x :: st) σ) : Wd κ nL Q pc lv st σ :=
  fun H locs ls hP hS hl => lv_lload hc.1 hc.2.1 hd (lv_at hl q hq) (k H locs ls hP hS hl)
theorem r_lstore_n {i : Fin 4} {x : Int64} (hc : Cx κ cc nL own d ret) (hd : decode cc pc = .ok (.lstore_n i, 1)) (hn : (i : Nat) + 1 < nL) (hl : ((i : Nat), Value.long x) :: lv.filter (fun q => !(q.1 == (i : Nat)) && (!(q.1 == (i : Nat) + 1) && !(q.1 + 1 == (i : Nat) && q.2.category == 2))) = lv') (k : Wd κ nL Q (pc + 1) lv' st σ) : Wd κ nL Q pc lv (.long x :: st) σ :=
  fun H locs ls hP hS h => lv_lstore_n hc.1 hc.2.1 hd rfl h hn hl (fun ls' h' => k H locs ls' hP hS h')
theorem r_lstore {i : Nat} {x : Int64} (hc : Cx κ cc nL own d ret) (hd : decode cc pc = .ok (.lstore i, 2)) (hn : i + 1 < nL) (hl : (i, Value.long x) :: lv.filter (fun q => !(q.1 == i) && (!(q.1 == i + 1) && !(q.1 + 1 == i && q.2.category == 2))) = lv') (k : Wd κ nL Q (pc + 2) lv' st σ) : Wd κ nL Q pc lv (.long x :: st) σ :=
  fun H locs ls hP hS h => lv_lstore hc.1 hc.2.1 hd h hn hl (fun ls' h' => k H locs ls' hP hS h')
theorem r_iinc {i : Nat} {n : Int} {x v : Int32} (q : Nat) (hc : Cx κ cc nL own d ret) (hd : decode cc pc = .ok (.iinc i n, 3)) (hq : lv[q]? = some (i, .int x)) (hv : Int32.ofInt n = v) (hn : i < nL) (hl : (i, Value.int (x + v)) :: lv.filter (fun q => !(q.1 == i) && !(q.1 + 1 == i && q.2.category == 2)) = lv') (k : Wd κ nL Q (pc + 3) lv' st σ) : Wd κ nL Q pc lv st σ :=
  fun H locs ls hP hS h => lv_iinc hc.1 hc.2.1 hd h hq (by rw [hv]) hn hl (fun ls' h' => k H locs ls' hP hS h')
theorem r_iadd {x y : Int32} (hc : Cx κ cc nL own d ret) (hd : decode cc pc = .ok (.iadd, 1))  (k : Wd κ nL Q (pc + 1) lv (.int (x + y) :: st) σ) : Wd κ nL Q pc lv (.int y :: .int x :: st) σ :=
  fun H locs ls hP hS hl => lv_iadd hc.1 hc.2.1 hd (k H locs ls hP hS hl)
theorem r_isub {x y : Int32} (hc : Cx κ cc nL own d ret) (hd : decode cc pc = .ok (.isub, 1))  (k : Wd κ nL Q (pc + 1) lv (.int (x - y) :: st) σ) : Wd κ nL Q pc lv (.int y :: .int x :: st) σ :=
  fun H locs ls hP hS hl => lv_isub hc.1 hc.2.1 hd (k H locs ls hP hS hl)
theorem r_imul {x y : Int32} (hc : Cx κ cc nL own d ret) (hd : decode cc pc = .ok (.imul, 1))  (k : Wd κ nL Q (pc + 1) lv (.int (x * y) :: st) σ) : Wd κ nL Q pc lv (.int y :: .int x :: st) σ :=
  fun H locs ls hP hS hl => lv_imul hc.1 hc.2.1 hd (k H locs ls hP hS hl)
theorem r_iand {x y : Int32} (hc : Cx κ cc nL own d ret) (hd : decode cc pc = .ok (.iand, 1))  (k : Wd κ nL Q (pc + 1) lv (.int (x &&& y) :: st) σ) : Wd κ nL Q pc lv (.int y :: .int x :: st) σ :=
  fun H locs ls hP hS hl => lv_iand hc.1 hc.2.1 hd (k H locs ls hP hS hl)
theorem r_ior {x y : Int32} (hc : Cx κ cc nL own d ret) (hd : decode cc pc = .ok (.ior, 1))  (k : Wd κ nL Q (pc + 1) lv (.int (x ||| y) :: st) σ) : Wd κ nL Q pc lv (.int y :: .int x :: st) σ :=
  fun H locs ls hP hS hl => lv_ior hc.1 hc.2.1 hd (k H locs ls hP hS hl)
theorem r_ixor {x y : Int32} (hc : Cx κ cc nL own d ret) (hd : decode cc pc = .ok (.ixor, 1))  (k : Wd κ nL Q (pc + 1) lv (.int (x ^^^ y) :: st) σ) : Wd κ nL Q pc lv (.int y :: .int x :: st) σ :=
  fun H locs ls hP hS hl => lv_ixor hc.1 hc.2.1 hd (k H locs ls hP hS hl)
theorem r_ishl {x y : Int32} (hc : Cx κ cc nL own d ret) (hd : decode cc pc = .ok (.ishl, 1))  (k : Wd κ nL Q (pc + 1) lv (.int (x <<< (y &&& 31)) :: st) σ) : Wd κ nL Q pc lv (.int y :: .int x :: st) σ :=
  fun H locs ls hP hS hl => lv_ishl hc.1 hc.2.1 hd (k H locs ls hP hS hl)
theorem r_ishr {x y : Int32} (hc : Cx κ cc nL own d ret) (hd : decode cc pc = .ok (.ishr, 1))  (k : Wd κ nL Q (pc + 1) lv (.int (x >>> (y &&& 31)) :: st) σ) : Wd κ nL Q pc lv (.int y :: .int x :: st) σ :=
  fun H locs ls hP hS hl => lv_ishr hc.1 hc.2.1 hd (k H locs ls hP hS hl)
theorem r_ladd {x y : Int64} (hc : Cx κ cc nL own d ret) (hd : decode cc pc = .ok (.ladd, 1))  (k : Wd κ nL Q (pc + 1) lv (.long (x + y) :: st) σ) : Wd κ nL Q pc lv (.long y :: .long x :: st) σ :=
  fun H locs ls hP hS hl => lv_ladd hc.1 hc.2.1 hd (k H locs ls hP hS hl)
theorem r_lsub {x y : Int64} (hc : Cx κ cc nL own d ret) (hd : decode cc pc = .ok (.lsub, 1))  (k : Wd κ nL Q (pc + 1) lv (.long (x - y) :: st) σ) : Wd κ nL Q pc lv (.long y :: .long x :: st) σ :=
  fun H locs ls hP hS hl => lv_lsub hc.1 hc.2.1 hd (k H locs ls hP hS hl)
theorem r_lmul {x y : Int64} (hc : Cx κ cc nL own d ret) (hd : decode cc pc = .ok (.lmul, 1))  (k : Wd κ nL Q (pc + 1) lv (.long (x * y) :: st) σ) : Wd κ nL Q pc lv (.long y :: .long x :: st) σ :=
  fun H locs ls hP hS hl => lv_lmul hc.1 hc.2.1 hd (k H locs ls hP hS hl)
theorem r_lcmp {x y : Int64} (hc : Cx κ cc nL own d ret) (hd : decode cc pc = .ok (.lcmp, 1))  (k : Wd κ nL Q (pc + 1) lv (.int (lg_cmp x y) :: st) σ) : Wd κ nL Q pc lv (.long y :: .long x :: st) σ :=
  fun H locs ls hP hS hl => W.lcmp hc.1 hc.2.1 hd (k H locs ls hP hS hl)
theorem r_ineg {x : Int32} (hc : Cx κ cc nL own d ret) (hd : decode cc pc = .ok (.ineg, 1))  (k : Wd κ nL Q (pc + 1) lv (.int (-x) :: st) σ) : Wd κ nL Q pc lv (.int x :: st) σ :=
  fun H locs ls hP hS hl => lv_ineg hc.1 hc.2.1 hd (k H locs ls hP hS hl)
theorem r_i2l {x : Int32} (hc : Cx κ cc nL own d ret) (hd : decode cc pc = .ok (.i2l, 1))  (k : Wd κ nL Q (pc + 1) lv (.long x.toInt64 :: st) σ) : Wd κ nL Q pc lv (.int x :: st) σ :=
  fun H locs ls hP hS hl => lv_i2l hc.1 hc.2.1 hd rfl (k H locs ls hP hS hl)
theorem r_l2i {x : Int64} (hc : Cx κ cc nL own d ret) (hd : decode cc pc = .ok (.l2i, 1))  (k : Wd κ nL Q (pc + 1) lv (.int x.toInt32 :: st) σ) : Wd κ nL Q pc lv (.long x :: st) σ :=
  fun H locs ls hP hS hl => lv_l2i hc.1 hc.2.1 hd rfl (k H locs ls hP hS hl)
theorem r_i2b {x : Int32} (hc : Cx κ cc nL own d ret) (hd : decode cc pc = .ok (.i2b, 1))  (k : Wd κ nL Q (pc + 1) lv (.int x.toInt8.toInt32 :: st) σ) : Wd κ nL Q pc lv (.int x :: st) σ :=
  fun H locs ls hP hS hl => lv_i2b hc.1 hc.2.1 hd rfl (k H locs ls hP hS hl)
theorem r_i2s {x : Int32} (hc : Cx κ cc nL own d ret) (hd : decode cc pc = .ok (.i2s, 1))  (k : Wd κ nL Q (pc + 1) lv (.int x.toInt16.toInt32 :: st) σ) : Wd κ nL Q pc lv (.int x :: st) σ :=
  fun H locs ls hP hS hl => lv_i2s hc.1 hc.2.1 hd rfl (k H locs ls hP hS hl)
theorem r_iushr {x y : Int32} (hc : Cx κ cc nL own d ret) (hd : decode cc pc = .ok (.iushr, 1))  (k : Wd κ nL Q (pc + 1) lv (.int (x.toUInt32 >>> (y.toUInt32 &&& Int32.toUInt32 31)).toInt32 :: st) σ) : Wd κ nL Q pc lv (.int y :: .int x :: st) σ :=
  fun H locs ls hP hS hl => lv_iushr hc.1 hc.2.1 hd rfl (k H locs ls hP hS hl)
theorem r_dup {v : Value} (hc : Cx κ cc nL own d ret) (hd : decode cc pc = .ok (.dup, 1)) (hv : v.category = 1) (k : Wd κ nL Q (pc + 1) lv (v :: v :: st) σ) : Wd κ nL Q pc lv (v :: st) σ :=
  fun H locs ls hP hS hl => lv_dup hc.1 hc.2.1 hd hv (k H locs ls hP hS hl)
theorem r_pop {v : Value} (hc : Cx κ cc nL own d ret) (hd : decode cc pc = .ok (.pop, 1)) (hv : v.category = 1) (k : Wd κ nL Q (pc + 1) lv (st) σ) : Wd κ nL Q pc lv (v :: st) σ :=
  fun H locs ls hP hS hl => lv_pop hc.1 hc.2.1 hd hv (k H locs ls hP hS hl)
theorem r_dup2 {v u : Value} (hc : Cx κ cc nL own d ret) (hd : decode cc pc = .ok (.dup2, 1)) (hv : v.category = 1) (hu : u.category = 1) (k : Wd κ nL Q (pc + 1) lv (v :: u :: v :: u :: st) σ) : Wd κ nL Q pc lv (v :: u :: st) σ :=
  fun H locs ls hP hS hl => lv_dup2_11 hc.1 hc.2.1 hd hv hu (k H locs ls hP hS hl)
theorem r_goto {off : Int} (tgt : Nat) (hc : Cx κ cc nL own d ret) (hd : decode cc pc = .ok (.goto off, 3)) (ht : (pc : Int) + off = (tgt : Int)) (k : Wd κ nL Q tgt lv st σ) : Wd κ nL Q pc lv st σ :=
  fun H locs ls hP hS hl => lv_goto hc.1 hc.2.1 hd ht (k H locs ls hP hS hl)
theorem r_idiv {x y : Int32} {B : Prop} (hc : Cx κ cc nL own d ret) (hd : decode cc pc = .ok (.idiv, 1)) (h : ¬ y = 0 ∧ B) (k : B → Wd κ nL Q (pc + 1) lv (.int (x / y) :: st) σ) : Wd κ nL Q pc lv (.int y :: .int x :: st) σ :=
  fun H locs ls hP hS hl => lv_idiv hc.1 hc.2.1 hd h.1 (k h.2 H locs ls hP hS hl)
theorem r_irem {x y : Int32} {B : Prop} (hc : Cx κ cc nL own d ret) (hd : decode cc pc = .ok (.irem, 1)) (h : ¬ y = 0 ∧ B) (k : B → Wd κ nL Q (pc + 1) lv (.int (x % y) :: st) σ) : Wd κ nL Q pc lv (.int y :: .int x :: st) σ :=
  fun H locs ls hP hS hl => lv_irem hc.1 hc.2.1 hd h.1 (by rw [irem_eq_mod x y]; exact k h.2 H locs ls hP hS hl)
theorem r_ldiv {x y : Int64} {B : Prop} (hc : Cx κ cc nL own d ret) (hd : decode cc pc = .ok (.ldiv, 1)) (h : ¬ y = 0 ∧ B) (k : B → Wd κ nL Q (pc + 1) lv (.long (x / y) :: st) σ) : Wd κ nL Q pc lv (.long y :: .long x :: st) σ :=
  fun H locs ls hP hS hl => lv_ldiv hc.1 hc.2.1 hd h.1 (k h.2 H locs ls hP hS hl)
theorem r_lrem {x y : Int64} {B : Prop} (hc : Cx κ cc nL own d ret) (hd : decode cc pc = .ok (.lrem, 1)) (h : ¬ y = 0 ∧ B) (k : B → Wd κ nL Q (pc + 1) lv (.long (x % y) :: st) σ) : Wd κ nL Q pc lv (.long y :: .long x :: st) σ :=
  fun H locs ls hP hS hl => lv_lrem hc.1 hc.2.1 hd h.1 (by rw [lrem_eq_mod x y]; exact k h.2 H locs ls hP hS hl)
theorem r_if_eq {x : Int32} {off : Int} {B C : Prop} (tgt : Nat) (hc : Cx κ cc nL own d ret) (hd : decode cc pc = .ok (.ifCond .eq off, 3)) (ht : (pc : Int) + off = (tgt : Int)) (h : if x = 0 then B else C) (kt : B → Wd κ nL Q (tgt) lv st σ) (kf : C → Wd κ nL Q (pc + 3) lv st σ) : Wd κ nL Q pc lv (.int x :: st) σ := by
  intro H locs ls hP hS hl
  refine lv_if_eq hc.1 hc.2.1 hd ht (fun q => ?_) (fun q => ?_)
  · first | (rw [if_pos q] at h; exact kt h H locs ls hP hS hl) | (rw [if_neg q] at h; exact kf h H locs ls hP hS hl)
  · first | (rw [if_pos q] at h; exact kt h H locs ls hP hS hl) | (rw [if_neg q] at h; exact kf h H locs ls hP hS hl)
theorem r_if_ne {x : Int32} {off : Int} {B C : Prop} (tgt : Nat) (hc : Cx κ cc nL own d ret) (hd : decode cc pc = .ok (.ifCond .ne off, 3)) (ht : (pc : Int) + off = (tgt : Int)) (h : if x = 0 then B else C) (kt : B → Wd κ nL Q (pc + 3) lv st σ) (kf : C → Wd κ nL Q (tgt) lv st σ) : Wd κ nL Q pc lv (.int x :: st) σ := by
  intro H locs ls hP hS hl
  refine lv_if_ne hc.1 hc.2.1 hd ht (fun q => ?_) (fun q => ?_)
  · first | (rw [if_pos q] at h; exact kt h H locs ls hP hS hl) | (rw [if_neg q] at h; exact kf h H locs ls hP hS hl)
  · first | (rw [if_pos q] at h; exact kt h H locs ls hP hS hl) | (rw [if_neg q] at h; exact kf h H locs ls hP hS hl)
theorem r_if_lt {x : Int32} {off : Int} {B C : Prop} (tgt : Nat) (hc : Cx κ cc nL own d ret) (hd : decode cc pc = .ok (.ifCond .lt off, 3)) (ht : (pc : Int) + off = (tgt : Int)) (h : if x < 0 then B else C) (kt : B → Wd κ nL Q (tgt) lv st σ) (kf : C → Wd κ nL Q (pc + 3) lv st σ) : Wd κ nL Q pc lv (.int x :: st) σ := by
  intro H locs ls hP hS hl
  refine lv_if_lt hc.1 hc.2.1 hd ht (fun q => ?_) (fun q => ?_)
  · first | (rw [if_pos q] at h; exact kt h H locs ls hP hS hl) | (rw [if_neg q] at h; exact kf h H locs ls hP hS hl)
  · first | (rw [if_pos q] at h; exact kt h H locs ls hP hS hl) | (rw [if_neg q] at h; exact kf h H locs ls hP hS hl)
theorem r_if_ge {x : Int32} {off : Int} {B C : Prop} (tgt : Nat) (hc : Cx κ cc nL own d ret) (hd : decode cc pc = .ok (.ifCond .ge off, 3)) (ht : (pc : Int) + off = (tgt : Int)) (h : if 0 ≤ x then B else C) (kt : B → Wd κ nL Q (tgt) lv st σ) (kf : C → Wd κ nL Q (pc + 3) lv st σ) : Wd κ nL Q pc lv (.int x :: st) σ := by
  intro H locs ls hP hS hl
  refine lv_if_ge hc.1 hc.2.1 hd ht (fun q => ?_) (fun q => ?_)
  · first | (rw [if_pos q] at h; exact kt h H locs ls hP hS hl) | (rw [if_neg q] at h; exact kf h H locs ls hP hS hl)
  · first | (rw [if_pos q] at h; exact kt h H locs ls hP hS hl) | (rw [if_neg q] at h; exact kf h H locs ls hP hS hl)
theorem r_if_gt {x : Int32} {off : Int} {B C : Prop} (tgt : Nat) (hc : Cx κ cc nL own d ret) (hd : decode cc pc = .ok (.ifCond .gt off, 3)) (ht : (pc : Int) + off = (tgt : Int)) (h : if 0 < x then B else C) (kt : B → Wd κ nL Q (tgt) lv st σ) (kf : C → Wd κ nL Q (pc + 3) lv st σ) : Wd κ nL Q pc lv (.int x :: st) σ := by
  intro H locs ls hP hS hl
  refine lv_if_gt hc.1 hc.2.1 hd ht (fun q => ?_) (fun q => ?_)
  · first | (rw [if_pos q] at h; exact kt h H locs ls hP hS hl) | (rw [if_neg q] at h; exact kf h H locs ls hP hS hl)
  · first | (rw [if_pos q] at h; exact kt h H locs ls hP hS hl) | (rw [if_neg q] at h; exact kf h H locs ls hP hS hl)
theorem r_if_le {x : Int32} {off : Int} {B C : Prop} (tgt : Nat) (hc : Cx κ cc nL own d ret) (hd : decode cc pc = .ok (.ifCond .le off, 3)) (ht : (pc : Int) + off = (tgt : Int)) (h : if x ≤ 0 then B else C) (kt : B → Wd κ nL Q (tgt) lv st σ) (kf : C → Wd κ nL Q (pc + 3) lv st σ) : Wd κ nL Q pc lv (.int x :: st) σ := by
  intro H locs ls hP hS hl
  refine lv_if_le hc.1 hc.2.1 hd ht (fun q => ?_) (fun q => ?_)
  · first | (rw [if_pos q] at h; exact kt h H locs ls hP hS hl) | (rw [if_neg q] at h; exact kf h H locs ls hP hS hl)
  · first | (rw [if_pos q] at h; exact kt h H locs ls hP hS hl) | (rw [if_neg q] at h; exact kf h H locs ls hP hS hl)
theorem r_icmp_eq {x y : Int32} {off : Int} {B C : Prop} (tgt : Nat) (hc : Cx κ cc nL own d ret) (hd : decode cc pc = .ok (.if_icmp .eq off, 3)) (ht : (pc : Int) + off = (tgt : Int)) (h : if x = y then B else C) (kt : B → Wd κ nL Q (tgt) lv st σ) (kf : C → Wd κ nL Q (pc + 3) lv st σ) : Wd κ nL Q pc lv (.int y :: .int x :: st) σ := by
  intro H locs ls hP hS hl
  refine lv_icmp_eq hc.1 hc.2.1 hd ht (fun q => ?_) (fun q => ?_)
  · first | (rw [if_pos q] at h; exact kt h H locs ls hP hS hl) | (rw [if_neg q] at h; exact kf h H locs ls hP hS hl)
  · first | (rw [if_pos q] at h; exact kt h H locs ls hP hS hl) | (rw [if_neg q] at h; exact kf h H locs ls hP hS hl)
theorem r_icmp_ne {x y : Int32} {off : Int} {B C : Prop} (tgt : Nat) (hc : Cx κ cc nL own d ret) (hd : decode cc pc = .ok (.if_icmp .ne off, 3)) (ht : (pc : Int) + off = (tgt : Int)) (h : if x = y then B else C) (kt : B → Wd κ nL Q (pc + 3) lv st σ) (kf : C → Wd κ nL Q (tgt) lv st σ) : Wd κ nL Q pc lv (.int y :: .int x :: st) σ := by
  intro H locs ls hP hS hl
  refine lv_icmp_ne hc.1 hc.2.1 hd ht (fun q => ?_) (fun q => ?_)
  · first | (rw [if_pos q] at h; exact kt h H locs ls hP hS hl) | (rw [if_neg q] at h; exact kf h H locs ls hP hS hl)
  · first | (rw [if_pos q] at h; exact kt h H locs ls hP hS hl) | (rw [if_neg q] at h; exact kf h H locs ls hP hS hl)
theorem r_icmp_lt {x y : Int32} {off : Int} {B C : Prop} (tgt : Nat) (hc : Cx κ cc nL own d ret) (hd : decode cc pc = .ok (.if_icmp .lt off, 3)) (ht : (pc : Int) + off = (tgt : Int)) (h : if x < y then B else C) (kt : B → Wd κ nL Q (tgt) lv st σ) (kf : C → Wd κ nL Q (pc + 3) lv st σ) : Wd κ nL Q pc lv (.int y :: .int x :: st) σ := by
  intro H locs ls hP hS hl
  refine lv_icmp_lt hc.1 hc.2.1 hd ht (fun q => ?_) (fun q => ?_)
  · first | (rw [if_pos q] at h; exact kt h H locs ls hP hS hl) | (rw [if_neg q] at h; exact kf h H locs ls hP hS hl)
  · first | (rw [if_pos q] at h; exact kt h H locs ls hP hS hl) | (rw [if_neg q] at h; exact kf h H locs ls hP hS hl)
theorem r_icmp_ge {x y : Int32} {off : Int} {B C : Prop} (tgt : Nat) (hc : Cx κ cc nL own d ret) (hd : decode cc pc = .ok (.if_icmp .ge off, 3)) (ht : (pc : Int) + off = (tgt : Int)) (h : if y ≤ x then B else C) (kt : B → Wd κ nL Q (tgt) lv st σ) (kf : C → Wd κ nL Q (pc + 3) lv st σ) : Wd κ nL Q pc lv (.int y :: .int x :: st) σ := by
  intro H locs ls hP hS hl
  refine lv_icmp_ge hc.1 hc.2.1 hd ht (fun q => ?_) (fun q => ?_)
  · first | (rw [if_pos q] at h; exact kt h H locs ls hP hS hl) | (rw [if_neg q] at h; exact kf h H locs ls hP hS hl)
  · first | (rw [if_pos q] at h; exact kt h H locs ls hP hS hl) | (rw [if_neg q] at h; exact kf h H locs ls hP hS hl)
theorem r_icmp_gt {x y : Int32} {off : Int} {B C : Prop} (tgt : Nat) (hc : Cx κ cc nL own d ret) (hd : decode cc pc = .ok (.if_icmp .gt off, 3)) (ht : (pc : Int) + off = (tgt : Int)) (h : if y < x then B else C) (kt : B → Wd κ nL Q (tgt) lv st σ) (kf : C → Wd κ nL Q (pc + 3) lv st σ) : Wd κ nL Q pc lv (.int y :: .int x :: st) σ := by
  intro H locs ls hP hS hl
  refine lv_icmp_gt hc.1 hc.2.1 hd ht (fun q => ?_) (fun q => ?_)
  · first | (rw [if_pos q] at h; exact kt h H locs ls hP hS hl) | (rw [if_neg q] at h; exact kf h H locs ls hP hS hl)
  · first | (rw [if_pos q] at h; exact kt h H locs ls hP hS hl) | (rw [if_neg q] at h; exact kf h H locs ls hP hS hl)
theorem r_icmp_le {x y : Int32} {off : Int} {B C : Prop} (tgt : Nat) (hc : Cx κ cc nL own d ret) (hd : decode cc pc = .ok (.if_icmp .le off, 3)) (ht : (pc : Int) + off = (tgt : Int)) (h : if x ≤ y then B else C) (kt : B → Wd κ nL Q (tgt) lv st σ) (kf : C → Wd κ nL Q (pc + 3) lv st σ) : Wd κ nL Q pc lv (.int y :: .int x :: st) σ := by
  intro H locs ls hP hS hl
  refine lv_icmp_le hc.1 hc.2.1 hd ht (fun q => ?_) (fun q => ?_)
  · first | (rw [if_pos q] at h; exact kt h H locs ls hP hS hl) | (rw [if_neg q] at h; exact kf h H locs ls hP hS hl)
  · first | (rw [if_pos q] at h; exact kt h H locs ls hP hS hl) | (rw [if_neg q] at h; exact kf h H locs ls hP hS hl)
theorem r_tswIn {dflt lo hi off : Int} {offs : Array Int} {len : Nat} {x : Int32} (y : Int32) (tgt : Nat) (hc : Cx κ cc nL own d ret) (hd : decode cc pc = .ok (.tableswitch dflt lo hi offs, len)) (hxy : x = y) (h1 : ¬ y.toInt < lo) (h2 : ¬ hi < y.toInt) (ho : offs[(y.toInt - lo).toNat]? = some off) (ht : (pc : Int) + off = (tgt : Int)) (k : Wd κ nL Q tgt lv st σ) : Wd κ nL Q pc lv (.int x :: st) σ :=
  fun H locs ls hP hS hl => lv_tableIn hc.1 hc.2.1 hd (by rw [hxy]; exact h1) (by rw [hxy]; exact h2) (by rw [hxy]; exact ho) ht (k H locs ls hP hS hl)
theorem r_tswOut {dflt lo hi : Int} {offs : Array Int} {len : Nat} {x : Int32} (tgt : Nat) (hc : Cx κ cc nL own d ret) (hd : decode cc pc = .ok (.tableswitch dflt lo hi offs, len)) (h : x.toInt < lo ∨ hi < x.toInt) (ht : (pc : Int) + dflt = (tgt : Int)) (k : Wd κ nL Q tgt lv st σ) : Wd κ nL Q pc lv (.int x :: st) σ :=
  fun H locs ls hP hS hl => lv_tableOut hc.1 hc.2.1 hd h ht (k H locs ls hP hS hl)
theorem r_lsw {dflt off : Int} {ps : Array (Int × Int)} {len : Nat} {x : Int32} (tgt : Nat) (hc : Cx κ cc nL own d ret) (hd : decode cc pc = .ok (.lookupswitch dflt ps, len)) (hp : (ps.toList.zip (ps.toList.drop 1)).all (fun (a, next) => a.1 < next.1) = true) (ho : Op.lookupswitch.offset ps.toList dflt x.toInt = off) (ht : (pc : Int) + off = (tgt : Int)) (k : Wd κ nL Q tgt lv st σ) : Wd κ nL Q pc lv (.int x :: st) σ :=
  fun H locs ls hP hS hl => lv_lookup hc.1 hc.2.1 hd hp ho ht (k H locs ls hP hS hl)
theorem r_sub (ks : List Nat) (hk : lv_pick lv ks = lv') (k : Wd κ nL Q pc lv' st σ) : Wd κ nL Q pc lv st σ :=
  fun H locs ls hP hS hl => k H locs ls hP hS (lv_sub hl ks hk)
theorem r_get {T : u_T} {N K f o index : Nat} {C : String} {v : Value} (hc : Cx κ cc nL own d ret) (hd : decode cc pc = .ok (.getfield index, 3)) (hw : Cond.fieldLink own index C (T f).2.1 (T f).2.2.1 ∈ TB) (hin : ∀ w ∈ u_ws C T N, w ∈ TB) (hcl : vwCl[K]? = some (C, T, N)) (hT : (T f).1 = C) (hf : f < N) (hK : K < 8) (ho : kd o = K) (hv : (flds κ.2.2.1 (σ o) o K)[f]? = some v) (k : Wd κ nL Q (pc + 3) lv (v :: st) σ) : Wd κ nL Q pc lv (aK κ o :: st) σ :=
  fun H locs ls hP hS hl => va_get (D := κ.2.2.2.1) (ci := K) (C := C) (T := T) (N := N) hc.1 hc.2.1 hc.2.2.2.2.1 hin hc.2.2.2.1 hc.2.2.2.2.2.1 hP o (wd_obj κ.2.2 σ ho hK) hcl f hf (hc.2.2.2.2.1 _ hw) (fun x h => by rw [hT] at h; exact h) hv hd (k H locs ls hP hS hl)
theorem flds_up (ad : Nat → Nat) (r : Nat → Int32) (i K f : Nat) (v x : Int32) (h : (flds ad r i K)[f]? = some (.int x)) : flds ad (upd r f v) i K = (flds ad r i K).set f (.int v) := by
  match K, f, h with
  | 0, 0, h => exact absurd h (by simp [flds])
  | 0, 1, h => exact absurd h (by simp [flds])
  | 0, 2, h => exact absurd h (by simp [flds])
  | 0, 3, _ => rfl
  | 0, 4, _ => rfl
  | 0, n + 5, h => exact absurd h (by simp [flds])
  | 1, 0, h => exact absurd h (by simp [flds])
  | 1, 1, _ => rfl
  | 1, n + 2, h => exact absurd h (by simp [flds])
  | 2, 0, h => exact absurd h (by simp [flds])
  | 2, 1, _ => rfl
  | 2, 2, _ => rfl
  | 2, 3, _ => rfl
  | 2, n + 4, h => exact absurd h (by simp [flds])
  | 3, 0, h => exact absurd h (by simp [flds])
  | 3, 1, _ => rfl
  | 3, 2, _ => rfl
  | 3, 3, _ => rfl
  | 3, 4, _ => rfl
  | 3, n + 5, h => exact absurd h (by simp [flds])
  | 4, 0, h => exact absurd h (by simp [flds])
  | 4, 1, _ => rfl
  | 4, 2, _ => rfl
  | 4, n + 3, h => exact absurd h (by simp [flds])
  | 5, 0, h => exact absurd h (by simp [flds])
  | 5, 1, h => exact absurd h (by simp [flds])
  | 5, 2, h => exact absurd h (by simp [flds])
  | 5, 3, h => exact absurd h (by simp [flds])
  | 5, 4, h => exact absurd h (by simp [flds])
  | 5, 5, h => exact absurd h (by simp [flds])
  | 5, 6, h => exact absurd h (by simp [flds])
  | 5, 7, h => exact absurd h (by simp [flds])
  | 5, 8, _ => rfl
  | 5, 9, _ => rfl
  | 5, 10, _ => rfl
  | 5, 11, _ => rfl
  | 5, 12, _ => rfl
  | 5, n + 13, h => exact absurd h (by simp [flds])
  | 6, 0, h => exact absurd h (by simp [flds])
  | 6, 1, h => exact absurd h (by simp [flds])
  | 6, 2, h => exact absurd h (by simp [flds])
  | 6, 3, h => exact absurd h (by simp [flds])
  | 6, 4, h => exact absurd h (by simp [flds])
  | 6, 5, h => exact absurd h (by simp [flds])
  | 6, 6, h => exact absurd h (by simp [flds])
  | 6, 7, h => exact absurd h (by simp [flds])
  | 6, 8, _ => rfl
  | 6, 9, _ => rfl
  | 6, n + 10, h => exact absurd h (by simp [flds])
  | 7, 0, h => exact absurd h (by simp [flds])
  | 7, 1, h => exact absurd h (by simp [flds])
  | 7, 2, h => exact absurd h (by simp [flds])
  | 7, 3, _ => rfl
  | 7, 4, _ => rfl
  | 7, 5, h => exact absurd h (by simp [flds])
  | 7, 6, _ => rfl
  | 7, 7, _ => rfl
  | 7, 8, _ => rfl
  | 7, 9, _ => rfl
  | 7, 10, _ => rfl
  | 7, 11, _ => rfl
  | 7, 12, h => exact absurd h (by simp [flds])
  | 7, 13, h => exact absurd h (by simp [flds])
  | 7, 14, h => exact absurd h (by simp [flds])
  | 7, 15, h => exact absurd h (by simp [flds])
  | 7, 16, h => exact absurd h (by simp [flds])
  | 7, 17, h => exact absurd h (by simp [flds])
  | 7, 18, _ => rfl
  | 7, 19, h => exact absurd h (by simp [flds])
  | 7, 20, _ => rfl
  | 7, 21, h => exact absurd h (by simp [flds])
  | 7, 22, h => exact absurd h (by simp [flds])
  | 7, n + 23, h => exact absurd h (by simp [flds])
  | n + 8, f, h => exact absurd h (by simp [flds])
theorem st_up_same (σ : St) (i j : Nat) (v : Int32) : st_up σ i j v i = upd (σ i) j v := by unfold st_up; rw [if_pos rfl]
theorem st_up_ne (σ : St) {i a : Nat} (j : Nat) (v : Int32) (h : a ≠ i) : st_up σ i j v a = σ a := by unfold st_up; rw [if_neg h]
theorem wd_put (Γ : Gm) (σ : St) {i K f : Nat} {x : Int32} (v : Int32) (hi : kd i = K) (hK : K < 8) (hf : (flds Γ.1 (σ i) i K)[f]? = some (.int x)) : (wd Γ σ).set i (Γ.1 i, .inr (K, (flds Γ.1 (σ i) i K).set f (.int v))) = wd Γ (st_up σ i f v) := by
  refine wd_set Γ (kd_lt hi (by omega)) ?_ (fun j hj => st_up_ne σ f v hj)
  rw [st_up_same, hi]
  unfold cellK
  rw [if_neg (by omega), if_neg (by omega), if_neg (by omega), if_neg (by omega), flds_up _ _ _ _ _ _ _ hf]
theorem wd_sto (Γ : Gm) (σ : St) {i : Nat} (j : Nat) (v : Int32) (hi : kd i = 8) : (wd Γ σ).set i (Γ.1 i, .inl (Γ.2.2.1.1, ln i, .inl (upd (σ i) j v))) = wd Γ (st_up σ i j v) := by
  refine wd_set Γ (kd_lt hi (by omega)) ?_ (fun a ha => st_up_ne σ j v ha)
  rw [st_up_same, hi]; rfl
theorem wd_stz (Γ : Gm) (σ : St) {i : Nat} (j : Nat) (v : Int32) (hi : kd i = 9) : (wd Γ σ).set i (Γ.1 i, .inl (Γ.2.2.1.2.1, ln i, .inl (upd (σ i) j v))) = wd Γ (st_up σ i j v) := by
  refine wd_set Γ (kd_lt hi (by omega)) ?_ (fun a ha => st_up_ne σ j v ha)
  rw [st_up_same, hi]; rfl
theorem wd_cpy (Γ : Gm) (σ : St) {a b : Nat} (sp dp n : Nat) (hb : kd b = 8) : (wd Γ σ).set b (Γ.1 b, .inl (Γ.2.2.1.1, ln b, .inl (va_cpy (σ a) (σ b) sp dp n))) = wd Γ (st_cp σ a sp b dp n) := by
  refine wd_set Γ (kd_lt hb (by omega)) ?_ (fun j hj => by unfold st_cp; rw [if_neg hj])
  unfold st_cp; rw [if_pos rfl, hb]; rfl
theorem r_put {T : u_T} {ty0 : Nat → FieldType} {N K f o index : Nat} {C : String} {x v : Int32} (hc : Cx κ cc nL own d ret) (hd : decode cc pc = .ok (.putfield index, 3)) (hw : Cond.fieldLink own index C (T f).2.1 (T f).2.2.1 ∈ TB) (hin : ∀ w ∈ u_ws C T N, w ∈ TB) (hty : ∀ k, k < N → parseFieldDescriptor (T k).2.2.1 = some (ty0 k)) (hnm : ∀ a, a < N → ∀ b, b < N → a ≠ b → (T a).2.1 ≠ (T b).2.1) (hcl : vwCl[K]? = some (C, T, N)) (hT : (T f).1 = C) (hfin : (T f).2.2.2 = false) (hI : ty0 f = .int) (hf : f < N) (hK : K < 8) (ho : kd o = K) (hv : (flds κ.2.2.1 (σ o) o K)[f]? = some (.int x)) (k : Wd κ nL Q (pc + 3) lv st (st_up σ o f v)) : Wd κ nL Q pc lv (.int v :: aK κ o :: st) σ := by
  intro H locs ls hP hS hl
  refine va_put (D := κ.2.2.2.1) (ci := K) (C := C) (T := T) (N := N) (A := AA κ.2.2) hc.1 hc.2.1 hc.2.2.2.2.1 hin ty0 hty hnm hc.2.2.2.1 hc.2.2.2.2.2.1 hP (wd_D hc.2.2.2.2.2.2.1 σ) hS o (wd_obj κ.2.2 σ ho hK) hcl f hf (hc.2.2.2.2.1 _ hw) (fun x h => by rw [hT] at h; exact h) hfin (ty := .int) (by rw [hty f hf, hI]) rfl rfl (List.getElem?_eq_some_iff.mp hv).1 hd (fun H1 locs1 hP1 _ hS1 => ?_)
  rw [wd_put κ.2.2 σ v ho hK hv] at hP1
  exact k H1 locs1 ls hP1 hS1 hl
theorem r_iald {o : Nat} {i : Int32} {B : Prop} (hc : Cx κ cc nL own d ret) (hd : decode cc pc = .ok (.iaload, 1)) (ho : kd o = 8) (h : vp_in i (ln o) ∧ B) (k : B → Wd κ nL Q (pc + 1) lv (.int (σ o i.toNatClampNeg) :: st) σ) : Wd κ nL Q pc lv (.int i :: aK κ o :: st) σ :=
  fun H locs ls hP hS hl => va_iald (D := κ.2.2.2.1) hc.1 hc.2.1 hc.2.2.2.2.2.1 hP o 0 (wd_int κ.2.2 σ ho) rfl h.1 hd (k h.2 H locs ls hP hS hl)
theorem r_iast {o : Nat} {i v : Int32} {B : Prop} (hc : Cx κ cc nL own d ret) (hd : decode cc pc = .ok (.iastore, 1)) (ho : kd o = 8) (h : vp_in i (ln o) ∧ B) (k : B → Wd κ nL Q (pc + 1) lv st (st_up σ o i.toNatClampNeg v)) : Wd κ nL Q pc lv (.int v :: .int i :: aK κ o :: st) σ := by
  intro H locs ls hP hS hl
  refine va_iast (D := κ.2.2.2.1) (A := AA κ.2.2) hc.1 hc.2.1 hc.2.2.2.2.2.1 hP (wd_D hc.2.2.2.2.2.2.1 σ) hS o 0 (wd_int κ.2.2 σ ho) rfl h.1 hd (fun H1 locs1 hP1 _ hS1 => ?_)
  rw [wd_sto κ.2.2 σ _ v ho] at hP1
  exact k h.2 H1 locs1 ls hP1 hS1 hl
theorem r_zald {o : Nat} {i : Int32} {B : Prop} (hc : Cx κ cc nL own d ret) (hd : decode cc pc = .ok (.baload, 1)) (ho : kd o = 9) (h : vp_in i (ln o) ∧ B) (k : B → Wd κ nL Q (pc + 1) lv (.int (σ o i.toNatClampNeg) :: st) σ) : Wd κ nL Q pc lv (.int i :: aK κ o :: st) σ :=
  fun H locs ls hP hS hl => va_zald (D := κ.2.2.2.1) hc.1 hc.2.1 hc.2.2.2.2.2.1 hP o 1 (wd_boo κ.2.2 σ ho) rfl h.1 hd (k h.2 H locs ls hP hS hl)
theorem r_zast1 {o : Nat} {i : Int32} {B : Prop} (hc : Cx κ cc nL own d ret) (hd : decode cc pc = .ok (.bastore, 1)) (ho : kd o = 9) (h : vp_in i (ln o) ∧ B) (k : B → Wd κ nL Q (pc + 1) lv st (st_up σ o i.toNatClampNeg 1)) : Wd κ nL Q pc lv (.int 1 :: .int i :: aK κ o :: st) σ := by
  intro H locs ls hP hS hl
  refine va_zast (D := κ.2.2.2.1) (A := AA κ.2.2) hc.1 hc.2.1 hc.2.2.2.2.2.1 hP (wd_D hc.2.2.2.2.2.2.1 σ) hS o 1 (wd_boo κ.2.2 σ ho) rfl h.1 hd (fun H1 locs1 hP1 _ hS1 => ?_)
  rw [show vp_nar .boolean 1 = 1 by decide, wd_stz κ.2.2 σ _ 1 ho] at hP1
  exact k h.2 H1 locs1 ls hP1 hS1 hl
theorem r_rows {i : Int32} {B : Prop} (hc : Cx κ cc nL own d ret) (hd : decode cc pc = .ok (.aaload, 1)) (h : vp_in i 8 ∧ B) (k : B → Wd κ nL Q (pc + 1) lv (aK κ (2 + 2 * i.toNatClampNeg) :: st) σ) : Wd κ nL Q pc lv (.int i :: aK κ 1 :: st) σ :=
  fun H locs ls hP hS hl => va_aldq (D := κ.2.2.2.1) hc.1 hc.2.1 hc.2.2.2.2.2.1 hP 1 2 (wd_rows κ.2.2 σ) rfl h.1 hd (k h.2 H locs ls hP hS hl)
theorem r_imgs {i : Int32} {B : Prop} (hc : Cx κ cc nL own d ret) (hd : decode cc pc = .ok (.aaload, 1)) (h : vp_in i 2 ∧ B) (k : B → Wd κ nL Q (pc + 1) lv (aK κ (37 + 9 * i.toNatClampNeg) :: st) σ) : Wd κ nL Q pc lv (.int i :: aK κ 18 :: st) σ :=
  fun H locs ls hP hS hl => va_aldq (D := κ.2.2.2.1) hc.1 hc.2.1 hc.2.2.2.2.2.1 hP 18 3 (wd_imgs κ.2.2 σ) rfl h.1 hd (k h.2 H locs ls hP hS hl)
theorem r_gs_size {index : Nat} (hc : Cx κ cc nL own d ret) (hd : decode cc pc = .ok (.getstatic index, 3)) (hw : Cond.fieldLink own index RX1 "SIZE_BODIES" "[I" ∈ TB) (k : Wd κ nL Q (pc + 3) lv (.ref κ.2.2.2.2.2.1 :: st) σ) : Wd κ nL Q pc lv st σ :=
  fun H locs ls hP hS hl => va_gets (A := AA κ.2.2) hc.1 hc.2.1 hc.2.2.2.2.2.2.2.1.1 hS hc.2.2.2.1 (hc.2.2.2.2.1 _ hw) (fun x h => h) hd (k H locs ls hP hS hl)
theorem r_ld_size {i : Int32} {B : Prop} (hc : Cx κ cc nL own d ret) (hd : decode cc pc = .ok (.iaload, 1)) (h : vp_in i 6 ∧ B) (k : B → Wd κ nL Q (pc + 1) lv (.int (szB i.toNatClampNeg) :: st) σ) : Wd κ nL Q pc lv (.int i :: .ref κ.2.2.2.2.2.1 :: st) σ :=
  fun H locs ls hP hS hl => va_ti (A := AA κ.2.2) hc.1 hc.2.1 hc.2.2.2.2.2.2.2.1.2.1 hS h.1 rfl hd (k h.2 H locs ls hP hS hl)
theorem r_gs_mark {index : Nat} (hc : Cx κ cc nL own d ret) (hd : decode cc pc = .ok (.getstatic index, 3)) (hw : Cond.fieldLink own index RX1 "MARK_BODIES" "[I" ∈ TB) (k : Wd κ nL Q (pc + 3) lv (.ref κ.2.2.2.2.2.2 :: st) σ) : Wd κ nL Q pc lv st σ :=
  fun H locs ls hP hS hl => va_gets (A := AA κ.2.2) hc.1 hc.2.1 hc.2.2.2.2.2.2.2.1.2.2.1 hS hc.2.2.2.1 (hc.2.2.2.2.1 _ hw) (fun x h => h) hd (k H locs ls hP hS hl)
theorem r_ld_mark {i : Int32} {B : Prop} (hc : Cx κ cc nL own d ret) (hd : decode cc pc = .ok (.iaload, 1)) (h : vp_in i 6 ∧ B) (k : B → Wd κ nL Q (pc + 1) lv (.int (mkB i.toNatClampNeg) :: st) σ) : Wd κ nL Q pc lv (.int i :: .ref κ.2.2.2.2.2.2 :: st) σ :=
  fun H locs ls hP hS hl => va_ti (A := AA κ.2.2) hc.1 hc.2.1 hc.2.2.2.2.2.2.2.1.2.2.2 hS h.1 rfl hd (k h.2 H locs ls hP hS hl)
theorem r_max {index : Nat} {x y : Int32} (hc : Cx κ cc nL own d ret) (hd : decode cc pc = .ok (.invokestatic index, 3)) (hw : Cond.methodLink own index Lib.Math.max.name ∈ TB) (hs : Cond.static Lib.Math.max.name ∈ TB) (hi : Cond.initialized "java/lang/Math" ∈ TB) (hco : Cond.code Lib.Math.max.name Lib.Math.max.code 2 (some .int) ∈ TB) (hd1 : 1 ≤ d) (hst : (st.map fun v => v.category).sum ≤ 40) (k : Wd κ nL Q (pc + 3) lv (.int (if x < y then y else x) :: st) σ) : Wd κ nL Q pc lv (.int y :: .int x :: st) σ := by
  intro H locs ls hP hS hl
  obtain ⟨hx, hb, hml, hown, hts, hK, hj, hsT, hR, hr, hlk⟩ := hc
  refine va_mmax hx hb (hml.trans hl.1.symm) hown (hts _ hw) (hts _ hs) (hts _ hi) (hts _ hco) (by rw [hR]; exact hd1) (by rw [hR]; show _ ≤ 60 * d; omega) (Nat.zero_le _) (Nat.zero_le _) hd (k H locs ls hP hS hl)
theorem r_min {index : Nat} {x y : Int32} (hc : Cx κ cc nL own d ret) (hd : decode cc pc = .ok (.invokestatic index, 3)) (hw : Cond.methodLink own index Lib.Math.min.name ∈ TB) (hs : Cond.static Lib.Math.min.name ∈ TB) (hi : Cond.initialized "java/lang/Math" ∈ TB) (hco : Cond.code Lib.Math.min.name Lib.Math.min.code 2 (some .int) ∈ TB) (hd1 : 1 ≤ d) (hst : (st.map fun v => v.category).sum ≤ 40) (k : Wd κ nL Q (pc + 3) lv (.int (if y < x then y else x) :: st) σ) : Wd κ nL Q pc lv (.int y :: .int x :: st) σ := by
  intro H locs ls hP hS hl
  obtain ⟨hx, hb, hml, hown, hts, hK, hj, hsT, hR, hr, hlk⟩ := hc
  refine va_mmin hx hb (hml.trans hl.1.symm) hown (hts _ hw) (hts _ hs) (hts _ hi) (hts _ hco) (by rw [hR]; exact hd1) (by rw [hR]; show _ ≤ 60 * d; omega) (Nat.zero_le _) (Nat.zero_le _) hd (k H locs ls hP hS hl)
theorem r_cpy {index a b : Nat} {sp dp n : Int32} {B : Prop} (hc : Cx κ cc nL own d ret) (hd : decode cc pc = .ok (.invokestatic index, 3)) (hw : Cond.methodLink own index arraycopyName ∈ TB) (hn : Cond.native arraycopyName ∈ TB) (hs : Cond.static arraycopyName ∈ TB) (hi : Cond.initialized "java/lang/System" ∈ TB) (ha : kd a = 8) (hb : kd b = 8) (hd1 : 1 ≤ d) (hst : (st.map fun v => v.category).sum ≤ 8) (h : (¬ sp < 0 ∧ ¬ dp < 0 ∧ ¬ n < 0 ∧ sp.toNatClampNeg + n.toNatClampNeg ≤ ln a ∧ dp.toNatClampNeg + n.toNatClampNeg ≤ ln b) ∧ B) (k : B → Wd κ nL Q (pc + 3) lv st (st_cp σ a sp.toNatClampNeg b dp.toNatClampNeg n.toNatClampNeg)) : Wd κ nL Q pc lv (.int n :: .int dp :: aK κ b :: .int sp :: aK κ a :: st) σ := by
  intro H locs ls hP hS hl
  obtain ⟨hx, hbb, hml, hown, hts, hK, hj, hsT, hR, hr, hlk⟩ := hc
  obtain ⟨⟨h1, h2, h3, h4, h5⟩, hB⟩ := h
  have e : nativeFrameWords "java/lang/System" "arraycopy" 5 + 11 ≤ 50 := by decide +kernel
  have hf1 : 1 ≤ κ.1.2.2.2.1.frames := by rw [hR]; exact hd1
  have hf2 : (st.map fun v => v.category).sum + (nativeFrameWords "java/lang/System" "arraycopy" 5 + 11) ≤ κ.1.2.2.2.1.locals := by rw [hR]; show _ ≤ 60 * d; omega
  refine va_copyi (D := κ.2.2.2.1) (A := AA κ.2.2) hx hbb (hml.trans hl.1.symm) hown (hts _ hw) (hts _ hn) (hts _ hs) (hts _ hi) hK hP (wd_D hj σ) hS a b 0 0 (ty := .int) (wd_int κ.2.2 σ ha) (wd_int κ.2.2 σ hb) rfl rfl rfl h1 h2 h3 h4 h5 (fun i hi => rfl) hf1 hf2 hd (fun H1 locs1 hP1 _ hS1 => ?_)
  rw [wd_cpy κ.2.2 σ _ _ _ hb] at hP1
  exact k hB H1 locs1 ls hP1 hS1 hl
theorem r_iret {k : Int32 → St → Prop} {v : Int32} (hc : Cx κ cc nL own d (some .int)) (hd : decode cc pc = .ok (.ireturn, 1)) (h : k v σ) : Wd κ nL (QI κ k) pc lv [.int v] σ :=
  fun H locs ls hP hS hl => W.iret (v := v) hc.1 hc.2.1 hc.2.2.2.2.2.2.2.2.2.1 (fun t ht hW => ⟨⟨v, σ, rfl, h, by show va_P _ _ _ _; rw [ht]; exact hP⟩, hS.F ht⟩) hS.2.2 hd hc.2.2.2.2.2.2.2.2.2.2
theorem r_zret {k : Int32 → St → Prop} {v : Int32} (hc : Cx κ cc nL own d (some .boolean)) (hd : decode cc pc = .ok (.ireturn, 1)) (h : isB v ∧ k v σ) : Wd κ nL (QI κ k) pc lv [.int v] σ :=
  fun H locs ls hP hS hl => W.zret (v := v) hc.1 hc.2.1 hc.2.2.2.2.2.2.2.2.2.1 (isB_narrow h.1) (fun t ht hW => ⟨⟨v, σ, rfl, h.2, by show va_P _ _ _ _; rw [ht]; exact hP⟩, hS.F ht⟩) hS.2.2 hd hc.2.2.2.2.2.2.2.2.2.2
theorem r_lret {k : Int64 → St → Prop} {v : Int64} (hc : Cx κ cc nL own d (some .long)) (hd : decode cc pc = .ok (.lreturn, 1)) (h : k v σ) : Wd κ nL (QL κ k) pc lv [.long v] σ :=
  fun H locs ls hP hS hl => W.lret (v := v) hc.1 hc.2.1 hc.2.2.2.2.2.2.2.2.2.1 (fun t ht hW => ⟨⟨v, σ, rfl, h, by show va_P _ _ _ _; rw [ht]; exact hP⟩, hS.F ht⟩) hS.2.2 hd hc.2.2.2.2.2.2.2.2.2.2
theorem r_vret {k : St → Prop} (hc : Cx κ cc nL own d none) (hd : decode cc pc = .ok (.return_, 1)) (h : k σ) : Wd κ nL (QV κ k) pc lv [] σ :=
  fun H locs ls hP hS hl => W.vret hc.1 hc.2.1 hc.2.2.2.2.2.2.2.2.2.1 (fun t ht hW => ⟨⟨σ, rfl, h, by show va_P _ _ _ _; rw [ht]; exact hP⟩, hS.F ht⟩) hS.2.2 hd hc.2.2.2.2.2.2.2.2.2.2
end ROWS
section CALLS
theorem PreW_blind (av : List Value) (Γ : Gm) (σ : St) : FrameBlind (va_Pc av (PreW Γ σ)) := fun a U g mk q => ⟨q.1, q.2.1, va_K.moved (u := U) (U := U.calling g mk a) (Vm.Alike.refl U.vm) q.2.2.1, q.2.2.2.1, sTt.moved (u := U) (U := U.calling g mk a) (Vm.Alike.refl U.vm) q.2.2.2.2⟩
theorem goodTB {y : MethodName} {bytes : ByteArray} {maxL : Nat} {ret : Option FieldType} (h : Cond.code y bytes maxL ret ∈ TB) : GoodIn TB (.code y bytes maxL ret :: TB) := fun w hw => by
  rcases List.mem_cons.mp hw with rfl | hw
  · exact ⟨h, TB_good h⟩
  · exact ⟨hw, TB_good hw⟩
/-- the words of a call -/
def CWV (own : String) (index : Nat) (C : String) (y : MethodName) (bytes : ByteArray) (maxL : Nat) (ret : Option FieldType) (n : Nat) : Prop := (Cond.methodLink own index y ∈ TB ∧ Cond.instanceMethod y ∈ TB ∧ Cond.selects C y y ∈ TB ∧ Cond.initialized y.cls ∈ TB ∧ Cond.code y bytes maxL ret ∈ TB) ∧ (y.cls ≠ "java/lang/invoke/MethodHandle" ∧ y.cls ≠ "java/lang/invoke/VarHandle" ∧ (parseMethodDescriptor y.desc).map (fun d => d.parameters.length) = some n)
def CWS (own : String) (index : Nat) (y : MethodName) (bytes : ByteArray) (maxL : Nat) (ret : Option FieldType) (n : Nat) : Prop := (Cond.methodLink own index y ∈ TB ∧ Cond.static y ∈ TB ∧ Cond.initialized y.cls ∈ TB ∧ Cond.code y bytes maxL ret ∈ TB) ∧ (y.cls ≠ "java/lang/invoke/MethodHandle" ∧ y.cls ≠ "java/lang/invoke/VarHandle" ∧ (parseMethodDescriptor y.desc).map (fun d => d.parameters.length) = some n)
variable {κ : KT} {cc bytes : ByteArray} {nL d pc maxL d' n index : Nat} {own C : String} {ret ret' : Option FieldType} {Q : State → Prop} {lv : List (Nat × Value)} {st stk As : List Value} {σ : St} {y : MethodName} {av : (Nat → Nat) → List Value}
theorem pre_of {own : String} {H : Heap} {locs : List Loc} {U : State} (hc : Cx κ cc nL own d ret) (hP : va_P κ.2.2.2.1 vwCl (wd κ.2.2 σ) H) (hS : va_S (AA κ.2.2) κ.1.2.2.2.2.heap H locs) (hU : U.heap = H) (hW : κ.1.2.2.2.2.WarmedH U.vm) : PreW κ.2.2 σ U := by
  obtain ⟨hx, hbb, hml, hown, hts, hK, hj, hsT, hR, hr, hlk⟩ := hc
  exact ⟨by rw [hU]; exact hP, va_K.moved hW.alike hK, hj, by rw [hU]; exact sTt.moved hW.alike (hsT.kept hS.2.1)⟩
theorem callB_x {own : String} (hc : Cx κ cc nL own d ret) (h : (Cond.methodLink own index y ∈ TB ∧ Cond.initialized y.cls ∈ TB ∧ Cond.code y bytes maxL ret' ∈ TB) ∧ (y.cls ≠ "java/lang/invoke/MethodHandle" ∧ y.cls ≠ "java/lang/invoke/VarHandle" ∧ (parseMethodDescriptor y.desc).map (fun d => d.parameters.length) = some n)) (hdd : d' + 1 ≤ d) (hm : maxL ≤ 40) : CallB κ.1.2.2.2.1 κ.1.2.2.2.2 κ.2.1.2.1 own index y bytes maxL ret' (.code y bytes maxL ret' :: TB) (rmD d') 0 0 n := by
  obtain ⟨hx, hbb, hml, hown, hts, hK, hj, hsT, hR, hr, hlk⟩ := hc
  exact callB_of n hts (goodTB h.1.2.2) rfl rfl rfl (hts _ h.1.2.1) (hts _ h.1.1) h.2 (by rw [hR]; exact ⟨hdd, by show 8 + (maxL + 11) + 60 * d' ≤ 60 * d; omega⟩)

theorem r_cvI {k : Int32 → St → Prop} {T : u_T} {K N o : Nat} (As : List Value) (hc : Cx κ cc nL own d ret) (hd : decode cc pc = .ok (.invokevirtual index, 3)) (hw : CWV own index C y bytes maxL ret' n) (hM : CI κ.1.2.1 y bytes maxL d' ret' av σ k) (hcl : vwCl[K]? = some (C, T, N)) (hK : K < 8) (ho : kd o = K) (hav : av κ.2.2.1 = aK κ o :: As) (hn : As.length = n) (hstk : stk = As.reverse ++ aK κ o :: st) (hst : (st.map fun v => v.category).sum ≤ 8) (hdd : d' + 1 ≤ d) (hm : maxL ≤ 40) (kk : (∀ (r : Int32) (σ2 : St), k r σ2 → Wd κ nL Q (pc + 3) lv (.int r :: st) σ2)) : Wd κ nL Q pc lv stk σ := by
  intro H locs ls hP hS hl
  have hc' := hc
  obtain ⟨hx, hbb, hml, hown, hts, hKK, hj, hsT, hR, hr, hlk⟩ := hc'
  have hMg := hM κ.2.2
  rw [hav] at hMg
  exact va_calli (va_runV (As := As) (rest := st) (C := C) ⟨hx, hbb, hml, hown, hts⟩ hMg ⟨callB_x hc ⟨⟨hw.1.1, hw.1.2.2.2.1, hw.1.2.2.2.2⟩, hw.2⟩ hdd hm, hts _ hw.1.2.1, hts _ hw.1.2.2.1⟩ ⟨PreW_blind _ _ _, va_recv hKK hP hcl (wd_obj κ.2.2 σ ho hK), fun U hU hW => ⟨rfl, pre_of hc hP hS hU hW⟩⟩ rfl hn hl.1 hstk (lv_room hst) hd ⟨Nat.zero_le _, Nat.zero_le _⟩) hS (fun q _ h => h) (fun q h => h) (fun r σ2 t H1 locs1 ht hvm hp hB hz hk hS1 => kk r σ2 hp H1 locs1 ls (by rw [← ht]; exact hB) hS1 hl)
theorem r_csI {k : Int32 → St → Prop} (As : List Value) (hc : Cx κ cc nL own d ret) (hd : decode cc pc = .ok (.invokestatic index, 3)) (hw : CWS own index y bytes maxL ret' n) (hM : CI κ.1.2.1 y bytes maxL d' ret' av σ k) (hav : av κ.2.2.1 = As) (hn : As.length = n) (hstk : stk = As.reverse ++ st) (hst : (st.map fun v => v.category).sum ≤ 8) (hdd : d' + 1 ≤ d) (hm : maxL ≤ 40) (kk : (∀ (r : Int32) (σ2 : St), k r σ2 → Wd κ nL Q (pc + 3) lv (.int r :: st) σ2)) : Wd κ nL Q pc lv stk σ := by
  intro H locs ls hP hS hl
  have hc' := hc
  obtain ⟨hx, hbb, hml, hown, hts, hKK, hj, hsT, hR, hr, hlk⟩ := hc'
  have hMg := hM κ.2.2
  rw [hav] at hMg
  exact va_calli (va_runS (As := As) (rest := st) ⟨hx, hbb, hml, hown, hts⟩ hMg ⟨callB_x hc ⟨⟨hw.1.1, hw.1.2.2.1, hw.1.2.2.2⟩, hw.2⟩ hdd hm, hts _ hw.1.2.1⟩ ⟨PreW_blind _ _ _, fun U hU hW => ⟨rfl, pre_of hc hP hS hU hW⟩⟩ rfl hn hl.1 hstk (lv_room hst) hd ⟨Nat.zero_le _, Nat.zero_le _⟩) hS (fun q _ h => h) (fun q h => h) (fun r σ2 t H1 locs1 ht hvm hp hB hz hk hS1 => kk r σ2 hp H1 locs1 ls (by rw [← ht]; exact hB) hS1 hl)
theorem CI.of {k : Int32 → St → Prop} {l : Launch} {lv : (Nat → Nat) → List (Nat × Value)} (hy : plainName y.cls = true) (hlen : ∀ ad, (lg_sl (av ad)).length ≤ nL) (hlv : ∀ ad, lv_args 0 (av ad) = lv ad) (body : ∀ κ : KT, Cx κ cc nL y.cls d ret → Wd κ nL (QI κ k) 0 (lv κ.2.2.1) [] σ) : CI l y cc nL d ret av σ k := by
  intro Γ
  refine Met.ofW (cc := cc) (maxL := nL) (ret := ret) hy rfl ?_
  intro p e s m args below meth c s₁ B hml hv
  obtain ⟨rfl, hP, hK, hj, hT⟩ := hv
  have hts := atoms_spec (ws := .code y cc nL ret :: TB) B.pre
  rw [lg_entry_eq]
  exact body ((p, l, e, (headSpec (.code y cc nL ret :: TB) (rmD d)).room, s), (m, (av Γ.1).toArray, below, meth, c), Γ) ⟨B.exec, B.bytes, hml, findClass_of_methodNamed B.named, fun w hw => hts w (List.mem_cons_of_mem _ hw), hK, hj, hT, rfl, B.returns, B.notSynchronized⟩ s.heap [] _ hP va_S.rf (by rw [← hlv]; exact lv_entry (av Γ.1) (hlen Γ.1))
theorem r_cvL {k : Int64 → St → Prop} {T : u_T} {K N o : Nat} (As : List Value) (hc : Cx κ cc nL own d ret) (hd : decode cc pc = .ok (.invokevirtual index, 3)) (hw : CWV own index C y bytes maxL ret' n) (hM : CL κ.1.2.1 y bytes maxL d' ret' av σ k) (hcl : vwCl[K]? = some (C, T, N)) (hK : K < 8) (ho : kd o = K) (hav : av κ.2.2.1 = aK κ o :: As) (hn : As.length = n) (hstk : stk = As.reverse ++ aK κ o :: st) (hst : (st.map fun v => v.category).sum ≤ 8) (hdd : d' + 1 ≤ d) (hm : maxL ≤ 40) (kk : (∀ (r : Int64) (σ2 : St), k r σ2 → Wd κ nL Q (pc + 3) lv (.long r :: st) σ2)) : Wd κ nL Q pc lv stk σ := by
  intro H locs ls hP hS hl
  have hc' := hc
  obtain ⟨hx, hbb, hml, hown, hts, hKK, hj, hsT, hR, hr, hlk⟩ := hc'
  have hMg := hM κ.2.2
  rw [hav] at hMg
  exact va_calll (va_runV (As := As) (rest := st) (C := C) ⟨hx, hbb, hml, hown, hts⟩ hMg ⟨callB_x hc ⟨⟨hw.1.1, hw.1.2.2.2.1, hw.1.2.2.2.2⟩, hw.2⟩ hdd hm, hts _ hw.1.2.1, hts _ hw.1.2.2.1⟩ ⟨PreW_blind _ _ _, va_recv hKK hP hcl (wd_obj κ.2.2 σ ho hK), fun U hU hW => ⟨rfl, pre_of hc hP hS hU hW⟩⟩ rfl hn hl.1 hstk (lv_room hst) hd ⟨Nat.zero_le _, Nat.zero_le _⟩) hS (fun q _ h => h) (fun q h => h) (fun r σ2 t H1 locs1 ht hvm hp hB hz hk hS1 => kk r σ2 hp H1 locs1 ls (by rw [← ht]; exact hB) hS1 hl)
theorem r_csL {k : Int64 → St → Prop} (As : List Value) (hc : Cx κ cc nL own d ret) (hd : decode cc pc = .ok (.invokestatic index, 3)) (hw : CWS own index y bytes maxL ret' n) (hM : CL κ.1.2.1 y bytes maxL d' ret' av σ k) (hav : av κ.2.2.1 = As) (hn : As.length = n) (hstk : stk = As.reverse ++ st) (hst : (st.map fun v => v.category).sum ≤ 8) (hdd : d' + 1 ≤ d) (hm : maxL ≤ 40) (kk : (∀ (r : Int64) (σ2 : St), k r σ2 → Wd κ nL Q (pc + 3) lv (.long r :: st) σ2)) : Wd κ nL Q pc lv stk σ := by
  intro H locs ls hP hS hl
  have hc' := hc
  obtain ⟨hx, hbb, hml, hown, hts, hKK, hj, hsT, hR, hr, hlk⟩ := hc'
  have hMg := hM κ.2.2
  rw [hav] at hMg
  exact va_calll (va_runS (As := As) (rest := st) ⟨hx, hbb, hml, hown, hts⟩ hMg ⟨callB_x hc ⟨⟨hw.1.1, hw.1.2.2.1, hw.1.2.2.2⟩, hw.2⟩ hdd hm, hts _ hw.1.2.1⟩ ⟨PreW_blind _ _ _, fun U hU hW => ⟨rfl, pre_of hc hP hS hU hW⟩⟩ rfl hn hl.1 hstk (lv_room hst) hd ⟨Nat.zero_le _, Nat.zero_le _⟩) hS (fun q _ h => h) (fun q h => h) (fun r σ2 t H1 locs1 ht hvm hp hB hz hk hS1 => kk r σ2 hp H1 locs1 ls (by rw [← ht]; exact hB) hS1 hl)
theorem CL.of {k : Int64 → St → Prop} {l : Launch} {lv : (Nat → Nat) → List (Nat × Value)} (hy : plainName y.cls = true) (hlen : ∀ ad, (lg_sl (av ad)).length ≤ nL) (hlv : ∀ ad, lv_args 0 (av ad) = lv ad) (body : ∀ κ : KT, Cx κ cc nL y.cls d ret → Wd κ nL (QL κ k) 0 (lv κ.2.2.1) [] σ) : CL l y cc nL d ret av σ k := by
  intro Γ
  refine Met.ofW (cc := cc) (maxL := nL) (ret := ret) hy rfl ?_
  intro p e s m args below meth c s₁ B hml hv
  obtain ⟨rfl, hP, hK, hj, hT⟩ := hv
  have hts := atoms_spec (ws := .code y cc nL ret :: TB) B.pre
  rw [lg_entry_eq]
  exact body ((p, l, e, (headSpec (.code y cc nL ret :: TB) (rmD d)).room, s), (m, (av Γ.1).toArray, below, meth, c), Γ) ⟨B.exec, B.bytes, hml, findClass_of_methodNamed B.named, fun w hw => hts w (List.mem_cons_of_mem _ hw), hK, hj, hT, rfl, B.returns, B.notSynchronized⟩ s.heap [] _ hP va_S.rf (by rw [← hlv]; exact lv_entry (av Γ.1) (hlen Γ.1))
theorem r_cvV {k : St → Prop} {T : u_T} {K N o : Nat} (As : List Value) (hc : Cx κ cc nL own d ret) (hd : decode cc pc = .ok (.invokevirtual index, 3)) (hw : CWV own index C y bytes maxL ret' n) (hM : CV κ.1.2.1 y bytes maxL d' ret' av σ k) (hcl : vwCl[K]? = some (C, T, N)) (hK : K < 8) (ho : kd o = K) (hav : av κ.2.2.1 = aK κ o :: As) (hn : As.length = n) (hstk : stk = As.reverse ++ aK κ o :: st) (hst : (st.map fun v => v.category).sum ≤ 8) (hdd : d' + 1 ≤ d) (hm : maxL ≤ 40) (kk : (∀ σ2 : St, k σ2 → Wd κ nL Q (pc + 3) lv (st) σ2)) : Wd κ nL Q pc lv stk σ := by
  intro H locs ls hP hS hl
  have hc' := hc
  obtain ⟨hx, hbb, hml, hown, hts, hKK, hj, hsT, hR, hr, hlk⟩ := hc'
  have hMg := hM κ.2.2
  rw [hav] at hMg
  exact va_callv (va_runV (As := As) (rest := st) (C := C) ⟨hx, hbb, hml, hown, hts⟩ hMg ⟨callB_x hc ⟨⟨hw.1.1, hw.1.2.2.2.1, hw.1.2.2.2.2⟩, hw.2⟩ hdd hm, hts _ hw.1.2.1, hts _ hw.1.2.2.1⟩ ⟨PreW_blind _ _ _, va_recv hKK hP hcl (wd_obj κ.2.2 σ ho hK), fun U hU hW => ⟨rfl, pre_of hc hP hS hU hW⟩⟩ rfl hn hl.1 hstk (lv_room hst) hd ⟨Nat.zero_le _, Nat.zero_le _⟩) hS (fun q _ h => h) (fun q h => h) (fun σ2 t H1 locs1 ht hvm hp hB hz hk hS1 => kk σ2 hp H1 locs1 ls (by rw [← ht]; exact hB) hS1 hl)
theorem r_csV {k : St → Prop} (As : List Value) (hc : Cx κ cc nL own d ret) (hd : decode cc pc = .ok (.invokestatic index, 3)) (hw : CWS own index y bytes maxL ret' n) (hM : CV κ.1.2.1 y bytes maxL d' ret' av σ k) (hav : av κ.2.2.1 = As) (hn : As.length = n) (hstk : stk = As.reverse ++ st) (hst : (st.map fun v => v.category).sum ≤ 8) (hdd : d' + 1 ≤ d) (hm : maxL ≤ 40) (kk : (∀ σ2 : St, k σ2 → Wd κ nL Q (pc + 3) lv (st) σ2)) : Wd κ nL Q pc lv stk σ := by
  intro H locs ls hP hS hl
  have hc' := hc
  obtain ⟨hx, hbb, hml, hown, hts, hKK, hj, hsT, hR, hr, hlk⟩ := hc'
  have hMg := hM κ.2.2
  rw [hav] at hMg
  exact va_callv (va_runS (As := As) (rest := st) ⟨hx, hbb, hml, hown, hts⟩ hMg ⟨callB_x hc ⟨⟨hw.1.1, hw.1.2.2.1, hw.1.2.2.2⟩, hw.2⟩ hdd hm, hts _ hw.1.2.1⟩ ⟨PreW_blind _ _ _, fun U hU hW => ⟨rfl, pre_of hc hP hS hU hW⟩⟩ rfl hn hl.1 hstk (lv_room hst) hd ⟨Nat.zero_le _, Nat.zero_le _⟩) hS (fun q _ h => h) (fun q h => h) (fun σ2 t H1 locs1 ht hvm hp hB hz hk hS1 => kk σ2 hp H1 locs1 ls (by rw [← ht]; exact hB) hS1 hl)
theorem CV.of {k : St → Prop} {l : Launch} {lv : (Nat → Nat) → List (Nat × Value)} (hy : plainName y.cls = true) (hlen : ∀ ad, (lg_sl (av ad)).length ≤ nL) (hlv : ∀ ad, lv_args 0 (av ad) = lv ad) (body : ∀ κ : KT, Cx κ cc nL y.cls d ret → Wd κ nL (QV κ k) 0 (lv κ.2.2.1) [] σ) : CV l y cc nL d ret av σ k := by
  intro Γ
  refine Met.ofW (cc := cc) (maxL := nL) (ret := ret) hy rfl ?_
  intro p e s m args below meth c s₁ B hml hv
  obtain ⟨rfl, hP, hK, hj, hT⟩ := hv
  have hts := atoms_spec (ws := .code y cc nL ret :: TB) B.pre
  rw [lg_entry_eq]
  exact body ((p, l, e, (headSpec (.code y cc nL ret :: TB) (rmD d)).room, s), (m, (av Γ.1).toArray, below, meth, c), Γ) ⟨B.exec, B.bytes, hml, findClass_of_methodNamed B.named, fun w hw => hts w (List.mem_cons_of_mem _ hw), hK, hj, hT, rfl, B.returns, B.notSynchronized⟩ s.heap [] _ hP va_S.rf (by rw [← hlv]; exact lv_entry (av Γ.1) (hlen Γ.1))
end CALLS
end
