-- ===== PART A: goes FIRST, ahead of the names: the tables' words, and 'selects' of the private methods out of them =====
/-- a private method of a class that the tables say can be made, by its rows of tables_1 -/
def lw_okq (q : MethodName × Nat) : Prop := (q.1.cls ≠ "java/lang/invoke/MethodHandle" ∧ q.1.cls ≠ "java/lang/invoke/VarHandle") ∧ Cond.instantiable q.1.cls q.2 ∈ tables_1 ∧ Cond.privateMethod q.1 ∈ tables_1 ∧ Cond.instanceMethod q.1 ∈ tables_1
theorem lw_p0 : lw_okq (⟨"MillWind$Reader", "readClause", "()Z"⟩, 3) := ⟨⟨by decide +kernel, by decide +kernel⟩, List.mem_of_getElem? (i := 196) (by decide +kernel), List.mem_of_getElem? (i := 375) (by decide +kernel), List.mem_of_getElem? (i := 376) (by decide +kernel)⟩
theorem lw_p1 : lw_okq (⟨"MillWind$Reader", "placeIn", "(Ljava/lang/String;)I"⟩, 3) := ⟨⟨by decide +kernel, by decide +kernel⟩, List.mem_of_getElem? (i := 196) (by decide +kernel), List.mem_of_getElem? (i := 380) (by decide +kernel), List.mem_of_getElem? (i := 381) (by decide +kernel)⟩
theorem lw_p2 : lw_okq (⟨"MillWind$Reader", "pass", "(C)Z"⟩, 3) := ⟨⟨by decide +kernel, by decide +kernel⟩, List.mem_of_getElem? (i := 196) (by decide +kernel), List.mem_of_getElem? (i := 495) (by decide +kernel), List.mem_of_getElem? (i := 496) (by decide +kernel)⟩
theorem lw_p3 : lw_okq (⟨"MillWind$Reader", "readNumber", "()I"⟩, 3) := ⟨⟨by decide +kernel, by decide +kernel⟩, List.mem_of_getElem? (i := 196) (by decide +kernel), List.mem_of_getElem? (i := 499) (by decide +kernel), List.mem_of_getElem? (i := 500) (by decide +kernel)⟩
theorem lw_p4 : lw_okq (⟨"MillWind$Reader", "digit", "()I"⟩, 3) := ⟨⟨by decide +kernel, by decide +kernel⟩, List.mem_of_getElem? (i := 196) (by decide +kernel), List.mem_of_getElem? (i := 503) (by decide +kernel), List.mem_of_getElem? (i := 504) (by decide +kernel)⟩
theorem lw_p5 : lw_okq (⟨"MillWind$Reader", "readAny", "(I)Z"⟩, 3) := ⟨⟨by decide +kernel, by decide +kernel⟩, List.mem_of_getElem? (i := 196) (by decide +kernel), List.mem_of_getElem? (i := 507) (by decide +kernel), List.mem_of_getElem? (i := 508) (by decide +kernel)⟩
theorem lw_p6 : lw_okq (⟨"MillWind$Reader", "readAll", "(I)Z"⟩, 3) := ⟨⟨by decide +kernel, by decide +kernel⟩, List.mem_of_getElem? (i := 196) (by decide +kernel), List.mem_of_getElem? (i := 511) (by decide +kernel), List.mem_of_getElem? (i := 512) (by decide +kernel)⟩
theorem lw_p7 : lw_okq (⟨"MillWind$Reader", "readOne", "(I)Z"⟩, 3) := ⟨⟨by decide +kernel, by decide +kernel⟩, List.mem_of_getElem? (i := 196) (by decide +kernel), List.mem_of_getElem? (i := 515) (by decide +kernel), List.mem_of_getElem? (i := 516) (by decide +kernel)⟩
theorem lw_p8 : lw_okq (⟨"MillWind$Reader", "readTest", "()Z"⟩, 3) := ⟨⟨by decide +kernel, by decide +kernel⟩, List.mem_of_getElem? (i := 196) (by decide +kernel), List.mem_of_getElem? (i := 519) (by decide +kernel), List.mem_of_getElem? (i := 520) (by decide +kernel)⟩
theorem lw_p9 : lw_okq (⟨"MillWind", "isMill", "(I)Z"⟩, 7) := ⟨⟨by decide +kernel, by decide +kernel⟩, List.mem_of_getElem? (i := 23) (by decide +kernel), List.mem_of_getElem? (i := 538) (by decide +kernel), List.mem_of_getElem? (i := 539) (by decide +kernel)⟩
theorem lw_p10 : lw_okq (⟨"MillWind$Mill", "together", "(I)I"⟩, 11) := ⟨⟨by decide +kernel, by decide +kernel⟩, List.mem_of_getElem? (i := 287) (by decide +kernel), List.mem_of_getElem? (i := 553) (by decide +kernel), List.mem_of_getElem? (i := 554) (by decide +kernel)⟩
theorem lw_p11 : lw_okq (⟨"MillWind$Mill", "holds", "(II)Z"⟩, 11) := ⟨⟨by decide +kernel, by decide +kernel⟩, List.mem_of_getElem? (i := 287) (by decide +kernel), List.mem_of_getElem? (i := 557) (by decide +kernel), List.mem_of_getElem? (i := 558) (by decide +kernel)⟩
theorem lw_p12 : lw_okq (⟨"MillWind", "isLed", "()Z"⟩, 7) := ⟨⟨by decide +kernel, by decide +kernel⟩, List.mem_of_getElem? (i := 23) (by decide +kernel), List.mem_of_getElem? (i := 625) (by decide +kernel), List.mem_of_getElem? (i := 626) (by decide +kernel)⟩
theorem lw_p13 : lw_okq (⟨"MillWind", "isRule", "(I)Z"⟩, 7) := ⟨⟨by decide +kernel, by decide +kernel⟩, List.mem_of_getElem? (i := 23) (by decide +kernel), List.mem_of_getElem? (i := 655) (by decide +kernel), List.mem_of_getElem? (i := 656) (by decide +kernel)⟩
theorem lw_p14 : lw_okq (⟨"MillWind$Planner", "mostMeal", "(IIII)I"⟩, 15) := ⟨⟨by decide +kernel, by decide +kernel⟩, List.mem_of_getElem? (i := 212) (by decide +kernel), List.mem_of_getElem? (i := 680) (by decide +kernel), List.mem_of_getElem? (i := 681) (by decide +kernel)⟩
theorem lw_p15 : lw_okq (⟨"MillWind$Planner", "bestFrom", "(IIII)I"⟩, 15) := ⟨⟨by decide +kernel, by decide +kernel⟩, List.mem_of_getElem? (i := 212) (by decide +kernel), List.mem_of_getElem? (i := 688) (by decide +kernel), List.mem_of_getElem? (i := 689) (by decide +kernel)⟩
def lw_privs_1 : List (MethodName × Nat) := [(⟨"MillWind$Reader", "readClause", "()Z"⟩, 3), (⟨"MillWind$Reader", "placeIn", "(Ljava/lang/String;)I"⟩, 3), (⟨"MillWind$Reader", "pass", "(C)Z"⟩, 3), (⟨"MillWind$Reader", "readNumber", "()I"⟩, 3), (⟨"MillWind$Reader", "digit", "()I"⟩, 3), (⟨"MillWind$Reader", "readAny", "(I)Z"⟩, 3), (⟨"MillWind$Reader", "readAll", "(I)Z"⟩, 3), (⟨"MillWind$Reader", "readOne", "(I)Z"⟩, 3), (⟨"MillWind$Reader", "readTest", "()Z"⟩, 3), (⟨"MillWind", "isMill", "(I)Z"⟩, 7), (⟨"MillWind$Mill", "together", "(I)I"⟩, 11), (⟨"MillWind$Mill", "holds", "(II)Z"⟩, 11), (⟨"MillWind", "isLed", "()Z"⟩, 7), (⟨"MillWind", "isRule", "(I)Z"⟩, 7), (⟨"MillWind$Planner", "mostMeal", "(IIII)I"⟩, 15), (⟨"MillWind$Planner", "bestFrom", "(IIII)I"⟩, 15)]
theorem lw_r1 : ∀ q ∈ lw_privs_1, lw_okq q := List.forall_mem_cons.mpr ⟨lw_p0, List.forall_mem_cons.mpr ⟨lw_p1, List.forall_mem_cons.mpr ⟨lw_p2, List.forall_mem_cons.mpr ⟨lw_p3, List.forall_mem_cons.mpr ⟨lw_p4, List.forall_mem_cons.mpr ⟨lw_p5, List.forall_mem_cons.mpr ⟨lw_p6, List.forall_mem_cons.mpr ⟨lw_p7, List.forall_mem_cons.mpr ⟨lw_p8, List.forall_mem_cons.mpr ⟨lw_p9, List.forall_mem_cons.mpr ⟨lw_p10, List.forall_mem_cons.mpr ⟨lw_p11, List.forall_mem_cons.mpr ⟨lw_p12, List.forall_mem_cons.mpr ⟨lw_p13, List.forall_mem_cons.mpr ⟨lw_p14, List.forall_mem_cons.mpr ⟨lw_p15, fun _ h => absurd h List.not_mem_nil⟩⟩⟩⟩⟩⟩⟩⟩⟩⟩⟩⟩⟩⟩⟩⟩
theorem lw_p16 : lw_okq (⟨"MillWind$Planner", "greatest", "(IIIII)I"⟩, 15) := ⟨⟨by decide +kernel, by decide +kernel⟩, List.mem_of_getElem? (i := 212) (by decide +kernel), List.mem_of_getElem? (i := 692) (by decide +kernel), List.mem_of_getElem? (i := 693) (by decide +kernel)⟩
theorem lw_p17 : lw_okq (⟨"MillWind$Planner", "worthOf", "(IIIII)I"⟩, 15) := ⟨⟨by decide +kernel, by decide +kernel⟩, List.mem_of_getElem? (i := 212) (by decide +kernel), List.mem_of_getElem? (i := 696) (by decide +kernel), List.mem_of_getElem? (i := 697) (by decide +kernel)⟩
theorem lw_p18 : lw_okq (⟨"MillWind$Planner", "safeOnes", "(II)I"⟩, 15) := ⟨⟨by decide +kernel, by decide +kernel⟩, List.mem_of_getElem? (i := 212) (by decide +kernel), List.mem_of_getElem? (i := 704) (by decide +kernel), List.mem_of_getElem? (i := 705) (by decide +kernel)⟩
theorem lw_p19 : lw_okq (⟨"MillWind$Planner", "startMean", "(IIZ)V"⟩, 15) := ⟨⟨by decide +kernel, by decide +kernel⟩, List.mem_of_getElem? (i := 212) (by decide +kernel), List.mem_of_getElem? (i := 721) (by decide +kernel), List.mem_of_getElem? (i := 722) (by decide +kernel)⟩
theorem lw_p20 : lw_okq (⟨"MillWind$Planner", "meanFrom", "(IIIII)I"⟩, 15) := ⟨⟨by decide +kernel, by decide +kernel⟩, List.mem_of_getElem? (i := 212) (by decide +kernel), List.mem_of_getElem? (i := 725) (by decide +kernel), List.mem_of_getElem? (i := 726) (by decide +kernel)⟩
theorem lw_p21 : lw_okq (⟨"MillWind$Planner", "meanOf", "(IIIII)I"⟩, 15) := ⟨⟨by decide +kernel, by decide +kernel⟩, List.mem_of_getElem? (i := 212) (by decide +kernel), List.mem_of_getElem? (i := 729) (by decide +kernel), List.mem_of_getElem? (i := 730) (by decide +kernel)⟩
theorem lw_p22 : lw_okq (⟨"MillWind$Planner", "followKind", "(II)V"⟩, 15) := ⟨⟨by decide +kernel, by decide +kernel⟩, List.mem_of_getElem? (i := 212) (by decide +kernel), List.mem_of_getElem? (i := 755) (by decide +kernel), List.mem_of_getElem? (i := 756) (by decide +kernel)⟩
theorem lw_p23 : lw_okq (⟨"MillWind$Orders", "priceOf", "(I)I"⟩, 5) := ⟨⟨by decide +kernel, by decide +kernel⟩, List.mem_of_getElem? (i := 144) (by decide +kernel), List.mem_of_getElem? (i := 810) (by decide +kernel), List.mem_of_getElem? (i := 811) (by decide +kernel)⟩
theorem lw_p24 : lw_okq (⟨"MillWind", "ground", "(III)I"⟩, 7) := ⟨⟨by decide +kernel, by decide +kernel⟩, List.mem_of_getElem? (i := 23) (by decide +kernel), List.mem_of_getElem? (i := 828) (by decide +kernel), List.mem_of_getElem? (i := 829) (by decide +kernel)⟩
theorem lw_p25 : lw_okq (⟨"MillWind", "rests", "(III)Z"⟩, 7) := ⟨⟨by decide +kernel, by decide +kernel⟩, List.mem_of_getElem? (i := 23) (by decide +kernel), List.mem_of_getElem? (i := 832) (by decide +kernel), List.mem_of_getElem? (i := 833) (by decide +kernel)⟩
theorem lw_p26 : lw_okq (⟨"MillWind$Acts", "perform", "(IIII)I"⟩, 5) := ⟨⟨by decide +kernel, by decide +kernel⟩, List.mem_of_getElem? (i := 264) (by decide +kernel), List.mem_of_getElem? (i := 857) (by decide +kernel), List.mem_of_getElem? (i := 858) (by decide +kernel)⟩
theorem lw_p27 : lw_okq (⟨"MillWind$Acts", "doBody", "(IIII)I"⟩, 5) := ⟨⟨by decide +kernel, by decide +kernel⟩, List.mem_of_getElem? (i := 264) (by decide +kernel), List.mem_of_getElem? (i := 871) (by decide +kernel), List.mem_of_getElem? (i := 872) (by decide +kernel)⟩
theorem lw_p28 : lw_okq (⟨"MillWindModel", "clauseHere", "()V"⟩, 39) := ⟨⟨by decide +kernel, by decide +kernel⟩, List.mem_of_getElem? (i := 939) (by decide +kernel), List.mem_of_getElem? (i := 1076) (by decide +kernel), List.mem_of_getElem? (i := 1077) (by decide +kernel)⟩
theorem lw_p29 : lw_okq (⟨"MillWindModel", "here", "()I"⟩, 39) := ⟨⟨by decide +kernel, by decide +kernel⟩, List.mem_of_getElem? (i := 939) (by decide +kernel), List.mem_of_getElem? (i := 1080) (by decide +kernel), List.mem_of_getElem? (i := 1081) (by decide +kernel)⟩
theorem lw_p30 : lw_okq (⟨"MillWindModel", "much", "(ILjava/lang/String;)V"⟩, 39) := ⟨⟨by decide +kernel, by decide +kernel⟩, List.mem_of_getElem? (i := 939) (by decide +kernel), List.mem_of_getElem? (i := 1085) (by decide +kernel), List.mem_of_getElem? (i := 1086) (by decide +kernel)⟩
theorem lw_p31 : lw_okq (⟨"MillWindModel", "spells", "(Ljava/lang/String;)V"⟩, 39) := ⟨⟨by decide +kernel, by decide +kernel⟩, List.mem_of_getElem? (i := 939) (by decide +kernel), List.mem_of_getElem? (i := 1089) (by decide +kernel), List.mem_of_getElem? (i := 1090) (by decide +kernel)⟩
def lw_privs_2 : List (MethodName × Nat) := [(⟨"MillWind$Planner", "greatest", "(IIIII)I"⟩, 15), (⟨"MillWind$Planner", "worthOf", "(IIIII)I"⟩, 15), (⟨"MillWind$Planner", "safeOnes", "(II)I"⟩, 15), (⟨"MillWind$Planner", "startMean", "(IIZ)V"⟩, 15), (⟨"MillWind$Planner", "meanFrom", "(IIIII)I"⟩, 15), (⟨"MillWind$Planner", "meanOf", "(IIIII)I"⟩, 15), (⟨"MillWind$Planner", "followKind", "(II)V"⟩, 15), (⟨"MillWind$Orders", "priceOf", "(I)I"⟩, 5), (⟨"MillWind", "ground", "(III)I"⟩, 7), (⟨"MillWind", "rests", "(III)Z"⟩, 7), (⟨"MillWind$Acts", "perform", "(IIII)I"⟩, 5), (⟨"MillWind$Acts", "doBody", "(IIII)I"⟩, 5), (⟨"MillWindModel", "clauseHere", "()V"⟩, 39), (⟨"MillWindModel", "here", "()I"⟩, 39), (⟨"MillWindModel", "much", "(ILjava/lang/String;)V"⟩, 39), (⟨"MillWindModel", "spells", "(Ljava/lang/String;)V"⟩, 39)]
theorem lw_r2 : ∀ q ∈ lw_privs_2, lw_okq q := List.forall_mem_cons.mpr ⟨lw_p16, List.forall_mem_cons.mpr ⟨lw_p17, List.forall_mem_cons.mpr ⟨lw_p18, List.forall_mem_cons.mpr ⟨lw_p19, List.forall_mem_cons.mpr ⟨lw_p20, List.forall_mem_cons.mpr ⟨lw_p21, List.forall_mem_cons.mpr ⟨lw_p22, List.forall_mem_cons.mpr ⟨lw_p23, List.forall_mem_cons.mpr ⟨lw_p24, List.forall_mem_cons.mpr ⟨lw_p25, List.forall_mem_cons.mpr ⟨lw_p26, List.forall_mem_cons.mpr ⟨lw_p27, List.forall_mem_cons.mpr ⟨lw_p28, List.forall_mem_cons.mpr ⟨lw_p29, List.forall_mem_cons.mpr ⟨lw_p30, List.forall_mem_cons.mpr ⟨lw_p31, fun _ h => absurd h List.not_mem_nil⟩⟩⟩⟩⟩⟩⟩⟩⟩⟩⟩⟩⟩⟩⟩⟩
theorem lw_p32 : lw_okq (⟨"MillWindModel", "must", "(I)V"⟩, 39) := ⟨⟨by decide +kernel, by decide +kernel⟩, List.mem_of_getElem? (i := 939) (by decide +kernel), List.mem_of_getElem? (i := 1095) (by decide +kernel), List.mem_of_getElem? (i := 1096) (by decide +kernel)⟩
theorem lw_p33 : lw_okq (⟨"MillWindModel", "figures", "()I"⟩, 39) := ⟨⟨by decide +kernel, by decide +kernel⟩, List.mem_of_getElem? (i := 939) (by decide +kernel), List.mem_of_getElem? (i := 1099) (by decide +kernel), List.mem_of_getElem? (i := 1100) (by decide +kernel)⟩
theorem lw_p34 : lw_okq (⟨"MillWindModel", "some", "()V"⟩, 39) := ⟨⟨by decide +kernel, by decide +kernel⟩, List.mem_of_getElem? (i := 939) (by decide +kernel), List.mem_of_getElem? (i := 1103) (by decide +kernel), List.mem_of_getElem? (i := 1104) (by decide +kernel)⟩
theorem lw_p35 : lw_okq (⟨"MillWindModel", "every", "()V"⟩, 39) := ⟨⟨by decide +kernel, by decide +kernel⟩, List.mem_of_getElem? (i := 939) (by decide +kernel), List.mem_of_getElem? (i := 1107) (by decide +kernel), List.mem_of_getElem? (i := 1108) (by decide +kernel)⟩
theorem lw_p36 : lw_okq (⟨"MillWindModel", "factor", "()V"⟩, 39) := ⟨⟨by decide +kernel, by decide +kernel⟩, List.mem_of_getElem? (i := 939) (by decide +kernel), List.mem_of_getElem? (i := 1111) (by decide +kernel), List.mem_of_getElem? (i := 1112) (by decide +kernel)⟩
theorem lw_p37 : lw_okq (⟨"MillWindModel", "emits", "(I)V"⟩, 39) := ⟨⟨by decide +kernel, by decide +kernel⟩, List.mem_of_getElem? (i := 939) (by decide +kernel), List.mem_of_getElem? (i := 1115) (by decide +kernel), List.mem_of_getElem? (i := 1116) (by decide +kernel)⟩
theorem lw_p38 : lw_okq (⟨"MillWindModel", "among", "(Ljava/lang/String;)I"⟩, 39) := ⟨⟨by decide +kernel, by decide +kernel⟩, List.mem_of_getElem? (i := 939) (by decide +kernel), List.mem_of_getElem? (i := 1120) (by decide +kernel), List.mem_of_getElem? (i := 1121) (by decide +kernel)⟩
theorem lw_p39 : lw_okq (⟨"MillWindModel", "tells", "(ILjava/lang/String;)V"⟩, 39) := ⟨⟨by decide +kernel, by decide +kernel⟩, List.mem_of_getElem? (i := 939) (by decide +kernel), List.mem_of_getElem? (i := 1129) (by decide +kernel), List.mem_of_getElem? (i := 1130) (by decide +kernel)⟩
theorem lw_p40 : lw_okq (⟨"MillWindModel", "isMill", "(I)Z"⟩, 39) := ⟨⟨by decide +kernel, by decide +kernel⟩, List.mem_of_getElem? (i := 939) (by decide +kernel), List.mem_of_getElem? (i := 1139) (by decide +kernel), List.mem_of_getElem? (i := 1140) (by decide +kernel)⟩
theorem lw_p41 : lw_okq (⟨"MillWindModel", "fast", "(IIIII)I"⟩, 39) := ⟨⟨by decide +kernel, by decide +kernel⟩, List.mem_of_getElem? (i := 939) (by decide +kernel), List.mem_of_getElem? (i := 1146) (by decide +kernel), List.mem_of_getElem? (i := 1147) (by decide +kernel)⟩
theorem lw_p42 : lw_okq (⟨"MillWindModel", "together", "(II)I"⟩, 39) := ⟨⟨by decide +kernel, by decide +kernel⟩, List.mem_of_getElem? (i := 939) (by decide +kernel), List.mem_of_getElem? (i := 1150) (by decide +kernel), List.mem_of_getElem? (i := 1151) (by decide +kernel)⟩
theorem lw_p43 : lw_okq (⟨"MillWindModel", "hourOf", "(IIIII)V"⟩, 39) := ⟨⟨by decide +kernel, by decide +kernel⟩, List.mem_of_getElem? (i := 939) (by decide +kernel), List.mem_of_getElem? (i := 1154) (by decide +kernel), List.mem_of_getElem? (i := 1155) (by decide +kernel)⟩
theorem lw_p44 : lw_okq (⟨"MillWindModel", "isLed", "()Z"⟩, 39) := ⟨⟨by decide +kernel, by decide +kernel⟩, List.mem_of_getElem? (i := 939) (by decide +kernel), List.mem_of_getElem? (i := 1177) (by decide +kernel), List.mem_of_getElem? (i := 1178) (by decide +kernel)⟩
theorem lw_p45 : lw_okq (⟨"MillWindModel", "isRule", "(I)Z"⟩, 39) := ⟨⟨by decide +kernel, by decide +kernel⟩, List.mem_of_getElem? (i := 939) (by decide +kernel), List.mem_of_getElem? (i := 1193) (by decide +kernel), List.mem_of_getElem? (i := 1194) (by decide +kernel)⟩
theorem lw_p46 : lw_okq (⟨"MillWindModel", "begins", "()V"⟩, 39) := ⟨⟨by decide +kernel, by decide +kernel⟩, List.mem_of_getElem? (i := 939) (by decide +kernel), List.mem_of_getElem? (i := 1201) (by decide +kernel), List.mem_of_getElem? (i := 1202) (by decide +kernel)⟩
theorem lw_p47 : lw_okq (⟨"MillWindModel", "settingOf", "(IIIIIIIII)I"⟩, 39) := ⟨⟨by decide +kernel, by decide +kernel⟩, List.mem_of_getElem? (i := 939) (by decide +kernel), List.mem_of_getElem? (i := 1205) (by decide +kernel), List.mem_of_getElem? (i := 1206) (by decide +kernel)⟩
def lw_privs_3 : List (MethodName × Nat) := [(⟨"MillWindModel", "must", "(I)V"⟩, 39), (⟨"MillWindModel", "figures", "()I"⟩, 39), (⟨"MillWindModel", "some", "()V"⟩, 39), (⟨"MillWindModel", "every", "()V"⟩, 39), (⟨"MillWindModel", "factor", "()V"⟩, 39), (⟨"MillWindModel", "emits", "(I)V"⟩, 39), (⟨"MillWindModel", "among", "(Ljava/lang/String;)I"⟩, 39), (⟨"MillWindModel", "tells", "(ILjava/lang/String;)V"⟩, 39), (⟨"MillWindModel", "isMill", "(I)Z"⟩, 39), (⟨"MillWindModel", "fast", "(IIIII)I"⟩, 39), (⟨"MillWindModel", "together", "(II)I"⟩, 39), (⟨"MillWindModel", "hourOf", "(IIIII)V"⟩, 39), (⟨"MillWindModel", "isLed", "()Z"⟩, 39), (⟨"MillWindModel", "isRule", "(I)Z"⟩, 39), (⟨"MillWindModel", "begins", "()V"⟩, 39), (⟨"MillWindModel", "settingOf", "(IIIIIIIII)I"⟩, 39)]
theorem lw_r3 : ∀ q ∈ lw_privs_3, lw_okq q := List.forall_mem_cons.mpr ⟨lw_p32, List.forall_mem_cons.mpr ⟨lw_p33, List.forall_mem_cons.mpr ⟨lw_p34, List.forall_mem_cons.mpr ⟨lw_p35, List.forall_mem_cons.mpr ⟨lw_p36, List.forall_mem_cons.mpr ⟨lw_p37, List.forall_mem_cons.mpr ⟨lw_p38, List.forall_mem_cons.mpr ⟨lw_p39, List.forall_mem_cons.mpr ⟨lw_p40, List.forall_mem_cons.mpr ⟨lw_p41, List.forall_mem_cons.mpr ⟨lw_p42, List.forall_mem_cons.mpr ⟨lw_p43, List.forall_mem_cons.mpr ⟨lw_p44, List.forall_mem_cons.mpr ⟨lw_p45, List.forall_mem_cons.mpr ⟨lw_p46, List.forall_mem_cons.mpr ⟨lw_p47, fun _ h => absurd h List.not_mem_nil⟩⟩⟩⟩⟩⟩⟩⟩⟩⟩⟩⟩⟩⟩⟩⟩
theorem lw_p48 : lw_okq (⟨"MillWindModel", "watched", "(IIII)I"⟩, 39) := ⟨⟨by decide +kernel, by decide +kernel⟩, List.mem_of_getElem? (i := 939) (by decide +kernel), List.mem_of_getElem? (i := 1209) (by decide +kernel), List.mem_of_getElem? (i := 1210) (by decide +kernel)⟩
theorem lw_p49 : lw_okq (⟨"MillWindModel", "hourPlace", "(IIII)I"⟩, 39) := ⟨⟨by decide +kernel, by decide +kernel⟩, List.mem_of_getElem? (i := 939) (by decide +kernel), List.mem_of_getElem? (i := 1213) (by decide +kernel), List.mem_of_getElem? (i := 1214) (by decide +kernel)⟩
theorem lw_p50 : lw_okq (⟨"MillWindModel", "bestSetting", "(IIIII)I"⟩, 39) := ⟨⟨by decide +kernel, by decide +kernel⟩, List.mem_of_getElem? (i := 939) (by decide +kernel), List.mem_of_getElem? (i := 1217) (by decide +kernel), List.mem_of_getElem? (i := 1218) (by decide +kernel)⟩
theorem lw_p51 : lw_okq (⟨"MillWindModel", "isSafe", "(IIII)Z"⟩, 39) := ⟨⟨by decide +kernel, by decide +kernel⟩, List.mem_of_getElem? (i := 939) (by decide +kernel), List.mem_of_getElem? (i := 1221) (by decide +kernel), List.mem_of_getElem? (i := 1222) (by decide +kernel)⟩
theorem lw_p52 : lw_okq (⟨"MillWindModel", "with", "(IIIII)J"⟩, 39) := ⟨⟨by decide +kernel, by decide +kernel⟩, List.mem_of_getElem? (i := 939) (by decide +kernel), List.mem_of_getElem? (i := 1225) (by decide +kernel), List.mem_of_getElem? (i := 1226) (by decide +kernel)⟩
theorem lw_p53 : lw_okq (⟨"MillWindModel", "bestFrom", "(IIII)J"⟩, 39) := ⟨⟨by decide +kernel, by decide +kernel⟩, List.mem_of_getElem? (i := 939) (by decide +kernel), List.mem_of_getElem? (i := 1229) (by decide +kernel), List.mem_of_getElem? (i := 1230) (by decide +kernel)⟩
theorem lw_p54 : lw_okq (⟨"MillWindModel", "meanBy", "(IIIIIIZ)J"⟩, 39) := ⟨⟨by decide +kernel, by decide +kernel⟩, List.mem_of_getElem? (i := 939) (by decide +kernel), List.mem_of_getElem? (i := 1239) (by decide +kernel), List.mem_of_getElem? (i := 1240) (by decide +kernel)⟩
theorem lw_p55 : lw_okq (⟨"MillWindModel", "meanFrom", "(IIIII)J"⟩, 39) := ⟨⟨by decide +kernel, by decide +kernel⟩, List.mem_of_getElem? (i := 939) (by decide +kernel), List.mem_of_getElem? (i := 1243) (by decide +kernel), List.mem_of_getElem? (i := 1244) (by decide +kernel)⟩
theorem lw_p56 : lw_okq (⟨"MillWindModel", "meanAnew", "(IIIII)J"⟩, 39) := ⟨⟨by decide +kernel, by decide +kernel⟩, List.mem_of_getElem? (i := 939) (by decide +kernel), List.mem_of_getElem? (i := 1247) (by decide +kernel), List.mem_of_getElem? (i := 1248) (by decide +kernel)⟩
theorem lw_p57 : lw_okq (⟨"MillWindModel", "behind", "(IIII)J"⟩, 39) := ⟨⟨by decide +kernel, by decide +kernel⟩, List.mem_of_getElem? (i := 939) (by decide +kernel), List.mem_of_getElem? (i := 1251) (by decide +kernel), List.mem_of_getElem? (i := 1252) (by decide +kernel)⟩
theorem lw_p58 : lw_okq (⟨"MillWindModel", "mostMeal", "(III)I"⟩, 39) := ⟨⟨by decide +kernel, by decide +kernel⟩, List.mem_of_getElem? (i := 939) (by decide +kernel), List.mem_of_getElem? (i := 1272) (by decide +kernel), List.mem_of_getElem? (i := 1273) (by decide +kernel)⟩
theorem lw_p59 : lw_okq (⟨"MillWindModel", "lates", "(I)I"⟩, 39) := ⟨⟨by decide +kernel, by decide +kernel⟩, List.mem_of_getElem? (i := 939) (by decide +kernel), List.mem_of_getElem? (i := 1284) (by decide +kernel), List.mem_of_getElem? (i := 1285) (by decide +kernel)⟩
theorem lw_p60 : lw_okq (⟨"MillWindModel", "ready", "(II)I"⟩, 39) := ⟨⟨by decide +kernel, by decide +kernel⟩, List.mem_of_getElem? (i := 939) (by decide +kernel), List.mem_of_getElem? (i := 1288) (by decide +kernel), List.mem_of_getElem? (i := 1289) (by decide +kernel)⟩
theorem lw_p61 : lw_okq (⟨"MillWindModel", "looksAt", "(II)V"⟩, 39) := ⟨⟨by decide +kernel, by decide +kernel⟩, List.mem_of_getElem? (i := 939) (by decide +kernel), List.mem_of_getElem? (i := 1300) (by decide +kernel), List.mem_of_getElem? (i := 1301) (by decide +kernel)⟩
theorem lw_p62 : lw_okq (⟨"MillWindModel", "allMeal", "(II)I"⟩, 39) := ⟨⟨by decide +kernel, by decide +kernel⟩, List.mem_of_getElem? (i := 939) (by decide +kernel), List.mem_of_getElem? (i := 1304) (by decide +kernel), List.mem_of_getElem? (i := 1305) (by decide +kernel)⟩
theorem lw_p63 : lw_okq (⟨"MillWindModel", "windAt", "(III)I"⟩, 39) := ⟨⟨by decide +kernel, by decide +kernel⟩, List.mem_of_getElem? (i := 939) (by decide +kernel), List.mem_of_getElem? (i := 1308) (by decide +kernel), List.mem_of_getElem? (i := 1309) (by decide +kernel)⟩
def lw_privs_4 : List (MethodName × Nat) := [(⟨"MillWindModel", "watched", "(IIII)I"⟩, 39), (⟨"MillWindModel", "hourPlace", "(IIII)I"⟩, 39), (⟨"MillWindModel", "bestSetting", "(IIIII)I"⟩, 39), (⟨"MillWindModel", "isSafe", "(IIII)Z"⟩, 39), (⟨"MillWindModel", "with", "(IIIII)J"⟩, 39), (⟨"MillWindModel", "bestFrom", "(IIII)J"⟩, 39), (⟨"MillWindModel", "meanBy", "(IIIIIIZ)J"⟩, 39), (⟨"MillWindModel", "meanFrom", "(IIIII)J"⟩, 39), (⟨"MillWindModel", "meanAnew", "(IIIII)J"⟩, 39), (⟨"MillWindModel", "behind", "(IIII)J"⟩, 39), (⟨"MillWindModel", "mostMeal", "(III)I"⟩, 39), (⟨"MillWindModel", "lates", "(I)I"⟩, 39), (⟨"MillWindModel", "ready", "(II)I"⟩, 39), (⟨"MillWindModel", "looksAt", "(II)V"⟩, 39), (⟨"MillWindModel", "allMeal", "(II)I"⟩, 39), (⟨"MillWindModel", "windAt", "(III)I"⟩, 39)]
theorem lw_r4 : ∀ q ∈ lw_privs_4, lw_okq q := List.forall_mem_cons.mpr ⟨lw_p48, List.forall_mem_cons.mpr ⟨lw_p49, List.forall_mem_cons.mpr ⟨lw_p50, List.forall_mem_cons.mpr ⟨lw_p51, List.forall_mem_cons.mpr ⟨lw_p52, List.forall_mem_cons.mpr ⟨lw_p53, List.forall_mem_cons.mpr ⟨lw_p54, List.forall_mem_cons.mpr ⟨lw_p55, List.forall_mem_cons.mpr ⟨lw_p56, List.forall_mem_cons.mpr ⟨lw_p57, List.forall_mem_cons.mpr ⟨lw_p58, List.forall_mem_cons.mpr ⟨lw_p59, List.forall_mem_cons.mpr ⟨lw_p60, List.forall_mem_cons.mpr ⟨lw_p61, List.forall_mem_cons.mpr ⟨lw_p62, List.forall_mem_cons.mpr ⟨lw_p63, fun _ h => absurd h List.not_mem_nil⟩⟩⟩⟩⟩⟩⟩⟩⟩⟩⟩⟩⟩⟩⟩⟩
theorem lw_p64 : lw_okq (⟨"MillWindModel", "clothAt", "(II)I"⟩, 39) := ⟨⟨by decide +kernel, by decide +kernel⟩, List.mem_of_getElem? (i := 939) (by decide +kernel), List.mem_of_getElem? (i := 1312) (by decide +kernel), List.mem_of_getElem? (i := 1313) (by decide +kernel)⟩
theorem lw_p65 : lw_okq (⟨"MillWindModel", "mealAt", "(III)I"⟩, 39) := ⟨⟨by decide +kernel, by decide +kernel⟩, List.mem_of_getElem? (i := 939) (by decide +kernel), List.mem_of_getElem? (i := 1316) (by decide +kernel), List.mem_of_getElem? (i := 1317) (by decide +kernel)⟩
theorem lw_p66 : lw_okq (⟨"MillWindModel", "isRest", "(II)Z"⟩, 39) := ⟨⟨by decide +kernel, by decide +kernel⟩, List.mem_of_getElem? (i := 939) (by decide +kernel), List.mem_of_getElem? (i := 1320) (by decide +kernel), List.mem_of_getElem? (i := 1321) (by decide +kernel)⟩
theorem lw_p67 : lw_okq (⟨"MillWindModel", "nextWind", "(III)I"⟩, 39) := ⟨⟨by decide +kernel, by decide +kernel⟩, List.mem_of_getElem? (i := 939) (by decide +kernel), List.mem_of_getElem? (i := 1328) (by decide +kernel), List.mem_of_getElem? (i := 1329) (by decide +kernel)⟩
theorem lw_p68 : lw_okq (⟨"MillWindModel", "setsActs", "(I)I"⟩, 39) := ⟨⟨by decide +kernel, by decide +kernel⟩, List.mem_of_getElem? (i := 939) (by decide +kernel), List.mem_of_getElem? (i := 1336) (by decide +kernel), List.mem_of_getElem? (i := 1337) (by decide +kernel)⟩
theorem lw_p69 : lw_okq (⟨"MillWindModel", "runs", "(I)V"⟩, 39) := ⟨⟨by decide +kernel, by decide +kernel⟩, List.mem_of_getElem? (i := 939) (by decide +kernel), List.mem_of_getElem? (i := 1343) (by decide +kernel), List.mem_of_getElem? (i := 1344) (by decide +kernel)⟩
theorem lw_p70 : lw_okq (⟨"MillWindModel", "plainSets", "(I)I"⟩, 39) := ⟨⟨by decide +kernel, by decide +kernel⟩, List.mem_of_getElem? (i := 939) (by decide +kernel), List.mem_of_getElem? (i := 1347) (by decide +kernel), List.mem_of_getElem? (i := 1348) (by decide +kernel)⟩
theorem lw_p71 : lw_okq (⟨"MillWindModel", "turnsActs", "(I)I"⟩, 39) := ⟨⟨by decide +kernel, by decide +kernel⟩, List.mem_of_getElem? (i := 939) (by decide +kernel), List.mem_of_getElem? (i := 1351) (by decide +kernel), List.mem_of_getElem? (i := 1352) (by decide +kernel)⟩
theorem lw_p72 : lw_okq (⟨"MillWindModel", "plainTurns", "(I)I"⟩, 39) := ⟨⟨by decide +kernel, by decide +kernel⟩, List.mem_of_getElem? (i := 939) (by decide +kernel), List.mem_of_getElem? (i := 1355) (by decide +kernel), List.mem_of_getElem? (i := 1356) (by decide +kernel)⟩
theorem lw_p73 : lw_okq (⟨"MillWindModel", "tellsActs", "(I)I"⟩, 39) := ⟨⟨by decide +kernel, by decide +kernel⟩, List.mem_of_getElem? (i := 939) (by decide +kernel), List.mem_of_getElem? (i := 1359) (by decide +kernel), List.mem_of_getElem? (i := 1360) (by decide +kernel)⟩
theorem lw_p74 : lw_okq (⟨"MillWindModel", "plainTells", "(I)I"⟩, 39) := ⟨⟨by decide +kernel, by decide +kernel⟩, List.mem_of_getElem? (i := 939) (by decide +kernel), List.mem_of_getElem? (i := 1363) (by decide +kernel), List.mem_of_getElem? (i := 1364) (by decide +kernel)⟩
def lw_privs_5 : List (MethodName × Nat) := [(⟨"MillWindModel", "clothAt", "(II)I"⟩, 39), (⟨"MillWindModel", "mealAt", "(III)I"⟩, 39), (⟨"MillWindModel", "isRest", "(II)Z"⟩, 39), (⟨"MillWindModel", "nextWind", "(III)I"⟩, 39), (⟨"MillWindModel", "setsActs", "(I)I"⟩, 39), (⟨"MillWindModel", "runs", "(I)V"⟩, 39), (⟨"MillWindModel", "plainSets", "(I)I"⟩, 39), (⟨"MillWindModel", "turnsActs", "(I)I"⟩, 39), (⟨"MillWindModel", "plainTurns", "(I)I"⟩, 39), (⟨"MillWindModel", "tellsActs", "(I)I"⟩, 39), (⟨"MillWindModel", "plainTells", "(I)I"⟩, 39)]
theorem lw_r5 : ∀ q ∈ lw_privs_5, lw_okq q := List.forall_mem_cons.mpr ⟨lw_p64, List.forall_mem_cons.mpr ⟨lw_p65, List.forall_mem_cons.mpr ⟨lw_p66, List.forall_mem_cons.mpr ⟨lw_p67, List.forall_mem_cons.mpr ⟨lw_p68, List.forall_mem_cons.mpr ⟨lw_p69, List.forall_mem_cons.mpr ⟨lw_p70, List.forall_mem_cons.mpr ⟨lw_p71, List.forall_mem_cons.mpr ⟨lw_p72, List.forall_mem_cons.mpr ⟨lw_p73, List.forall_mem_cons.mpr ⟨lw_p74, fun _ h => absurd h List.not_mem_nil⟩⟩⟩⟩⟩⟩⟩⟩⟩⟩⟩
def lw_privs : List (MethodName × Nat) := lw_privs_1 ++ (lw_privs_2 ++ (lw_privs_3 ++ (lw_privs_4 ++ (lw_privs_5))))
def lw_tbl : List Cond := k2_sels lw_privs ++ tables_1
theorem lw_privs_ok : ∀ q ∈ lw_privs, lw_okq q := by
  show ∀ q ∈ lw_privs_1 ++ (lw_privs_2 ++ (lw_privs_3 ++ (lw_privs_4 ++ (lw_privs_5)))), lw_okq q
  exact List.forall_mem_append.mpr ⟨lw_r1, List.forall_mem_append.mpr ⟨lw_r2, List.forall_mem_append.mpr ⟨lw_r3, List.forall_mem_append.mpr ⟨lw_r4, lw_r5⟩⟩⟩⟩
def RX0 : String := "MillWind$Acts"
def TX0 : u_T := fun k => match k with
  | 0 => ("MillWind$Acts", "numbers", "[I", true)
  | 1 => ("MillWind$Acts", "ran", "I", false)
  | 2 => ("MillWind$Acts", "rule", "I", false)
  | 3 => ("MillWind$Acts", "kind", "I", false)
  | _ => ("MillWind$Acts", "v", "I", false)
def tyX0 : Nat → FieldType := fun k => match k with
  | 0 => .array .int
  | 1 => .int
  | 2 => .int
  | 3 => .int
  | _ => .int
abbrev wsX00 : List Cond := u_ws RX0 TX0 5
theorem nmX0 : ∀ a, a < 5 → ∀ b, b < 5 → a ≠ b → (TX0 a).2.1 ≠ (TX0 b).2.1 := by decide +kernel
theorem tyX0_ok : ∀ k, k < 5 → parseFieldDescriptor (TX0 k).2.2.1 = some (tyX0 k) := by decide +kernel
abbrev cX0_init : ByteArray := prog_2_method_1_code
def yX0_init : MethodName := ⟨RX0, "<init>", "()V"⟩
abbrev cX0_clear : ByteArray := prog_2_method_2_code
def yX0_clear : MethodName := ⟨RX0, "clear", "()V"⟩
abbrev cX0_kept : ByteArray := prog_2_method_3_code
def yX0_kept : MethodName := ⟨RX0, "kept", "()I"⟩
abbrev cX0_begin : ByteArray := prog_2_method_4_code
def yX0_begin : MethodName := ⟨RX0, "begin", "(LMillWind$Rules;III)I"⟩
abbrev cX0_perform : ByteArray := prog_2_method_5_code
def yX0_perform : MethodName := ⟨RX0, "perform", "(IIII)I"⟩
abbrev cX0_bodyOf : ByteArray := prog_2_method_6_code
def yX0_bodyOf : MethodName := ⟨RX0, "bodyOf", "(II)I"⟩
abbrev cX0_doBody : ByteArray := prog_2_method_7_code
def yX0_doBody : MethodName := ⟨RX0, "doBody", "(IIII)I"⟩
def RX1 : String := "MillWind$Day"
def TX1 : u_T := fun k => match k with
  | 0 => ("MillWind$Day", "winds", "[I", true)
  | 1 => ("MillWind$Day", "settings", "[I", true)
  | _ => ("MillWind$Day", "size", "I", false)
def tyX1 : Nat → FieldType := fun k => match k with
  | 0 => .array .int
  | 1 => .array .int
  | _ => .int
abbrev wsX10 : List Cond := u_ws RX1 TX1 3
theorem nmX1 : ∀ a, a < 3 → ∀ b, b < 3 → a ≠ b → (TX1 a).2.1 ≠ (TX1 b).2.1 := by decide +kernel
theorem tyX1_ok : ∀ k, k < 3 → parseFieldDescriptor (TX1 k).2.2.1 = some (tyX1 k) := by decide +kernel
abbrev cX1_init : ByteArray := prog_3_method_1_code
def yX1_init : MethodName := ⟨RX1, "<init>", "()V"⟩
abbrev cX1_append : ByteArray := prog_3_method_2_code
def yX1_append : MethodName := ⟨RX1, "append", "(II)I"⟩
abbrev cX1_judge : ByteArray := prog_3_method_3_code
def yX1_judge : MethodName := ⟨RX1, "judge", "(LMillWind$Mill;III)I"⟩
abbrev cX1_mostMeal : ByteArray := prog_3_method_4_code
def yX1_mostMeal : MethodName := ⟨RX1, "mostMeal", "(LMillWind$Mill;III)I"⟩
abbrev cX1_copyFrom : ByteArray := prog_3_method_5_code
def yX1_copyFrom : MethodName := ⟨RX1, "copyFrom", "(LMillWind$Day;)V"⟩
def RX2 : String := "MillWind$Led"
def TX2 : u_T := fun k => match k with
  | 0 => ("MillWind$Led", "mill", "I", false)
  | 1 => ("MillWind$Led", "hour", "I", false)
  | 2 => ("MillWind$Led", "heat", "I", false)
  | 3 => ("MillWind$Led", "dull", "I", false)
  | 4 => ("MillWind$Led", "flour", "I", false)
  | _ => ("MillWind$Led", "away", "Z", false)
def tyX2 : Nat → FieldType := fun k => match k with
  | 0 => .int
  | 1 => .int
  | 2 => .int
  | 3 => .int
  | 4 => .int
  | _ => .boolean
abbrev wsX20 : List Cond := u_ws RX2 TX2 6
theorem nmX2 : ∀ a, a < 6 → ∀ b, b < 6 → a ≠ b → (TX2 a).2.1 ≠ (TX2 b).2.1 := by decide +kernel
theorem tyX2_ok : ∀ k, k < 6 → parseFieldDescriptor (TX2 k).2.2.1 = some (tyX2 k) := by decide +kernel
abbrev cX2_init : ByteArray := prog_4_method_1_code
def yX2_init : MethodName := ⟨RX2, "<init>", "()V"⟩
abbrev cX2_begin : ByteArray := prog_4_method_2_code
def yX2_begin : MethodName := ⟨RX2, "begin", "(I)V"⟩
abbrev cX2_goOn : ByteArray := prog_4_method_3_code
def yX2_goOn : MethodName := ⟨RX2, "goOn", "(LMillWind$Mill;II)I"⟩
abbrev cX2_copyFrom : ByteArray := prog_4_method_4_code
def yX2_copyFrom : MethodName := ⟨RX2, "copyFrom", "(LMillWind$Led;)V"⟩
def RX3 : String := "MillWind$Mill"
def TX3 : u_T := fun k => match k with
  | 0 => ("MillWind$Mill", "kinds", "[I", true)
  | 1 => ("MillWind$Mill", "amounts", "[I", true)
  | 2 => ("MillWind$Mill", "ends", "[I", true)
  | 3 => ("MillWind$Mill", "code", "[I", true)
  | 4 => ("MillWind$Mill", "signs", "[I", true)
  | 5 => ("MillWind$Mill", "hours", "[I", true)
  | 6 => ("MillWind$Mill", "clauses", "I", false)
  | 7 => ("MillWind$Mill", "codes", "I", false)
  | 8 => ("MillWind$Mill", "cool", "I", false)
  | 9 => ("MillWind$Mill", "edge", "I", false)
  | _ => ("MillWind$Mill", "burn", "I", false)
def tyX3 : Nat → FieldType := fun k => match k with
  | 0 => .array .int
  | 1 => .array .int
  | 2 => .array .int
  | 3 => .array .int
  | 4 => .array .int
  | 5 => .array .int
  | 6 => .int
  | 7 => .int
  | 8 => .int
  | 9 => .int
  | _ => .int
abbrev wsX30 : List Cond := u_ws RX3 TX3 11
theorem nmX3 : ∀ a, a < 11 → ∀ b, b < 11 → a ≠ b → (TX3 a).2.1 ≠ (TX3 b).2.1 := by decide +kernel
theorem tyX3_ok : ∀ k, k < 11 → parseFieldDescriptor (TX3 k).2.2.1 = some (tyX3 k) := by decide +kernel
abbrev cX3_init : ByteArray := prog_5_method_1_code
def yX3_init : MethodName := ⟨RX3, "<init>", "()V"⟩
abbrev cX3_clear : ByteArray := prog_5_method_2_code
def yX3_clear : MethodName := ⟨RX3, "clear", "()V"⟩
abbrev cX3_appendCode : ByteArray := prog_5_method_3_code
def yX3_appendCode : MethodName := ⟨RX3, "appendCode", "(I)V"⟩
abbrev cX3_appendClause : ByteArray := prog_5_method_4_code
def yX3_appendClause : MethodName := ⟨RX3, "appendClause", "(II)V"⟩
abbrev cX3_hourBy : ByteArray := prog_5_method_5_code
def yX3_hourBy : MethodName := ⟨RX3, "hourBy", "(IIII)I"⟩
abbrev cX3_toStep : ByteArray := prog_5_method_6_code
def yX3_toStep : MethodName := ⟨RX3, "toStep", "(I)I"⟩
abbrev cX3_together : ByteArray := prog_5_method_7_code
def yX3_together : MethodName := ⟨RX3, "together", "(I)I"⟩
abbrev cX3_holds : ByteArray := prog_5_method_8_code
def yX3_holds : MethodName := ⟨RX3, "holds", "(II)Z"⟩
abbrev cX3_fastOf : ByteArray := prog_5_method_9_code
def yX3_fastOf : MethodName := ⟨RX3, "fastOf", "(I)I"⟩
abbrev cX3_mealOf : ByteArray := prog_5_method_10_code
def yX3_mealOf : MethodName := ⟨RX3, "mealOf", "(I)I"⟩
abbrev cX3_gainOf : ByteArray := prog_5_method_11_code
def yX3_gainOf : MethodName := ⟨RX3, "gainOf", "(I)I"⟩
abbrev cX3_heatOf : ByteArray := prog_5_method_12_code
def yX3_heatOf : MethodName := ⟨RX3, "heatOf", "(I)I"⟩
abbrev cX3_dullOf : ByteArray := prog_5_method_13_code
def yX3_dullOf : MethodName := ⟨RX3, "dullOf", "(I)I"⟩
abbrev cX3_isBurnt : ByteArray := prog_5_method_14_code
def yX3_isBurnt : MethodName := ⟨RX3, "isBurnt", "(I)Z"⟩
abbrev cX3_isAway : ByteArray := prog_5_method_15_code
def yX3_isAway : MethodName := ⟨RX3, "isAway", "(I)Z"⟩
def RX4 : String := "MillWind$Orders"
def TX4 : u_T := fun k => match k with
  | 0 => ("MillWind$Orders", "hours", "[I", true)
  | 1 => ("MillWind$Orders", "dues", "[I", true)
  | 2 => ("MillWind$Orders", "prices", "[I", true)
  | 3 => ("MillWind$Orders", "turns", "[I", true)
  | _ => ("MillWind$Orders", "size", "I", false)
def tyX4 : Nat → FieldType := fun k => match k with
  | 0 => .array .int
  | 1 => .array .int
  | 2 => .array .int
  | 3 => .array .int
  | _ => .int
abbrev wsX40 : List Cond := u_ws RX4 TX4 5
theorem nmX4 : ∀ a, a < 5 → ∀ b, b < 5 → a ≠ b → (TX4 a).2.1 ≠ (TX4 b).2.1 := by decide +kernel
theorem tyX4_ok : ∀ k, k < 5 → parseFieldDescriptor (TX4 k).2.2.1 = some (tyX4 k) := by decide +kernel
abbrev cX4_init : ByteArray := prog_6_method_1_code
def yX4_init : MethodName := ⟨RX4, "<init>", "()V"⟩
abbrev cX4_append : ByteArray := prog_6_method_2_code
def yX4_append : MethodName := ⟨RX4, "append", "(III)I"⟩
abbrev cX4_lateOf : ByteArray := prog_6_method_3_code
def yX4_lateOf : MethodName := ⟨RX4, "lateOf", "(I)I"⟩
abbrev cX4_dearest : ByteArray := prog_6_method_4_code
def yX4_dearest : MethodName := ⟨RX4, "dearest", "()I"⟩
abbrev cX4_priceOf : ByteArray := prog_6_method_5_code
def yX4_priceOf : MethodName := ⟨RX4, "priceOf", "(I)I"⟩
abbrev cX4_copyFrom : ByteArray := prog_6_method_6_code
def yX4_copyFrom : MethodName := ⟨RX4, "copyFrom", "(LMillWind$Orders;)V"⟩
def RX5 : String := "MillWind$Planner"
def TX5 : u_T := fun k => match k with
  | 0 => ("MillWind$Planner", "bests", "[I", true)
  | 1 => ("MillWind$Planner", "bestStamps", "[I", true)
  | 2 => ("MillWind$Planner", "means", "[I", true)
  | 3 => ("MillWind$Planner", "meanStamps", "[I", true)
  | 4 => ("MillWind$Planner", "bestStamp", "I", false)
  | 5 => ("MillWind$Planner", "meanStamp", "I", false)
  | 6 => ("MillWind$Planner", "mill", "LMillWind$Mill;", false)
  | 7 => ("MillWind$Planner", "winds", "LMillWind$Winds;", false)
  | 8 => ("MillWind$Planner", "rules", "LMillWind$Rules;", false)
  | 9 => ("MillWind$Planner", "rule", "I", false)
  | 10 => ("MillWind$Planner", "kind", "I", false)
  | 11 => ("MillWind$Planner", "v", "I", false)
  | 12 => ("MillWind$Planner", "hours", "I", false)
  | 13 => ("MillWind$Planner", "dressAt", "I", false)
  | _ => ("MillWind$Planner", "asksAway", "Z", false)
def tyX5 : Nat → FieldType := fun k => match k with
  | 0 => .array .int
  | 1 => .array .int
  | 2 => .array .int
  | 3 => .array .int
  | 4 => .int
  | 5 => .int
  | 6 => .object "MillWind$Mill"
  | 7 => .object "MillWind$Winds"
  | 8 => .object "MillWind$Rules"
  | 9 => .int
  | 10 => .int
  | 11 => .int
  | 12 => .int
  | 13 => .int
  | _ => .boolean
abbrev wsX50 : List Cond := u_ws RX5 TX5 15
theorem nmX5 : ∀ a, a < 15 → ∀ b, b < 15 → a ≠ b → (TX5 a).2.1 ≠ (TX5 b).2.1 := by decide +kernel
theorem tyX5_ok : ∀ k, k < 15 → parseFieldDescriptor (TX5 k).2.2.1 = some (tyX5 k) := by decide +kernel
abbrev cX5_init : ByteArray := prog_7_method_1_code
def yX5_init : MethodName := ⟨RX5, "<init>", "()V"⟩
abbrev cX5_forget : ByteArray := prog_7_method_2_code
def yX5_forget : MethodName := ⟨RX5, "forget", "()V"⟩
abbrev cX5_begin : ByteArray := prog_7_method_3_code
def yX5_begin : MethodName := ⟨RX5, "begin", "(LMillWind$Mill;LMillWind$Winds;)V"⟩
abbrev cX5_followRule : ByteArray := prog_7_method_4_code
def yX5_followRule : MethodName := ⟨RX5, "followRule", "(LMillWind$Rules;I)V"⟩
abbrev cX5_followKind : ByteArray := prog_7_method_5_code
def yX5_followKind : MethodName := ⟨RX5, "followKind", "(II)V"⟩
abbrev cX5_settingAt : ByteArray := prog_7_method_6_code
def yX5_settingAt : MethodName := ⟨RX5, "settingAt", "(IIIIII)I"⟩
abbrev cX5_mostMeal : ByteArray := prog_7_method_7_code
def yX5_mostMeal : MethodName := ⟨RX5, "mostMeal", "(IIII)I"⟩
abbrev cX5_safeOnes : ByteArray := prog_7_method_8_code
def yX5_safeOnes : MethodName := ⟨RX5, "safeOnes", "(II)I"⟩
abbrev cX5_bestSetting : ByteArray := prog_7_method_9_code
def yX5_bestSetting : MethodName := ⟨RX5, "bestSetting", "(IIII)I"⟩
abbrev cX5_bestWorth : ByteArray := prog_7_method_10_code
def yX5_bestWorth : MethodName := ⟨RX5, "bestWorth", "(IIII)I"⟩
abbrev cX5_looking : ByteArray := prog_7_method_11_code
def yX5_looking : MethodName := ⟨RX5, "looking", "(IIII)I"⟩
abbrev cX5_dressing : ByteArray := prog_7_method_12_code
def yX5_dressing : MethodName := ⟨RX5, "dressing", "(IIII)I"⟩
abbrev cX5_bestFrom : ByteArray := prog_7_method_13_code
def yX5_bestFrom : MethodName := ⟨RX5, "bestFrom", "(IIII)I"⟩
abbrev cX5_greatest : ByteArray := prog_7_method_14_code
def yX5_greatest : MethodName := ⟨RX5, "greatest", "(IIIII)I"⟩
abbrev cX5_worthOf : ByteArray := prog_7_method_15_code
def yX5_worthOf : MethodName := ⟨RX5, "worthOf", "(IIIII)I"⟩
abbrev cX5_meanFor : ByteArray := prog_7_method_16_code
def yX5_meanFor : MethodName := ⟨RX5, "meanFor", "(IIII)I"⟩
abbrev cX5_awayFor : ByteArray := prog_7_method_17_code
def yX5_awayFor : MethodName := ⟨RX5, "awayFor", "(IIII)I"⟩
abbrev cX5_startMean : ByteArray := prog_7_method_18_code
def yX5_startMean : MethodName := ⟨RX5, "startMean", "(IIZ)V"⟩
abbrev cX5_meanFrom : ByteArray := prog_7_method_19_code
def yX5_meanFrom : MethodName := ⟨RX5, "meanFrom", "(IIIII)I"⟩
abbrev cX5_meanOf : ByteArray := prog_7_method_20_code
def yX5_meanOf : MethodName := ⟨RX5, "meanOf", "(IIIII)I"⟩
def RX6 : String := "MillWind$Reader"
def TX6 : u_T := fun k => match k with
  | 0 => ("MillWind$Reader", "tape", "LMillWind$Tape;", false)
  | 1 => ("MillWind$Reader", "mill", "LMillWind$Mill;", false)
  | _ => ("MillWind$Reader", "place", "I", false)
def tyX6 : Nat → FieldType := fun k => match k with
  | 0 => .object "MillWind$Tape"
  | 1 => .object "MillWind$Mill"
  | _ => .int
abbrev wsX60 : List Cond := u_ws RX6 TX6 3
theorem nmX6 : ∀ a, a < 3 → ∀ b, b < 3 → a ≠ b → (TX6 a).2.1 ≠ (TX6 b).2.1 := by decide +kernel
theorem tyX6_ok : ∀ k, k < 3 → parseFieldDescriptor (TX6 k).2.2.1 = some (tyX6 k) := by decide +kernel
abbrev cX6_init : ByteArray := prog_8_method_1_code
def yX6_init : MethodName := ⟨RX6, "<init>", "()V"⟩
abbrev cX6_read : ByteArray := prog_8_method_2_code
def yX6_read : MethodName := ⟨RX6, "read", "(LMillWind$Tape;LMillWind$Mill;)I"⟩
abbrev cX6_readClause : ByteArray := prog_8_method_3_code
def yX6_readClause : MethodName := ⟨RX6, "readClause", "()Z"⟩
abbrev cX6_readAny : ByteArray := prog_8_method_4_code
def yX6_readAny : MethodName := ⟨RX6, "readAny", "(I)Z"⟩
abbrev cX6_readAll : ByteArray := prog_8_method_5_code
def yX6_readAll : MethodName := ⟨RX6, "readAll", "(I)Z"⟩
abbrev cX6_readOne : ByteArray := prog_8_method_6_code
def yX6_readOne : MethodName := ⟨RX6, "readOne", "(I)Z"⟩
abbrev cX6_readTest : ByteArray := prog_8_method_7_code
def yX6_readTest : MethodName := ⟨RX6, "readTest", "()Z"⟩
abbrev cX6_readNumber : ByteArray := prog_8_method_8_code
def yX6_readNumber : MethodName := ⟨RX6, "readNumber", "()I"⟩
abbrev cX6_digit : ByteArray := prog_8_method_9_code
def yX6_digit : MethodName := ⟨RX6, "digit", "()I"⟩
abbrev cX6_pass : ByteArray := prog_8_method_10_code
def yX6_pass : MethodName := ⟨RX6, "pass", "(C)Z"⟩
abbrev cX6_placeIn : ByteArray := prog_8_method_11_code
def yX6_placeIn : MethodName := ⟨RX6, "placeIn", "(Ljava/lang/String;)I"⟩
def RX7 : String := "MillWind$Rules"
def TX7 : u_T := fun k => match k with
  | 0 => ("MillWind$Rules", "kinds", "[I", true)
  | 1 => ("MillWind$Rules", "values", "[I", true)
  | 2 => ("MillWind$Rules", "rowSizes", "[I", true)
  | 3 => ("MillWind$Rules", "rows", "[I", true)
  | _ => ("MillWind$Rules", "size", "I", false)
def tyX7 : Nat → FieldType := fun k => match k with
  | 0 => .array .int
  | 1 => .array .int
  | 2 => .array .int
  | 3 => .array .int
  | _ => .int
abbrev wsX70 : List Cond := u_ws RX7 TX7 5
theorem nmX7 : ∀ a, a < 5 → ∀ b, b < 5 → a ≠ b → (TX7 a).2.1 ≠ (TX7 b).2.1 := by decide +kernel
theorem tyX7_ok : ∀ k, k < 5 → parseFieldDescriptor (TX7 k).2.2.1 = some (tyX7 k) := by decide +kernel
abbrev cX7_init : ByteArray := prog_9_method_1_code
def yX7_init : MethodName := ⟨RX7, "<init>", "()V"⟩
abbrev cX7_append : ByteArray := prog_9_method_2_code
def yX7_append : MethodName := ⟨RX7, "append", "(II)I"⟩
abbrev cX7_appendToRow : ByteArray := prog_9_method_3_code
def yX7_appendToRow : MethodName := ⟨RX7, "appendToRow", "(II)I"⟩
abbrev cX7_told : ByteArray := prog_9_method_4_code
def yX7_told : MethodName := ⟨RX7, "told", "(II)I"⟩
abbrev cX7_above : ByteArray := prog_9_method_5_code
def yX7_above : MethodName := ⟨RX7, "above", "(I)I"⟩
abbrev cX7_isUnder : ByteArray := prog_9_method_6_code
def yX7_isUnder : MethodName := ⟨RX7, "isUnder", "(II)Z"⟩
abbrev cX7_copyFrom : ByteArray := prog_9_method_7_code
def yX7_copyFrom : MethodName := ⟨RX7, "copyFrom", "(LMillWind$Rules;)V"⟩
def RX8 : String := "MillWind$State"
def TX8 : u_T := fun k => match k with
  | 0 => ("MillWind$State", "mills", "I", false)
  | 1 => ("MillWind$State", "tape", "LMillWind$Tape;", true)
  | 2 => ("MillWind$State", "winds", "LMillWind$Winds;", true)
  | 3 => ("MillWind$State", "led", "LMillWind$Led;", true)
  | 4 => ("MillWind$State", "rules", "LMillWind$Rules;", true)
  | 5 => ("MillWind$State", "day", "LMillWind$Day;", true)
  | _ => ("MillWind$State", "orders", "LMillWind$Orders;", true)
def tyX8 : Nat → FieldType := fun k => match k with
  | 0 => .int
  | 1 => .object "MillWind$Tape"
  | 2 => .object "MillWind$Winds"
  | 3 => .object "MillWind$Led"
  | 4 => .object "MillWind$Rules"
  | 5 => .object "MillWind$Day"
  | _ => .object "MillWind$Orders"
abbrev wsX80 : List Cond := u_ws RX8 TX8 7
theorem nmX8 : ∀ a, a < 7 → ∀ b, b < 7 → a ≠ b → (TX8 a).2.1 ≠ (TX8 b).2.1 := by decide +kernel
theorem tyX8_ok : ∀ k, k < 7 → parseFieldDescriptor (TX8 k).2.2.1 = some (tyX8 k) := by decide +kernel
abbrev cX8_init : ByteArray := prog_10_method_1_code
def yX8_init : MethodName := ⟨RX8, "<init>", "()V"⟩
abbrev cX8_copyFrom : ByteArray := prog_10_method_2_code
def yX8_copyFrom : MethodName := ⟨RX8, "copyFrom", "(LMillWind$State;)V"⟩
def RX9 : String := "MillWind$Tape"
def TX9 : u_T := fun k => match k with
  | 0 => ("MillWind$Tape", "bytes", "[B", true)
  | _ => ("MillWind$Tape", "size", "I", false)
def tyX9 : Nat → FieldType := fun k => match k with
  | 0 => .array .byte
  | _ => .int
abbrev wsX90 : List Cond := u_ws RX9 TX9 2
theorem nmX9 : ∀ a, a < 2 → ∀ b, b < 2 → a ≠ b → (TX9 a).2.1 ≠ (TX9 b).2.1 := by decide +kernel
theorem tyX9_ok : ∀ k, k < 2 → parseFieldDescriptor (TX9 k).2.2.1 = some (tyX9 k) := by decide +kernel
abbrev cX9_init : ByteArray := prog_11_method_1_code
def yX9_init : MethodName := ⟨RX9, "<init>", "()V"⟩
abbrev cX9_append : ByteArray := prog_11_method_2_code
def yX9_append : MethodName := ⟨RX9, "append", "(JI)V"⟩
abbrev cX9_at : ByteArray := prog_11_method_3_code
def yX9_at : MethodName := ⟨RX9, "at", "(I)I"⟩
abbrev cX9_copyFrom : ByteArray := prog_11_method_4_code
def yX9_copyFrom : MethodName := ⟨RX9, "copyFrom", "(LMillWind$Tape;)V"⟩
def RX10 : String := "MillWind$Winds"
def TX10 : u_T := fun k => match k with
  | _ => ("MillWind$Winds", "chances", "[I", true)
def tyX10 : Nat → FieldType := fun k => match k with
  | _ => .array .int
abbrev wsX100 : List Cond := u_ws RX10 TX10 1
theorem nmX10 : ∀ a, a < 1 → ∀ b, b < 1 → a ≠ b → (TX10 a).2.1 ≠ (TX10 b).2.1 := by decide +kernel
theorem tyX10_ok : ∀ k, k < 1 → parseFieldDescriptor (TX10 k).2.2.1 = some (tyX10 k) := by decide +kernel
abbrev cX10_init : ByteArray := prog_12_method_1_code
def yX10_init : MethodName := ⟨RX10, "<init>", "()V"⟩
abbrev cX10_follow : ByteArray := prog_12_method_2_code
def yX10_follow : MethodName := ⟨RX10, "follow", "(III)V"⟩
abbrev cX10_chanceOf : ByteArray := prog_12_method_3_code
def yX10_chanceOf : MethodName := ⟨RX10, "chanceOf", "(II)I"⟩
abbrev cX10_nextBy : ByteArray := prog_12_method_4_code
def yX10_nextBy : MethodName := ⟨RX10, "nextBy", "(II)I"⟩
abbrev cX10_copyFrom : ByteArray := prog_12_method_5_code
def yX10_copyFrom : MethodName := ⟨RX10, "copyFrom", "(LMillWind$Winds;)V"⟩
def RX11 : String := "MillWind"
def TX11 : u_T := fun k => match k with
  | 0 => ("MillWind", "mills", "[LMillWind$Mill;", true)
  | 1 => ("MillWind", "now", "LMillWind$State;", true)
  | 2 => ("MillWind", "image", "LMillWind$State;", true)
  | 3 => ("MillWind", "reader", "LMillWind$Reader;", true)
  | 4 => ("MillWind", "planner", "LMillWind$Planner;", true)
  | 5 => ("MillWind", "acts", "LMillWind$Acts;", true)
  | _ => ("MillWind", "hasImage", "Z", false)
def tyX11 : Nat → FieldType := fun k => match k with
  | 0 => .array (.object "MillWind$Mill")
  | 1 => .object "MillWind$State"
  | 2 => .object "MillWind$State"
  | 3 => .object "MillWind$Reader"
  | 4 => .object "MillWind$Planner"
  | 5 => .object "MillWind$Acts"
  | _ => .boolean
abbrev wsX110 : List Cond := u_ws RX11 TX11 7
theorem nmX11 : ∀ a, a < 7 → ∀ b, b < 7 → a ≠ b → (TX11 a).2.1 ≠ (TX11 b).2.1 := by decide +kernel
theorem tyX11_ok : ∀ k, k < 7 → parseFieldDescriptor (TX11 k).2.2.1 = some (tyX11 k) := by decide +kernel
abbrev cX11_init : ByteArray := prog_1_method_1_code
def yX11_init : MethodName := ⟨RX11, "<init>", "()V"⟩
abbrev cX11_feed : ByteArray := prog_1_method_2_code
def yX11_feed : MethodName := ⟨RX11, "feed", "(JI)I"⟩
abbrev cX11_mill : ByteArray := prog_1_method_3_code
def yX11_mill : MethodName := ⟨RX11, "mill", "()I"⟩
abbrev cX11_hour : ByteArray := prog_1_method_4_code
def yX11_hour : MethodName := ⟨RX11, "hour", "(IIIIII)I"⟩
abbrev cX11_wind : ByteArray := prog_1_method_5_code
def yX11_wind : MethodName := ⟨RX11, "wind", "(IIIIII)I"⟩
abbrev cX11_chance : ByteArray := prog_1_method_6_code
def yX11_chance : MethodName := ⟨RX11, "chance", "(II)I"⟩
abbrev cX11_lead : ByteArray := prog_1_method_7_code
def yX11_lead : MethodName := ⟨RX11, "lead", "(I)I"⟩
abbrev cX11_led : ByteArray := prog_1_method_8_code
def yX11_led : MethodName := ⟨RX11, "led", "(I)I"⟩
abbrev cX11_go : ByteArray := prog_1_method_9_code
def yX11_go : MethodName := ⟨RX11, "go", "(II)I"⟩
abbrev cX11_rule : ByteArray := prog_1_method_10_code
def yX11_rule : MethodName := ⟨RX11, "rule", "(II)I"⟩
abbrev cX11_row : ByteArray := prog_1_method_11_code
def yX11_row : MethodName := ⟨RX11, "row", "(II)I"⟩
abbrev cX11_sets : ByteArray := prog_1_method_12_code
def yX11_sets : MethodName := ⟨RX11, "sets", "(IIIII)I"⟩
abbrev cX11_mean : ByteArray := prog_1_method_13_code
def yX11_mean : MethodName := ⟨RX11, "mean", "(IIII)J"⟩
abbrev cX11_best : ByteArray := prog_1_method_14_code
def yX11_best : MethodName := ⟨RX11, "best", "(III)J"⟩
abbrev cX11_dress : ByteArray := prog_1_method_15_code
def yX11_dress : MethodName := ⟨RX11, "dress", "(II)I"⟩
abbrev cX11_day : ByteArray := prog_1_method_16_code
def yX11_day : MethodName := ⟨RX11, "day", "(II)I"⟩
abbrev cX11_judged : ByteArray := prog_1_method_17_code
def yX11_judged : MethodName := ⟨RX11, "judged", "(I)I"⟩
abbrev cX11_order : ByteArray := prog_1_method_18_code
def yX11_order : MethodName := ⟨RX11, "order", "(III)I"⟩
abbrev cX11_take : ByteArray := prog_1_method_19_code
def yX11_take : MethodName := ⟨RX11, "take", "()I"⟩
abbrev cX11_late : ByteArray := prog_1_method_20_code
def yX11_late : MethodName := ⟨RX11, "late", "(I)I"⟩
abbrev cX11_ridge : ByteArray := prog_1_method_21_code
def yX11_ridge : MethodName := ⟨RX11, "ridge", "(IIIII)I"⟩
abbrev cX11_run : ByteArray := prog_1_method_22_code
def yX11_run : MethodName := ⟨RX11, "run", "(IIII)J"⟩
abbrev cX11_act : ByteArray := prog_1_method_23_code
def yX11_act : MethodName := ⟨RX11, "act", "(III)I"⟩
abbrev cX11_trace : ByteArray := prog_1_method_24_code
def yX11_trace : MethodName := ⟨RX11, "trace", "(I)I"⟩
abbrev cX11_as : ByteArray := prog_1_method_25_code
def yX11_as : MethodName := ⟨RX11, "as", "(II)I"⟩
abbrev cX11_image : ByteArray := prog_1_method_26_code
def yX11_image : MethodName := ⟨RX11, "image", "()I"⟩
abbrev cX11_undo : ByteArray := prog_1_method_27_code
def yX11_undo : MethodName := ⟨RX11, "undo", "()I"⟩
abbrev cX11_count : ByteArray := prog_1_method_28_code
def yX11_count : MethodName := ⟨RX11, "count", "(I)I"⟩
abbrev cX11_within : ByteArray := prog_1_method_29_code
def yX11_within : MethodName := ⟨RX11, "within", "(III)Z"⟩
abbrev cX11_isWind : ByteArray := prog_1_method_30_code
def yX11_isWind : MethodName := ⟨RX11, "isWind", "(I)Z"⟩
abbrev cX11_isSetting : ByteArray := prog_1_method_31_code
def yX11_isSetting : MethodName := ⟨RX11, "isSetting", "(I)Z"⟩
abbrev cX11_isChance : ByteArray := prog_1_method_32_code
def yX11_isChance : MethodName := ⟨RX11, "isChance", "(I)Z"⟩
abbrev cX11_isMill : ByteArray := prog_1_method_33_code
def yX11_isMill : MethodName := ⟨RX11, "isMill", "(I)Z"⟩
abbrev cX11_isRule : ByteArray := prog_1_method_34_code
def yX11_isRule : MethodName := ⟨RX11, "isRule", "(I)Z"⟩
abbrev cX11_isLed : ByteArray := prog_1_method_35_code
def yX11_isLed : MethodName := ⟨RX11, "isLed", "()Z"⟩
abbrev cX11_ground : ByteArray := prog_1_method_36_code
def yX11_ground : MethodName := ⟨RX11, "ground", "(III)I"⟩
abbrev cX11_rests : ByteArray := prog_1_method_37_code
def yX11_rests : MethodName := ⟨RX11, "rests", "(III)Z"⟩
def RX12 : String := "MillWindModel"
def TX12 : u_T := fun k => match k with
  | 0 => ("MillWindModel", "thrown", "I", false)
  | 1 => ("MillWindModel", "s", "[I", true)
  | 2 => ("MillWindModel", "image", "[I", true)
  | 3 => ("MillWindModel", "hasImage", "Z", false)
  | 4 => ("MillWindModel", "act", "I", false)
  | 5 => ("MillWindModel", "spot", "I", false)
  | 6 => ("MillWindModel", "end", "I", false)
  | 7 => ("MillWindModel", "isWrong", "Z", false)
  | 8 => ("MillWindModel", "open", "I", false)
  | 9 => ("MillWindModel", "by", "[I", true)
  | 10 => ("MillWindModel", "truths", "[Z", true)
  | 11 => ("MillWindModel", "away", "Z", false)
  | 12 => ("MillWindModel", "burnt", "Z", false)
  | 13 => ("MillWindModel", "meal", "I", false)
  | 14 => ("MillWindModel", "heatThen", "I", false)
  | 15 => ("MillWindModel", "dullThen", "I", false)
  | 16 => ("MillWindModel", "hourAt", "[I", true)
  | 17 => ("MillWindModel", "hourMeal", "[I", true)
  | 18 => ("MillWindModel", "hourHeat", "[I", true)
  | 19 => ("MillWindModel", "hourDull", "[I", true)
  | 20 => ("MillWindModel", "hourBurnt", "[Z", true)
  | 21 => ("MillWindModel", "bestAt", "[I", true)
  | 22 => ("MillWindModel", "meanAt", "[I", true)
  | 23 => ("MillWindModel", "bestOf", "[J", true)
  | 24 => ("MillWindModel", "meanOf", "[J", true)
  | 25 => ("MillWindModel", "stamp", "I", false)
  | 26 => ("MillWindModel", "meanStamp", "I", false)
  | 27 => ("MillWindModel", "kindNow", "I", false)
  | 28 => ("MillWindModel", "vNow", "I", false)
  | 29 => ("MillWindModel", "ruleNow", "I", false)
  | 30 => ("MillWindModel", "hours", "I", false)
  | 31 => ("MillWindModel", "dressed", "I", false)
  | 32 => ("MillWindModel", "ofAway", "Z", false)
  | 33 => ("MillWindModel", "ridgeMeal", "[I", true)
  | 34 => ("MillWindModel", "bodies", "[I", true)
  | 35 => ("MillWindModel", "ran", "I", false)
  | 36 => ("MillWindModel", "kind", "I", false)
  | 37 => ("MillWindModel", "number", "I", false)
  | _ => ("MillWindModel", "tellsV", "I", false)
def tyX12 : Nat → FieldType := fun k => match k with
  | 0 => .int
  | 1 => .array .int
  | 2 => .array .int
  | 3 => .boolean
  | 4 => .int
  | 5 => .int
  | 6 => .int
  | 7 => .boolean
  | 8 => .int
  | 9 => .array .int
  | 10 => .array .boolean
  | 11 => .boolean
  | 12 => .boolean
  | 13 => .int
  | 14 => .int
  | 15 => .int
  | 16 => .array .int
  | 17 => .array .int
  | 18 => .array .int
  | 19 => .array .int
  | 20 => .array .boolean
  | 21 => .array .int
  | 22 => .array .int
  | 23 => .array .long
  | 24 => .array .long
  | 25 => .int
  | 26 => .int
  | 27 => .int
  | 28 => .int
  | 29 => .int
  | 30 => .int
  | 31 => .int
  | 32 => .boolean
  | 33 => .array .int
  | 34 => .array .int
  | 35 => .int
  | 36 => .int
  | 37 => .int
  | _ => .int
abbrev wsX120 : List Cond := u_ws RX12 TX12 39
theorem nmX12 : ∀ a, a < 39 → ∀ b, b < 39 → a ≠ b → (TX12 a).2.1 ≠ (TX12 b).2.1 := by decide +kernel
theorem tyX12_ok : ∀ k, k < 39 → parseFieldDescriptor (TX12 k).2.2.1 = some (tyX12 k) := by decide +kernel
abbrev cX12_init : ByteArray := prog_14_method_1_code
def yX12_init : MethodName := ⟨RX12, "<init>", "()V"⟩
abbrev cX12_in : ByteArray := prog_14_method_3_code
def yX12_in : MethodName := ⟨RX12, "in", "(III)Z"⟩
abbrev cX12_isWind : ByteArray := prog_14_method_4_code
def yX12_isWind : MethodName := ⟨RX12, "isWind", "(I)Z"⟩
abbrev cX12_isMill : ByteArray := prog_14_method_5_code
def yX12_isMill : MethodName := ⟨RX12, "isMill", "(I)Z"⟩
abbrev cX12_isRule : ByteArray := prog_14_method_6_code
def yX12_isRule : MethodName := ⟨RX12, "isRule", "(I)Z"⟩
abbrev cX12_isLed : ByteArray := prog_14_method_7_code
def yX12_isLed : MethodName := ⟨RX12, "isLed", "()Z"⟩
abbrev cX12_feed : ByteArray := prog_14_method_8_code
def yX12_feed : MethodName := ⟨RX12, "feed", "(JI)I"⟩
abbrev cX12_here : ByteArray := prog_14_method_9_code
def yX12_here : MethodName := ⟨RX12, "here", "()I"⟩
abbrev cX12_must : ByteArray := prog_14_method_10_code
def yX12_must : MethodName := ⟨RX12, "must", "(I)V"⟩
abbrev cX12_spells : ByteArray := prog_14_method_11_code
def yX12_spells : MethodName := ⟨RX12, "spells", "(Ljava/lang/String;)V"⟩
abbrev cX12_figures : ByteArray := prog_14_method_12_code
def yX12_figures : MethodName := ⟨RX12, "figures", "()I"⟩
abbrev cX12_among : ByteArray := prog_14_method_13_code
def yX12_among : MethodName := ⟨RX12, "among", "(Ljava/lang/String;)I"⟩
abbrev cX12_emits : ByteArray := prog_14_method_14_code
def yX12_emits : MethodName := ⟨RX12, "emits", "(I)V"⟩
abbrev cX12_factor : ByteArray := prog_14_method_15_code
def yX12_factor : MethodName := ⟨RX12, "factor", "()V"⟩
abbrev cX12_every : ByteArray := prog_14_method_16_code
def yX12_every : MethodName := ⟨RX12, "every", "()V"⟩
abbrev cX12_some : ByteArray := prog_14_method_17_code
def yX12_some : MethodName := ⟨RX12, "some", "()V"⟩
abbrev cX12_much : ByteArray := prog_14_method_18_code
def yX12_much : MethodName := ⟨RX12, "much", "(ILjava/lang/String;)V"⟩
abbrev cX12_tells : ByteArray := prog_14_method_19_code
def yX12_tells : MethodName := ⟨RX12, "tells", "(ILjava/lang/String;)V"⟩
abbrev cX12_clauseHere : ByteArray := prog_14_method_20_code
def yX12_clauseHere : MethodName := ⟨RX12, "clauseHere", "()V"⟩
abbrev cX12_mill : ByteArray := prog_14_method_21_code
def yX12_mill : MethodName := ⟨RX12, "mill", "()I"⟩
abbrev cX12_together : ByteArray := prog_14_method_22_code
def yX12_together : MethodName := ⟨RX12, "together", "(II)I"⟩
abbrev cX12_held : ByteArray := prog_14_method_23_code
def yX12_held : MethodName := ⟨RX12, "held", "(I)I"⟩
abbrev cX12_fast : ByteArray := prog_14_method_24_code
def yX12_fast : MethodName := ⟨RX12, "fast", "(IIIII)I"⟩
abbrev cX12_hourOf : ByteArray := prog_14_method_25_code
def yX12_hourOf : MethodName := ⟨RX12, "hourOf", "(IIIII)V"⟩
abbrev cX12_hour : ByteArray := prog_14_method_26_code
def yX12_hour : MethodName := ⟨RX12, "hour", "(IIIIII)I"⟩
abbrev cX12_wind : ByteArray := prog_14_method_27_code
def yX12_wind : MethodName := ⟨RX12, "wind", "(IIIIII)I"⟩
abbrev cX12_chance : ByteArray := prog_14_method_28_code
def yX12_chance : MethodName := ⟨RX12, "chance", "(II)I"⟩
abbrev cX12_lead : ByteArray := prog_14_method_29_code
def yX12_lead : MethodName := ⟨RX12, "lead", "(I)I"⟩
abbrev cX12_led : ByteArray := prog_14_method_30_code
def yX12_led : MethodName := ⟨RX12, "led", "(I)I"⟩
abbrev cX12_go : ByteArray := prog_14_method_31_code
def yX12_go : MethodName := ⟨RX12, "go", "(II)I"⟩
abbrev cX12_begins : ByteArray := prog_14_method_32_code
def yX12_begins : MethodName := ⟨RX12, "begins", "()V"⟩
abbrev cX12_hourPlace : ByteArray := prog_14_method_33_code
def yX12_hourPlace : MethodName := ⟨RX12, "hourPlace", "(IIII)I"⟩
abbrev cX12_bestFrom : ByteArray := prog_14_method_34_code
def yX12_bestFrom : MethodName := ⟨RX12, "bestFrom", "(IIII)J"⟩
abbrev cX12_with : ByteArray := prog_14_method_35_code
def yX12_with : MethodName := ⟨RX12, "with", "(IIIII)J"⟩
abbrev cX12_isSafe : ByteArray := prog_14_method_36_code
def yX12_isSafe : MethodName := ⟨RX12, "isSafe", "(IIII)Z"⟩
abbrev cX12_bestSetting : ByteArray := prog_14_method_37_code
def yX12_bestSetting : MethodName := ⟨RX12, "bestSetting", "(IIIII)I"⟩
abbrev cX12_watched : ByteArray := prog_14_method_38_code
def yX12_watched : MethodName := ⟨RX12, "watched", "(IIII)I"⟩
abbrev cX12_settingOf : ByteArray := prog_14_method_39_code
def yX12_settingOf : MethodName := ⟨RX12, "settingOf", "(IIIIIIIII)I"⟩
abbrev cX12_rule : ByteArray := prog_14_method_40_code
def yX12_rule : MethodName := ⟨RX12, "rule", "(II)I"⟩
abbrev cX12_row : ByteArray := prog_14_method_41_code
def yX12_row : MethodName := ⟨RX12, "row", "(II)I"⟩
abbrev cX12_sets : ByteArray := prog_14_method_42_code
def yX12_sets : MethodName := ⟨RX12, "sets", "(IIIII)I"⟩
abbrev cX12_behind : ByteArray := prog_14_method_43_code
def yX12_behind : MethodName := ⟨RX12, "behind", "(IIII)J"⟩
abbrev cX12_meanFrom : ByteArray := prog_14_method_44_code
def yX12_meanFrom : MethodName := ⟨RX12, "meanFrom", "(IIIII)J"⟩
abbrev cX12_meanAnew : ByteArray := prog_14_method_45_code
def yX12_meanAnew : MethodName := ⟨RX12, "meanAnew", "(IIIII)J"⟩
abbrev cX12_meanBy : ByteArray := prog_14_method_46_code
def yX12_meanBy : MethodName := ⟨RX12, "meanBy", "(IIIIIIZ)J"⟩
abbrev cX12_mean : ByteArray := prog_14_method_47_code
def yX12_mean : MethodName := ⟨RX12, "mean", "(IIII)J"⟩
abbrev cX12_best : ByteArray := prog_14_method_48_code
def yX12_best : MethodName := ⟨RX12, "best", "(III)J"⟩
abbrev cX12_dress : ByteArray := prog_14_method_49_code
def yX12_dress : MethodName := ⟨RX12, "dress", "(II)I"⟩
abbrev cX12_day : ByteArray := prog_14_method_50_code
def yX12_day : MethodName := ⟨RX12, "day", "(II)I"⟩
abbrev cX12_mostMeal : ByteArray := prog_14_method_51_code
def yX12_mostMeal : MethodName := ⟨RX12, "mostMeal", "(III)I"⟩
abbrev cX12_judged : ByteArray := prog_14_method_52_code
def yX12_judged : MethodName := ⟨RX12, "judged", "(I)I"⟩
abbrev cX12_order : ByteArray := prog_14_method_53_code
def yX12_order : MethodName := ⟨RX12, "order", "(III)I"⟩
abbrev cX12_ready : ByteArray := prog_14_method_54_code
def yX12_ready : MethodName := ⟨RX12, "ready", "(II)I"⟩
abbrev cX12_lates : ByteArray := prog_14_method_55_code
def yX12_lates : MethodName := ⟨RX12, "lates", "(I)I"⟩
abbrev cX12_take : ByteArray := prog_14_method_56_code
def yX12_take : MethodName := ⟨RX12, "take", "()I"⟩
abbrev cX12_late : ByteArray := prog_14_method_57_code
def yX12_late : MethodName := ⟨RX12, "late", "(I)I"⟩
abbrev cX12_windAt : ByteArray := prog_14_method_58_code
def yX12_windAt : MethodName := ⟨RX12, "windAt", "(III)I"⟩
abbrev cX12_clothAt : ByteArray := prog_14_method_59_code
def yX12_clothAt : MethodName := ⟨RX12, "clothAt", "(II)I"⟩
abbrev cX12_mealAt : ByteArray := prog_14_method_60_code
def yX12_mealAt : MethodName := ⟨RX12, "mealAt", "(III)I"⟩
abbrev cX12_allMeal : ByteArray := prog_14_method_61_code
def yX12_allMeal : MethodName := ⟨RX12, "allMeal", "(II)I"⟩
abbrev cX12_isRest : ByteArray := prog_14_method_62_code
def yX12_isRest : MethodName := ⟨RX12, "isRest", "(II)Z"⟩
abbrev cX12_looksAt : ByteArray := prog_14_method_63_code
def yX12_looksAt : MethodName := ⟨RX12, "looksAt", "(II)V"⟩
abbrev cX12_ridge : ByteArray := prog_14_method_64_code
def yX12_ridge : MethodName := ⟨RX12, "ridge", "(IIIII)I"⟩
abbrev cX12_nextWind : ByteArray := prog_14_method_65_code
def yX12_nextWind : MethodName := ⟨RX12, "nextWind", "(III)I"⟩
abbrev cX12_run : ByteArray := prog_14_method_66_code
def yX12_run : MethodName := ⟨RX12, "run", "(IIII)J"⟩
abbrev cX12_runs : ByteArray := prog_14_method_67_code
def yX12_runs : MethodName := ⟨RX12, "runs", "(I)V"⟩
abbrev cX12_isUnder : ByteArray := prog_14_method_68_code
def yX12_isUnder : MethodName := ⟨RX12, "isUnder", "(II)Z"⟩
abbrev cX12_plainSets : ByteArray := prog_14_method_69_code
def yX12_plainSets : MethodName := ⟨RX12, "plainSets", "(I)I"⟩
abbrev cX12_setsActs : ByteArray := prog_14_method_70_code
def yX12_setsActs : MethodName := ⟨RX12, "setsActs", "(I)I"⟩
abbrev cX12_plainTurns : ByteArray := prog_14_method_71_code
def yX12_plainTurns : MethodName := ⟨RX12, "plainTurns", "(I)I"⟩
abbrev cX12_turnsActs : ByteArray := prog_14_method_72_code
def yX12_turnsActs : MethodName := ⟨RX12, "turnsActs", "(I)I"⟩
abbrev cX12_plainTells : ByteArray := prog_14_method_73_code
def yX12_plainTells : MethodName := ⟨RX12, "plainTells", "(I)I"⟩
abbrev cX12_tellsActs : ByteArray := prog_14_method_74_code
def yX12_tellsActs : MethodName := ⟨RX12, "tellsActs", "(I)I"⟩
abbrev cX12_act : ByteArray := prog_14_method_75_code
def yX12_act : MethodName := ⟨RX12, "act", "(III)I"⟩
abbrev cX12_trace : ByteArray := prog_14_method_76_code
def yX12_trace : MethodName := ⟨RX12, "trace", "(I)I"⟩
abbrev cX12_as : ByteArray := prog_14_method_77_code
def yX12_as : MethodName := ⟨RX12, "as", "(II)I"⟩
abbrev cX12_image : ByteArray := prog_14_method_78_code
def yX12_image : MethodName := ⟨RX12, "image", "()I"⟩
abbrev cX12_undo : ByteArray := prog_14_method_79_code
def yX12_undo : MethodName := ⟨RX12, "undo", "()I"⟩
abbrev cX12_count : ByteArray := prog_14_method_80_code
def yX12_count : MethodName := ⟨RX12, "count", "(I)I"⟩
def RJ11 : String := "java/lang/Character"
abbrev cJ11_isValidCodePoint_9a6ad : ByteArray := prog_15_method_11_code
def yJ11_isValidCodePoint_9a6ad : MethodName := ⟨RJ11, "isValidCodePoint", "(I)Z"⟩
abbrev cJ11_highSurrogate_5068e : ByteArray := prog_15_method_28_code
def yJ11_highSurrogate_5068e : MethodName := ⟨RJ11, "highSurrogate", "(I)C"⟩
abbrev cJ11_lowSurrogate_5068e : ByteArray := prog_15_method_29_code
def yJ11_lowSurrogate_5068e : MethodName := ⟨RJ11, "lowSurrogate", "(I)C"⟩
def RJ9 : String := "java/lang/Math"
abbrev cJ9_max_7cf53 : ByteArray := prog_16_method_65_code
def yJ9_max_7cf53 : MethodName := ⟨RJ9, "max", "(II)I"⟩
abbrev cJ9_min_7cf53 : ByteArray := prog_16_method_69_code
def yJ9_min_7cf53 : MethodName := ⟨RJ9, "min", "(II)I"⟩
def RJ0 : String := "java/lang/String"
abbrev cJ0_length_8abf5 : ByteArray := prog_17_method_54_code
def yJ0_length_8abf5 : MethodName := ⟨RJ0, "length", "()I"⟩
abbrev cJ0_charAt_5068e : ByteArray := prog_17_method_56_code
def yJ0_charAt_5068e : MethodName := ⟨RJ0, "charAt", "(I)C"⟩
abbrev cJ0_indexOf_0f7a4 : ByteArray := prog_17_method_79_code
def yJ0_indexOf_0f7a4 : MethodName := ⟨RJ0, "indexOf", "(I)I"⟩
abbrev cJ0_indexOf_7cf53 : ByteArray := prog_17_method_80_code
def yJ0_indexOf_7cf53 : MethodName := ⟨RJ0, "indexOf", "(II)I"⟩
abbrev cJ0_coder_7d493 : ByteArray := prog_17_method_152_code
def yJ0_coder_7d493 : MethodName := ⟨RJ0, "coder", "()B"⟩
abbrev cJ0_isLatin1_aae02 : ByteArray := prog_17_method_154_code
def yJ0_isLatin1_aae02 : MethodName := ⟨RJ0, "isLatin1", "()Z"⟩
abbrev cJ0_checkIndex_df160 : ByteArray := prog_17_method_155_code
def yJ0_checkIndex_df160 : MethodName := ⟨RJ0, "checkIndex", "(II)V"⟩
abbrev cJ0_checkBoundsBeginEnd_23922 : ByteArray := prog_17_method_158_code
def yJ0_checkBoundsBeginEnd_23922 : MethodName := ⟨RJ0, "checkBoundsBeginEnd", "(III)V"⟩
def RJ1 : String := "java/lang/StringLatin1"
abbrev cJ1_charAt_3b067 : ByteArray := prog_18_method_2_code
def yJ1_charAt_3b067 : MethodName := ⟨RJ1, "charAt", "([BI)C"⟩
abbrev cJ1_canEncode_9a6ad : ByteArray := prog_18_method_4_code
def yJ1_canEncode_9a6ad : MethodName := ⟨RJ1, "canEncode", "(I)Z"⟩
abbrev cJ1_indexOf_4cfef : ByteArray := prog_18_method_22_code
def yJ1_indexOf_4cfef : MethodName := ⟨RJ1, "indexOf", "([BIII)I"⟩
abbrev cJ1_indexOfChar_4cfef : ByteArray := prog_18_method_23_code
def yJ1_indexOfChar_4cfef : MethodName := ⟨RJ1, "indexOfChar", "([BIII)I"⟩
def RJ2 : String := "java/lang/StringUTF16"
abbrev cJ2_getChar_3b067 : ByteArray := prog_19_method_5_code
def yJ2_getChar_3b067 : MethodName := ⟨RJ2, "getChar", "([BI)C"⟩
abbrev cJ2_length_9d52b : ByteArray := prog_19_method_6_code
def yJ2_length_9d52b : MethodName := ⟨RJ2, "length", "([B)I"⟩
abbrev cJ2_indexOf_4cfef : ByteArray := prog_19_method_40_code
def yJ2_indexOf_4cfef : MethodName := ⟨RJ2, "indexOf", "([BIII)I"⟩
abbrev cJ2_indexOfChar_4cfef : ByteArray := prog_19_method_47_code
def yJ2_indexOfChar_4cfef : MethodName := ⟨RJ2, "indexOfChar", "([BIII)I"⟩
abbrev cJ2_indexOfCharUnsafe_4cfef : ByteArray := prog_19_method_48_code
def yJ2_indexOfCharUnsafe_4cfef : MethodName := ⟨RJ2, "indexOfCharUnsafe", "([BIII)I"⟩
abbrev cJ2_indexOfSupplementary_4cfef : ByteArray := prog_19_method_49_code
def yJ2_indexOfSupplementary_4cfef : MethodName := ⟨RJ2, "indexOfSupplementary", "([BIII)I"⟩
abbrev cJ2_charAt_3b067 : ByteArray := prog_19_method_83_code
def yJ2_charAt_3b067 : MethodName := ⟨RJ2, "charAt", "([BI)C"⟩
abbrev cJ2_checkIndex_2214a : ByteArray := prog_19_method_91_code
def yJ2_checkIndex_2214a : MethodName := ⟨RJ2, "checkIndex", "(I[B)V"⟩
abbrev cJ2_checkBoundsBeginEnd_d044e : ByteArray := prog_19_method_93_code
def yJ2_checkBoundsBeginEnd_d044e : MethodName := ⟨RJ2, "checkBoundsBeginEnd", "(II[B)V"⟩
def RJ10 : String := "java/lang/System"
def RJ7 : String := "java/util/Arrays"
abbrev cJ7_fill_53178 : ByteArray := prog_21_method_103_code
def yJ7_fill_53178 : MethodName := ⟨RJ7, "fill", "([II)V"⟩
def RJ3 : String := "jdk/internal/util/Preconditions"
abbrev cJ3_checkIndex_8e157 : ByteArray := prog_22_method_11_code
def yJ3_checkIndex_8e157 : MethodName := ⟨RJ3, "checkIndex", "(IILjava/util/function/BiFunction;)I"⟩
abbrev cJ3_checkFromToIndex_8c36e : ByteArray := prog_22_method_12_code
def yJ3_checkFromToIndex_8c36e : MethodName := ⟨RJ3, "checkFromToIndex", "(IIILjava/util/function/BiFunction;)I"⟩
def RL : String := "MillWindLaw"
abbrev cL_law : ByteArray := code
def yL_law : MethodName := ⟨RL, "law", "([I)Z"⟩
abbrev vwCl : List vw_C := [(RX0, TX0, 5), (RX1, TX1, 3), (RX2, TX2, 6), (RX3, TX3, 11), (RX4, TX4, 5), (RX5, TX5, 15), (RX6, TX6, 3), (RX7, TX7, 5), (RX8, TX8, 7), (RX9, TX9, 2), (RX10, TX10, 1), (RX11, TX11, 7), (RX12, TX12, 39)]
