/-- a private method of a class that the tables say can be made, by its rows of tables_1 -/
def lw_okq (q : MethodName × Nat) : Prop := (q.1.cls ≠ "java/lang/invoke/MethodHandle" ∧ q.1.cls ≠ "java/lang/invoke/VarHandle") ∧ Cond.instantiable q.1.cls q.2 ∈ tables_1 ∧ Cond.privateMethod q.1 ∈ tables_1 ∧ Cond.instanceMethod q.1 ∈ tables_1
theorem lw_p0 : lw_okq (⟨"AirByYard", "estuaryNow", "()LAirByYard$Estuary;"⟩, 17) := ⟨⟨by decide +kernel, by decide +kernel⟩, List.mem_of_getElem? (i := 17) (by decide +kernel), List.mem_of_getElem? (i := 280) (by decide +kernel), List.mem_of_getElem? (i := 281) (by decide +kernel)⟩
theorem lw_p1 : lw_okq (⟨"AirByYard$Reader", "clause", "(LAirByYard$Estuary;)Z"⟩, 3) := ⟨⟨by decide +kernel, by decide +kernel⟩, List.mem_of_getElem? (i := 142) (by decide +kernel), List.mem_of_getElem? (i := 370) (by decide +kernel), List.mem_of_getElem? (i := 371) (by decide +kernel)⟩
theorem lw_p2 : lw_okq (⟨"AirByYard$Reader", "next", "()I"⟩, 3) := ⟨⟨by decide +kernel, by decide +kernel⟩, List.mem_of_getElem? (i := 142) (by decide +kernel), List.mem_of_getElem? (i := 374) (by decide +kernel), List.mem_of_getElem? (i := 375) (by decide +kernel)⟩
theorem lw_p3 : lw_okq (⟨"AirByYard$Reader", "skipWord", "(Ljava/lang/String;)Z"⟩, 3) := ⟨⟨by decide +kernel, by decide +kernel⟩, List.mem_of_getElem? (i := 142) (by decide +kernel), List.mem_of_getElem? (i := 379) (by decide +kernel), List.mem_of_getElem? (i := 380) (by decide +kernel)⟩
theorem lw_p4 : lw_okq (⟨"AirByYard$Reader", "skip", "(C)Z"⟩, 3) := ⟨⟨by decide +kernel, by decide +kernel⟩, List.mem_of_getElem? (i := 142) (by decide +kernel), List.mem_of_getElem? (i := 431) (by decide +kernel), List.mem_of_getElem? (i := 432) (by decide +kernel)⟩
theorem lw_p5 : lw_okq (⟨"AirByYard$Reader", "change", "(LAirByYard$Estuary;I)Z"⟩, 3) := ⟨⟨by decide +kernel, by decide +kernel⟩, List.mem_of_getElem? (i := 142) (by decide +kernel), List.mem_of_getElem? (i := 435) (by decide +kernel), List.mem_of_getElem? (i := 436) (by decide +kernel)⟩
theorem lw_p6 : lw_okq (⟨"AirByYard$Reader", "number", "()I"⟩, 3) := ⟨⟨by decide +kernel, by decide +kernel⟩, List.mem_of_getElem? (i := 142) (by decide +kernel), List.mem_of_getElem? (i := 439) (by decide +kernel), List.mem_of_getElem? (i := 440) (by decide +kernel)⟩
theorem lw_p7 : lw_okq (⟨"AirByYard$Reader", "either", "(LAirByYard$Estuary;I)Z"⟩, 3) := ⟨⟨by decide +kernel, by decide +kernel⟩, List.mem_of_getElem? (i := 142) (by decide +kernel), List.mem_of_getElem? (i := 444) (by decide +kernel), List.mem_of_getElem? (i := 445) (by decide +kernel)⟩
theorem lw_p8 : lw_okq (⟨"AirByYard$Reader", "factor", "(LAirByYard$Estuary;I)Z"⟩, 3) := ⟨⟨by decide +kernel, by decide +kernel⟩, List.mem_of_getElem? (i := 142) (by decide +kernel), List.mem_of_getElem? (i := 448) (by decide +kernel), List.mem_of_getElem? (i := 449) (by decide +kernel)⟩
theorem lw_p9 : lw_okq (⟨"AirByYard$Reader", "test", "(LAirByYard$Estuary;)Z"⟩, 3) := ⟨⟨by decide +kernel, by decide +kernel⟩, List.mem_of_getElem? (i := 142) (by decide +kernel), List.mem_of_getElem? (i := 452) (by decide +kernel), List.mem_of_getElem? (i := 453) (by decide +kernel)⟩
theorem lw_p10 : lw_okq (⟨"AirByYard$Reader", "gain", "(LAirByYard$Estuary;)Z"⟩, 3) := ⟨⟨by decide +kernel, by decide +kernel⟩, List.mem_of_getElem? (i := 142) (by decide +kernel), List.mem_of_getElem? (i := 468) (by decide +kernel), List.mem_of_getElem? (i := 469) (by decide +kernel)⟩
theorem lw_p11 : lw_okq (⟨"AirByYard$Reader", "top", "(LAirByYard$Estuary;)Z"⟩, 3) := ⟨⟨by decide +kernel, by decide +kernel⟩, List.mem_of_getElem? (i := 142) (by decide +kernel), List.mem_of_getElem? (i := 473) (by decide +kernel), List.mem_of_getElem? (i := 474) (by decide +kernel)⟩
theorem lw_p12 : lw_okq (⟨"AirByYard", "freeStrips", "(I)I"⟩, 17) := ⟨⟨by decide +kernel, by decide +kernel⟩, List.mem_of_getElem? (i := 17) (by decide +kernel), List.mem_of_getElem? (i := 488) (by decide +kernel), List.mem_of_getElem? (i := 489) (by decide +kernel)⟩
theorem lw_p13 : lw_okq (⟨"AirByYard", "layAir", "(LAirByYard$Scene;II)V"⟩, 17) := ⟨⟨by decide +kernel, by decide +kernel⟩, List.mem_of_getElem? (i := 17) (by decide +kernel), List.mem_of_getElem? (i := 492) (by decide +kernel), List.mem_of_getElem? (i := 493) (by decide +kernel)⟩
theorem lw_p14 : lw_okq (⟨"AirByYard", "layBird", "(II)V"⟩, 17) := ⟨⟨by decide +kernel, by decide +kernel⟩, List.mem_of_getElem? (i := 17) (by decide +kernel), List.mem_of_getElem? (i := 503) (by decide +kernel), List.mem_of_getElem? (i := 504) (by decide +kernel)⟩
theorem lw_p15 : lw_okq (⟨"AirByYard", "freeAt", "(II)I"⟩, 17) := ⟨⟨by decide +kernel, by decide +kernel⟩, List.mem_of_getElem? (i := 17) (by decide +kernel), List.mem_of_getElem? (i := 507) (by decide +kernel), List.mem_of_getElem? (i := 508) (by decide +kernel)⟩
def lw_privs_1 : List (MethodName × Nat) := [(⟨"AirByYard", "estuaryNow", "()LAirByYard$Estuary;"⟩, 17), (⟨"AirByYard$Reader", "clause", "(LAirByYard$Estuary;)Z"⟩, 3), (⟨"AirByYard$Reader", "next", "()I"⟩, 3), (⟨"AirByYard$Reader", "skipWord", "(Ljava/lang/String;)Z"⟩, 3), (⟨"AirByYard$Reader", "skip", "(C)Z"⟩, 3), (⟨"AirByYard$Reader", "change", "(LAirByYard$Estuary;I)Z"⟩, 3), (⟨"AirByYard$Reader", "number", "()I"⟩, 3), (⟨"AirByYard$Reader", "either", "(LAirByYard$Estuary;I)Z"⟩, 3), (⟨"AirByYard$Reader", "factor", "(LAirByYard$Estuary;I)Z"⟩, 3), (⟨"AirByYard$Reader", "test", "(LAirByYard$Estuary;)Z"⟩, 3), (⟨"AirByYard$Reader", "gain", "(LAirByYard$Estuary;)Z"⟩, 3), (⟨"AirByYard$Reader", "top", "(LAirByYard$Estuary;)Z"⟩, 3), (⟨"AirByYard", "freeStrips", "(I)I"⟩, 17), (⟨"AirByYard", "layAir", "(LAirByYard$Scene;II)V"⟩, 17), (⟨"AirByYard", "layBird", "(II)V"⟩, 17), (⟨"AirByYard", "freeAt", "(II)I"⟩, 17)]
theorem lw_r1 : ∀ q ∈ lw_privs_1, lw_okq q := List.forall_mem_cons.mpr ⟨lw_p0, List.forall_mem_cons.mpr ⟨lw_p1, List.forall_mem_cons.mpr ⟨lw_p2, List.forall_mem_cons.mpr ⟨lw_p3, List.forall_mem_cons.mpr ⟨lw_p4, List.forall_mem_cons.mpr ⟨lw_p5, List.forall_mem_cons.mpr ⟨lw_p6, List.forall_mem_cons.mpr ⟨lw_p7, List.forall_mem_cons.mpr ⟨lw_p8, List.forall_mem_cons.mpr ⟨lw_p9, List.forall_mem_cons.mpr ⟨lw_p10, List.forall_mem_cons.mpr ⟨lw_p11, List.forall_mem_cons.mpr ⟨lw_p12, List.forall_mem_cons.mpr ⟨lw_p13, List.forall_mem_cons.mpr ⟨lw_p14, List.forall_mem_cons.mpr ⟨lw_p15, fun _ h => absurd h List.not_mem_nil⟩⟩⟩⟩⟩⟩⟩⟩⟩⟩⟩⟩⟩⟩⟩⟩
theorem lw_p16 : lw_okq (⟨"AirByYard", "crowded", "(LAirByYard$Scene;)I"⟩, 17) := ⟨⟨by decide +kernel, by decide +kernel⟩, List.mem_of_getElem? (i := 17) (by decide +kernel), List.mem_of_getElem? (i := 512) (by decide +kernel), List.mem_of_getElem? (i := 513) (by decide +kernel)⟩
theorem lw_p17 : lw_okq (⟨"AirByYard", "rentOfAll", "(LAirByYard$Scene;)I"⟩, 17) := ⟨⟨by decide +kernel, by decide +kernel⟩, List.mem_of_getElem? (i := 17) (by decide +kernel), List.mem_of_getElem? (i := 516) (by decide +kernel), List.mem_of_getElem? (i := 517) (by decide +kernel)⟩
theorem lw_p18 : lw_okq (⟨"AirByYard", "clashOf", "(LAirByYard$Bird;LAirByYard$Bird;)I"⟩, 17) := ⟨⟨by decide +kernel, by decide +kernel⟩, List.mem_of_getElem? (i := 17) (by decide +kernel), List.mem_of_getElem? (i := 537) (by decide +kernel), List.mem_of_getElem? (i := 538) (by decide +kernel)⟩
theorem lw_p19 : lw_okq (⟨"AirByYard", "sharedStrips", "(LAirByYard$Bird;I)I"⟩, 17) := ⟨⟨by decide +kernel, by decide +kernel⟩, List.mem_of_getElem? (i := 17) (by decide +kernel), List.mem_of_getElem? (i := 580) (by decide +kernel), List.mem_of_getElem? (i := 581) (by decide +kernel)⟩
theorem lw_p20 : lw_okq (⟨"AirByYard", "findFoes", "()V"⟩, 17) := ⟨⟨by decide +kernel, by decide +kernel⟩, List.mem_of_getElem? (i := 17) (by decide +kernel), List.mem_of_getElem? (i := 592) (by decide +kernel), List.mem_of_getElem? (i := 593) (by decide +kernel)⟩
theorem lw_p21 : lw_okq (⟨"AirByYard", "findRents", "()V"⟩, 17) := ⟨⟨by decide +kernel, by decide +kernel⟩, List.mem_of_getElem? (i := 17) (by decide +kernel), List.mem_of_getElem? (i := 596) (by decide +kernel), List.mem_of_getElem? (i := 597) (by decide +kernel)⟩
theorem lw_p22 : lw_okq (⟨"AirByYard", "isPeaceful", "(I)Z"⟩, 17) := ⟨⟨by decide +kernel, by decide +kernel⟩, List.mem_of_getElem? (i := 17) (by decide +kernel), List.mem_of_getElem? (i := 600) (by decide +kernel), List.mem_of_getElem? (i := 601) (by decide +kernel)⟩
theorem lw_p23 : lw_okq (⟨"AirByYard", "rentOfSet", "(I)I"⟩, 17) := ⟨⟨by decide +kernel, by decide +kernel⟩, List.mem_of_getElem? (i := 17) (by decide +kernel), List.mem_of_getElem? (i := 604) (by decide +kernel), List.mem_of_getElem? (i := 605) (by decide +kernel)⟩
theorem lw_p24 : lw_okq (⟨"AirByYard", "isFree", "(III)Z"⟩, 17) := ⟨⟨by decide +kernel, by decide +kernel⟩, List.mem_of_getElem? (i := 17) (by decide +kernel), List.mem_of_getElem? (i := 617) (by decide +kernel), List.mem_of_getElem? (i := 618) (by decide +kernel)⟩
theorem lw_p25 : lw_okq (⟨"AirByYard", "goAnHour", "(II)V"⟩, 17) := ⟨⟨by decide +kernel, by decide +kernel⟩, List.mem_of_getElem? (i := 17) (by decide +kernel), List.mem_of_getElem? (i := 621) (by decide +kernel), List.mem_of_getElem? (i := 622) (by decide +kernel)⟩
theorem lw_p26 : lw_okq (⟨"AirByYard", "seenHeldBy", "(LAirByYard$Bird;ILAirByYard$Estuary;)I"⟩, 17) := ⟨⟨by decide +kernel, by decide +kernel⟩, List.mem_of_getElem? (i := 17) (by decide +kernel), List.mem_of_getElem? (i := 642) (by decide +kernel), List.mem_of_getElem? (i := 643) (by decide +kernel)⟩
theorem lw_p27 : lw_okq (⟨"AirByYard", "lastSeenDays", "()I"⟩, 17) := ⟨⟨by decide +kernel, by decide +kernel⟩, List.mem_of_getElem? (i := 17) (by decide +kernel), List.mem_of_getElem? (i := 646) (by decide +kernel), List.mem_of_getElem? (i := 647) (by decide +kernel)⟩
theorem lw_p28 : lw_okq (⟨"AirByYard", "seenAsTold", "()I"⟩, 17) := ⟨⟨by decide +kernel, by decide +kernel⟩, List.mem_of_getElem? (i := 17) (by decide +kernel), List.mem_of_getElem? (i := 651) (by decide +kernel), List.mem_of_getElem? (i := 652) (by decide +kernel)⟩
theorem lw_p29 : lw_okq (⟨"AirByYard", "run", "(LAirByYard$Bird;IIII)I"⟩, 17) := ⟨⟨by decide +kernel, by decide +kernel⟩, List.mem_of_getElem? (i := 17) (by decide +kernel), List.mem_of_getElem? (i := 708) (by decide +kernel), List.mem_of_getElem? (i := 709) (by decide +kernel)⟩
theorem lw_p30 : lw_okq (⟨"AirByYard", "note", "(I)V"⟩, 17) := ⟨⟨by decide +kernel, by decide +kernel⟩, List.mem_of_getElem? (i := 17) (by decide +kernel), List.mem_of_getElem? (i := 714) (by decide +kernel), List.mem_of_getElem? (i := 715) (by decide +kernel)⟩
theorem lw_p31 : lw_okq (⟨"AirByYardModel", "in", "(III)Z"⟩, 81) := ⟨⟨by decide +kernel, by decide +kernel⟩, List.mem_of_getElem? (i := 768) (by decide +kernel), List.mem_of_getElem? (i := 1023) (by decide +kernel), List.mem_of_getElem? (i := 1024) (by decide +kernel)⟩
def lw_privs_2 : List (MethodName × Nat) := [(⟨"AirByYard", "crowded", "(LAirByYard$Scene;)I"⟩, 17), (⟨"AirByYard", "rentOfAll", "(LAirByYard$Scene;)I"⟩, 17), (⟨"AirByYard", "clashOf", "(LAirByYard$Bird;LAirByYard$Bird;)I"⟩, 17), (⟨"AirByYard", "sharedStrips", "(LAirByYard$Bird;I)I"⟩, 17), (⟨"AirByYard", "findFoes", "()V"⟩, 17), (⟨"AirByYard", "findRents", "()V"⟩, 17), (⟨"AirByYard", "isPeaceful", "(I)Z"⟩, 17), (⟨"AirByYard", "rentOfSet", "(I)I"⟩, 17), (⟨"AirByYard", "isFree", "(III)Z"⟩, 17), (⟨"AirByYard", "goAnHour", "(II)V"⟩, 17), (⟨"AirByYard", "seenHeldBy", "(LAirByYard$Bird;ILAirByYard$Estuary;)I"⟩, 17), (⟨"AirByYard", "lastSeenDays", "()I"⟩, 17), (⟨"AirByYard", "seenAsTold", "()I"⟩, 17), (⟨"AirByYard", "run", "(LAirByYard$Bird;IIII)I"⟩, 17), (⟨"AirByYard", "note", "(I)V"⟩, 17), (⟨"AirByYardModel", "in", "(III)Z"⟩, 81)]
theorem lw_r2 : ∀ q ∈ lw_privs_2, lw_okq q := List.forall_mem_cons.mpr ⟨lw_p16, List.forall_mem_cons.mpr ⟨lw_p17, List.forall_mem_cons.mpr ⟨lw_p18, List.forall_mem_cons.mpr ⟨lw_p19, List.forall_mem_cons.mpr ⟨lw_p20, List.forall_mem_cons.mpr ⟨lw_p21, List.forall_mem_cons.mpr ⟨lw_p22, List.forall_mem_cons.mpr ⟨lw_p23, List.forall_mem_cons.mpr ⟨lw_p24, List.forall_mem_cons.mpr ⟨lw_p25, List.forall_mem_cons.mpr ⟨lw_p26, List.forall_mem_cons.mpr ⟨lw_p27, List.forall_mem_cons.mpr ⟨lw_p28, List.forall_mem_cons.mpr ⟨lw_p29, List.forall_mem_cons.mpr ⟨lw_p30, List.forall_mem_cons.mpr ⟨lw_p31, fun _ h => absurd h List.not_mem_nil⟩⟩⟩⟩⟩⟩⟩⟩⟩⟩⟩⟩⟩⟩⟩⟩
theorem lw_p32 : lw_okq (⟨"AirByYardModel", "isLow", "(I)Z"⟩, 81) := ⟨⟨by decide +kernel, by decide +kernel⟩, List.mem_of_getElem? (i := 768) (by decide +kernel), List.mem_of_getElem? (i := 1027) (by decide +kernel), List.mem_of_getElem? (i := 1028) (by decide +kernel)⟩
theorem lw_p33 : lw_okq (⟨"AirByYardModel", "isHour", "(I)Z"⟩, 81) := ⟨⟨by decide +kernel, by decide +kernel⟩, List.mem_of_getElem? (i := 768) (by decide +kernel), List.mem_of_getElem? (i := 1031) (by decide +kernel), List.mem_of_getElem? (i := 1032) (by decide +kernel)⟩
theorem lw_p34 : lw_okq (⟨"AirByYardModel", "isBird", "(I)Z"⟩, 81) := ⟨⟨by decide +kernel, by decide +kernel⟩, List.mem_of_getElem? (i := 768) (by decide +kernel), List.mem_of_getElem? (i := 1039) (by decide +kernel), List.mem_of_getElem? (i := 1040) (by decide +kernel)⟩
theorem lw_p35 : lw_okq (⟨"AirByYardModel", "isGood", "(II)Z"⟩, 81) := ⟨⟨by decide +kernel, by decide +kernel⟩, List.mem_of_getElem? (i := 768) (by decide +kernel), List.mem_of_getElem? (i := 1043) (by decide +kernel), List.mem_of_getElem? (i := 1044) (by decide +kernel)⟩
theorem lw_p36 : lw_okq (⟨"AirByYardModel", "isPurse", "(I)Z"⟩, 81) := ⟨⟨by decide +kernel, by decide +kernel⟩, List.mem_of_getElem? (i := 768) (by decide +kernel), List.mem_of_getElem? (i := 1047) (by decide +kernel), List.mem_of_getElem? (i := 1048) (by decide +kernel)⟩
theorem lw_p37 : lw_okq (⟨"AirByYardModel", "partOf", "(II)I"⟩, 81) := ⟨⟨by decide +kernel, by decide +kernel⟩, List.mem_of_getElem? (i := 768) (by decide +kernel), List.mem_of_getElem? (i := 1051) (by decide +kernel), List.mem_of_getElem? (i := 1052) (by decide +kernel)⟩
theorem lw_p38 : lw_okq (⟨"AirByYardModel", "has", "(II)Z"⟩, 81) := ⟨⟨by decide +kernel, by decide +kernel⟩, List.mem_of_getElem? (i := 768) (by decide +kernel), List.mem_of_getElem? (i := 1059) (by decide +kernel), List.mem_of_getElem? (i := 1060) (by decide +kernel)⟩
theorem lw_p39 : lw_okq (⟨"AirByYardModel", "goesText", "(I)Z"⟩, 81) := ⟨⟨by decide +kernel, by decide +kernel⟩, List.mem_of_getElem? (i := 768) (by decide +kernel), List.mem_of_getElem? (i := 1075) (by decide +kernel), List.mem_of_getElem? (i := 1076) (by decide +kernel)⟩
theorem lw_p40 : lw_okq (⟨"AirByYardModel", "takesClause", "(I)Z"⟩, 81) := ⟨⟨by decide +kernel, by decide +kernel⟩, List.mem_of_getElem? (i := 768) (by decide +kernel), List.mem_of_getElem? (i := 1079) (by decide +kernel), List.mem_of_getElem? (i := 1080) (by decide +kernel)⟩
theorem lw_p41 : lw_okq (⟨"AirByYardModel", "takesHead", "(I)Z"⟩, 81) := ⟨⟨by decide +kernel, by decide +kernel⟩, List.mem_of_getElem? (i := 768) (by decide +kernel), List.mem_of_getElem? (i := 1083) (by decide +kernel), List.mem_of_getElem? (i := 1084) (by decide +kernel)⟩
theorem lw_p42 : lw_okq (⟨"AirByYardModel", "next", "()I"⟩, 81) := ⟨⟨by decide +kernel, by decide +kernel⟩, List.mem_of_getElem? (i := 768) (by decide +kernel), List.mem_of_getElem? (i := 1087) (by decide +kernel), List.mem_of_getElem? (i := 1088) (by decide +kernel)⟩
theorem lw_p43 : lw_okq (⟨"AirByYardModel", "takesWord", "(II)Z"⟩, 81) := ⟨⟨by decide +kernel, by decide +kernel⟩, List.mem_of_getElem? (i := 768) (by decide +kernel), List.mem_of_getElem? (i := 1091) (by decide +kernel), List.mem_of_getElem? (i := 1092) (by decide +kernel)⟩
theorem lw_p44 : lw_okq (⟨"AirByYardModel", "takes", "(I)Z"⟩, 81) := ⟨⟨by decide +kernel, by decide +kernel⟩, List.mem_of_getElem? (i := 768) (by decide +kernel), List.mem_of_getElem? (i := 1095) (by decide +kernel), List.mem_of_getElem? (i := 1096) (by decide +kernel)⟩
theorem lw_p45 : lw_okq (⟨"AirByYardModel", "takesNumber", "()Z"⟩, 81) := ⟨⟨by decide +kernel, by decide +kernel⟩, List.mem_of_getElem? (i := 768) (by decide +kernel), List.mem_of_getElem? (i := 1099) (by decide +kernel), List.mem_of_getElem? (i := 1100) (by decide +kernel)⟩
theorem lw_p46 : lw_okq (⟨"AirByYardModel", "isDigit", "()Z"⟩, 81) := ⟨⟨by decide +kernel, by decide +kernel⟩, List.mem_of_getElem? (i := 768) (by decide +kernel), List.mem_of_getElem? (i := 1103) (by decide +kernel), List.mem_of_getElem? (i := 1104) (by decide +kernel)⟩
theorem lw_p47 : lw_okq (⟨"AirByYardModel", "takesE", "(I)Z"⟩, 81) := ⟨⟨by decide +kernel, by decide +kernel⟩, List.mem_of_getElem? (i := 768) (by decide +kernel), List.mem_of_getElem? (i := 1107) (by decide +kernel), List.mem_of_getElem? (i := 1108) (by decide +kernel)⟩
def lw_privs_3 : List (MethodName × Nat) := [(⟨"AirByYardModel", "isLow", "(I)Z"⟩, 81), (⟨"AirByYardModel", "isHour", "(I)Z"⟩, 81), (⟨"AirByYardModel", "isBird", "(I)Z"⟩, 81), (⟨"AirByYardModel", "isGood", "(II)Z"⟩, 81), (⟨"AirByYardModel", "isPurse", "(I)Z"⟩, 81), (⟨"AirByYardModel", "partOf", "(II)I"⟩, 81), (⟨"AirByYardModel", "has", "(II)Z"⟩, 81), (⟨"AirByYardModel", "goesText", "(I)Z"⟩, 81), (⟨"AirByYardModel", "takesClause", "(I)Z"⟩, 81), (⟨"AirByYardModel", "takesHead", "(I)Z"⟩, 81), (⟨"AirByYardModel", "next", "()I"⟩, 81), (⟨"AirByYardModel", "takesWord", "(II)Z"⟩, 81), (⟨"AirByYardModel", "takes", "(I)Z"⟩, 81), (⟨"AirByYardModel", "takesNumber", "()Z"⟩, 81), (⟨"AirByYardModel", "isDigit", "()Z"⟩, 81), (⟨"AirByYardModel", "takesE", "(I)Z"⟩, 81)]
theorem lw_r3 : ∀ q ∈ lw_privs_3, lw_okq q := List.forall_mem_cons.mpr ⟨lw_p32, List.forall_mem_cons.mpr ⟨lw_p33, List.forall_mem_cons.mpr ⟨lw_p34, List.forall_mem_cons.mpr ⟨lw_p35, List.forall_mem_cons.mpr ⟨lw_p36, List.forall_mem_cons.mpr ⟨lw_p37, List.forall_mem_cons.mpr ⟨lw_p38, List.forall_mem_cons.mpr ⟨lw_p39, List.forall_mem_cons.mpr ⟨lw_p40, List.forall_mem_cons.mpr ⟨lw_p41, List.forall_mem_cons.mpr ⟨lw_p42, List.forall_mem_cons.mpr ⟨lw_p43, List.forall_mem_cons.mpr ⟨lw_p44, List.forall_mem_cons.mpr ⟨lw_p45, List.forall_mem_cons.mpr ⟨lw_p46, List.forall_mem_cons.mpr ⟨lw_p47, fun _ h => absurd h List.not_mem_nil⟩⟩⟩⟩⟩⟩⟩⟩⟩⟩⟩⟩⟩⟩⟩⟩
theorem lw_p48 : lw_okq (⟨"AirByYardModel", "takesTest", "()Z"⟩, 81) := ⟨⟨by decide +kernel, by decide +kernel⟩, List.mem_of_getElem? (i := 768) (by decide +kernel), List.mem_of_getElem? (i := 1111) (by decide +kernel), List.mem_of_getElem? (i := 1112) (by decide +kernel)⟩
theorem lw_p49 : lw_okq (⟨"AirByYardModel", "place", "(I)I"⟩, 81) := ⟨⟨by decide +kernel, by decide +kernel⟩, List.mem_of_getElem? (i := 768) (by decide +kernel), List.mem_of_getElem? (i := 1115) (by decide +kernel), List.mem_of_getElem? (i := 1116) (by decide +kernel)⟩
theorem lw_p50 : lw_okq (⟨"AirByYardModel", "emits", "(I)V"⟩, 81) := ⟨⟨by decide +kernel, by decide +kernel⟩, List.mem_of_getElem? (i := 768) (by decide +kernel), List.mem_of_getElem? (i := 1119) (by decide +kernel), List.mem_of_getElem? (i := 1120) (by decide +kernel)⟩
theorem lw_p51 : lw_okq (⟨"AirByYardModel", "whole", "()V"⟩, 81) := ⟨⟨by decide +kernel, by decide +kernel⟩, List.mem_of_getElem? (i := 768) (by decide +kernel), List.mem_of_getElem? (i := 1123) (by decide +kernel), List.mem_of_getElem? (i := 1124) (by decide +kernel)⟩
theorem lw_p52 : lw_okq (⟨"AirByYardModel", "settle", "(I)V"⟩, 81) := ⟨⟨by decide +kernel, by decide +kernel⟩, List.mem_of_getElem? (i := 768) (by decide +kernel), List.mem_of_getElem? (i := 1127) (by decide +kernel), List.mem_of_getElem? (i := 1128) (by decide +kernel)⟩
theorem lw_p53 : lw_okq (⟨"AirByYardModel", "bottom", "(I)I"⟩, 81) := ⟨⟨by decide +kernel, by decide +kernel⟩, List.mem_of_getElem? (i := 768) (by decide +kernel), List.mem_of_getElem? (i := 1135) (by decide +kernel), List.mem_of_getElem? (i := 1136) (by decide +kernel)⟩
theorem lw_p54 : lw_okq (⟨"AirByYardModel", "begins", "(I)I"⟩, 81) := ⟨⟨by decide +kernel, by decide +kernel⟩, List.mem_of_getElem? (i := 768) (by decide +kernel), List.mem_of_getElem? (i := 1139) (by decide +kernel), List.mem_of_getElem? (i := 1140) (by decide +kernel)⟩
theorem lw_p55 : lw_okq (⟨"AirByYardModel", "price", "(I)I"⟩, 81) := ⟨⟨by decide +kernel, by decide +kernel⟩, List.mem_of_getElem? (i := 768) (by decide +kernel), List.mem_of_getElem? (i := 1143) (by decide +kernel), List.mem_of_getElem? (i := 1144) (by decide +kernel)⟩
theorem lw_p56 : lw_okq (⟨"AirByYardModel", "begin", "()I"⟩, 81) := ⟨⟨by decide +kernel, by decide +kernel⟩, List.mem_of_getElem? (i := 768) (by decide +kernel), List.mem_of_getElem? (i := 1147) (by decide +kernel), List.mem_of_getElem? (i := 1148) (by decide +kernel)⟩
theorem lw_p57 : lw_okq (⟨"AirByYardModel", "behind", "()I"⟩, 81) := ⟨⟨by decide +kernel, by decide +kernel⟩, List.mem_of_getElem? (i := 768) (by decide +kernel), List.mem_of_getElem? (i := 1151) (by decide +kernel), List.mem_of_getElem? (i := 1152) (by decide +kernel)⟩
theorem lw_p58 : lw_okq (⟨"AirByYardModel", "holds", "(II)Z"⟩, 81) := ⟨⟨by decide +kernel, by decide +kernel⟩, List.mem_of_getElem? (i := 768) (by decide +kernel), List.mem_of_getElem? (i := 1155) (by decide +kernel), List.mem_of_getElem? (i := 1156) (by decide +kernel)⟩
theorem lw_p59 : lw_okq (⟨"AirByYardModel", "factOf", "(II)I"⟩, 81) := ⟨⟨by decide +kernel, by decide +kernel⟩, List.mem_of_getElem? (i := 768) (by decide +kernel), List.mem_of_getElem? (i := 1159) (by decide +kernel), List.mem_of_getElem? (i := 1160) (by decide +kernel)⟩
theorem lw_p60 : lw_okq (⟨"AirByYardModel", "strips", "(I)I"⟩, 81) := ⟨⟨by decide +kernel, by decide +kernel⟩, List.mem_of_getElem? (i := 768) (by decide +kernel), List.mem_of_getElem? (i := 1163) (by decide +kernel), List.mem_of_getElem? (i := 1164) (by decide +kernel)⟩
theorem lw_p61 : lw_okq (⟨"AirByYardModel", "heights", "(I)I"⟩, 81) := ⟨⟨by decide +kernel, by decide +kernel⟩, List.mem_of_getElem? (i := 768) (by decide +kernel), List.mem_of_getElem? (i := 1167) (by decide +kernel), List.mem_of_getElem? (i := 1168) (by decide +kernel)⟩
theorem lw_p62 : lw_okq (⟨"AirByYardModel", "top", "()I"⟩, 81) := ⟨⟨by decide +kernel, by decide +kernel⟩, List.mem_of_getElem? (i := 768) (by decide +kernel), List.mem_of_getElem? (i := 1171) (by decide +kernel), List.mem_of_getElem? (i := 1172) (by decide +kernel)⟩
theorem lw_p63 : lw_okq (⟨"AirByYardModel", "lastOf", "(II)I"⟩, 81) := ⟨⟨by decide +kernel, by decide +kernel⟩, List.mem_of_getElem? (i := 768) (by decide +kernel), List.mem_of_getElem? (i := 1175) (by decide +kernel), List.mem_of_getElem? (i := 1176) (by decide +kernel)⟩
def lw_privs_4 : List (MethodName × Nat) := [(⟨"AirByYardModel", "takesTest", "()Z"⟩, 81), (⟨"AirByYardModel", "place", "(I)I"⟩, 81), (⟨"AirByYardModel", "emits", "(I)V"⟩, 81), (⟨"AirByYardModel", "whole", "()V"⟩, 81), (⟨"AirByYardModel", "settle", "(I)V"⟩, 81), (⟨"AirByYardModel", "bottom", "(I)I"⟩, 81), (⟨"AirByYardModel", "begins", "(I)I"⟩, 81), (⟨"AirByYardModel", "price", "(I)I"⟩, 81), (⟨"AirByYardModel", "begin", "()I"⟩, 81), (⟨"AirByYardModel", "behind", "()I"⟩, 81), (⟨"AirByYardModel", "holds", "(II)Z"⟩, 81), (⟨"AirByYardModel", "factOf", "(II)I"⟩, 81), (⟨"AirByYardModel", "strips", "(I)I"⟩, 81), (⟨"AirByYardModel", "heights", "(I)I"⟩, 81), (⟨"AirByYardModel", "top", "()I"⟩, 81), (⟨"AirByYardModel", "lastOf", "(II)I"⟩, 81)]
theorem lw_r4 : ∀ q ∈ lw_privs_4, lw_okq q := List.forall_mem_cons.mpr ⟨lw_p48, List.forall_mem_cons.mpr ⟨lw_p49, List.forall_mem_cons.mpr ⟨lw_p50, List.forall_mem_cons.mpr ⟨lw_p51, List.forall_mem_cons.mpr ⟨lw_p52, List.forall_mem_cons.mpr ⟨lw_p53, List.forall_mem_cons.mpr ⟨lw_p54, List.forall_mem_cons.mpr ⟨lw_p55, List.forall_mem_cons.mpr ⟨lw_p56, List.forall_mem_cons.mpr ⟨lw_p57, List.forall_mem_cons.mpr ⟨lw_p58, List.forall_mem_cons.mpr ⟨lw_p59, List.forall_mem_cons.mpr ⟨lw_p60, List.forall_mem_cons.mpr ⟨lw_p61, List.forall_mem_cons.mpr ⟨lw_p62, List.forall_mem_cons.mpr ⟨lw_p63, fun _ h => absurd h List.not_mem_nil⟩⟩⟩⟩⟩⟩⟩⟩⟩⟩⟩⟩⟩⟩⟩⟩
theorem lw_p64 : lw_okq (⟨"AirByYardModel", "rent", "(I)I"⟩, 81) := ⟨⟨by decide +kernel, by decide +kernel⟩, List.mem_of_getElem? (i := 768) (by decide +kernel), List.mem_of_getElem? (i := 1179) (by decide +kernel), List.mem_of_getElem? (i := 1180) (by decide +kernel)⟩
theorem lw_p65 : lw_okq (⟨"AirByYardModel", "allFree", "()I"⟩, 81) := ⟨⟨by decide +kernel, by decide +kernel⟩, List.mem_of_getElem? (i := 768) (by decide +kernel), List.mem_of_getElem? (i := 1187) (by decide +kernel), List.mem_of_getElem? (i := 1188) (by decide +kernel)⟩
theorem lw_p66 : lw_okq (⟨"AirByYardModel", "freeAt", "(I)I"⟩, 81) := ⟨⟨by decide +kernel, by decide +kernel⟩, List.mem_of_getElem? (i := 768) (by decide +kernel), List.mem_of_getElem? (i := 1191) (by decide +kernel), List.mem_of_getElem? (i := 1192) (by decide +kernel)⟩
theorem lw_p67 : lw_okq (⟨"AirByYardModel", "heldBy", "(II)I"⟩, 81) := ⟨⟨by decide +kernel, by decide +kernel⟩, List.mem_of_getElem? (i := 768) (by decide +kernel), List.mem_of_getElem? (i := 1195) (by decide +kernel), List.mem_of_getElem? (i := 1196) (by decide +kernel)⟩
theorem lw_p68 : lw_okq (⟨"AirByYardModel", "holdsStrip", "(III)Z"⟩, 81) := ⟨⟨by decide +kernel, by decide +kernel⟩, List.mem_of_getElem? (i := 768) (by decide +kernel), List.mem_of_getElem? (i := 1199) (by decide +kernel), List.mem_of_getElem? (i := 1200) (by decide +kernel)⟩
theorem lw_p69 : lw_okq (⟨"AirByYardModel", "ones", "(I)I"⟩, 81) := ⟨⟨by decide +kernel, by decide +kernel⟩, List.mem_of_getElem? (i := 768) (by decide +kernel), List.mem_of_getElem? (i := 1203) (by decide +kernel), List.mem_of_getElem? (i := 1204) (by decide +kernel)⟩
theorem lw_p70 : lw_okq (⟨"AirByYardModel", "crowded", "()I"⟩, 81) := ⟨⟨by decide +kernel, by decide +kernel⟩, List.mem_of_getElem? (i := 768) (by decide +kernel), List.mem_of_getElem? (i := 1207) (by decide +kernel), List.mem_of_getElem? (i := 1208) (by decide +kernel)⟩
theorem lw_p71 : lw_okq (⟨"AirByYardModel", "allRent", "()I"⟩, 81) := ⟨⟨by decide +kernel, by decide +kernel⟩, List.mem_of_getElem? (i := 768) (by decide +kernel), List.mem_of_getElem? (i := 1211) (by decide +kernel), List.mem_of_getElem? (i := 1212) (by decide +kernel)⟩
theorem lw_p72 : lw_okq (⟨"AirByYardModel", "isHeight", "(I)Z"⟩, 81) := ⟨⟨by decide +kernel, by decide +kernel⟩, List.mem_of_getElem? (i := 768) (by decide +kernel), List.mem_of_getElem? (i := 1219) (by decide +kernel), List.mem_of_getElem? (i := 1220) (by decide +kernel)⟩
theorem lw_p73 : lw_okq (⟨"AirByYardModel", "clashOf", "(II)I"⟩, 81) := ⟨⟨by decide +kernel, by decide +kernel⟩, List.mem_of_getElem? (i := 768) (by decide +kernel), List.mem_of_getElem? (i := 1231) (by decide +kernel), List.mem_of_getElem? (i := 1232) (by decide +kernel)⟩
theorem lw_p74 : lw_okq (⟨"AirByYardModel", "isDays", "(I)Z"⟩, 81) := ⟨⟨by decide +kernel, by decide +kernel⟩, List.mem_of_getElem? (i := 768) (by decide +kernel), List.mem_of_getElem? (i := 1243) (by decide +kernel), List.mem_of_getElem? (i := 1244) (by decide +kernel)⟩
theorem lw_p75 : lw_okq (⟨"AirByYardModel", "goDays", "(I)V"⟩, 81) := ⟨⟨by decide +kernel, by decide +kernel⟩, List.mem_of_getElem? (i := 768) (by decide +kernel), List.mem_of_getElem? (i := 1247) (by decide +kernel), List.mem_of_getElem? (i := 1248) (by decide +kernel)⟩
theorem lw_p76 : lw_okq (⟨"AirByYardModel", "goDay", "()V"⟩, 81) := ⟨⟨by decide +kernel, by decide +kernel⟩, List.mem_of_getElem? (i := 768) (by decide +kernel), List.mem_of_getElem? (i := 1251) (by decide +kernel), List.mem_of_getElem? (i := 1252) (by decide +kernel)⟩
theorem lw_p77 : lw_okq (⟨"AirByYardModel", "save", "()V"⟩, 81) := ⟨⟨by decide +kernel, by decide +kernel⟩, List.mem_of_getElem? (i := 768) (by decide +kernel), List.mem_of_getElem? (i := 1259) (by decide +kernel), List.mem_of_getElem? (i := 1260) (by decide +kernel)⟩
theorem lw_p78 : lw_okq (⟨"AirByYardModel", "putBack", "()V"⟩, 81) := ⟨⟨by decide +kernel, by decide +kernel⟩, List.mem_of_getElem? (i := 768) (by decide +kernel), List.mem_of_getElem? (i := 1263) (by decide +kernel), List.mem_of_getElem? (i := 1264) (by decide +kernel)⟩
theorem lw_p79 : lw_okq (⟨"AirByYardModel", "shared", "(I)I"⟩, 81) := ⟨⟨by decide +kernel, by decide +kernel⟩, List.mem_of_getElem? (i := 768) (by decide +kernel), List.mem_of_getElem? (i := 1275) (by decide +kernel), List.mem_of_getElem? (i := 1276) (by decide +kernel)⟩
def lw_privs_5 : List (MethodName × Nat) := [(⟨"AirByYardModel", "rent", "(I)I"⟩, 81), (⟨"AirByYardModel", "allFree", "()I"⟩, 81), (⟨"AirByYardModel", "freeAt", "(I)I"⟩, 81), (⟨"AirByYardModel", "heldBy", "(II)I"⟩, 81), (⟨"AirByYardModel", "holdsStrip", "(III)Z"⟩, 81), (⟨"AirByYardModel", "ones", "(I)I"⟩, 81), (⟨"AirByYardModel", "crowded", "()I"⟩, 81), (⟨"AirByYardModel", "allRent", "()I"⟩, 81), (⟨"AirByYardModel", "isHeight", "(I)Z"⟩, 81), (⟨"AirByYardModel", "clashOf", "(II)I"⟩, 81), (⟨"AirByYardModel", "isDays", "(I)Z"⟩, 81), (⟨"AirByYardModel", "goDays", "(I)V"⟩, 81), (⟨"AirByYardModel", "goDay", "()V"⟩, 81), (⟨"AirByYardModel", "save", "()V"⟩, 81), (⟨"AirByYardModel", "putBack", "()V"⟩, 81), (⟨"AirByYardModel", "shared", "(I)I"⟩, 81)]
theorem lw_r5 : ∀ q ∈ lw_privs_5, lw_okq q := List.forall_mem_cons.mpr ⟨lw_p64, List.forall_mem_cons.mpr ⟨lw_p65, List.forall_mem_cons.mpr ⟨lw_p66, List.forall_mem_cons.mpr ⟨lw_p67, List.forall_mem_cons.mpr ⟨lw_p68, List.forall_mem_cons.mpr ⟨lw_p69, List.forall_mem_cons.mpr ⟨lw_p70, List.forall_mem_cons.mpr ⟨lw_p71, List.forall_mem_cons.mpr ⟨lw_p72, List.forall_mem_cons.mpr ⟨lw_p73, List.forall_mem_cons.mpr ⟨lw_p74, List.forall_mem_cons.mpr ⟨lw_p75, List.forall_mem_cons.mpr ⟨lw_p76, List.forall_mem_cons.mpr ⟨lw_p77, List.forall_mem_cons.mpr ⟨lw_p78, List.forall_mem_cons.mpr ⟨lw_p79, fun _ h => absurd h List.not_mem_nil⟩⟩⟩⟩⟩⟩⟩⟩⟩⟩⟩⟩⟩⟩⟩⟩
theorem lw_p80 : lw_okq (⟨"AirByYardModel", "layFoes", "()V"⟩, 81) := ⟨⟨by decide +kernel, by decide +kernel⟩, List.mem_of_getElem? (i := 768) (by decide +kernel), List.mem_of_getElem? (i := 1287) (by decide +kernel), List.mem_of_getElem? (i := 1288) (by decide +kernel)⟩
theorem lw_p81 : lw_okq (⟨"AirByYardModel", "isPeaceful", "(I)Z"⟩, 81) := ⟨⟨by decide +kernel, by decide +kernel⟩, List.mem_of_getElem? (i := 768) (by decide +kernel), List.mem_of_getElem? (i := 1291) (by decide +kernel), List.mem_of_getElem? (i := 1292) (by decide +kernel)⟩
theorem lw_p82 : lw_okq (⟨"AirByYardModel", "layWays", "(I)V"⟩, 81) := ⟨⟨by decide +kernel, by decide +kernel⟩, List.mem_of_getElem? (i := 768) (by decide +kernel), List.mem_of_getElem? (i := 1304) (by decide +kernel), List.mem_of_getElem? (i := 1305) (by decide +kernel)⟩
theorem lw_p83 : lw_okq (⟨"AirByYardModel", "isSeen", "()Z"⟩, 81) := ⟨⟨by decide +kernel, by decide +kernel⟩, List.mem_of_getElem? (i := 768) (by decide +kernel), List.mem_of_getElem? (i := 1320) (by decide +kernel), List.mem_of_getElem? (i := 1321) (by decide +kernel)⟩
theorem lw_p84 : lw_okq (⟨"AirByYardModel", "lowest", "(III)J"⟩, 81) := ⟨⟨by decide +kernel, by decide +kernel⟩, List.mem_of_getElem? (i := 768) (by decide +kernel), List.mem_of_getElem? (i := 1328) (by decide +kernel), List.mem_of_getElem? (i := 1329) (by decide +kernel)⟩
theorem lw_p85 : lw_okq (⟨"AirByYardModel", "divisor", "(II)I"⟩, 81) := ⟨⟨by decide +kernel, by decide +kernel⟩, List.mem_of_getElem? (i := 768) (by decide +kernel), List.mem_of_getElem? (i := 1332) (by decide +kernel), List.mem_of_getElem? (i := 1333) (by decide +kernel)⟩
theorem lw_p86 : lw_okq (⟨"AirByYardModel", "isTape", "(I)Z"⟩, 81) := ⟨⟨by decide +kernel, by decide +kernel⟩, List.mem_of_getElem? (i := 768) (by decide +kernel), List.mem_of_getElem? (i := 1360) (by decide +kernel), List.mem_of_getElem? (i := 1361) (by decide +kernel)⟩
theorem lw_p87 : lw_okq (⟨"AirByYardModel", "fliesAct", "(II)I"⟩, 81) := ⟨⟨by decide +kernel, by decide +kernel⟩, List.mem_of_getElem? (i := 768) (by decide +kernel), List.mem_of_getElem? (i := 1376) (by decide +kernel), List.mem_of_getElem? (i := 1377) (by decide +kernel)⟩
theorem lw_p88 : lw_okq (⟨"AirByYardModel", "body", "(I)V"⟩, 81) := ⟨⟨by decide +kernel, by decide +kernel⟩, List.mem_of_getElem? (i := 768) (by decide +kernel), List.mem_of_getElem? (i := 1380) (by decide +kernel), List.mem_of_getElem? (i := 1381) (by decide +kernel)⟩
theorem lw_p89 : lw_okq (⟨"AirByYardModel", "birdFlies", "(II)I"⟩, 81) := ⟨⟨by decide +kernel, by decide +kernel⟩, List.mem_of_getElem? (i := 768) (by decide +kernel), List.mem_of_getElem? (i := 1384) (by decide +kernel), List.mem_of_getElem? (i := 1385) (by decide +kernel)⟩
theorem lw_p90 : lw_okq (⟨"AirByYardModel", "singsAct", "(II)I"⟩, 81) := ⟨⟨by decide +kernel, by decide +kernel⟩, List.mem_of_getElem? (i := 768) (by decide +kernel), List.mem_of_getElem? (i := 1388) (by decide +kernel), List.mem_of_getElem? (i := 1389) (by decide +kernel)⟩
theorem lw_p91 : lw_okq (⟨"AirByYardModel", "singerSings", "(II)I"⟩, 81) := ⟨⟨by decide +kernel, by decide +kernel⟩, List.mem_of_getElem? (i := 768) (by decide +kernel), List.mem_of_getElem? (i := 1392) (by decide +kernel), List.mem_of_getElem? (i := 1393) (by decide +kernel)⟩
theorem lw_p92 : lw_okq (⟨"AirByYardModel", "birdSings", "(II)I"⟩, 81) := ⟨⟨by decide +kernel, by decide +kernel⟩, List.mem_of_getElem? (i := 768) (by decide +kernel), List.mem_of_getElem? (i := 1396) (by decide +kernel), List.mem_of_getElem? (i := 1397) (by decide +kernel)⟩
theorem lw_p93 : lw_okq (⟨"AirByYardModel", "tellsAct", "(II)I"⟩, 81) := ⟨⟨by decide +kernel, by decide +kernel⟩, List.mem_of_getElem? (i := 768) (by decide +kernel), List.mem_of_getElem? (i := 1400) (by decide +kernel), List.mem_of_getElem? (i := 1401) (by decide +kernel)⟩
theorem lw_p94 : lw_okq (⟨"AirByYardModel", "birdTells", "(II)I"⟩, 81) := ⟨⟨by decide +kernel, by decide +kernel⟩, List.mem_of_getElem? (i := 768) (by decide +kernel), List.mem_of_getElem? (i := 1404) (by decide +kernel), List.mem_of_getElem? (i := 1405) (by decide +kernel)⟩
theorem lw_p95 : lw_okq (⟨"AirByYardModel", "narrow", "(IJ)J"⟩, 81) := ⟨⟨by decide +kernel, by decide +kernel⟩, List.mem_of_getElem? (i := 768) (by decide +kernel), List.mem_of_getElem? (i := 1428) (by decide +kernel), List.mem_of_getElem? (i := 1429) (by decide +kernel)⟩
def lw_privs_6 : List (MethodName × Nat) := [(⟨"AirByYardModel", "layFoes", "()V"⟩, 81), (⟨"AirByYardModel", "isPeaceful", "(I)Z"⟩, 81), (⟨"AirByYardModel", "layWays", "(I)V"⟩, 81), (⟨"AirByYardModel", "isSeen", "()Z"⟩, 81), (⟨"AirByYardModel", "lowest", "(III)J"⟩, 81), (⟨"AirByYardModel", "divisor", "(II)I"⟩, 81), (⟨"AirByYardModel", "isTape", "(I)Z"⟩, 81), (⟨"AirByYardModel", "fliesAct", "(II)I"⟩, 81), (⟨"AirByYardModel", "body", "(I)V"⟩, 81), (⟨"AirByYardModel", "birdFlies", "(II)I"⟩, 81), (⟨"AirByYardModel", "singsAct", "(II)I"⟩, 81), (⟨"AirByYardModel", "singerSings", "(II)I"⟩, 81), (⟨"AirByYardModel", "birdSings", "(II)I"⟩, 81), (⟨"AirByYardModel", "tellsAct", "(II)I"⟩, 81), (⟨"AirByYardModel", "birdTells", "(II)I"⟩, 81), (⟨"AirByYardModel", "narrow", "(IJ)J"⟩, 81)]
theorem lw_r6 : ∀ q ∈ lw_privs_6, lw_okq q := List.forall_mem_cons.mpr ⟨lw_p80, List.forall_mem_cons.mpr ⟨lw_p81, List.forall_mem_cons.mpr ⟨lw_p82, List.forall_mem_cons.mpr ⟨lw_p83, List.forall_mem_cons.mpr ⟨lw_p84, List.forall_mem_cons.mpr ⟨lw_p85, List.forall_mem_cons.mpr ⟨lw_p86, List.forall_mem_cons.mpr ⟨lw_p87, List.forall_mem_cons.mpr ⟨lw_p88, List.forall_mem_cons.mpr ⟨lw_p89, List.forall_mem_cons.mpr ⟨lw_p90, List.forall_mem_cons.mpr ⟨lw_p91, List.forall_mem_cons.mpr ⟨lw_p92, List.forall_mem_cons.mpr ⟨lw_p93, List.forall_mem_cons.mpr ⟨lw_p94, List.forall_mem_cons.mpr ⟨lw_p95, fun _ h => absurd h List.not_mem_nil⟩⟩⟩⟩⟩⟩⟩⟩⟩⟩⟩⟩⟩⟩⟩⟩
def lw_privs : List (MethodName × Nat) := lw_privs_1 ++ (lw_privs_2 ++ (lw_privs_3 ++ (lw_privs_4 ++ (lw_privs_5 ++ (lw_privs_6)))))
def lw_tbl : List Cond := k2_sels lw_privs ++ tables_1
theorem lw_privs_ok : ∀ q ∈ lw_privs, lw_okq q := by
  show ∀ q ∈ lw_privs_1 ++ (lw_privs_2 ++ (lw_privs_3 ++ (lw_privs_4 ++ (lw_privs_5 ++ (lw_privs_6))))), lw_okq q
  exact List.forall_mem_append.mpr ⟨lw_r1, List.forall_mem_append.mpr ⟨lw_r2, List.forall_mem_append.mpr ⟨lw_r3, List.forall_mem_append.mpr ⟨lw_r4, List.forall_mem_append.mpr ⟨lw_r5, lw_r6⟩⟩⟩⟩⟩
-- names
def RX0 : String := "AirByYard$Bird"
def TX0 : u_T := fun k => match k with
  | 0 => ("AirByYard$Bird", "row", "[I", true)
  | 1 => ("AirByYard$Bird", "number", "I", false)
  | 2 => ("AirByYard$Bird", "kind", "I", false)
  | 3 => ("AirByYard$Bird", "v", "I", false)
  | 4 => ("AirByYard$Bird", "low", "I", false)
  | 5 => ("AirByYard$Bird", "tall", "I", false)
  | 6 => ("AirByYard$Bird", "from", "I", false)
  | 7 => ("AirByYard$Bird", "hours", "I", false)
  | 8 => ("AirByYard$Bird", "purse", "I", false)
  | _ => ("AirByYard$Bird", "out", "Z", false)
def tyX0 : Nat → FieldType := fun k => match k with
  | 0 => .array .int
  | 1 => .int
  | 2 => .int
  | 3 => .int
  | 4 => .int
  | 5 => .int
  | 6 => .int
  | 7 => .int
  | 8 => .int
  | _ => .boolean
abbrev wsX00 : List Cond := u_ws RX0 TX0 10
theorem nmX0 : ∀ a, a < 10 → ∀ b, b < 10 → a ≠ b → (TX0 a).2.1 ≠ (TX0 b).2.1 := by decide +kernel
theorem tyX0_ok : ∀ k, k < 10 → parseFieldDescriptor (TX0 k).2.2.1 = some (tyX0 k) := by decide +kernel
abbrev cX0_init : ByteArray := prog_2_method_1_code
def yX0_init : MethodName := ⟨RX0, "<init>", "()V"⟩
abbrev cX0_begin : ByteArray := prog_2_method_2_code
def yX0_begin : MethodName := ⟨RX0, "begin", "(III)V"⟩
abbrev cX0_become : ByteArray := prog_2_method_3_code
def yX0_become : MethodName := ⟨RX0, "become", "(LAirByYard$Bird;)V"⟩
abbrev cX0_change : ByteArray := prog_2_method_4_code
def yX0_change : MethodName := ⟨RX0, "change", "(II)I"⟩
abbrev cX0_bottom : ByteArray := prog_2_method_5_code
def yX0_bottom : MethodName := ⟨RX0, "bottom", "()I"⟩
abbrev cX0_begins : ByteArray := prog_2_method_6_code
def yX0_begins : MethodName := ⟨RX0, "begins", "(I)I"⟩
abbrev cX0_heights : ByteArray := prog_2_method_7_code
def yX0_heights : MethodName := ⟨RX0, "heights", "(I)I"⟩
abbrev cX0_span : ByteArray := prog_2_method_8_code
def yX0_span : MethodName := ⟨RX0, "span", "(I)I"⟩
abbrev cX0_holds : ByteArray := prog_2_method_9_code
def yX0_holds : MethodName := ⟨RX0, "holds", "(IIII)Z"⟩
abbrev cX0_strips : ByteArray := prog_2_method_10_code
def yX0_strips : MethodName := ⟨RX0, "strips", "(I)I"⟩
abbrev cX0_rent : ByteArray := prog_2_method_11_code
def yX0_rent : MethodName := ⟨RX0, "rent", "(LAirByYard$Estuary;I)I"⟩
abbrev cX0_live : ByteArray := prog_2_method_12_code
def yX0_live : MethodName := ⟨RX0, "live", "(LAirByYard$Estuary;II)V"⟩
abbrev cX0_liveADay : ByteArray := prog_2_method_13_code
def yX0_liveADay : MethodName := ⟨RX0, "liveADay", "(LAirByYard$Estuary;I)V"⟩
def RX1 : String := "AirByYard$Estuary"
def TX1 : u_T := fun k => match k with
  | 0 => ("AirByYard$Estuary", "steps", "[I", true)
  | 1 => ("AirByYard$Estuary", "stepCount", "I", false)
  | 2 => ("AirByYard$Estuary", "gain", "I", false)
  | _ => ("AirByYard$Estuary", "top", "I", false)
def tyX1 : Nat → FieldType := fun k => match k with
  | 0 => .array .int
  | 1 => .int
  | 2 => .int
  | _ => .int
abbrev wsX10 : List Cond := u_ws RX1 TX1 4
theorem nmX1 : ∀ a, a < 4 → ∀ b, b < 4 → a ≠ b → (TX1 a).2.1 ≠ (TX1 b).2.1 := by decide +kernel
theorem tyX1_ok : ∀ k, k < 4 → parseFieldDescriptor (TX1 k).2.2.1 = some (tyX1 k) := by decide +kernel
abbrev cX1_init : ByteArray := prog_3_method_1_code
def yX1_init : MethodName := ⟨RX1, "<init>", "()V"⟩
abbrev cX1_clear : ByteArray := prog_3_method_2_code
def yX1_clear : MethodName := ⟨RX1, "clear", "()V"⟩
abbrev cX1_put : ByteArray := prog_3_method_3_code
def yX1_put : MethodName := ⟨RX1, "put", "(II)V"⟩
abbrev cX1_price : ByteArray := prog_3_method_4_code
def yX1_price : MethodName := ⟨RX1, "price", "(LAirByYard$Bird;I)I"⟩
abbrev cX1_testOf : ByteArray := prog_3_method_5_code
def yX1_testOf : MethodName := ⟨RX1, "testOf", "(III)I"⟩
abbrev cX1_passes : ByteArray := prog_3_method_6_code
def yX1_passes : MethodName := ⟨RX1, "passes", "(ILAirByYard$Bird;I)Z"⟩
abbrev cX1_trait : ByteArray := prog_3_method_7_code
def yX1_trait : MethodName := ⟨RX1, "trait", "(ILAirByYard$Bird;I)I"⟩
def RX2 : String := "AirByYard$Reader"
def TX2 : u_T := fun k => match k with
  | 0 => ("AirByYard$Reader", "signs", "[B", true)
  | 1 => ("AirByYard$Reader", "size", "I", false)
  | _ => ("AirByYard$Reader", "at", "I", false)
def tyX2 : Nat → FieldType := fun k => match k with
  | 0 => .array .byte
  | 1 => .int
  | _ => .int
abbrev wsX20 : List Cond := u_ws RX2 TX2 3
theorem nmX2 : ∀ a, a < 3 → ∀ b, b < 3 → a ≠ b → (TX2 a).2.1 ≠ (TX2 b).2.1 := by decide +kernel
theorem tyX2_ok : ∀ k, k < 3 → parseFieldDescriptor (TX2 k).2.2.1 = some (tyX2 k) := by decide +kernel
abbrev cX2_init : ByteArray := prog_4_method_1_code
def yX2_init : MethodName := ⟨RX2, "<init>", "()V"⟩
abbrev cX2_put : ByteArray := prog_4_method_2_code
def yX2_put : MethodName := ⟨RX2, "put", "(I)Z"⟩
abbrev cX2_parse : ByteArray := prog_4_method_3_code
def yX2_parse : MethodName := ⟨RX2, "parse", "(LAirByYard$Estuary;)I"⟩
abbrev cX2_clause : ByteArray := prog_4_method_4_code
def yX2_clause : MethodName := ⟨RX2, "clause", "(LAirByYard$Estuary;)Z"⟩
abbrev cX2_change : ByteArray := prog_4_method_5_code
def yX2_change : MethodName := ⟨RX2, "change", "(LAirByYard$Estuary;I)Z"⟩
abbrev cX2_gain : ByteArray := prog_4_method_6_code
def yX2_gain : MethodName := ⟨RX2, "gain", "(LAirByYard$Estuary;)Z"⟩
abbrev cX2_top : ByteArray := prog_4_method_7_code
def yX2_top : MethodName := ⟨RX2, "top", "(LAirByYard$Estuary;)Z"⟩
abbrev cX2_either : ByteArray := prog_4_method_8_code
def yX2_either : MethodName := ⟨RX2, "either", "(LAirByYard$Estuary;I)Z"⟩
abbrev cX2_factor : ByteArray := prog_4_method_9_code
def yX2_factor : MethodName := ⟨RX2, "factor", "(LAirByYard$Estuary;I)Z"⟩
abbrev cX2_test : ByteArray := prog_4_method_10_code
def yX2_test : MethodName := ⟨RX2, "test", "(LAirByYard$Estuary;)Z"⟩
abbrev cX2_isLetter : ByteArray := prog_4_method_11_code
def yX2_isLetter : MethodName := ⟨RX2, "isLetter", "(I)Z"⟩
abbrev cX2_next : ByteArray := prog_4_method_12_code
def yX2_next : MethodName := ⟨RX2, "next", "()I"⟩
abbrev cX2_skip : ByteArray := prog_4_method_13_code
def yX2_skip : MethodName := ⟨RX2, "skip", "(C)Z"⟩
abbrev cX2_skipWord : ByteArray := prog_4_method_14_code
def yX2_skipWord : MethodName := ⟨RX2, "skipWord", "(Ljava/lang/String;)Z"⟩
abbrev cX2_number : ByteArray := prog_4_method_15_code
def yX2_number : MethodName := ⟨RX2, "number", "()I"⟩
def RX3 : String := "AirByYard$Rows"
def TX3 : u_T := fun k => match k with
  | 0 => ("AirByYard$Rows", "first", "[I", true)
  | 1 => ("AirByYard$Rows", "second", "[I", true)
  | 2 => ("AirByYard$Rows", "third", "[I", true)
  | 3 => ("AirByYard$Rows", "fourth", "[I", true)
  | _ => ("AirByYard$Rows", "size", "I", false)
def tyX3 : Nat → FieldType := fun k => match k with
  | 0 => .array .int
  | 1 => .array .int
  | 2 => .array .int
  | 3 => .array .int
  | _ => .int
abbrev wsX30 : List Cond := u_ws RX3 TX3 5
theorem nmX3 : ∀ a, a < 5 → ∀ b, b < 5 → a ≠ b → (TX3 a).2.1 ≠ (TX3 b).2.1 := by decide +kernel
theorem tyX3_ok : ∀ k, k < 5 → parseFieldDescriptor (TX3 k).2.2.1 = some (tyX3 k) := by decide +kernel
abbrev cX3_init : ByteArray := prog_5_method_1_code
def yX3_init : MethodName := ⟨RX3, "<init>", "(I)V"⟩
abbrev cX3_put : ByteArray := prog_5_method_2_code
def yX3_put : MethodName := ⟨RX3, "put", "(IIII)Z"⟩
abbrev cX3_become : ByteArray := prog_5_method_3_code
def yX3_become : MethodName := ⟨RX3, "become", "(LAirByYard$Rows;)V"⟩
def RX4 : String := "AirByYard$Scene"
def TX4 : u_T := fun k => match k with
  | 0 => ("AirByYard$Scene", "birds", "[LAirByYard$Bird;", true)
  | 1 => ("AirByYard$Scene", "size", "I", false)
  | 2 => ("AirByYard$Scene", "day", "I", false)
  | 3 => ("AirByYard$Scene", "holding", "I", false)
  | 4 => ("AirByYard$Scene", "seen", "LAirByYard$Rows;", true)
  | 5 => ("AirByYard$Scene", "leases", "LAirByYard$Rows;", true)
  | _ => ("AirByYard$Scene", "book", "LAirByYard$Rows;", true)
def tyX4 : Nat → FieldType := fun k => match k with
  | 0 => .array (.object "AirByYard$Bird")
  | 1 => .int
  | 2 => .int
  | 3 => .int
  | 4 => .object "AirByYard$Rows"
  | 5 => .object "AirByYard$Rows"
  | _ => .object "AirByYard$Rows"
abbrev wsX40 : List Cond := u_ws RX4 TX4 7
theorem nmX4 : ∀ a, a < 7 → ∀ b, b < 7 → a ≠ b → (TX4 a).2.1 ≠ (TX4 b).2.1 := by decide +kernel
theorem tyX4_ok : ∀ k, k < 7 → parseFieldDescriptor (TX4 k).2.2.1 = some (tyX4 k) := by decide +kernel
abbrev cX4_init : ByteArray := prog_6_method_1_code
def yX4_init : MethodName := ⟨RX4, "<init>", "()V"⟩
abbrev cX4_birdAt : ByteArray := prog_6_method_2_code
def yX4_birdAt : MethodName := ⟨RX4, "birdAt", "(I)LAirByYard$Bird;"⟩
abbrev cX4_outBits : ByteArray := prog_6_method_3_code
def yX4_outBits : MethodName := ⟨RX4, "outBits", "()I"⟩
abbrev cX4_become : ByteArray := prog_6_method_4_code
def yX4_become : MethodName := ⟨RX4, "become", "(LAirByYard$Scene;)V"⟩
def RX5 : String := "AirByYard$Tape"
def TX5 : u_T := fun k => match k with
  | 0 => ("AirByYard$Tape", "items", "[J", true)
  | 1 => ("AirByYard$Tape", "sort", "I", false)
  | _ => ("AirByYard$Tape", "size", "I", false)
def tyX5 : Nat → FieldType := fun k => match k with
  | 0 => .array .long
  | 1 => .int
  | _ => .int
abbrev wsX50 : List Cond := u_ws RX5 TX5 3
theorem nmX5 : ∀ a, a < 3 → ∀ b, b < 3 → a ≠ b → (TX5 a).2.1 ≠ (TX5 b).2.1 := by decide +kernel
theorem tyX5_ok : ∀ k, k < 3 → parseFieldDescriptor (TX5 k).2.2.1 = some (tyX5 k) := by decide +kernel
abbrev cX5_init : ByteArray := prog_7_method_1_code
def yX5_init : MethodName := ⟨RX5, "<init>", "()V"⟩
abbrev cX5_begin : ByteArray := prog_7_method_2_code
def yX5_begin : MethodName := ⟨RX5, "begin", "(II)V"⟩
abbrev cX5_cut : ByteArray := prog_7_method_3_code
def yX5_cut : MethodName := ⟨RX5, "cut", "(J)J"⟩
abbrev cX5_hasPart : ByteArray := prog_7_method_4_code
def yX5_hasPart : MethodName := ⟨RX5, "hasPart", "(II)Z"⟩
def RX6 : String := "AirByYard"
def TX6 : u_T := fun k => match k with
  | 0 => ("AirByYard", "now", "LAirByYard$Scene;", true)
  | 1 => ("AirByYard", "image", "LAirByYard$Scene;", true)
  | 2 => ("AirByYard", "hasImage", "Z", false)
  | 3 => ("AirByYard", "reader", "LAirByYard$Reader;", true)
  | 4 => ("AirByYard", "estuaries", "[LAirByYard$Estuary;", true)
  | 5 => ("AirByYard", "estuaryCount", "I", false)
  | 6 => ("AirByYard", "tapes", "[LAirByYard$Tape;", true)
  | 7 => ("AirByYard", "trace", "[I", true)
  | 8 => ("AirByYard", "bodiesRun", "I", false)
  | 9 => ("AirByYard", "supposed", "LAirByYard$Scene;", true)
  | 10 => ("AirByYard", "ghost", "LAirByYard$Bird;", true)
  | 11 => ("AirByYard", "heldOnce", "[I", true)
  | 12 => ("AirByYard", "heldTwice", "[I", true)
  | 13 => ("AirByYard", "foes", "[I", true)
  | 14 => ("AirByYard", "rents", "[I", true)
  | 15 => ("AirByYard", "waysTo", "[J", true)
  | _ => ("AirByYard", "waysOn", "[J", true)
def tyX6 : Nat → FieldType := fun k => match k with
  | 0 => .object "AirByYard$Scene"
  | 1 => .object "AirByYard$Scene"
  | 2 => .boolean
  | 3 => .object "AirByYard$Reader"
  | 4 => .array (.object "AirByYard$Estuary")
  | 5 => .int
  | 6 => .array (.object "AirByYard$Tape")
  | 7 => .array .int
  | 8 => .int
  | 9 => .object "AirByYard$Scene"
  | 10 => .object "AirByYard$Bird"
  | 11 => .array .int
  | 12 => .array .int
  | 13 => .array .int
  | 14 => .array .int
  | 15 => .array .long
  | _ => .array .long
abbrev wsX60 : List Cond := u_ws RX6 TX6 17
theorem nmX6 : ∀ a, a < 17 → ∀ b, b < 17 → a ≠ b → (TX6 a).2.1 ≠ (TX6 b).2.1 := by decide +kernel
theorem tyX6_ok : ∀ k, k < 17 → parseFieldDescriptor (TX6 k).2.2.1 = some (tyX6 k) := by decide +kernel
abbrev cX6_init : ByteArray := prog_1_method_1_code
def yX6_init : MethodName := ⟨RX6, "<init>", "()V"⟩
abbrev cX6_bird : ByteArray := prog_1_method_2_code
def yX6_bird : MethodName := ⟨RX6, "bird", "(IIIIII)I"⟩
abbrev cX6_of : ByteArray := prog_1_method_3_code
def yX6_of : MethodName := ⟨RX6, "of", "(II)I"⟩
abbrev cX6_set : ByteArray := prog_1_method_4_code
def yX6_set : MethodName := ⟨RX6, "set", "(III)I"⟩
abbrev cX6_evict : ByteArray := prog_1_method_5_code
def yX6_evict : MethodName := ⟨RX6, "evict", "(IZ)I"⟩
abbrev cX6_row : ByteArray := prog_1_method_6_code
def yX6_row : MethodName := ⟨RX6, "row", "(III)I"⟩
abbrev cX6_feed : ByteArray := prog_1_method_7_code
def yX6_feed : MethodName := ⟨RX6, "feed", "(I)I"⟩
abbrev cX6_estuary : ByteArray := prog_1_method_8_code
def yX6_estuary : MethodName := ⟨RX6, "estuary", "()I"⟩
abbrev cX6_told : ByteArray := prog_1_method_9_code
def yX6_told : MethodName := ⟨RX6, "told", "(I)I"⟩
abbrev cX6_held : ByteArray := prog_1_method_10_code
def yX6_held : MethodName := ⟨RX6, "held", "(II)I"⟩
abbrev cX6_free : ByteArray := prog_1_method_11_code
def yX6_free : MethodName := ⟨RX6, "free", "(I)I"⟩
abbrev cX6_clash : ByteArray := prog_1_method_12_code
def yX6_clash : MethodName := ⟨RX6, "clash", "(II)I"⟩
abbrev cX6_worst : ByteArray := prog_1_method_13_code
def yX6_worst : MethodName := ⟨RX6, "worst", "()I"⟩
abbrev cX6_pass : ByteArray := prog_1_method_14_code
def yX6_pass : MethodName := ⟨RX6, "pass", "(I)I"⟩
abbrev cX6_on : ByteArray := prog_1_method_15_code
def yX6_on : MethodName := ⟨RX6, "on", "(II)I"⟩
abbrev cX6_empty : ByteArray := prog_1_method_16_code
def yX6_empty : MethodName := ⟨RX6, "empty", "(I)I"⟩
abbrev cX6_lower : ByteArray := prog_1_method_17_code
def yX6_lower : MethodName := ⟨RX6, "lower", "(II)I"⟩
abbrev cX6_sooner : ByteArray := prog_1_method_18_code
def yX6_sooner : MethodName := ⟨RX6, "sooner", "(II)I"⟩
abbrev cX6_let : ByteArray := prog_1_method_19_code
def yX6_let : MethodName := ⟨RX6, "let", "(I)I"⟩
abbrev cX6_whoEvict : ByteArray := prog_1_method_20_code
def yX6_whoEvict : MethodName := ⟨RX6, "whoEvict", "()I"⟩
abbrev cX6_ways : ByteArray := prog_1_method_21_code
def yX6_ways : MethodName := ⟨RX6, "ways", "(I)J"⟩
abbrev cX6_outs : ByteArray := prog_1_method_22_code
def yX6_outs : MethodName := ⟨RX6, "outs", "(I)I"⟩
abbrev cX6_see : ByteArray := prog_1_method_23_code
def yX6_see : MethodName := ⟨RX6, "see", "(IIZI)I"⟩
abbrev cX6_can : ByteArray := prog_1_method_24_code
def yX6_can : MethodName := ⟨RX6, "can", "(II)I"⟩
abbrev cX6_odds : ByteArray := prog_1_method_25_code
def yX6_odds : MethodName := ⟨RX6, "odds", "(II)J"⟩
abbrev cX6_mean : ByteArray := prog_1_method_26_code
def yX6_mean : MethodName := ⟨RX6, "mean", "(I)J"⟩
abbrev cX6_lease : ByteArray := prog_1_method_27_code
def yX6_lease : MethodName := ⟨RX6, "lease", "(III)I"⟩
abbrev cX6_leased : ByteArray := prog_1_method_28_code
def yX6_leased : MethodName := ⟨RX6, "leased", "(I)I"⟩
abbrev cX6_book : ByteArray := prog_1_method_29_code
def yX6_book : MethodName := ⟨RX6, "book", "(II)I"⟩
abbrev cX6_looked : ByteArray := prog_1_method_30_code
def yX6_looked : MethodName := ⟨RX6, "looked", "()I"⟩
abbrev cX6_judge : ByteArray := prog_1_method_31_code
def yX6_judge : MethodName := ⟨RX6, "judge", "(II)I"⟩
abbrev cX6_image : ByteArray := prog_1_method_32_code
def yX6_image : MethodName := ⟨RX6, "image", "()I"⟩
abbrev cX6_undo : ByteArray := prog_1_method_33_code
def yX6_undo : MethodName := ⟨RX6, "undo", "()I"⟩
abbrev cX6_act : ByteArray := prog_1_method_34_code
def yX6_act : MethodName := ⟨RX6, "act", "(III)I"⟩
abbrev cX6_trace : ByteArray := prog_1_method_35_code
def yX6_trace : MethodName := ⟨RX6, "trace", "(I)I"⟩
abbrev cX6_taken : ByteArray := prog_1_method_36_code
def yX6_taken : MethodName := ⟨RX6, "taken", "(II)I"⟩
abbrev cX6_count : ByteArray := prog_1_method_37_code
def yX6_count : MethodName := ⟨RX6, "count", "(I)I"⟩
abbrev cX6_tape : ByteArray := prog_1_method_38_code
def yX6_tape : MethodName := ⟨RX6, "tape", "(III)I"⟩
abbrev cX6_item : ByteArray := prog_1_method_39_code
def yX6_item : MethodName := ⟨RX6, "item", "(IIJ)I"⟩
abbrev cX6_read : ByteArray := prog_1_method_40_code
def yX6_read : MethodName := ⟨RX6, "read", "(II)J"⟩
abbrev cX6_shift : ByteArray := prog_1_method_41_code
def yX6_shift : MethodName := ⟨RX6, "shift", "(IIIII)I"⟩
abbrev cX6_within : ByteArray := prog_1_method_42_code
def yX6_within : MethodName := ⟨RX6, "within", "(III)Z"⟩
abbrev cX6_estuaryNow : ByteArray := prog_1_method_43_code
def yX6_estuaryNow : MethodName := ⟨RX6, "estuaryNow", "()LAirByYard$Estuary;"⟩
abbrev cX6_layAir : ByteArray := prog_1_method_44_code
def yX6_layAir : MethodName := ⟨RX6, "layAir", "(LAirByYard$Scene;II)V"⟩
abbrev cX6_layBird : ByteArray := prog_1_method_45_code
def yX6_layBird : MethodName := ⟨RX6, "layBird", "(II)V"⟩
abbrev cX6_freeAt : ByteArray := prog_1_method_46_code
def yX6_freeAt : MethodName := ⟨RX6, "freeAt", "(II)I"⟩
abbrev cX6_isFree : ByteArray := prog_1_method_47_code
def yX6_isFree : MethodName := ⟨RX6, "isFree", "(III)Z"⟩
abbrev cX6_freeStrips : ByteArray := prog_1_method_48_code
def yX6_freeStrips : MethodName := ⟨RX6, "freeStrips", "(I)I"⟩
abbrev cX6_crowded : ByteArray := prog_1_method_49_code
def yX6_crowded : MethodName := ⟨RX6, "crowded", "(LAirByYard$Scene;)I"⟩
abbrev cX6_rentOfAll : ByteArray := prog_1_method_50_code
def yX6_rentOfAll : MethodName := ⟨RX6, "rentOfAll", "(LAirByYard$Scene;)I"⟩
abbrev cX6_clashOf : ByteArray := prog_1_method_51_code
def yX6_clashOf : MethodName := ⟨RX6, "clashOf", "(LAirByYard$Bird;LAirByYard$Bird;)I"⟩
abbrev cX6_sharedStrips : ByteArray := prog_1_method_52_code
def yX6_sharedStrips : MethodName := ⟨RX6, "sharedStrips", "(LAirByYard$Bird;I)I"⟩
abbrev cX6_findFoes : ByteArray := prog_1_method_53_code
def yX6_findFoes : MethodName := ⟨RX6, "findFoes", "()V"⟩
abbrev cX6_findRents : ByteArray := prog_1_method_54_code
def yX6_findRents : MethodName := ⟨RX6, "findRents", "()V"⟩
abbrev cX6_isPeaceful : ByteArray := prog_1_method_55_code
def yX6_isPeaceful : MethodName := ⟨RX6, "isPeaceful", "(I)Z"⟩
abbrev cX6_rentOfSet : ByteArray := prog_1_method_56_code
def yX6_rentOfSet : MethodName := ⟨RX6, "rentOfSet", "(I)I"⟩
abbrev cX6_goAnHour : ByteArray := prog_1_method_57_code
def yX6_goAnHour : MethodName := ⟨RX6, "goAnHour", "(II)V"⟩
abbrev cX6_seenHeldBy : ByteArray := prog_1_method_58_code
def yX6_seenHeldBy : MethodName := ⟨RX6, "seenHeldBy", "(LAirByYard$Bird;ILAirByYard$Estuary;)I"⟩
abbrev cX6_lastSeenDays : ByteArray := prog_1_method_59_code
def yX6_lastSeenDays : MethodName := ⟨RX6, "lastSeenDays", "()I"⟩
abbrev cX6_seenAsTold : ByteArray := prog_1_method_60_code
def yX6_seenAsTold : MethodName := ⟨RX6, "seenAsTold", "()I"⟩
abbrev cX6_partOfFraction : ByteArray := prog_1_method_61_code
def yX6_partOfFraction : MethodName := ⟨RX6, "partOfFraction", "(III)J"⟩
abbrev cX6_isUnder : ByteArray := prog_1_method_62_code
def yX6_isUnder : MethodName := ⟨RX6, "isUnder", "(II)Z"⟩
abbrev cX6_run : ByteArray := prog_1_method_63_code
def yX6_run : MethodName := ⟨RX6, "run", "(LAirByYard$Bird;IIII)I"⟩
abbrev cX6_kindAbove : ByteArray := prog_1_method_64_code
def yX6_kindAbove : MethodName := ⟨RX6, "kindAbove", "(I)I"⟩
abbrev cX6_note : ByteArray := prog_1_method_65_code
def yX6_note : MethodName := ⟨RX6, "note", "(I)V"⟩
def RX7 : String := "AirByYardModel"
def TX7 : u_T := fun k => match k with
  | 0 => ("AirByYardModel", "birds", "I", false)
  | 1 => ("AirByYardModel", "days", "I", false)
  | 2 => ("AirByYardModel", "gone", "I", false)
  | 3 => ("AirByYardModel", "kind", "[I", true)
  | 4 => ("AirByYardModel", "v", "[I", true)
  | 5 => ("AirByYardModel", "low", "[I", true)
  | 6 => ("AirByYardModel", "tall", "[I", true)
  | 7 => ("AirByYardModel", "hour0", "[I", true)
  | 8 => ("AirByYardModel", "hours", "[I", true)
  | 9 => ("AirByYardModel", "purse", "[I", true)
  | 10 => ("AirByYardModel", "rows", "[I", true)
  | 11 => ("AirByYardModel", "estuaries", "I", false)
  | 12 => ("AirByYardModel", "the", "I", false)
  | 13 => ("AirByYardModel", "fed", "I", false)
  | 14 => ("AirByYardModel", "at", "I", false)
  | 15 => ("AirByYardModel", "digits", "I", false)
  | 16 => ("AirByYardModel", "text", "[I", true)
  | 17 => ("AirByYardModel", "clauses", "[I", true)
  | 18 => ("AirByYardModel", "word", "[I", true)
  | 19 => ("AirByYardModel", "number", "[I", true)
  | 20 => ("AirByYardModel", "from", "[I", true)
  | 21 => ("AirByYardModel", "to", "[I", true)
  | 22 => ("AirByYardModel", "sign", "[I", true)
  | 23 => ("AirByYardModel", "waits", "[I", true)
  | 24 => ("AirByYardModel", "signs", "I", false)
  | 25 => ("AirByYardModel", "waiting", "I", false)
  | 26 => ("AirByYardModel", "open", "I", false)
  | 27 => ("AirByYardModel", "letters", "[I", true)
  | 28 => ("AirByYardModel", "pile", "[Z", true)
  | 29 => ("AirByYardModel", "due", "[I", true)
  | 30 => ("AirByYardModel", "keptDays", "I", false)
  | 31 => ("AirByYardModel", "keptGone", "I", false)
  | 32 => ("AirByYardModel", "keptPurse", "[I", true)
  | 33 => ("AirByYardModel", "foes", "[I", true)
  | 34 => ("AirByYardModel", "way", "[J", true)
  | 35 => ("AirByYardModel", "nextWay", "[J", true)
  | 36 => ("AirByYardModel", "seen", "I", false)
  | 37 => ("AirByYardModel", "seenHeight", "[I", true)
  | 38 => ("AirByYardModel", "seenHour", "[I", true)
  | 39 => ("AirByYardModel", "seenWhen", "[I", true)
  | 40 => ("AirByYardModel", "seenHeld", "[Z", true)
  | 41 => ("AirByYardModel", "leases", "I", false)
  | 42 => ("AirByYardModel", "books", "I", false)
  | 43 => ("AirByYardModel", "leaseWho", "[I", true)
  | 44 => ("AirByYardModel", "leaseLow", "[I", true)
  | 45 => ("AirByYardModel", "leaseFrom", "[I", true)
  | 46 => ("AirByYardModel", "bookWho", "[I", true)
  | 47 => ("AirByYardModel", "bookPurse", "[I", true)
  | 48 => ("AirByYardModel", "wasLow", "[I", true)
  | 49 => ("AirByYardModel", "wasFrom", "[I", true)
  | 50 => ("AirByYardModel", "hasImage", "Z", false)
  | 51 => ("AirByYardModel", "imageThe", "I", false)
  | 52 => ("AirByYardModel", "imageBirds", "I", false)
  | 53 => ("AirByYardModel", "imageDays", "I", false)
  | 54 => ("AirByYardModel", "imageGone", "I", false)
  | 55 => ("AirByYardModel", "imageSeen", "I", false)
  | 56 => ("AirByYardModel", "imageLeases", "I", false)
  | 57 => ("AirByYardModel", "imageBooks", "I", false)
  | 58 => ("AirByYardModel", "imageKind", "[I", true)
  | 59 => ("AirByYardModel", "imageV", "[I", true)
  | 60 => ("AirByYardModel", "imageLow", "[I", true)
  | 61 => ("AirByYardModel", "imageTall", "[I", true)
  | 62 => ("AirByYardModel", "imageHour0", "[I", true)
  | 63 => ("AirByYardModel", "imageHours", "[I", true)
  | 64 => ("AirByYardModel", "imagePurse", "[I", true)
  | 65 => ("AirByYardModel", "imageRows", "[I", true)
  | 66 => ("AirByYardModel", "imageHeight", "[I", true)
  | 67 => ("AirByYardModel", "imageHour", "[I", true)
  | 68 => ("AirByYardModel", "imageWhen", "[I", true)
  | 69 => ("AirByYardModel", "imageLeaseWho", "[I", true)
  | 70 => ("AirByYardModel", "imageLeaseLow", "[I", true)
  | 71 => ("AirByYardModel", "imageLeaseFrom", "[I", true)
  | 72 => ("AirByYardModel", "imageBookWho", "[I", true)
  | 73 => ("AirByYardModel", "imageBookPurse", "[I", true)
  | 74 => ("AirByYardModel", "imageHeld", "[Z", true)
  | 75 => ("AirByYardModel", "ran", "I", false)
  | 76 => ("AirByYardModel", "bodies", "[I", true)
  | 77 => ("AirByYardModel", "sort", "[I", true)
  | 78 => ("AirByYardModel", "length", "[I", true)
  | 79 => ("AirByYardModel", "item", "[J", true)
  | _ => ("AirByYardModel", "aside", "[J", true)
def tyX7 : Nat → FieldType := fun k => match k with
  | 0 => .int
  | 1 => .int
  | 2 => .int
  | 3 => .array .int
  | 4 => .array .int
  | 5 => .array .int
  | 6 => .array .int
  | 7 => .array .int
  | 8 => .array .int
  | 9 => .array .int
  | 10 => .array .int
  | 11 => .int
  | 12 => .int
  | 13 => .int
  | 14 => .int
  | 15 => .int
  | 16 => .array .int
  | 17 => .array .int
  | 18 => .array .int
  | 19 => .array .int
  | 20 => .array .int
  | 21 => .array .int
  | 22 => .array .int
  | 23 => .array .int
  | 24 => .int
  | 25 => .int
  | 26 => .int
  | 27 => .array .int
  | 28 => .array .boolean
  | 29 => .array .int
  | 30 => .int
  | 31 => .int
  | 32 => .array .int
  | 33 => .array .int
  | 34 => .array .long
  | 35 => .array .long
  | 36 => .int
  | 37 => .array .int
  | 38 => .array .int
  | 39 => .array .int
  | 40 => .array .boolean
  | 41 => .int
  | 42 => .int
  | 43 => .array .int
  | 44 => .array .int
  | 45 => .array .int
  | 46 => .array .int
  | 47 => .array .int
  | 48 => .array .int
  | 49 => .array .int
  | 50 => .boolean
  | 51 => .int
  | 52 => .int
  | 53 => .int
  | 54 => .int
  | 55 => .int
  | 56 => .int
  | 57 => .int
  | 58 => .array .int
  | 59 => .array .int
  | 60 => .array .int
  | 61 => .array .int
  | 62 => .array .int
  | 63 => .array .int
  | 64 => .array .int
  | 65 => .array .int
  | 66 => .array .int
  | 67 => .array .int
  | 68 => .array .int
  | 69 => .array .int
  | 70 => .array .int
  | 71 => .array .int
  | 72 => .array .int
  | 73 => .array .int
  | 74 => .array .boolean
  | 75 => .int
  | 76 => .array .int
  | 77 => .array .int
  | 78 => .array .int
  | 79 => .array .long
  | _ => .array .long
abbrev wsX70 : List Cond := u_ws RX7 TX7 81
theorem nmX7 : ∀ a, a < 81 → ∀ b, b < 81 → a ≠ b → (TX7 a).2.1 ≠ (TX7 b).2.1 := by decide +kernel
theorem tyX7_ok : ∀ k, k < 81 → parseFieldDescriptor (TX7 k).2.2.1 = some (tyX7 k) := by decide +kernel
abbrev cX7_init : ByteArray := prog_9_method_1_code
def yX7_init : MethodName := ⟨RX7, "<init>", "()V"⟩
abbrev cX7_in : ByteArray := prog_9_method_2_code
def yX7_in : MethodName := ⟨RX7, "in", "(III)Z"⟩
abbrev cX7_has : ByteArray := prog_9_method_3_code
def yX7_has : MethodName := ⟨RX7, "has", "(II)Z"⟩
abbrev cX7_ones : ByteArray := prog_9_method_4_code
def yX7_ones : MethodName := ⟨RX7, "ones", "(I)I"⟩
abbrev cX7_isBird : ByteArray := prog_9_method_5_code
def yX7_isBird : MethodName := ⟨RX7, "isBird", "(I)Z"⟩
abbrev cX7_isLow : ByteArray := prog_9_method_6_code
def yX7_isLow : MethodName := ⟨RX7, "isLow", "(I)Z"⟩
abbrev cX7_isHour : ByteArray := prog_9_method_7_code
def yX7_isHour : MethodName := ⟨RX7, "isHour", "(I)Z"⟩
abbrev cX7_isPurse : ByteArray := prog_9_method_8_code
def yX7_isPurse : MethodName := ⟨RX7, "isPurse", "(I)Z"⟩
abbrev cX7_isDays : ByteArray := prog_9_method_9_code
def yX7_isDays : MethodName := ⟨RX7, "isDays", "(I)Z"⟩
abbrev cX7_bird : ByteArray := prog_9_method_10_code
def yX7_bird : MethodName := ⟨RX7, "bird", "(IIIIII)I"⟩
abbrev cX7_isGood : ByteArray := prog_9_method_11_code
def yX7_isGood : MethodName := ⟨RX7, "isGood", "(II)Z"⟩
abbrev cX7_partOf : ByteArray := prog_9_method_12_code
def yX7_partOf : MethodName := ⟨RX7, "partOf", "(II)I"⟩
abbrev cX7_set : ByteArray := prog_9_method_13_code
def yX7_set : MethodName := ⟨RX7, "set", "(III)I"⟩
abbrev cX7_evict : ByteArray := prog_9_method_14_code
def yX7_evict : MethodName := ⟨RX7, "evict", "(IZ)I"⟩
abbrev cX7_row : ByteArray := prog_9_method_15_code
def yX7_row : MethodName := ⟨RX7, "row", "(III)I"⟩
abbrev cX7_feed : ByteArray := prog_9_method_16_code
def yX7_feed : MethodName := ⟨RX7, "feed", "(I)I"⟩
abbrev cX7_next : ByteArray := prog_9_method_17_code
def yX7_next : MethodName := ⟨RX7, "next", "()I"⟩
abbrev cX7_takes : ByteArray := prog_9_method_18_code
def yX7_takes : MethodName := ⟨RX7, "takes", "(I)Z"⟩
abbrev cX7_takesWord : ByteArray := prog_9_method_19_code
def yX7_takesWord : MethodName := ⟨RX7, "takesWord", "(II)Z"⟩
abbrev cX7_isDigit : ByteArray := prog_9_method_20_code
def yX7_isDigit : MethodName := ⟨RX7, "isDigit", "()Z"⟩
abbrev cX7_takesNumber : ByteArray := prog_9_method_21_code
def yX7_takesNumber : MethodName := ⟨RX7, "takesNumber", "()Z"⟩
abbrev cX7_emits : ByteArray := prog_9_method_22_code
def yX7_emits : MethodName := ⟨RX7, "emits", "(I)V"⟩
abbrev cX7_whole : ByteArray := prog_9_method_23_code
def yX7_whole : MethodName := ⟨RX7, "whole", "()V"⟩
abbrev cX7_settle : ByteArray := prog_9_method_24_code
def yX7_settle : MethodName := ⟨RX7, "settle", "(I)V"⟩
abbrev cX7_place : ByteArray := prog_9_method_25_code
def yX7_place : MethodName := ⟨RX7, "place", "(I)I"⟩
abbrev cX7_takesTest : ByteArray := prog_9_method_26_code
def yX7_takesTest : MethodName := ⟨RX7, "takesTest", "()Z"⟩
abbrev cX7_takesE : ByteArray := prog_9_method_27_code
def yX7_takesE : MethodName := ⟨RX7, "takesE", "(I)Z"⟩
abbrev cX7_takesHead : ByteArray := prog_9_method_28_code
def yX7_takesHead : MethodName := ⟨RX7, "takesHead", "(I)Z"⟩
abbrev cX7_takesClause : ByteArray := prog_9_method_29_code
def yX7_takesClause : MethodName := ⟨RX7, "takesClause", "(I)Z"⟩
abbrev cX7_goesText : ByteArray := prog_9_method_30_code
def yX7_goesText : MethodName := ⟨RX7, "goesText", "(I)Z"⟩
abbrev cX7_estuary : ByteArray := prog_9_method_31_code
def yX7_estuary : MethodName := ⟨RX7, "estuary", "()I"⟩
abbrev cX7_begin : ByteArray := prog_9_method_32_code
def yX7_begin : MethodName := ⟨RX7, "begin", "()I"⟩
abbrev cX7_behind : ByteArray := prog_9_method_33_code
def yX7_behind : MethodName := ⟨RX7, "behind", "()I"⟩
abbrev cX7_lastOf : ByteArray := prog_9_method_34_code
def yX7_lastOf : MethodName := ⟨RX7, "lastOf", "(II)I"⟩
abbrev cX7_top : ByteArray := prog_9_method_35_code
def yX7_top : MethodName := ⟨RX7, "top", "()I"⟩
abbrev cX7_factOf : ByteArray := prog_9_method_36_code
def yX7_factOf : MethodName := ⟨RX7, "factOf", "(II)I"⟩
abbrev cX7_holds : ByteArray := prog_9_method_37_code
def yX7_holds : MethodName := ⟨RX7, "holds", "(II)Z"⟩
abbrev cX7_price : ByteArray := prog_9_method_38_code
def yX7_price : MethodName := ⟨RX7, "price", "(I)I"⟩
abbrev cX7_bottom : ByteArray := prog_9_method_39_code
def yX7_bottom : MethodName := ⟨RX7, "bottom", "(I)I"⟩
abbrev cX7_begins : ByteArray := prog_9_method_40_code
def yX7_begins : MethodName := ⟨RX7, "begins", "(I)I"⟩
abbrev cX7_heights : ByteArray := prog_9_method_41_code
def yX7_heights : MethodName := ⟨RX7, "heights", "(I)I"⟩
abbrev cX7_holdsStrip : ByteArray := prog_9_method_42_code
def yX7_holdsStrip : MethodName := ⟨RX7, "holdsStrip", "(III)Z"⟩
abbrev cX7_strips : ByteArray := prog_9_method_43_code
def yX7_strips : MethodName := ⟨RX7, "strips", "(I)I"⟩
abbrev cX7_rent : ByteArray := prog_9_method_44_code
def yX7_rent : MethodName := ⟨RX7, "rent", "(I)I"⟩
abbrev cX7_of : ByteArray := prog_9_method_45_code
def yX7_of : MethodName := ⟨RX7, "of", "(II)I"⟩
abbrev cX7_heldBy : ByteArray := prog_9_method_46_code
def yX7_heldBy : MethodName := ⟨RX7, "heldBy", "(II)I"⟩
abbrev cX7_freeAt : ByteArray := prog_9_method_47_code
def yX7_freeAt : MethodName := ⟨RX7, "freeAt", "(I)I"⟩
abbrev cX7_allFree : ByteArray := prog_9_method_48_code
def yX7_allFree : MethodName := ⟨RX7, "allFree", "()I"⟩
abbrev cX7_crowded : ByteArray := prog_9_method_49_code
def yX7_crowded : MethodName := ⟨RX7, "crowded", "()I"⟩
abbrev cX7_allRent : ByteArray := prog_9_method_50_code
def yX7_allRent : MethodName := ⟨RX7, "allRent", "()I"⟩
abbrev cX7_told : ByteArray := prog_9_method_51_code
def yX7_told : MethodName := ⟨RX7, "told", "(I)I"⟩
abbrev cX7_isHeight : ByteArray := prog_9_method_52_code
def yX7_isHeight : MethodName := ⟨RX7, "isHeight", "(I)Z"⟩
abbrev cX7_held : ByteArray := prog_9_method_53_code
def yX7_held : MethodName := ⟨RX7, "held", "(II)I"⟩
abbrev cX7_free : ByteArray := prog_9_method_54_code
def yX7_free : MethodName := ⟨RX7, "free", "(I)I"⟩
abbrev cX7_clashOf : ByteArray := prog_9_method_55_code
def yX7_clashOf : MethodName := ⟨RX7, "clashOf", "(II)I"⟩
abbrev cX7_clash : ByteArray := prog_9_method_56_code
def yX7_clash : MethodName := ⟨RX7, "clash", "(II)I"⟩
abbrev cX7_worst : ByteArray := prog_9_method_57_code
def yX7_worst : MethodName := ⟨RX7, "worst", "()I"⟩
abbrev cX7_goDay : ByteArray := prog_9_method_58_code
def yX7_goDay : MethodName := ⟨RX7, "goDay", "()V"⟩
abbrev cX7_goDays : ByteArray := prog_9_method_59_code
def yX7_goDays : MethodName := ⟨RX7, "goDays", "(I)V"⟩
abbrev cX7_pass : ByteArray := prog_9_method_60_code
def yX7_pass : MethodName := ⟨RX7, "pass", "(I)I"⟩
abbrev cX7_save : ByteArray := prog_9_method_61_code
def yX7_save : MethodName := ⟨RX7, "save", "()V"⟩
abbrev cX7_putBack : ByteArray := prog_9_method_62_code
def yX7_putBack : MethodName := ⟨RX7, "putBack", "()V"⟩
abbrev cX7_on : ByteArray := prog_9_method_63_code
def yX7_on : MethodName := ⟨RX7, "on", "(II)I"⟩
abbrev cX7_empty : ByteArray := prog_9_method_64_code
def yX7_empty : MethodName := ⟨RX7, "empty", "(I)I"⟩
abbrev cX7_shared : ByteArray := prog_9_method_65_code
def yX7_shared : MethodName := ⟨RX7, "shared", "(I)I"⟩
abbrev cX7_lower : ByteArray := prog_9_method_66_code
def yX7_lower : MethodName := ⟨RX7, "lower", "(II)I"⟩
abbrev cX7_sooner : ByteArray := prog_9_method_67_code
def yX7_sooner : MethodName := ⟨RX7, "sooner", "(II)I"⟩
abbrev cX7_layFoes : ByteArray := prog_9_method_68_code
def yX7_layFoes : MethodName := ⟨RX7, "layFoes", "()V"⟩
abbrev cX7_isPeaceful : ByteArray := prog_9_method_69_code
def yX7_isPeaceful : MethodName := ⟨RX7, "isPeaceful", "(I)Z"⟩
abbrev cX7_let : ByteArray := prog_9_method_70_code
def yX7_let : MethodName := ⟨RX7, "let", "(I)I"⟩
abbrev cX7_whoEvict : ByteArray := prog_9_method_71_code
def yX7_whoEvict : MethodName := ⟨RX7, "whoEvict", "()I"⟩
abbrev cX7_layWays : ByteArray := prog_9_method_72_code
def yX7_layWays : MethodName := ⟨RX7, "layWays", "(I)V"⟩
abbrev cX7_ways : ByteArray := prog_9_method_73_code
def yX7_ways : MethodName := ⟨RX7, "ways", "(I)J"⟩
abbrev cX7_outs : ByteArray := prog_9_method_74_code
def yX7_outs : MethodName := ⟨RX7, "outs", "(I)I"⟩
abbrev cX7_see : ByteArray := prog_9_method_75_code
def yX7_see : MethodName := ⟨RX7, "see", "(IIZI)I"⟩
abbrev cX7_isSeen : ByteArray := prog_9_method_76_code
def yX7_isSeen : MethodName := ⟨RX7, "isSeen", "()Z"⟩
abbrev cX7_can : ByteArray := prog_9_method_77_code
def yX7_can : MethodName := ⟨RX7, "can", "(II)I"⟩
abbrev cX7_divisor : ByteArray := prog_9_method_78_code
def yX7_divisor : MethodName := ⟨RX7, "divisor", "(II)I"⟩
abbrev cX7_lowest : ByteArray := prog_9_method_79_code
def yX7_lowest : MethodName := ⟨RX7, "lowest", "(III)J"⟩
abbrev cX7_odds : ByteArray := prog_9_method_80_code
def yX7_odds : MethodName := ⟨RX7, "odds", "(II)J"⟩
abbrev cX7_mean : ByteArray := prog_9_method_81_code
def yX7_mean : MethodName := ⟨RX7, "mean", "(I)J"⟩
abbrev cX7_lease : ByteArray := prog_9_method_82_code
def yX7_lease : MethodName := ⟨RX7, "lease", "(III)I"⟩
abbrev cX7_leased : ByteArray := prog_9_method_83_code
def yX7_leased : MethodName := ⟨RX7, "leased", "(I)I"⟩
abbrev cX7_book : ByteArray := prog_9_method_84_code
def yX7_book : MethodName := ⟨RX7, "book", "(II)I"⟩
abbrev cX7_looked : ByteArray := prog_9_method_85_code
def yX7_looked : MethodName := ⟨RX7, "looked", "()I"⟩
abbrev cX7_judge : ByteArray := prog_9_method_86_code
def yX7_judge : MethodName := ⟨RX7, "judge", "(II)I"⟩
abbrev cX7_image : ByteArray := prog_9_method_87_code
def yX7_image : MethodName := ⟨RX7, "image", "()I"⟩
abbrev cX7_undo : ByteArray := prog_9_method_88_code
def yX7_undo : MethodName := ⟨RX7, "undo", "()I"⟩
abbrev cX7_body : ByteArray := prog_9_method_89_code
def yX7_body : MethodName := ⟨RX7, "body", "(I)V"⟩
abbrev cX7_birdFlies : ByteArray := prog_9_method_90_code
def yX7_birdFlies : MethodName := ⟨RX7, "birdFlies", "(II)I"⟩
abbrev cX7_fliesAct : ByteArray := prog_9_method_91_code
def yX7_fliesAct : MethodName := ⟨RX7, "fliesAct", "(II)I"⟩
abbrev cX7_birdSings : ByteArray := prog_9_method_92_code
def yX7_birdSings : MethodName := ⟨RX7, "birdSings", "(II)I"⟩
abbrev cX7_singerSings : ByteArray := prog_9_method_93_code
def yX7_singerSings : MethodName := ⟨RX7, "singerSings", "(II)I"⟩
abbrev cX7_singsAct : ByteArray := prog_9_method_94_code
def yX7_singsAct : MethodName := ⟨RX7, "singsAct", "(II)I"⟩
abbrev cX7_birdTells : ByteArray := prog_9_method_95_code
def yX7_birdTells : MethodName := ⟨RX7, "birdTells", "(II)I"⟩
abbrev cX7_tellsAct : ByteArray := prog_9_method_96_code
def yX7_tellsAct : MethodName := ⟨RX7, "tellsAct", "(II)I"⟩
abbrev cX7_act : ByteArray := prog_9_method_97_code
def yX7_act : MethodName := ⟨RX7, "act", "(III)I"⟩
abbrev cX7_trace : ByteArray := prog_9_method_98_code
def yX7_trace : MethodName := ⟨RX7, "trace", "(I)I"⟩
abbrev cX7_taken : ByteArray := prog_9_method_99_code
def yX7_taken : MethodName := ⟨RX7, "taken", "(II)I"⟩
abbrev cX7_count : ByteArray := prog_9_method_100_code
def yX7_count : MethodName := ⟨RX7, "count", "(I)I"⟩
abbrev cX7_isTape : ByteArray := prog_9_method_101_code
def yX7_isTape : MethodName := ⟨RX7, "isTape", "(I)Z"⟩
abbrev cX7_tape : ByteArray := prog_9_method_102_code
def yX7_tape : MethodName := ⟨RX7, "tape", "(III)I"⟩
abbrev cX7_narrow : ByteArray := prog_9_method_103_code
def yX7_narrow : MethodName := ⟨RX7, "narrow", "(IJ)J"⟩
abbrev cX7_item : ByteArray := prog_9_method_104_code
def yX7_item : MethodName := ⟨RX7, "item", "(IIJ)I"⟩
abbrev cX7_read : ByteArray := prog_9_method_105_code
def yX7_read : MethodName := ⟨RX7, "read", "(II)J"⟩
abbrev cX7_shift : ByteArray := prog_9_method_106_code
def yX7_shift : MethodName := ⟨RX7, "shift", "(IIIII)I"⟩
def RJ6 : String := "java/lang/Integer"
abbrev cJ6_bitCount_0f7a4 : ByteArray := prog_10_method_49_code
def yJ6_bitCount_0f7a4 : MethodName := ⟨RJ6, "bitCount", "(I)I"⟩
def RJ9 : String := "java/lang/Math"
abbrev cJ9_floorMod_7cf53 : ByteArray := prog_11_method_50_code
def yJ9_floorMod_7cf53 : MethodName := ⟨RJ9, "floorMod", "(II)I"⟩
abbrev cJ9_max_7cf53 : ByteArray := prog_11_method_65_code
def yJ9_max_7cf53 : MethodName := ⟨RJ9, "max", "(II)I"⟩
abbrev cJ9_min_7cf53 : ByteArray := prog_11_method_69_code
def yJ9_min_7cf53 : MethodName := ⟨RJ9, "min", "(II)I"⟩
def RJ0 : String := "java/lang/String"
abbrev cJ0_length_8abf5 : ByteArray := prog_12_method_54_code
def yJ0_length_8abf5 : MethodName := ⟨RJ0, "length", "()I"⟩
abbrev cJ0_charAt_5068e : ByteArray := prog_12_method_56_code
def yJ0_charAt_5068e : MethodName := ⟨RJ0, "charAt", "(I)C"⟩
abbrev cJ0_coder_7d493 : ByteArray := prog_12_method_152_code
def yJ0_coder_7d493 : MethodName := ⟨RJ0, "coder", "()B"⟩
abbrev cJ0_isLatin1_aae02 : ByteArray := prog_12_method_154_code
def yJ0_isLatin1_aae02 : MethodName := ⟨RJ0, "isLatin1", "()Z"⟩
abbrev cJ0_checkIndex_df160 : ByteArray := prog_12_method_155_code
def yJ0_checkIndex_df160 : MethodName := ⟨RJ0, "checkIndex", "(II)V"⟩
def RJ1 : String := "java/lang/StringLatin1"
abbrev cJ1_charAt_3b067 : ByteArray := prog_13_method_2_code
def yJ1_charAt_3b067 : MethodName := ⟨RJ1, "charAt", "([BI)C"⟩
def RJ2 : String := "java/lang/StringUTF16"
abbrev cJ2_getChar_3b067 : ByteArray := prog_14_method_5_code
def yJ2_getChar_3b067 : MethodName := ⟨RJ2, "getChar", "([BI)C"⟩
abbrev cJ2_length_9d52b : ByteArray := prog_14_method_6_code
def yJ2_length_9d52b : MethodName := ⟨RJ2, "length", "([B)I"⟩
abbrev cJ2_charAt_3b067 : ByteArray := prog_14_method_83_code
def yJ2_charAt_3b067 : MethodName := ⟨RJ2, "charAt", "([BI)C"⟩
abbrev cJ2_checkIndex_2214a : ByteArray := prog_14_method_91_code
def yJ2_checkIndex_2214a : MethodName := ⟨RJ2, "checkIndex", "(I[B)V"⟩
def RJ10 : String := "java/lang/System"
def RJ3 : String := "jdk/internal/util/Preconditions"
abbrev cJ3_checkIndex_8e157 : ByteArray := prog_16_method_11_code
def yJ3_checkIndex_8e157 : MethodName := ⟨RJ3, "checkIndex", "(IILjava/util/function/BiFunction;)I"⟩
def RL : String := "AirByYardLaw"
abbrev cL_law : ByteArray := code
def yL_law : MethodName := ⟨RL, "law", "([I)Z"⟩
abbrev vwCl : List vw_C := [(RX0, TX0, 10), (RX1, TX1, 4), (RX2, TX2, 3), (RX3, TX3, 5), (RX4, TX4, 7), (RX5, TX5, 3), (RX6, TX6, 17), (RX7, TX7, 81)]
