section
/-- a private method of a class that the tables say can be made, by its rows of tables_1 -/
def lw_okq (q : MethodName × Nat) : Prop := (q.1.cls ≠ "java/lang/invoke/MethodHandle" ∧ q.1.cls ≠ "java/lang/invoke/VarHandle") ∧ Cond.instantiable q.1.cls q.2 ∈ tables_1 ∧ Cond.privateMethod q.1 ∈ tables_1 ∧ Cond.instanceMethod q.1 ∈ tables_1
theorem lw_p0 : lw_okq (⟨"AirByYard", "estuaryNow", "()LAirByYard$Estuary;"⟩, 17) := ⟨⟨by decide +kernel, by decide +kernel⟩, List.mem_of_getElem? (i := 17) (by decide +kernel), List.mem_of_getElem? (i := 280) (by decide +kernel), List.mem_of_getElem? (i := 281) (by decide +kernel)⟩
theorem lw_p1 : lw_okq (⟨"AirByYard$Reader", "clause", "(LAirByYard$Estuary;)Z"⟩, 3) := ⟨⟨by decide +kernel, by decide +kernel⟩, List.mem_of_getElem? (i := 142) (by decide +kernel), List.mem_of_getElem? (i := 370) (by decide +kernel), List.mem_of_getElem? (i := 371) (by decide +kernel)⟩
theorem lw_p2 : lw_okq (⟨"AirByYard$Reader", "next", "()I"⟩, 3) := ⟨⟨by decide +kernel, by decide +kernel⟩, List.mem_of_getElem? (i := 142) (by decide +kernel), List.mem_of_getElem? (i := 374) (by decide +kernel), List.mem_of_getElem? (i := 375) (by decide +kernel)⟩
theorem lw_p3 : lw_okq (⟨"AirByYard$Reader", "skipWord", "(Ljava/lang/String;)Z"⟩, 3) := ⟨⟨by decide +kernel, by decide +kernel⟩, List.mem_of_getElem? (i := 142) (by decide +kernel), List.mem_of_getElem? (i := 379) (by decide +kernel), List.mem_of_getElem? (i := 380) (by decide +kernel)⟩
theorem lw_p4 : lw_okq (⟨"AirByYard$Reader", "skip", "(C)Z"⟩, 3) := ⟨⟨by decide +kernel, by decide +kernel⟩, List.mem_of_getElem? (i := 142) (by decide +kernel), List.mem_of_getElem? (i := 431) (by decide +kernel), List.mem_of_getElem? (i := 432) (by decide +kernel)⟩
theorem lw_p5 : lw_okq (⟨"AirByYard$Reader", "change", "(LAirByYard$Estuary;I)Z"⟩, 3) := ⟨⟨by decide +kernel, by decide +kernel⟩, List.mem_of_getElem? (i := 142) (by decide +kernel), List.mem_of_getElem? (i := 435) (by decide +kernel), List.mem_of_getElem? (i := 436) (by decide +kernel)⟩
theorem lw_p6 : lw_okq (⟨"AirByYard$Reader", "number", "()I"⟩, 3) := ⟨⟨by decide +kernel, by decide +kernel⟩, List.mem_of_getElem? (i := 142) (by decide +kernel), List.mem_of_getElem? (i := 439) (by decide +kernel), List.mem_of_getElem? (i := 440) (by decide +kernel)⟩
theorem lw_p7 : lw_okq (⟨"AirByYard$Reader", "either", "(LAirByYard$Estuary;I)Z"⟩, 3) := ⟨⟨by decide +kernel, by decide +kernel⟩, List.mem_of_getElem? (i := 142) (by decide +kernel), List.mem_of_getElem? (i := 444) (by decide +kernel), List.mem_of_getElem? (i := 445) (by decide +kernel)⟩
theorem lw_p8 : lw_okq (⟨"AirByYard$Reader", "factor", "(LAirByYard$Estuary;I)Z"⟩, 3) := ⟨⟨by decide +kernel, by decide +kernel⟩, List.mem_of_getElem? (i := 142) (by decide +kernel), List.mem_of_getElem? (i := 448) (by decide +kernel), List.mem_of_getElem? (i := 449) (by decide +kernel)⟩
theorem lw_p9 : lw_okq (⟨"AirByYard$Reader", "test", "(LAirByYard$Estuary;)Z"⟩, 3) := ⟨⟨by decide +kernel, by decide +kernel⟩, List.mem_of_getElem? (i := 142) (by decide +kernel), List.mem_of_getElem? (i := 452) (by decide +kernel), List.mem_of_getElem? (i := 453) (by decide +kernel)⟩
theorem lw_p10 : lw_okq (⟨"AirByYard$Reader", "gain", "(LAirByYard$Estuary;)Z"⟩, 3) := ⟨⟨by decide +kernel, by decide +kernel⟩, List.mem_of_getElem? (i := 142) (by decide +kernel), List.mem_of_getElem? (i := 468) (by decide +kernel), List.mem_of_getElem? (i := 469) (by decide +kernel)⟩
theorem lw_p11 : lw_okq (⟨"AirByYard$Reader", "top", "(LAirByYard$Estuary;)Z"⟩, 3) := ⟨⟨by decide +kernel, by decide +kernel⟩, List.mem_of_getElem? (i := 142) (by decide +kernel), List.mem_of_getElem? (i := 473) (by decide +kernel), List.mem_of_getElem? (i := 474) (by decide +kernel)⟩
theorem lw_p12 : lw_okq (⟨"AirByYard", "freeStrips", "(I)I"⟩, 17) := ⟨⟨by decide +kernel, by decide +kernel⟩, List.mem_of_getElem? (i := 17) (by decide +kernel), List.mem_of_getElem? (i := 488) (by decide +kernel), List.mem_of_getElem? (i := 489) (by decide +kernel)⟩
theorem lw_p13 : lw_okq (⟨"AirByYard", "layAir", "(LAirByYard$Scene;II)V"⟩, 17) := ⟨⟨by decide +kernel, by decide +kernel⟩, List.mem_of_getElem? (i := 17) (by decide +kernel), List.mem_of_getElem? (i := 492) (by decide +kernel), List.mem_of_getElem? (i := 493) (by decide +kernel)⟩
theorem lw_p14 : lw_okq (⟨"AirByYard", "layBird", "(II)V"⟩, 17) := ⟨⟨by decide +kernel, by decide +kernel⟩, List.mem_of_getElem? (i := 17) (by decide +kernel), List.mem_of_getElem? (i := 503) (by decide +kernel), List.mem_of_getElem? (i := 504) (by decide +kernel)⟩
theorem lw_p15 : lw_okq (⟨"AirByYard", "freeAt", "(II)I"⟩, 17) := ⟨⟨by decide +kernel, by decide +kernel⟩, List.mem_of_getElem? (i := 17) (by decide +kernel), List.mem_of_getElem? (i := 507) (by decide +kernel), List.mem_of_getElem? (i := 508) (by decide +kernel)⟩
def lw_privs_1 : List (MethodName × Nat) := [(⟨"AirByYard", "estuaryNow", "()LAirByYard$Estuary;"⟩, 17), (⟨"AirByYard$Reader", "clause", "(LAirByYard$Estuary;)Z"⟩, 3), (⟨"AirByYard$Reader", "next", "()I"⟩, 3), (⟨"AirByYard$Reader", "skipWord", "(Ljava/lang/String;)Z"⟩, 3), (⟨"AirByYard$Reader", "skip", "(C)Z"⟩, 3), (⟨"AirByYard$Reader", "change", "(LAirByYard$Estuary;I)Z"⟩, 3), (⟨"AirByYard$Reader", "number", "()I"⟩, 3), (⟨"AirByYard$Reader", "either", "(LAirByYard$Estuary;I)Z"⟩, 3), (⟨"AirByYard$Reader", "factor", "(LAirByYard$Estuary;I)Z"⟩, 3), (⟨"AirByYard$Reader", "test", "(LAirByYard$Estuary;)Z"⟩, 3), (⟨"AirByYard$Reader", "gain", "(LAirByYard$Estuary;)Z"⟩, 3), (⟨"AirByYard$Reader", "top", "(LAirByYard$Estuary;)Z"⟩, 3), (⟨"AirByYard", "freeStrips", "(I)I"⟩, 17), (⟨"AirByYard", "layAir", "(LAirByYard$Scene;II)V"⟩, 17), (⟨"AirByYard", "layBird", "(II)V"⟩, 17), (⟨"AirByYard", "freeAt", "(II)I"⟩, 17)]
theorem lw_r1 : ∀ q ∈ lw_privs_1, lw_okq q := List.forall_mem_cons.mpr ⟨lw_p0, List.forall_mem_cons.mpr ⟨lw_p1, List.forall_mem_cons.mpr ⟨lw_p2, List.forall_mem_cons.mpr ⟨lw_p3, List.forall_mem_cons.mpr ⟨lw_p4, List.forall_mem_cons.mpr ⟨lw_p5, List.forall_mem_cons.mpr ⟨lw_p6, List.forall_mem_cons.mpr ⟨lw_p7, List.forall_mem_cons.mpr ⟨lw_p8, List.forall_mem_cons.mpr ⟨lw_p9, List.forall_mem_cons.mpr ⟨lw_p10, List.forall_mem_cons.mpr ⟨lw_p11, List.forall_mem_cons.mpr ⟨lw_p12, List.forall_mem_cons.mpr ⟨lw_p13, List.forall_mem_cons.mpr ⟨lw_p14, List.forall_mem_cons.mpr ⟨lw_p15, fun _ h => absurd h List.not_mem_nil⟩⟩⟩⟩⟩⟩⟩⟩⟩⟩⟩⟩⟩⟩⟩⟩
theorem lw_p16 : lw_okq (⟨"AirByYard", "crowded", "(LAirByYard$Scene;)I"⟩, 17) := ⟨⟨by decide +kernel, by decide +kernel⟩, List.mem_of_getElem? (i := 17) (by decide +kernel), List.mem_of_getElem? (i := 512) (by decide +kernel), List.mem_of_getElem? (i := 513) (by decide +kernel)⟩
theorem lw_p17 : lw_okq (⟨"AirByYard", "rentOfAll", "(LAirByYard$Scene;)I"⟩, 17) := ⟨⟨by decide +kernel, by decide +kernel⟩, List.mem_of_getElem? (i := 17) (by decide +kernel), List.mem_of_getElem? (i := 516) (by decide +kernel), List.mem_of_getElem? (i := 517) (by decide +kernel)⟩
theorem lw_p18 : lw_okq (⟨"AirByYard", "clashOf", "(LAirByYard$Bird;LAirByYard$Bird;)I"⟩, 17) := ⟨⟨by decide +kernel, by decide +kernel⟩, List.mem_of_getElem? (i := 17) (by decide +kernel), List.mem_of_getElem? (i := 537) (by decide +kernel), List.mem_of_getElem? (i := 538) (by decide +kernel)⟩
theorem lw_p19 : lw_okq (⟨"AirByYard", "sharedStrips", "(LAirByYard$Bird;I)I"⟩, 17) := ⟨⟨by decide +kernel, by decide +kernel⟩, List.mem_of_getElem? (i := 17) (by decide +kernel), List.mem_of_getElem? (i := 580) (by decide +kernel), List.mem_of_getElem? (i := 581) (by decide +kernel)⟩
theorem lw_p20 : lw_okq (⟨"AirByYard", "findFoes", "()V"⟩, 17) := ⟨⟨by decide +kernel, by decide +kernel⟩, List.mem_of_getElem? (i := 17) (by decide +kernel), List.mem_of_getElem? (i := 592) (by decide +kernel), List.mem_of_getElem? (i := 593) (by decide +kernel)⟩
theorem lw_p21 : lw_okq (⟨"AirByYard", "findRents", "()V"⟩, 17) := ⟨⟨by decide +kernel, by decide +kernel⟩, List.mem_of_getElem? (i := 17) (by decide +kernel), List.mem_of_getElem? (i := 596) (by decide +kernel), List.mem_of_getElem? (i := 597) (by decide +kernel)⟩
theorem lw_p22 : lw_okq (⟨"AirByYard", "isPeaceful", "(I)Z"⟩, 17) := ⟨⟨by decide +kernel, by decide +kernel⟩, List.mem_of_getElem? (i := 17) (by decide +kernel), List.mem_of_getElem? (i := 600) (by decide +kernel), List.mem_of_getElem? (i := 601) (by decide +kernel)⟩
theorem lw_p23 : lw_okq (⟨"AirByYard", "rentOfSet", "(I)I"⟩, 17) := ⟨⟨by decide +kernel, by decide +kernel⟩, List.mem_of_getElem? (i := 17) (by decide +kernel), List.mem_of_getElem? (i := 604) (by decide +kernel), List.mem_of_getElem? (i := 605) (by decide +kernel)⟩
theorem lw_p24 : lw_okq (⟨"AirByYard", "isFree", "(III)Z"⟩, 17) := ⟨⟨by decide +kernel, by decide +kernel⟩, List.mem_of_getElem? (i := 17) (by decide +kernel), List.mem_of_getElem? (i := 617) (by decide +kernel), List.mem_of_getElem? (i := 618) (by decide +kernel)⟩
theorem lw_p25 : lw_okq (⟨"AirByYard", "goAnHour", "(II)V"⟩, 17) := ⟨⟨by decide +kernel, by decide +kernel⟩, List.mem_of_getElem? (i := 17) (by decide +kernel), List.mem_of_getElem? (i := 621) (by decide +kernel), List.mem_of_getElem? (i := 622) (by decide +kernel)⟩
theorem lw_p26 : lw_okq (⟨"AirByYard", "seenHeldBy", "(LAirByYard$Bird;ILAirByYard$Estuary;)I"⟩, 17) := ⟨⟨by decide +kernel, by decide +kernel⟩, List.mem_of_getElem? (i := 17) (by decide +kernel), List.mem_of_getElem? (i := 642) (by decide +kernel), List.mem_of_getElem? (i := 643) (by decide +kernel)⟩
theorem lw_p27 : lw_okq (⟨"AirByYard", "lastSeenDays", "()I"⟩, 17) := ⟨⟨by decide +kernel, by decide +kernel⟩, List.mem_of_getElem? (i := 17) (by decide +kernel), List.mem_of_getElem? (i := 646) (by decide +kernel), List.mem_of_getElem? (i := 647) (by decide +kernel)⟩
theorem lw_p28 : lw_okq (⟨"AirByYard", "seenAsTold", "()I"⟩, 17) := ⟨⟨by decide +kernel, by decide +kernel⟩, List.mem_of_getElem? (i := 17) (by decide +kernel), List.mem_of_getElem? (i := 651) (by decide +kernel), List.mem_of_getElem? (i := 652) (by decide +kernel)⟩
theorem lw_p29 : lw_okq (⟨"AirByYard", "run", "(LAirByYard$Bird;IIII)I"⟩, 17) := ⟨⟨by decide +kernel, by decide +kernel⟩, List.mem_of_getElem? (i := 17) (by decide +kernel), List.mem_of_getElem? (i := 708) (by decide +kernel), List.mem_of_getElem? (i := 709) (by decide +kernel)⟩
theorem lw_p30 : lw_okq (⟨"AirByYard", "note", "(I)V"⟩, 17) := ⟨⟨by decide +kernel, by decide +kernel⟩, List.mem_of_getElem? (i := 17) (by decide +kernel), List.mem_of_getElem? (i := 714) (by decide +kernel), List.mem_of_getElem? (i := 715) (by decide +kernel)⟩
theorem lw_p31 : lw_okq (⟨"AirByYardModel", "in", "(III)Z"⟩, 81) := ⟨⟨by decide +kernel, by decide +kernel⟩, List.mem_of_getElem? (i := 768) (by decide +kernel), List.mem_of_getElem? (i := 1023) (by decide +kernel), List.mem_of_getElem? (i := 1024) (by decide +kernel)⟩
def lw_privs_2 : List (MethodName × Nat) := [(⟨"AirByYard", "crowded", "(LAirByYard$Scene;)I"⟩, 17), (⟨"AirByYard", "rentOfAll", "(LAirByYard$Scene;)I"⟩, 17), (⟨"AirByYard", "clashOf", "(LAirByYard$Bird;LAirByYard$Bird;)I"⟩, 17), (⟨"AirByYard", "sharedStrips", "(LAirByYard$Bird;I)I"⟩, 17), (⟨"AirByYard", "findFoes", "()V"⟩, 17), (⟨"AirByYard", "findRents", "()V"⟩, 17), (⟨"AirByYard", "isPeaceful", "(I)Z"⟩, 17), (⟨"AirByYard", "rentOfSet", "(I)I"⟩, 17), (⟨"AirByYard", "isFree", "(III)Z"⟩, 17), (⟨"AirByYard", "goAnHour", "(II)V"⟩, 17), (⟨"AirByYard", "seenHeldBy", "(LAirByYard$Bird;ILAirByYard$Estuary;)I"⟩, 17), (⟨"AirByYard", "lastSeenDays", "()I"⟩, 17), (⟨"AirByYard", "seenAsTold", "()I"⟩, 17), (⟨"AirByYard", "run", "(LAirByYard$Bird;IIII)I"⟩, 17), (⟨"AirByYard", "note", "(I)V"⟩, 17), (⟨"AirByYardModel", "in", "(III)Z"⟩, 81)]
theorem lw_r2 : ∀ q ∈ lw_privs_2, lw_okq q := List.forall_mem_cons.mpr ⟨lw_p16, List.forall_mem_cons.mpr ⟨lw_p17, List.forall_mem_cons.mpr ⟨lw_p18, List.forall_mem_cons.mpr ⟨lw_p19, List.forall_mem_cons.mpr ⟨lw_p20, List.forall_mem_cons.mpr ⟨lw_p21, List.forall_mem_cons.mpr ⟨lw_p22, List.forall_mem_cons.mpr ⟨lw_p23, List.forall_mem_cons.mpr ⟨lw_p24, List.forall_mem_cons.mpr ⟨lw_p25, List.forall_mem_cons.mpr ⟨lw_p26, List.forall_mem_cons.mpr ⟨lw_p27, List.forall_mem_cons.mpr ⟨lw_p28, List.forall_mem_cons.mpr ⟨lw_p29, List.forall_mem_cons.mpr ⟨lw_p30, List.forall_mem_cons.mpr ⟨lw_p31, fun _ h => absurd h List.not_mem_nil⟩⟩⟩⟩⟩⟩⟩⟩⟩⟩⟩⟩⟩⟩⟩⟩
theorem lw_p32 : lw_okq (⟨"AirByYardModel", "isLow", "(I)Z"⟩, 81) := ⟨⟨by decide +kernel, by decide +kernel⟩, List.mem_of_getElem? (i := 768) (by decide +kernel), List.mem_of_getElem? (i := 1027) (by decide +kernel), List.mem_of_getElem? (i := 1028) (by decide +kernel)⟩
theorem lw_p33 : lw_okq (⟨"AirByYardModel", "isHour", "(I)Z"⟩, 81) := ⟨⟨by decide +kernel, by decide +kernel⟩, List.mem_of_getElem? (i := 768) (by decide +kernel), List.mem_of_getElem? (i := 1031) (by decide +kernel), List.mem_of_getElem? (i := 1032) (by decide +kernel)⟩
theorem lw_p34 : lw_okq (⟨"AirByYardModel", "isBird", "(I)Z"⟩, 81) := ⟨⟨by decide +kernel, by decide +kernel⟩, List.mem_of_getElem? (i := 768) (by decide +kernel), List.mem_of_getElem? (i := 1039) (by decide +kernel), List.mem_of_getElem? (i := 1040) (by decide +kernel)⟩
theorem lw_p35 : lw_okq (⟨"AirByYardModel", "isGood", "(II)Z"⟩, 81) := ⟨⟨by decide +kernel, by decide +kernel⟩, List.mem_of_getElem? (i := 768) (by decide +kernel), List.mem_of_getElem? (i := 1043) (by decide +kernel), List.mem_of_getElem? (i := 1044) (by decide +kernel)⟩
theorem lw_p36 : lw_okq (⟨"AirByYardModel", "isPurse", "(I)Z"⟩, 81) := ⟨⟨by decide +kernel, by decide +kernel⟩, List.mem_of_getElem? (i := 768) (by decide +kernel), List.mem_of_getElem? (i := 1047) (by decide +kernel), List.mem_of_getElem? (i := 1048) (by decide +kernel)⟩
theorem lw_p37 : lw_okq (⟨"AirByYardModel", "partOf", "(II)I"⟩, 81) := ⟨⟨by decide +kernel, by decide +kernel⟩, List.mem_of_getElem? (i := 768) (by decide +kernel), List.mem_of_getElem? (i := 1051) (by decide +kernel), List.mem_of_getElem? (i := 1052) (by decide +kernel)⟩
theorem lw_p38 : lw_okq (⟨"AirByYardModel", "has", "(II)Z"⟩, 81) := ⟨⟨by decide +kernel, by decide +kernel⟩, List.mem_of_getElem? (i := 768) (by decide +kernel), List.mem_of_getElem? (i := 1059) (by decide +kernel), List.mem_of_getElem? (i := 1060) (by decide +kernel)⟩
theorem lw_p39 : lw_okq (⟨"AirByYardModel", "goesText", "(I)Z"⟩, 81) := ⟨⟨by decide +kernel, by decide +kernel⟩, List.mem_of_getElem? (i := 768) (by decide +kernel), List.mem_of_getElem? (i := 1075) (by decide +kernel), List.mem_of_getElem? (i := 1076) (by decide +kernel)⟩
theorem lw_p40 : lw_okq (⟨"AirByYardModel", "takesClause", "(I)Z"⟩, 81) := ⟨⟨by decide +kernel, by decide +kernel⟩, List.mem_of_getElem? (i := 768) (by decide +kernel), List.mem_of_getElem? (i := 1079) (by decide +kernel), List.mem_of_getElem? (i := 1080) (by decide +kernel)⟩
theorem lw_p41 : lw_okq (⟨"AirByYardModel", "takesHead", "(I)Z"⟩, 81) := ⟨⟨by decide +kernel, by decide +kernel⟩, List.mem_of_getElem? (i := 768) (by decide +kernel), List.mem_of_getElem? (i := 1083) (by decide +kernel), List.mem_of_getElem? (i := 1084) (by decide +kernel)⟩
theorem lw_p42 : lw_okq (⟨"AirByYardModel", "next", "()I"⟩, 81) := ⟨⟨by decide +kernel, by decide +kernel⟩, List.mem_of_getElem? (i := 768) (by decide +kernel), List.mem_of_getElem? (i := 1087) (by decide +kernel), List.mem_of_getElem? (i := 1088) (by decide +kernel)⟩
theorem lw_p43 : lw_okq (⟨"AirByYardModel", "takesWord", "(II)Z"⟩, 81) := ⟨⟨by decide +kernel, by decide +kernel⟩, List.mem_of_getElem? (i := 768) (by decide +kernel), List.mem_of_getElem? (i := 1091) (by decide +kernel), List.mem_of_getElem? (i := 1092) (by decide +kernel)⟩
theorem lw_p44 : lw_okq (⟨"AirByYardModel", "takes", "(I)Z"⟩, 81) := ⟨⟨by decide +kernel, by decide +kernel⟩, List.mem_of_getElem? (i := 768) (by decide +kernel), List.mem_of_getElem? (i := 1095) (by decide +kernel), List.mem_of_getElem? (i := 1096) (by decide +kernel)⟩
theorem lw_p45 : lw_okq (⟨"AirByYardModel", "takesNumber", "()Z"⟩, 81) := ⟨⟨by decide +kernel, by decide +kernel⟩, List.mem_of_getElem? (i := 768) (by decide +kernel), List.mem_of_getElem? (i := 1099) (by decide +kernel), List.mem_of_getElem? (i := 1100) (by decide +kernel)⟩
theorem lw_p46 : lw_okq (⟨"AirByYardModel", "isDigit", "()Z"⟩, 81) := ⟨⟨by decide +kernel, by decide +kernel⟩, List.mem_of_getElem? (i := 768) (by decide +kernel), List.mem_of_getElem? (i := 1103) (by decide +kernel), List.mem_of_getElem? (i := 1104) (by decide +kernel)⟩
theorem lw_p47 : lw_okq (⟨"AirByYardModel", "takesE", "(I)Z"⟩, 81) := ⟨⟨by decide +kernel, by decide +kernel⟩, List.mem_of_getElem? (i := 768) (by decide +kernel), List.mem_of_getElem? (i := 1107) (by decide +kernel), List.mem_of_getElem? (i := 1108) (by decide +kernel)⟩
def lw_privs_3 : List (MethodName × Nat) := [(⟨"AirByYardModel", "isLow", "(I)Z"⟩, 81), (⟨"AirByYardModel", "isHour", "(I)Z"⟩, 81), (⟨"AirByYardModel", "isBird", "(I)Z"⟩, 81), (⟨"AirByYardModel", "isGood", "(II)Z"⟩, 81), (⟨"AirByYardModel", "isPurse", "(I)Z"⟩, 81), (⟨"AirByYardModel", "partOf", "(II)I"⟩, 81), (⟨"AirByYardModel", "has", "(II)Z"⟩, 81), (⟨"AirByYardModel", "goesText", "(I)Z"⟩, 81), (⟨"AirByYardModel", "takesClause", "(I)Z"⟩, 81), (⟨"AirByYardModel", "takesHead", "(I)Z"⟩, 81), (⟨"AirByYardModel", "next", "()I"⟩, 81), (⟨"AirByYardModel", "takesWord", "(II)Z"⟩, 81), (⟨"AirByYardModel", "takes", "(I)Z"⟩, 81), (⟨"AirByYardModel", "takesNumber", "()Z"⟩, 81), (⟨"AirByYardModel", "isDigit", "()Z"⟩, 81), (⟨"AirByYardModel", "takesE", "(I)Z"⟩, 81)]
theorem lw_r3 : ∀ q ∈ lw_privs_3, lw_okq q := List.forall_mem_cons.mpr ⟨lw_p32, List.forall_mem_cons.mpr ⟨lw_p33, List.forall_mem_cons.mpr ⟨lw_p34, List.forall_mem_cons.mpr ⟨lw_p35, List.forall_mem_cons.mpr ⟨lw_p36, List.forall_mem_cons.mpr ⟨lw_p37, List.forall_mem_cons.mpr ⟨lw_p38, List.forall_mem_cons.mpr ⟨lw_p39, List.forall_mem_cons.mpr ⟨lw_p40, List.forall_mem_cons.mpr ⟨lw_p41, List.forall_mem_cons.mpr ⟨lw_p42, List.forall_mem_cons.mpr ⟨lw_p43, List.forall_mem_cons.mpr ⟨lw_p44, List.forall_mem_cons.mpr ⟨lw_p45, List.forall_mem_cons.mpr ⟨lw_p46, List.forall_mem_cons.mpr ⟨lw_p47, fun _ h => absurd h List.not_mem_nil⟩⟩⟩⟩⟩⟩⟩⟩⟩⟩⟩⟩⟩⟩⟩⟩
theorem lw_p48 : lw_okq (⟨"AirByYardModel", "takesTest", "()Z"⟩, 81) := ⟨⟨by decide +kernel, by decide +kernel⟩, List.mem_of_getElem? (i := 768) (by decide +kernel), List.mem_of_getElem? (i := 1111) (by decide +kernel), List.mem_of_getElem? (i := 1112) (by decide +kernel)⟩
theorem lw_p49 : lw_okq (⟨"AirByYardModel", "place", "(I)I"⟩, 81) := ⟨⟨by decide +kernel, by decide +kernel⟩, List.mem_of_getElem? (i := 768) (by decide +kernel), List.mem_of_getElem? (i := 1115) (by decide +kernel), List.mem_of_getElem? (i := 1116) (by decide +kernel)⟩
theorem lw_p50 : lw_okq (⟨"AirByYardModel", "emits", "(I)V"⟩, 81) := ⟨⟨by decide +kernel, by decide +kernel⟩, List.mem_of_getElem? (i := 768) (by decide +kernel), List.mem_of_getElem? (i := 1119) (by decide +kernel), List.mem_of_getElem? (i := 1120) (by decide +kernel)⟩
theorem lw_p51 : lw_okq (⟨"AirByYardModel", "whole", "()V"⟩, 81) := ⟨⟨by decide +kernel, by decide +kernel⟩, List.mem_of_getElem? (i := 768) (by decide +kernel), List.mem_of_getElem? (i := 1123) (by decide +kernel), List.mem_of_getElem? (i := 1124) (by decide +kernel)⟩
theorem lw_p52 : lw_okq (⟨"AirByYardModel", "settle", "(I)V"⟩, 81) := ⟨⟨by decide +kernel, by decide +kernel⟩, List.mem_of_getElem? (i := 768) (by decide +kernel), List.mem_of_getElem? (i := 1127) (by decide +kernel), List.mem_of_getElem? (i := 1128) (by decide +kernel)⟩
theorem lw_p53 : lw_okq (⟨"AirByYardModel", "bottom", "(I)I"⟩, 81) := ⟨⟨by decide +kernel, by decide +kernel⟩, List.mem_of_getElem? (i := 768) (by decide +kernel), List.mem_of_getElem? (i := 1135) (by decide +kernel), List.mem_of_getElem? (i := 1136) (by decide +kernel)⟩
theorem lw_p54 : lw_okq (⟨"AirByYardModel", "begins", "(I)I"⟩, 81) := ⟨⟨by decide +kernel, by decide +kernel⟩, List.mem_of_getElem? (i := 768) (by decide +kernel), List.mem_of_getElem? (i := 1139) (by decide +kernel), List.mem_of_getElem? (i := 1140) (by decide +kernel)⟩
theorem lw_p55 : lw_okq (⟨"AirByYardModel", "price", "(I)I"⟩, 81) := ⟨⟨by decide +kernel, by decide +kernel⟩, List.mem_of_getElem? (i := 768) (by decide +kernel), List.mem_of_getElem? (i := 1143) (by decide +kernel), List.mem_of_getElem? (i := 1144) (by decide +kernel)⟩
theorem lw_p56 : lw_okq (⟨"AirByYardModel", "begin", "()I"⟩, 81) := ⟨⟨by decide +kernel, by decide +kernel⟩, List.mem_of_getElem? (i := 768) (by decide +kernel), List.mem_of_getElem? (i := 1147) (by decide +kernel), List.mem_of_getElem? (i := 1148) (by decide +kernel)⟩
theorem lw_p57 : lw_okq (⟨"AirByYardModel", "behind", "()I"⟩, 81) := ⟨⟨by decide +kernel, by decide +kernel⟩, List.mem_of_getElem? (i := 768) (by decide +kernel), List.mem_of_getElem? (i := 1151) (by decide +kernel), List.mem_of_getElem? (i := 1152) (by decide +kernel)⟩
theorem lw_p58 : lw_okq (⟨"AirByYardModel", "holds", "(II)Z"⟩, 81) := ⟨⟨by decide +kernel, by decide +kernel⟩, List.mem_of_getElem? (i := 768) (by decide +kernel), List.mem_of_getElem? (i := 1155) (by decide +kernel), List.mem_of_getElem? (i := 1156) (by decide +kernel)⟩
theorem lw_p59 : lw_okq (⟨"AirByYardModel", "factOf", "(II)I"⟩, 81) := ⟨⟨by decide +kernel, by decide +kernel⟩, List.mem_of_getElem? (i := 768) (by decide +kernel), List.mem_of_getElem? (i := 1159) (by decide +kernel), List.mem_of_getElem? (i := 1160) (by decide +kernel)⟩
theorem lw_p60 : lw_okq (⟨"AirByYardModel", "strips", "(I)I"⟩, 81) := ⟨⟨by decide +kernel, by decide +kernel⟩, List.mem_of_getElem? (i := 768) (by decide +kernel), List.mem_of_getElem? (i := 1163) (by decide +kernel), List.mem_of_getElem? (i := 1164) (by decide +kernel)⟩
theorem lw_p61 : lw_okq (⟨"AirByYardModel", "heights", "(I)I"⟩, 81) := ⟨⟨by decide +kernel, by decide +kernel⟩, List.mem_of_getElem? (i := 768) (by decide +kernel), List.mem_of_getElem? (i := 1167) (by decide +kernel), List.mem_of_getElem? (i := 1168) (by decide +kernel)⟩
theorem lw_p62 : lw_okq (⟨"AirByYardModel", "top", "()I"⟩, 81) := ⟨⟨by decide +kernel, by decide +kernel⟩, List.mem_of_getElem? (i := 768) (by decide +kernel), List.mem_of_getElem? (i := 1171) (by decide +kernel), List.mem_of_getElem? (i := 1172) (by decide +kernel)⟩
theorem lw_p63 : lw_okq (⟨"AirByYardModel", "lastOf", "(II)I"⟩, 81) := ⟨⟨by decide +kernel, by decide +kernel⟩, List.mem_of_getElem? (i := 768) (by decide +kernel), List.mem_of_getElem? (i := 1175) (by decide +kernel), List.mem_of_getElem? (i := 1176) (by decide +kernel)⟩
def lw_privs_4 : List (MethodName × Nat) := [(⟨"AirByYardModel", "takesTest", "()Z"⟩, 81), (⟨"AirByYardModel", "place", "(I)I"⟩, 81), (⟨"AirByYardModel", "emits", "(I)V"⟩, 81), (⟨"AirByYardModel", "whole", "()V"⟩, 81), (⟨"AirByYardModel", "settle", "(I)V"⟩, 81), (⟨"AirByYardModel", "bottom", "(I)I"⟩, 81), (⟨"AirByYardModel", "begins", "(I)I"⟩, 81), (⟨"AirByYardModel", "price", "(I)I"⟩, 81), (⟨"AirByYardModel", "begin", "()I"⟩, 81), (⟨"AirByYardModel", "behind", "()I"⟩, 81), (⟨"AirByYardModel", "holds", "(II)Z"⟩, 81), (⟨"AirByYardModel", "factOf", "(II)I"⟩, 81), (⟨"AirByYardModel", "strips", "(I)I"⟩, 81), (⟨"AirByYardModel", "heights", "(I)I"⟩, 81), (⟨"AirByYardModel", "top", "()I"⟩, 81), (⟨"AirByYardModel", "lastOf", "(II)I"⟩, 81)]
theorem lw_r4 : ∀ q ∈ lw_privs_4, lw_okq q := List.forall_mem_cons.mpr ⟨lw_p48, List.forall_mem_cons.mpr ⟨lw_p49, List.forall_mem_cons.mpr ⟨lw_p50, List.forall_mem_cons.mpr ⟨lw_p51, List.forall_mem_cons.mpr ⟨lw_p52, List.forall_mem_cons.mpr ⟨lw_p53, List.forall_mem_cons.mpr ⟨lw_p54, List.forall_mem_cons.mpr ⟨lw_p55, List.forall_mem_cons.mpr ⟨lw_p56, List.forall_mem_cons.mpr ⟨lw_p57, List.forall_mem_cons.mpr ⟨lw_p58, List.forall_mem_cons.mpr ⟨lw_p59, List.forall_mem_cons.mpr ⟨lw_p60, List.forall_mem_cons.mpr ⟨lw_p61, List.forall_mem_cons.mpr ⟨lw_p62, List.forall_mem_cons.mpr ⟨lw_p63, fun _ h => absurd h List.not_mem_nil⟩⟩⟩⟩⟩⟩⟩⟩⟩⟩⟩⟩⟩⟩⟩⟩
theorem lw_p64 : lw_okq (⟨"AirByYardModel", "rent", "(I)I"⟩, 81) := ⟨⟨by decide +kernel, by decide +kernel⟩, List.mem_of_getElem? (i := 768) (by decide +kernel), List.mem_of_getElem? (i := 1179) (by decide +kernel), List.mem_of_getElem? (i := 1180) (by decide +kernel)⟩
theorem lw_p65 : lw_okq (⟨"AirByYardModel", "allFree", "()I"⟩, 81) := ⟨⟨by decide +kernel, by decide +kernel⟩, List.mem_of_getElem? (i := 768) (by decide +kernel), List.mem_of_getElem? (i := 1187) (by decide +kernel), List.mem_of_getElem? (i := 1188) (by decide +kernel)⟩
theorem lw_p66 : lw_okq (⟨"AirByYardModel", "freeAt", "(I)I"⟩, 81) := ⟨⟨by decide +kernel, by decide +kernel⟩, List.mem_of_getElem? (i := 768) (by decide +kernel), List.mem_of_getElem? (i := 1191) (by decide +kernel), List.mem_of_getElem? (i := 1192) (by decide +kernel)⟩
theorem lw_p67 : lw_okq (⟨"AirByYardModel", "heldBy", "(II)I"⟩, 81) := ⟨⟨by decide +kernel, by decide +kernel⟩, List.mem_of_getElem? (i := 768) (by decide +kernel), List.mem_of_getElem? (i := 1195) (by decide +kernel), List.mem_of_getElem? (i := 1196) (by decide +kernel)⟩
theorem lw_p68 : lw_okq (⟨"AirByYardModel", "holdsStrip", "(III)Z"⟩, 81) := ⟨⟨by decide +kernel, by decide +kernel⟩, List.mem_of_getElem? (i := 768) (by decide +kernel), List.mem_of_getElem? (i := 1199) (by decide +kernel), List.mem_of_getElem? (i := 1200) (by decide +kernel)⟩
theorem lw_p69 : lw_okq (⟨"AirByYardModel", "ones", "(I)I"⟩, 81) := ⟨⟨by decide +kernel, by decide +kernel⟩, List.mem_of_getElem? (i := 768) (by decide +kernel), List.mem_of_getElem? (i := 1203) (by decide +kernel), List.mem_of_getElem? (i := 1204) (by decide +kernel)⟩
theorem lw_p70 : lw_okq (⟨"AirByYardModel", "crowded", "()I"⟩, 81) := ⟨⟨by decide +kernel, by decide +kernel⟩, List.mem_of_getElem? (i := 768) (by decide +kernel), List.mem_of_getElem? (i := 1207) (by decide +kernel), List.mem_of_getElem? (i := 1208) (by decide +kernel)⟩
theorem lw_p71 : lw_okq (⟨"AirByYardModel", "allRent", "()I"⟩, 81) := ⟨⟨by decide +kernel, by decide +kernel⟩, List.mem_of_getElem? (i := 768) (by decide +kernel), List.mem_of_getElem? (i := 1211) (by decide +kernel), List.mem_of_getElem? (i := 1212) (by decide +kernel)⟩
theorem lw_p72 : lw_okq (⟨"AirByYardModel", "isHeight", "(I)Z"⟩, 81) := ⟨⟨by decide +kernel, by decide +kernel⟩, List.mem_of_getElem? (i := 768) (by decide +kernel), List.mem_of_getElem? (i := 1219) (by decide +kernel), List.mem_of_getElem? (i := 1220) (by decide +kernel)⟩
theorem lw_p73 : lw_okq (⟨"AirByYardModel", "clashOf", "(II)I"⟩, 81) := ⟨⟨by decide +kernel, by decide +kernel⟩, List.mem_of_getElem? (i := 768) (by decide +kernel), List.mem_of_getElem? (i := 1231) (by decide +kernel), List.mem_of_getElem? (i := 1232) (by decide +kernel)⟩
theorem lw_p74 : lw_okq (⟨"AirByYardModel", "isDays", "(I)Z"⟩, 81) := ⟨⟨by decide +kernel, by decide +kernel⟩, List.mem_of_getElem? (i := 768) (by decide +kernel), List.mem_of_getElem? (i := 1243) (by decide +kernel), List.mem_of_getElem? (i := 1244) (by decide +kernel)⟩
theorem lw_p75 : lw_okq (⟨"AirByYardModel", "goDays", "(I)V"⟩, 81) := ⟨⟨by decide +kernel, by decide +kernel⟩, List.mem_of_getElem? (i := 768) (by decide +kernel), List.mem_of_getElem? (i := 1247) (by decide +kernel), List.mem_of_getElem? (i := 1248) (by decide +kernel)⟩
theorem lw_p76 : lw_okq (⟨"AirByYardModel", "goDay", "()V"⟩, 81) := ⟨⟨by decide +kernel, by decide +kernel⟩, List.mem_of_getElem? (i := 768) (by decide +kernel), List.mem_of_getElem? (i := 1251) (by decide +kernel), List.mem_of_getElem? (i := 1252) (by decide +kernel)⟩
theorem lw_p77 : lw_okq (⟨"AirByYardModel", "save", "()V"⟩, 81) := ⟨⟨by decide +kernel, by decide +kernel⟩, List.mem_of_getElem? (i := 768) (by decide +kernel), List.mem_of_getElem? (i := 1259) (by decide +kernel), List.mem_of_getElem? (i := 1260) (by decide +kernel)⟩
theorem lw_p78 : lw_okq (⟨"AirByYardModel", "putBack", "()V"⟩, 81) := ⟨⟨by decide +kernel, by decide +kernel⟩, List.mem_of_getElem? (i := 768) (by decide +kernel), List.mem_of_getElem? (i := 1263) (by decide +kernel), List.mem_of_getElem? (i := 1264) (by decide +kernel)⟩
theorem lw_p79 : lw_okq (⟨"AirByYardModel", "shared", "(I)I"⟩, 81) := ⟨⟨by decide +kernel, by decide +kernel⟩, List.mem_of_getElem? (i := 768) (by decide +kernel), List.mem_of_getElem? (i := 1275) (by decide +kernel), List.mem_of_getElem? (i := 1276) (by decide +kernel)⟩
def lw_privs_5 : List (MethodName × Nat) := [(⟨"AirByYardModel", "rent", "(I)I"⟩, 81), (⟨"AirByYardModel", "allFree", "()I"⟩, 81), (⟨"AirByYardModel", "freeAt", "(I)I"⟩, 81), (⟨"AirByYardModel", "heldBy", "(II)I"⟩, 81), (⟨"AirByYardModel", "holdsStrip", "(III)Z"⟩, 81), (⟨"AirByYardModel", "ones", "(I)I"⟩, 81), (⟨"AirByYardModel", "crowded", "()I"⟩, 81), (⟨"AirByYardModel", "allRent", "()I"⟩, 81), (⟨"AirByYardModel", "isHeight", "(I)Z"⟩, 81), (⟨"AirByYardModel", "clashOf", "(II)I"⟩, 81), (⟨"AirByYardModel", "isDays", "(I)Z"⟩, 81), (⟨"AirByYardModel", "goDays", "(I)V"⟩, 81), (⟨"AirByYardModel", "goDay", "()V"⟩, 81), (⟨"AirByYardModel", "save", "()V"⟩, 81), (⟨"AirByYardModel", "putBack", "()V"⟩, 81), (⟨"AirByYardModel", "shared", "(I)I"⟩, 81)]
theorem lw_r5 : ∀ q ∈ lw_privs_5, lw_okq q := List.forall_mem_cons.mpr ⟨lw_p64, List.forall_mem_cons.mpr ⟨lw_p65, List.forall_mem_cons.mpr ⟨lw_p66, List.forall_mem_cons.mpr ⟨lw_p67, List.forall_mem_cons.mpr ⟨lw_p68, List.forall_mem_cons.mpr ⟨lw_p69, List.forall_mem_cons.mpr ⟨lw_p70, List.forall_mem_cons.mpr ⟨lw_p71, List.forall_mem_cons.mpr ⟨lw_p72, List.forall_mem_cons.mpr ⟨lw_p73, List.forall_mem_cons.mpr ⟨lw_p74, List.forall_mem_cons.mpr ⟨lw_p75, List.forall_mem_cons.mpr ⟨lw_p76, List.forall_mem_cons.mpr ⟨lw_p77, List.forall_mem_cons.mpr ⟨lw_p78, List.forall_mem_cons.mpr ⟨lw_p79, fun _ h => absurd h List.not_mem_nil⟩⟩⟩⟩⟩⟩⟩⟩⟩⟩⟩⟩⟩⟩⟩⟩
theorem lw_p80 : lw_okq (⟨"AirByYardModel", "layFoes", "()V"⟩, 81) := ⟨⟨by decide +kernel, by decide +kernel⟩, List.mem_of_getElem? (i := 768) (by decide +kernel), List.mem_of_getElem? (i := 1287) (by decide +kernel), List.mem_of_getElem? (i := 1288) (by decide +kernel)⟩
theorem lw_p81 : lw_okq (⟨"AirByYardModel", "isPeaceful", "(I)Z"⟩, 81) := ⟨⟨by decide +kernel, by decide +kernel⟩, List.mem_of_getElem? (i := 768) (by decide +kernel), List.mem_of_getElem? (i := 1291) (by decide +kernel), List.mem_of_getElem? (i := 1292) (by decide +kernel)⟩
theorem lw_p82 : lw_okq (⟨"AirByYardModel", "layWays", "(I)V"⟩, 81) := ⟨⟨by decide +kernel, by decide +kernel⟩, List.mem_of_getElem? (i := 768) (by decide +kernel), List.mem_of_getElem? (i := 1304) (by decide +kernel), List.mem_of_getElem? (i := 1305) (by decide +kernel)⟩
theorem lw_p83 : lw_okq (⟨"AirByYardModel", "isSeen", "()Z"⟩, 81) := ⟨⟨by decide +kernel, by decide +kernel⟩, List.mem_of_getElem? (i := 768) (by decide +kernel), List.mem_of_getElem? (i := 1320) (by decide +kernel), List.mem_of_getElem? (i := 1321) (by decide +kernel)⟩
theorem lw_p84 : lw_okq (⟨"AirByYardModel", "lowest", "(III)J"⟩, 81) := ⟨⟨by decide +kernel, by decide +kernel⟩, List.mem_of_getElem? (i := 768) (by decide +kernel), List.mem_of_getElem? (i := 1328) (by decide +kernel), List.mem_of_getElem? (i := 1329) (by decide +kernel)⟩
theorem lw_p85 : lw_okq (⟨"AirByYardModel", "divisor", "(II)I"⟩, 81) := ⟨⟨by decide +kernel, by decide +kernel⟩, List.mem_of_getElem? (i := 768) (by decide +kernel), List.mem_of_getElem? (i := 1332) (by decide +kernel), List.mem_of_getElem? (i := 1333) (by decide +kernel)⟩
theorem lw_p86 : lw_okq (⟨"AirByYardModel", "isTape", "(I)Z"⟩, 81) := ⟨⟨by decide +kernel, by decide +kernel⟩, List.mem_of_getElem? (i := 768) (by decide +kernel), List.mem_of_getElem? (i := 1360) (by decide +kernel), List.mem_of_getElem? (i := 1361) (by decide +kernel)⟩
theorem lw_p87 : lw_okq (⟨"AirByYardModel", "fliesAct", "(II)I"⟩, 81) := ⟨⟨by decide +kernel, by decide +kernel⟩, List.mem_of_getElem? (i := 768) (by decide +kernel), List.mem_of_getElem? (i := 1376) (by decide +kernel), List.mem_of_getElem? (i := 1377) (by decide +kernel)⟩
theorem lw_p88 : lw_okq (⟨"AirByYardModel", "body", "(I)V"⟩, 81) := ⟨⟨by decide +kernel, by decide +kernel⟩, List.mem_of_getElem? (i := 768) (by decide +kernel), List.mem_of_getElem? (i := 1380) (by decide +kernel), List.mem_of_getElem? (i := 1381) (by decide +kernel)⟩
theorem lw_p89 : lw_okq (⟨"AirByYardModel", "birdFlies", "(II)I"⟩, 81) := ⟨⟨by decide +kernel, by decide +kernel⟩, List.mem_of_getElem? (i := 768) (by decide +kernel), List.mem_of_getElem? (i := 1384) (by decide +kernel), List.mem_of_getElem? (i := 1385) (by decide +kernel)⟩
theorem lw_p90 : lw_okq (⟨"AirByYardModel", "singsAct", "(II)I"⟩, 81) := ⟨⟨by decide +kernel, by decide +kernel⟩, List.mem_of_getElem? (i := 768) (by decide +kernel), List.mem_of_getElem? (i := 1388) (by decide +kernel), List.mem_of_getElem? (i := 1389) (by decide +kernel)⟩
theorem lw_p91 : lw_okq (⟨"AirByYardModel", "singerSings", "(II)I"⟩, 81) := ⟨⟨by decide +kernel, by decide +kernel⟩, List.mem_of_getElem? (i := 768) (by decide +kernel), List.mem_of_getElem? (i := 1392) (by decide +kernel), List.mem_of_getElem? (i := 1393) (by decide +kernel)⟩
theorem lw_p92 : lw_okq (⟨"AirByYardModel", "birdSings", "(II)I"⟩, 81) := ⟨⟨by decide +kernel, by decide +kernel⟩, List.mem_of_getElem? (i := 768) (by decide +kernel), List.mem_of_getElem? (i := 1396) (by decide +kernel), List.mem_of_getElem? (i := 1397) (by decide +kernel)⟩
theorem lw_p93 : lw_okq (⟨"AirByYardModel", "tellsAct", "(II)I"⟩, 81) := ⟨⟨by decide +kernel, by decide +kernel⟩, List.mem_of_getElem? (i := 768) (by decide +kernel), List.mem_of_getElem? (i := 1400) (by decide +kernel), List.mem_of_getElem? (i := 1401) (by decide +kernel)⟩
theorem lw_p94 : lw_okq (⟨"AirByYardModel", "birdTells", "(II)I"⟩, 81) := ⟨⟨by decide +kernel, by decide +kernel⟩, List.mem_of_getElem? (i := 768) (by decide +kernel), List.mem_of_getElem? (i := 1404) (by decide +kernel), List.mem_of_getElem? (i := 1405) (by decide +kernel)⟩
theorem lw_p95 : lw_okq (⟨"AirByYardModel", "narrow", "(IJ)J"⟩, 81) := ⟨⟨by decide +kernel, by decide +kernel⟩, List.mem_of_getElem? (i := 768) (by decide +kernel), List.mem_of_getElem? (i := 1428) (by decide +kernel), List.mem_of_getElem? (i := 1429) (by decide +kernel)⟩
def lw_privs_6 : List (MethodName × Nat) := [(⟨"AirByYardModel", "layFoes", "()V"⟩, 81), (⟨"AirByYardModel", "isPeaceful", "(I)Z"⟩, 81), (⟨"AirByYardModel", "layWays", "(I)V"⟩, 81), (⟨"AirByYardModel", "isSeen", "()Z"⟩, 81), (⟨"AirByYardModel", "lowest", "(III)J"⟩, 81), (⟨"AirByYardModel", "divisor", "(II)I"⟩, 81), (⟨"AirByYardModel", "isTape", "(I)Z"⟩, 81), (⟨"AirByYardModel", "fliesAct", "(II)I"⟩, 81), (⟨"AirByYardModel", "body", "(I)V"⟩, 81), (⟨"AirByYardModel", "birdFlies", "(II)I"⟩, 81), (⟨"AirByYardModel", "singsAct", "(II)I"⟩, 81), (⟨"AirByYardModel", "singerSings", "(II)I"⟩, 81), (⟨"AirByYardModel", "birdSings", "(II)I"⟩, 81), (⟨"AirByYardModel", "tellsAct", "(II)I"⟩, 81), (⟨"AirByYardModel", "birdTells", "(II)I"⟩, 81), (⟨"AirByYardModel", "narrow", "(IJ)J"⟩, 81)]
theorem lw_r6 : ∀ q ∈ lw_privs_6, lw_okq q := List.forall_mem_cons.mpr ⟨lw_p80, List.forall_mem_cons.mpr ⟨lw_p81, List.forall_mem_cons.mpr ⟨lw_p82, List.forall_mem_cons.mpr ⟨lw_p83, List.forall_mem_cons.mpr ⟨lw_p84, List.forall_mem_cons.mpr ⟨lw_p85, List.forall_mem_cons.mpr ⟨lw_p86, List.forall_mem_cons.mpr ⟨lw_p87, List.forall_mem_cons.mpr ⟨lw_p88, List.forall_mem_cons.mpr ⟨lw_p89, List.forall_mem_cons.mpr ⟨lw_p90, List.forall_mem_cons.mpr ⟨lw_p91, List.forall_mem_cons.mpr ⟨lw_p92, List.forall_mem_cons.mpr ⟨lw_p93, List.forall_mem_cons.mpr ⟨lw_p94, List.forall_mem_cons.mpr ⟨lw_p95, fun _ h => absurd h List.not_mem_nil⟩⟩⟩⟩⟩⟩⟩⟩⟩⟩⟩⟩⟩⟩⟩⟩
def lw_privs : List (MethodName × Nat) := lw_privs_1 ++ (lw_privs_2 ++ (lw_privs_3 ++ (lw_privs_4 ++ (lw_privs_5 ++ (lw_privs_6)))))
def lw_tbl : List Cond := k2_sels lw_privs ++ tables_1
theorem lw_privs_ok : ∀ q ∈ lw_privs, lw_okq q := by
  show ∀ q ∈ lw_privs_1 ++ (lw_privs_2 ++ (lw_privs_3 ++ (lw_privs_4 ++ (lw_privs_5 ++ (lw_privs_6))))), lw_okq q
  exact List.forall_mem_append.mpr ⟨lw_r1, List.forall_mem_append.mpr ⟨lw_r2, List.forall_mem_append.mpr ⟨lw_r3, List.forall_mem_append.mpr ⟨lw_r4, List.forall_mem_append.mpr ⟨lw_r5, lw_r6⟩⟩⟩⟩⟩
-- names
def RX0 : String := "AirByYard$Bird"
def TX0 : u_T := fun k => match k with
  | 0 => ("AirByYard$Bird", "row", "[I", true)
  | 1 => ("AirByYard$Bird", "number", "I", false)
  | 2 => ("AirByYard$Bird", "kind", "I", false)
  | 3 => ("AirByYard$Bird", "v", "I", false)
  | 4 => ("AirByYard$Bird", "low", "I", false)
  | 5 => ("AirByYard$Bird", "tall", "I", false)
  | 6 => ("AirByYard$Bird", "from", "I", false)
  | 7 => ("AirByYard$Bird", "hours", "I", false)
  | 8 => ("AirByYard$Bird", "purse", "I", false)
  | _ => ("AirByYard$Bird", "out", "Z", false)
def tyX0 : Nat → FieldType := fun k => match k with
  | 0 => .array .int
  | 1 => .int
  | 2 => .int
  | 3 => .int
  | 4 => .int
  | 5 => .int
  | 6 => .int
  | 7 => .int
  | 8 => .int
  | _ => .boolean
abbrev wsX00 : List Cond := u_ws RX0 TX0 10
theorem nmX0 : ∀ a, a < 10 → ∀ b, b < 10 → a ≠ b → (TX0 a).2.1 ≠ (TX0 b).2.1 := by decide +kernel
theorem tyX0_ok : ∀ k, k < 10 → parseFieldDescriptor (TX0 k).2.2.1 = some (tyX0 k) := by decide +kernel
abbrev cX0_init : ByteArray := prog_2_method_1_code
def yX0_init : MethodName := ⟨RX0, "<init>", "()V"⟩
abbrev cX0_begin : ByteArray := prog_2_method_2_code
def yX0_begin : MethodName := ⟨RX0, "begin", "(III)V"⟩
abbrev cX0_become : ByteArray := prog_2_method_3_code
def yX0_become : MethodName := ⟨RX0, "become", "(LAirByYard$Bird;)V"⟩
abbrev cX0_change : ByteArray := prog_2_method_4_code
def yX0_change : MethodName := ⟨RX0, "change", "(II)I"⟩
abbrev cX0_bottom : ByteArray := prog_2_method_5_code
def yX0_bottom : MethodName := ⟨RX0, "bottom", "()I"⟩
abbrev cX0_begins : ByteArray := prog_2_method_6_code
def yX0_begins : MethodName := ⟨RX0, "begins", "(I)I"⟩
abbrev cX0_heights : ByteArray := prog_2_method_7_code
def yX0_heights : MethodName := ⟨RX0, "heights", "(I)I"⟩
abbrev cX0_span : ByteArray := prog_2_method_8_code
def yX0_span : MethodName := ⟨RX0, "span", "(I)I"⟩
abbrev cX0_holds : ByteArray := prog_2_method_9_code
def yX0_holds : MethodName := ⟨RX0, "holds", "(IIII)Z"⟩
abbrev cX0_strips : ByteArray := prog_2_method_10_code
def yX0_strips : MethodName := ⟨RX0, "strips", "(I)I"⟩
abbrev cX0_rent : ByteArray := prog_2_method_11_code
def yX0_rent : MethodName := ⟨RX0, "rent", "(LAirByYard$Estuary;I)I"⟩
abbrev cX0_live : ByteArray := prog_2_method_12_code
def yX0_live : MethodName := ⟨RX0, "live", "(LAirByYard$Estuary;II)V"⟩
abbrev cX0_liveADay : ByteArray := prog_2_method_13_code
def yX0_liveADay : MethodName := ⟨RX0, "liveADay", "(LAirByYard$Estuary;I)V"⟩
def RX1 : String := "AirByYard$Estuary"
def TX1 : u_T := fun k => match k with
  | 0 => ("AirByYard$Estuary", "steps", "[I", true)
  | 1 => ("AirByYard$Estuary", "stepCount", "I", false)
  | 2 => ("AirByYard$Estuary", "gain", "I", false)
  | _ => ("AirByYard$Estuary", "top", "I", false)
def tyX1 : Nat → FieldType := fun k => match k with
  | 0 => .array .int
  | 1 => .int
  | 2 => .int
  | _ => .int
abbrev wsX10 : List Cond := u_ws RX1 TX1 4
theorem nmX1 : ∀ a, a < 4 → ∀ b, b < 4 → a ≠ b → (TX1 a).2.1 ≠ (TX1 b).2.1 := by decide +kernel
theorem tyX1_ok : ∀ k, k < 4 → parseFieldDescriptor (TX1 k).2.2.1 = some (tyX1 k) := by decide +kernel
abbrev cX1_init : ByteArray := prog_3_method_1_code
def yX1_init : MethodName := ⟨RX1, "<init>", "()V"⟩
abbrev cX1_clear : ByteArray := prog_3_method_2_code
def yX1_clear : MethodName := ⟨RX1, "clear", "()V"⟩
abbrev cX1_put : ByteArray := prog_3_method_3_code
def yX1_put : MethodName := ⟨RX1, "put", "(II)V"⟩
abbrev cX1_price : ByteArray := prog_3_method_4_code
def yX1_price : MethodName := ⟨RX1, "price", "(LAirByYard$Bird;I)I"⟩
abbrev cX1_testOf : ByteArray := prog_3_method_5_code
def yX1_testOf : MethodName := ⟨RX1, "testOf", "(III)I"⟩
abbrev cX1_passes : ByteArray := prog_3_method_6_code
def yX1_passes : MethodName := ⟨RX1, "passes", "(ILAirByYard$Bird;I)Z"⟩
abbrev cX1_trait : ByteArray := prog_3_method_7_code
def yX1_trait : MethodName := ⟨RX1, "trait", "(ILAirByYard$Bird;I)I"⟩
def RX2 : String := "AirByYard$Reader"
def TX2 : u_T := fun k => match k with
  | 0 => ("AirByYard$Reader", "signs", "[B", true)
  | 1 => ("AirByYard$Reader", "size", "I", false)
  | _ => ("AirByYard$Reader", "at", "I", false)
def tyX2 : Nat → FieldType := fun k => match k with
  | 0 => .array .byte
  | 1 => .int
  | _ => .int
abbrev wsX20 : List Cond := u_ws RX2 TX2 3
theorem nmX2 : ∀ a, a < 3 → ∀ b, b < 3 → a ≠ b → (TX2 a).2.1 ≠ (TX2 b).2.1 := by decide +kernel
theorem tyX2_ok : ∀ k, k < 3 → parseFieldDescriptor (TX2 k).2.2.1 = some (tyX2 k) := by decide +kernel
abbrev cX2_init : ByteArray := prog_4_method_1_code
def yX2_init : MethodName := ⟨RX2, "<init>", "()V"⟩
abbrev cX2_put : ByteArray := prog_4_method_2_code
def yX2_put : MethodName := ⟨RX2, "put", "(I)Z"⟩
abbrev cX2_parse : ByteArray := prog_4_method_3_code
def yX2_parse : MethodName := ⟨RX2, "parse", "(LAirByYard$Estuary;)I"⟩
abbrev cX2_clause : ByteArray := prog_4_method_4_code
def yX2_clause : MethodName := ⟨RX2, "clause", "(LAirByYard$Estuary;)Z"⟩
abbrev cX2_change : ByteArray := prog_4_method_5_code
def yX2_change : MethodName := ⟨RX2, "change", "(LAirByYard$Estuary;I)Z"⟩
abbrev cX2_gain : ByteArray := prog_4_method_6_code
def yX2_gain : MethodName := ⟨RX2, "gain", "(LAirByYard$Estuary;)Z"⟩
abbrev cX2_top : ByteArray := prog_4_method_7_code
def yX2_top : MethodName := ⟨RX2, "top", "(LAirByYard$Estuary;)Z"⟩
abbrev cX2_either : ByteArray := prog_4_method_8_code
def yX2_either : MethodName := ⟨RX2, "either", "(LAirByYard$Estuary;I)Z"⟩
abbrev cX2_factor : ByteArray := prog_4_method_9_code
def yX2_factor : MethodName := ⟨RX2, "factor", "(LAirByYard$Estuary;I)Z"⟩
abbrev cX2_test : ByteArray := prog_4_method_10_code
def yX2_test : MethodName := ⟨RX2, "test", "(LAirByYard$Estuary;)Z"⟩
abbrev cX2_isLetter : ByteArray := prog_4_method_11_code
def yX2_isLetter : MethodName := ⟨RX2, "isLetter", "(I)Z"⟩
abbrev cX2_next : ByteArray := prog_4_method_12_code
def yX2_next : MethodName := ⟨RX2, "next", "()I"⟩
abbrev cX2_skip : ByteArray := prog_4_method_13_code
def yX2_skip : MethodName := ⟨RX2, "skip", "(C)Z"⟩
abbrev cX2_skipWord : ByteArray := prog_4_method_14_code
def yX2_skipWord : MethodName := ⟨RX2, "skipWord", "(Ljava/lang/String;)Z"⟩
abbrev cX2_number : ByteArray := prog_4_method_15_code
def yX2_number : MethodName := ⟨RX2, "number", "()I"⟩
def RX3 : String := "AirByYard$Rows"
def TX3 : u_T := fun k => match k with
  | 0 => ("AirByYard$Rows", "first", "[I", true)
  | 1 => ("AirByYard$Rows", "second", "[I", true)
  | 2 => ("AirByYard$Rows", "third", "[I", true)
  | 3 => ("AirByYard$Rows", "fourth", "[I", true)
  | _ => ("AirByYard$Rows", "size", "I", false)
def tyX3 : Nat → FieldType := fun k => match k with
  | 0 => .array .int
  | 1 => .array .int
  | 2 => .array .int
  | 3 => .array .int
  | _ => .int
abbrev wsX30 : List Cond := u_ws RX3 TX3 5
theorem nmX3 : ∀ a, a < 5 → ∀ b, b < 5 → a ≠ b → (TX3 a).2.1 ≠ (TX3 b).2.1 := by decide +kernel
theorem tyX3_ok : ∀ k, k < 5 → parseFieldDescriptor (TX3 k).2.2.1 = some (tyX3 k) := by decide +kernel
abbrev cX3_init : ByteArray := prog_5_method_1_code
def yX3_init : MethodName := ⟨RX3, "<init>", "(I)V"⟩
abbrev cX3_put : ByteArray := prog_5_method_2_code
def yX3_put : MethodName := ⟨RX3, "put", "(IIII)Z"⟩
abbrev cX3_become : ByteArray := prog_5_method_3_code
def yX3_become : MethodName := ⟨RX3, "become", "(LAirByYard$Rows;)V"⟩
def RX4 : String := "AirByYard$Scene"
def TX4 : u_T := fun k => match k with
  | 0 => ("AirByYard$Scene", "birds", "[LAirByYard$Bird;", true)
  | 1 => ("AirByYard$Scene", "size", "I", false)
  | 2 => ("AirByYard$Scene", "day", "I", false)
  | 3 => ("AirByYard$Scene", "holding", "I", false)
  | 4 => ("AirByYard$Scene", "seen", "LAirByYard$Rows;", true)
  | 5 => ("AirByYard$Scene", "leases", "LAirByYard$Rows;", true)
  | _ => ("AirByYard$Scene", "book", "LAirByYard$Rows;", true)
def tyX4 : Nat → FieldType := fun k => match k with
  | 0 => .array (.object "AirByYard$Bird")
  | 1 => .int
  | 2 => .int
  | 3 => .int
  | 4 => .object "AirByYard$Rows"
  | 5 => .object "AirByYard$Rows"
  | _ => .object "AirByYard$Rows"
abbrev wsX40 : List Cond := u_ws RX4 TX4 7
theorem nmX4 : ∀ a, a < 7 → ∀ b, b < 7 → a ≠ b → (TX4 a).2.1 ≠ (TX4 b).2.1 := by decide +kernel
theorem tyX4_ok : ∀ k, k < 7 → parseFieldDescriptor (TX4 k).2.2.1 = some (tyX4 k) := by decide +kernel
abbrev cX4_init : ByteArray := prog_6_method_1_code
def yX4_init : MethodName := ⟨RX4, "<init>", "()V"⟩
abbrev cX4_birdAt : ByteArray := prog_6_method_2_code
def yX4_birdAt : MethodName := ⟨RX4, "birdAt", "(I)LAirByYard$Bird;"⟩
abbrev cX4_outBits : ByteArray := prog_6_method_3_code
def yX4_outBits : MethodName := ⟨RX4, "outBits", "()I"⟩
abbrev cX4_become : ByteArray := prog_6_method_4_code
def yX4_become : MethodName := ⟨RX4, "become", "(LAirByYard$Scene;)V"⟩
def RX5 : String := "AirByYard$Tape"
def TX5 : u_T := fun k => match k with
  | 0 => ("AirByYard$Tape", "items", "[J", true)
  | 1 => ("AirByYard$Tape", "sort", "I", false)
  | _ => ("AirByYard$Tape", "size", "I", false)
def tyX5 : Nat → FieldType := fun k => match k with
  | 0 => .array .long
  | 1 => .int
  | _ => .int
abbrev wsX50 : List Cond := u_ws RX5 TX5 3
theorem nmX5 : ∀ a, a < 3 → ∀ b, b < 3 → a ≠ b → (TX5 a).2.1 ≠ (TX5 b).2.1 := by decide +kernel
theorem tyX5_ok : ∀ k, k < 3 → parseFieldDescriptor (TX5 k).2.2.1 = some (tyX5 k) := by decide +kernel
abbrev cX5_init : ByteArray := prog_7_method_1_code
def yX5_init : MethodName := ⟨RX5, "<init>", "()V"⟩
abbrev cX5_begin : ByteArray := prog_7_method_2_code
def yX5_begin : MethodName := ⟨RX5, "begin", "(II)V"⟩
abbrev cX5_cut : ByteArray := prog_7_method_3_code
def yX5_cut : MethodName := ⟨RX5, "cut", "(J)J"⟩
abbrev cX5_hasPart : ByteArray := prog_7_method_4_code
def yX5_hasPart : MethodName := ⟨RX5, "hasPart", "(II)Z"⟩
def RX6 : String := "AirByYard"
def TX6 : u_T := fun k => match k with
  | 0 => ("AirByYard", "now", "LAirByYard$Scene;", true)
  | 1 => ("AirByYard", "image", "LAirByYard$Scene;", true)
  | 2 => ("AirByYard", "hasImage", "Z", false)
  | 3 => ("AirByYard", "reader", "LAirByYard$Reader;", true)
  | 4 => ("AirByYard", "estuaries", "[LAirByYard$Estuary;", true)
  | 5 => ("AirByYard", "estuaryCount", "I", false)
  | 6 => ("AirByYard", "tapes", "[LAirByYard$Tape;", true)
  | 7 => ("AirByYard", "trace", "[I", true)
  | 8 => ("AirByYard", "bodiesRun", "I", false)
  | 9 => ("AirByYard", "supposed", "LAirByYard$Scene;", true)
  | 10 => ("AirByYard", "ghost", "LAirByYard$Bird;", true)
  | 11 => ("AirByYard", "heldOnce", "[I", true)
  | 12 => ("AirByYard", "heldTwice", "[I", true)
  | 13 => ("AirByYard", "foes", "[I", true)
  | 14 => ("AirByYard", "rents", "[I", true)
  | 15 => ("AirByYard", "waysTo", "[J", true)
  | _ => ("AirByYard", "waysOn", "[J", true)
def tyX6 : Nat → FieldType := fun k => match k with
  | 0 => .object "AirByYard$Scene"
  | 1 => .object "AirByYard$Scene"
  | 2 => .boolean
  | 3 => .object "AirByYard$Reader"
  | 4 => .array (.object "AirByYard$Estuary")
  | 5 => .int
  | 6 => .array (.object "AirByYard$Tape")
  | 7 => .array .int
  | 8 => .int
  | 9 => .object "AirByYard$Scene"
  | 10 => .object "AirByYard$Bird"
  | 11 => .array .int
  | 12 => .array .int
  | 13 => .array .int
  | 14 => .array .int
  | 15 => .array .long
  | _ => .array .long
abbrev wsX60 : List Cond := u_ws RX6 TX6 17
theorem nmX6 : ∀ a, a < 17 → ∀ b, b < 17 → a ≠ b → (TX6 a).2.1 ≠ (TX6 b).2.1 := by decide +kernel
theorem tyX6_ok : ∀ k, k < 17 → parseFieldDescriptor (TX6 k).2.2.1 = some (tyX6 k) := by decide +kernel
abbrev cX6_init : ByteArray := prog_1_method_1_code
def yX6_init : MethodName := ⟨RX6, "<init>", "()V"⟩
abbrev cX6_bird : ByteArray := prog_1_method_2_code
def yX6_bird : MethodName := ⟨RX6, "bird", "(IIIIII)I"⟩
abbrev cX6_of : ByteArray := prog_1_method_3_code
def yX6_of : MethodName := ⟨RX6, "of", "(II)I"⟩
abbrev cX6_set : ByteArray := prog_1_method_4_code
def yX6_set : MethodName := ⟨RX6, "set", "(III)I"⟩
abbrev cX6_evict : ByteArray := prog_1_method_5_code
def yX6_evict : MethodName := ⟨RX6, "evict", "(IZ)I"⟩
abbrev cX6_row : ByteArray := prog_1_method_6_code
def yX6_row : MethodName := ⟨RX6, "row", "(III)I"⟩
abbrev cX6_feed : ByteArray := prog_1_method_7_code
def yX6_feed : MethodName := ⟨RX6, "feed", "(I)I"⟩
abbrev cX6_estuary : ByteArray := prog_1_method_8_code
def yX6_estuary : MethodName := ⟨RX6, "estuary", "()I"⟩
abbrev cX6_told : ByteArray := prog_1_method_9_code
def yX6_told : MethodName := ⟨RX6, "told", "(I)I"⟩
abbrev cX6_held : ByteArray := prog_1_method_10_code
def yX6_held : MethodName := ⟨RX6, "held", "(II)I"⟩
abbrev cX6_free : ByteArray := prog_1_method_11_code
def yX6_free : MethodName := ⟨RX6, "free", "(I)I"⟩
abbrev cX6_clash : ByteArray := prog_1_method_12_code
def yX6_clash : MethodName := ⟨RX6, "clash", "(II)I"⟩
abbrev cX6_worst : ByteArray := prog_1_method_13_code
def yX6_worst : MethodName := ⟨RX6, "worst", "()I"⟩
abbrev cX6_pass : ByteArray := prog_1_method_14_code
def yX6_pass : MethodName := ⟨RX6, "pass", "(I)I"⟩
abbrev cX6_on : ByteArray := prog_1_method_15_code
def yX6_on : MethodName := ⟨RX6, "on", "(II)I"⟩
abbrev cX6_empty : ByteArray := prog_1_method_16_code
def yX6_empty : MethodName := ⟨RX6, "empty", "(I)I"⟩
abbrev cX6_lower : ByteArray := prog_1_method_17_code
def yX6_lower : MethodName := ⟨RX6, "lower", "(II)I"⟩
abbrev cX6_sooner : ByteArray := prog_1_method_18_code
def yX6_sooner : MethodName := ⟨RX6, "sooner", "(II)I"⟩
abbrev cX6_let : ByteArray := prog_1_method_19_code
def yX6_let : MethodName := ⟨RX6, "let", "(I)I"⟩
abbrev cX6_whoEvict : ByteArray := prog_1_method_20_code
def yX6_whoEvict : MethodName := ⟨RX6, "whoEvict", "()I"⟩
abbrev cX6_ways : ByteArray := prog_1_method_21_code
def yX6_ways : MethodName := ⟨RX6, "ways", "(I)J"⟩
abbrev cX6_outs : ByteArray := prog_1_method_22_code
def yX6_outs : MethodName := ⟨RX6, "outs", "(I)I"⟩
abbrev cX6_see : ByteArray := prog_1_method_23_code
def yX6_see : MethodName := ⟨RX6, "see", "(IIZI)I"⟩
abbrev cX6_can : ByteArray := prog_1_method_24_code
def yX6_can : MethodName := ⟨RX6, "can", "(II)I"⟩
abbrev cX6_odds : ByteArray := prog_1_method_25_code
def yX6_odds : MethodName := ⟨RX6, "odds", "(II)J"⟩
abbrev cX6_mean : ByteArray := prog_1_method_26_code
def yX6_mean : MethodName := ⟨RX6, "mean", "(I)J"⟩
abbrev cX6_lease : ByteArray := prog_1_method_27_code
def yX6_lease : MethodName := ⟨RX6, "lease", "(III)I"⟩
abbrev cX6_leased : ByteArray := prog_1_method_28_code
def yX6_leased : MethodName := ⟨RX6, "leased", "(I)I"⟩
abbrev cX6_book : ByteArray := prog_1_method_29_code
def yX6_book : MethodName := ⟨RX6, "book", "(II)I"⟩
abbrev cX6_looked : ByteArray := prog_1_method_30_code
def yX6_looked : MethodName := ⟨RX6, "looked", "()I"⟩
abbrev cX6_judge : ByteArray := prog_1_method_31_code
def yX6_judge : MethodName := ⟨RX6, "judge", "(II)I"⟩
abbrev cX6_image : ByteArray := prog_1_method_32_code
def yX6_image : MethodName := ⟨RX6, "image", "()I"⟩
abbrev cX6_undo : ByteArray := prog_1_method_33_code
def yX6_undo : MethodName := ⟨RX6, "undo", "()I"⟩
abbrev cX6_act : ByteArray := prog_1_method_34_code
def yX6_act : MethodName := ⟨RX6, "act", "(III)I"⟩
abbrev cX6_trace : ByteArray := prog_1_method_35_code
def yX6_trace : MethodName := ⟨RX6, "trace", "(I)I"⟩
abbrev cX6_taken : ByteArray := prog_1_method_36_code
def yX6_taken : MethodName := ⟨RX6, "taken", "(II)I"⟩
abbrev cX6_count : ByteArray := prog_1_method_37_code
def yX6_count : MethodName := ⟨RX6, "count", "(I)I"⟩
abbrev cX6_tape : ByteArray := prog_1_method_38_code
def yX6_tape : MethodName := ⟨RX6, "tape", "(III)I"⟩
abbrev cX6_item : ByteArray := prog_1_method_39_code
def yX6_item : MethodName := ⟨RX6, "item", "(IIJ)I"⟩
abbrev cX6_read : ByteArray := prog_1_method_40_code
def yX6_read : MethodName := ⟨RX6, "read", "(II)J"⟩
abbrev cX6_shift : ByteArray := prog_1_method_41_code
def yX6_shift : MethodName := ⟨RX6, "shift", "(IIIII)I"⟩
abbrev cX6_within : ByteArray := prog_1_method_42_code
def yX6_within : MethodName := ⟨RX6, "within", "(III)Z"⟩
abbrev cX6_estuaryNow : ByteArray := prog_1_method_43_code
def yX6_estuaryNow : MethodName := ⟨RX6, "estuaryNow", "()LAirByYard$Estuary;"⟩
abbrev cX6_layAir : ByteArray := prog_1_method_44_code
def yX6_layAir : MethodName := ⟨RX6, "layAir", "(LAirByYard$Scene;II)V"⟩
abbrev cX6_layBird : ByteArray := prog_1_method_45_code
def yX6_layBird : MethodName := ⟨RX6, "layBird", "(II)V"⟩
abbrev cX6_freeAt : ByteArray := prog_1_method_46_code
def yX6_freeAt : MethodName := ⟨RX6, "freeAt", "(II)I"⟩
abbrev cX6_isFree : ByteArray := prog_1_method_47_code
def yX6_isFree : MethodName := ⟨RX6, "isFree", "(III)Z"⟩
abbrev cX6_freeStrips : ByteArray := prog_1_method_48_code
def yX6_freeStrips : MethodName := ⟨RX6, "freeStrips", "(I)I"⟩
abbrev cX6_crowded : ByteArray := prog_1_method_49_code
def yX6_crowded : MethodName := ⟨RX6, "crowded", "(LAirByYard$Scene;)I"⟩
abbrev cX6_rentOfAll : ByteArray := prog_1_method_50_code
def yX6_rentOfAll : MethodName := ⟨RX6, "rentOfAll", "(LAirByYard$Scene;)I"⟩
abbrev cX6_clashOf : ByteArray := prog_1_method_51_code
def yX6_clashOf : MethodName := ⟨RX6, "clashOf", "(LAirByYard$Bird;LAirByYard$Bird;)I"⟩
abbrev cX6_sharedStrips : ByteArray := prog_1_method_52_code
def yX6_sharedStrips : MethodName := ⟨RX6, "sharedStrips", "(LAirByYard$Bird;I)I"⟩
abbrev cX6_findFoes : ByteArray := prog_1_method_53_code
def yX6_findFoes : MethodName := ⟨RX6, "findFoes", "()V"⟩
abbrev cX6_findRents : ByteArray := prog_1_method_54_code
def yX6_findRents : MethodName := ⟨RX6, "findRents", "()V"⟩
abbrev cX6_isPeaceful : ByteArray := prog_1_method_55_code
def yX6_isPeaceful : MethodName := ⟨RX6, "isPeaceful", "(I)Z"⟩
abbrev cX6_rentOfSet : ByteArray := prog_1_method_56_code
def yX6_rentOfSet : MethodName := ⟨RX6, "rentOfSet", "(I)I"⟩
abbrev cX6_goAnHour : ByteArray := prog_1_method_57_code
def yX6_goAnHour : MethodName := ⟨RX6, "goAnHour", "(II)V"⟩
abbrev cX6_seenHeldBy : ByteArray := prog_1_method_58_code
def yX6_seenHeldBy : MethodName := ⟨RX6, "seenHeldBy", "(LAirByYard$Bird;ILAirByYard$Estuary;)I"⟩
abbrev cX6_lastSeenDays : ByteArray := prog_1_method_59_code
def yX6_lastSeenDays : MethodName := ⟨RX6, "lastSeenDays", "()I"⟩
abbrev cX6_seenAsTold : ByteArray := prog_1_method_60_code
def yX6_seenAsTold : MethodName := ⟨RX6, "seenAsTold", "()I"⟩
abbrev cX6_partOfFraction : ByteArray := prog_1_method_61_code
def yX6_partOfFraction : MethodName := ⟨RX6, "partOfFraction", "(III)J"⟩
abbrev cX6_isUnder : ByteArray := prog_1_method_62_code
def yX6_isUnder : MethodName := ⟨RX6, "isUnder", "(II)Z"⟩
abbrev cX6_run : ByteArray := prog_1_method_63_code
def yX6_run : MethodName := ⟨RX6, "run", "(LAirByYard$Bird;IIII)I"⟩
abbrev cX6_kindAbove : ByteArray := prog_1_method_64_code
def yX6_kindAbove : MethodName := ⟨RX6, "kindAbove", "(I)I"⟩
abbrev cX6_note : ByteArray := prog_1_method_65_code
def yX6_note : MethodName := ⟨RX6, "note", "(I)V"⟩
def RX7 : String := "AirByYardModel"
def TX7 : u_T := fun k => match k with
  | 0 => ("AirByYardModel", "birds", "I", false)
  | 1 => ("AirByYardModel", "days", "I", false)
  | 2 => ("AirByYardModel", "gone", "I", false)
  | 3 => ("AirByYardModel", "kind", "[I", true)
  | 4 => ("AirByYardModel", "v", "[I", true)
  | 5 => ("AirByYardModel", "low", "[I", true)
  | 6 => ("AirByYardModel", "tall", "[I", true)
  | 7 => ("AirByYardModel", "hour0", "[I", true)
  | 8 => ("AirByYardModel", "hours", "[I", true)
  | 9 => ("AirByYardModel", "purse", "[I", true)
  | 10 => ("AirByYardModel", "rows", "[I", true)
  | 11 => ("AirByYardModel", "estuaries", "I", false)
  | 12 => ("AirByYardModel", "the", "I", false)
  | 13 => ("AirByYardModel", "fed", "I", false)
  | 14 => ("AirByYardModel", "at", "I", false)
  | 15 => ("AirByYardModel", "digits", "I", false)
  | 16 => ("AirByYardModel", "text", "[I", true)
  | 17 => ("AirByYardModel", "clauses", "[I", true)
  | 18 => ("AirByYardModel", "word", "[I", true)
  | 19 => ("AirByYardModel", "number", "[I", true)
  | 20 => ("AirByYardModel", "from", "[I", true)
  | 21 => ("AirByYardModel", "to", "[I", true)
  | 22 => ("AirByYardModel", "sign", "[I", true)
  | 23 => ("AirByYardModel", "waits", "[I", true)
  | 24 => ("AirByYardModel", "signs", "I", false)
  | 25 => ("AirByYardModel", "waiting", "I", false)
  | 26 => ("AirByYardModel", "open", "I", false)
  | 27 => ("AirByYardModel", "letters", "[I", true)
  | 28 => ("AirByYardModel", "pile", "[Z", true)
  | 29 => ("AirByYardModel", "due", "[I", true)
  | 30 => ("AirByYardModel", "keptDays", "I", false)
  | 31 => ("AirByYardModel", "keptGone", "I", false)
  | 32 => ("AirByYardModel", "keptPurse", "[I", true)
  | 33 => ("AirByYardModel", "foes", "[I", true)
  | 34 => ("AirByYardModel", "way", "[J", true)
  | 35 => ("AirByYardModel", "nextWay", "[J", true)
  | 36 => ("AirByYardModel", "seen", "I", false)
  | 37 => ("AirByYardModel", "seenHeight", "[I", true)
  | 38 => ("AirByYardModel", "seenHour", "[I", true)
  | 39 => ("AirByYardModel", "seenWhen", "[I", true)
  | 40 => ("AirByYardModel", "seenHeld", "[Z", true)
  | 41 => ("AirByYardModel", "leases", "I", false)
  | 42 => ("AirByYardModel", "books", "I", false)
  | 43 => ("AirByYardModel", "leaseWho", "[I", true)
  | 44 => ("AirByYardModel", "leaseLow", "[I", true)
  | 45 => ("AirByYardModel", "leaseFrom", "[I", true)
  | 46 => ("AirByYardModel", "bookWho", "[I", true)
  | 47 => ("AirByYardModel", "bookPurse", "[I", true)
  | 48 => ("AirByYardModel", "wasLow", "[I", true)
  | 49 => ("AirByYardModel", "wasFrom", "[I", true)
  | 50 => ("AirByYardModel", "hasImage", "Z", false)
  | 51 => ("AirByYardModel", "imageThe", "I", false)
  | 52 => ("AirByYardModel", "imageBirds", "I", false)
  | 53 => ("AirByYardModel", "imageDays", "I", false)
  | 54 => ("AirByYardModel", "imageGone", "I", false)
  | 55 => ("AirByYardModel", "imageSeen", "I", false)
  | 56 => ("AirByYardModel", "imageLeases", "I", false)
  | 57 => ("AirByYardModel", "imageBooks", "I", false)
  | 58 => ("AirByYardModel", "imageKind", "[I", true)
  | 59 => ("AirByYardModel", "imageV", "[I", true)
  | 60 => ("AirByYardModel", "imageLow", "[I", true)
  | 61 => ("AirByYardModel", "imageTall", "[I", true)
  | 62 => ("AirByYardModel", "imageHour0", "[I", true)
  | 63 => ("AirByYardModel", "imageHours", "[I", true)
  | 64 => ("AirByYardModel", "imagePurse", "[I", true)
  | 65 => ("AirByYardModel", "imageRows", "[I", true)
  | 66 => ("AirByYardModel", "imageHeight", "[I", true)
  | 67 => ("AirByYardModel", "imageHour", "[I", true)
  | 68 => ("AirByYardModel", "imageWhen", "[I", true)
  | 69 => ("AirByYardModel", "imageLeaseWho", "[I", true)
  | 70 => ("AirByYardModel", "imageLeaseLow", "[I", true)
  | 71 => ("AirByYardModel", "imageLeaseFrom", "[I", true)
  | 72 => ("AirByYardModel", "imageBookWho", "[I", true)
  | 73 => ("AirByYardModel", "imageBookPurse", "[I", true)
  | 74 => ("AirByYardModel", "imageHeld", "[Z", true)
  | 75 => ("AirByYardModel", "ran", "I", false)
  | 76 => ("AirByYardModel", "bodies", "[I", true)
  | 77 => ("AirByYardModel", "sort", "[I", true)
  | 78 => ("AirByYardModel", "length", "[I", true)
  | 79 => ("AirByYardModel", "item", "[J", true)
  | _ => ("AirByYardModel", "aside", "[J", true)
def tyX7 : Nat → FieldType := fun k => match k with
  | 0 => .int
  | 1 => .int
  | 2 => .int
  | 3 => .array .int
  | 4 => .array .int
  | 5 => .array .int
  | 6 => .array .int
  | 7 => .array .int
  | 8 => .array .int
  | 9 => .array .int
  | 10 => .array .int
  | 11 => .int
  | 12 => .int
  | 13 => .int
  | 14 => .int
  | 15 => .int
  | 16 => .array .int
  | 17 => .array .int
  | 18 => .array .int
  | 19 => .array .int
  | 20 => .array .int
  | 21 => .array .int
  | 22 => .array .int
  | 23 => .array .int
  | 24 => .int
  | 25 => .int
  | 26 => .int
  | 27 => .array .int
  | 28 => .array .boolean
  | 29 => .array .int
  | 30 => .int
  | 31 => .int
  | 32 => .array .int
  | 33 => .array .int
  | 34 => .array .long
  | 35 => .array .long
  | 36 => .int
  | 37 => .array .int
  | 38 => .array .int
  | 39 => .array .int
  | 40 => .array .boolean
  | 41 => .int
  | 42 => .int
  | 43 => .array .int
  | 44 => .array .int
  | 45 => .array .int
  | 46 => .array .int
  | 47 => .array .int
  | 48 => .array .int
  | 49 => .array .int
  | 50 => .boolean
  | 51 => .int
  | 52 => .int
  | 53 => .int
  | 54 => .int
  | 55 => .int
  | 56 => .int
  | 57 => .int
  | 58 => .array .int
  | 59 => .array .int
  | 60 => .array .int
  | 61 => .array .int
  | 62 => .array .int
  | 63 => .array .int
  | 64 => .array .int
  | 65 => .array .int
  | 66 => .array .int
  | 67 => .array .int
  | 68 => .array .int
  | 69 => .array .int
  | 70 => .array .int
  | 71 => .array .int
  | 72 => .array .int
  | 73 => .array .int
  | 74 => .array .boolean
  | 75 => .int
  | 76 => .array .int
  | 77 => .array .int
  | 78 => .array .int
  | 79 => .array .long
  | _ => .array .long
abbrev wsX70 : List Cond := u_ws RX7 TX7 81
theorem nmX7 : ∀ a, a < 81 → ∀ b, b < 81 → a ≠ b → (TX7 a).2.1 ≠ (TX7 b).2.1 := by decide +kernel
theorem tyX7_ok : ∀ k, k < 81 → parseFieldDescriptor (TX7 k).2.2.1 = some (tyX7 k) := by decide +kernel
abbrev cX7_init : ByteArray := prog_9_method_1_code
def yX7_init : MethodName := ⟨RX7, "<init>", "()V"⟩
abbrev cX7_in : ByteArray := prog_9_method_2_code
def yX7_in : MethodName := ⟨RX7, "in", "(III)Z"⟩
abbrev cX7_has : ByteArray := prog_9_method_3_code
def yX7_has : MethodName := ⟨RX7, "has", "(II)Z"⟩
abbrev cX7_ones : ByteArray := prog_9_method_4_code
def yX7_ones : MethodName := ⟨RX7, "ones", "(I)I"⟩
abbrev cX7_isBird : ByteArray := prog_9_method_5_code
def yX7_isBird : MethodName := ⟨RX7, "isBird", "(I)Z"⟩
abbrev cX7_isLow : ByteArray := prog_9_method_6_code
def yX7_isLow : MethodName := ⟨RX7, "isLow", "(I)Z"⟩
abbrev cX7_isHour : ByteArray := prog_9_method_7_code
def yX7_isHour : MethodName := ⟨RX7, "isHour", "(I)Z"⟩
abbrev cX7_isPurse : ByteArray := prog_9_method_8_code
def yX7_isPurse : MethodName := ⟨RX7, "isPurse", "(I)Z"⟩
abbrev cX7_isDays : ByteArray := prog_9_method_9_code
def yX7_isDays : MethodName := ⟨RX7, "isDays", "(I)Z"⟩
abbrev cX7_bird : ByteArray := prog_9_method_10_code
def yX7_bird : MethodName := ⟨RX7, "bird", "(IIIIII)I"⟩
abbrev cX7_isGood : ByteArray := prog_9_method_11_code
def yX7_isGood : MethodName := ⟨RX7, "isGood", "(II)Z"⟩
abbrev cX7_partOf : ByteArray := prog_9_method_12_code
def yX7_partOf : MethodName := ⟨RX7, "partOf", "(II)I"⟩
abbrev cX7_set : ByteArray := prog_9_method_13_code
def yX7_set : MethodName := ⟨RX7, "set", "(III)I"⟩
abbrev cX7_evict : ByteArray := prog_9_method_14_code
def yX7_evict : MethodName := ⟨RX7, "evict", "(IZ)I"⟩
abbrev cX7_row : ByteArray := prog_9_method_15_code
def yX7_row : MethodName := ⟨RX7, "row", "(III)I"⟩
abbrev cX7_feed : ByteArray := prog_9_method_16_code
def yX7_feed : MethodName := ⟨RX7, "feed", "(I)I"⟩
abbrev cX7_next : ByteArray := prog_9_method_17_code
def yX7_next : MethodName := ⟨RX7, "next", "()I"⟩
abbrev cX7_takes : ByteArray := prog_9_method_18_code
def yX7_takes : MethodName := ⟨RX7, "takes", "(I)Z"⟩
abbrev cX7_takesWord : ByteArray := prog_9_method_19_code
def yX7_takesWord : MethodName := ⟨RX7, "takesWord", "(II)Z"⟩
abbrev cX7_isDigit : ByteArray := prog_9_method_20_code
def yX7_isDigit : MethodName := ⟨RX7, "isDigit", "()Z"⟩
abbrev cX7_takesNumber : ByteArray := prog_9_method_21_code
def yX7_takesNumber : MethodName := ⟨RX7, "takesNumber", "()Z"⟩
abbrev cX7_emits : ByteArray := prog_9_method_22_code
def yX7_emits : MethodName := ⟨RX7, "emits", "(I)V"⟩
abbrev cX7_whole : ByteArray := prog_9_method_23_code
def yX7_whole : MethodName := ⟨RX7, "whole", "()V"⟩
abbrev cX7_settle : ByteArray := prog_9_method_24_code
def yX7_settle : MethodName := ⟨RX7, "settle", "(I)V"⟩
abbrev cX7_place : ByteArray := prog_9_method_25_code
def yX7_place : MethodName := ⟨RX7, "place", "(I)I"⟩
abbrev cX7_takesTest : ByteArray := prog_9_method_26_code
def yX7_takesTest : MethodName := ⟨RX7, "takesTest", "()Z"⟩
abbrev cX7_takesE : ByteArray := prog_9_method_27_code
def yX7_takesE : MethodName := ⟨RX7, "takesE", "(I)Z"⟩
abbrev cX7_takesHead : ByteArray := prog_9_method_28_code
def yX7_takesHead : MethodName := ⟨RX7, "takesHead", "(I)Z"⟩
abbrev cX7_takesClause : ByteArray := prog_9_method_29_code
def yX7_takesClause : MethodName := ⟨RX7, "takesClause", "(I)Z"⟩
abbrev cX7_goesText : ByteArray := prog_9_method_30_code
def yX7_goesText : MethodName := ⟨RX7, "goesText", "(I)Z"⟩
abbrev cX7_estuary : ByteArray := prog_9_method_31_code
def yX7_estuary : MethodName := ⟨RX7, "estuary", "()I"⟩
abbrev cX7_begin : ByteArray := prog_9_method_32_code
def yX7_begin : MethodName := ⟨RX7, "begin", "()I"⟩
abbrev cX7_behind : ByteArray := prog_9_method_33_code
def yX7_behind : MethodName := ⟨RX7, "behind", "()I"⟩
abbrev cX7_lastOf : ByteArray := prog_9_method_34_code
def yX7_lastOf : MethodName := ⟨RX7, "lastOf", "(II)I"⟩
abbrev cX7_top : ByteArray := prog_9_method_35_code
def yX7_top : MethodName := ⟨RX7, "top", "()I"⟩
abbrev cX7_factOf : ByteArray := prog_9_method_36_code
def yX7_factOf : MethodName := ⟨RX7, "factOf", "(II)I"⟩
abbrev cX7_holds : ByteArray := prog_9_method_37_code
def yX7_holds : MethodName := ⟨RX7, "holds", "(II)Z"⟩
abbrev cX7_price : ByteArray := prog_9_method_38_code
def yX7_price : MethodName := ⟨RX7, "price", "(I)I"⟩
abbrev cX7_bottom : ByteArray := prog_9_method_39_code
def yX7_bottom : MethodName := ⟨RX7, "bottom", "(I)I"⟩
abbrev cX7_begins : ByteArray := prog_9_method_40_code
def yX7_begins : MethodName := ⟨RX7, "begins", "(I)I"⟩
abbrev cX7_heights : ByteArray := prog_9_method_41_code
def yX7_heights : MethodName := ⟨RX7, "heights", "(I)I"⟩
abbrev cX7_holdsStrip : ByteArray := prog_9_method_42_code
def yX7_holdsStrip : MethodName := ⟨RX7, "holdsStrip", "(III)Z"⟩
abbrev cX7_strips : ByteArray := prog_9_method_43_code
def yX7_strips : MethodName := ⟨RX7, "strips", "(I)I"⟩
abbrev cX7_rent : ByteArray := prog_9_method_44_code
def yX7_rent : MethodName := ⟨RX7, "rent", "(I)I"⟩
abbrev cX7_of : ByteArray := prog_9_method_45_code
def yX7_of : MethodName := ⟨RX7, "of", "(II)I"⟩
abbrev cX7_heldBy : ByteArray := prog_9_method_46_code
def yX7_heldBy : MethodName := ⟨RX7, "heldBy", "(II)I"⟩
abbrev cX7_freeAt : ByteArray := prog_9_method_47_code
def yX7_freeAt : MethodName := ⟨RX7, "freeAt", "(I)I"⟩
abbrev cX7_allFree : ByteArray := prog_9_method_48_code
def yX7_allFree : MethodName := ⟨RX7, "allFree", "()I"⟩
abbrev cX7_crowded : ByteArray := prog_9_method_49_code
def yX7_crowded : MethodName := ⟨RX7, "crowded", "()I"⟩
abbrev cX7_allRent : ByteArray := prog_9_method_50_code
def yX7_allRent : MethodName := ⟨RX7, "allRent", "()I"⟩
abbrev cX7_told : ByteArray := prog_9_method_51_code
def yX7_told : MethodName := ⟨RX7, "told", "(I)I"⟩
abbrev cX7_isHeight : ByteArray := prog_9_method_52_code
def yX7_isHeight : MethodName := ⟨RX7, "isHeight", "(I)Z"⟩
abbrev cX7_held : ByteArray := prog_9_method_53_code
def yX7_held : MethodName := ⟨RX7, "held", "(II)I"⟩
abbrev cX7_free : ByteArray := prog_9_method_54_code
def yX7_free : MethodName := ⟨RX7, "free", "(I)I"⟩
abbrev cX7_clashOf : ByteArray := prog_9_method_55_code
def yX7_clashOf : MethodName := ⟨RX7, "clashOf", "(II)I"⟩
abbrev cX7_clash : ByteArray := prog_9_method_56_code
def yX7_clash : MethodName := ⟨RX7, "clash", "(II)I"⟩
abbrev cX7_worst : ByteArray := prog_9_method_57_code
def yX7_worst : MethodName := ⟨RX7, "worst", "()I"⟩
abbrev cX7_goDay : ByteArray := prog_9_method_58_code
def yX7_goDay : MethodName := ⟨RX7, "goDay", "()V"⟩
abbrev cX7_goDays : ByteArray := prog_9_method_59_code
def yX7_goDays : MethodName := ⟨RX7, "goDays", "(I)V"⟩
abbrev cX7_pass : ByteArray := prog_9_method_60_code
def yX7_pass : MethodName := ⟨RX7, "pass", "(I)I"⟩
abbrev cX7_save : ByteArray := prog_9_method_61_code
def yX7_save : MethodName := ⟨RX7, "save", "()V"⟩
abbrev cX7_putBack : ByteArray := prog_9_method_62_code
def yX7_putBack : MethodName := ⟨RX7, "putBack", "()V"⟩
abbrev cX7_on : ByteArray := prog_9_method_63_code
def yX7_on : MethodName := ⟨RX7, "on", "(II)I"⟩
abbrev cX7_empty : ByteArray := prog_9_method_64_code
def yX7_empty : MethodName := ⟨RX7, "empty", "(I)I"⟩
abbrev cX7_shared : ByteArray := prog_9_method_65_code
def yX7_shared : MethodName := ⟨RX7, "shared", "(I)I"⟩
abbrev cX7_lower : ByteArray := prog_9_method_66_code
def yX7_lower : MethodName := ⟨RX7, "lower", "(II)I"⟩
abbrev cX7_sooner : ByteArray := prog_9_method_67_code
def yX7_sooner : MethodName := ⟨RX7, "sooner", "(II)I"⟩
abbrev cX7_layFoes : ByteArray := prog_9_method_68_code
def yX7_layFoes : MethodName := ⟨RX7, "layFoes", "()V"⟩
abbrev cX7_isPeaceful : ByteArray := prog_9_method_69_code
def yX7_isPeaceful : MethodName := ⟨RX7, "isPeaceful", "(I)Z"⟩
abbrev cX7_let : ByteArray := prog_9_method_70_code
def yX7_let : MethodName := ⟨RX7, "let", "(I)I"⟩
abbrev cX7_whoEvict : ByteArray := prog_9_method_71_code
def yX7_whoEvict : MethodName := ⟨RX7, "whoEvict", "()I"⟩
abbrev cX7_layWays : ByteArray := prog_9_method_72_code
def yX7_layWays : MethodName := ⟨RX7, "layWays", "(I)V"⟩
abbrev cX7_ways : ByteArray := prog_9_method_73_code
def yX7_ways : MethodName := ⟨RX7, "ways", "(I)J"⟩
abbrev cX7_outs : ByteArray := prog_9_method_74_code
def yX7_outs : MethodName := ⟨RX7, "outs", "(I)I"⟩
abbrev cX7_see : ByteArray := prog_9_method_75_code
def yX7_see : MethodName := ⟨RX7, "see", "(IIZI)I"⟩
abbrev cX7_isSeen : ByteArray := prog_9_method_76_code
def yX7_isSeen : MethodName := ⟨RX7, "isSeen", "()Z"⟩
abbrev cX7_can : ByteArray := prog_9_method_77_code
def yX7_can : MethodName := ⟨RX7, "can", "(II)I"⟩
abbrev cX7_divisor : ByteArray := prog_9_method_78_code
def yX7_divisor : MethodName := ⟨RX7, "divisor", "(II)I"⟩
abbrev cX7_lowest : ByteArray := prog_9_method_79_code
def yX7_lowest : MethodName := ⟨RX7, "lowest", "(III)J"⟩
abbrev cX7_odds : ByteArray := prog_9_method_80_code
def yX7_odds : MethodName := ⟨RX7, "odds", "(II)J"⟩
abbrev cX7_mean : ByteArray := prog_9_method_81_code
def yX7_mean : MethodName := ⟨RX7, "mean", "(I)J"⟩
abbrev cX7_lease : ByteArray := prog_9_method_82_code
def yX7_lease : MethodName := ⟨RX7, "lease", "(III)I"⟩
abbrev cX7_leased : ByteArray := prog_9_method_83_code
def yX7_leased : MethodName := ⟨RX7, "leased", "(I)I"⟩
abbrev cX7_book : ByteArray := prog_9_method_84_code
def yX7_book : MethodName := ⟨RX7, "book", "(II)I"⟩
abbrev cX7_looked : ByteArray := prog_9_method_85_code
def yX7_looked : MethodName := ⟨RX7, "looked", "()I"⟩
abbrev cX7_judge : ByteArray := prog_9_method_86_code
def yX7_judge : MethodName := ⟨RX7, "judge", "(II)I"⟩
abbrev cX7_image : ByteArray := prog_9_method_87_code
def yX7_image : MethodName := ⟨RX7, "image", "()I"⟩
abbrev cX7_undo : ByteArray := prog_9_method_88_code
def yX7_undo : MethodName := ⟨RX7, "undo", "()I"⟩
abbrev cX7_body : ByteArray := prog_9_method_89_code
def yX7_body : MethodName := ⟨RX7, "body", "(I)V"⟩
abbrev cX7_birdFlies : ByteArray := prog_9_method_90_code
def yX7_birdFlies : MethodName := ⟨RX7, "birdFlies", "(II)I"⟩
abbrev cX7_fliesAct : ByteArray := prog_9_method_91_code
def yX7_fliesAct : MethodName := ⟨RX7, "fliesAct", "(II)I"⟩
abbrev cX7_birdSings : ByteArray := prog_9_method_92_code
def yX7_birdSings : MethodName := ⟨RX7, "birdSings", "(II)I"⟩
abbrev cX7_singerSings : ByteArray := prog_9_method_93_code
def yX7_singerSings : MethodName := ⟨RX7, "singerSings", "(II)I"⟩
abbrev cX7_singsAct : ByteArray := prog_9_method_94_code
def yX7_singsAct : MethodName := ⟨RX7, "singsAct", "(II)I"⟩
abbrev cX7_birdTells : ByteArray := prog_9_method_95_code
def yX7_birdTells : MethodName := ⟨RX7, "birdTells", "(II)I"⟩
abbrev cX7_tellsAct : ByteArray := prog_9_method_96_code
def yX7_tellsAct : MethodName := ⟨RX7, "tellsAct", "(II)I"⟩
abbrev cX7_act : ByteArray := prog_9_method_97_code
def yX7_act : MethodName := ⟨RX7, "act", "(III)I"⟩
abbrev cX7_trace : ByteArray := prog_9_method_98_code
def yX7_trace : MethodName := ⟨RX7, "trace", "(I)I"⟩
abbrev cX7_taken : ByteArray := prog_9_method_99_code
def yX7_taken : MethodName := ⟨RX7, "taken", "(II)I"⟩
abbrev cX7_count : ByteArray := prog_9_method_100_code
def yX7_count : MethodName := ⟨RX7, "count", "(I)I"⟩
abbrev cX7_isTape : ByteArray := prog_9_method_101_code
def yX7_isTape : MethodName := ⟨RX7, "isTape", "(I)Z"⟩
abbrev cX7_tape : ByteArray := prog_9_method_102_code
def yX7_tape : MethodName := ⟨RX7, "tape", "(III)I"⟩
abbrev cX7_narrow : ByteArray := prog_9_method_103_code
def yX7_narrow : MethodName := ⟨RX7, "narrow", "(IJ)J"⟩
abbrev cX7_item : ByteArray := prog_9_method_104_code
def yX7_item : MethodName := ⟨RX7, "item", "(IIJ)I"⟩
abbrev cX7_read : ByteArray := prog_9_method_105_code
def yX7_read : MethodName := ⟨RX7, "read", "(II)J"⟩
abbrev cX7_shift : ByteArray := prog_9_method_106_code
def yX7_shift : MethodName := ⟨RX7, "shift", "(IIIII)I"⟩
def RJ6 : String := "java/lang/Integer"
abbrev cJ6_bitCount_0f7a4 : ByteArray := prog_10_method_49_code
def yJ6_bitCount_0f7a4 : MethodName := ⟨RJ6, "bitCount", "(I)I"⟩
def RJ9 : String := "java/lang/Math"
abbrev cJ9_floorMod_7cf53 : ByteArray := prog_11_method_50_code
def yJ9_floorMod_7cf53 : MethodName := ⟨RJ9, "floorMod", "(II)I"⟩
abbrev cJ9_max_7cf53 : ByteArray := prog_11_method_65_code
def yJ9_max_7cf53 : MethodName := ⟨RJ9, "max", "(II)I"⟩
abbrev cJ9_min_7cf53 : ByteArray := prog_11_method_69_code
def yJ9_min_7cf53 : MethodName := ⟨RJ9, "min", "(II)I"⟩
def RJ0 : String := "java/lang/String"
abbrev cJ0_length_8abf5 : ByteArray := prog_12_method_54_code
def yJ0_length_8abf5 : MethodName := ⟨RJ0, "length", "()I"⟩
abbrev cJ0_charAt_5068e : ByteArray := prog_12_method_56_code
def yJ0_charAt_5068e : MethodName := ⟨RJ0, "charAt", "(I)C"⟩
abbrev cJ0_coder_7d493 : ByteArray := prog_12_method_152_code
def yJ0_coder_7d493 : MethodName := ⟨RJ0, "coder", "()B"⟩
abbrev cJ0_isLatin1_aae02 : ByteArray := prog_12_method_154_code
def yJ0_isLatin1_aae02 : MethodName := ⟨RJ0, "isLatin1", "()Z"⟩
abbrev cJ0_checkIndex_df160 : ByteArray := prog_12_method_155_code
def yJ0_checkIndex_df160 : MethodName := ⟨RJ0, "checkIndex", "(II)V"⟩
def RJ1 : String := "java/lang/StringLatin1"
abbrev cJ1_charAt_3b067 : ByteArray := prog_13_method_2_code
def yJ1_charAt_3b067 : MethodName := ⟨RJ1, "charAt", "([BI)C"⟩
def RJ2 : String := "java/lang/StringUTF16"
abbrev cJ2_getChar_3b067 : ByteArray := prog_14_method_5_code
def yJ2_getChar_3b067 : MethodName := ⟨RJ2, "getChar", "([BI)C"⟩
abbrev cJ2_length_9d52b : ByteArray := prog_14_method_6_code
def yJ2_length_9d52b : MethodName := ⟨RJ2, "length", "([B)I"⟩
abbrev cJ2_charAt_3b067 : ByteArray := prog_14_method_83_code
def yJ2_charAt_3b067 : MethodName := ⟨RJ2, "charAt", "([BI)C"⟩
abbrev cJ2_checkIndex_2214a : ByteArray := prog_14_method_91_code
def yJ2_checkIndex_2214a : MethodName := ⟨RJ2, "checkIndex", "(I[B)V"⟩
def RJ10 : String := "java/lang/System"
def RJ3 : String := "jdk/internal/util/Preconditions"
abbrev cJ3_checkIndex_8e157 : ByteArray := prog_16_method_11_code
def yJ3_checkIndex_8e157 : MethodName := ⟨RJ3, "checkIndex", "(IILjava/util/function/BiFunction;)I"⟩
def RL : String := "AirByYardLaw"
abbrev cL_law : ByteArray := code
def yL_law : MethodName := ⟨RL, "law", "([I)Z"⟩
abbrev vwCl : List vw_C := [(RX0, TX0, 10), (RX1, TX1, 4), (RX2, TX2, 3), (RX3, TX3, 5), (RX4, TX4, 7), (RX5, TX5, 3), (RX6, TX6, 17), (RX7, TX7, 81)]
end
section
/-! a small machine over places: an object or row has a number, its fields and items are numbers by (place, k) -/
abbrev am_M : Type := (Nat → Nat → Int32) × (Nat → Nat → Int64) × (Nat → Nat → Option Nat) × (Nat → Nat × Nat) × Nat × Nat
/-- pc, instruction, what the program that wrote the table found out of it -/
abbrev am_A : Type := Nat × Instr × List Nat
/-- a method: name, bytes, number of its variables, what it answers, its class's name, its table -/
abbrev am_I : Type := MethodName × ByteArray × Nat × Option FieldType × String × List am_A
def am_R0 : Nat := 9
def am_junk : Value := .retAddr 0
def am_isJ : Value → Bool
  | .retAddr _ => true
  | _ => false
def am_fty : Nat → Nat → FieldType
  | 0 => tyX0 | 1 => tyX1 | 2 => tyX2 | 3 => tyX3 | 4 => tyX4 | 5 => tyX5 | 6 => tyX6 | _ => tyX7
def am_fnum : Nat → Nat
  | 0 => 10 | 1 => 4 | 2 => 3 | 3 => 5 | 4 => 7 | 5 => 3 | 6 => 17 | _ => 81
def am_fT : Nat → u_T
  | 0 => TX0 | 1 => TX1 | 2 => TX2 | 3 => TX3 | 4 => TX4 | 5 => TX5 | 6 => TX6 | _ => TX7
def am_cn : Nat → String
  | 0 => RX0 | 1 => RX1 | 2 => RX2 | 3 => RX3 | 4 => RX4 | 5 => RX5 | 6 => RX6 | _ => RX7
def am_tys : Nat → FieldType
  | 0 => .int | 1 => .long | 2 => .byte | 3 => .boolean | 4 => .object RX1 | 5 => .object RX5 | _ => .object RX0
def am_rd (ad : Nat → Nat) (M : am_M) (p k : Nat) : FieldType → Value
  | .long => .long (M.2.1 p k)
  | .object _ => va_rf ((M.2.2.1 p k).map ad)
  | .array _ => va_rf ((M.2.2.1 p k).map ad)
  | _ => .int (M.1 p k)
def am_up {α : Type} (f : Nat → Nat → α) (p k : Nat) (x : α) : Nat → Nat → α := fun q j => if q = p ∧ j = k then x else f q j
def am_wr (M : am_M) (p k : Nat) : Value → am_M
  | .int x => (am_up M.1 p k x, M.2)
  | .long x => (M.1, am_up M.2.1 p k x, M.2.2)
  | .ref q => (M.1, M.2.1, am_up M.2.2.1 p k (some q), M.2.2.2)
  | _ => (M.1, M.2.1, am_up M.2.2.1 p k none, M.2.2.2)
def am_okv : FieldType → Value → Bool
  | .int, .int _ => true
  | .long, .long _ => true
  | .boolean, .int x => x == 0 || x == 1
  | .object _, .ref _ => true
  | .array _, .ref _ => true
  | _, _ => false
def am_nar : Nat → Int32 → Int32
  | 102, x => vp_nar .byte x
  | 103, x => vp_nar .boolean x
  | _, x => x
def am_inv (ls : List Value) : Nat → List Value
  | 0 => ls
  | i + 1 => match ls[i]? with
    | some v => if v.category = 2 then ls.set i am_junk else ls
    | none => ls
def am_set1 (ls : List Value) (i : Nat) (v : Value) : Option (List Value) := if i < ls.length then some ((am_inv ls i).set i v) else none
def am_set2 (ls : List Value) (i : Nat) (v : Value) : Option (List Value) := if i + 1 < ls.length then some (((am_inv ls i).set i v).set (i + 1) am_junk) else none
def am_sh (M : am_M) (p : Nat) : Nat × Nat := M.2.2.2.1 p
def am_nx (M : am_M) : Nat := M.2.2.2.2.1
def am_us (M : am_M) : Nat := M.2.2.2.2.2
def am_new (M : am_M) (tag n : Nat) (cost : Nat) : am_M := (M.1, M.2.1, M.2.2.1, (fun p => if p = M.2.2.2.2.1 then (tag, n) else M.2.2.2.1 p), M.2.2.2.2.1 + 1, M.2.2.2.2.2 + cost)
def am_look : List (Int × Int) → List Nat → Nat → Int → Nat
  | (a, _) :: ps, t :: ts, d, x => if x = a then t else am_look ps ts d x
  | _, _, d, _ => d
def am_bad (M : am_M) (p : Nat) (i : Int32) : Bool := decide (i < 0) || decide ((am_sh M p).2 ≤ i.toNatClampNeg)
def am_ld (M : am_M) (tag : Nat) (p : Nat) (i : Int32) (v : Value) (ls st : List Value) (pc : Nat) : Option (Nat × List Value × List Value × am_M) :=
  if (am_sh M p).1 = tag then (if am_bad M p i then none else some (pc + 1, ls, v :: st, M)) else none
def am_sv (M : am_M) (tag : Nat) (p : Nat) (i : Int32) (v : Value) (ls st : List Value) (pc : Nat) : Option (Nat × List Value × List Value × am_M) :=
  if (am_sh M p).1 = tag ∧ am_R0 ≤ p then (if am_bad M p i then none else some (pc + 1, ls, st, am_wr M p i.toNatClampNeg v)) else none
abbrev am_R : Type := Option (Nat × List Value × List Value × am_M)
def am_cond : Jvm.ClassFile.Cond → Int32 → Int32 → Bool
  | .eq, x, y => decide (x = y)
  | .ne, x, y => !decide (x = y)
  | .lt, x, y => decide (x < y)
  | .ge, x, y => decide (y ≤ x)
  | .gt, x, y => decide (y < x)
  | .le, x, y => decide (x ≤ y)
def am_ldL (ls st : List Value) (i pc : Nat) (M : am_M) (k : Nat) : am_R :=
  match ls[i]?, k with
  | some (.int x), 0 => some (pc + 1, ls, .int x :: st, M)
  | some (.long x), 1 => some (pc + 1, ls, .long x :: st, M)
  | some (.ref x), 2 => some (pc + 1, ls, .ref x :: st, M)
  | some .null, 2 => some (pc + 1, ls, .null :: st, M)
  | _, _ => none
def am_stL (ls st : List Value) (i pc : Nat) (M : am_M) (k : Nat) : am_R :=
  match st, k with
  | .int x :: st, 0 => (am_set1 ls i (.int x)).map fun ls' => (pc + 1, ls', st, M)
  | .long x :: st, 1 => (am_set2 ls i (.long x)).map fun ls' => (pc + 1, ls', st, M)
  | .ref x :: st, 2 => (am_set1 ls i (.ref x)).map fun ls' => (pc + 1, ls', st, M)
  | .null :: st, 2 => (am_set1 ls i .null).map fun ls' => (pc + 1, ls', st, M)
  | _, _ => none
def am_step (ins : Instr) (aux : List Nat) (i : Nat) (ls st : List Value) (M : am_M) : am_R :=
  match ins, aux, st with
  | .iconst n, _, st => some (i + 1, ls, .int (Int32.ofInt n) :: st, M)
  | .bipush n, _, st => some (i + 1, ls, .int (Int8.ofInt n).toInt32 :: st, M)
  | .sipush n, _, st => some (i + 1, ls, .int (Int16.ofInt n).toInt32 :: st, M)
  | .lconst n, _, st => some (i + 1, ls, .long (Int64.ofNat (n : Nat)) :: st, M)
  | .aconst_null, _, st => some (i + 1, ls, .null :: st, M)
  | .ldc _, [0, c, _], st => some (i + 1, ls, .int (Int32.ofNat c) :: st, M)
  | .ldc _, [1, p], st => some (i + 1, ls, .ref p :: st, M)
  | .ldc_w _, [c, _], st => some (i + 1, ls, .int (Int32.ofNat c) :: st, M)
  | .ldc2_w _, [c, _], st => some (i + 1, ls, .long (Int64.ofNat c) :: st, M)
  | .iload_n k, _, st => am_ldL ls st k i M 0
  | .iload k, _, st => am_ldL ls st k i M 0
  | .lload_n k, _, st => am_ldL ls st k i M 1
  | .lload k, _, st => am_ldL ls st k i M 1
  | .aload_n k, _, st => am_ldL ls st k i M 2
  | .aload k, _, st => am_ldL ls st k i M 2
  | .istore_n k, _, st => am_stL ls st k i M 0
  | .istore k, _, st => am_stL ls st k i M 0
  | .lstore_n k, _, st => am_stL ls st k i M 1
  | .lstore k, _, st => am_stL ls st k i M 1
  | .astore_n k, _, st => am_stL ls st k i M 2
  | .astore k, _, st => am_stL ls st k i M 2
  | .iinc k n, _, st => match ls[k]? with
    | some (.int x) => (am_set1 ls k (.int (x + Int32.ofInt n))).map fun ls' => (i + 1, ls', st, M)
    | _ => none
  | .iadd, _, .int y :: .int x :: st => some (i + 1, ls, .int (x + y) :: st, M)
  | .isub, _, .int y :: .int x :: st => some (i + 1, ls, .int (x - y) :: st, M)
  | .imul, _, .int y :: .int x :: st => some (i + 1, ls, .int (x * y) :: st, M)
  | .iand, _, .int y :: .int x :: st => some (i + 1, ls, .int (x &&& y) :: st, M)
  | .ior, _, .int y :: .int x :: st => some (i + 1, ls, .int (x ||| y) :: st, M)
  | .ixor, _, .int y :: .int x :: st => some (i + 1, ls, .int (x ^^^ y) :: st, M)
  | .idiv, _, .int y :: .int x :: st => if y = 0 then none else some (i + 1, ls, .int (x / y) :: st, M)
  | .irem, _, .int y :: .int x :: st => if y = 0 then none else some (i + 1, ls, .int (x - x / y * y) :: st, M)
  | .ineg, _, .int x :: st => some (i + 1, ls, .int (-x) :: st, M)
  | .ishl, _, .int y :: .int x :: st => some (i + 1, ls, .int (x <<< (y &&& 31)) :: st, M)
  | .ishr, _, .int y :: .int x :: st => some (i + 1, ls, .int (x >>> (y &&& 31)) :: st, M)
  | .iushr, _, .int y :: .int x :: st => some (i + 1, ls, .int (x.toUInt32 >>> (y.toUInt32 &&& Int32.toUInt32 31)).toInt32 :: st, M)
  | .ladd, _, .long y :: .long x :: st => some (i + 1, ls, .long (x + y) :: st, M)
  | .lsub, _, .long y :: .long x :: st => some (i + 1, ls, .long (x - y) :: st, M)
  | .land, _, .long y :: .long x :: st => some (i + 1, ls, .long (x &&& y) :: st, M)
  | .lor, _, .long y :: .long x :: st => some (i + 1, ls, .long (x ||| y) :: st, M)
  | .lxor, _, .long y :: .long x :: st => some (i + 1, ls, .long (x ^^^ y) :: st, M)
  | .lshl, _, .int y :: .long x :: st => some (i + 1, ls, .long (x <<< (y.toInt64 &&& 63)) :: st, M)
  | .lshr, _, .int y :: .long x :: st => some (i + 1, ls, .long (x >>> (y.toInt64 &&& 63)) :: st, M)
  | .lcmp, _, .long y :: .long x :: st => some (i + 1, ls, .int (lg_cmp x y) :: st, M)
  | .i2l, _, .int x :: st => some (i + 1, ls, .long x.toInt64 :: st, M)
  | .l2i, _, .long x :: st => some (i + 1, ls, .int x.toInt32 :: st, M)
  | .i2b, _, .int x :: st => some (i + 1, ls, .int x.toInt8.toInt32 :: st, M)
  | .i2s, _, .int x :: st => some (i + 1, ls, .int x.toInt16.toInt32 :: st, M)
  | .dup, _, v :: st => if v.category = 1 then some (i + 1, ls, v :: v :: st, M) else none
  | .pop, _, v :: st => if v.category = 1 then some (i + 1, ls, st, M) else none
  | .dup2, _, v :: w :: st => if v.category = 1 ∧ w.category = 1 then some (i + 1, ls, v :: w :: v :: w :: st, M) else none
  | .goto _, [t], st => some (t, ls, st, M)
  | .ifCond c _, [t], .int x :: st => some (if am_cond c x 0 then t else i + 1, ls, st, M)
  | .if_icmp c _, [t], .int y :: .int x :: st => some (if am_cond c x y then t else i + 1, ls, st, M)
  | .ifnull _, [_], .ref _ :: st => some (i + 1, ls, st, M)
  | .ifnull _, [t], .null :: st => some (t, ls, st, M)
  | .ifnonnull _, [t], .ref _ :: st => some (t, ls, st, M)
  | .ifnonnull _, [_], .null :: st => some (i + 1, ls, st, M)
  | .tableswitch _ lo hi _, _ :: t :: ts, .int x :: st => some (if x.toInt < lo ∨ hi < x.toInt then t else ts.getD (x.toInt - lo).toNat 0, ls, st, M)
  | .lookupswitch _ ps, _ :: t :: ts, .int x :: st => some (am_look ps.toList ts t x.toInt, ls, st, M)
  | .getfield _, [ci, k, _], .ref p :: st => if (am_sh M p).1 = ci then some (i + 1, ls, am_rd (fun q => q) M p k (am_fty ci k) :: st, M) else none
  | .putfield _, [ci, k, _], v :: .ref p :: st => if (am_sh M p).1 = ci ∧ am_okv (am_fty ci k) v = true then some (i + 1, ls, st, am_wr M p k v) else none
  | .getstatic _, [p, _], st => some (i + 1, ls, .ref p :: st, M)
  | .iaload, _, .int j :: .ref p :: st => am_ld M 100 p j (.int (M.1 p j.toNatClampNeg)) ls st i
  | .laload, _, .int j :: .ref p :: st => am_ld M 101 p j (.long (M.2.1 p j.toNatClampNeg)) ls st i
  | .baload, [t], .int j :: .ref p :: st => am_ld M t p j (.int (M.1 p j.toNatClampNeg)) ls st i
  | .aaload, [t], .int j :: .ref p :: st => am_ld M t p j (va_rf (M.2.2.1 p j.toNatClampNeg)) ls st i
  | .iastore, _, .int x :: .int j :: .ref p :: st => am_sv M 100 p j (.int x) ls st i
  | .lastore, _, .long x :: .int j :: .ref p :: st => am_sv M 101 p j (.long x) ls st i
  | .bastore, [t], .int x :: .int j :: .ref p :: st => am_sv M t p j (.int (am_nar t x)) ls st i
  | .aastore, [t, ci], .ref v :: .int j :: .ref p :: st => if (am_sh M v).1 = ci then am_sv M t p j (.ref v) ls st i else none
  | .arraylength, _, .ref p :: st => if 100 ≤ (am_sh M p).1 ∧ (am_sh M p).1 ≤ 106 then some (i + 1, ls, .int (Int32.ofNat (am_sh M p).2) :: st, M) else none
  | .newarray _, [t, _], .int n :: st => if n < 0 ∨ 65536 < n.toNatClampNeg then none else some (i + 1, ls, .ref (am_nx M) :: st, am_new M (100 + t) n.toNatClampNeg n.toNatClampNeg)
  | .anewarray _, [t, _, _], .int n :: st => if n < 0 ∨ 65536 < n.toNatClampNeg then none else some (i + 1, ls, .ref (am_nx M) :: st, am_new M (100 + t) n.toNatClampNeg n.toNatClampNeg)
  | .new _, [ci, _, _, _], st => some (i + 1, ls, .ref (am_nx M) :: st, am_new M ci (am_fnum ci) (am_fnum ci))
  | _, _, _ => none
def am_lay : List Value → List Value
  | [] => []
  | v :: vs => if v.category = 2 then v :: am_junk :: am_lay vs else v :: am_lay vs
def am_entry (as : List Value) (n : Nat) : List Value := am_lay as ++ List.replicate (n - (am_lay as).length) am_junk
def am_ret : Instr → List Nat → List Value → Option (Option Value)
  | .return_, _, [] => some none
  | .ireturn, [0], [.int x] => some (some (.int x))
  | .ireturn, [1], [.int x] => if x = 0 ∨ x = 1 then some (some (.int x)) else none
  | .lreturn, _, [.long x] => some (some (.long x))
  | .areturn, _, [.ref p] => some (some (.ref p))
  | .areturn, _, [.null] => some (some .null)
  | _, _, _ => none
def am_isRet : Instr → Bool
  | .return_ | .ireturn | .lreturn | .areturn => true
  | _ => false
def am_isInv : Instr → Bool
  | .invokevirtual _ | .invokespecial _ | .invokestatic _ => true
  | _ => false
/-- what has no table of its own: Object's maker, the copy of rows, length and letters of the fixed texts -/
def am_prim (aux : List Nat) (i : Nat) (ls st : List Value) (M : am_M) : am_R :=
  match aux, st with
  | 4 :: _, .ref _ :: st => if (st.map fun v => v.category).sum ≤ 8 then some (i + 1, ls, st, M) else none
  | 5 :: t :: _, .int n :: .int dp :: .ref q :: .int sp :: .ref p :: st =>
    if (am_sh M p).1 = t ∧ (am_sh M q).1 = t ∧ am_R0 ≤ p ∧ am_R0 ≤ q ∧ ¬ sp < 0 ∧ ¬ dp < 0 ∧ ¬ n < 0 ∧ sp.toNatClampNeg + n.toNatClampNeg ≤ (am_sh M p).2 ∧ dp.toNatClampNeg + n.toNatClampNeg ≤ (am_sh M q).2 ∧ (st.map fun v => v.category).sum ≤ 8 then
      (match t with
      | 100 => some (i + 1, ls, st, ((fun a j => if a = q then va_cpy (M.1 p) (M.1 q) sp.toNatClampNeg dp.toNatClampNeg n.toNatClampNeg j else M.1 a j), M.2))
      | 101 => some (i + 1, ls, st, (M.1, (fun a j => if a = q then va_cpy (M.2.1 p) (M.2.1 q) sp.toNatClampNeg dp.toNatClampNeg n.toNatClampNeg j else M.2.1 a j), M.2.2))
      | _ => none)
    else none
  | 6 :: _, .int k :: .ref p :: st => if (am_sh M p).1 = 200 ∧ (st.map fun v => v.category).sum ≤ 8 then (if am_bad M p k then none else some (i + 1, ls, .int (M.1 p k.toNatClampNeg) :: st, M)) else none
  | 7 :: _, .ref p :: st => if (am_sh M p).1 = 200 ∧ (st.map fun v => v.category).sum ≤ 8 then some (i + 1, ls, .int (Int32.ofNat (am_sh M p).2) :: st, M) else none
  | _, _ => none
/-- a call of a method that has a table: its number, the arguments from the first on, what stays below -/
def am_call (aux : List Nat) (st : List Value) (M : am_M) : Option (Nat × List Value × List Value) :=
  match aux with
  | 1 :: mi :: n :: _ => if n ≤ st.length ∧ ((st.drop n).map fun v => v.category).sum ≤ 8 then some (mi, (st.take n).reverse, st.drop n) else none
  | kd :: mi :: n :: ci :: _ => if kd < 4 then (match st.drop n with
    | .ref p :: rest => if n ≤ st.length ∧ (am_sh M p).1 = ci ∧ (rest.map fun v => v.category).sum ≤ 8 then some (mi, .ref p :: (st.take n).reverse, rest) else none
    | _ => none) else none
  | _ => none
def am_run (P : Nat → Option am_I) : Nat → Nat → List am_A → Nat → List Value → List Value → am_M → Option (Option Value × am_M)
  | 0, _, _, _, _, _, _ => none
  | n + 1, d, co, i, ls, st, M =>
    match co[i]? with
    | none => none
    | some (_, ins, aux) =>
      if am_isRet ins then (am_ret ins aux st).map fun v => (v, M)
      else if am_isInv ins then
        (match am_call aux st M with
        | some (mi, as, rest) =>
          (match d, P mi with
          | d' + 1, some inf =>
            if (am_lay as).length ≤ inf.2.2.1 then
              (match am_run P n d' inf.2.2.2.2.2 0 (am_entry as inf.2.2.1) [] M with
              | some (v, M1) => am_run P n (d' + 1) co (i + 1) ls (v.toList ++ rest) M1
              | none => none)
            else none
          | _, _ => none)
        | none =>
          (match d, am_prim aux i ls st M with
          | d' + 7, some (i', ls', st', M') => am_run P n (d' + 7) co i' ls' st' M'
          | _, _ => none))
      else
        (match am_step ins aux i ls st M with
        | some (i', ls', st', M') => am_run P n d co i' ls' st' M'
        | none => none)
end
section
/-! the rows and texts that stand from the start on: places 0 .. 3 the class's rows, 4 .. 7 its texts, 8 the script -/
def am_stN : Nat → String
  | 0 => "LEAST_SET" | 1 => "MOST_SET" | 2 => "BODIES" | _ => "ABOVE"
def am_stx : Nat → Nat
  | 4 => 39 | 5 => 49 | 6 => 51 | _ => 56
def am_stt : Nat → String
  | 4 => "dear " | 5 => "cheap " | 6 => "gain " | _ => "top "
def am_roL : Nat → List Int32
  | 0 => [0, 1, 0, 1, 0]
  | 1 => [9, 10, 23, 24, 9999]
  | 2 => [10, 11, 12, 10, 20, 12, 30, 11, 12, 10, 11, 40, 50, 51, 12, 30, 11, 60, 71, 70, 40]
  | 3 => [0, 0, 0, 0, 1, 2, 3]
  | 4 => [100, 101, 97, 114, 32]
  | 5 => [99, 104, 101, 97, 112, 32]
  | 6 => [103, 97, 105, 110, 32]
  | _ => [116, 111, 112, 32]
def am_roS (L : Nat) (p : Nat) : Nat × Nat := if p < 4 then (100, (am_roL p).length) else if p < 8 then (200, (am_roL p).length) else (100, L)
def am_roI (xs : Nat → Int32) (p k : Nat) : Int32 := if p < 8 then (am_roL p).getD k 0 else xs k
/-! what the tables must say of an instruction -/
def am_pc (co : List am_A) (i : Nat) : Option Nat := (co[i]?).map fun q => q.1
def am_tgt (co : List am_A) (pc : Nat) (off : Int) (t : Nat) : Bool := match co[t]? with
  | some (q, _, _) => decide ((pc : Int) + off = (q : Int))
  | none => false
def am_len (ins : Instr) (aux : List Nat) : Nat := match ins with
  | .bipush _ | .ldc _ | .iload _ | .lload _ | .aload _ | .istore _ | .lstore _ | .astore _ | .newarray _ => 2
  | .sipush _ | .ldc_w _ | .ldc2_w _ | .iinc _ _ | .goto _ | .ifCond _ _ | .if_icmp _ _ | .ifnull _ | .ifnonnull _ | .getfield _ | .putfield _ | .getstatic _ | .invokevirtual _ | .invokespecial _ | .invokestatic _ | .new _ | .anewarray _ => 3
  | .tableswitch _ _ _ _ | .lookupswitch _ _ => aux.headD 0
  | _ => 1
def am_falls : Instr → Bool
  | .goto _ | .tableswitch _ _ _ _ | .lookupswitch _ _ | .return_ | .ireturn | .lreturn | .areturn => false
  | _ => true
def am_w (w : Nat) (c : Cond) : Bool := decide (lw_tbl[w]? = some c)
def am_chkN (inf : am_I) (n : Nat) : Bool := decide ((parseMethodDescriptor inf.1.desc).map (fun d => d.parameters.length) = some n) && decide (inf.1.cls ≠ "java/lang/invoke/MethodHandle") && decide (inf.1.cls ≠ "java/lang/invoke/VarHandle") && decide (inf.2.2.1 ≤ 41)
def am_chkC (P : Nat → Option am_I) (own : String) (ins : Instr) (aux : List Nat) : Bool :=
  match ins, aux with
  | .invokevirtual x, [0, mi, n, ci, w1, w2, w3, w4, w5] => match P mi with
    | some inf => decide (ci < 8) && decide (inf.1.cls = am_cn ci) && am_w w1 (.methodLink own x inf.1) && am_w w2 (.code inf.1 inf.2.1 inf.2.2.1 inf.2.2.2.1) && am_w w3 (.instanceMethod inf.1) && am_w w4 (.selects (am_cn ci) inf.1 inf.1) && am_w w5 (.initialized inf.1.cls) && am_chkN inf n
    | none => false
  | .invokestatic x, [1, mi, n, w1, w2, w3, w4] => match P mi with
    | some inf => am_w w1 (.methodLink own x inf.1) && am_w w2 (.code inf.1 inf.2.1 inf.2.2.1 inf.2.2.2.1) && am_w w3 (.static inf.1) && am_w w4 (.initialized inf.1.cls) && am_chkN inf n
    | none => false
  | .invokespecial x, [2, mi, n, _, w1, w2, w3, w4] => match P mi with
    | some inf => decide (inf.1.name = "<init>") && decide (inf.2.2.2.1 = none) && am_w w1 (.methodLink own x inf.1) && am_w w2 (.code inf.1 inf.2.1 inf.2.2.1 none) && am_w w3 (.instanceMethod inf.1) && am_w w4 (.initialized inf.1.cls) && am_chkN inf n
    | none => false
  | .invokespecial x, [3, mi, n, _, w1, w2, w3, w4] => match P mi with
    | some inf => decide (inf.1.name = "<init>") && decide (inf.2.2.2.1 = none) && am_w w1 (.methodLinkNest own x inf.1 "AirByYard") && am_w w2 (.code inf.1 inf.2.1 inf.2.2.1 none) && am_w w3 (.instanceMethod inf.1) && am_w w4 (.initialized inf.1.cls) && am_chkN inf n
    | none => false
  | .invokespecial x, [4, w1, w2, w3] => am_w w1 (.methodLink own x objectInit) && am_w w2 (.instanceMethod objectInit) && am_w w3 (.code objectInit ⟨#[0xb1]⟩ 1 none)
  | .invokestatic x, [5, _, w1, w2, w3, w4] => am_w w1 (.methodLink own x arraycopyName) && am_w w2 (.native arraycopyName) && am_w w3 (.static arraycopyName) && am_w w4 (.initialized "java/lang/System")
  | .invokevirtual x, [6, w1, w2, w3, w4, w5] => am_w w1 (.methodLink own x yJ0_charAt_5068e) && am_w w2 (.code yJ0_charAt_5068e cJ0_charAt_5068e 2 (some .char)) && am_w w3 (.instanceMethod yJ0_charAt_5068e) && am_w w4 (.selects RJ0 yJ0_charAt_5068e yJ0_charAt_5068e) && am_w w5 (.initialized RJ0)
  | .invokevirtual x, [7, w1, w2, w3, w4, w5] => am_w w1 (.methodLink own x yJ0_length_8abf5) && am_w w2 (.code yJ0_length_8abf5 cJ0_length_8abf5 1 (some .int)) && am_w w3 (.instanceMethod yJ0_length_8abf5) && am_w w4 (.selects RJ0 yJ0_length_8abf5 yJ0_length_8abf5) && am_w w5 (.initialized RJ0)
  | _, _ => false
def am_zipT (co : List am_A) (pc : Nat) : List Int → List Nat → Bool
  | [], [] => true
  | o :: os, t :: ts => am_tgt co pc o t && am_zipT co pc os ts
  | _, _ => false
def am_chkI (own nm : String) (ret : Option FieldType) (co : List am_A) (pc : Nat) (ins : Instr) (aux : List Nat) : Bool :=
  match ins, aux with
  | .ldc x, [0, c, w] => am_w w (.constant own x (Int32.ofNat c))
  | .ldc x, [1, p] => decide (own = RX2) && decide (4 ≤ p) && decide (p < 8) && decide (x = am_stx p)
  | .ldc_w x, [c, w] => am_w w (.constant own x (Int32.ofNat c))
  | .ldc2_w x, [c, w] => am_w w (.constantLong own x (Int64.ofNat c))
  | .goto o, [t] => am_tgt co pc o t
  | .ifCond _ o, [t] => am_tgt co pc o t
  | .if_icmp _ o, [t] => am_tgt co pc o t
  | .ifnull o, [t] => am_tgt co pc o t
  | .ifnonnull o, [t] => am_tgt co pc o t
  | .tableswitch d lo hi os, _ :: t :: ts => am_tgt co pc d t && am_zipT co pc os.toList ts && decide (hi - lo + 1 = (ts.length : Int))
  | .lookupswitch d ps, _ :: t :: ts => am_tgt co pc d t && am_zipT co pc (ps.toList.map fun q => q.2) ts && (ps.toList.zip (ps.toList.drop 1)).all (fun (a, next) => a.1 < next.1)
  | .getfield x, [ci, k, w] => decide (ci < 8) && decide (k < am_fnum ci) && am_w w (.fieldLink own x (am_fT ci k).1 (am_fT ci k).2.1 (am_fT ci k).2.2.1)
  | .putfield x, [ci, k, w] => decide (ci < 8) && decide (k < am_fnum ci) && am_w w (.fieldLink own x (am_fT ci k).1 (am_fT ci k).2.1 (am_fT ci k).2.2.1) && (decide ((am_fT ci k).2.2.2 = false) || (decide ((am_fT ci k).2.2.2 = true) && decide (nm = "<init>") && decide ((am_fT ci k).1 = own)))
  | .getstatic x, [p, w] => decide (p < 4) && am_w w (.fieldLink own x "AirByYard" (am_stN p) "[I")
  | .baload, [t] => decide (t = 102 ∨ t = 103)
  | .bastore, [t] => decide (t = 102 ∨ t = 103)
  | .aaload, [t] => decide (104 ≤ t ∧ t ≤ 106)
  | .aastore, [t, ci] => decide ((t = 104 ∧ ci = 1) ∨ (t = 105 ∧ ci = 5) ∨ (t = 106 ∧ ci = 0))
  | .newarray a, [t, w] => decide (t ≤ 3) && decide (newarray.typeOf a = am_tys t) && am_w w (.arrayClass (newarray.typeOf a))
  | .anewarray x, [t, w, w2] => decide (4 ≤ t ∧ t ≤ 6) && (match am_tys t with
    | .object C => am_w w (.classLink own x C) && am_w w2 (.arrayOver (.object C))
    | _ => false)
  | .new x, [ci, w, w2, w3] => decide (ci < 8) && am_w w (.classLink own x (am_cn ci)) && am_w w2 (.instantiable (am_cn ci) (am_fnum ci)) && am_w w3 (.initialized (am_cn ci))
  | .ireturn, [0] => decide (ret = some .int)
  | .ireturn, [1] => decide (ret = some .boolean)
  | .lreturn, _ => decide (ret = some .long)
  | .areturn, _ => (match ret with
    | some (.object _) => true
    | _ => false)
  | .return_, _ => decide (ret = none)
  | .ldc _, _ | .ldc_w _, _ | .ldc2_w _, _ | .goto _, _ | .ifCond _ _, _ | .if_icmp _ _, _ | .ifnull _, _ | .ifnonnull _, _ | .tableswitch _ _ _ _, _ | .lookupswitch _ _, _ | .getfield _, _ | .putfield _, _ | .getstatic _, _ | .baload, _ | .bastore, _ | .aaload, _ | .aastore, _ | .newarray _, _ | .anewarray _, _ | .new _, _ | .ireturn, _ => false
  | _, _ => true
def am_chk (P : Nat → Option am_I) (inf : am_I) (i : Nat) : Bool :=
  match inf.2.2.2.2.2[i]? with
  | none => false
  | some (pc, ins, aux) => decide (decode inf.2.1 pc = .ok (ins, am_len ins aux)) && (!am_falls ins || decide (am_pc inf.2.2.2.2.2 (i + 1) = some (pc + am_len ins aux))) &&
    (if am_isInv ins then am_chkC P inf.2.2.2.2.1 ins aux else am_chkI inf.2.2.2.2.1 inf.1.name inf.2.2.2.1 inf.2.2.2.2.2 pc ins aux)
def am_okM (P : Nat → Option am_I) (inf : am_I) : Prop := plainName inf.1.cls = true ∧ inf.1.cls = inf.2.2.2.2.1 ∧ am_pc inf.2.2.2.2.2 0 = some 0 ∧ ∀ i, i < inf.2.2.2.2.2.length → am_chk P inf i = true
/-! the world: where a place lies in the heap, what the heap holds there -/
def am_ad (s0 : State) (ro : Nat → Nat) (p : Nat) : Nat := if p < am_R0 then ro p else s0.heap.size + (p - am_R0)
def am_cv (ad : Nat → Nat) : Value → Value
  | .ref p => .ref (ad p)
  | v => v
def am_cell (D : va_G) (ct : Nat → ClassId) (ad : Nat → Nat) (M : am_M) (p : Nat) (H : Heap) : Prop :=
  ((am_sh M p).1 < 8 ∧ t_OB (ad p) (D.1 (am_sh M p).1) (am_fnum (am_sh M p).1) (D.2 (am_sh M p).1) H (fun k => am_rd ad M p k (am_fty (am_sh M p).1 k))) ∨
  (100 ≤ (am_sh M p).1 ∧ (am_sh M p).1 ≤ 106 ∧ H[ad p]? = some (arrV (ct ((am_sh M p).1 - 100)) (am_sh M p).2 (fun j => am_rd ad M p j (am_tys ((am_sh M p).1 - 100)))))
def am_G (D : va_G) (ct : Nat → ClassId) (ro : Nat → Nat) (s0 : State) (L : Nat) (xs : Nat → Int32) (M : am_M) (H : Heap) : Prop :=
  H.size + am_R0 = s0.heap.size + am_nx M ∧ am_R0 ≤ am_nx M ∧ (∀ q : Nat, q < s0.heap.size → H[q]? = s0.heap[q]?) ∧ (∀ p, am_R0 ≤ p → p < am_nx M → am_cell D ct (am_ad s0 ro) M p H) ∧
  (∀ p, p < am_R0 → am_sh M p = am_roS L p ∧ ∀ k, M.1 p k = am_roI xs p k) ∧ ∀ p, am_nx M ≤ p → am_sh M p = (1000, 0) ∧ ∀ k, M.1 p k = 0 ∧ M.2.1 p k = 0 ∧ M.2.2.1 p k = none
def am_roA (s0 : State) (ro : Nat → Nat) (n : Nat) (f : Nat → Int32) (p : Nat) : Prop := ∃ cell : Cell, s0.heap[ro p]? = some cell ∧ s0.isArrayOf cell .int ∧ cell.vm ≠ .unknown ∧ n ≤ cell.slots.size ∧ cell.slots.size.toInt32 = Int32.ofNat n ∧ ∀ j : Nat, j < n → cell.slots[j]? = some (.int (f j))
def am_rmS : Room := { frames := 5, cells := 0, slots := 0, locals := 300 }
def am_PcS (s0 : State) (av : List Value) : Array Value → State → Prop := fun v U => v = av.toArray ∧ s0.WarmedH U.vm ∧ ∀ q : Nat, q < s0.heap.size → U.heap[q]? = s0.heap[q]?
def am_QcS (r : Int32) : Array Value → State → Outcome → State → Prop := fun _ st o t => o = .returned (some (.int r)) ∧ t.heap = st.heap
def am_Str (s0 : State) (ro : Nat → Nat) : Prop := ∀ (l : Launch) (p : Nat), 4 ≤ p → p < 8 →
  (∃ cell : Cell, s0.heap[ro p]? = some cell ∧ cell.vm.isStatics = false ∧ s0.vm.findClass RJ0 = some cell.cls) ∧
  Met l yJ0_length_8abf5 [Cond.code yJ0_length_8abf5 cJ0_length_8abf5 1 (some .int)] am_rmS (am_PcS s0 [.ref (ro p)]) (am_QcS (Int32.ofNat (am_roL p).length)) 0 0 (fun _ => False) ∧
  ∀ k : Int32, vp_in k (am_roL p).length → Met l yJ0_charAt_5068e [Cond.code yJ0_charAt_5068e cJ0_charAt_5068e 2 (some .char)] am_rmS (am_PcS s0 [.ref (ro p), .int k]) (am_QcS ((am_roL p).getD k.toNatClampNeg 0)) 0 0 (fun _ => False)
def am_C0 (D : va_G) (ct : Nat → ClassId) (ro : Nat → Nat) (b : Nat) (s0 : State) (L : Nat) (xs : Nat → Int32) : Prop :=
  (∀ w ∈ lw_tbl, w.before #[Value.ref b] s0 = true) ∧
  (∀ ci, ci < 8 → u_Kn s0 (am_cn ci) (am_fT ci) (am_fnum ci) (D.1 ci) (D.2 ci)) ∧
  (∀ t, t ≤ 6 → ArrOfT s0 (ct t) (am_tys t) ∧ va_RA s0 (ct t) (am_tys t)) ∧
  (∀ p, p < 4 ∨ p = 8 → am_roA s0 ro (am_roS L p).2 (am_roI xs p) p) ∧
  (∀ p, p < 4 → va_Z "AirByYard" (am_stN p) "[I" (.ref (ro p)) (fun q => s0.heap.size ≤ q) s0 s0.heap) ∧
  (∀ p, 4 ≤ p → p < 8 → vk_R RX2 (am_stx p) (am_stt p) (ro p) s0) ∧ am_Str s0 ro
def am_Pc (D : va_G) (ct : Nat → ClassId) (ro : Nat → Nat) (s0 : State) (L : Nat) (xs : Nat → Int32) (M : am_M) (as : List Value) : Array Value → State → Prop := fun v U => v = (as.map (am_cv (am_ad s0 ro))).toArray ∧ s0.WarmedH U.vm ∧ am_G D ct ro s0 L xs M U.heap
def am_Qc (D : va_G) (ct : Nat → ClassId) (ro : Nat → Nat) (s0 : State) (L : Nat) (xs : Nat → Int32) (M : am_M) (r : Option Value) : Array Value → State → Outcome → State → Prop := fun _ _ o t => o = .returned (r.map (am_cv (am_ad s0 ro))) ∧ am_G D ct ro s0 L xs M t.heap
def am_lr (ad : Nat → Nat) (ls : List Value) (arr : Array Slot) (nL : Nat) : Prop := arr.size = nL ∧ lv_wf arr ∧ ls.length = nL ∧ ∀ (i : Nat) (v : Value), ls[i]? = some v → am_isJ v = false → arr[i]? = some (.val (am_cv ad v))
/-! small facts -/
theorem am_wE {w : Nat} {c : Cond} (h : am_w w c = true) : lw_tbl[w]? = some c := by simpa [am_w] using h
theorem am_word {D : va_G} {ct : Nat → ClassId} {ro : Nat → Nat} {b : Nat} {s0 s : State} {L : Nat} {xs : Nat → Int32} (C : am_C0 D ct ro b s0 L xs) (hW : s0.WarmedH s.vm) {w : Nat} {c : Cond} (h : am_w w c = true) (hg : goodWord c = true) (args : Array Value) : c.before args s = true :=
  word_at hW (good_of_word hg) (C.1 c (List.mem_of_getElem? (am_wE h)))
theorem am_cat (ad : Nat → Nat) (v : Value) : (am_cv ad v).category = v.category := by cases v <;> rfl
theorem am_cats (ad : Nat → Nat) (st : List Value) : ((st.map (am_cv ad)).map fun v => v.category) = st.map fun v => v.category := by
  rw [List.map_map]
  exact List.map_congr_left fun v _ => am_cat ad v
theorem am_rd_cv (ad : Nat → Nat) (M : am_M) (p k : Nat) (ty : FieldType) : am_cv ad (am_rd (fun q => q) M p k ty) = am_rd ad M p k ty := by
  cases ty <;> simp [am_rd, am_cv] <;> cases M.2.2.1 p k <;> rfl
theorem am_rf_cv (ad : Nat → Nat) (r : Option Nat) : am_cv ad (va_rf r) = va_rf (r.map ad) := by cases r <;> rfl
theorem am_up_s {α : Type} (f : Nat → Nat → α) (p k : Nat) (x : α) : am_up f p k x p k = x := by simp [am_up]
theorem am_up_n {α : Type} (f : Nat → Nat → α) {p k q j : Nat} (x : α) (h : ¬ (q = p ∧ j = k)) : am_up f p k x q j = f q j := by simp [am_up, h]
theorem am_wr_sh (M : am_M) (p k : Nat) (v : Value) (q : Nat) : am_sh (am_wr M p k v) q = am_sh M q := by cases v <;> rfl
theorem am_wr_nx (M : am_M) (p k : Nat) (v : Value) : am_nx (am_wr M p k v) = am_nx M := by cases v <;> rfl
theorem am_wr_us (M : am_M) (p k : Nat) (v : Value) : am_us (am_wr M p k v) = am_us M := by cases v <;> rfl
theorem am_wr_1 (M : am_M) (p k : Nat) (v : Value) {q j : Nat} (h : ¬ (q = p ∧ j = k)) : (am_wr M p k v).1 q j = M.1 q j := by cases v <;> simp [am_wr, am_up, h]
theorem am_wr_2 (M : am_M) (p k : Nat) (v : Value) {q j : Nat} (h : ¬ (q = p ∧ j = k)) : (am_wr M p k v).2.1 q j = M.2.1 q j := by cases v <;> simp [am_wr, am_up, h]
theorem am_wr_3 (M : am_M) (p k : Nat) (v : Value) {q j : Nat} (h : ¬ (q = p ∧ j = k)) : (am_wr M p k v).2.2.1 q j = M.2.2.1 q j := by cases v <;> simp [am_wr, am_up, h]
theorem am_rd_wr (ad : Nat → Nat) (M : am_M) (p k : Nat) (v : Value) {q j : Nat} (h : ¬ (q = p ∧ j = k)) (ty : FieldType) : am_rd ad (am_wr M p k v) q j ty = am_rd ad M q j ty := by
  cases ty <;> simp [am_rd, am_wr_1 M p k v h, am_wr_2 M p k v h, am_wr_3 M p k v h]
theorem am_rd_self (ad : Nat → Nat) (M : am_M) (p k : Nat) {v : Value} {ty : FieldType} (h : am_okv ty v = true) : am_rd ad (am_wr M p k v) p k ty = am_cv ad v := by
  cases ty <;> cases v <;> simp_all [am_okv, am_rd, am_wr, am_up, am_cv, va_rf]
theorem am_adI {s0 : State} {ro : Nat → Nat} {p q : Nat} (hp : am_R0 ≤ p) (hq : am_R0 ≤ q) (h : am_ad s0 ro p = am_ad s0 ro q) : p = q := by
  unfold am_ad at h
  rw [if_neg (by omega), if_neg (by omega)] at h
  omega
theorem am_adW {s0 : State} {ro : Nat → Nat} {p : Nat} (hp : am_R0 ≤ p) : am_ad s0 ro p = s0.heap.size + (p - am_R0) := by
  unfold am_ad
  rw [if_neg (by omega)]
theorem am_adR {s0 : State} {ro : Nat → Nat} {p : Nat} (hp : p < am_R0) : am_ad s0 ro p = ro p := by
  unfold am_ad
  rw [if_pos hp]
end
section
def ta_X0_init : List am_A := [(0, .aload_n 0, []), (1, .invokespecial 3, [4, 160, 118, 119]), (4, .aload_n 0, []), (5, .iconst 4, []), (6, .newarray .int, [0, 155]), (8, .putfield 11, [0, 0, 161]), (11, .return_, [])]
def inf_X0_init : am_I := (yX0_init, cX0_init, 1, none, RX0, ta_X0_init)
def ta_X0_begin : List am_A := [(0, .aload_n 0, []), (1, .iload_n 1, []), (2, .putfield 15, [0, 1, 163]), (5, .aload_n 0, []), (6, .iload_n 2, []), (7, .putfield 19, [0, 2, 166]), (10, .aload_n 0, []), (11, .iload_n 3, []), (12, .putfield 22, [0, 3, 169]), (15, .aload_n 0, []), (16, .bipush 100, []), (18, .putfield 25, [0, 8, 182]), (21, .aload_n 0, []), (22, .iconst 0, []), (23, .putfield 28, [0, 9, 184]), (26, .iconst 0, []), (27, .istore 4, []), (29, .iload 4, []), (31, .iconst 4, []), (32, .if_icmp .ge 17, [27]), (35, .aload_n 0, []), (36, .getfield 11, [0, 0, 161]), (39, .iload 4, []), (41, .iconst 0, []), (42, .iastore, []), (43, .iinc 4 1, []), (46, .goto (-17), [17]), (49, .return_, [])]
def inf_X0_begin : am_I := (yX0_begin, cX0_begin, 5, none, RX0, ta_X0_begin)
def ta_X0_become : List am_A := [(0, .aload_n 0, []), (1, .aload_n 1, []), (2, .getfield 15, [0, 1, 163]), (5, .putfield 15, [0, 1, 163]), (8, .aload_n 0, []), (9, .aload_n 1, []), (10, .getfield 19, [0, 2, 166]), (13, .putfield 19, [0, 2, 166]), (16, .aload_n 0, []), (17, .aload_n 1, []), (18, .getfield 22, [0, 3, 169]), (21, .putfield 22, [0, 3, 169]), (24, .aload_n 0, []), (25, .aload_n 1, []), (26, .getfield 32, [0, 4, 173]), (29, .putfield 32, [0, 4, 173]), (32, .aload_n 0, []), (33, .aload_n 1, []), (34, .getfield 35, [0, 5, 176]), (37, .putfield 35, [0, 5, 176]), (40, .aload_n 0, []), (41, .aload_n 1, []), (42, .getfield 38, [0, 6, 178]), (45, .putfield 38, [0, 6, 178]), (48, .aload_n 0, []), (49, .aload_n 1, []), (50, .getfield 41, [0, 7, 181]), (53, .putfield 41, [0, 7, 181]), (56, .aload_n 0, []), (57, .aload_n 1, []), (58, .getfield 25, [0, 8, 182]), (61, .putfield 25, [0, 8, 182]), (64, .aload_n 0, []), (65, .aload_n 1, []), (66, .getfield 28, [0, 9, 184]), (69, .putfield 28, [0, 9, 184]), (72, .aload_n 1, []), (73, .getfield 11, [0, 0, 161]), (76, .iconst 0, []), (77, .aload_n 0, []), (78, .getfield 11, [0, 0, 161]), (81, .iconst 0, []), (82, .iconst 4, []), (83, .invokestatic 44, [5, 100, 663, 665, 664, 111]), (86, .return_, [])]
def inf_X0_become : am_I := (yX0_become, cX0_become, 2, none, RX0, ta_X0_become)
def ta_X0_change : List am_A := [(0, .iload_n 1, []), (1, .tableswitch 79 0 3 #[31, 43, 55, 67], [31, 34, 2, 10, 18, 26]), (32, .aload_n 0, []), (33, .getfield 32, [0, 4, 173]), (36, .istore_n 3, []), (37, .aload_n 0, []), (38, .iload_n 2, []), (39, .putfield 32, [0, 4, 173]), (42, .iload_n 3, []), (43, .ireturn, [0]), (44, .aload_n 0, []), (45, .getfield 35, [0, 5, 176]), (48, .istore_n 3, []), (49, .aload_n 0, []), (50, .iload_n 2, []), (51, .putfield 35, [0, 5, 176]), (54, .iload_n 3, []), (55, .ireturn, [0]), (56, .aload_n 0, []), (57, .getfield 38, [0, 6, 178]), (60, .istore_n 3, []), (61, .aload_n 0, []), (62, .iload_n 2, []), (63, .putfield 38, [0, 6, 178]), (66, .iload_n 3, []), (67, .ireturn, [0]), (68, .aload_n 0, []), (69, .getfield 41, [0, 7, 181]), (72, .istore_n 3, []), (73, .aload_n 0, []), (74, .iload_n 2, []), (75, .putfield 41, [0, 7, 181]), (78, .iload_n 3, []), (79, .ireturn, [0]), (80, .aload_n 0, []), (81, .getfield 25, [0, 8, 182]), (84, .istore_n 3, []), (85, .aload_n 0, []), (86, .iload_n 2, []), (87, .putfield 25, [0, 8, 182]), (90, .iload_n 3, []), (91, .ireturn, [0])]
def inf_X0_change : am_I := (yX0_change, cX0_change, 4, (some .int), RX0, ta_X0_change)
def ta_X0_bottom : List am_A := [(0, .aload_n 0, []), (1, .getfield 19, [0, 2, 166]), (4, .iconst 2, []), (5, .if_icmp .eq 11, [8]), (8, .aload_n 0, []), (9, .getfield 19, [0, 2, 166]), (12, .iconst 5, []), (13, .if_icmp .ne 12, [13]), (16, .aload_n 0, []), (17, .getfield 32, [0, 4, 173]), (20, .iconst 2, []), (21, .iadd, []), (22, .goto 7, [15]), (25, .aload_n 0, []), (26, .getfield 32, [0, 4, 173]), (29, .ireturn, [0])]
def inf_X0_bottom : am_I := (yX0_bottom, cX0_bottom, 1, (some .int), RX0, ta_X0_bottom)
def ta_X0_begins : List am_A := [(0, .iconst 0, []), (1, .istore_n 2, []), (2, .aload_n 0, []), (3, .getfield 19, [0, 2, 166]), (6, .iconst 3, []), (7, .if_icmp .eq 12, [10]), (10, .aload_n 0, []), (11, .getfield 19, [0, 2, 166]), (14, .bipush 6, []), (16, .if_icmp .ne 9, [14]), (19, .iload_n 1, []), (20, .iconst 2, []), (21, .invokestatic 50, [1, 218, 2, 387, 389, 388, 105]), (24, .istore_n 2, []), (25, .aload_n 0, []), (26, .getfield 19, [0, 2, 166]), (29, .bipush 6, []), (31, .if_icmp .ne 16, [27]), (34, .iload_n 2, []), (35, .aload_n 0, []), (36, .getfield 11, [0, 0, 161]), (39, .iload_n 1, []), (40, .iconst 4, []), (41, .invokestatic 50, [1, 218, 2, 387, 389, 388, 105]), (44, .iaload, []), (45, .iadd, []), (46, .istore_n 2, []), (47, .aload_n 0, []), (48, .getfield 19, [0, 2, 166]), (51, .iconst 5, []), (52, .if_icmp .ne 9, [35]), (55, .iload_n 1, []), (56, .iconst 3, []), (57, .invokestatic 50, [1, 218, 2, 387, 389, 388, 105]), (60, .istore_n 2, []), (61, .aload_n 0, []), (62, .getfield 38, [0, 6, 178]), (65, .iload_n 2, []), (66, .iadd, []), (67, .bipush 24, []), (69, .invokestatic 50, [1, 218, 2, 387, 389, 388, 105]), (72, .ireturn, [0])]
def inf_X0_begins : am_I := (yX0_begins, cX0_begins, 3, (some .int), RX0, ta_X0_begins)
def ta_X0_heights : List am_A := [(0, .aload_n 0, []), (1, .getfield 28, [0, 9, 184]), (4, .ifCond .eq 5, [5]), (7, .iconst 0, []), (8, .ireturn, [0]), (9, .aload_n 0, []), (10, .getfield 19, [0, 2, 166]), (13, .iconst 4, []), (14, .if_icmp .ne 8, [11]), (17, .bipush 10, []), (19, .goto 7, [13]), (22, .aload_n 0, []), (23, .getfield 35, [0, 5, 176]), (26, .istore_n 2, []), (27, .iconst 1, []), (28, .iload_n 1, []), (29, .ishl, []), (30, .iconst 1, []), (31, .isub, []), (32, .istore_n 3, []), (33, .iconst 1, []), (34, .iload_n 2, []), (35, .ishl, []), (36, .iconst 1, []), (37, .isub, []), (38, .aload_n 0, []), (39, .invokevirtual 56, [0, 4, 0, 0, 412, 382, 380, 381, 100]), (42, .ishl, []), (43, .iload_n 3, []), (44, .iand, []), (45, .ireturn, [0])]
def inf_X0_heights : am_I := (yX0_heights, cX0_heights, 4, (some .int), RX0, ta_X0_heights)
def ta_X0_span : List am_A := [(0, .lconst 1, []), (1, .aload_n 0, []), (2, .getfield 41, [0, 7, 181]), (5, .lshl, []), (6, .lconst 1, []), (7, .lsub, []), (8, .aload_n 0, []), (9, .iload_n 1, []), (10, .invokevirtual 60, [0, 5, 1, 0, 596, 386, 384, 385, 100]), (13, .lshl, []), (14, .lstore_n 2, []), (15, .lload_n 2, []), (16, .lload_n 2, []), (17, .bipush 24, []), (19, .lshr, []), (20, .lor, []), (21, .l2i, []), (22, .ldc 64, [0, 16777215, 597]), (24, .iand, []), (25, .ireturn, [0])]
def inf_X0_span : am_I := (yX0_span, cX0_span, 4, (some .int), RX0, ta_X0_span)
def ta_X0_holds : List am_A := [(0, .aload_n 0, []), (1, .iload_n 3, []), (2, .invokevirtual 65, [0, 6, 1, 0, 408, 411, 409, 410, 100]), (5, .iload_n 1, []), (6, .ishr, []), (7, .iconst 1, []), (8, .iand, []), (9, .ifCond .eq 20, [18]), (12, .aload_n 0, []), (13, .iload 4, []), (15, .invokevirtual 68, [0, 7, 1, 0, 623, 595, 593, 594, 100]), (18, .iload_n 2, []), (19, .ishr, []), (20, .iconst 1, []), (21, .iand, []), (22, .ifCond .eq 7, [18]), (25, .iconst 1, []), (26, .goto 4, [19]), (29, .iconst 0, []), (30, .ireturn, [1])]
def inf_X0_holds : am_I := (yX0_holds, cX0_holds, 5, (some .boolean), RX0, ta_X0_holds)
def ta_X0_strips : List am_A := [(0, .aload_n 0, []), (1, .iload_n 1, []), (2, .invokevirtual 65, [0, 6, 1, 0, 408, 411, 409, 410, 100]), (5, .invokestatic 71, [1, 217, 1, 413, 415, 414, 106]), (8, .aload_n 0, []), (9, .getfield 41, [0, 7, 181]), (12, .imul, []), (13, .ireturn, [0])]
def inf_X0_strips : am_I := (yX0_strips, cX0_strips, 2, (some .int), RX0, ta_X0_strips)
def ta_X0_rent : List am_A := [(0, .aload_n 0, []), (1, .aload_n 1, []), (2, .getfield 76, [1, 3, 275]), (5, .invokevirtual 81, [0, 9, 1, 0, 423, 407, 405, 406, 100]), (8, .istore_n 3, []), (9, .iload_n 3, []), (10, .ifCond .ne 7, [9]), (13, .iconst 0, []), (14, .goto 11, [15]), (17, .iload_n 3, []), (18, .aload_n 1, []), (19, .aload_n 0, []), (20, .iload_n 2, []), (21, .invokevirtual 84, [0, 16, 2, 1, 424, 393, 391, 392, 102]), (24, .imul, []), (25, .istore 4, []), (27, .aload_n 0, []), (28, .getfield 19, [0, 2, 166]), (31, .iconst 1, []), (32, .if_icmp .eq 11, [24]), (35, .aload_n 0, []), (36, .getfield 19, [0, 2, 166]), (39, .iconst 4, []), (40, .if_icmp .ne 10, [28]), (43, .iload 4, []), (45, .iconst 2, []), (46, .idiv, []), (47, .goto 5, [29]), (50, .iload 4, []), (52, .ireturn, [0])]
def inf_X0_rent : am_I := (yX0_rent, cX0_rent, 5, (some .int), RX0, ta_X0_rent)
def ta_X0_live : List am_A := [(0, .iconst 0, []), (1, .istore 4, []), (3, .iload 4, []), (5, .iload_n 3, []), (6, .if_icmp .ge 18, [13]), (9, .aload_n 0, []), (10, .aload_n 1, []), (11, .iload_n 2, []), (12, .iload 4, []), (14, .iadd, []), (15, .invokevirtual 88, [0, 12, 2, 0, 648, 651, 649, 650, 100]), (18, .iinc 4 1, []), (21, .goto (-18), [2]), (24, .return_, [])]
def inf_X0_live : am_I := (yX0_live, cX0_live, 5, none, RX0, ta_X0_live)
def ta_X0_liveADay : List am_A := [(0, .aload_n 0, []), (1, .getfield 28, [0, 9, 184]), (4, .ifCond .eq 4, [4]), (7, .return_, []), (8, .aload_n 0, []), (9, .getfield 25, [0, 8, 182]), (12, .aload_n 1, []), (13, .getfield 92, [1, 2, 271]), (16, .iadd, []), (17, .aload_n 0, []), (18, .aload_n 1, []), (19, .iload_n 2, []), (20, .invokevirtual 95, [0, 10, 2, 0, 652, 422, 420, 421, 100]), (23, .isub, []), (24, .istore_n 3, []), (25, .aload_n 0, []), (26, .iload_n 3, []), (27, .ifCond .ge 7, [20]), (30, .iconst 1, []), (31, .goto 4, [21]), (34, .iconst 0, []), (35, .putfield 28, [0, 9, 184]), (38, .aload_n 0, []), (39, .iconst 0, []), (40, .sipush 9999, []), (43, .iload_n 3, []), (44, .invokestatic 99, [1, 220, 2, 653, 574, 573, 105]), (47, .invokestatic 102, [1, 219, 2, 654, 403, 402, 105]), (50, .putfield 25, [0, 8, 182]), (53, .return_, [])]
def inf_X0_liveADay : am_I := (yX0_liveADay, cX0_liveADay, 4, none, RX0, ta_X0_liveADay)
def ta_X1_init : List am_A := [(0, .aload_n 0, []), (1, .invokespecial 3, [4, 265, 118, 119]), (4, .aload_n 0, []), (5, .bipush 100, []), (7, .newarray .int, [0, 155]), (9, .putfield 9, [1, 0, 266]), (12, .aload_n 0, []), (13, .iconst 0, []), (14, .putfield 15, [1, 1, 267]), (17, .aload_n 0, []), (18, .iconst 0, []), (19, .putfield 19, [1, 2, 268]), (22, .aload_n 0, []), (23, .bipush 10, []), (25, .putfield 22, [1, 3, 272]), (28, .return_, [])]
def inf_X1_init : am_I := (yX1_init, cX1_init, 1, none, RX1, ta_X1_init)
def ta_X1_clear : List am_A := [(0, .aload_n 0, []), (1, .iconst 0, []), (2, .putfield 15, [1, 1, 267]), (5, .aload_n 0, []), (6, .iconst 0, []), (7, .putfield 19, [1, 2, 268]), (10, .aload_n 0, []), (11, .bipush 10, []), (13, .putfield 22, [1, 3, 272]), (16, .return_, [])]
def inf_X1_clear : am_I := (yX1_clear, cX1_clear, 1, none, RX1, ta_X1_clear)
def ta_X1_put : List am_A := [(0, .aload_n 0, []), (1, .getfield 15, [1, 1, 267]), (4, .aload_n 0, []), (5, .getfield 9, [1, 0, 266]), (8, .arraylength, []), (9, .if_icmp .ge 27, [22]), (12, .aload_n 0, []), (13, .getfield 9, [1, 0, 266]), (16, .aload_n 0, []), (17, .getfield 15, [1, 1, 267]), (20, .iload_n 1, []), (21, .iload_n 2, []), (22, .iconst 3, []), (23, .ishl, []), (24, .ior, []), (25, .iastore, []), (26, .aload_n 0, []), (27, .dup, []), (28, .getfield 15, [1, 1, 267]), (31, .iconst 1, []), (32, .iadd, []), (33, .putfield 15, [1, 1, 267]), (36, .return_, [])]
def inf_X1_put : am_I := (yX1_put, cX1_put, 3, none, RX1, ta_X1_put)
def ta_X1_price : List am_A := [(0, .iconst 1, []), (1, .istore_n 3, []), (2, .lconst 0, []), (3, .lstore 4, []), (5, .iconst 0, []), (6, .istore 6, []), (8, .iload 6, []), (10, .aload_n 0, []), (11, .getfield 15, [1, 1, 267]), (14, .if_icmp .ge 186, [98]), (17, .iload 6, []), (19, .aload_n 0, []), (20, .getfield 9, [1, 0, 266]), (23, .arraylength, []), (24, .if_icmp .ge 176, [98]), (27, .aload_n 0, []), (28, .getfield 9, [1, 0, 266]), (31, .iload 6, []), (33, .iaload, []), (34, .iconst 3, []), (35, .ishr, []), (36, .istore 7, []), (38, .aload_n 0, []), (39, .getfield 9, [1, 0, 266]), (42, .iload 6, []), (44, .iaload, []), (45, .bipush 7, []), (47, .iand, []), (48, .tableswitch 125 0 4 #[36, 45, 61, 75, 101], [36, 82, 29, 34, 43, 52, 67]), (84, .lload 4, []), (86, .lconst 1, []), (87, .lxor, []), (88, .lstore 4, []), (90, .goto 104, [96]), (93, .lload 4, []), (95, .iconst 1, []), (96, .lshr, []), (97, .lload 4, []), (99, .ldc2_w 25, [18446744073709551614, 394]), (102, .lor, []), (103, .land, []), (104, .lstore 4, []), (106, .goto 88, [96]), (109, .lload 4, []), (111, .iconst 1, []), (112, .lshr, []), (113, .lload 4, []), (115, .lconst 1, []), (116, .land, []), (117, .lor, []), (118, .lstore 4, []), (120, .goto 74, [96]), (123, .lload 4, []), (125, .iconst 1, []), (126, .lshl, []), (127, .iload 7, []), (129, .aload_n 1, []), (130, .iload_n 2, []), (131, .invokestatic 27, [1, 18, 3, 395, 397, 396, 102]), (134, .ifCond .eq 7, [62]), (137, .iconst 1, []), (138, .goto 4, [63]), (141, .iconst 0, []), (142, .i2l, []), (143, .lor, []), (144, .lstore 4, []), (146, .goto 48, [96]), (149, .iload_n 3, []), (150, .lload 4, []), (152, .lconst 1, []), (153, .land, []), (154, .lconst 0, []), (155, .lcmp, []), (156, .ifCond .eq 8, [76]), (159, .iload 7, []), (161, .goto 4, [77]), (164, .iconst 0, []), (165, .iadd, []), (166, .istore_n 3, []), (167, .lconst 0, []), (168, .lstore 4, []), (170, .goto 24, [96]), (173, .iload_n 3, []), (174, .lload 4, []), (176, .lconst 1, []), (177, .land, []), (178, .lconst 0, []), (179, .lcmp, []), (180, .ifCond .eq 8, [91]), (183, .iload 7, []), (185, .goto 4, [92]), (188, .iconst 0, []), (189, .isub, []), (190, .istore_n 3, []), (191, .lconst 0, []), (192, .lstore 4, []), (194, .iinc 6 1, []), (197, .goto (-189), [6]), (200, .iconst 0, []), (201, .iload_n 3, []), (202, .invokestatic 31, [1, 219, 2, 401, 403, 402, 105]), (205, .ireturn, [0])]
def inf_X1_price : am_I := (yX1_price, cX1_price, 8, (some .int), RX1, ta_X1_price)
def ta_X1_testOf : List am_A := [(0, .iload_n 0, []), (1, .bipush 7, []), (3, .ishl, []), (4, .iload_n 1, []), (5, .ior, []), (6, .bipush 7, []), (8, .ishl, []), (9, .iload_n 2, []), (10, .ior, []), (11, .ireturn, [0])]
def inf_X1_testOf : am_I := (yX1_testOf, cX1_testOf, 3, (some .int), RX1, ta_X1_testOf)
def ta_X1_passes : List am_A := [(0, .iload_n 0, []), (1, .bipush 127, []), (3, .iand, []), (4, .istore_n 3, []), (5, .iload_n 0, []), (6, .bipush 14, []), (8, .ishr, []), (9, .aload_n 1, []), (10, .iload_n 2, []), (11, .invokestatic 37, [1, 19, 3, 398, 400, 399, 102]), (14, .istore 4, []), (16, .iload_n 0, []), (17, .bipush 7, []), (19, .ishr, []), (20, .bipush 127, []), (22, .iand, []), (23, .lookupswitch 49 #[(60, 25), (61, 37)], [25, 31, 17, 24]), (48, .iload 4, []), (50, .iload_n 3, []), (51, .if_icmp .ge 7, [22]), (54, .iconst 1, []), (55, .goto 4, [23]), (58, .iconst 0, []), (59, .ireturn, [1]), (60, .iload 4, []), (62, .iload_n 3, []), (63, .if_icmp .ne 7, [29]), (66, .iconst 1, []), (67, .goto 4, [30]), (70, .iconst 0, []), (71, .ireturn, [1]), (72, .iload 4, []), (74, .iload_n 3, []), (75, .if_icmp .le 7, [36]), (78, .iconst 1, []), (79, .goto 4, [37]), (82, .iconst 0, []), (83, .ireturn, [1])]
def inf_X1_passes : am_I := (yX1_passes, cX1_passes, 5, (some .boolean), RX1, ta_X1_passes)
def ta_X1_trait : List am_A := [(0, .iload_n 0, []), (1, .lookupswitch 76 #[(98, 51), (102, 71), (107, 56), (108, 66), (118, 61)], [51, 17, 2, 14, 5, 11, 8]), (52, .aload_n 1, []), (53, .getfield 41, [0, 1, 165]), (56, .ireturn, [0]), (57, .aload_n 1, []), (58, .getfield 46, [0, 2, 168]), (61, .ireturn, [0]), (62, .aload_n 1, []), (63, .getfield 49, [0, 3, 171]), (66, .ireturn, [0]), (67, .aload_n 1, []), (68, .getfield 52, [0, 4, 174]), (71, .ireturn, [0]), (72, .aload_n 1, []), (73, .getfield 55, [0, 6, 179]), (76, .ireturn, [0]), (77, .iload_n 2, []), (78, .bipush 10, []), (80, .irem, []), (81, .ireturn, [0])]
def inf_X1_trait : am_I := (yX1_trait, cX1_trait, 3, (some .int), RX1, ta_X1_trait)
def ta_X2_init : List am_A := [(0, .aload_n 0, []), (1, .invokespecial 3, [4, 242, 118, 119]), (4, .aload_n 0, []), (5, .bipush 100, []), (7, .newarray .byte, [2, 254]), (9, .putfield 9, [2, 0, 243]), (12, .aload_n 0, []), (13, .iconst 0, []), (14, .putfield 15, [2, 1, 244]), (17, .aload_n 0, []), (18, .iconst 0, []), (19, .putfield 19, [2, 2, 246]), (22, .return_, [])]
def inf_X2_init : am_I := (yX2_init, cX2_init, 1, none, RX2, ta_X2_init)
def ta_X2_put : List am_A := [(0, .aload_n 0, []), (1, .getfield 15, [2, 1, 244]), (4, .aload_n 0, []), (5, .getfield 9, [2, 0, 243]), (8, .arraylength, []), (9, .if_icmp .lt 5, [8]), (12, .iconst 0, []), (13, .ireturn, [1]), (14, .aload_n 0, []), (15, .getfield 9, [2, 0, 243]), (18, .aload_n 0, []), (19, .getfield 15, [2, 1, 244]), (22, .iload_n 1, []), (23, .i2b, []), (24, .bastore, [102]), (25, .aload_n 0, []), (26, .dup, []), (27, .getfield 15, [2, 1, 244]), (30, .iconst 1, []), (31, .iadd, []), (32, .putfield 15, [2, 1, 244]), (35, .iconst 1, []), (36, .ireturn, [1])]
def inf_X2_put : am_I := (yX2_put, cX2_put, 2, (some .boolean), RX2, ta_X2_put)
def ta_X2_parse : List am_A := [(0, .aload_n 0, []), (1, .iconst 0, []), (2, .putfield 19, [2, 2, 246]), (5, .aload_n 1, []), (6, .invokevirtual 22, [0, 14, 0, 1, 461, 464, 462, 463, 102]), (9, .aload_n 0, []), (10, .aload_n 1, []), (11, .invokevirtual 27, [0, 23, 1, 2, 465, 468, 467, 1, 101]), (14, .istore_n 2, []), (15, .iconst 1, []), (16, .istore_n 3, []), (17, .iload_n 3, []), (18, .bipush 10, []), (20, .if_icmp .ge 47, [35]), (23, .iload_n 2, []), (24, .ifCond .eq 43, [35]), (27, .aload_n 0, []), (28, .getfield 19, [2, 2, 246]), (31, .aload_n 0, []), (32, .getfield 15, [2, 1, 244]), (35, .if_icmp .ge 32, [35]), (38, .aload_n 0, []), (39, .bipush 59, []), (41, .invokevirtual 31, [0, 32, 1, 2, 526, 529, 528, 4, 101]), (44, .ifCond .eq 15, [31]), (47, .aload_n 0, []), (48, .aload_n 1, []), (49, .invokevirtual 27, [0, 23, 1, 2, 465, 468, 467, 1, 101]), (52, .ifCond .eq 7, [31]), (55, .iconst 1, []), (56, .goto 4, [32]), (59, .iconst 0, []), (60, .istore_n 2, []), (61, .iinc 3 1, []), (64, .goto (-47), [11]), (67, .iload_n 2, []), (68, .ifCond .eq 18, [44]), (71, .aload_n 0, []), (72, .getfield 19, [2, 2, 246]), (75, .aload_n 0, []), (76, .getfield 15, [2, 1, 244]), (79, .if_icmp .ne 7, [44]), (82, .iconst 1, []), (83, .goto 4, [45]), (86, .iconst 0, []), (87, .istore_n 3, []), (88, .aload_n 0, []), (89, .iconst 0, []), (90, .putfield 15, [2, 1, 244]), (93, .iload_n 3, []), (94, .ifCond .eq 7, [53]), (97, .iconst (-1), []), (98, .goto 7, [55]), (101, .aload_n 0, []), (102, .getfield 19, [2, 2, 246]), (105, .ireturn, [0])]
def inf_X2_parse : am_I := (yX2_parse, cX2_parse, 4, (some .int), RX2, ta_X2_parse)
def ta_X2_clause : List am_A := [(0, .aload_n 0, []), (1, .invokevirtual 35, [0, 31, 0, 2, 469, 472, 471, 2, 101]), (4, .tableswitch 107 99 103 #[60, 36, 107, 107, 84], [36, 41, 16, 3, 41, 41, 29]), (40, .aload_n 0, []), (41, .ldc 39, [1, 4]), (43, .invokevirtual 41, [0, 33, 1, 2, 474, 477, 476, 3, 101]), (46, .ifCond .eq 16, [14]), (49, .aload_n 0, []), (50, .aload_n 1, []), (51, .iconst 4, []), (52, .invokevirtual 45, [0, 24, 2, 2, 530, 533, 532, 5, 101]), (55, .ifCond .eq 7, [14]), (58, .iconst 1, []), (59, .goto 4, [15]), (62, .iconst 0, []), (63, .ireturn, [1]), (64, .aload_n 0, []), (65, .ldc 49, [1, 5]), (67, .invokevirtual 41, [0, 33, 1, 2, 474, 477, 476, 3, 101]), (70, .ifCond .eq 16, [27]), (73, .aload_n 0, []), (74, .aload_n 1, []), (75, .iconst 5, []), (76, .invokevirtual 45, [0, 24, 2, 2, 530, 533, 532, 5, 101]), (79, .ifCond .eq 7, [27]), (82, .iconst 1, []), (83, .goto 4, [28]), (86, .iconst 0, []), (87, .ireturn, [1]), (88, .aload_n 0, []), (89, .ldc 51, [1, 6]), (91, .invokevirtual 41, [0, 33, 1, 2, 474, 477, 476, 3, 101]), (94, .ifCond .eq 15, [39]), (97, .aload_n 0, []), (98, .aload_n 1, []), (99, .invokevirtual 53, [0, 25, 1, 2, 563, 566, 565, 10, 101]), (102, .ifCond .eq 7, [39]), (105, .iconst 1, []), (106, .goto 4, [40]), (109, .iconst 0, []), (110, .ireturn, [1]), (111, .aload_n 0, []), (112, .ldc 56, [1, 7]), (114, .invokevirtual 41, [0, 33, 1, 2, 474, 477, 476, 3, 101]), (117, .ifCond .eq 15, [51]), (120, .aload_n 0, []), (121, .aload_n 1, []), (122, .invokevirtual 58, [0, 26, 1, 2, 568, 571, 570, 11, 101]), (125, .ifCond .eq 7, [51]), (128, .iconst 1, []), (129, .goto 4, [52]), (132, .iconst 0, []), (133, .ireturn, [1])]
def inf_X2_clause : am_I := (yX2_clause, cX2_clause, 2, (some .boolean), RX2, ta_X2_clause)
def ta_X2_change : List am_A := [(0, .aload_n 0, []), (1, .invokevirtual 61, [0, 34, 0, 2, 534, 537, 536, 6, 101]), (4, .istore_n 3, []), (5, .iload_n 3, []), (6, .iconst (-1), []), (7, .if_icmp .eq 25, [17]), (10, .aload_n 0, []), (11, .bipush 32, []), (13, .invokevirtual 31, [0, 32, 1, 2, 526, 529, 528, 4, 101]), (16, .ifCond .eq 16, [17]), (19, .aload_n 0, []), (20, .aload_n 1, []), (21, .iconst 0, []), (22, .invokevirtual 64, [0, 27, 2, 2, 539, 542, 541, 7, 101]), (25, .ifCond .eq 7, [17]), (28, .iconst 1, []), (29, .goto 4, [18]), (32, .iconst 0, []), (33, .istore 4, []), (35, .aload_n 1, []), (36, .iload_n 2, []), (37, .iload_n 3, []), (38, .invokevirtual 67, [0, 15, 2, 1, 557, 560, 558, 559, 102]), (41, .iload 4, []), (43, .ireturn, [1])]
def inf_X2_change : am_I := (yX2_change, cX2_change, 5, (some .boolean), RX2, ta_X2_change)
def ta_X2_gain : List am_A := [(0, .aload_n 0, []), (1, .invokevirtual 61, [0, 34, 0, 2, 534, 537, 536, 6, 101]), (4, .istore_n 2, []), (5, .aload_n 1, []), (6, .iload_n 2, []), (7, .putfield 71, [1, 2, 269]), (10, .iload_n 2, []), (11, .iconst (-1), []), (12, .if_icmp .eq 7, [11]), (15, .iconst 1, []), (16, .goto 4, [12]), (19, .iconst 0, []), (20, .ireturn, [1])]
def inf_X2_gain : am_I := (yX2_gain, cX2_gain, 3, (some .boolean), RX2, ta_X2_gain)
def ta_X2_top : List am_A := [(0, .aload_n 0, []), (1, .invokevirtual 61, [0, 34, 0, 2, 534, 537, 536, 6, 101]), (4, .istore_n 2, []), (5, .aload_n 1, []), (6, .iconst 1, []), (7, .bipush 10, []), (9, .iload_n 2, []), (10, .invokestatic 73, [1, 220, 2, 572, 574, 573, 105]), (13, .invokestatic 79, [1, 219, 2, 538, 403, 402, 105]), (16, .putfield 82, [1, 3, 274]), (19, .iload_n 2, []), (20, .iconst (-1), []), (21, .if_icmp .eq 7, [15]), (24, .iconst 1, []), (25, .goto 4, [16]), (28, .iconst 0, []), (29, .ireturn, [1])]
def inf_X2_top : am_I := (yX2_top, cX2_top, 3, (some .boolean), RX2, ta_X2_top)
def ta_X2_either : List am_A := [(0, .aload_n 0, []), (1, .aload_n 1, []), (2, .iload_n 2, []), (3, .invokevirtual 84, [0, 28, 2, 2, 543, 546, 545, 8, 101]), (6, .istore_n 3, []), (7, .iconst 0, []), (8, .istore 4, []), (10, .iconst 0, []), (11, .istore 5, []), (13, .iload 5, []), (15, .bipush 100, []), (17, .if_icmp .ge 106, [65]), (20, .iload_n 3, []), (21, .ifCond .eq 102, [65]), (24, .aload_n 0, []), (25, .invokevirtual 35, [0, 31, 0, 2, 469, 472, 471, 2, 101]), (28, .bipush 38, []), (30, .if_icmp .eq 12, [22]), (33, .aload_n 0, []), (34, .invokevirtual 35, [0, 31, 0, 2, 469, 472, 471, 2, 101]), (37, .bipush 124, []), (39, .if_icmp .ne 84, [65]), (42, .aload_n 0, []), (43, .invokevirtual 35, [0, 31, 0, 2, 469, 472, 471, 2, 101]), (46, .bipush 38, []), (48, .if_icmp .ne 7, [28]), (51, .iconst 1, []), (52, .goto 4, [29]), (55, .iconst 0, []), (56, .istore 6, []), (58, .aload_n 0, []), (59, .dup, []), (60, .getfield 19, [2, 2, 246]), (63, .iconst 1, []), (64, .iadd, []), (65, .putfield 19, [2, 2, 246]), (68, .iload 6, []), (70, .ifCond .ne 14, [44]), (73, .iload 4, []), (75, .ifCond .eq 9, [44]), (78, .aload_n 1, []), (79, .iconst 2, []), (80, .iconst 0, []), (81, .invokevirtual 67, [0, 15, 2, 1, 557, 560, 558, 559, 102]), (84, .aload_n 0, []), (85, .aload_n 1, []), (86, .iload_n 2, []), (87, .invokevirtual 84, [0, 28, 2, 2, 543, 546, 545, 8, 101]), (90, .istore_n 3, []), (91, .iload 6, []), (93, .ifCond .eq 9, [55]), (96, .aload_n 1, []), (97, .iconst 1, []), (98, .iconst 0, []), (99, .invokevirtual 67, [0, 15, 2, 1, 557, 560, 558, 559, 102]), (102, .iload 4, []), (104, .iload 6, []), (106, .ifCond .ne 7, [60]), (109, .iconst 1, []), (110, .goto 4, [61]), (113, .iconst 0, []), (114, .ior, []), (115, .istore 4, []), (117, .iinc 5 1, []), (120, .goto (-107), [9]), (123, .iload 4, []), (125, .ifCond .eq 9, [71]), (128, .aload_n 1, []), (129, .iconst 2, []), (130, .iconst 0, []), (131, .invokevirtual 67, [0, 15, 2, 1, 557, 560, 558, 559, 102]), (134, .iload_n 3, []), (135, .ireturn, [1])]
def inf_X2_either : am_I := (yX2_either, cX2_either, 7, (some .boolean), RX2, ta_X2_either)
def ta_X2_factor : List am_A := [(0, .aload_n 0, []), (1, .invokevirtual 35, [0, 31, 0, 2, 469, 472, 471, 2, 101]), (4, .istore_n 3, []), (5, .iload_n 3, []), (6, .bipush 33, []), (8, .if_icmp .eq 15, [13]), (11, .iload_n 3, []), (12, .bipush 40, []), (14, .if_icmp .eq 9, [13]), (17, .aload_n 0, []), (18, .aload_n 1, []), (19, .invokevirtual 87, [0, 29, 1, 2, 547, 550, 549, 9, 101]), (22, .ireturn, [1]), (23, .iload_n 2, []), (24, .iconst 4, []), (25, .if_icmp .lt 5, [18]), (28, .iconst 0, []), (29, .ireturn, [1]), (30, .aload_n 0, []), (31, .dup, []), (32, .getfield 19, [2, 2, 246]), (35, .iconst 1, []), (36, .iadd, []), (37, .putfield 19, [2, 2, 246]), (40, .iload_n 3, []), (41, .bipush 40, []), (43, .if_icmp .ne 29, [42]), (46, .aload_n 0, []), (47, .aload_n 1, []), (48, .iload_n 2, []), (49, .iconst 1, []), (50, .iadd, []), (51, .invokevirtual 64, [0, 27, 2, 2, 539, 542, 541, 7, 101]), (54, .ifCond .eq 16, [40]), (57, .aload_n 0, []), (58, .bipush 41, []), (60, .invokevirtual 31, [0, 32, 1, 2, 526, 529, 528, 4, 101]), (63, .ifCond .eq 7, [40]), (66, .iconst 1, []), (67, .goto 4, [41]), (70, .iconst 0, []), (71, .ireturn, [1]), (72, .aload_n 0, []), (73, .aload_n 1, []), (74, .iload_n 2, []), (75, .iconst 1, []), (76, .iadd, []), (77, .invokevirtual 84, [0, 28, 2, 2, 543, 546, 545, 8, 101]), (80, .istore 4, []), (82, .aload_n 1, []), (83, .iconst 0, []), (84, .iconst 0, []), (85, .invokevirtual 67, [0, 15, 2, 1, 557, 560, 558, 559, 102]), (88, .iload 4, []), (90, .ireturn, [1])]
def inf_X2_factor : am_I := (yX2_factor, cX2_factor, 5, (some .boolean), RX2, ta_X2_factor)
def ta_X2_test : List am_A := [(0, .aload_n 0, []), (1, .invokevirtual 35, [0, 31, 0, 2, 469, 472, 471, 2, 101]), (4, .istore_n 2, []), (5, .iload_n 2, []), (6, .invokestatic 90, [1, 30, 1, 551, 553, 552, 101]), (9, .ifCond .ne 5, [8]), (12, .iconst 0, []), (13, .ireturn, [1]), (14, .aload_n 0, []), (15, .dup, []), (16, .getfield 19, [2, 2, 246]), (19, .iconst 1, []), (20, .iadd, []), (21, .putfield 19, [2, 2, 246]), (24, .aload_n 0, []), (25, .invokevirtual 35, [0, 31, 0, 2, 469, 472, 471, 2, 101]), (28, .istore_n 3, []), (29, .iload_n 3, []), (30, .bipush 60, []), (32, .if_icmp .eq 17, [28]), (35, .iload_n 3, []), (36, .bipush 61, []), (38, .if_icmp .eq 11, [28]), (41, .iload_n 3, []), (42, .bipush 62, []), (44, .if_icmp .eq 5, [28]), (47, .iconst 0, []), (48, .ireturn, [1]), (49, .aload_n 0, []), (50, .dup, []), (51, .getfield 19, [2, 2, 246]), (54, .iconst 1, []), (55, .iadd, []), (56, .putfield 19, [2, 2, 246]), (59, .aload_n 0, []), (60, .invokevirtual 61, [0, 34, 0, 2, 534, 537, 536, 6, 101]), (63, .istore 4, []), (65, .aload_n 1, []), (66, .iconst 3, []), (67, .iload_n 2, []), (68, .iload_n 3, []), (69, .iload 4, []), (71, .invokestatic 94, [1, 17, 3, 554, 556, 555, 102]), (74, .invokevirtual 67, [0, 15, 2, 1, 557, 560, 558, 559, 102]), (77, .iload 4, []), (79, .iconst (-1), []), (80, .if_icmp .eq 7, [49]), (83, .iconst 1, []), (84, .goto 4, [50]), (87, .iconst 0, []), (88, .ireturn, [1])]
def inf_X2_test : am_I := (yX2_test, cX2_test, 5, (some .boolean), RX2, ta_X2_test)
def ta_X2_isLetter : List am_A := [(0, .iload_n 0, []), (1, .bipush 98, []), (3, .if_icmp .eq 33, [18]), (6, .iload_n 0, []), (7, .bipush 107, []), (9, .if_icmp .eq 27, [18]), (12, .iload_n 0, []), (13, .bipush 118, []), (15, .if_icmp .eq 21, [18]), (18, .iload_n 0, []), (19, .bipush 108, []), (21, .if_icmp .eq 15, [18]), (24, .iload_n 0, []), (25, .bipush 102, []), (27, .if_icmp .eq 9, [18]), (30, .iload_n 0, []), (31, .bipush 100, []), (33, .if_icmp .ne 7, [20]), (36, .iconst 1, []), (37, .goto 4, [21]), (40, .iconst 0, []), (41, .ireturn, [1])]
def inf_X2_isLetter : am_I := (yX2_isLetter, cX2_isLetter, 1, (some .boolean), RX2, ta_X2_isLetter)
def ta_X2_next : List am_A := [(0, .aload_n 0, []), (1, .getfield 19, [2, 2, 246]), (4, .ifCond .lt 38, [20]), (7, .aload_n 0, []), (8, .getfield 19, [2, 2, 246]), (11, .aload_n 0, []), (12, .getfield 15, [2, 1, 244]), (15, .if_icmp .ge 27, [20]), (18, .aload_n 0, []), (19, .getfield 19, [2, 2, 246]), (22, .aload_n 0, []), (23, .getfield 9, [2, 0, 243]), (26, .arraylength, []), (27, .if_icmp .ge 15, [20]), (30, .aload_n 0, []), (31, .getfield 9, [2, 0, 243]), (34, .aload_n 0, []), (35, .getfield 19, [2, 2, 246]), (38, .baload, [102]), (39, .goto 4, [21]), (42, .iconst (-1), []), (43, .ireturn, [0])]
def inf_X2_next : am_I := (yX2_next, cX2_next, 1, (some .int), RX2, ta_X2_next)
def ta_X2_skip : List am_A := [(0, .aload_n 0, []), (1, .invokevirtual 35, [0, 31, 0, 2, 469, 472, 471, 2, 101]), (4, .iload_n 1, []), (5, .if_icmp .ne 7, [6]), (8, .iconst 1, []), (9, .goto 4, [7]), (12, .iconst 0, []), (13, .istore_n 2, []), (14, .iload_n 2, []), (15, .ifCond .eq 13, [16]), (18, .aload_n 0, []), (19, .dup, []), (20, .getfield 19, [2, 2, 246]), (23, .iconst 1, []), (24, .iadd, []), (25, .putfield 19, [2, 2, 246]), (28, .iload_n 2, []), (29, .ireturn, [1])]
def inf_X2_skip : am_I := (yX2_skip, cX2_skip, 3, (some .boolean), RX2, ta_X2_skip)
def ta_X2_skipWord : List am_A := [(0, .iconst 1, []), (1, .istore_n 2, []), (2, .iconst 0, []), (3, .istore_n 3, []), (4, .iload_n 2, []), (5, .ifCond .eq 27, [18]), (8, .iload_n 3, []), (9, .aload_n 1, []), (10, .invokevirtual 98, [7, 478, 481, 479, 480, 107]), (13, .if_icmp .ge 19, [18]), (16, .aload_n 0, []), (17, .aload_n 1, []), (18, .iload_n 3, []), (19, .invokevirtual 103, [6, 488, 491, 489, 490, 107]), (22, .invokevirtual 31, [0, 32, 1, 2, 526, 529, 528, 4, 101]), (25, .istore_n 2, []), (26, .iinc 3 1, []), (29, .goto (-25), [4]), (32, .iload_n 2, []), (33, .ireturn, [1])]
def inf_X2_skipWord : am_I := (yX2_skipWord, cX2_skipWord, 4, (some .boolean), RX2, ta_X2_skipWord)
def ta_X2_number : List am_A := [(0, .iconst (-1), []), (1, .istore_n 1, []), (2, .iconst 0, []), (3, .istore_n 2, []), (4, .iload_n 2, []), (5, .iconst 2, []), (6, .if_icmp .ge 54, [34]), (9, .aload_n 0, []), (10, .invokevirtual 35, [0, 31, 0, 2, 469, 472, 471, 2, 101]), (13, .bipush 48, []), (15, .if_icmp .lt 45, [34]), (18, .aload_n 0, []), (19, .invokevirtual 35, [0, 31, 0, 2, 469, 472, 471, 2, 101]), (22, .bipush 57, []), (24, .if_icmp .gt 36, [34]), (27, .bipush 10, []), (29, .iconst 0, []), (30, .iload_n 1, []), (31, .invokestatic 79, [1, 219, 2, 538, 403, 402, 105]), (34, .imul, []), (35, .aload_n 0, []), (36, .invokevirtual 35, [0, 31, 0, 2, 469, 472, 471, 2, 101]), (39, .iadd, []), (40, .bipush 48, []), (42, .isub, []), (43, .istore_n 1, []), (44, .aload_n 0, []), (45, .dup, []), (46, .getfield 19, [2, 2, 246]), (49, .iconst 1, []), (50, .iadd, []), (51, .putfield 19, [2, 2, 246]), (54, .iinc 2 1, []), (57, .goto (-53), [4]), (60, .iload_n 1, []), (61, .ireturn, [0])]
def inf_X2_number : am_I := (yX2_number, cX2_number, 3, (some .int), RX2, ta_X2_number)
def ta_X3_init : List am_A := [(0, .aload_n 0, []), (1, .invokespecial 1, [4, 133, 118, 119]), (4, .aload_n 0, []), (5, .iconst 0, []), (6, .putfield 7, [3, 4, 142]), (9, .aload_n 0, []), (10, .iload_n 1, []), (11, .newarray .int, [0, 155]), (13, .putfield 13, [3, 0, 134]), (16, .aload_n 0, []), (17, .iload_n 1, []), (18, .newarray .int, [0, 155]), (20, .putfield 17, [3, 1, 136]), (23, .aload_n 0, []), (24, .iload_n 1, []), (25, .newarray .int, [0, 155]), (27, .putfield 20, [3, 2, 138]), (30, .aload_n 0, []), (31, .iload_n 1, []), (32, .newarray .int, [0, 155]), (34, .putfield 23, [3, 3, 140]), (37, .return_, [])]
def inf_X3_init : am_I := (yX3_init, cX3_init, 2, none, RX3, ta_X3_init)
def ta_X3_put : List am_A := [(0, .aload_n 0, []), (1, .getfield 7, [3, 4, 142]), (4, .aload_n 0, []), (5, .getfield 13, [3, 0, 134]), (8, .arraylength, []), (9, .if_icmp .lt 5, [8]), (12, .iconst 0, []), (13, .ireturn, [1]), (14, .aload_n 0, []), (15, .getfield 13, [3, 0, 134]), (18, .aload_n 0, []), (19, .getfield 7, [3, 4, 142]), (22, .iload_n 1, []), (23, .iastore, []), (24, .aload_n 0, []), (25, .getfield 17, [3, 1, 136]), (28, .aload_n 0, []), (29, .getfield 7, [3, 4, 142]), (32, .iload_n 2, []), (33, .iastore, []), (34, .aload_n 0, []), (35, .getfield 20, [3, 2, 138]), (38, .aload_n 0, []), (39, .getfield 7, [3, 4, 142]), (42, .iload_n 3, []), (43, .iastore, []), (44, .aload_n 0, []), (45, .getfield 23, [3, 3, 140]), (48, .aload_n 0, []), (49, .getfield 7, [3, 4, 142]), (52, .iload 4, []), (54, .iastore, []), (55, .aload_n 0, []), (56, .dup, []), (57, .getfield 7, [3, 4, 142]), (60, .iconst 1, []), (61, .iadd, []), (62, .putfield 7, [3, 4, 142]), (65, .iconst 1, []), (66, .ireturn, [1])]
def inf_X3_put : am_I := (yX3_put, cX3_put, 5, (some .boolean), RX3, ta_X3_put)
def ta_X3_become : List am_A := [(0, .aload_n 0, []), (1, .aload_n 1, []), (2, .getfield 7, [3, 4, 142]), (5, .aload_n 0, []), (6, .getfield 13, [3, 0, 134]), (9, .arraylength, []), (10, .invokestatic 26, [1, 220, 2, 778, 574, 573, 105]), (13, .putfield 7, [3, 4, 142]), (16, .iconst 0, []), (17, .istore_n 2, []), (18, .iload_n 2, []), (19, .aload_n 0, []), (20, .getfield 7, [3, 4, 142]), (23, .if_icmp .ge 66, [53]), (26, .iload_n 2, []), (27, .aload_n 1, []), (28, .getfield 13, [3, 0, 134]), (31, .arraylength, []), (32, .if_icmp .ge 57, [53]), (35, .aload_n 0, []), (36, .getfield 13, [3, 0, 134]), (39, .iload_n 2, []), (40, .aload_n 1, []), (41, .getfield 13, [3, 0, 134]), (44, .iload_n 2, []), (45, .iaload, []), (46, .iastore, []), (47, .aload_n 0, []), (48, .getfield 17, [3, 1, 136]), (51, .iload_n 2, []), (52, .aload_n 1, []), (53, .getfield 17, [3, 1, 136]), (56, .iload_n 2, []), (57, .iaload, []), (58, .iastore, []), (59, .aload_n 0, []), (60, .getfield 20, [3, 2, 138]), (63, .iload_n 2, []), (64, .aload_n 1, []), (65, .getfield 20, [3, 2, 138]), (68, .iload_n 2, []), (69, .iaload, []), (70, .iastore, []), (71, .aload_n 0, []), (72, .getfield 23, [3, 3, 140]), (75, .iload_n 2, []), (76, .aload_n 1, []), (77, .getfield 23, [3, 3, 140]), (80, .iload_n 2, []), (81, .iaload, []), (82, .iastore, []), (83, .iinc 2 1, []), (86, .goto (-68), [10]), (89, .return_, [])]
def inf_X3_become : am_I := (yX3_become, cX3_become, 3, none, RX3, ta_X3_become)
def ta_X4_init : List am_A := [(0, .aload_n 0, []), (1, .invokespecial 3, [4, 125, 118, 119]), (4, .aload_n 0, []), (5, .bipush 7, []), (7, .anewarray 9, [6, 126, 127]), (10, .putfield 11, [4, 0, 208]), (13, .aload_n 0, []), (14, .iconst 0, []), (15, .putfield 17, [4, 1, 210]), (18, .aload_n 0, []), (19, .iconst 0, []), (20, .putfield 21, [4, 2, 212]), (23, .aload_n 0, []), (24, .iconst 0, []), (25, .putfield 24, [4, 3, 214]), (28, .aload_n 0, []), (29, .new 27, [3, 128, 129, 99]), (32, .dup, []), (33, .iconst 5, []), (34, .invokespecial 29, [2, 35, 1, 3, 130, 132, 131, 99]), (37, .putfield 32, [4, 4, 216]), (40, .aload_n 0, []), (41, .new 27, [3, 128, 129, 99]), (44, .dup, []), (45, .bipush 6, []), (47, .invokespecial 29, [2, 35, 1, 3, 130, 132, 131, 99]), (50, .putfield 36, [4, 5, 218]), (53, .aload_n 0, []), (54, .new 27, [3, 128, 129, 99]), (57, .dup, []), (58, .bipush 8, []), (60, .invokespecial 29, [2, 35, 1, 3, 130, 132, 131, 99]), (63, .putfield 39, [4, 6, 220]), (66, .iconst 0, []), (67, .istore_n 1, []), (68, .iload_n 1, []), (69, .aload_n 0, []), (70, .getfield 11, [4, 0, 208]), (73, .arraylength, []), (74, .if_icmp .ge 22, [49]), (77, .aload_n 0, []), (78, .getfield 11, [4, 0, 208]), (81, .iload_n 1, []), (82, .new 9, [0, 126, 156, 100]), (85, .dup, []), (86, .invokespecial 42, [3, 0, 0, 0, 157, 159, 158, 100]), (89, .aastore, [106, 0]), (90, .iinc 1 1, []), (93, .goto (-25), [35]), (96, .return_, [])]
def inf_X4_init : am_I := (yX4_init, cX4_init, 2, none, RX4, ta_X4_init)
def ta_X4_birdAt : List am_A := [(0, .iload_n 1, []), (1, .ifCond .lt 29, [16]), (4, .iload_n 1, []), (5, .aload_n 0, []), (6, .getfield 17, [4, 1, 210]), (9, .if_icmp .ge 21, [16]), (12, .iload_n 1, []), (13, .aload_n 0, []), (14, .getfield 11, [4, 0, 208]), (17, .arraylength, []), (18, .if_icmp .ge 12, [16]), (21, .aload_n 0, []), (22, .getfield 11, [4, 0, 208]), (25, .iload_n 1, []), (26, .aaload, [106]), (27, .goto 4, [17]), (30, .aconst_null, []), (31, .areturn, [])]
def inf_X4_birdAt : am_I := (yX4_birdAt, cX4_birdAt, 2, (some (.object "AirByYard$Bird")), RX4, ta_X4_birdAt)
def ta_X4_outBits : List am_A := [(0, .iconst 0, []), (1, .istore_n 1, []), (2, .iconst 0, []), (3, .istore_n 2, []), (4, .iload_n 2, []), (5, .aload_n 0, []), (6, .getfield 17, [4, 1, 210]), (9, .if_icmp .ge 31, [24]), (12, .iload_n 1, []), (13, .aload_n 0, []), (14, .getfield 11, [4, 0, 208]), (17, .iload_n 2, []), (18, .aaload, [106]), (19, .getfield 43, [0, 9, 185]), (22, .ifCond .eq 9, [19]), (25, .iconst 1, []), (26, .iload_n 2, []), (27, .ishl, []), (28, .goto 4, [20]), (31, .iconst 0, []), (32, .ior, []), (33, .istore_n 1, []), (34, .iinc 2 1, []), (37, .goto (-33), [4]), (40, .iload_n 1, []), (41, .ireturn, [0])]
def inf_X4_outBits : am_I := (yX4_outBits, cX4_outBits, 3, (some .int), RX4, ta_X4_outBits)
def ta_X4_become : List am_A := [(0, .aload_n 0, []), (1, .aload_n 1, []), (2, .getfield 17, [4, 1, 210]), (5, .putfield 17, [4, 1, 210]), (8, .aload_n 0, []), (9, .aload_n 1, []), (10, .getfield 21, [4, 2, 212]), (13, .putfield 21, [4, 2, 212]), (16, .aload_n 0, []), (17, .aload_n 1, []), (18, .getfield 24, [4, 3, 214]), (21, .putfield 24, [4, 3, 214]), (24, .iconst 0, []), (25, .istore_n 2, []), (26, .iload_n 2, []), (27, .aload_n 0, []), (28, .getfield 17, [4, 1, 210]), (31, .if_icmp .ge 24, [29]), (34, .aload_n 0, []), (35, .getfield 11, [4, 0, 208]), (38, .iload_n 2, []), (39, .aaload, [106]), (40, .aload_n 1, []), (41, .getfield 11, [4, 0, 208]), (44, .iload_n 2, []), (45, .aaload, [106]), (46, .invokevirtual 47, [0, 2, 1, 0, 773, 662, 660, 661, 100]), (49, .iinc 2 1, []), (52, .goto (-26), [14]), (55, .aload_n 0, []), (56, .getfield 32, [4, 4, 216]), (59, .aload_n 1, []), (60, .getfield 32, [4, 4, 216]), (63, .invokevirtual 51, [0, 37, 1, 3, 774, 777, 775, 776, 99]), (66, .aload_n 0, []), (67, .getfield 36, [4, 5, 218]), (70, .aload_n 1, []), (71, .getfield 36, [4, 5, 218]), (74, .invokevirtual 51, [0, 37, 1, 3, 774, 777, 775, 776, 99]), (77, .aload_n 0, []), (78, .getfield 39, [4, 6, 220]), (81, .aload_n 1, []), (82, .getfield 39, [4, 6, 220]), (85, .invokevirtual 51, [0, 37, 1, 3, 774, 777, 775, 776, 99]), (88, .return_, [])]
def inf_X4_become : am_I := (yX4_become, cX4_become, 3, none, RX4, ta_X4_become)
def ta_X5_init : List am_A := [(0, .aload_n 0, []), (1, .invokespecial 3, [4, 290, 118, 119]), (4, .aload_n 0, []), (5, .bipush 60, []), (7, .newarray .long, [1, 285]), (9, .putfield 9, [5, 0, 291]), (12, .aload_n 0, []), (13, .iconst (-1), []), (14, .putfield 15, [5, 1, 293]), (17, .aload_n 0, []), (18, .iconst 0, []), (19, .putfield 19, [5, 2, 295]), (22, .return_, [])]
def inf_X5_init : am_I := (yX5_init, cX5_init, 1, none, RX5, ta_X5_init)
def ta_X5_begin : List am_A := [(0, .aload_n 0, []), (1, .iload_n 1, []), (2, .putfield 15, [5, 1, 293]), (5, .aload_n 0, []), (6, .iconst 0, []), (7, .bipush 60, []), (9, .iload_n 2, []), (10, .invokestatic 22, [1, 220, 2, 841, 574, 573, 105]), (13, .invokestatic 28, [1, 219, 2, 842, 403, 402, 105]), (16, .putfield 19, [5, 2, 295]), (19, .iconst 0, []), (20, .istore_n 3, []), (21, .iload_n 3, []), (22, .aload_n 0, []), (23, .getfield 9, [5, 0, 291]), (26, .arraylength, []), (27, .if_icmp .ge 16, [24]), (30, .aload_n 0, []), (31, .getfield 9, [5, 0, 291]), (34, .iload_n 3, []), (35, .lconst 0, []), (36, .lastore, []), (37, .iinc 3 1, []), (40, .goto (-19), [12]), (43, .return_, [])]
def inf_X5_begin : am_I := (yX5_begin, cX5_begin, 4, none, RX5, ta_X5_begin)
def ta_X5_cut : List am_A := [(0, .aload_n 0, []), (1, .getfield 15, [5, 1, 293]), (4, .tableswitch 62 0 4 #[36, 41, 46, 62, 50], [36, 25, 3, 8, 13, 25, 17]), (40, .lload_n 1, []), (41, .l2i, []), (42, .i2b, []), (43, .i2l, []), (44, .lreturn, []), (45, .lload_n 1, []), (46, .l2i, []), (47, .i2s, []), (48, .i2l, []), (49, .lreturn, []), (50, .lload_n 1, []), (51, .l2i, []), (52, .i2l, []), (53, .lreturn, []), (54, .lload_n 1, []), (55, .lconst 0, []), (56, .lcmp, []), (57, .ifCond .eq 7, [23]), (60, .lconst 1, []), (61, .goto 4, [24]), (64, .lconst 0, []), (65, .lreturn, []), (66, .lload_n 1, []), (67, .lreturn, [])]
def inf_X5_cut : am_I := (yX5_cut, cX5_cut, 3, (some .long), RX5, ta_X5_cut)
def ta_X5_hasPart : List am_A := [(0, .iload_n 2, []), (1, .ifCond .lt 25, [16]), (4, .iload_n 1, []), (5, .ifCond .lt 21, [16]), (8, .iload_n 1, []), (9, .i2l, []), (10, .iload_n 2, []), (11, .i2l, []), (12, .ladd, []), (13, .aload_n 0, []), (14, .getfield 19, [5, 2, 295]), (17, .i2l, []), (18, .lcmp, []), (19, .ifCond .gt 7, [16]), (22, .iconst 1, []), (23, .goto 4, [17]), (26, .iconst 0, []), (27, .ireturn, [1])]
def inf_X5_hasPart : am_I := (yX5_hasPart, cX5_hasPart, 3, (some .boolean), RX5, ta_X5_hasPart)
def ta_X6_init : List am_A := [(0, .aload_n 0, []), (1, .invokespecial 5, [4, 117, 118, 119]), (4, .aload_n 0, []), (5, .new 11, [4, 120, 121, 98]), (8, .dup, []), (9, .invokespecial 13, [2, 38, 0, 4, 122, 124, 123, 98]), (12, .putfield 14, [6, 0, 304]), (15, .aload_n 0, []), (16, .new 11, [4, 120, 121, 98]), (19, .dup, []), (20, .invokespecial 13, [2, 38, 0, 4, 122, 124, 123, 98]), (23, .putfield 18, [6, 1, 305]), (26, .aload_n 0, []), (27, .iconst 0, []), (28, .putfield 21, [6, 2, 306]), (31, .aload_n 0, []), (32, .new 25, [2, 237, 238, 101]), (35, .dup, []), (36, .invokespecial 27, [3, 20, 0, 2, 239, 241, 240, 101]), (39, .putfield 28, [6, 3, 307]), (42, .aload_n 0, []), (43, .bipush 7, []), (45, .anewarray 32, [4, 255, 256]), (48, .putfield 34, [6, 4, 308]), (51, .aload_n 0, []), (52, .iconst 0, []), (53, .putfield 38, [6, 5, 309]), (56, .aload_n 0, []), (57, .bipush 6, []), (59, .anewarray 42, [5, 257, 258]), (62, .putfield 44, [6, 6, 310]), (65, .aload_n 0, []), (66, .bipush 20, []), (68, .newarray .int, [0, 155]), (70, .putfield 48, [6, 7, 311]), (73, .aload_n 0, []), (74, .iconst 0, []), (75, .putfield 52, [6, 8, 312]), (78, .aload_n 0, []), (79, .new 11, [4, 120, 121, 98]), (82, .dup, []), (83, .invokespecial 13, [2, 38, 0, 4, 122, 124, 123, 98]), (86, .putfield 55, [6, 9, 313]), (89, .aload_n 0, []), (90, .new 58, [0, 259, 156, 100]), (93, .dup, []), (94, .invokespecial 60, [3, 0, 0, 0, 260, 159, 158, 100]), (97, .putfield 61, [6, 10, 314]), (100, .aload_n 0, []), (101, .bipush 24, []), (103, .newarray .int, [0, 155]), (105, .putfield 65, [6, 11, 315]), (108, .aload_n 0, []), (109, .bipush 24, []), (111, .newarray .int, [0, 155]), (113, .putfield 68, [6, 12, 316]), (116, .aload_n 0, []), (117, .bipush 7, []), (119, .newarray .int, [0, 155]), (121, .putfield 71, [6, 13, 317]), (124, .aload_n 0, []), (125, .bipush 7, []), (127, .newarray .int, [0, 155]), (129, .putfield 74, [6, 14, 318]), (132, .aload_n 0, []), (133, .bipush 10, []), (135, .newarray .long, [1, 285]), (137, .putfield 77, [6, 15, 319]), (140, .aload_n 0, []), (141, .bipush 10, []), (143, .newarray .long, [1, 285]), (145, .putfield 81, [6, 16, 320]), (148, .iconst 0, []), (149, .istore_n 1, []), (150, .iload_n 1, []), (151, .aload_n 0, []), (152, .getfield 34, [6, 4, 308]), (155, .arraylength, []), (156, .if_icmp .ge 22, [88]), (159, .aload_n 0, []), (160, .getfield 34, [6, 4, 308]), (163, .iload_n 1, []), (164, .new 32, [1, 255, 261, 102]), (167, .dup, []), (168, .invokespecial 84, [3, 13, 0, 1, 262, 264, 263, 102]), (171, .aastore, [104, 1]), (172, .iinc 1 1, []), (175, .goto (-25), [74]), (178, .iconst 0, []), (179, .istore_n 1, []), (180, .iload_n 1, []), (181, .aload_n 0, []), (182, .getfield 44, [6, 6, 310]), (185, .arraylength, []), (186, .if_icmp .ge 22, [104]), (189, .aload_n 0, []), (190, .getfield 44, [6, 6, 310]), (193, .iload_n 1, []), (194, .new 42, [5, 257, 286, 103]), (197, .dup, []), (198, .invokespecial 85, [3, 42, 0, 5, 287, 289, 288, 103]), (201, .aastore, [105, 5]), (202, .iinc 1 1, []), (205, .goto (-25), [90]), (208, .return_, [])]
def inf_X6_init : am_I := (yX6_init, cX6_init, 2, none, RX6, ta_X6_init)
def ta_X6_bird : List am_A := [(0, .iload_n 1, []), (1, .iconst 0, []), (2, .bipush 6, []), (4, .invokestatic 86, [1, 87, 3, 360, 362, 361, 97]), (7, .ifCond .ne 5, [7]), (10, .iconst (-1), []), (11, .ireturn, [0]), (12, .iload_n 2, []), (13, .iconst 0, []), (14, .bipush 9, []), (16, .invokestatic 86, [1, 87, 3, 360, 362, 361, 97]), (19, .ifCond .eq 50, [34]), (22, .iload_n 3, []), (23, .iconst 0, []), (24, .bipush 9, []), (26, .invokestatic 86, [1, 87, 3, 360, 362, 361, 97]), (29, .ifCond .eq 40, [34]), (32, .iload 4, []), (34, .iconst 1, []), (35, .bipush 10, []), (37, .invokestatic 86, [1, 87, 3, 360, 362, 361, 97]), (40, .ifCond .eq 29, [34]), (43, .iload 5, []), (45, .iconst 0, []), (46, .bipush 23, []), (48, .invokestatic 86, [1, 87, 3, 360, 362, 361, 97]), (51, .ifCond .eq 18, [34]), (54, .iload 6, []), (56, .iconst 1, []), (57, .bipush 24, []), (59, .invokestatic 86, [1, 87, 3, 360, 362, 361, 97]), (62, .ifCond .eq 7, [34]), (65, .iconst 1, []), (66, .goto 4, [35]), (69, .iconst 0, []), (70, .istore 7, []), (72, .iload 7, []), (74, .ifCond .ne 6, [40]), (77, .bipush (-2), []), (79, .ireturn, [0]), (80, .aload_n 0, []), (81, .getfield 14, [6, 0, 304]), (84, .getfield 90, [4, 1, 211]), (87, .bipush 7, []), (89, .if_icmp .lt 6, [47]), (92, .bipush (-4), []), (94, .ireturn, [0]), (95, .aload_n 0, []), (96, .getfield 14, [6, 0, 304]), (99, .getfield 93, [4, 0, 209]), (102, .aload_n 0, []), (103, .getfield 14, [6, 0, 304]), (106, .getfield 90, [4, 1, 211]), (109, .aaload, [106]), (110, .astore 8, []), (112, .aload 8, []), (114, .aload_n 0, []), (115, .getfield 14, [6, 0, 304]), (118, .getfield 90, [4, 1, 211]), (121, .iload_n 1, []), (122, .iload_n 2, []), (123, .invokevirtual 97, [0, 1, 3, 0, 363, 366, 364, 365, 100]), (126, .aload 8, []), (128, .iload_n 3, []), (129, .putfield 101, [0, 4, 172]), (132, .aload 8, []), (134, .iload 4, []), (136, .putfield 104, [0, 5, 175]), (139, .aload 8, []), (141, .iload 5, []), (143, .putfield 107, [0, 6, 177]), (146, .aload 8, []), (148, .iload 6, []), (150, .putfield 110, [0, 7, 180]), (153, .aload_n 0, []), (154, .getfield 14, [6, 0, 304]), (157, .dup, []), (158, .getfield 90, [4, 1, 211]), (161, .iconst 1, []), (162, .iadd, []), (163, .putfield 90, [4, 1, 211]), (166, .aload 8, []), (168, .getfield 113, [0, 1, 164]), (171, .ireturn, [0])]
def inf_X6_bird : am_I := (yX6_bird, cX6_bird, 9, (some .int), RX6, ta_X6_bird)
def ta_X6_of : List am_A := [(0, .aload_n 0, []), (1, .getfield 14, [6, 0, 304]), (4, .iload_n 1, []), (5, .invokevirtual 116, [0, 39, 1, 4, 371, 374, 372, 373, 98]), (8, .astore_n 3, []), (9, .aload_n 3, []), (10, .ifnonnull 5, [9]), (13, .iconst (-1), []), (14, .ireturn, [0]), (15, .aload_n 0, []), (16, .invokevirtual 120, [0, 88, 0, 6, 375, 378, 377, 0, 97]), (19, .astore 4, []), (21, .iload_n 2, []), (22, .tableswitch 169 0 12 #[66, 71, 76, 81, 86, 91, 96, 101, 114, 119, 131, 145, 155], [66, 70, 14, 17, 20, 23, 26, 29, 32, 35, 42, 45, 51, 58, 63]), (88, .aload_n 3, []), (89, .getfield 124, [0, 2, 167]), (92, .ireturn, [0]), (93, .aload_n 3, []), (94, .getfield 127, [0, 3, 170]), (97, .ireturn, [0]), (98, .aload_n 3, []), (99, .getfield 101, [0, 4, 172]), (102, .ireturn, [0]), (103, .aload_n 3, []), (104, .getfield 104, [0, 5, 175]), (107, .ireturn, [0]), (108, .aload_n 3, []), (109, .getfield 107, [0, 6, 177]), (112, .ireturn, [0]), (113, .aload_n 3, []), (114, .getfield 110, [0, 7, 180]), (117, .ireturn, [0]), (118, .aload_n 3, []), (119, .getfield 130, [0, 8, 183]), (122, .ireturn, [0]), (123, .aload_n 3, []), (124, .getfield 133, [0, 9, 186]), (127, .ifCond .eq 7, [40]), (130, .iconst 1, []), (131, .goto 4, [41]), (134, .iconst 0, []), (135, .ireturn, [0]), (136, .aload_n 3, []), (137, .invokevirtual 136, [0, 4, 0, 0, 379, 382, 380, 381, 100]), (140, .ireturn, [0]), (141, .aload_n 3, []), (142, .aload_n 0, []), (143, .getfield 14, [6, 0, 304]), (146, .getfield 140, [4, 2, 213]), (149, .invokevirtual 143, [0, 5, 1, 0, 383, 386, 384, 385, 100]), (152, .ireturn, [0]), (153, .aload 4, []), (155, .aload_n 3, []), (156, .aload_n 0, []), (157, .getfield 14, [6, 0, 304]), (160, .getfield 140, [4, 2, 213]), (163, .invokevirtual 147, [0, 16, 2, 1, 390, 393, 391, 392, 102]), (166, .ireturn, [0]), (167, .aload_n 3, []), (168, .aload 4, []), (170, .getfield 151, [1, 3, 273]), (173, .invokevirtual 154, [0, 9, 1, 0, 404, 407, 405, 406, 100]), (176, .ireturn, [0]), (177, .aload_n 3, []), (178, .aload 4, []), (180, .aload_n 0, []), (181, .getfield 14, [6, 0, 304]), (184, .getfield 140, [4, 2, 213]), (187, .invokevirtual 157, [0, 10, 2, 0, 419, 422, 420, 421, 100]), (190, .ireturn, [0]), (191, .iconst (-1), []), (192, .ireturn, [0])]
def inf_X6_of : am_I := (yX6_of, cX6_of, 5, (some .int), RX6, ta_X6_of)
def ta_X6_set : List am_A := [(0, .aload_n 0, []), (1, .getfield 14, [6, 0, 304]), (4, .iload_n 1, []), (5, .invokevirtual 116, [0, 39, 1, 4, 371, 374, 372, 373, 98]), (8, .astore 4, []), (10, .aload 4, []), (12, .ifnull 23, [17]), (15, .iload_n 2, []), (16, .ifCond .lt 19, [17]), (19, .iload_n 2, []), (20, .getstatic 161, [0, 429]), (23, .arraylength, []), (24, .if_icmp .ge 11, [17]), (27, .iload_n 2, []), (28, .getstatic 164, [1, 431]), (31, .arraylength, []), (32, .if_icmp .lt 5, [19]), (35, .iconst (-1), []), (36, .ireturn, [0]), (37, .iload_n 3, []), (38, .getstatic 161, [0, 429]), (41, .iload_n 2, []), (42, .iaload, []), (43, .getstatic 164, [1, 431]), (46, .iload_n 2, []), (47, .iaload, []), (48, .invokestatic 86, [1, 87, 3, 360, 362, 361, 97]), (51, .ifCond .eq 13, [33]), (54, .aload 4, []), (56, .iload_n 2, []), (57, .iload_n 3, []), (58, .invokevirtual 167, [0, 3, 2, 0, 433, 436, 434, 435, 100]), (61, .goto 5, [34]), (64, .bipush (-2), []), (66, .ireturn, [0])]
def inf_X6_set : am_I := (yX6_set, cX6_set, 5, (some .int), RX6, ta_X6_set)
def ta_X6_evict : List am_A := [(0, .aload_n 0, []), (1, .getfield 14, [6, 0, 304]), (4, .iload_n 1, []), (5, .invokevirtual 116, [0, 39, 1, 4, 371, 374, 372, 373, 98]), (8, .astore_n 3, []), (9, .aload_n 3, []), (10, .ifnonnull 5, [9]), (13, .iconst (-1), []), (14, .ireturn, [0]), (15, .aload_n 3, []), (16, .getfield 133, [0, 9, 186]), (19, .ifCond .eq 7, [14]), (22, .iconst 1, []), (23, .goto 4, [15]), (26, .iconst 0, []), (27, .istore 4, []), (29, .aload_n 3, []), (30, .iload_n 2, []), (31, .putfield 133, [0, 9, 186]), (34, .iload 4, []), (36, .ireturn, [0])]
def inf_X6_evict : am_I := (yX6_evict, cX6_evict, 5, (some .int), RX6, ta_X6_evict)
def ta_X6_row : List am_A := [(0, .aload_n 0, []), (1, .getfield 14, [6, 0, 304]), (4, .iload_n 1, []), (5, .invokevirtual 116, [0, 39, 1, 4, 371, 374, 372, 373, 98]), (8, .astore 4, []), (10, .aload 4, []), (12, .ifnull 12, [12]), (15, .iload_n 2, []), (16, .iconst 0, []), (17, .iconst 3, []), (18, .invokestatic 86, [1, 87, 3, 360, 362, 361, 97]), (21, .ifCond .ne 5, [14]), (24, .iconst (-1), []), (25, .ireturn, [0]), (26, .iload_n 3, []), (27, .iconst 0, []), (28, .bipush 9, []), (30, .invokestatic 86, [1, 87, 3, 360, 362, 361, 97]), (33, .ifCond .ne 6, [21]), (36, .bipush (-2), []), (38, .ireturn, [0]), (39, .aload 4, []), (41, .getfield 124, [0, 2, 167]), (44, .bipush 6, []), (46, .if_icmp .eq 6, [27]), (49, .bipush (-3), []), (51, .ireturn, [0]), (52, .aload 4, []), (54, .getfield 171, [0, 0, 162]), (57, .iload_n 2, []), (58, .iaload, []), (59, .istore 5, []), (61, .aload 4, []), (63, .getfield 171, [0, 0, 162]), (66, .iload_n 2, []), (67, .iload_n 3, []), (68, .iastore, []), (69, .iload 5, []), (71, .ireturn, [0])]
def inf_X6_row : am_I := (yX6_row, cX6_row, 6, (some .int), RX6, ta_X6_row)
def ta_X6_feed : List am_A := [(0, .iload_n 1, []), (1, .iconst 0, []), (2, .bipush 127, []), (4, .invokestatic 86, [1, 87, 3, 360, 362, 361, 97]), (7, .ifCond .ne 6, [7]), (10, .bipush (-2), []), (12, .ireturn, [0]), (13, .aload_n 0, []), (14, .getfield 28, [6, 3, 307]), (17, .iload_n 1, []), (18, .invokevirtual 174, [0, 21, 1, 2, 449, 452, 450, 451, 101]), (21, .ifCond .eq 13, [16]), (24, .aload_n 0, []), (25, .getfield 28, [6, 3, 307]), (28, .getfield 178, [2, 1, 245]), (31, .goto 5, [17]), (34, .bipush (-4), []), (36, .ireturn, [0])]
def inf_X6_feed : am_I := (yX6_feed, cX6_feed, 2, (some .int), RX6, ta_X6_feed)
def ta_X6_estuary : List am_A := [(0, .aload_n 0, []), (1, .getfield 38, [6, 5, 309]), (4, .bipush 6, []), (6, .if_icmp .lt 6, [6]), (9, .bipush (-4), []), (11, .ireturn, [0]), (12, .aload_n 0, []), (13, .getfield 28, [6, 3, 307]), (16, .aload_n 0, []), (17, .getfield 34, [6, 4, 308]), (20, .aload_n 0, []), (21, .getfield 38, [6, 5, 309]), (24, .iconst 1, []), (25, .iadd, []), (26, .aaload, [104]), (27, .invokevirtual 179, [0, 22, 1, 2, 457, 460, 458, 459, 101]), (30, .istore_n 1, []), (31, .iload_n 1, []), (32, .iconst (-1), []), (33, .if_icmp .eq 8, [24]), (36, .bipush (-10), []), (38, .iload_n 1, []), (39, .isub, []), (40, .ireturn, [0]), (41, .aload_n 0, []), (42, .dup, []), (43, .getfield 38, [6, 5, 309]), (46, .iconst 1, []), (47, .iadd, []), (48, .putfield 38, [6, 5, 309]), (51, .aload_n 0, []), (52, .getfield 14, [6, 0, 304]), (55, .aload_n 0, []), (56, .getfield 38, [6, 5, 309]), (59, .putfield 183, [4, 3, 215]), (62, .aload_n 0, []), (63, .getfield 38, [6, 5, 309]), (66, .iconst 1, []), (67, .isub, []), (68, .ireturn, [0])]
def inf_X6_estuary : am_I := (yX6_estuary, cX6_estuary, 2, (some .int), RX6, ta_X6_estuary)
def ta_X6_told : List am_A := [(0, .aload_n 0, []), (1, .invokevirtual 120, [0, 88, 0, 6, 375, 378, 377, 0, 97]), (4, .astore_n 2, []), (5, .iload_n 1, []), (6, .tableswitch 95 0 6 #[42, 50, 55, 60, 68, 77, 86], [42, 34, 5, 9, 12, 15, 19, 24, 29]), (48, .aload_n 0, []), (49, .getfield 14, [6, 0, 304]), (52, .getfield 140, [4, 2, 213]), (55, .ireturn, [0]), (56, .aload_n 2, []), (57, .getfield 186, [1, 2, 270]), (60, .ireturn, [0]), (61, .aload_n 2, []), (62, .getfield 151, [1, 3, 273]), (65, .ireturn, [0]), (66, .aload_n 0, []), (67, .getfield 14, [6, 0, 304]), (70, .invokevirtual 189, [0, 40, 0, 4, 579, 582, 580, 581, 98]), (73, .ireturn, [0]), (74, .aload_n 0, []), (75, .aload_n 2, []), (76, .getfield 151, [1, 3, 273]), (79, .invokevirtual 192, [0, 93, 1, 6, 583, 586, 585, 12, 97]), (82, .ireturn, [0]), (83, .aload_n 0, []), (84, .aload_n 0, []), (85, .getfield 14, [6, 0, 304]), (88, .invokevirtual 195, [0, 94, 1, 6, 607, 610, 609, 16, 97]), (91, .ireturn, [0]), (92, .aload_n 0, []), (93, .aload_n 0, []), (94, .getfield 14, [6, 0, 304]), (97, .invokevirtual 199, [0, 95, 1, 6, 611, 614, 613, 17, 97]), (100, .ireturn, [0]), (101, .iconst (-1), []), (102, .ireturn, [0])]
def inf_X6_told : am_I := (yX6_told, cX6_told, 3, (some .int), RX6, ta_X6_told)
def ta_X6_held : List am_A := [(0, .aload_n 0, []), (1, .invokevirtual 120, [0, 88, 0, 6, 375, 378, 377, 0, 97]), (4, .getfield 151, [1, 3, 273]), (7, .istore_n 3, []), (8, .iload_n 1, []), (9, .iconst 0, []), (10, .iload_n 3, []), (11, .iconst 1, []), (12, .isub, []), (13, .invokestatic 86, [1, 87, 3, 360, 362, 361, 97]), (16, .ifCond .eq 13, [16]), (19, .iload_n 2, []), (20, .iconst 0, []), (21, .bipush 23, []), (23, .invokestatic 86, [1, 87, 3, 360, 362, 361, 97]), (26, .ifCond .ne 5, [18]), (29, .iconst (-1), []), (30, .ireturn, [0]), (31, .iconst 0, []), (32, .istore 4, []), (34, .iconst 0, []), (35, .istore 5, []), (37, .iload 5, []), (39, .aload_n 0, []), (40, .getfield 14, [6, 0, 304]), (43, .getfield 90, [4, 1, 211]), (46, .if_icmp .ge 44, [48]), (49, .aload_n 0, []), (50, .getfield 14, [6, 0, 304]), (53, .getfield 93, [4, 0, 209]), (56, .iload 5, []), (58, .aaload, [106]), (59, .iload_n 1, []), (60, .iload_n 2, []), (61, .iload_n 3, []), (62, .aload_n 0, []), (63, .getfield 14, [6, 0, 304]), (66, .getfield 140, [4, 2, 213]), (69, .invokevirtual 202, [0, 8, 4, 0, 619, 622, 620, 621, 100]), (72, .ifCond .eq 12, [46]), (75, .iload 4, []), (77, .iconst 1, []), (78, .iload 5, []), (80, .ishl, []), (81, .ior, []), (82, .istore 4, []), (84, .iinc 5 1, []), (87, .goto (-50), [22]), (90, .iload 4, []), (92, .ireturn, [0])]
def inf_X6_held : am_I := (yX6_held, cX6_held, 6, (some .int), RX6, ta_X6_held)
def ta_X6_free : List am_A := [(0, .iload_n 1, []), (1, .iconst 0, []), (2, .bipush 23, []), (4, .invokestatic 86, [1, 87, 3, 360, 362, 361, 97]), (7, .ifCond .ne 5, [7]), (10, .iconst (-1), []), (11, .ireturn, [0]), (12, .aload_n 0, []), (13, .invokevirtual 120, [0, 88, 0, 6, 375, 378, 377, 0, 97]), (16, .getfield 151, [1, 3, 273]), (19, .istore_n 2, []), (20, .aload_n 0, []), (21, .aload_n 0, []), (22, .getfield 14, [6, 0, 304]), (25, .iload_n 2, []), (26, .iconst (-1), []), (27, .invokevirtual 206, [0, 89, 3, 6, 587, 590, 589, 13, 97]), (30, .aload_n 0, []), (31, .iload_n 1, []), (32, .iload_n 2, []), (33, .invokevirtual 210, [0, 91, 2, 6, 602, 605, 604, 15, 97]), (36, .ireturn, [0])]
def inf_X6_free : am_I := (yX6_free, cX6_free, 3, (some .int), RX6, ta_X6_free)
def ta_X6_clash : List am_A := [(0, .aload_n 0, []), (1, .getfield 14, [6, 0, 304]), (4, .iload_n 1, []), (5, .invokevirtual 116, [0, 39, 1, 4, 371, 374, 372, 373, 98]), (8, .astore_n 3, []), (9, .aload_n 0, []), (10, .getfield 14, [6, 0, 304]), (13, .iload_n 2, []), (14, .invokevirtual 116, [0, 39, 1, 4, 371, 374, 372, 373, 98]), (17, .astore 4, []), (19, .aload_n 3, []), (20, .ifnull 8, [14]), (23, .aload 4, []), (25, .ifnonnull 5, [16]), (28, .iconst (-1), []), (29, .ireturn, [0]), (30, .iload_n 1, []), (31, .iload_n 2, []), (32, .if_icmp .ne 8, [21]), (35, .bipush (-2), []), (37, .goto 10, [25]), (40, .aload_n 0, []), (41, .aload_n 3, []), (42, .aload 4, []), (44, .invokevirtual 213, [0, 96, 2, 6, 632, 635, 634, 18, 97]), (47, .ireturn, [0])]
def inf_X6_clash : am_I := (yX6_clash, cX6_clash, 5, (some .int), RX6, ta_X6_clash)
def ta_X6_worst : List am_A := [(0, .bipush (-5), []), (2, .istore_n 1, []), (3, .iconst 0, []), (4, .istore_n 2, []), (5, .iconst 0, []), (6, .istore_n 3, []), (7, .iload_n 3, []), (8, .aload_n 0, []), (9, .getfield 14, [6, 0, 304]), (12, .getfield 90, [4, 1, 211]), (15, .if_icmp .ge 74, [48]), (18, .iload_n 3, []), (19, .iconst 1, []), (20, .iadd, []), (21, .istore 4, []), (23, .iload 4, []), (25, .aload_n 0, []), (26, .getfield 14, [6, 0, 304]), (29, .getfield 90, [4, 1, 211]), (32, .if_icmp .ge 51, [46]), (35, .aload_n 0, []), (36, .aload_n 0, []), (37, .getfield 14, [6, 0, 304]), (40, .getfield 93, [4, 0, 209]), (43, .iload_n 3, []), (44, .aaload, [106]), (45, .aload_n 0, []), (46, .getfield 14, [6, 0, 304]), (49, .getfield 93, [4, 0, 209]), (52, .iload 4, []), (54, .aaload, [106]), (55, .invokevirtual 213, [0, 96, 2, 6, 632, 635, 634, 18, 97]), (58, .istore 5, []), (60, .iload 5, []), (62, .iload_n 2, []), (63, .if_icmp .le 14, [44]), (66, .iload 5, []), (68, .istore_n 2, []), (69, .bipush 10, []), (71, .iload_n 3, []), (72, .imul, []), (73, .iload 4, []), (75, .iadd, []), (76, .istore_n 1, []), (77, .iinc 4 1, []), (80, .goto (-57), [15]), (83, .iinc 3 1, []), (86, .goto (-79), [6]), (89, .iload_n 1, []), (90, .ireturn, [0])]
def inf_X6_worst : am_I := (yX6_worst, cX6_worst, 6, (some .int), RX6, ta_X6_worst)
def ta_X6_pass : List am_A := [(0, .iload_n 1, []), (1, .iconst 0, []), (2, .bipush 60, []), (4, .invokestatic 86, [1, 87, 3, 360, 362, 361, 97]), (7, .ifCond .ne 6, [7]), (10, .bipush (-2), []), (12, .ireturn, [0]), (13, .aload_n 0, []), (14, .getfield 14, [6, 0, 304]), (17, .getfield 140, [4, 2, 213]), (20, .iload_n 1, []), (21, .iadd, []), (22, .sipush 9999, []), (25, .if_icmp .le 6, [16]), (28, .bipush (-3), []), (30, .ireturn, [0]), (31, .aload_n 0, []), (32, .invokevirtual 120, [0, 88, 0, 6, 375, 378, 377, 0, 97]), (35, .astore_n 2, []), (36, .iconst 0, []), (37, .istore_n 3, []), (38, .iload_n 3, []), (39, .aload_n 0, []), (40, .getfield 14, [6, 0, 304]), (43, .getfield 90, [4, 1, 211]), (46, .if_icmp .ge 30, [39]), (49, .aload_n 0, []), (50, .getfield 14, [6, 0, 304]), (53, .getfield 93, [4, 0, 209]), (56, .iload_n 3, []), (57, .aaload, [106]), (58, .aload_n 2, []), (59, .aload_n 0, []), (60, .getfield 14, [6, 0, 304]), (63, .getfield 140, [4, 2, 213]), (66, .iload_n 1, []), (67, .invokevirtual 217, [0, 11, 3, 0, 644, 647, 645, 646, 100]), (70, .iinc 3 1, []), (73, .goto (-35), [21]), (76, .aload_n 0, []), (77, .getfield 14, [6, 0, 304]), (80, .dup, []), (81, .getfield 140, [4, 2, 213]), (84, .iload_n 1, []), (85, .iadd, []), (86, .putfield 140, [4, 2, 213]), (89, .aload_n 0, []), (90, .getfield 14, [6, 0, 304]), (93, .getfield 140, [4, 2, 213]), (96, .ireturn, [0])]
def inf_X6_pass : am_I := (yX6_pass, cX6_pass, 4, (some .int), RX6, ta_X6_pass)
def ta_X6_on : List am_A := [(0, .aload_n 0, []), (1, .getfield 14, [6, 0, 304]), (4, .iload_n 2, []), (5, .bipush 20, []), (7, .if_icmp .lt 10, [9]), (10, .iload_n 2, []), (11, .bipush 20, []), (13, .isub, []), (14, .goto 17, [17]), (17, .iload_n 2, []), (18, .bipush 10, []), (20, .if_icmp .lt 10, [16]), (23, .iload_n 2, []), (24, .bipush 10, []), (26, .isub, []), (27, .goto 4, [17]), (30, .iconst (-1), []), (31, .invokevirtual 116, [0, 39, 1, 4, 371, 374, 372, 373, 98]), (34, .astore_n 3, []), (35, .iload_n 2, []), (36, .ifCond .eq 14, [28]), (39, .iload_n 2, []), (40, .iconst 1, []), (41, .if_icmp .eq 9, [28]), (44, .aload_n 3, []), (45, .ifnonnull 5, [28]), (48, .iconst (-1), []), (49, .ireturn, [0]), (50, .iload_n 1, []), (51, .iconst 0, []), (52, .bipush 60, []), (54, .invokestatic 86, [1, 87, 3, 360, 362, 361, 97]), (57, .ifCond .ne 6, [35]), (60, .bipush (-2), []), (62, .ireturn, [0]), (63, .aload_n 0, []), (64, .invokevirtual 120, [0, 88, 0, 6, 375, 378, 377, 0, 97]), (67, .astore 4, []), (69, .aload_n 3, []), (70, .ifnull 63, [69]), (73, .aload_n 0, []), (74, .getfield 61, [6, 10, 314]), (77, .aload_n 3, []), (78, .invokevirtual 221, [0, 2, 1, 0, 659, 662, 660, 661, 100]), (81, .aload_n 0, []), (82, .getfield 61, [6, 10, 314]), (85, .aload 4, []), (87, .aload_n 0, []), (88, .getfield 14, [6, 0, 304]), (91, .getfield 140, [4, 2, 213]), (94, .iload_n 1, []), (95, .invokevirtual 217, [0, 11, 3, 0, 644, 647, 645, 646, 100]), (98, .iload_n 2, []), (99, .bipush 20, []), (101, .if_icmp .lt 24, [65]), (104, .aload_n 0, []), (105, .getfield 61, [6, 10, 314]), (108, .aload 4, []), (110, .aload_n 0, []), (111, .getfield 14, [6, 0, 304]), (114, .getfield 140, [4, 2, 213]), (117, .iload_n 1, []), (118, .iadd, []), (119, .invokevirtual 157, [0, 10, 2, 0, 419, 422, 420, 421, 100]), (122, .goto 10, [68]), (125, .aload_n 0, []), (126, .getfield 61, [6, 10, 314]), (129, .getfield 130, [0, 8, 183]), (132, .ireturn, [0]), (133, .iconst 0, []), (134, .istore 5, []), (136, .iconst 0, []), (137, .istore 6, []), (139, .iconst 0, []), (140, .istore 7, []), (142, .iload 7, []), (144, .aload_n 0, []), (145, .getfield 14, [6, 0, 304]), (148, .getfield 90, [4, 1, 211]), (151, .if_icmp .ge 89, [122]), (154, .aload_n 0, []), (155, .getfield 61, [6, 10, 314]), (158, .aload_n 0, []), (159, .getfield 14, [6, 0, 304]), (162, .getfield 93, [4, 0, 209]), (165, .iload 7, []), (167, .aaload, [106]), (168, .invokevirtual 221, [0, 2, 1, 0, 659, 662, 660, 661, 100]), (171, .aload_n 0, []), (172, .getfield 61, [6, 10, 314]), (175, .aload 4, []), (177, .aload_n 0, []), (178, .getfield 14, [6, 0, 304]), (181, .getfield 140, [4, 2, 213]), (184, .iload_n 1, []), (185, .invokevirtual 217, [0, 11, 3, 0, 644, 647, 645, 646, 100]), (188, .iload 5, []), (190, .aload_n 0, []), (191, .getfield 61, [6, 10, 314]), (194, .getfield 133, [0, 9, 186]), (197, .ifCond .eq 10, [105]), (200, .iconst 1, []), (201, .iload 7, []), (203, .ishl, []), (204, .goto 4, [106]), (207, .iconst 0, []), (208, .ior, []), (209, .istore 5, []), (211, .iload 6, []), (213, .aload_n 0, []), (214, .getfield 61, [6, 10, 314]), (217, .aload 4, []), (219, .aload_n 0, []), (220, .getfield 14, [6, 0, 304]), (223, .getfield 140, [4, 2, 213]), (226, .iload_n 1, []), (227, .iadd, []), (228, .invokevirtual 157, [0, 10, 2, 0, 419, 422, 420, 421, 100]), (231, .iadd, []), (232, .istore 6, []), (234, .iinc 7 1, []), (237, .goto (-95), [75]), (240, .iload_n 2, []), (241, .ifCond .ne 8, [126]), (244, .iload 5, []), (246, .goto 5, [127]), (249, .iload 6, []), (251, .ireturn, [0])]
def inf_X6_on : am_I := (yX6_on, cX6_on, 8, (some .int), RX6, ta_X6_on)
def ta_X6_empty : List am_A := [(0, .aload_n 0, []), (1, .getfield 14, [6, 0, 304]), (4, .iload_n 1, []), (5, .invokevirtual 116, [0, 39, 1, 4, 371, 374, 372, 373, 98]), (8, .astore_n 2, []), (9, .aload_n 2, []), (10, .ifnonnull 5, [9]), (13, .iconst (-1), []), (14, .ireturn, [0]), (15, .aload_n 0, []), (16, .invokevirtual 120, [0, 88, 0, 6, 375, 378, 377, 0, 97]), (19, .astore_n 3, []), (20, .aload_n 0, []), (21, .getfield 61, [6, 10, 314]), (24, .aload_n 2, []), (25, .invokevirtual 221, [0, 2, 1, 0, 659, 662, 660, 661, 100]), (28, .iconst 0, []), (29, .istore 4, []), (31, .iload 4, []), (33, .bipush 99, []), (35, .if_icmp .gt 40, [38]), (38, .aload_n 0, []), (39, .getfield 61, [6, 10, 314]), (42, .getfield 133, [0, 9, 186]), (45, .ifCond .eq 6, [27]), (48, .iload 4, []), (50, .ireturn, [0]), (51, .aload_n 0, []), (52, .getfield 61, [6, 10, 314]), (55, .aload_n 3, []), (56, .aload_n 0, []), (57, .getfield 14, [6, 0, 304]), (60, .getfield 140, [4, 2, 213]), (63, .iload 4, []), (65, .iadd, []), (66, .invokevirtual 225, [0, 12, 2, 0, 670, 651, 649, 650, 100]), (69, .iinc 4 1, []), (72, .goto (-41), [18]), (75, .bipush (-5), []), (77, .ireturn, [0])]
def inf_X6_empty : am_I := (yX6_empty, cX6_empty, 5, (some .int), RX6, ta_X6_empty)
def ta_X6_lower : List am_A := [(0, .aload_n 0, []), (1, .getfield 14, [6, 0, 304]), (4, .iload_n 1, []), (5, .invokevirtual 116, [0, 39, 1, 4, 371, 374, 372, 373, 98]), (8, .astore_n 3, []), (9, .aload_n 3, []), (10, .ifnull 12, [12]), (13, .iload_n 2, []), (14, .iconst 0, []), (15, .iconst 1, []), (16, .invokestatic 86, [1, 87, 3, 360, 362, 361, 97]), (19, .ifCond .ne 5, [14]), (22, .iconst (-1), []), (23, .ireturn, [0]), (24, .aload_n 0, []), (25, .invokevirtual 120, [0, 88, 0, 6, 375, 378, 377, 0, 97]), (28, .getfield 151, [1, 3, 273]), (31, .istore 4, []), (33, .aload_n 0, []), (34, .aload_n 0, []), (35, .getfield 14, [6, 0, 304]), (38, .iload 4, []), (40, .iload_n 1, []), (41, .invokevirtual 206, [0, 89, 3, 6, 587, 590, 589, 13, 97]), (44, .aload_n 0, []), (45, .getfield 61, [6, 10, 314]), (48, .aload_n 3, []), (49, .invokevirtual 221, [0, 2, 1, 0, 659, 662, 660, 661, 100]), (52, .iconst 0, []), (53, .istore 5, []), (55, .iconst 0, []), (56, .istore 6, []), (58, .iconst 0, []), (59, .istore 7, []), (61, .iload 7, []), (63, .bipush 10, []), (65, .if_icmp .ge 50, [58]), (68, .aload_n 0, []), (69, .getfield 61, [6, 10, 314]), (72, .iload 7, []), (74, .putfield 101, [0, 4, 172]), (77, .aload_n 0, []), (78, .aload_n 0, []), (79, .getfield 61, [6, 10, 314]), (82, .iload 4, []), (84, .invokevirtual 229, [0, 97, 2, 6, 675, 678, 677, 19, 97]), (87, .istore 8, []), (89, .iload 7, []), (91, .ifCond .eq 10, [52]), (94, .iload 8, []), (96, .iload 6, []), (98, .if_icmp .ge 11, [56]), (101, .iload 7, []), (103, .istore 5, []), (105, .iload 8, []), (107, .istore 6, []), (109, .iinc 7 1, []), (112, .goto (-51), [34]), (115, .iload_n 2, []), (116, .ifCond .ne 8, [62]), (119, .iload 5, []), (121, .goto 5, [63]), (124, .iload 6, []), (126, .ireturn, [0])]
def inf_X6_lower : am_I := (yX6_lower, cX6_lower, 9, (some .int), RX6, ta_X6_lower)
def ta_X6_sooner : List am_A := [(0, .aload_n 0, []), (1, .getfield 14, [6, 0, 304]), (4, .iload_n 1, []), (5, .invokevirtual 116, [0, 39, 1, 4, 371, 374, 372, 373, 98]), (8, .astore_n 3, []), (9, .aload_n 3, []), (10, .ifnull 12, [12]), (13, .iload_n 2, []), (14, .iconst 0, []), (15, .iconst 1, []), (16, .invokestatic 86, [1, 87, 3, 360, 362, 361, 97]), (19, .ifCond .ne 5, [14]), (22, .iconst (-1), []), (23, .ireturn, [0]), (24, .aload_n 0, []), (25, .invokevirtual 120, [0, 88, 0, 6, 375, 378, 377, 0, 97]), (28, .getfield 151, [1, 3, 273]), (31, .istore 4, []), (33, .aload_n 0, []), (34, .aload_n 0, []), (35, .getfield 14, [6, 0, 304]), (38, .iload 4, []), (40, .iload_n 1, []), (41, .invokevirtual 206, [0, 89, 3, 6, 587, 590, 589, 13, 97]), (44, .aload_n 0, []), (45, .getfield 61, [6, 10, 314]), (48, .aload_n 3, []), (49, .invokevirtual 221, [0, 2, 1, 0, 659, 662, 660, 661, 100]), (52, .iconst 0, []), (53, .istore 5, []), (55, .iconst 0, []), (56, .istore 6, []), (58, .iconst 0, []), (59, .istore 7, []), (61, .iload 7, []), (63, .bipush 24, []), (65, .if_icmp .ge 50, [58]), (68, .aload_n 0, []), (69, .getfield 61, [6, 10, 314]), (72, .iload 7, []), (74, .putfield 107, [0, 6, 177]), (77, .aload_n 0, []), (78, .aload_n 0, []), (79, .getfield 61, [6, 10, 314]), (82, .iload 4, []), (84, .invokevirtual 229, [0, 97, 2, 6, 675, 678, 677, 19, 97]), (87, .istore 8, []), (89, .iload 7, []), (91, .ifCond .eq 10, [52]), (94, .iload 8, []), (96, .iload 6, []), (98, .if_icmp .ge 11, [56]), (101, .iload 7, []), (103, .istore 5, []), (105, .iload 8, []), (107, .istore 6, []), (109, .iinc 7 1, []), (112, .goto (-51), [34]), (115, .iload_n 2, []), (116, .ifCond .ne 8, [62]), (119, .iload 5, []), (121, .goto 5, [63]), (124, .iload 6, []), (126, .ireturn, [0])]
def inf_X6_sooner : am_I := (yX6_sooner, cX6_sooner, 9, (some .int), RX6, ta_X6_sooner)
def ta_X6_let : List am_A := [(0, .iload_n 1, []), (1, .iconst 0, []), (2, .iconst 1, []), (3, .invokestatic 86, [1, 87, 3, 360, 362, 361, 97]), (6, .ifCond .ne 5, [7]), (9, .iconst (-1), []), (10, .ireturn, [0]), (11, .aload_n 0, []), (12, .invokevirtual 232, [0, 98, 0, 6, 687, 690, 689, 20, 97]), (15, .aload_n 0, []), (16, .invokevirtual 235, [0, 99, 0, 6, 691, 694, 693, 21, 97]), (19, .aload_n 0, []), (20, .getfield 14, [6, 0, 304]), (23, .invokevirtual 189, [0, 40, 0, 4, 579, 582, 580, 581, 98]), (26, .istore_n 2, []), (27, .iconst 1, []), (28, .aload_n 0, []), (29, .getfield 14, [6, 0, 304]), (32, .getfield 90, [4, 1, 211]), (35, .ishl, []), (36, .iconst 1, []), (37, .isub, []), (38, .istore_n 3, []), (39, .iconst 0, []), (40, .istore 4, []), (42, .iconst 0, []), (43, .istore 5, []), (45, .iconst 1, []), (46, .istore 6, []), (48, .iload 6, []), (50, .iload_n 3, []), (51, .if_icmp .gt 51, [54]), (54, .iload 6, []), (56, .iload_n 2, []), (57, .iand, []), (58, .ifCond .ne 38, [52]), (61, .aload_n 0, []), (62, .iload 6, []), (64, .invokevirtual 238, [0, 100, 1, 6, 695, 698, 697, 22, 97]), (67, .ifCond .ne 6, [41]), (70, .goto 26, [52]), (73, .aload_n 0, []), (74, .iload 6, []), (76, .invokevirtual 241, [0, 101, 1, 6, 699, 702, 701, 23, 97]), (79, .istore 7, []), (81, .iload 7, []), (83, .iload 5, []), (85, .if_icmp .le 11, [52]), (88, .iload 6, []), (90, .istore 4, []), (92, .iload 7, []), (94, .istore 5, []), (96, .iinc 6 1, []), (99, .goto (-51), [29]), (102, .iload_n 1, []), (103, .ifCond .ne 8, [58]), (106, .iload 4, []), (108, .goto 5, [59]), (111, .iload 5, []), (113, .ireturn, [0])]
def inf_X6_let : am_I := (yX6_let, cX6_let, 8, (some .int), RX6, ta_X6_let)
def ta_X6_whoEvict : List am_A := [(0, .aload_n 0, []), (1, .invokevirtual 232, [0, 98, 0, 6, 687, 690, 689, 20, 97]), (4, .iconst 1, []), (5, .aload_n 0, []), (6, .getfield 14, [6, 0, 304]), (9, .getfield 90, [4, 1, 211]), (12, .ishl, []), (13, .iconst 1, []), (14, .isub, []), (15, .istore_n 1, []), (16, .iload_n 1, []), (17, .istore_n 2, []), (18, .iconst 0, []), (19, .istore_n 3, []), (20, .iload_n 3, []), (21, .iload_n 1, []), (22, .if_icmp .gt 34, [34]), (25, .iload_n 3, []), (26, .invokestatic 244, [1, 217, 1, 606, 415, 414, 106]), (29, .iload_n 2, []), (30, .invokestatic 244, [1, 217, 1, 606, 415, 414, 106]), (33, .if_icmp .ge 17, [32]), (36, .aload_n 0, []), (37, .iload_n 1, []), (38, .iload_n 3, []), (39, .iconst (-1), []), (40, .ixor, []), (41, .iand, []), (42, .invokevirtual 238, [0, 100, 1, 6, 695, 698, 697, 22, 97]), (45, .ifCond .eq 5, [32]), (48, .iload_n 3, []), (49, .istore_n 2, []), (50, .iinc 3 1, []), (53, .goto (-33), [14]), (56, .iload_n 2, []), (57, .ireturn, [0])]
def inf_X6_whoEvict : am_I := (yX6_whoEvict, cX6_whoEvict, 4, (some .int), RX6, ta_X6_whoEvict)
def ta_X6_ways : List am_A := [(0, .aload_n 0, []), (1, .invokevirtual 120, [0, 88, 0, 6, 375, 378, 377, 0, 97]), (4, .getfield 151, [1, 3, 273]), (7, .istore_n 2, []), (8, .iload_n 1, []), (9, .iconst 0, []), (10, .iload_n 2, []), (11, .iconst 1, []), (12, .isub, []), (13, .invokestatic 86, [1, 87, 3, 360, 362, 361, 97]), (16, .ifCond .ne 7, [13]), (19, .ldc2_w 249, [9223372036854775808, 711]), (22, .lreturn, []), (23, .aload_n 0, []), (24, .aload_n 0, []), (25, .getfield 14, [6, 0, 304]), (28, .iload_n 2, []), (29, .iconst (-1), []), (30, .invokevirtual 206, [0, 89, 3, 6, 587, 590, 589, 13, 97]), (33, .iconst 0, []), (34, .istore_n 3, []), (35, .iload_n 3, []), (36, .aload_n 0, []), (37, .getfield 77, [6, 15, 319]), (40, .arraylength, []), (41, .if_icmp .ge 35, [44]), (44, .aload_n 0, []), (45, .getfield 77, [6, 15, 319]), (48, .iload_n 3, []), (49, .iload_n 3, []), (50, .iload_n 1, []), (51, .if_icmp .ne 17, [40]), (54, .aload_n 0, []), (55, .iload_n 3, []), (56, .iconst 0, []), (57, .iload_n 2, []), (58, .invokevirtual 251, [0, 92, 3, 6, 712, 715, 714, 24, 97]), (61, .ifCond .eq 7, [40]), (64, .lconst 1, []), (65, .goto 4, [41]), (68, .lconst 0, []), (69, .lastore, []), (70, .iinc 3 1, []), (73, .goto (-38), [21]), (76, .iconst 1, []), (77, .istore_n 3, []), (78, .iload_n 3, []), (79, .bipush 24, []), (81, .if_icmp .ge 15, [55]), (84, .aload_n 0, []), (85, .iload_n 3, []), (86, .iload_n 2, []), (87, .invokevirtual 254, [0, 102, 2, 6, 716, 719, 718, 25, 97]), (90, .iinc 3 1, []), (93, .goto (-15), [46]), (96, .lconst 0, []), (97, .lstore_n 3, []), (98, .iconst 0, []), (99, .istore 5, []), (101, .iload 5, []), (103, .aload_n 0, []), (104, .getfield 77, [6, 15, 319]), (107, .arraylength, []), (108, .if_icmp .ge 19, [73]), (111, .lload_n 3, []), (112, .aload_n 0, []), (113, .getfield 77, [6, 15, 319]), (116, .iload 5, []), (118, .laload, []), (119, .ladd, []), (120, .lstore_n 3, []), (121, .iinc 5 1, []), (124, .goto (-23), [59]), (127, .lload_n 3, []), (128, .lreturn, [])]
def inf_X6_ways : am_I := (yX6_ways, cX6_ways, 6, (some .long), RX6, ta_X6_ways)
def ta_X6_outs : List am_A := [(0, .aload_n 0, []), (1, .invokevirtual 120, [0, 88, 0, 6, 375, 378, 377, 0, 97]), (4, .getfield 151, [1, 3, 273]), (7, .istore_n 2, []), (8, .iload_n 1, []), (9, .iconst 0, []), (10, .iload_n 2, []), (11, .iconst 1, []), (12, .isub, []), (13, .invokestatic 86, [1, 87, 3, 360, 362, 361, 97]), (16, .ifCond .ne 5, [13]), (19, .iconst (-1), []), (20, .ireturn, [0]), (21, .aload_n 0, []), (22, .aload_n 0, []), (23, .getfield 14, [6, 0, 304]), (26, .iload_n 2, []), (27, .iconst (-1), []), (28, .invokevirtual 206, [0, 89, 3, 6, 587, 590, 589, 13, 97]), (31, .iconst 1, []), (32, .iload_n 1, []), (33, .ishl, []), (34, .aload_n 0, []), (35, .iconst 0, []), (36, .iload_n 2, []), (37, .invokevirtual 210, [0, 91, 2, 6, 602, 605, 604, 15, 97]), (40, .iand, []), (41, .istore_n 3, []), (42, .iconst 1, []), (43, .istore 4, []), (45, .iload 4, []), (47, .bipush 24, []), (49, .if_icmp .ge 27, [50]), (52, .iload_n 3, []), (53, .iload_n 3, []), (54, .iconst 1, []), (55, .ishl, []), (56, .ior, []), (57, .iload_n 3, []), (58, .iconst 1, []), (59, .ishr, []), (60, .ior, []), (61, .aload_n 0, []), (62, .iload 4, []), (64, .iload_n 2, []), (65, .invokevirtual 210, [0, 91, 2, 6, 602, 605, 604, 15, 97]), (68, .iand, []), (69, .istore_n 3, []), (70, .iinc 4 1, []), (73, .goto (-28), [30]), (76, .iload_n 3, []), (77, .ireturn, [0])]
def inf_X6_outs : am_I := (yX6_outs, cX6_outs, 5, (some .int), RX6, ta_X6_outs)
def ta_X6_see : List am_A := [(0, .iload_n 1, []), (1, .iconst (-1), []), (2, .if_icmp .ne 16, [10]), (5, .aload_n 0, []), (6, .getfield 14, [6, 0, 304]), (9, .getfield 258, [4, 4, 217]), (12, .iconst 0, []), (13, .putfield 262, [3, 4, 143]), (16, .iconst 0, []), (17, .ireturn, [0]), (18, .iload_n 1, []), (19, .iconst 0, []), (20, .bipush 9, []), (22, .invokestatic 86, [1, 87, 3, 360, 362, 361, 97]), (25, .ifCond .eq 28, [27]), (28, .iload_n 2, []), (29, .iconst 0, []), (30, .bipush 23, []), (32, .invokestatic 86, [1, 87, 3, 360, 362, 361, 97]), (35, .ifCond .eq 18, [27]), (38, .iload 4, []), (40, .iconst 0, []), (41, .bipush 20, []), (43, .invokestatic 86, [1, 87, 3, 360, 362, 361, 97]), (46, .ifCond .eq 7, [27]), (49, .iconst 1, []), (50, .goto 4, [28]), (53, .iconst 0, []), (54, .istore 5, []), (56, .iload 5, []), (58, .ifCond .ne 6, [33]), (61, .bipush (-2), []), (63, .ireturn, [0]), (64, .aload_n 0, []), (65, .getfield 14, [6, 0, 304]), (68, .getfield 258, [4, 4, 217]), (71, .iload_n 1, []), (72, .iload_n 2, []), (73, .iload_n 3, []), (74, .ifCond .eq 7, [42]), (77, .iconst 1, []), (78, .goto 4, [43]), (81, .iconst 0, []), (82, .iload 4, []), (84, .invokevirtual 265, [0, 36, 4, 3, 729, 732, 730, 731, 99]), (87, .ifCond .eq 16, [51]), (90, .aload_n 0, []), (91, .getfield 14, [6, 0, 304]), (94, .getfield 258, [4, 4, 217]), (97, .getfield 262, [3, 4, 143]), (100, .goto 5, [52]), (103, .bipush (-4), []), (105, .ireturn, [0])]
def inf_X6_see : am_I := (yX6_see, cX6_see, 6, (some .int), RX6, ta_X6_see)
def ta_X6_can : List am_A := [(0, .aload_n 0, []), (1, .getfield 14, [6, 0, 304]), (4, .iload_n 1, []), (5, .invokevirtual 116, [0, 39, 1, 4, 371, 374, 372, 373, 98]), (8, .astore_n 3, []), (9, .aload_n 3, []), (10, .ifnull 12, [12]), (13, .iload_n 2, []), (14, .iconst 0, []), (15, .iconst 1, []), (16, .invokestatic 86, [1, 87, 3, 360, 362, 361, 97]), (19, .ifCond .ne 5, [14]), (22, .iconst (-1), []), (23, .ireturn, [0]), (24, .aload_n 0, []), (25, .invokevirtual 120, [0, 88, 0, 6, 375, 378, 377, 0, 97]), (28, .astore 4, []), (30, .iconst 0, []), (31, .istore 5, []), (33, .iconst 0, []), (34, .istore 6, []), (36, .iload 6, []), (38, .aload_n 0, []), (39, .getfield 14, [6, 0, 304]), (42, .getfield 90, [4, 1, 211]), (45, .if_icmp .ge 49, [48]), (48, .iload 6, []), (50, .iload_n 1, []), (51, .if_icmp .eq 37, [46]), (54, .iload 5, []), (56, .aload_n 0, []), (57, .aload_n 0, []), (58, .getfield 14, [6, 0, 304]), (61, .getfield 93, [4, 0, 209]), (64, .iload 6, []), (66, .aaload, [106]), (67, .aload_n 0, []), (68, .getfield 14, [6, 0, 304]), (71, .getfield 93, [4, 0, 209]), (74, .iload 6, []), (76, .aaload, [106]), (77, .getfield 101, [0, 4, 172]), (80, .aload 4, []), (82, .invokevirtual 267, [0, 103, 3, 6, 737, 740, 739, 26, 97]), (85, .ior, []), (86, .istore 5, []), (88, .iinc 6 1, []), (91, .goto (-55), [21]), (94, .aload_n 0, []), (95, .invokevirtual 271, [0, 105, 0, 6, 746, 749, 748, 28, 97]), (98, .istore 6, []), (100, .iconst 0, []), (101, .istore 7, []), (103, .bipush (-5), []), (105, .istore 8, []), (107, .iconst 0, []), (108, .istore 9, []), (110, .iload 9, []), (112, .bipush 10, []), (114, .if_icmp .ge 43, [78]), (117, .iload 5, []), (119, .aload_n 0, []), (120, .aload_n 3, []), (121, .iload 9, []), (123, .aload 4, []), (125, .invokevirtual 267, [0, 103, 3, 6, 737, 740, 739, 26, 97]), (128, .ior, []), (129, .iload 6, []), (131, .if_icmp .ne 20, [76]), (134, .iload 7, []), (136, .ifCond .ne 8, [73]), (139, .iload 9, []), (141, .goto 5, [74]), (144, .iload 8, []), (146, .istore 8, []), (148, .iinc 7 1, []), (151, .iinc 9 1, []), (154, .goto (-44), [57]), (157, .iload_n 2, []), (158, .ifCond .ne 8, [82]), (161, .iload 7, []), (163, .goto 5, [83]), (166, .iload 8, []), (168, .ireturn, [0])]
def inf_X6_can : am_I := (yX6_can, cX6_can, 10, (some .int), RX6, ta_X6_can)
def ta_X6_odds : List am_A := [(0, .iload_n 1, []), (1, .iconst 0, []), (2, .bipush 23, []), (4, .invokestatic 86, [1, 87, 3, 360, 362, 361, 97]), (7, .ifCond .eq 12, [10]), (10, .iload_n 2, []), (11, .iconst 0, []), (12, .iconst 1, []), (13, .invokestatic 86, [1, 87, 3, 360, 362, 361, 97]), (16, .ifCond .ne 7, [12]), (19, .ldc2_w 249, [9223372036854775808, 711]), (22, .lreturn, []), (23, .aload_n 0, []), (24, .invokevirtual 120, [0, 88, 0, 6, 375, 378, 377, 0, 97]), (27, .getfield 151, [1, 3, 273]), (30, .istore_n 3, []), (31, .aload_n 0, []), (32, .aload_n 0, []), (33, .getfield 14, [6, 0, 304]), (36, .iload_n 3, []), (37, .iconst (-1), []), (38, .invokevirtual 206, [0, 89, 3, 6, 587, 590, 589, 13, 97]), (41, .aload_n 0, []), (42, .iload_n 1, []), (43, .iload_n 3, []), (44, .invokevirtual 210, [0, 91, 2, 6, 602, 605, 604, 15, 97]), (47, .invokestatic 244, [1, 217, 1, 606, 415, 414, 106]), (50, .iload_n 3, []), (51, .iload_n 2, []), (52, .invokestatic 274, [1, 106, 3, 754, 756, 755, 97]), (55, .lreturn, [])]
def inf_X6_odds : am_I := (yX6_odds, cX6_odds, 4, (some .long), RX6, ta_X6_odds)
def ta_X6_mean : List am_A := [(0, .aload_n 0, []), (1, .getfield 14, [6, 0, 304]), (4, .getfield 90, [4, 1, 211]), (7, .aload_n 0, []), (8, .getfield 14, [6, 0, 304]), (11, .invokevirtual 189, [0, 40, 0, 4, 579, 582, 580, 581, 98]), (14, .invokestatic 244, [1, 217, 1, 606, 415, 414, 106]), (17, .isub, []), (18, .istore_n 2, []), (19, .iload_n 2, []), (20, .ifCond .eq 12, [16]), (23, .iload_n 1, []), (24, .iconst 0, []), (25, .iconst 1, []), (26, .invokestatic 86, [1, 87, 3, 360, 362, 361, 97]), (29, .ifCond .ne 7, [18]), (32, .ldc2_w 249, [9223372036854775808, 711]), (35, .lreturn, []), (36, .aload_n 0, []), (37, .aload_n 0, []), (38, .getfield 14, [6, 0, 304]), (41, .invokevirtual 199, [0, 95, 1, 6, 611, 614, 613, 17, 97]), (44, .iload_n 2, []), (45, .iload_n 1, []), (46, .invokestatic 274, [1, 106, 3, 754, 756, 755, 97]), (49, .lreturn, [])]
def inf_X6_mean : am_I := (yX6_mean, cX6_mean, 3, (some .long), RX6, ta_X6_mean)
def ta_X6_lease : List am_A := [(0, .iload_n 1, []), (1, .iconst (-1), []), (2, .if_icmp .ne 16, [10]), (5, .aload_n 0, []), (6, .getfield 14, [6, 0, 304]), (9, .getfield 278, [4, 5, 219]), (12, .iconst 0, []), (13, .putfield 262, [3, 4, 143]), (16, .iconst 0, []), (17, .ireturn, [0]), (18, .aload_n 0, []), (19, .getfield 14, [6, 0, 304]), (22, .iload_n 1, []), (23, .invokevirtual 116, [0, 39, 1, 4, 371, 374, 372, 373, 98]), (26, .ifnonnull 5, [17]), (29, .iconst (-1), []), (30, .ireturn, [0]), (31, .iload_n 2, []), (32, .iconst 0, []), (33, .bipush 9, []), (35, .invokestatic 86, [1, 87, 3, 360, 362, 361, 97]), (38, .ifCond .eq 13, [27]), (41, .iload_n 3, []), (42, .iconst 0, []), (43, .bipush 23, []), (45, .invokestatic 86, [1, 87, 3, 360, 362, 361, 97]), (48, .ifCond .ne 6, [29]), (51, .bipush (-2), []), (53, .ireturn, [0]), (54, .aload_n 0, []), (55, .getfield 14, [6, 0, 304]), (58, .getfield 278, [4, 5, 219]), (61, .iload_n 1, []), (62, .iload_n 2, []), (63, .iload_n 3, []), (64, .iconst 0, []), (65, .invokevirtual 265, [0, 36, 4, 3, 729, 732, 730, 731, 99]), (68, .ifCond .eq 16, [43]), (71, .aload_n 0, []), (72, .getfield 14, [6, 0, 304]), (75, .getfield 278, [4, 5, 219]), (78, .getfield 262, [3, 4, 143]), (81, .goto 5, [44]), (84, .bipush (-4), []), (86, .ireturn, [0])]
def inf_X6_lease : am_I := (yX6_lease, cX6_lease, 4, (some .int), RX6, ta_X6_lease)
def ta_X6_leased : List am_A := [(0, .iload_n 1, []), (1, .iconst 0, []), (2, .iconst 1, []), (3, .invokestatic 86, [1, 87, 3, 360, 362, 361, 97]), (6, .ifCond .ne 5, [7]), (9, .iconst (-1), []), (10, .ireturn, [0]), (11, .aload_n 0, []), (12, .getfield 55, [6, 9, 313]), (15, .aload_n 0, []), (16, .getfield 14, [6, 0, 304]), (19, .invokevirtual 281, [0, 41, 1, 4, 769, 772, 770, 771, 98]), (22, .iconst 0, []), (23, .istore_n 2, []), (24, .iload_n 2, []), (25, .aload_n 0, []), (26, .getfield 14, [6, 0, 304]), (29, .getfield 278, [4, 5, 219]), (32, .getfield 262, [3, 4, 143]), (35, .if_icmp .ge 65, [50]), (38, .aload_n 0, []), (39, .getfield 55, [6, 9, 313]), (42, .aload_n 0, []), (43, .getfield 14, [6, 0, 304]), (46, .getfield 278, [4, 5, 219]), (49, .getfield 284, [3, 0, 135]), (52, .iload_n 2, []), (53, .iaload, []), (54, .invokevirtual 116, [0, 39, 1, 4, 371, 374, 372, 373, 98]), (57, .astore_n 3, []), (58, .aload_n 3, []), (59, .ifnull 35, [48]), (62, .aload_n 3, []), (63, .aload_n 0, []), (64, .getfield 14, [6, 0, 304]), (67, .getfield 278, [4, 5, 219]), (70, .getfield 287, [3, 1, 137]), (73, .iload_n 2, []), (74, .iaload, []), (75, .putfield 101, [0, 4, 172]), (78, .aload_n 3, []), (79, .aload_n 0, []), (80, .getfield 14, [6, 0, 304]), (83, .getfield 278, [4, 5, 219]), (86, .getfield 290, [3, 2, 139]), (89, .iload_n 2, []), (90, .iaload, []), (91, .putfield 107, [0, 6, 177]), (94, .iinc 2 1, []), (97, .goto (-73), [14]), (100, .iload_n 1, []), (101, .ifCond .ne 14, [57]), (104, .aload_n 0, []), (105, .aload_n 0, []), (106, .getfield 55, [6, 9, 313]), (109, .invokevirtual 195, [0, 94, 1, 6, 607, 610, 609, 16, 97]), (112, .goto 11, [61]), (115, .aload_n 0, []), (116, .aload_n 0, []), (117, .getfield 55, [6, 9, 313]), (120, .invokevirtual 199, [0, 95, 1, 6, 611, 614, 613, 17, 97]), (123, .ireturn, [0])]
def inf_X6_leased : am_I := (yX6_leased, cX6_leased, 4, (some .int), RX6, ta_X6_leased)
def ta_X6_book : List am_A := [(0, .iload_n 1, []), (1, .iconst (-1), []), (2, .if_icmp .ne 16, [10]), (5, .aload_n 0, []), (6, .getfield 14, [6, 0, 304]), (9, .getfield 293, [4, 6, 221]), (12, .iconst 0, []), (13, .putfield 262, [3, 4, 143]), (16, .iconst 0, []), (17, .ireturn, [0]), (18, .aload_n 0, []), (19, .getfield 14, [6, 0, 304]), (22, .iload_n 1, []), (23, .invokevirtual 116, [0, 39, 1, 4, 371, 374, 372, 373, 98]), (26, .ifnonnull 5, [17]), (29, .iconst (-1), []), (30, .ireturn, [0]), (31, .iload_n 2, []), (32, .iconst 0, []), (33, .sipush 9999, []), (36, .invokestatic 86, [1, 87, 3, 360, 362, 361, 97]), (39, .ifCond .ne 6, [24]), (42, .bipush (-2), []), (44, .ireturn, [0]), (45, .aload_n 0, []), (46, .getfield 14, [6, 0, 304]), (49, .getfield 293, [4, 6, 221]), (52, .iload_n 1, []), (53, .iload_n 2, []), (54, .iconst 0, []), (55, .iconst 0, []), (56, .invokevirtual 265, [0, 36, 4, 3, 729, 732, 730, 731, 99]), (59, .ifCond .eq 16, [38]), (62, .aload_n 0, []), (63, .getfield 14, [6, 0, 304]), (66, .getfield 293, [4, 6, 221]), (69, .getfield 262, [3, 4, 143]), (72, .goto 5, [39]), (75, .bipush (-4), []), (77, .ireturn, [0])]
def inf_X6_book : am_I := (yX6_book, cX6_book, 3, (some .int), RX6, ta_X6_book)
def ta_X6_looked : List am_A := [(0, .iconst 0, []), (1, .istore_n 1, []), (2, .iload_n 1, []), (3, .aload_n 0, []), (4, .getfield 14, [6, 0, 304]), (7, .getfield 293, [4, 6, 221]), (10, .getfield 262, [3, 4, 143]), (13, .if_icmp .ge 54, [33]), (16, .aload_n 0, []), (17, .getfield 14, [6, 0, 304]), (20, .aload_n 0, []), (21, .getfield 14, [6, 0, 304]), (24, .getfield 293, [4, 6, 221]), (27, .getfield 284, [3, 0, 135]), (30, .iload_n 1, []), (31, .iaload, []), (32, .invokevirtual 116, [0, 39, 1, 4, 371, 374, 372, 373, 98]), (35, .astore_n 2, []), (36, .aload_n 2, []), (37, .ifnull 22, [29]), (40, .aload_n 2, []), (41, .getfield 130, [0, 8, 183]), (44, .aload_n 0, []), (45, .getfield 14, [6, 0, 304]), (48, .getfield 293, [4, 6, 221]), (51, .getfield 287, [3, 1, 137]), (54, .iload_n 1, []), (55, .iaload, []), (56, .if_icmp .eq 5, [31]), (59, .iload_n 1, []), (60, .ireturn, [0]), (61, .iinc 1 1, []), (64, .goto (-62), [2]), (67, .bipush (-5), []), (69, .ireturn, [0])]
def inf_X6_looked : am_I := (yX6_looked, cX6_looked, 3, (some .int), RX6, ta_X6_looked)
def ta_X6_judge : List am_A := [(0, .iload_n 1, []), (1, .iconst 0, []), (2, .iconst 5, []), (3, .invokestatic 86, [1, 87, 3, 360, 362, 361, 97]), (6, .ifCond .ne 5, [7]), (9, .iconst (-1), []), (10, .ireturn, [0]), (11, .aload_n 0, []), (12, .getfield 44, [6, 6, 310]), (15, .iload_n 1, []), (16, .aaload, [105]), (17, .astore_n 3, []), (18, .aload_n 3, []), (19, .getfield 296, [5, 1, 294]), (22, .iconst (-1), []), (23, .if_icmp .eq 14, [22]), (26, .aload_n 3, []), (27, .getfield 296, [5, 1, 294]), (30, .iconst 3, []), (31, .if_icmp .eq 6, [22]), (34, .bipush (-12), []), (36, .ireturn, [0]), (37, .iload_n 2, []), (38, .ifCond .ge 6, [26]), (41, .bipush 100, []), (43, .ireturn, [0]), (44, .aload_n 0, []), (45, .invokevirtual 120, [0, 88, 0, 6, 375, 378, 377, 0, 97]), (48, .getfield 151, [1, 3, 273]), (51, .istore 4, []), (53, .aload_n 0, []), (54, .aload_n 0, []), (55, .getfield 14, [6, 0, 304]), (58, .iload 4, []), (60, .iconst (-1), []), (61, .invokevirtual 206, [0, 89, 3, 6, 587, 590, 589, 13, 97]), (64, .iconst 0, []), (65, .istore 5, []), (67, .iload 5, []), (69, .bipush 24, []), (71, .if_icmp .ge 51, [68]), (74, .iload_n 2, []), (75, .aload_n 3, []), (76, .getfield 299, [5, 2, 296]), (79, .iload 5, []), (81, .isub, []), (82, .if_icmp .lt 9, [51]), (85, .bipush 100, []), (87, .iload 5, []), (89, .iadd, []), (90, .ireturn, [0]), (91, .aload_n 3, []), (92, .getfield 300, [5, 0, 292]), (95, .iload_n 2, []), (96, .iload 5, []), (98, .iadd, []), (99, .laload, []), (100, .aload_n 0, []), (101, .iload 5, []), (103, .iload 4, []), (105, .invokevirtual 210, [0, 91, 2, 6, 602, 605, 604, 15, 97]), (108, .i2l, []), (109, .lcmp, []), (110, .ifCond .eq 6, [66]), (113, .iload 5, []), (115, .ireturn, [0]), (116, .iinc 5 1, []), (119, .goto (-52), [38]), (122, .bipush (-5), []), (124, .ireturn, [0])]
def inf_X6_judge : am_I := (yX6_judge, cX6_judge, 6, (some .int), RX6, ta_X6_judge)
def ta_X6_image : List am_A := [(0, .aload_n 0, []), (1, .getfield 18, [6, 1, 305]), (4, .aload_n 0, []), (5, .getfield 14, [6, 0, 304]), (8, .invokevirtual 281, [0, 41, 1, 4, 769, 772, 770, 771, 98]), (11, .aload_n 0, []), (12, .iconst 1, []), (13, .putfield 21, [6, 2, 306]), (16, .aload_n 0, []), (17, .getfield 14, [6, 0, 304]), (20, .getfield 90, [4, 1, 211]), (23, .ireturn, [0])]
def inf_X6_image : am_I := (yX6_image, cX6_image, 1, (some .int), RX6, ta_X6_image)
def ta_X6_undo : List am_A := [(0, .aload_n 0, []), (1, .getfield 21, [6, 2, 306]), (4, .ifCond .ne 6, [5]), (7, .bipush (-3), []), (9, .ireturn, [0]), (10, .aload_n 0, []), (11, .getfield 14, [6, 0, 304]), (14, .aload_n 0, []), (15, .getfield 18, [6, 1, 305]), (18, .invokevirtual 281, [0, 41, 1, 4, 769, 772, 770, 771, 98]), (21, .aload_n 0, []), (22, .getfield 14, [6, 0, 304]), (25, .getfield 90, [4, 1, 211]), (28, .ireturn, [0])]
def inf_X6_undo : am_I := (yX6_undo, cX6_undo, 1, (some .int), RX6, ta_X6_undo)
def ta_X6_act : List am_A := [(0, .aload_n 0, []), (1, .iconst 0, []), (2, .putfield 52, [6, 8, 312]), (5, .aload_n 0, []), (6, .getfield 14, [6, 0, 304]), (9, .iload_n 1, []), (10, .invokevirtual 116, [0, 39, 1, 4, 371, 374, 372, 373, 98]), (13, .astore 4, []), (15, .aload 4, []), (17, .ifnull 12, [15]), (20, .iload_n 2, []), (21, .iconst 0, []), (22, .iconst 2, []), (23, .invokestatic 86, [1, 87, 3, 360, 362, 361, 97]), (26, .ifCond .ne 5, [17]), (29, .iconst 0, []), (30, .ireturn, [0]), (31, .aload_n 0, []), (32, .aload 4, []), (34, .aload 4, []), (36, .getfield 124, [0, 2, 167]), (39, .iload_n 2, []), (40, .iload_n 3, []), (41, .iconst 0, []), (42, .invokevirtual 303, [0, 108, 5, 6, 803, 806, 805, 29, 97]), (45, .ireturn, [0])]
def inf_X6_act : am_I := (yX6_act, cX6_act, 5, (some .int), RX6, ta_X6_act)
def ta_X6_trace : List am_A := [(0, .iload_n 1, []), (1, .ifCond .lt 20, [11]), (4, .iload_n 1, []), (5, .aload_n 0, []), (6, .getfield 52, [6, 8, 312]), (9, .if_icmp .ge 12, [11]), (12, .iload_n 1, []), (13, .aload_n 0, []), (14, .getfield 48, [6, 7, 311]), (17, .arraylength, []), (18, .if_icmp .lt 5, [13]), (21, .iconst (-1), []), (22, .ireturn, [0]), (23, .aload_n 0, []), (24, .getfield 48, [6, 7, 311]), (27, .iload_n 1, []), (28, .iaload, []), (29, .ireturn, [0])]
def inf_X6_trace : am_I := (yX6_trace, cX6_trace, 2, (some .int), RX6, ta_X6_trace)
def ta_X6_taken : List am_A := [(0, .iload_n 2, []), (1, .iconst 0, []), (2, .bipush 6, []), (4, .invokestatic 86, [1, 87, 3, 360, 362, 361, 97]), (7, .ifCond .ne 6, [7]), (10, .bipush (-2), []), (12, .ireturn, [0]), (13, .aload_n 0, []), (14, .getfield 14, [6, 0, 304]), (17, .iload_n 1, []), (18, .invokevirtual 116, [0, 39, 1, 4, 371, 374, 372, 373, 98]), (21, .astore_n 3, []), (22, .aload_n 3, []), (23, .ifnonnull 6, [16]), (26, .bipush (-11), []), (28, .ireturn, [0]), (29, .aload_n 3, []), (30, .getfield 124, [0, 2, 167]), (33, .iload_n 2, []), (34, .invokestatic 307, [1, 107, 2, 826, 828, 827, 97]), (37, .ifCond .eq 10, [24]), (40, .aload_n 3, []), (41, .getfield 124, [0, 2, 167]), (44, .goto 5, [25]), (47, .bipush (-12), []), (49, .ireturn, [0])]
def inf_X6_taken : am_I := (yX6_taken, cX6_taken, 4, (some .int), RX6, ta_X6_taken)
def ta_X6_count : List am_A := [(0, .iload_n 1, []), (1, .tableswitch 102 0 6 #[43, 51, 56, 67, 78, 89, 97], [43, 31, 2, 6, 9, 14, 19, 24, 28]), (44, .aload_n 0, []), (45, .getfield 14, [6, 0, 304]), (48, .getfield 90, [4, 1, 211]), (51, .ireturn, [0]), (52, .aload_n 0, []), (53, .getfield 38, [6, 5, 309]), (56, .ireturn, [0]), (57, .aload_n 0, []), (58, .getfield 14, [6, 0, 304]), (61, .getfield 258, [4, 4, 217]), (64, .getfield 262, [3, 4, 143]), (67, .ireturn, [0]), (68, .aload_n 0, []), (69, .getfield 14, [6, 0, 304]), (72, .getfield 278, [4, 5, 219]), (75, .getfield 262, [3, 4, 143]), (78, .ireturn, [0]), (79, .aload_n 0, []), (80, .getfield 14, [6, 0, 304]), (83, .getfield 293, [4, 6, 221]), (86, .getfield 262, [3, 4, 143]), (89, .ireturn, [0]), (90, .aload_n 0, []), (91, .getfield 28, [6, 3, 307]), (94, .getfield 178, [2, 1, 245]), (97, .ireturn, [0]), (98, .aload_n 0, []), (99, .getfield 52, [6, 8, 312]), (102, .ireturn, [0]), (103, .bipush (-2), []), (105, .ireturn, [0])]
def inf_X6_count : am_I := (yX6_count, cX6_count, 2, (some .int), RX6, ta_X6_count)
def ta_X6_tape : List am_A := [(0, .iload_n 1, []), (1, .iconst 0, []), (2, .iconst 5, []), (3, .invokestatic 86, [1, 87, 3, 360, 362, 361, 97]), (6, .ifCond .ne 5, [7]), (9, .iconst (-1), []), (10, .ireturn, [0]), (11, .iload_n 2, []), (12, .iconst (-1), []), (13, .if_icmp .ne 16, [19]), (16, .aload_n 0, []), (17, .getfield 44, [6, 6, 310]), (20, .iload_n 1, []), (21, .aaload, [105]), (22, .iconst (-1), []), (23, .iconst 0, []), (24, .invokevirtual 311, [0, 43, 2, 5, 837, 840, 838, 839, 103]), (27, .iconst 1, []), (28, .ireturn, [0]), (29, .iload_n 2, []), (30, .iconst 0, []), (31, .iconst 4, []), (32, .invokestatic 86, [1, 87, 3, 360, 362, 361, 97]), (35, .ifCond .eq 9, [27]), (38, .iload_n 3, []), (39, .bipush 60, []), (41, .if_icmp .le 6, [29]), (44, .bipush (-2), []), (46, .ireturn, [0]), (47, .iload_n 3, []), (48, .ifCond .ge 6, [33]), (51, .bipush (-14), []), (53, .ireturn, [0]), (54, .aload_n 0, []), (55, .getfield 44, [6, 6, 310]), (58, .iload_n 1, []), (59, .aaload, [105]), (60, .iload_n 2, []), (61, .iload_n 3, []), (62, .invokevirtual 311, [0, 43, 2, 5, 837, 840, 838, 839, 103]), (65, .iconst 1, []), (66, .ireturn, [0])]
def inf_X6_tape : am_I := (yX6_tape, cX6_tape, 4, (some .int), RX6, ta_X6_tape)
def ta_X6_item : List am_A := [(0, .iload_n 1, []), (1, .iconst 0, []), (2, .iconst 5, []), (3, .invokestatic 86, [1, 87, 3, 360, 362, 361, 97]), (6, .ifCond .ne 5, [7]), (9, .iconst (-1), []), (10, .ireturn, [0]), (11, .aload_n 0, []), (12, .getfield 44, [6, 6, 310]), (15, .iload_n 1, []), (16, .aaload, [105]), (17, .astore 5, []), (19, .aload 5, []), (21, .getfield 296, [5, 1, 294]), (24, .iconst (-1), []), (25, .if_icmp .ne 6, [18]), (28, .bipush (-11), []), (30, .ireturn, [0]), (31, .iload_n 2, []), (32, .ifCond .lt 12, [24]), (35, .iload_n 2, []), (36, .aload 5, []), (38, .getfield 299, [5, 2, 296]), (41, .if_icmp .lt 6, [26]), (44, .bipush (-13), []), (46, .ireturn, [0]), (47, .aload 5, []), (49, .getfield 300, [5, 0, 292]), (52, .iload_n 2, []), (53, .aload 5, []), (55, .lload_n 3, []), (56, .invokevirtual 313, [0, 44, 1, 5, 847, 850, 848, 849, 103]), (59, .lastore, []), (60, .iconst 1, []), (61, .ireturn, [0])]
def inf_X6_item : am_I := (yX6_item, cX6_item, 6, (some .int), RX6, ta_X6_item)
def ta_X6_read : List am_A := [(0, .iload_n 1, []), (1, .iconst 0, []), (2, .iconst 5, []), (3, .invokestatic 86, [1, 87, 3, 360, 362, 361, 97]), (6, .ifCond .ne 7, [7]), (9, .ldc2_w 249, [9223372036854775808, 711]), (12, .lreturn, []), (13, .aload_n 0, []), (14, .getfield 44, [6, 6, 310]), (17, .iload_n 1, []), (18, .aaload, [105]), (19, .astore_n 3, []), (20, .iload_n 2, []), (21, .ifCond .lt 11, [18]), (24, .iload_n 2, []), (25, .aload_n 3, []), (26, .getfield 299, [5, 2, 296]), (29, .if_icmp .lt 9, [20]), (32, .ldc2_w 249, [9223372036854775808, 711]), (35, .goto 9, [24]), (38, .aload_n 3, []), (39, .getfield 300, [5, 0, 292]), (42, .iload_n 2, []), (43, .laload, []), (44, .lreturn, [])]
def inf_X6_read : am_I := (yX6_read, cX6_read, 4, (some .long), RX6, ta_X6_read)
def ta_X6_shift : List am_A := [(0, .iload_n 1, []), (1, .iconst 0, []), (2, .iconst 5, []), (3, .invokestatic 86, [1, 87, 3, 360, 362, 361, 97]), (6, .ifCond .eq 12, [10]), (9, .iload_n 3, []), (10, .iconst 0, []), (11, .iconst 5, []), (12, .invokestatic 86, [1, 87, 3, 360, 362, 361, 97]), (15, .ifCond .ne 5, [12]), (18, .iconst (-1), []), (19, .ireturn, [0]), (20, .aload_n 0, []), (21, .getfield 44, [6, 6, 310]), (24, .iload_n 1, []), (25, .aaload, [105]), (26, .astore 6, []), (28, .aload_n 0, []), (29, .getfield 44, [6, 6, 310]), (32, .iload_n 3, []), (33, .aaload, [105]), (34, .astore 7, []), (36, .aload 6, []), (38, .getfield 296, [5, 1, 294]), (41, .iconst (-1), []), (42, .if_icmp .eq 12, [30]), (45, .aload 7, []), (47, .getfield 296, [5, 1, 294]), (50, .iconst (-1), []), (51, .if_icmp .ne 6, [32]), (54, .bipush (-11), []), (56, .ireturn, [0]), (57, .aload 6, []), (59, .getfield 296, [5, 1, 294]), (62, .aload 7, []), (64, .getfield 296, [5, 1, 294]), (67, .if_icmp .eq 6, [39]), (70, .bipush (-12), []), (72, .ireturn, [0]), (73, .aload 6, []), (75, .iload_n 2, []), (76, .iload 5, []), (78, .invokevirtual 317, [0, 45, 2, 5, 859, 862, 860, 861, 103]), (81, .ifCond .eq 15, [49]), (84, .aload 7, []), (86, .iload 4, []), (88, .iload 5, []), (90, .invokevirtual 317, [0, 45, 2, 5, 859, 862, 860, 861, 103]), (93, .ifCond .ne 6, [51]), (96, .bipush (-13), []), (98, .ireturn, [0]), (99, .aload 6, []), (101, .getfield 300, [5, 0, 292]), (104, .iload_n 2, []), (105, .aload 7, []), (107, .getfield 300, [5, 0, 292]), (110, .iload 4, []), (112, .iload 5, []), (114, .invokestatic 320, [5, 101, 720, 665, 664, 111]), (117, .iload 5, []), (119, .ireturn, [0])]
def inf_X6_shift : am_I := (yX6_shift, cX6_shift, 8, (some .int), RX6, ta_X6_shift)
def ta_X6_within : List am_A := [(0, .iload_n 0, []), (1, .iload_n 1, []), (2, .if_icmp .lt 12, [8]), (5, .iload_n 0, []), (6, .iload_n 2, []), (7, .if_icmp .gt 7, [8]), (10, .iconst 1, []), (11, .goto 4, [9]), (14, .iconst 0, []), (15, .ireturn, [1])]
def inf_X6_within : am_I := (yX6_within, cX6_within, 3, (some .boolean), RX6, ta_X6_within)
def ta_X6_estuaryNow : List am_A := [(0, .aload_n 0, []), (1, .getfield 14, [6, 0, 304]), (4, .getfield 183, [4, 3, 215]), (7, .iconst 0, []), (8, .bipush 6, []), (10, .invokestatic 86, [1, 87, 3, 360, 362, 361, 97]), (13, .istore_n 1, []), (14, .aload_n 0, []), (15, .getfield 34, [6, 4, 308]), (18, .iload_n 1, []), (19, .ifCond .eq 13, [15]), (22, .aload_n 0, []), (23, .getfield 14, [6, 0, 304]), (26, .getfield 183, [4, 3, 215]), (29, .goto 4, [16]), (32, .iconst 0, []), (33, .aaload, [104]), (34, .areturn, [])]
def inf_X6_estuaryNow : am_I := (yX6_estuaryNow, cX6_estuaryNow, 2, (some (.object "AirByYard$Estuary")), RX6, ta_X6_estuaryNow)
def ta_X6_layAir : List am_A := [(0, .iconst 0, []), (1, .istore 4, []), (3, .iload 4, []), (5, .bipush 24, []), (7, .if_icmp .ge 25, [17]), (10, .aload_n 0, []), (11, .getfield 65, [6, 11, 315]), (14, .iload 4, []), (16, .iconst 0, []), (17, .iastore, []), (18, .aload_n 0, []), (19, .getfield 68, [6, 12, 316]), (22, .iload 4, []), (24, .iconst 0, []), (25, .iastore, []), (26, .iinc 4 1, []), (29, .goto (-26), [2]), (32, .iconst 0, []), (33, .istore 4, []), (35, .iload 4, []), (37, .aload_n 1, []), (38, .getfield 90, [4, 1, 211]), (41, .if_icmp .ge 44, [43]), (44, .iload 4, []), (46, .iload_n 3, []), (47, .if_icmp .eq 32, [41]), (50, .aload_n 0, []), (51, .aload_n 1, []), (52, .getfield 93, [4, 0, 209]), (55, .iload 4, []), (57, .aaload, [106]), (58, .iload_n 2, []), (59, .invokevirtual 326, [0, 6, 1, 0, 591, 411, 409, 410, 100]), (62, .aload_n 1, []), (63, .getfield 93, [4, 0, 209]), (66, .iload 4, []), (68, .aaload, [106]), (69, .aload_n 1, []), (70, .getfield 140, [4, 2, 213]), (73, .invokevirtual 329, [0, 7, 1, 0, 592, 595, 593, 594, 100]), (76, .invokevirtual 332, [0, 90, 2, 6, 598, 601, 600, 14, 97]), (79, .iinc 4 1, []), (82, .goto (-47), [19]), (85, .return_, [])]
def inf_X6_layAir : am_I := (yX6_layAir, cX6_layAir, 5, none, RX6, ta_X6_layAir)
def ta_X6_layBird : List am_A := [(0, .iconst 0, []), (1, .istore_n 3, []), (2, .iload_n 3, []), (3, .bipush 24, []), (5, .if_icmp .ge 44, [34]), (8, .iload_n 2, []), (9, .iload_n 3, []), (10, .ishr, []), (11, .iconst 1, []), (12, .iand, []), (13, .ifCond .eq 30, [32]), (16, .aload_n 0, []), (17, .getfield 68, [6, 12, 316]), (20, .iload_n 3, []), (21, .dup2, []), (22, .iaload, []), (23, .aload_n 0, []), (24, .getfield 65, [6, 11, 315]), (27, .iload_n 3, []), (28, .iaload, []), (29, .iload_n 1, []), (30, .iand, []), (31, .ior, []), (32, .iastore, []), (33, .aload_n 0, []), (34, .getfield 65, [6, 11, 315]), (37, .iload_n 3, []), (38, .dup2, []), (39, .iaload, []), (40, .iload_n 1, []), (41, .ior, []), (42, .iastore, []), (43, .iinc 3 1, []), (46, .goto (-44), [2]), (49, .return_, [])]
def inf_X6_layBird : am_I := (yX6_layBird, cX6_layBird, 4, none, RX6, ta_X6_layBird)
def ta_X6_freeAt : List am_A := [(0, .iload_n 1, []), (1, .iconst 0, []), (2, .bipush 23, []), (4, .invokestatic 86, [1, 87, 3, 360, 362, 361, 97]), (7, .ifCond .eq 20, [18]), (10, .iconst 1, []), (11, .iload_n 2, []), (12, .ishl, []), (13, .iconst 1, []), (14, .isub, []), (15, .aload_n 0, []), (16, .getfield 65, [6, 11, 315]), (19, .iload_n 1, []), (20, .iaload, []), (21, .iconst (-1), []), (22, .ixor, []), (23, .iand, []), (24, .goto 4, [19]), (27, .iconst 0, []), (28, .ireturn, [0])]
def inf_X6_freeAt : am_I := (yX6_freeAt, cX6_freeAt, 3, (some .int), RX6, ta_X6_freeAt)
def ta_X6_isFree : List am_A := [(0, .aload_n 0, []), (1, .iload_n 2, []), (2, .iload_n 3, []), (3, .invokevirtual 210, [0, 91, 2, 6, 602, 605, 604, 15, 97]), (6, .iload_n 1, []), (7, .ishr, []), (8, .iconst 1, []), (9, .iand, []), (10, .ifCond .eq 7, [11]), (13, .iconst 1, []), (14, .goto 4, [12]), (17, .iconst 0, []), (18, .ireturn, [1])]
def inf_X6_isFree : am_I := (yX6_isFree, cX6_isFree, 4, (some .boolean), RX6, ta_X6_isFree)
def ta_X6_freeStrips : List am_A := [(0, .aload_n 0, []), (1, .aload_n 0, []), (2, .getfield 14, [6, 0, 304]), (5, .iload_n 1, []), (6, .iconst (-1), []), (7, .invokevirtual 206, [0, 89, 3, 6, 587, 590, 589, 13, 97]), (10, .iconst 0, []), (11, .istore_n 2, []), (12, .iconst 0, []), (13, .istore_n 3, []), (14, .iload_n 3, []), (15, .bipush 24, []), (17, .if_icmp .ge 21, [23]), (20, .iload_n 2, []), (21, .aload_n 0, []), (22, .iload_n 3, []), (23, .iload_n 1, []), (24, .invokevirtual 210, [0, 91, 2, 6, 602, 605, 604, 15, 97]), (27, .invokestatic 244, [1, 217, 1, 606, 415, 414, 106]), (30, .iadd, []), (31, .istore_n 2, []), (32, .iinc 3 1, []), (35, .goto (-21), [10]), (38, .iload_n 2, []), (39, .ireturn, [0])]
def inf_X6_freeStrips : am_I := (yX6_freeStrips, cX6_freeStrips, 4, (some .int), RX6, ta_X6_freeStrips)
def ta_X6_crowded : List am_A := [(0, .aload_n 0, []), (1, .aload_n 1, []), (2, .aload_n 0, []), (3, .invokevirtual 120, [0, 88, 0, 6, 375, 378, 377, 0, 97]), (6, .getfield 151, [1, 3, 273]), (9, .iconst (-1), []), (10, .invokevirtual 206, [0, 89, 3, 6, 587, 590, 589, 13, 97]), (13, .iconst 0, []), (14, .istore_n 2, []), (15, .iconst 0, []), (16, .istore_n 3, []), (17, .iload_n 3, []), (18, .bipush 24, []), (20, .if_icmp .ge 21, [24]), (23, .iload_n 2, []), (24, .aload_n 0, []), (25, .getfield 68, [6, 12, 316]), (28, .iload_n 3, []), (29, .iaload, []), (30, .invokestatic 244, [1, 217, 1, 606, 415, 414, 106]), (33, .iadd, []), (34, .istore_n 2, []), (35, .iinc 3 1, []), (38, .goto (-21), [11]), (41, .iload_n 2, []), (42, .ireturn, [0])]
def inf_X6_crowded : am_I := (yX6_crowded, cX6_crowded, 4, (some .int), RX6, ta_X6_crowded)
def ta_X6_rentOfAll : List am_A := [(0, .aload_n 0, []), (1, .invokevirtual 120, [0, 88, 0, 6, 375, 378, 377, 0, 97]), (4, .astore_n 2, []), (5, .iconst 0, []), (6, .istore_n 3, []), (7, .iconst 0, []), (8, .istore 4, []), (10, .iload 4, []), (12, .aload_n 1, []), (13, .getfield 90, [4, 1, 211]), (16, .if_icmp .ge 27, [24]), (19, .iload_n 3, []), (20, .aload_n 1, []), (21, .getfield 93, [4, 0, 209]), (24, .iload 4, []), (26, .aaload, [106]), (27, .aload_n 2, []), (28, .aload_n 1, []), (29, .getfield 140, [4, 2, 213]), (32, .invokevirtual 157, [0, 10, 2, 0, 419, 422, 420, 421, 100]), (35, .iadd, []), (36, .istore_n 3, []), (37, .iinc 4 1, []), (40, .goto (-30), [7]), (43, .iload_n 3, []), (44, .ireturn, [0])]
def inf_X6_rentOfAll : am_I := (yX6_rentOfAll, cX6_rentOfAll, 5, (some .int), RX6, ta_X6_rentOfAll)
def ta_X6_clashOf : List am_A := [(0, .aload_n 0, []), (1, .invokevirtual 120, [0, 88, 0, 6, 375, 378, 377, 0, 97]), (4, .getfield 151, [1, 3, 273]), (7, .istore_n 3, []), (8, .aload_n 1, []), (9, .iload_n 3, []), (10, .invokevirtual 326, [0, 6, 1, 0, 591, 411, 409, 410, 100]), (13, .aload_n 2, []), (14, .iload_n 3, []), (15, .invokevirtual 326, [0, 6, 1, 0, 591, 411, 409, 410, 100]), (18, .iand, []), (19, .istore 4, []), (21, .aload_n 1, []), (22, .aload_n 0, []), (23, .getfield 14, [6, 0, 304]), (26, .getfield 140, [4, 2, 213]), (29, .invokevirtual 329, [0, 7, 1, 0, 592, 595, 593, 594, 100]), (32, .aload_n 2, []), (33, .aload_n 0, []), (34, .getfield 14, [6, 0, 304]), (37, .getfield 140, [4, 2, 213]), (40, .invokevirtual 329, [0, 7, 1, 0, 592, 595, 593, 594, 100]), (43, .iand, []), (44, .istore 5, []), (46, .iload 4, []), (48, .invokestatic 244, [1, 217, 1, 606, 415, 414, 106]), (51, .iload 5, []), (53, .invokestatic 244, [1, 217, 1, 606, 415, 414, 106]), (56, .imul, []), (57, .ireturn, [0])]
def inf_X6_clashOf : am_I := (yX6_clashOf, cX6_clashOf, 6, (some .int), RX6, ta_X6_clashOf)
def ta_X6_sharedStrips : List am_A := [(0, .aload_n 1, []), (1, .iload_n 2, []), (2, .invokevirtual 326, [0, 6, 1, 0, 591, 411, 409, 410, 100]), (5, .istore_n 3, []), (6, .aload_n 1, []), (7, .aload_n 0, []), (8, .getfield 14, [6, 0, 304]), (11, .getfield 140, [4, 2, 213]), (14, .invokevirtual 329, [0, 7, 1, 0, 592, 595, 593, 594, 100]), (17, .istore 4, []), (19, .iconst 0, []), (20, .istore 5, []), (22, .iconst 0, []), (23, .istore 6, []), (25, .iload 6, []), (27, .bipush 24, []), (29, .if_icmp .ge 36, [35]), (32, .iload 4, []), (34, .iload 6, []), (36, .ishr, []), (37, .iconst 1, []), (38, .iand, []), (39, .ifCond .eq 20, [33]), (42, .iload 5, []), (44, .iload_n 3, []), (45, .aload_n 0, []), (46, .getfield 65, [6, 11, 315]), (49, .iload 6, []), (51, .iaload, []), (52, .iand, []), (53, .invokestatic 244, [1, 217, 1, 606, 415, 414, 106]), (56, .iadd, []), (57, .istore 5, []), (59, .iinc 6 1, []), (62, .goto (-37), [14]), (65, .iload 5, []), (67, .ireturn, [0])]
def inf_X6_sharedStrips : am_I := (yX6_sharedStrips, cX6_sharedStrips, 7, (some .int), RX6, ta_X6_sharedStrips)
def ta_X6_findFoes : List am_A := [(0, .iconst 0, []), (1, .istore_n 1, []), (2, .iload_n 1, []), (3, .aload_n 0, []), (4, .getfield 14, [6, 0, 304]), (7, .getfield 90, [4, 1, 211]), (10, .if_icmp .ge 73, [47]), (13, .iconst 0, []), (14, .istore_n 2, []), (15, .iconst 0, []), (16, .istore_n 3, []), (17, .iload_n 3, []), (18, .aload_n 0, []), (19, .getfield 14, [6, 0, 304]), (22, .getfield 90, [4, 1, 211]), (25, .if_icmp .ge 45, [40]), (28, .iload_n 3, []), (29, .iload_n 1, []), (30, .if_icmp .eq 34, [38]), (33, .aload_n 0, []), (34, .aload_n 0, []), (35, .getfield 14, [6, 0, 304]), (38, .getfield 93, [4, 0, 209]), (41, .iload_n 1, []), (42, .aaload, [106]), (43, .aload_n 0, []), (44, .getfield 14, [6, 0, 304]), (47, .getfield 93, [4, 0, 209]), (50, .iload_n 3, []), (51, .aaload, [106]), (52, .invokevirtual 213, [0, 96, 2, 6, 632, 635, 634, 18, 97]), (55, .ifCond .le 9, [38]), (58, .iload_n 2, []), (59, .iconst 1, []), (60, .iload_n 3, []), (61, .ishl, []), (62, .ior, []), (63, .istore_n 2, []), (64, .iinc 3 1, []), (67, .goto (-50), [11]), (70, .aload_n 0, []), (71, .getfield 71, [6, 13, 317]), (74, .iload_n 1, []), (75, .iload_n 2, []), (76, .iastore, []), (77, .iinc 1 1, []), (80, .goto (-78), [2]), (83, .return_, [])]
def inf_X6_findFoes : am_I := (yX6_findFoes, cX6_findFoes, 4, none, RX6, ta_X6_findFoes)
def ta_X6_findRents : List am_A := [(0, .aload_n 0, []), (1, .invokevirtual 120, [0, 88, 0, 6, 375, 378, 377, 0, 97]), (4, .astore_n 1, []), (5, .iconst 0, []), (6, .istore_n 2, []), (7, .iload_n 2, []), (8, .aload_n 0, []), (9, .getfield 14, [6, 0, 304]), (12, .getfield 90, [4, 1, 211]), (15, .if_icmp .ge 35, [26]), (18, .aload_n 0, []), (19, .getfield 74, [6, 14, 318]), (22, .iload_n 2, []), (23, .aload_n 0, []), (24, .getfield 14, [6, 0, 304]), (27, .getfield 93, [4, 0, 209]), (30, .iload_n 2, []), (31, .aaload, [106]), (32, .aload_n 1, []), (33, .aload_n 0, []), (34, .getfield 14, [6, 0, 304]), (37, .getfield 140, [4, 2, 213]), (40, .invokevirtual 157, [0, 10, 2, 0, 419, 422, 420, 421, 100]), (43, .iastore, []), (44, .iinc 2 1, []), (47, .goto (-40), [5]), (50, .return_, [])]
def inf_X6_findRents : am_I := (yX6_findRents, cX6_findRents, 3, none, RX6, ta_X6_findRents)
def ta_X6_isPeaceful : List am_A := [(0, .iconst 0, []), (1, .istore_n 2, []), (2, .iload_n 2, []), (3, .aload_n 0, []), (4, .getfield 14, [6, 0, 304]), (7, .getfield 90, [4, 1, 211]), (10, .if_icmp .ge 30, [24]), (13, .iload_n 1, []), (14, .iload_n 2, []), (15, .ishr, []), (16, .iconst 1, []), (17, .iand, []), (18, .ifCond .eq 16, [22]), (21, .iload_n 1, []), (22, .aload_n 0, []), (23, .getfield 71, [6, 13, 317]), (26, .iload_n 2, []), (27, .iaload, []), (28, .iand, []), (29, .ifCond .eq 5, [22]), (32, .iconst 0, []), (33, .ireturn, [1]), (34, .iinc 2 1, []), (37, .goto (-35), [2]), (40, .iconst 1, []), (41, .ireturn, [1])]
def inf_X6_isPeaceful : am_I := (yX6_isPeaceful, cX6_isPeaceful, 3, (some .boolean), RX6, ta_X6_isPeaceful)
def ta_X6_rentOfSet : List am_A := [(0, .iconst 0, []), (1, .istore_n 2, []), (2, .iconst 0, []), (3, .istore_n 3, []), (4, .iload_n 3, []), (5, .aload_n 0, []), (6, .getfield 14, [6, 0, 304]), (9, .getfield 90, [4, 1, 211]), (12, .if_icmp .ge 26, [24]), (15, .iload_n 1, []), (16, .iload_n 3, []), (17, .ishr, []), (18, .iconst 1, []), (19, .iand, []), (20, .ifCond .eq 12, [22]), (23, .iload_n 2, []), (24, .aload_n 0, []), (25, .getfield 74, [6, 14, 318]), (28, .iload_n 3, []), (29, .iaload, []), (30, .iadd, []), (31, .istore_n 2, []), (32, .iinc 3 1, []), (35, .goto (-31), [4]), (38, .iload_n 2, []), (39, .ireturn, [0])]
def inf_X6_rentOfSet : am_I := (yX6_rentOfSet, cX6_rentOfSet, 4, (some .int), RX6, ta_X6_rentOfSet)
def ta_X6_goAnHour : List am_A := [(0, .iconst 0, []), (1, .istore_n 3, []), (2, .iload_n 3, []), (3, .aload_n 0, []), (4, .getfield 81, [6, 16, 320]), (7, .arraylength, []), (8, .if_icmp .ge 84, [56]), (11, .iload_n 3, []), (12, .ifCond .le 14, [16]), (15, .aload_n 0, []), (16, .getfield 77, [6, 15, 319]), (19, .iload_n 3, []), (20, .iconst 1, []), (21, .isub, []), (22, .laload, []), (23, .goto 4, [17]), (26, .lconst 0, []), (27, .lstore 4, []), (29, .iload_n 3, []), (30, .iconst 1, []), (31, .iadd, []), (32, .aload_n 0, []), (33, .getfield 77, [6, 15, 319]), (36, .arraylength, []), (37, .if_icmp .ge 14, [32]), (40, .aload_n 0, []), (41, .getfield 77, [6, 15, 319]), (44, .iload_n 3, []), (45, .iconst 1, []), (46, .iadd, []), (47, .laload, []), (48, .goto 4, [33]), (51, .lconst 0, []), (52, .lstore 6, []), (54, .aload_n 0, []), (55, .getfield 81, [6, 16, 320]), (58, .iload_n 3, []), (59, .aload_n 0, []), (60, .iload_n 3, []), (61, .iload_n 1, []), (62, .iload_n 2, []), (63, .invokevirtual 251, [0, 92, 3, 6, 712, 715, 714, 24, 97]), (66, .ifCond .eq 18, [52]), (69, .lload 4, []), (71, .aload_n 0, []), (72, .getfield 77, [6, 15, 319]), (75, .iload_n 3, []), (76, .laload, []), (77, .ladd, []), (78, .lload 6, []), (80, .ladd, []), (81, .goto 4, [53]), (84, .lconst 0, []), (85, .lastore, []), (86, .iinc 3 1, []), (89, .goto (-87), [2]), (92, .aload_n 0, []), (93, .getfield 81, [6, 16, 320]), (96, .iconst 0, []), (97, .aload_n 0, []), (98, .getfield 77, [6, 15, 319]), (101, .iconst 0, []), (102, .aload_n 0, []), (103, .getfield 77, [6, 15, 319]), (106, .arraylength, []), (107, .invokestatic 320, [5, 101, 720, 665, 664, 111]), (110, .return_, [])]
def inf_X6_goAnHour : am_I := (yX6_goAnHour, cX6_goAnHour, 8, none, RX6, ta_X6_goAnHour)
def ta_X6_seenHeldBy : List am_A := [(0, .aload_n 0, []), (1, .getfield 61, [6, 10, 314]), (4, .aload_n 1, []), (5, .invokevirtual 221, [0, 2, 1, 0, 659, 662, 660, 661, 100]), (8, .aload_n 0, []), (9, .getfield 61, [6, 10, 314]), (12, .iload_n 2, []), (13, .putfield 101, [0, 4, 172]), (16, .aload_n 0, []), (17, .invokevirtual 335, [0, 104, 0, 6, 741, 744, 743, 27, 97]), (20, .istore 4, []), (22, .iconst 0, []), (23, .istore 5, []), (25, .iconst 0, []), (26, .istore 6, []), (28, .iload 6, []), (30, .iload 4, []), (32, .if_icmp .gt 144, [84]), (35, .iconst 0, []), (36, .istore 7, []), (38, .iload 7, []), (40, .aload_n 0, []), (41, .getfield 14, [6, 0, 304]), (44, .getfield 258, [4, 4, 217]), (47, .getfield 262, [3, 4, 143]), (50, .if_icmp .ge 102, [73]), (53, .aload_n 0, []), (54, .getfield 14, [6, 0, 304]), (57, .getfield 258, [4, 4, 217]), (60, .getfield 338, [3, 3, 141]), (63, .iload 7, []), (65, .iaload, []), (66, .iload 6, []), (68, .if_icmp .ne 57, [59]), (71, .aload_n 0, []), (72, .getfield 61, [6, 10, 314]), (75, .aload_n 0, []), (76, .getfield 14, [6, 0, 304]), (79, .getfield 258, [4, 4, 217]), (82, .getfield 284, [3, 0, 135]), (85, .iload 7, []), (87, .iaload, []), (88, .aload_n 0, []), (89, .getfield 14, [6, 0, 304]), (92, .getfield 258, [4, 4, 217]), (95, .getfield 287, [3, 1, 137]), (98, .iload 7, []), (100, .iaload, []), (101, .aload_n 3, []), (102, .getfield 151, [1, 3, 273]), (105, .aload_n 0, []), (106, .getfield 14, [6, 0, 304]), (109, .getfield 140, [4, 2, 213]), (112, .iload 6, []), (114, .iadd, []), (115, .invokevirtual 202, [0, 8, 4, 0, 619, 622, 620, 621, 100]), (118, .ifCond .eq 7, [59]), (121, .iconst 1, []), (122, .goto 4, [60]), (125, .iconst 0, []), (126, .istore 8, []), (128, .iload 5, []), (130, .iload 8, []), (132, .ifCond .eq 10, [68]), (135, .iconst 1, []), (136, .iload 7, []), (138, .ishl, []), (139, .goto 4, [69]), (142, .iconst 0, []), (143, .ior, []), (144, .istore 5, []), (146, .iinc 7 1, []), (149, .goto (-111), [20]), (152, .aload_n 0, []), (153, .getfield 61, [6, 10, 314]), (156, .aload_n 3, []), (157, .aload_n 0, []), (158, .getfield 14, [6, 0, 304]), (161, .getfield 140, [4, 2, 213]), (164, .iload 6, []), (166, .iadd, []), (167, .invokevirtual 225, [0, 12, 2, 0, 670, 651, 649, 650, 100]), (170, .iinc 6 1, []), (173, .goto (-145), [15]), (176, .iload 5, []), (178, .ireturn, [0])]
def inf_X6_seenHeldBy : am_I := (yX6_seenHeldBy, cX6_seenHeldBy, 9, (some .int), RX6, ta_X6_seenHeldBy)
def ta_X6_lastSeenDays : List am_A := [(0, .iconst (-1), []), (1, .istore_n 1, []), (2, .iconst 0, []), (3, .istore_n 2, []), (4, .iload_n 2, []), (5, .aload_n 0, []), (6, .getfield 14, [6, 0, 304]), (9, .getfield 258, [4, 4, 217]), (12, .getfield 262, [3, 4, 143]), (15, .if_icmp .ge 26, [21]), (18, .iload_n 1, []), (19, .aload_n 0, []), (20, .getfield 14, [6, 0, 304]), (23, .getfield 258, [4, 4, 217]), (26, .getfield 338, [3, 3, 141]), (29, .iload_n 2, []), (30, .iaload, []), (31, .invokestatic 341, [1, 219, 2, 745, 403, 402, 105]), (34, .istore_n 1, []), (35, .iinc 2 1, []), (38, .goto (-34), [4]), (41, .iload_n 1, []), (42, .ireturn, [0])]
def inf_X6_lastSeenDays : am_I := (yX6_lastSeenDays, cX6_lastSeenDays, 3, (some .int), RX6, ta_X6_lastSeenDays)
def ta_X6_seenAsTold : List am_A := [(0, .iconst 0, []), (1, .istore_n 1, []), (2, .iconst 0, []), (3, .istore_n 2, []), (4, .iload_n 2, []), (5, .aload_n 0, []), (6, .getfield 14, [6, 0, 304]), (9, .getfield 258, [4, 4, 217]), (12, .getfield 262, [3, 4, 143]), (15, .if_icmp .ge 26, [23]), (18, .iload_n 1, []), (19, .aload_n 0, []), (20, .getfield 14, [6, 0, 304]), (23, .getfield 258, [4, 4, 217]), (26, .getfield 290, [3, 2, 139]), (29, .iload_n 2, []), (30, .iaload, []), (31, .iload_n 2, []), (32, .ishl, []), (33, .ior, []), (34, .istore_n 1, []), (35, .iinc 2 1, []), (38, .goto (-34), [4]), (41, .iload_n 1, []), (42, .ireturn, [0])]
def inf_X6_seenAsTold : am_I := (yX6_seenAsTold, cX6_seenAsTold, 3, (some .int), RX6, ta_X6_seenAsTold)
def ta_X6_partOfFraction : List am_A := [(0, .iload_n 1, []), (1, .istore_n 3, []), (2, .iload_n 0, []), (3, .istore 4, []), (5, .iconst 0, []), (6, .istore 5, []), (8, .iload 5, []), (10, .bipush 64, []), (12, .if_icmp .ge 27, [21]), (15, .iload 4, []), (17, .ifCond .eq 22, [21]), (20, .iload_n 3, []), (21, .iload 4, []), (23, .irem, []), (24, .istore 6, []), (26, .iload 4, []), (28, .istore_n 3, []), (29, .iload 6, []), (31, .istore 4, []), (33, .iinc 5 1, []), (36, .goto (-28), [6]), (39, .iload_n 3, []), (40, .ifCond .ne 7, [25]), (43, .lconst 0, []), (44, .goto 15, [33]), (47, .iload_n 2, []), (48, .ifCond .ne 7, [29]), (51, .iload_n 0, []), (52, .goto 4, [30]), (55, .iload_n 1, []), (56, .iload_n 3, []), (57, .idiv, []), (58, .i2l, []), (59, .lreturn, [])]
def inf_X6_partOfFraction : am_I := (yX6_partOfFraction, cX6_partOfFraction, 7, (some .long), RX6, ta_X6_partOfFraction)
def ta_X6_isUnder : List am_A := [(0, .iload_n 0, []), (1, .istore_n 2, []), (2, .iconst 0, []), (3, .istore_n 3, []), (4, .iload_n 3, []), (5, .bipush 7, []), (7, .if_icmp .ge 30, [21]), (10, .iload_n 2, []), (11, .iload_n 1, []), (12, .if_icmp .eq 25, [21]), (15, .iload_n 2, []), (16, .iconst 0, []), (17, .bipush 6, []), (19, .invokestatic 86, [1, 87, 3, 360, 362, 361, 97]), (22, .ifCond .eq 15, [21]), (25, .getstatic 346, [3, 816]), (28, .iload_n 2, []), (29, .iaload, []), (30, .istore_n 2, []), (31, .iinc 3 1, []), (34, .goto (-30), [4]), (37, .iload_n 2, []), (38, .iload_n 1, []), (39, .if_icmp .ne 7, [26]), (42, .iconst 1, []), (43, .goto 4, [27]), (46, .iconst 0, []), (47, .ireturn, [1])]
def inf_X6_isUnder : am_I := (yX6_isUnder, cX6_isUnder, 4, (some .boolean), RX6, ta_X6_isUnder)
def ta_X6_run : List am_A := [(0, .iconst 3, []), (1, .iload_n 2, []), (2, .imul, []), (3, .iload_n 3, []), (4, .iadd, []), (5, .istore 6, []), (7, .iload 5, []), (9, .bipush 40, []), (11, .if_icmp .gt 17, [15]), (14, .iload 6, []), (16, .ifCond .lt 12, [15]), (19, .iload 6, []), (21, .getstatic 349, [2, 807]), (24, .arraylength, []), (25, .if_icmp .lt 5, [17]), (28, .iconst 0, []), (29, .ireturn, [0]), (30, .getstatic 349, [2, 807]), (33, .iload 6, []), (35, .iaload, []), (36, .istore 7, []), (38, .aload_n 0, []), (39, .iload 7, []), (41, .invokevirtual 352, [0, 110, 1, 6, 809, 812, 811, 30, 97]), (44, .aload_n 1, []), (45, .getfield 124, [0, 2, 167]), (48, .istore 8, []), (50, .iload 7, []), (52, .invokestatic 356, [1, 109, 1, 813, 815, 814, 97]), (55, .istore 9, []), (57, .iload 5, []), (59, .iconst 1, []), (60, .iadd, []), (61, .istore 10, []), (63, .iload 7, []), (65, .lookupswitch 286 #[(10, 99), (11, 107), (12, 125), (20, 140), (30, 156), (40, 171), (50, 196), (51, 210), (60, 225), (70, 243), (71, 268)], [99, 155, 36, 41, 52, 62, 72, 82, 98, 107, 117, 128, 144]), (164, .iload 4, []), (166, .aload_n 1, []), (167, .getfield 113, [0, 1, 164]), (170, .iadd, []), (171, .ireturn, [0]), (172, .aload_n 0, []), (173, .aload_n 1, []), (174, .iload 8, []), (176, .iconst 0, []), (177, .iload 4, []), (179, .iload 10, []), (181, .invokevirtual 303, [0, 108, 5, 6, 803, 806, 805, 29, 97]), (184, .aload_n 1, []), (185, .getfield 127, [0, 3, 170]), (188, .isub, []), (189, .ireturn, [0]), (190, .aload_n 0, []), (191, .aload_n 1, []), (192, .iload 8, []), (194, .iconst 1, []), (195, .iload 4, []), (197, .iload 10, []), (199, .invokevirtual 303, [0, 108, 5, 6, 803, 806, 805, 29, 97]), (202, .iconst 2, []), (203, .imul, []), (204, .ireturn, [0]), (205, .aload_n 0, []), (206, .aload_n 1, []), (207, .iload 9, []), (209, .iconst 1, []), (210, .iload 4, []), (212, .iload 10, []), (214, .invokevirtual 303, [0, 108, 5, 6, 803, 806, 805, 29, 97]), (217, .bipush 6, []), (219, .ixor, []), (220, .ireturn, [0]), (221, .aload_n 0, []), (222, .aload_n 1, []), (223, .iload 9, []), (225, .iconst 0, []), (226, .iload 4, []), (228, .iconst 3, []), (229, .imul, []), (230, .iload 10, []), (232, .invokevirtual 303, [0, 108, 5, 6, 803, 806, 805, 29, 97]), (235, .ireturn, [0]), (236, .aload_n 0, []), (237, .aload_n 1, []), (238, .iload 9, []), (240, .iconst 2, []), (241, .iload 4, []), (243, .iload 10, []), (245, .invokevirtual 303, [0, 108, 5, 6, 803, 806, 805, 29, 97]), (248, .aload_n 0, []), (249, .aload_n 1, []), (250, .iload 8, []), (252, .iconst 1, []), (253, .iconst 1, []), (254, .iload 10, []), (256, .invokevirtual 303, [0, 108, 5, 6, 803, 806, 805, 29, 97]), (259, .iadd, []), (260, .ireturn, [0]), (261, .aload_n 0, []), (262, .aload_n 1, []), (263, .iload 9, []), (265, .iconst 0, []), (266, .iload 4, []), (268, .iload 10, []), (270, .invokevirtual 303, [0, 108, 5, 6, 803, 806, 805, 29, 97]), (273, .ineg, []), (274, .ireturn, [0]), (275, .aload_n 0, []), (276, .aload_n 1, []), (277, .iload 9, []), (279, .iconst 1, []), (280, .iload 4, []), (282, .iconst 1, []), (283, .iadd, []), (284, .iload 10, []), (286, .invokevirtual 303, [0, 108, 5, 6, 803, 806, 805, 29, 97]), (289, .ireturn, [0]), (290, .aload_n 0, []), (291, .aload_n 1, []), (292, .iload 9, []), (294, .iconst 2, []), (295, .iload 4, []), (297, .aload_n 1, []), (298, .getfield 113, [0, 1, 164]), (301, .isub, []), (302, .iload 10, []), (304, .invokevirtual 303, [0, 108, 5, 6, 803, 806, 805, 29, 97]), (307, .ireturn, [0]), (308, .aload_n 0, []), (309, .aload_n 1, []), (310, .iload 9, []), (312, .iconst 1, []), (313, .iload 4, []), (315, .iload 10, []), (317, .invokevirtual 303, [0, 108, 5, 6, 803, 806, 805, 29, 97]), (320, .aload_n 0, []), (321, .aload_n 1, []), (322, .iload 9, []), (324, .iconst 0, []), (325, .iconst 2, []), (326, .iload 10, []), (328, .invokevirtual 303, [0, 108, 5, 6, 803, 806, 805, 29, 97]), (331, .iadd, []), (332, .ireturn, [0]), (333, .aload_n 0, []), (334, .aload_n 1, []), (335, .iload 9, []), (337, .iconst 0, []), (338, .iload 4, []), (340, .iload 10, []), (342, .invokevirtual 303, [0, 108, 5, 6, 803, 806, 805, 29, 97]), (345, .aload_n 1, []), (346, .getfield 127, [0, 3, 170]), (349, .ixor, []), (350, .ireturn, [0]), (351, .iconst 0, []), (352, .ireturn, [0])]
def inf_X6_run : am_I := (yX6_run, cX6_run, 11, (some .int), RX6, ta_X6_run)
def ta_X6_kindAbove : List am_A := [(0, .iload_n 0, []), (1, .bipush 10, []), (3, .idiv, []), (4, .iconst 1, []), (5, .isub, []), (6, .istore_n 1, []), (7, .iload_n 1, []), (8, .iconst 0, []), (9, .bipush 6, []), (11, .invokestatic 86, [1, 87, 3, 360, 362, 361, 97]), (14, .ifCond .eq 11, [15]), (17, .getstatic 346, [3, 816]), (20, .iload_n 1, []), (21, .iaload, []), (22, .goto 4, [16]), (25, .iconst 0, []), (26, .ireturn, [0])]
def inf_X6_kindAbove : am_I := (yX6_kindAbove, cX6_kindAbove, 2, (some .int), RX6, ta_X6_kindAbove)
def ta_X6_note : List am_A := [(0, .aload_n 0, []), (1, .getfield 52, [6, 8, 312]), (4, .aload_n 0, []), (5, .getfield 48, [6, 7, 311]), (8, .arraylength, []), (9, .if_icmp .ge 13, [12]), (12, .aload_n 0, []), (13, .getfield 48, [6, 7, 311]), (16, .aload_n 0, []), (17, .getfield 52, [6, 8, 312]), (20, .iload_n 1, []), (21, .iastore, []), (22, .aload_n 0, []), (23, .dup, []), (24, .getfield 52, [6, 8, 312]), (27, .iconst 1, []), (28, .iadd, []), (29, .putfield 52, [6, 8, 312]), (32, .return_, [])]
def inf_X6_note : am_I := (yX6_note, cX6_note, 2, none, RX6, ta_X6_note)
def ta_X7_init : List am_A := [(0, .aload_n 0, []), (1, .invokespecial 1, [4, 868, 118, 119]), (4, .aload_n 0, []), (5, .iconst 0, []), (6, .putfield 7, [7, 0, 869]), (9, .aload_n 0, []), (10, .iconst 0, []), (11, .putfield 13, [7, 1, 870]), (14, .aload_n 0, []), (15, .iconst 0, []), (16, .putfield 16, [7, 2, 871]), (19, .aload_n 0, []), (20, .bipush 7, []), (22, .newarray .int, [0, 155]), (24, .putfield 19, [7, 3, 872]), (27, .aload_n 0, []), (28, .bipush 7, []), (30, .newarray .int, [0, 155]), (32, .putfield 23, [7, 4, 873]), (35, .aload_n 0, []), (36, .bipush 7, []), (38, .newarray .int, [0, 155]), (40, .putfield 26, [7, 5, 874]), (43, .aload_n 0, []), (44, .bipush 7, []), (46, .newarray .int, [0, 155]), (48, .putfield 29, [7, 6, 875]), (51, .aload_n 0, []), (52, .bipush 7, []), (54, .newarray .int, [0, 155]), (56, .putfield 32, [7, 7, 876]), (59, .aload_n 0, []), (60, .bipush 7, []), (62, .newarray .int, [0, 155]), (64, .putfield 35, [7, 8, 877]), (67, .aload_n 0, []), (68, .bipush 7, []), (70, .newarray .int, [0, 155]), (72, .putfield 38, [7, 9, 878]), (75, .aload_n 0, []), (76, .bipush 28, []), (78, .newarray .int, [0, 155]), (80, .putfield 41, [7, 10, 879]), (83, .aload_n 0, []), (84, .iconst 0, []), (85, .putfield 44, [7, 11, 880]), (88, .aload_n 0, []), (89, .iconst (-1), []), (90, .putfield 47, [7, 12, 881]), (93, .aload_n 0, []), (94, .iconst 0, []), (95, .putfield 50, [7, 13, 882]), (98, .aload_n 0, []), (99, .iconst 0, []), (100, .putfield 53, [7, 14, 883]), (103, .aload_n 0, []), (104, .iconst 0, []), (105, .putfield 56, [7, 15, 884]), (108, .aload_n 0, []), (109, .bipush 100, []), (111, .newarray .int, [0, 155]), (113, .putfield 59, [7, 16, 885]), (116, .aload_n 0, []), (117, .bipush 6, []), (119, .newarray .int, [0, 155]), (121, .putfield 62, [7, 17, 886]), (124, .aload_n 0, []), (125, .bipush 60, []), (127, .newarray .int, [0, 155]), (129, .putfield 65, [7, 18, 887]), (132, .aload_n 0, []), (133, .bipush 60, []), (135, .newarray .int, [0, 155]), (137, .putfield 68, [7, 19, 888]), (140, .aload_n 0, []), (141, .bipush 60, []), (143, .newarray .int, [0, 155]), (145, .putfield 71, [7, 20, 889]), (148, .aload_n 0, []), (149, .bipush 60, []), (151, .newarray .int, [0, 155]), (153, .putfield 74, [7, 21, 890]), (156, .aload_n 0, []), (157, .sipush 600, []), (160, .newarray .int, [0, 155]), (162, .putfield 77, [7, 22, 891]), (165, .aload_n 0, []), (166, .bipush 101, []), (168, .newarray .int, [0, 155]), (170, .putfield 80, [7, 23, 892]), (173, .aload_n 0, []), (174, .iconst 0, []), (175, .putfield 83, [7, 24, 893]), (178, .aload_n 0, []), (179, .iconst 0, []), (180, .putfield 86, [7, 25, 894]), (183, .aload_n 0, []), (184, .iconst 0, []), (185, .putfield 89, [7, 26, 895]), (188, .aload_n 0, []), (189, .bipush 16, []), (191, .newarray .int, [0, 155]), (193, .dup, []), (194, .iconst 0, []), (195, .bipush 100, []), (197, .iastore, []), (198, .dup, []), (199, .iconst 1, []), (200, .bipush 101, []), (202, .iastore, []), (203, .dup, []), (204, .iconst 2, []), (205, .bipush 97, []), (207, .iastore, []), (208, .dup, []), (209, .iconst 3, []), (210, .bipush 114, []), (212, .iastore, []), (213, .dup, []), (214, .iconst 4, []), (215, .bipush 99, []), (217, .iastore, []), (218, .dup, []), (219, .iconst 5, []), (220, .bipush 104, []), (222, .iastore, []), (223, .dup, []), (224, .bipush 6, []), (226, .bipush 101, []), (228, .iastore, []), (229, .dup, []), (230, .bipush 7, []), (232, .bipush 97, []), (234, .iastore, []), (235, .dup, []), (236, .bipush 8, []), (238, .bipush 112, []), (240, .iastore, []), (241, .dup, []), (242, .bipush 9, []), (244, .bipush 103, []), (246, .iastore, []), (247, .dup, []), (248, .bipush 10, []), (250, .bipush 97, []), (252, .iastore, []), (253, .dup, []), (254, .bipush 11, []), (256, .bipush 105, []), (258, .iastore, []), (259, .dup, []), (260, .bipush 12, []), (262, .bipush 110, []), (264, .iastore, []), (265, .dup, []), (266, .bipush 13, []), (268, .bipush 116, []), (270, .iastore, []), (271, .dup, []), (272, .bipush 14, []), (274, .bipush 111, []), (276, .iastore, []), (277, .dup, []), (278, .bipush 15, []), (280, .bipush 112, []), (282, .iastore, []), (283, .putfield 92, [7, 27, 896]), (286, .aload_n 0, []), (287, .bipush 100, []), (289, .newarray .boolean, [3, 1113]), (291, .putfield 95, [7, 28, 897]), (294, .aload_n 0, []), (295, .bipush 7, []), (297, .newarray .int, [0, 155]), (299, .putfield 99, [7, 29, 898]), (302, .aload_n 0, []), (303, .iconst 0, []), (304, .putfield 102, [7, 30, 899]), (307, .aload_n 0, []), (308, .iconst 0, []), (309, .putfield 105, [7, 31, 900]), (312, .aload_n 0, []), (313, .bipush 7, []), (315, .newarray .int, [0, 155]), (317, .putfield 108, [7, 32, 901]), (320, .aload_n 0, []), (321, .bipush 7, []), (323, .newarray .int, [0, 155]), (325, .putfield 111, [7, 33, 902]), (328, .aload_n 0, []), (329, .bipush 10, []), (331, .newarray .long, [1, 285]), (333, .putfield 114, [7, 34, 903]), (336, .aload_n 0, []), (337, .bipush 10, []), (339, .newarray .long, [1, 285]), (341, .putfield 118, [7, 35, 904]), (344, .aload_n 0, []), (345, .iconst 0, []), (346, .putfield 121, [7, 36, 905]), (349, .aload_n 0, []), (350, .iconst 5, []), (351, .newarray .int, [0, 155]), (353, .putfield 124, [7, 37, 906]), (356, .aload_n 0, []), (357, .iconst 5, []), (358, .newarray .int, [0, 155]), (360, .putfield 127, [7, 38, 907]), (363, .aload_n 0, []), (364, .iconst 5, []), (365, .newarray .int, [0, 155]), (367, .putfield 130, [7, 39, 908]), (370, .aload_n 0, []), (371, .iconst 5, []), (372, .newarray .boolean, [3, 1113]), (374, .putfield 133, [7, 40, 909]), (377, .aload_n 0, []), (378, .iconst 0, []), (379, .putfield 136, [7, 41, 910]), (382, .aload_n 0, []), (383, .iconst 0, []), (384, .putfield 139, [7, 42, 911]), (387, .aload_n 0, []), (388, .bipush 6, []), (390, .newarray .int, [0, 155]), (392, .putfield 142, [7, 43, 912]), (395, .aload_n 0, []), (396, .bipush 6, []), (398, .newarray .int, [0, 155]), (400, .putfield 145, [7, 44, 913]), (403, .aload_n 0, []), (404, .bipush 6, []), (406, .newarray .int, [0, 155]), (408, .putfield 148, [7, 45, 914]), (411, .aload_n 0, []), (412, .bipush 8, []), (414, .newarray .int, [0, 155]), (416, .putfield 151, [7, 46, 915]), (419, .aload_n 0, []), (420, .bipush 8, []), (422, .newarray .int, [0, 155]), (424, .putfield 154, [7, 47, 916]), (427, .aload_n 0, []), (428, .bipush 7, []), (430, .newarray .int, [0, 155]), (432, .putfield 157, [7, 48, 917]), (435, .aload_n 0, []), (436, .bipush 7, []), (438, .newarray .int, [0, 155]), (440, .putfield 160, [7, 49, 918]), (443, .aload_n 0, []), (444, .iconst 0, []), (445, .putfield 163, [7, 50, 919]), (448, .aload_n 0, []), (449, .iconst (-1), []), (450, .putfield 167, [7, 51, 920]), (453, .aload_n 0, []), (454, .iconst 0, []), (455, .putfield 170, [7, 52, 921]), (458, .aload_n 0, []), (459, .iconst 0, []), (460, .putfield 173, [7, 53, 922]), (463, .aload_n 0, []), (464, .iconst 0, []), (465, .putfield 176, [7, 54, 923]), (468, .aload_n 0, []), (469, .iconst 0, []), (470, .putfield 179, [7, 55, 924]), (473, .aload_n 0, []), (474, .iconst 0, []), (475, .putfield 182, [7, 56, 925]), (478, .aload_n 0, []), (479, .iconst 0, []), (480, .putfield 185, [7, 57, 926]), (483, .aload_n 0, []), (484, .bipush 7, []), (486, .newarray .int, [0, 155]), (488, .putfield 188, [7, 58, 927]), (491, .aload_n 0, []), (492, .bipush 7, []), (494, .newarray .int, [0, 155]), (496, .putfield 191, [7, 59, 928]), (499, .aload_n 0, []), (500, .bipush 7, []), (502, .newarray .int, [0, 155]), (504, .putfield 194, [7, 60, 929]), (507, .aload_n 0, []), (508, .bipush 7, []), (510, .newarray .int, [0, 155]), (512, .putfield 197, [7, 61, 930]), (515, .aload_n 0, []), (516, .bipush 7, []), (518, .newarray .int, [0, 155]), (520, .putfield 200, [7, 62, 931]), (523, .aload_n 0, []), (524, .bipush 7, []), (526, .newarray .int, [0, 155]), (528, .putfield 203, [7, 63, 932]), (531, .aload_n 0, []), (532, .bipush 7, []), (534, .newarray .int, [0, 155]), (536, .putfield 206, [7, 64, 933]), (539, .aload_n 0, []), (540, .bipush 28, []), (542, .newarray .int, [0, 155]), (544, .putfield 209, [7, 65, 934]), (547, .aload_n 0, []), (548, .iconst 5, []), (549, .newarray .int, [0, 155]), (551, .putfield 212, [7, 66, 935]), (554, .aload_n 0, []), (555, .iconst 5, []), (556, .newarray .int, [0, 155]), (558, .putfield 215, [7, 67, 936]), (561, .aload_n 0, []), (562, .iconst 5, []), (563, .newarray .int, [0, 155]), (565, .putfield 218, [7, 68, 937]), (568, .aload_n 0, []), (569, .bipush 6, []), (571, .newarray .int, [0, 155]), (573, .putfield 221, [7, 69, 938]), (576, .aload_n 0, []), (577, .bipush 6, []), (579, .newarray .int, [0, 155]), (581, .putfield 224, [7, 70, 939]), (584, .aload_n 0, []), (585, .bipush 6, []), (587, .newarray .int, [0, 155]), (589, .putfield 227, [7, 71, 940]), (592, .aload_n 0, []), (593, .bipush 8, []), (595, .newarray .int, [0, 155]), (597, .putfield 230, [7, 72, 941]), (600, .aload_n 0, []), (601, .bipush 8, []), (603, .newarray .int, [0, 155]), (605, .putfield 233, [7, 73, 942]), (608, .aload_n 0, []), (609, .iconst 5, []), (610, .newarray .boolean, [3, 1113]), (612, .putfield 236, [7, 74, 943]), (615, .aload_n 0, []), (616, .iconst 0, []), (617, .putfield 239, [7, 75, 944]), (620, .aload_n 0, []), (621, .bipush 20, []), (623, .newarray .int, [0, 155]), (625, .putfield 242, [7, 76, 945]), (628, .aload_n 0, []), (629, .bipush 6, []), (631, .newarray .int, [0, 155]), (633, .dup, []), (634, .iconst 0, []), (635, .iconst (-1), []), (636, .iastore, []), (637, .dup, []), (638, .iconst 1, []), (639, .iconst (-1), []), (640, .iastore, []), (641, .dup, []), (642, .iconst 2, []), (643, .iconst (-1), []), (644, .iastore, []), (645, .dup, []), (646, .iconst 3, []), (647, .iconst (-1), []), (648, .iastore, []), (649, .dup, []), (650, .iconst 4, []), (651, .iconst (-1), []), (652, .iastore, []), (653, .dup, []), (654, .iconst 5, []), (655, .iconst (-1), []), (656, .iastore, []), (657, .putfield 245, [7, 77, 946]), (660, .aload_n 0, []), (661, .bipush 6, []), (663, .newarray .int, [0, 155]), (665, .putfield 248, [7, 78, 947]), (668, .aload_n 0, []), (669, .sipush 360, []), (672, .newarray .long, [1, 285]), (674, .putfield 251, [7, 79, 948]), (677, .aload_n 0, []), (678, .bipush 60, []), (680, .newarray .long, [1, 285]), (682, .putfield 254, [7, 80, 949]), (685, .return_, [])]
def inf_X7_init : am_I := (yX7_init, cX7_init, 1, none, RX7, ta_X7_init)
def ta_X7_in : List am_A := [(0, .iload_n 1, []), (1, .iload_n 2, []), (2, .if_icmp .lt 12, [8]), (5, .iload_n 1, []), (6, .iload_n 3, []), (7, .if_icmp .gt 7, [8]), (10, .iconst 1, []), (11, .goto 4, [9]), (14, .iconst 0, []), (15, .ireturn, [1])]
def inf_X7_in : am_I := (yX7_in, cX7_in, 4, (some .boolean), RX7, ta_X7_in)
def ta_X7_has : List am_A := [(0, .iload_n 1, []), (1, .iload_n 2, []), (2, .ishr, []), (3, .iconst 1, []), (4, .iand, []), (5, .iconst 1, []), (6, .if_icmp .ne 7, [9]), (9, .iconst 1, []), (10, .goto 4, [10]), (13, .iconst 0, []), (14, .ireturn, [1])]
def inf_X7_has : am_I := (yX7_has, cX7_has, 3, (some .boolean), RX7, ta_X7_has)
def ta_X7_ones : List am_A := [(0, .iconst 0, []), (1, .istore_n 2, []), (2, .iload_n 1, []), (3, .istore_n 3, []), (4, .iload_n 3, []), (5, .ifCond .eq 15, [14]), (8, .iinc 2 1, []), (11, .iload_n 3, []), (12, .iload_n 3, []), (13, .iconst 1, []), (14, .isub, []), (15, .iand, []), (16, .istore_n 3, []), (17, .goto (-13), [4]), (20, .iload_n 2, []), (21, .ireturn, [0])]
def inf_X7_ones : am_I := (yX7_ones, cX7_ones, 4, (some .int), RX7, ta_X7_ones)
def ta_X7_isBird : List am_A := [(0, .aload_n 0, []), (1, .iload_n 1, []), (2, .iconst 0, []), (3, .aload_n 0, []), (4, .getfield 7, [7, 0, 869]), (7, .iconst 1, []), (8, .isub, []), (9, .invokevirtual 257, [0, 112, 3, 7, 1118, 1121, 1120, 31, 104]), (12, .ireturn, [1])]
def inf_X7_isBird : am_I := (yX7_isBird, cX7_isBird, 2, (some .boolean), RX7, ta_X7_isBird)
def ta_X7_isLow : List am_A := [(0, .aload_n 0, []), (1, .iload_n 1, []), (2, .iconst 0, []), (3, .bipush 9, []), (5, .invokevirtual 257, [0, 112, 3, 7, 1118, 1121, 1120, 31, 104]), (8, .ireturn, [1])]
def inf_X7_isLow : am_I := (yX7_isLow, cX7_isLow, 2, (some .boolean), RX7, ta_X7_isLow)
def ta_X7_isHour : List am_A := [(0, .aload_n 0, []), (1, .iload_n 1, []), (2, .iconst 0, []), (3, .bipush 23, []), (5, .invokevirtual 257, [0, 112, 3, 7, 1118, 1121, 1120, 31, 104]), (8, .ireturn, [1])]
def inf_X7_isHour : am_I := (yX7_isHour, cX7_isHour, 2, (some .boolean), RX7, ta_X7_isHour)
def ta_X7_isPurse : List am_A := [(0, .aload_n 0, []), (1, .iload_n 1, []), (2, .iconst 0, []), (3, .sipush 9999, []), (6, .invokevirtual 257, [0, 112, 3, 7, 1118, 1121, 1120, 31, 104]), (9, .ireturn, [1])]
def inf_X7_isPurse : am_I := (yX7_isPurse, cX7_isPurse, 2, (some .boolean), RX7, ta_X7_isPurse)
def ta_X7_isDays : List am_A := [(0, .aload_n 0, []), (1, .iload_n 1, []), (2, .iconst 0, []), (3, .bipush 60, []), (5, .invokevirtual 257, [0, 112, 3, 7, 1118, 1121, 1120, 31, 104]), (8, .ireturn, [1])]
def inf_X7_isDays : am_I := (yX7_isDays, cX7_isDays, 2, (some .boolean), RX7, ta_X7_isDays)
def ta_X7_bird : List am_A := [(0, .aload_n 0, []), (1, .iload_n 1, []), (2, .iconst 0, []), (3, .bipush 6, []), (5, .invokevirtual 257, [0, 112, 3, 7, 1118, 1121, 1120, 31, 104]), (8, .ifCond .ne 5, [8]), (11, .iconst (-1), []), (12, .ireturn, [0]), (13, .aload_n 0, []), (14, .iload_n 2, []), (15, .iconst 0, []), (16, .bipush 9, []), (18, .invokevirtual 257, [0, 112, 3, 7, 1118, 1121, 1120, 31, 104]), (21, .ifCond .eq 44, [34]), (24, .aload_n 0, []), (25, .iload_n 3, []), (26, .invokevirtual 261, [0, 116, 1, 7, 1122, 1125, 1124, 32, 104]), (29, .ifCond .eq 36, [34]), (32, .aload_n 0, []), (33, .iload 4, []), (35, .iconst 1, []), (36, .bipush 10, []), (38, .invokevirtual 257, [0, 112, 3, 7, 1118, 1121, 1120, 31, 104]), (41, .ifCond .eq 24, [34]), (44, .aload_n 0, []), (45, .iload 5, []), (47, .invokevirtual 265, [0, 117, 1, 7, 1126, 1129, 1128, 33, 104]), (50, .ifCond .eq 15, [34]), (53, .aload_n 0, []), (54, .iload 6, []), (56, .iconst 1, []), (57, .bipush 24, []), (59, .invokevirtual 257, [0, 112, 3, 7, 1118, 1121, 1120, 31, 104]), (62, .ifCond .ne 6, [36]), (65, .bipush (-2), []), (67, .ireturn, [0]), (68, .aload_n 0, []), (69, .getfield 7, [7, 0, 869]), (72, .bipush 7, []), (74, .if_icmp .ne 6, [42]), (77, .bipush (-4), []), (79, .ireturn, [0]), (80, .aload_n 0, []), (81, .getfield 19, [7, 3, 872]), (84, .aload_n 0, []), (85, .getfield 7, [7, 0, 869]), (88, .iload_n 1, []), (89, .iastore, []), (90, .aload_n 0, []), (91, .getfield 23, [7, 4, 873]), (94, .aload_n 0, []), (95, .getfield 7, [7, 0, 869]), (98, .iload_n 2, []), (99, .iastore, []), (100, .aload_n 0, []), (101, .getfield 26, [7, 5, 874]), (104, .aload_n 0, []), (105, .getfield 7, [7, 0, 869]), (108, .iload_n 3, []), (109, .iastore, []), (110, .aload_n 0, []), (111, .getfield 29, [7, 6, 875]), (114, .aload_n 0, []), (115, .getfield 7, [7, 0, 869]), (118, .iload 4, []), (120, .iastore, []), (121, .aload_n 0, []), (122, .getfield 32, [7, 7, 876]), (125, .aload_n 0, []), (126, .getfield 7, [7, 0, 869]), (129, .iload 5, []), (131, .iastore, []), (132, .aload_n 0, []), (133, .getfield 35, [7, 8, 877]), (136, .aload_n 0, []), (137, .getfield 7, [7, 0, 869]), (140, .iload 6, []), (142, .iastore, []), (143, .aload_n 0, []), (144, .getfield 38, [7, 9, 878]), (147, .aload_n 0, []), (148, .getfield 7, [7, 0, 869]), (151, .bipush 100, []), (153, .iastore, []), (154, .aload_n 0, []), (155, .dup, []), (156, .getfield 16, [7, 2, 871]), (159, .iconst 1, []), (160, .aload_n 0, []), (161, .getfield 7, [7, 0, 869]), (164, .ishl, []), (165, .iconst (-1), []), (166, .ixor, []), (167, .iand, []), (168, .putfield 16, [7, 2, 871]), (171, .iconst 0, []), (172, .istore 7, []), (174, .iload 7, []), (176, .iconst 4, []), (177, .if_icmp .ge 24, [112]), (180, .aload_n 0, []), (181, .getfield 41, [7, 10, 879]), (184, .iconst 4, []), (185, .aload_n 0, []), (186, .getfield 7, [7, 0, 869]), (189, .imul, []), (190, .iload 7, []), (192, .iadd, []), (193, .iconst 0, []), (194, .iastore, []), (195, .iinc 7 1, []), (198, .goto (-24), [97]), (201, .aload_n 0, []), (202, .dup, []), (203, .getfield 7, [7, 0, 869]), (206, .iconst 1, []), (207, .iadd, []), (208, .putfield 7, [7, 0, 869]), (211, .aload_n 0, []), (212, .getfield 7, [7, 0, 869]), (215, .iconst 1, []), (216, .isub, []), (217, .ireturn, [0])]
def inf_X7_bird : am_I := (yX7_bird, cX7_bird, 8, (some .int), RX7, ta_X7_bird)
def ta_X7_isGood : List am_A := [(0, .iload_n 1, []), (1, .tableswitch 61 0 3 #[31, 37, 46, 52], [31, 22, 2, 6, 12, 16]), (32, .aload_n 0, []), (33, .iload_n 2, []), (34, .invokevirtual 261, [0, 116, 1, 7, 1122, 1125, 1124, 32, 104]), (37, .ireturn, [1]), (38, .aload_n 0, []), (39, .iload_n 2, []), (40, .iconst 1, []), (41, .bipush 10, []), (43, .invokevirtual 257, [0, 112, 3, 7, 1118, 1121, 1120, 31, 104]), (46, .ireturn, [1]), (47, .aload_n 0, []), (48, .iload_n 2, []), (49, .invokevirtual 265, [0, 117, 1, 7, 1126, 1129, 1128, 33, 104]), (52, .ireturn, [1]), (53, .aload_n 0, []), (54, .iload_n 2, []), (55, .iconst 1, []), (56, .bipush 24, []), (58, .invokevirtual 257, [0, 112, 3, 7, 1118, 1121, 1120, 31, 104]), (61, .ireturn, [1]), (62, .aload_n 0, []), (63, .iload_n 2, []), (64, .invokevirtual 268, [0, 118, 1, 7, 1142, 1145, 1144, 36, 104]), (67, .ireturn, [1])]
def inf_X7_isGood : am_I := (yX7_isGood, cX7_isGood, 3, (some .boolean), RX7, ta_X7_isGood)
def ta_X7_partOf : List am_A := [(0, .iload_n 2, []), (1, .tableswitch 59 0 3 #[31, 38, 45, 52], [31, 22, 2, 7, 12, 17]), (32, .aload_n 0, []), (33, .getfield 26, [7, 5, 874]), (36, .iload_n 1, []), (37, .iaload, []), (38, .ireturn, [0]), (39, .aload_n 0, []), (40, .getfield 29, [7, 6, 875]), (43, .iload_n 1, []), (44, .iaload, []), (45, .ireturn, [0]), (46, .aload_n 0, []), (47, .getfield 32, [7, 7, 876]), (50, .iload_n 1, []), (51, .iaload, []), (52, .ireturn, [0]), (53, .aload_n 0, []), (54, .getfield 35, [7, 8, 877]), (57, .iload_n 1, []), (58, .iaload, []), (59, .ireturn, [0]), (60, .aload_n 0, []), (61, .getfield 38, [7, 9, 878]), (64, .iload_n 1, []), (65, .iaload, []), (66, .ireturn, [0])]
def inf_X7_partOf : am_I := (yX7_partOf, cX7_partOf, 3, (some .int), RX7, ta_X7_partOf)
def ta_X7_set : List am_A := [(0, .aload_n 0, []), (1, .iload_n 1, []), (2, .invokevirtual 271, [0, 115, 1, 7, 1134, 1137, 1136, 34, 104]), (5, .ifCond .eq 13, [10]), (8, .aload_n 0, []), (9, .iload_n 2, []), (10, .iconst 0, []), (11, .iconst 4, []), (12, .invokevirtual 257, [0, 112, 3, 7, 1118, 1121, 1120, 31, 104]), (15, .ifCond .ne 5, [12]), (18, .iconst (-1), []), (19, .ireturn, [0]), (20, .aload_n 0, []), (21, .iload_n 2, []), (22, .iload_n 3, []), (23, .invokevirtual 274, [0, 121, 2, 7, 1138, 1141, 1140, 35, 104]), (26, .ifCond .ne 6, [19]), (29, .bipush (-2), []), (31, .ireturn, [0]), (32, .aload_n 0, []), (33, .iload_n 1, []), (34, .iload_n 2, []), (35, .invokevirtual 278, [0, 122, 2, 7, 1146, 1149, 1148, 37, 104]), (38, .istore 4, []), (40, .iload_n 2, []), (41, .ifCond .ne 10, [31]), (44, .aload_n 0, []), (45, .getfield 26, [7, 5, 874]), (48, .iload_n 1, []), (49, .iload_n 3, []), (50, .iastore, []), (51, .iload_n 2, []), (52, .iconst 1, []), (53, .if_icmp .ne 10, [39]), (56, .aload_n 0, []), (57, .getfield 29, [7, 6, 875]), (60, .iload_n 1, []), (61, .iload_n 3, []), (62, .iastore, []), (63, .iload_n 2, []), (64, .iconst 2, []), (65, .if_icmp .ne 10, [47]), (68, .aload_n 0, []), (69, .getfield 32, [7, 7, 876]), (72, .iload_n 1, []), (73, .iload_n 3, []), (74, .iastore, []), (75, .iload_n 2, []), (76, .iconst 3, []), (77, .if_icmp .ne 10, [55]), (80, .aload_n 0, []), (81, .getfield 35, [7, 8, 877]), (84, .iload_n 1, []), (85, .iload_n 3, []), (86, .iastore, []), (87, .iload_n 2, []), (88, .iconst 4, []), (89, .if_icmp .ne 10, [63]), (92, .aload_n 0, []), (93, .getfield 38, [7, 9, 878]), (96, .iload_n 1, []), (97, .iload_n 3, []), (98, .iastore, []), (99, .iload 4, []), (101, .ireturn, [0])]
def inf_X7_set : am_I := (yX7_set, cX7_set, 5, (some .int), RX7, ta_X7_set)
def ta_X7_evict : List am_A := [(0, .aload_n 0, []), (1, .iload_n 1, []), (2, .invokevirtual 271, [0, 115, 1, 7, 1134, 1137, 1136, 34, 104]), (5, .ifCond .ne 5, [6]), (8, .iconst (-1), []), (9, .ireturn, [0]), (10, .aload_n 0, []), (11, .aload_n 0, []), (12, .getfield 16, [7, 2, 871]), (15, .iload_n 1, []), (16, .invokevirtual 282, [0, 113, 2, 7, 1154, 1157, 1156, 38, 104]), (19, .ifCond .eq 7, [14]), (22, .iconst 1, []), (23, .goto 4, [15]), (26, .iconst 0, []), (27, .istore_n 3, []), (28, .aload_n 0, []), (29, .iload_n 2, []), (30, .ifCond .eq 14, [26]), (33, .aload_n 0, []), (34, .getfield 16, [7, 2, 871]), (37, .iconst 1, []), (38, .iload_n 1, []), (39, .ishl, []), (40, .ior, []), (41, .goto 13, [34]), (44, .aload_n 0, []), (45, .getfield 16, [7, 2, 871]), (48, .iconst 1, []), (49, .iload_n 1, []), (50, .ishl, []), (51, .iconst (-1), []), (52, .ixor, []), (53, .iand, []), (54, .putfield 16, [7, 2, 871]), (57, .iload_n 3, []), (58, .ireturn, [0])]
def inf_X7_evict : am_I := (yX7_evict, cX7_evict, 4, (some .int), RX7, ta_X7_evict)
def ta_X7_row : List am_A := [(0, .aload_n 0, []), (1, .iload_n 1, []), (2, .invokevirtual 271, [0, 115, 1, 7, 1134, 1137, 1136, 34, 104]), (5, .ifCond .eq 13, [10]), (8, .aload_n 0, []), (9, .iload_n 2, []), (10, .iconst 0, []), (11, .iconst 3, []), (12, .invokevirtual 257, [0, 112, 3, 7, 1118, 1121, 1120, 31, 104]), (15, .ifCond .ne 5, [12]), (18, .iconst (-1), []), (19, .ireturn, [0]), (20, .aload_n 0, []), (21, .iload_n 3, []), (22, .iconst 0, []), (23, .bipush 9, []), (25, .invokevirtual 257, [0, 112, 3, 7, 1118, 1121, 1120, 31, 104]), (28, .ifCond .ne 6, [20]), (31, .bipush (-2), []), (33, .ireturn, [0]), (34, .aload_n 0, []), (35, .getfield 19, [7, 3, 872]), (38, .iload_n 1, []), (39, .iaload, []), (40, .bipush 6, []), (42, .if_icmp .eq 6, [28]), (45, .bipush (-3), []), (47, .ireturn, [0]), (48, .aload_n 0, []), (49, .getfield 41, [7, 10, 879]), (52, .iconst 4, []), (53, .iload_n 1, []), (54, .imul, []), (55, .iload_n 2, []), (56, .iadd, []), (57, .iaload, []), (58, .istore 4, []), (60, .aload_n 0, []), (61, .getfield 41, [7, 10, 879]), (64, .iconst 4, []), (65, .iload_n 1, []), (66, .imul, []), (67, .iload_n 2, []), (68, .iadd, []), (69, .iload_n 3, []), (70, .iastore, []), (71, .iload 4, []), (73, .ireturn, [0])]
def inf_X7_row : am_I := (yX7_row, cX7_row, 5, (some .int), RX7, ta_X7_row)
def ta_X7_feed : List am_A := [(0, .aload_n 0, []), (1, .iload_n 1, []), (2, .iconst 0, []), (3, .bipush 127, []), (5, .invokevirtual 257, [0, 112, 3, 7, 1118, 1121, 1120, 31, 104]), (8, .ifCond .ne 6, [8]), (11, .bipush (-2), []), (13, .ireturn, [0]), (14, .aload_n 0, []), (15, .getfield 50, [7, 13, 882]), (18, .bipush 100, []), (20, .if_icmp .ne 6, [14]), (23, .bipush (-4), []), (25, .ireturn, [0]), (26, .aload_n 0, []), (27, .getfield 59, [7, 16, 885]), (30, .aload_n 0, []), (31, .getfield 50, [7, 13, 882]), (34, .iload_n 1, []), (35, .iastore, []), (36, .aload_n 0, []), (37, .dup, []), (38, .getfield 50, [7, 13, 882]), (41, .iconst 1, []), (42, .iadd, []), (43, .putfield 50, [7, 13, 882]), (46, .aload_n 0, []), (47, .getfield 50, [7, 13, 882]), (50, .ireturn, [0])]
def inf_X7_feed : am_I := (yX7_feed, cX7_feed, 2, (some .int), RX7, ta_X7_feed)
def ta_X7_next : List am_A := [(0, .aload_n 0, []), (1, .getfield 53, [7, 14, 883]), (4, .aload_n 0, []), (5, .getfield 50, [7, 13, 882]), (8, .if_icmp .ge 15, [11]), (11, .aload_n 0, []), (12, .getfield 59, [7, 16, 885]), (15, .aload_n 0, []), (16, .getfield 53, [7, 14, 883]), (19, .iaload, []), (20, .goto 4, [12]), (23, .iconst (-1), []), (24, .ireturn, [0])]
def inf_X7_next : am_I := (yX7_next, cX7_next, 1, (some .int), RX7, ta_X7_next)
def ta_X7_takes : List am_A := [(0, .aload_n 0, []), (1, .invokevirtual 285, [0, 127, 0, 7, 1182, 1185, 1184, 42, 104]), (4, .iload_n 1, []), (5, .if_icmp .eq 5, [6]), (8, .iconst 0, []), (9, .ireturn, [1]), (10, .aload_n 0, []), (11, .dup, []), (12, .getfield 53, [7, 14, 883]), (15, .iconst 1, []), (16, .iadd, []), (17, .putfield 53, [7, 14, 883]), (20, .iconst 1, []), (21, .ireturn, [1])]
def inf_X7_takes : am_I := (yX7_takes, cX7_takes, 2, (some .boolean), RX7, ta_X7_takes)
def ta_X7_takesWord : List am_A := [(0, .iconst 0, []), (1, .istore_n 3, []), (2, .iload_n 3, []), (3, .iload_n 2, []), (4, .if_icmp .ge 26, [18]), (7, .aload_n 0, []), (8, .aload_n 0, []), (9, .getfield 92, [7, 27, 896]), (12, .iload_n 1, []), (13, .iload_n 3, []), (14, .iadd, []), (15, .iaload, []), (16, .invokevirtual 289, [0, 128, 1, 7, 1190, 1193, 1192, 44, 104]), (19, .ifCond .ne 5, [16]), (22, .iconst 0, []), (23, .ireturn, [1]), (24, .iinc 3 1, []), (27, .goto (-25), [2]), (30, .aload_n 0, []), (31, .bipush 32, []), (33, .invokevirtual 289, [0, 128, 1, 7, 1190, 1193, 1192, 44, 104]), (36, .ireturn, [1])]
def inf_X7_takesWord : am_I := (yX7_takesWord, cX7_takesWord, 4, (some .boolean), RX7, ta_X7_takesWord)
def ta_X7_isDigit : List am_A := [(0, .aload_n 0, []), (1, .aload_n 0, []), (2, .invokevirtual 285, [0, 127, 0, 7, 1182, 1185, 1184, 42, 104]), (5, .bipush 48, []), (7, .bipush 57, []), (9, .invokevirtual 257, [0, 112, 3, 7, 1118, 1121, 1120, 31, 104]), (12, .ireturn, [1])]
def inf_X7_isDigit : am_I := (yX7_isDigit, cX7_isDigit, 1, (some .boolean), RX7, ta_X7_isDigit)
def ta_X7_takesNumber : List am_A := [(0, .aload_n 0, []), (1, .invokevirtual 292, [0, 130, 0, 7, 1198, 1201, 1200, 46, 104]), (4, .ifCond .ne 5, [5]), (7, .iconst 0, []), (8, .ireturn, [1]), (9, .aload_n 0, []), (10, .iconst 0, []), (11, .putfield 56, [7, 15, 884]), (14, .iconst 0, []), (15, .istore_n 1, []), (16, .iload_n 1, []), (17, .iconst 2, []), (18, .if_icmp .ge 45, [35]), (21, .aload_n 0, []), (22, .invokevirtual 292, [0, 130, 0, 7, 1198, 1201, 1200, 46, 104]), (25, .ifCond .eq 38, [35]), (28, .aload_n 0, []), (29, .bipush 10, []), (31, .aload_n 0, []), (32, .getfield 56, [7, 15, 884]), (35, .imul, []), (36, .aload_n 0, []), (37, .invokevirtual 285, [0, 127, 0, 7, 1182, 1185, 1184, 42, 104]), (40, .iadd, []), (41, .bipush 48, []), (43, .isub, []), (44, .putfield 56, [7, 15, 884]), (47, .aload_n 0, []), (48, .dup, []), (49, .getfield 53, [7, 14, 883]), (52, .iconst 1, []), (53, .iadd, []), (54, .putfield 53, [7, 14, 883]), (57, .iinc 1 1, []), (60, .goto (-44), [10]), (63, .iconst 1, []), (64, .ireturn, [1])]
def inf_X7_takesNumber : am_I := (yX7_takesNumber, cX7_takesNumber, 2, (some .boolean), RX7, ta_X7_takesNumber)
def ta_X7_emits : List am_A := [(0, .aload_n 0, []), (1, .getfield 77, [7, 22, 891]), (4, .aload_n 0, []), (5, .getfield 83, [7, 24, 893]), (8, .iload_n 1, []), (9, .iastore, []), (10, .aload_n 0, []), (11, .dup, []), (12, .getfield 83, [7, 24, 893]), (15, .iconst 1, []), (16, .iadd, []), (17, .putfield 83, [7, 24, 893]), (20, .return_, [])]
def inf_X7_emits : am_I := (yX7_emits, cX7_emits, 2, none, RX7, ta_X7_emits)
def ta_X7_whole : List am_A := [(0, .aload_n 0, []), (1, .getfield 86, [7, 25, 894]), (4, .ifCond .le 48, [28]), (7, .aload_n 0, []), (8, .getfield 80, [7, 23, 892]), (11, .aload_n 0, []), (12, .getfield 86, [7, 25, 894]), (15, .iconst 1, []), (16, .isub, []), (17, .iaload, []), (18, .bipush 33, []), (20, .if_icmp .ne 32, [28]), (23, .aload_n 0, []), (24, .bipush (-33), []), (26, .invokevirtual 296, [0, 132, 1, 7, 1214, 1217, 1216, 50, 104]), (29, .aload_n 0, []), (30, .dup, []), (31, .getfield 86, [7, 25, 894]), (34, .iconst 1, []), (35, .isub, []), (36, .putfield 86, [7, 25, 894]), (39, .aload_n 0, []), (40, .dup, []), (41, .getfield 89, [7, 26, 895]), (44, .iconst 1, []), (45, .isub, []), (46, .putfield 89, [7, 26, 895]), (49, .goto (-49), [0]), (52, .return_, [])]
def inf_X7_whole : am_I := (yX7_whole, cX7_whole, 1, none, RX7, ta_X7_whole)
def ta_X7_settle : List am_A := [(0, .aload_n 0, []), (1, .getfield 86, [7, 25, 894]), (4, .ifCond .le 68, [39]), (7, .aload_n 0, []), (8, .getfield 80, [7, 23, 892]), (11, .aload_n 0, []), (12, .getfield 86, [7, 25, 894]), (15, .iconst 1, []), (16, .isub, []), (17, .iaload, []), (18, .bipush 38, []), (20, .if_icmp .eq 25, [24]), (23, .aload_n 0, []), (24, .getfield 80, [7, 23, 892]), (27, .aload_n 0, []), (28, .getfield 86, [7, 25, 894]), (31, .iconst 1, []), (32, .isub, []), (33, .iaload, []), (34, .bipush 124, []), (36, .if_icmp .ne 36, [39]), (39, .iload_n 1, []), (40, .bipush 38, []), (42, .if_icmp .eq 30, [39]), (45, .aload_n 0, []), (46, .dup, []), (47, .getfield 86, [7, 25, 894]), (50, .iconst 1, []), (51, .isub, []), (52, .putfield 86, [7, 25, 894]), (55, .aload_n 0, []), (56, .aload_n 0, []), (57, .getfield 80, [7, 23, 892]), (60, .aload_n 0, []), (61, .getfield 86, [7, 25, 894]), (64, .iaload, []), (65, .ineg, []), (66, .invokevirtual 296, [0, 132, 1, 7, 1214, 1217, 1216, 50, 104]), (69, .goto (-69), [0]), (72, .return_, [])]
def inf_X7_settle : am_I := (yX7_settle, cX7_settle, 2, none, RX7, ta_X7_settle)
def ta_X7_place : List am_A := [(0, .iload_n 1, []), (1, .lookupswitch 71 #[(98, 59), (100, 69), (102, 67), (107, 61), (108, 65), (118, 63)], [59, 14, 2, 12, 10, 4, 8, 6]), (60, .iconst 0, []), (61, .ireturn, [0]), (62, .iconst 1, []), (63, .ireturn, [0]), (64, .iconst 2, []), (65, .ireturn, [0]), (66, .iconst 3, []), (67, .ireturn, [0]), (68, .iconst 4, []), (69, .ireturn, [0]), (70, .iconst 5, []), (71, .ireturn, [0]), (72, .iconst (-1), []), (73, .ireturn, [0])]
def inf_X7_place : am_I := (yX7_place, cX7_place, 2, (some .int), RX7, ta_X7_place)
def ta_X7_takesTest : List am_A := [(0, .aload_n 0, []), (1, .aload_n 0, []), (2, .invokevirtual 285, [0, 127, 0, 7, 1182, 1185, 1184, 42, 104]), (5, .invokevirtual 300, [0, 135, 1, 7, 1210, 1213, 1212, 49, 104]), (8, .istore_n 1, []), (9, .iload_n 1, []), (10, .ifCond .ge 5, [9]), (13, .iconst 0, []), (14, .ireturn, [1]), (15, .aload_n 0, []), (16, .dup, []), (17, .getfield 53, [7, 14, 883]), (20, .iconst 1, []), (21, .iadd, []), (22, .putfield 53, [7, 14, 883]), (25, .aload_n 0, []), (26, .invokevirtual 285, [0, 127, 0, 7, 1182, 1185, 1184, 42, 104]), (29, .istore_n 2, []), (30, .aload_n 0, []), (31, .iload_n 2, []), (32, .bipush 60, []), (34, .bipush 62, []), (36, .invokevirtual 257, [0, 112, 3, 7, 1118, 1121, 1120, 31, 104]), (39, .ifCond .ne 5, [26]), (42, .iconst 0, []), (43, .ireturn, [1]), (44, .aload_n 0, []), (45, .dup, []), (46, .getfield 53, [7, 14, 883]), (49, .iconst 1, []), (50, .iadd, []), (51, .putfield 53, [7, 14, 883]), (54, .aload_n 0, []), (55, .invokevirtual 304, [0, 131, 0, 7, 1194, 1197, 1196, 45, 104]), (58, .ifCond .ne 5, [37]), (61, .iconst 0, []), (62, .ireturn, [1]), (63, .aload_n 0, []), (64, .sipush 1000, []), (67, .iload_n 1, []), (68, .imul, []), (69, .bipush 100, []), (71, .iload_n 2, []), (72, .bipush 60, []), (74, .isub, []), (75, .imul, []), (76, .iadd, []), (77, .aload_n 0, []), (78, .getfield 56, [7, 15, 884]), (81, .iadd, []), (82, .invokevirtual 296, [0, 132, 1, 7, 1214, 1217, 1216, 50, 104]), (85, .aload_n 0, []), (86, .invokevirtual 307, [0, 133, 0, 7, 1218, 1221, 1220, 51, 104]), (89, .iconst 1, []), (90, .ireturn, [1])]
def inf_X7_takesTest : am_I := (yX7_takesTest, cX7_takesTest, 3, (some .boolean), RX7, ta_X7_takesTest)
def ta_X7_takesE : List am_A := [(0, .aload_n 0, []), (1, .iconst 0, []), (2, .putfield 86, [7, 25, 894]), (5, .aload_n 0, []), (6, .iconst 0, []), (7, .putfield 89, [7, 26, 895]), (10, .aload_n 0, []), (11, .getfield 71, [7, 20, 889]), (14, .iload_n 1, []), (15, .aload_n 0, []), (16, .getfield 83, [7, 24, 893]), (19, .iastore, []), (20, .iconst 1, []), (21, .istore_n 2, []), (22, .aload_n 0, []), (23, .invokevirtual 285, [0, 127, 0, 7, 1182, 1185, 1184, 42, 104]), (26, .istore_n 3, []), (27, .iload_n 2, []), (28, .ifCond .eq 82, [64]), (31, .iload_n 3, []), (32, .bipush 33, []), (34, .if_icmp .eq 9, [25]), (37, .iload_n 3, []), (38, .bipush 40, []), (40, .if_icmp .ne 56, [56]), (43, .aload_n 0, []), (44, .getfield 89, [7, 26, 895]), (47, .iconst 4, []), (48, .if_icmp .ne 5, [31]), (51, .iconst 0, []), (52, .ireturn, [1]), (53, .aload_n 0, []), (54, .dup, []), (55, .getfield 89, [7, 26, 895]), (58, .iconst 1, []), (59, .iadd, []), (60, .putfield 89, [7, 26, 895]), (63, .aload_n 0, []), (64, .getfield 80, [7, 23, 892]), (67, .aload_n 0, []), (68, .getfield 86, [7, 25, 894]), (71, .iload_n 3, []), (72, .iastore, []), (73, .aload_n 0, []), (74, .dup, []), (75, .getfield 86, [7, 25, 894]), (78, .iconst 1, []), (79, .iadd, []), (80, .putfield 86, [7, 25, 894]), (83, .aload_n 0, []), (84, .dup, []), (85, .getfield 53, [7, 14, 883]), (88, .iconst 1, []), (89, .iadd, []), (90, .putfield 53, [7, 14, 883]), (93, .goto (-71), [14]), (96, .aload_n 0, []), (97, .invokevirtual 310, [0, 136, 0, 7, 1206, 1209, 1208, 48, 104]), (100, .ifCond .eq 8, [62]), (103, .iconst 0, []), (104, .istore_n 2, []), (105, .goto (-83), [14]), (108, .iconst 0, []), (109, .ireturn, [1]), (110, .iload_n 3, []), (111, .bipush 38, []), (113, .if_icmp .eq 9, [70]), (116, .iload_n 3, []), (117, .bipush 124, []), (119, .if_icmp .ne 43, [94]), (122, .aload_n 0, []), (123, .iload_n 3, []), (124, .invokevirtual 313, [0, 134, 1, 7, 1222, 1225, 1224, 52, 104]), (127, .aload_n 0, []), (128, .getfield 80, [7, 23, 892]), (131, .aload_n 0, []), (132, .getfield 86, [7, 25, 894]), (135, .iload_n 3, []), (136, .iastore, []), (137, .aload_n 0, []), (138, .dup, []), (139, .getfield 86, [7, 25, 894]), (142, .iconst 1, []), (143, .iadd, []), (144, .putfield 86, [7, 25, 894]), (147, .iconst 1, []), (148, .istore_n 2, []), (149, .aload_n 0, []), (150, .dup, []), (151, .getfield 53, [7, 14, 883]), (154, .iconst 1, []), (155, .iadd, []), (156, .putfield 53, [7, 14, 883]), (159, .goto (-137), [14]), (162, .aload_n 0, []), (163, .bipush 124, []), (165, .invokevirtual 313, [0, 134, 1, 7, 1222, 1225, 1224, 52, 104]), (168, .aload_n 0, []), (169, .getfield 74, [7, 21, 890]), (172, .iload_n 1, []), (173, .aload_n 0, []), (174, .getfield 83, [7, 24, 893]), (177, .iastore, []), (178, .aload_n 0, []), (179, .getfield 86, [7, 25, 894]), (182, .ifCond .ne 5, [108]), (185, .iconst 1, []), (186, .ireturn, [1]), (187, .iload_n 3, []), (188, .bipush 41, []), (190, .if_icmp .eq 5, [113]), (193, .iconst 0, []), (194, .ireturn, [1]), (195, .aload_n 0, []), (196, .dup, []), (197, .getfield 86, [7, 25, 894]), (200, .iconst 1, []), (201, .isub, []), (202, .putfield 86, [7, 25, 894]), (205, .aload_n 0, []), (206, .dup, []), (207, .getfield 89, [7, 26, 895]), (210, .iconst 1, []), (211, .isub, []), (212, .putfield 89, [7, 26, 895]), (215, .aload_n 0, []), (216, .dup, []), (217, .getfield 53, [7, 14, 883]), (220, .iconst 1, []), (221, .iadd, []), (222, .putfield 53, [7, 14, 883]), (225, .aload_n 0, []), (226, .invokevirtual 307, [0, 133, 0, 7, 1218, 1221, 1220, 51, 104]), (229, .goto (-207), [14])]
def inf_X7_takesE : am_I := (yX7_takesE, cX7_takesE, 4, (some .boolean), RX7, ta_X7_takesE)
def ta_X7_takesHead : List am_A := [(0, .aload_n 0, []), (1, .invokevirtual 285, [0, 127, 0, 7, 1182, 1185, 1184, 42, 104]), (4, .tableswitch 79 99 103 #[50, 36, 79, 79, 64], [36, 33, 13, 3, 33, 33, 23]), (40, .aload_n 0, []), (41, .getfield 65, [7, 18, 887]), (44, .iload_n 1, []), (45, .iconst 0, []), (46, .iastore, []), (47, .aload_n 0, []), (48, .iconst 0, []), (49, .iconst 4, []), (50, .invokevirtual 316, [0, 129, 2, 7, 1186, 1189, 1188, 43, 104]), (53, .ireturn, [1]), (54, .aload_n 0, []), (55, .getfield 65, [7, 18, 887]), (58, .iload_n 1, []), (59, .iconst 1, []), (60, .iastore, []), (61, .aload_n 0, []), (62, .iconst 4, []), (63, .iconst 5, []), (64, .invokevirtual 316, [0, 129, 2, 7, 1186, 1189, 1188, 43, 104]), (67, .ireturn, [1]), (68, .aload_n 0, []), (69, .getfield 65, [7, 18, 887]), (72, .iload_n 1, []), (73, .iconst 2, []), (74, .iastore, []), (75, .aload_n 0, []), (76, .bipush 9, []), (78, .iconst 4, []), (79, .invokevirtual 316, [0, 129, 2, 7, 1186, 1189, 1188, 43, 104]), (82, .ireturn, [1]), (83, .aload_n 0, []), (84, .getfield 65, [7, 18, 887]), (87, .iload_n 1, []), (88, .iconst 3, []), (89, .iastore, []), (90, .aload_n 0, []), (91, .bipush 13, []), (93, .iconst 3, []), (94, .invokevirtual 316, [0, 129, 2, 7, 1186, 1189, 1188, 43, 104]), (97, .ireturn, [1])]
def inf_X7_takesHead : am_I := (yX7_takesHead, cX7_takesHead, 2, (some .boolean), RX7, ta_X7_takesHead)
def ta_X7_takesClause : List am_A := [(0, .aload_n 0, []), (1, .iload_n 1, []), (2, .invokevirtual 319, [0, 138, 1, 7, 1178, 1181, 1180, 41, 104]), (5, .ifCond .eq 10, [7]), (8, .aload_n 0, []), (9, .invokevirtual 304, [0, 131, 0, 7, 1194, 1197, 1196, 45, 104]), (12, .ifCond .ne 5, [9]), (15, .iconst 0, []), (16, .ireturn, [1]), (17, .aload_n 0, []), (18, .getfield 68, [7, 19, 888]), (21, .iload_n 1, []), (22, .aload_n 0, []), (23, .getfield 56, [7, 15, 884]), (26, .iastore, []), (27, .aload_n 0, []), (28, .getfield 65, [7, 18, 887]), (31, .iload_n 1, []), (32, .iaload, []), (33, .iconst 2, []), (34, .if_icmp .ge 20, [29]), (37, .aload_n 0, []), (38, .bipush 32, []), (40, .invokevirtual 289, [0, 128, 1, 7, 1190, 1193, 1192, 44, 104]), (43, .ifCond .eq 15, [31]), (46, .aload_n 0, []), (47, .iload_n 1, []), (48, .invokevirtual 322, [0, 137, 1, 7, 1202, 1205, 1204, 47, 104]), (51, .ifCond .eq 7, [31]), (54, .iconst 1, []), (55, .goto 4, [32]), (58, .iconst 0, []), (59, .ireturn, [1])]
def inf_X7_takesClause : am_I := (yX7_takesClause, cX7_takesClause, 2, (some .boolean), RX7, ta_X7_takesClause)
def ta_X7_goesText : List am_A := [(0, .aload_n 0, []), (1, .iconst 0, []), (2, .putfield 53, [7, 14, 883]), (5, .aload_n 0, []), (6, .bipush 100, []), (8, .iload_n 1, []), (9, .imul, []), (10, .putfield 83, [7, 24, 893]), (13, .iconst 0, []), (14, .istore_n 2, []), (15, .aload_n 0, []), (16, .bipush 10, []), (18, .iload_n 1, []), (19, .imul, []), (20, .iload_n 2, []), (21, .iadd, []), (22, .invokevirtual 325, [0, 139, 1, 7, 1174, 1177, 1176, 40, 104]), (25, .ifCond .ne 5, [20]), (28, .iconst 0, []), (29, .ireturn, [1]), (30, .iinc 2 1, []), (33, .aload_n 0, []), (34, .getfield 62, [7, 17, 886]), (37, .iload_n 1, []), (38, .iload_n 2, []), (39, .iastore, []), (40, .aload_n 0, []), (41, .getfield 53, [7, 14, 883]), (44, .aload_n 0, []), (45, .getfield 50, [7, 13, 882]), (48, .if_icmp .ne 5, [33]), (51, .iconst 1, []), (52, .ireturn, [1]), (53, .iload_n 2, []), (54, .bipush 10, []), (56, .if_icmp .eq 12, [40]), (59, .aload_n 0, []), (60, .bipush 59, []), (62, .invokevirtual 289, [0, 128, 1, 7, 1190, 1193, 1192, 44, 104]), (65, .ifCond .ne (-50), [10]), (68, .iconst 0, []), (69, .ireturn, [1])]
def inf_X7_goesText : am_I := (yX7_goesText, cX7_goesText, 3, (some .boolean), RX7, ta_X7_goesText)
def ta_X7_estuary : List am_A := [(0, .aload_n 0, []), (1, .getfield 44, [7, 11, 880]), (4, .bipush 6, []), (6, .if_icmp .ne 6, [6]), (9, .bipush (-4), []), (11, .ireturn, [0]), (12, .aload_n 0, []), (13, .aload_n 0, []), (14, .getfield 44, [7, 11, 880]), (17, .invokevirtual 328, [0, 140, 1, 7, 1170, 1173, 1172, 39, 104]), (20, .istore_n 1, []), (21, .aload_n 0, []), (22, .iconst 0, []), (23, .putfield 50, [7, 13, 882]), (26, .iload_n 1, []), (27, .ifCond .ne 11, [21]), (30, .bipush (-10), []), (32, .aload_n 0, []), (33, .getfield 53, [7, 14, 883]), (36, .isub, []), (37, .ireturn, [0]), (38, .aload_n 0, []), (39, .aload_n 0, []), (40, .getfield 44, [7, 11, 880]), (43, .putfield 47, [7, 12, 881]), (46, .aload_n 0, []), (47, .dup, []), (48, .getfield 44, [7, 11, 880]), (51, .iconst 1, []), (52, .iadd, []), (53, .putfield 44, [7, 11, 880]), (56, .aload_n 0, []), (57, .getfield 47, [7, 12, 881]), (60, .ireturn, [0])]
def inf_X7_estuary : am_I := (yX7_estuary, cX7_estuary, 2, (some .int), RX7, ta_X7_estuary)
def ta_X7_begin : List am_A := [(0, .aload_n 0, []), (1, .getfield 47, [7, 12, 881]), (4, .ifCond .ge 7, [5]), (7, .iconst 0, []), (8, .goto 10, [9]), (11, .bipush 10, []), (13, .aload_n 0, []), (14, .getfield 47, [7, 12, 881]), (17, .imul, []), (18, .ireturn, [0])]
def inf_X7_begin : am_I := (yX7_begin, cX7_begin, 1, (some .int), RX7, ta_X7_begin)
def ta_X7_behind : List am_A := [(0, .aload_n 0, []), (1, .getfield 47, [7, 12, 881]), (4, .ifCond .ge 7, [5]), (7, .iconst 0, []), (8, .goto 20, [15]), (11, .bipush 10, []), (13, .aload_n 0, []), (14, .getfield 47, [7, 12, 881]), (17, .imul, []), (18, .aload_n 0, []), (19, .getfield 62, [7, 17, 886]), (22, .aload_n 0, []), (23, .getfield 47, [7, 12, 881]), (26, .iaload, []), (27, .iadd, []), (28, .ireturn, [0])]
def inf_X7_behind : am_I := (yX7_behind, cX7_behind, 1, (some .int), RX7, ta_X7_behind)
def ta_X7_lastOf : List am_A := [(0, .iload_n 2, []), (1, .istore_n 3, []), (2, .aload_n 0, []), (3, .invokevirtual 331, [0, 142, 0, 7, 1242, 1245, 1244, 56, 104]), (6, .istore 4, []), (8, .iload 4, []), (10, .aload_n 0, []), (11, .invokevirtual 334, [0, 143, 0, 7, 1246, 1249, 1248, 57, 104]), (14, .if_icmp .ge 32, [24]), (17, .aload_n 0, []), (18, .getfield 65, [7, 18, 887]), (21, .iload 4, []), (23, .iaload, []), (24, .iload_n 1, []), (25, .if_icmp .ne 13, [20]), (28, .aload_n 0, []), (29, .getfield 68, [7, 19, 888]), (32, .iload 4, []), (34, .iaload, []), (35, .goto 4, [21]), (38, .iload_n 3, []), (39, .istore_n 3, []), (40, .iinc 4 1, []), (43, .goto (-35), [5]), (46, .iload_n 3, []), (47, .ireturn, [0])]
def inf_X7_lastOf : am_I := (yX7_lastOf, cX7_lastOf, 5, (some .int), RX7, ta_X7_lastOf)
def ta_X7_top : List am_A := [(0, .aload_n 0, []), (1, .iconst 3, []), (2, .bipush 10, []), (4, .invokevirtual 337, [0, 144, 2, 7, 1270, 1273, 1272, 63, 104]), (7, .istore_n 1, []), (8, .iload_n 1, []), (9, .iconst 1, []), (10, .if_icmp .ge 7, [10]), (13, .iconst 1, []), (14, .goto 15, [16]), (17, .iload_n 1, []), (18, .bipush 10, []), (20, .if_icmp .le 8, [15]), (23, .bipush 10, []), (25, .goto 4, [16]), (28, .iload_n 1, []), (29, .ireturn, [0])]
def inf_X7_top : am_I := (yX7_top, cX7_top, 2, (some .int), RX7, ta_X7_top)
def ta_X7_factOf : List am_A := [(0, .iload_n 1, []), (1, .tableswitch 65 0 4 #[35, 37, 44, 51, 58], [35, 24, 2, 4, 9, 14, 19]), (36, .iload_n 2, []), (37, .ireturn, [0]), (38, .aload_n 0, []), (39, .getfield 19, [7, 3, 872]), (42, .iload_n 2, []), (43, .iaload, []), (44, .ireturn, [0]), (45, .aload_n 0, []), (46, .getfield 23, [7, 4, 873]), (49, .iload_n 2, []), (50, .iaload, []), (51, .ireturn, [0]), (52, .aload_n 0, []), (53, .getfield 26, [7, 5, 874]), (56, .iload_n 2, []), (57, .iaload, []), (58, .ireturn, [0]), (59, .aload_n 0, []), (60, .getfield 32, [7, 7, 876]), (63, .iload_n 2, []), (64, .iaload, []), (65, .ireturn, [0]), (66, .aload_n 0, []), (67, .getfield 13, [7, 1, 870]), (70, .bipush 10, []), (72, .irem, []), (73, .ireturn, [0])]
def inf_X7_factOf : am_I := (yX7_factOf, cX7_factOf, 3, (some .int), RX7, ta_X7_factOf)
def ta_X7_holds : List am_A := [(0, .iconst 0, []), (1, .istore_n 3, []), (2, .aload_n 0, []), (3, .getfield 71, [7, 20, 889]), (6, .iload_n 1, []), (7, .iaload, []), (8, .istore 4, []), (10, .iload 4, []), (12, .aload_n 0, []), (13, .getfield 74, [7, 21, 890]), (16, .iload_n 1, []), (17, .iaload, []), (18, .if_icmp .ge 225, [133]), (21, .aload_n 0, []), (22, .getfield 77, [7, 22, 891]), (25, .iload 4, []), (27, .iaload, []), (28, .istore 5, []), (30, .iload 5, []), (32, .bipush (-33), []), (34, .if_icmp .ne 30, [38]), (37, .aload_n 0, []), (38, .getfield 95, [7, 28, 897]), (41, .iload_n 3, []), (42, .iconst 1, []), (43, .isub, []), (44, .aload_n 0, []), (45, .getfield 95, [7, 28, 897]), (48, .iload_n 3, []), (49, .iconst 1, []), (50, .isub, []), (51, .baload, [103]), (52, .ifCond .ne 7, [35]), (55, .iconst 1, []), (56, .goto 4, [36]), (59, .iconst 0, []), (60, .bastore, [103]), (61, .goto 176, [131]), (64, .iload 5, []), (66, .ifCond .ge 77, [82]), (69, .iinc 3 (-1), []), (72, .aload_n 0, []), (73, .getfield 95, [7, 28, 897]), (76, .iload_n 3, []), (77, .iconst 1, []), (78, .isub, []), (79, .iload 5, []), (81, .bipush (-38), []), (83, .if_icmp .ne 31, [65]), (86, .aload_n 0, []), (87, .getfield 95, [7, 28, 897]), (90, .iload_n 3, []), (91, .iconst 1, []), (92, .isub, []), (93, .baload, [103]), (94, .ifCond .eq 16, [63]), (97, .aload_n 0, []), (98, .getfield 95, [7, 28, 897]), (101, .iload_n 3, []), (102, .baload, [103]), (103, .ifCond .eq 7, [63]), (106, .iconst 1, []), (107, .goto 32, [80]), (110, .iconst 0, []), (111, .goto 28, [80]), (114, .aload_n 0, []), (115, .getfield 95, [7, 28, 897]), (118, .iload_n 3, []), (119, .iconst 1, []), (120, .isub, []), (121, .baload, [103]), (122, .ifCond .ne 12, [77]), (125, .aload_n 0, []), (126, .getfield 95, [7, 28, 897]), (129, .iload_n 3, []), (130, .baload, [103]), (131, .ifCond .eq 7, [79]), (134, .iconst 1, []), (135, .goto 4, [80]), (138, .iconst 0, []), (139, .bastore, [103]), (140, .goto 97, [131]), (143, .aload_n 0, []), (144, .iload 5, []), (146, .sipush 1000, []), (149, .idiv, []), (150, .iload_n 2, []), (151, .invokevirtual 340, [0, 146, 2, 7, 1254, 1257, 1256, 59, 104]), (154, .istore 6, []), (156, .iload 5, []), (158, .bipush 100, []), (160, .idiv, []), (161, .bipush 10, []), (163, .irem, []), (164, .istore 7, []), (166, .aload_n 0, []), (167, .getfield 95, [7, 28, 897]), (170, .iload_n 3, []), (171, .iload 7, []), (173, .ifCond .ne 21, [109]), (176, .iload 6, []), (178, .iload 5, []), (180, .bipush 100, []), (182, .irem, []), (183, .if_icmp .ge 7, [107]), (186, .iconst 1, []), (187, .goto 46, [129]), (190, .iconst 0, []), (191, .goto 42, [129]), (194, .iload 7, []), (196, .iconst 1, []), (197, .if_icmp .ne 21, [121]), (200, .iload 6, []), (202, .iload 5, []), (204, .bipush 100, []), (206, .irem, []), (207, .if_icmp .ne 7, [119]), (210, .iconst 1, []), (211, .goto 22, [129]), (214, .iconst 0, []), (215, .goto 18, [129]), (218, .iload 6, []), (220, .iload 5, []), (222, .bipush 100, []), (224, .irem, []), (225, .if_icmp .le 7, [128]), (228, .iconst 1, []), (229, .goto 4, [129]), (232, .iconst 0, []), (233, .bastore, [103]), (234, .iinc 3 1, []), (237, .iinc 4 1, []), (240, .goto (-230), [7]), (243, .aload_n 0, []), (244, .getfield 95, [7, 28, 897]), (247, .iconst 0, []), (248, .baload, [103]), (249, .ireturn, [1])]
def inf_X7_holds : am_I := (yX7_holds, cX7_holds, 8, (some .boolean), RX7, ta_X7_holds)
def ta_X7_price : List am_A := [(0, .iconst 1, []), (1, .istore_n 2, []), (2, .aload_n 0, []), (3, .invokevirtual 331, [0, 142, 0, 7, 1242, 1245, 1244, 56, 104]), (6, .istore_n 3, []), (7, .iload_n 3, []), (8, .aload_n 0, []), (9, .invokevirtual 334, [0, 143, 0, 7, 1246, 1249, 1248, 57, 104]), (12, .if_icmp .ge 59, [41]), (15, .aload_n 0, []), (16, .getfield 65, [7, 18, 887]), (19, .iload_n 3, []), (20, .iaload, []), (21, .iconst 1, []), (22, .if_icmp .gt 43, [39]), (25, .aload_n 0, []), (26, .iload_n 3, []), (27, .iload_n 1, []), (28, .invokevirtual 343, [0, 147, 2, 7, 1250, 1253, 1252, 58, 104]), (31, .ifCond .ne 6, [21]), (34, .goto 31, [39]), (37, .iload_n 2, []), (38, .aload_n 0, []), (39, .getfield 65, [7, 18, 887]), (42, .iload_n 3, []), (43, .iaload, []), (44, .ifCond .ne 12, [32]), (47, .aload_n 0, []), (48, .getfield 68, [7, 19, 888]), (51, .iload_n 3, []), (52, .iaload, []), (53, .goto 10, [37]), (56, .aload_n 0, []), (57, .getfield 68, [7, 19, 888]), (60, .iload_n 3, []), (61, .iaload, []), (62, .ineg, []), (63, .iadd, []), (64, .istore_n 2, []), (65, .iinc 3 1, []), (68, .goto (-61), [5]), (71, .iload_n 2, []), (72, .ifCond .ge 7, [45]), (75, .iconst 0, []), (76, .goto 4, [46]), (79, .iload_n 2, []), (80, .ireturn, [0])]
def inf_X7_price : am_I := (yX7_price, cX7_price, 4, (some .int), RX7, ta_X7_price)
def ta_X7_bottom : List am_A := [(0, .aload_n 0, []), (1, .getfield 19, [7, 3, 872]), (4, .iload_n 1, []), (5, .iaload, []), (6, .iconst 2, []), (7, .if_icmp .eq 13, [12]), (10, .aload_n 0, []), (11, .getfield 19, [7, 3, 872]), (14, .iload_n 1, []), (15, .iaload, []), (16, .iconst 5, []), (17, .if_icmp .ne 14, [19]), (20, .aload_n 0, []), (21, .getfield 26, [7, 5, 874]), (24, .iload_n 1, []), (25, .iaload, []), (26, .iconst 2, []), (27, .iadd, []), (28, .goto 9, [23]), (31, .aload_n 0, []), (32, .getfield 26, [7, 5, 874]), (35, .iload_n 1, []), (36, .iaload, []), (37, .ireturn, [0])]
def inf_X7_bottom : am_I := (yX7_bottom, cX7_bottom, 2, (some .int), RX7, ta_X7_bottom)
def ta_X7_begins : List am_A := [(0, .aload_n 0, []), (1, .getfield 32, [7, 7, 876]), (4, .iload_n 1, []), (5, .iaload, []), (6, .aload_n 0, []), (7, .getfield 13, [7, 1, 870]), (10, .iconst 2, []), (11, .irem, []), (12, .iadd, []), (13, .istore_n 2, []), (14, .aload_n 0, []), (15, .getfield 19, [7, 3, 872]), (18, .iload_n 1, []), (19, .iaload, []), (20, .tableswitch 75 3 6 #[32, 75, 37, 54], [32, 47, 15, 47, 19, 31]), (52, .iload_n 2, []), (53, .bipush 24, []), (55, .irem, []), (56, .ireturn, [0]), (57, .aload_n 0, []), (58, .getfield 32, [7, 7, 876]), (61, .iload_n 1, []), (62, .iaload, []), (63, .aload_n 0, []), (64, .getfield 13, [7, 1, 870]), (67, .iconst 3, []), (68, .irem, []), (69, .iadd, []), (70, .bipush 24, []), (72, .irem, []), (73, .ireturn, [0]), (74, .iload_n 2, []), (75, .aload_n 0, []), (76, .getfield 41, [7, 10, 879]), (79, .iconst 4, []), (80, .iload_n 1, []), (81, .imul, []), (82, .aload_n 0, []), (83, .getfield 13, [7, 1, 870]), (86, .iconst 4, []), (87, .irem, []), (88, .iadd, []), (89, .iaload, []), (90, .iadd, []), (91, .bipush 24, []), (93, .irem, []), (94, .ireturn, [0]), (95, .aload_n 0, []), (96, .getfield 32, [7, 7, 876]), (99, .iload_n 1, []), (100, .iaload, []), (101, .ireturn, [0])]
def inf_X7_begins : am_I := (yX7_begins, cX7_begins, 3, (some .int), RX7, ta_X7_begins)
def ta_X7_heights : List am_A := [(0, .aload_n 0, []), (1, .getfield 19, [7, 3, 872]), (4, .iload_n 1, []), (5, .iaload, []), (6, .iconst 4, []), (7, .if_icmp .eq 22, [17]), (10, .aload_n 0, []), (11, .iload_n 1, []), (12, .invokevirtual 346, [0, 149, 1, 7, 1230, 1233, 1232, 53, 104]), (15, .aload_n 0, []), (16, .getfield 29, [7, 6, 875]), (19, .iload_n 1, []), (20, .iaload, []), (21, .iadd, []), (22, .aload_n 0, []), (23, .invokevirtual 349, [0, 145, 0, 7, 1266, 1269, 1268, 62, 104]), (26, .if_icmp .le 10, [20]), (29, .aload_n 0, []), (30, .invokevirtual 349, [0, 145, 0, 7, 1266, 1269, 1268, 62, 104]), (33, .goto 15, [28]), (36, .aload_n 0, []), (37, .iload_n 1, []), (38, .invokevirtual 346, [0, 149, 1, 7, 1230, 1233, 1232, 53, 104]), (41, .aload_n 0, []), (42, .getfield 29, [7, 6, 875]), (45, .iload_n 1, []), (46, .iaload, []), (47, .iadd, []), (48, .istore_n 2, []), (49, .iload_n 2, []), (50, .aload_n 0, []), (51, .iload_n 1, []), (52, .invokevirtual 346, [0, 149, 1, 7, 1230, 1233, 1232, 53, 104]), (55, .if_icmp .ge 7, [36]), (58, .iconst 0, []), (59, .goto 10, [41]), (62, .iload_n 2, []), (63, .aload_n 0, []), (64, .iload_n 1, []), (65, .invokevirtual 346, [0, 149, 1, 7, 1230, 1233, 1232, 53, 104]), (68, .isub, []), (69, .ireturn, [0])]
def inf_X7_heights : am_I := (yX7_heights, cX7_heights, 3, (some .int), RX7, ta_X7_heights)
def ta_X7_holdsStrip : List am_A := [(0, .aload_n 0, []), (1, .aload_n 0, []), (2, .getfield 16, [7, 2, 871]), (5, .iload_n 1, []), (6, .invokevirtual 282, [0, 113, 2, 7, 1154, 1157, 1156, 38, 104]), (9, .ifCond .eq 5, [8]), (12, .iconst 0, []), (13, .ireturn, [1]), (14, .iload_n 3, []), (15, .aload_n 0, []), (16, .iload_n 1, []), (17, .invokevirtual 352, [0, 150, 1, 7, 1234, 1237, 1236, 54, 104]), (20, .isub, []), (21, .istore 4, []), (23, .iload 4, []), (25, .ifCond .ge 11, [20]), (28, .iload 4, []), (30, .bipush 24, []), (32, .iadd, []), (33, .goto 5, [21]), (36, .iload 4, []), (38, .istore 4, []), (40, .iload 4, []), (42, .aload_n 0, []), (43, .getfield 35, [7, 8, 877]), (46, .iload_n 1, []), (47, .iaload, []), (48, .if_icmp .ge 31, [44]), (51, .iload_n 2, []), (52, .aload_n 0, []), (53, .iload_n 1, []), (54, .invokevirtual 346, [0, 149, 1, 7, 1230, 1233, 1232, 53, 104]), (57, .if_icmp .lt 22, [44]), (60, .iload_n 2, []), (61, .aload_n 0, []), (62, .iload_n 1, []), (63, .invokevirtual 346, [0, 149, 1, 7, 1230, 1233, 1232, 53, 104]), (66, .aload_n 0, []), (67, .iload_n 1, []), (68, .invokevirtual 355, [0, 151, 1, 7, 1262, 1265, 1264, 61, 104]), (71, .iadd, []), (72, .if_icmp .ge 7, [44]), (75, .iconst 1, []), (76, .goto 4, [45]), (79, .iconst 0, []), (80, .ireturn, [1])]
def inf_X7_holdsStrip : am_I := (yX7_holdsStrip, cX7_holdsStrip, 5, (some .boolean), RX7, ta_X7_holdsStrip)
def ta_X7_strips : List am_A := [(0, .aload_n 0, []), (1, .aload_n 0, []), (2, .getfield 16, [7, 2, 871]), (5, .iload_n 1, []), (6, .invokevirtual 282, [0, 113, 2, 7, 1154, 1157, 1156, 38, 104]), (9, .ifCond .eq 7, [8]), (12, .iconst 0, []), (13, .goto 15, [16]), (16, .aload_n 0, []), (17, .iload_n 1, []), (18, .invokevirtual 355, [0, 151, 1, 7, 1262, 1265, 1264, 61, 104]), (21, .aload_n 0, []), (22, .getfield 35, [7, 8, 877]), (25, .iload_n 1, []), (26, .iaload, []), (27, .imul, []), (28, .ireturn, [0])]
def inf_X7_strips : am_I := (yX7_strips, cX7_strips, 2, (some .int), RX7, ta_X7_strips)
def ta_X7_rent : List am_A := [(0, .aload_n 0, []), (1, .getfield 19, [7, 3, 872]), (4, .iload_n 1, []), (5, .iaload, []), (6, .iconst 1, []), (7, .if_icmp .eq 13, [12]), (10, .aload_n 0, []), (11, .getfield 19, [7, 3, 872]), (14, .iload_n 1, []), (15, .iaload, []), (16, .iconst 4, []), (17, .if_icmp .ne 19, [22]), (20, .aload_n 0, []), (21, .iload_n 1, []), (22, .invokevirtual 358, [0, 153, 1, 7, 1258, 1261, 1260, 60, 104]), (25, .aload_n 0, []), (26, .iload_n 1, []), (27, .invokevirtual 361, [0, 148, 1, 7, 1238, 1241, 1240, 55, 104]), (30, .imul, []), (31, .iconst 2, []), (32, .idiv, []), (33, .goto 14, [29]), (36, .aload_n 0, []), (37, .iload_n 1, []), (38, .invokevirtual 358, [0, 153, 1, 7, 1258, 1261, 1260, 60, 104]), (41, .aload_n 0, []), (42, .iload_n 1, []), (43, .invokevirtual 361, [0, 148, 1, 7, 1238, 1241, 1240, 55, 104]), (46, .imul, []), (47, .ireturn, [0])]
def inf_X7_rent : am_I := (yX7_rent, cX7_rent, 2, (some .int), RX7, ta_X7_rent)
def ta_X7_of : List am_A := [(0, .aload_n 0, []), (1, .iload_n 1, []), (2, .invokevirtual 271, [0, 115, 1, 7, 1134, 1137, 1136, 34, 104]), (5, .ifCond .ne 5, [6]), (8, .iconst (-1), []), (9, .ireturn, [0]), (10, .iload_n 2, []), (11, .tableswitch 136 0 12 #[65, 72, 79, 79, 79, 79, 79, 88, 106, 112, 118, 124, 130], [65, 55, 8, 13, 18, 18, 18, 18, 18, 25, 35, 39, 43, 47, 51]), (76, .aload_n 0, []), (77, .getfield 19, [7, 3, 872]), (80, .iload_n 1, []), (81, .iaload, []), (82, .ireturn, [0]), (83, .aload_n 0, []), (84, .getfield 23, [7, 4, 873]), (87, .iload_n 1, []), (88, .iaload, []), (89, .ireturn, [0]), (90, .aload_n 0, []), (91, .iload_n 1, []), (92, .iload_n 2, []), (93, .iconst 2, []), (94, .isub, []), (95, .invokevirtual 278, [0, 122, 2, 7, 1146, 1149, 1148, 37, 104]), (98, .ireturn, [0]), (99, .aload_n 0, []), (100, .aload_n 0, []), (101, .getfield 16, [7, 2, 871]), (104, .iload_n 1, []), (105, .invokevirtual 282, [0, 113, 2, 7, 1154, 1157, 1156, 38, 104]), (108, .ifCond .eq 7, [33]), (111, .iconst 1, []), (112, .goto 4, [34]), (115, .iconst 0, []), (116, .ireturn, [0]), (117, .aload_n 0, []), (118, .iload_n 1, []), (119, .invokevirtual 346, [0, 149, 1, 7, 1230, 1233, 1232, 53, 104]), (122, .ireturn, [0]), (123, .aload_n 0, []), (124, .iload_n 1, []), (125, .invokevirtual 352, [0, 150, 1, 7, 1234, 1237, 1236, 54, 104]), (128, .ireturn, [0]), (129, .aload_n 0, []), (130, .iload_n 1, []), (131, .invokevirtual 361, [0, 148, 1, 7, 1238, 1241, 1240, 55, 104]), (134, .ireturn, [0]), (135, .aload_n 0, []), (136, .iload_n 1, []), (137, .invokevirtual 358, [0, 153, 1, 7, 1258, 1261, 1260, 60, 104]), (140, .ireturn, [0]), (141, .aload_n 0, []), (142, .iload_n 1, []), (143, .invokevirtual 364, [0, 154, 1, 7, 1274, 1277, 1276, 64, 104]), (146, .ireturn, [0]), (147, .iconst (-1), []), (148, .ireturn, [0])]
def inf_X7_of : am_I := (yX7_of, cX7_of, 3, (some .int), RX7, ta_X7_of)
def ta_X7_heldBy : List am_A := [(0, .iconst 0, []), (1, .istore_n 3, []), (2, .iconst 0, []), (3, .istore 4, []), (5, .iload 4, []), (7, .aload_n 0, []), (8, .getfield 7, [7, 0, 869]), (11, .if_icmp .ge 31, [24]), (14, .iload_n 3, []), (15, .aload_n 0, []), (16, .iload 4, []), (18, .iload_n 1, []), (19, .iload_n 2, []), (20, .invokevirtual 367, [0, 152, 3, 7, 1294, 1297, 1296, 68, 104]), (23, .ifCond .eq 10, [19]), (26, .iconst 1, []), (27, .iload 4, []), (29, .ishl, []), (30, .goto 4, [20]), (33, .iconst 0, []), (34, .ior, []), (35, .istore_n 3, []), (36, .iinc 4 1, []), (39, .goto (-34), [4]), (42, .iload_n 3, []), (43, .ireturn, [0])]
def inf_X7_heldBy : am_I := (yX7_heldBy, cX7_heldBy, 5, (some .int), RX7, ta_X7_heldBy)
def ta_X7_freeAt : List am_A := [(0, .iconst 0, []), (1, .istore_n 2, []), (2, .iconst 0, []), (3, .istore_n 3, []), (4, .iload_n 3, []), (5, .aload_n 0, []), (6, .invokevirtual 349, [0, 145, 0, 7, 1266, 1269, 1268, 62, 104]), (9, .if_icmp .ge 28, [23]), (12, .iload_n 2, []), (13, .aload_n 0, []), (14, .iload_n 3, []), (15, .iload_n 1, []), (16, .invokevirtual 370, [0, 156, 2, 7, 1290, 1293, 1292, 67, 104]), (19, .ifCond .ne 9, [18]), (22, .iconst 1, []), (23, .iload_n 3, []), (24, .ishl, []), (25, .goto 4, [19]), (28, .iconst 0, []), (29, .ior, []), (30, .istore_n 2, []), (31, .iinc 3 1, []), (34, .goto (-30), [4]), (37, .iload_n 2, []), (38, .ireturn, [0])]
def inf_X7_freeAt : am_I := (yX7_freeAt, cX7_freeAt, 4, (some .int), RX7, ta_X7_freeAt)
def ta_X7_allFree : List am_A := [(0, .iconst 0, []), (1, .istore_n 1, []), (2, .iconst 0, []), (3, .istore_n 2, []), (4, .iload_n 2, []), (5, .bipush 24, []), (7, .if_icmp .ge 21, [17]), (10, .iload_n 1, []), (11, .aload_n 0, []), (12, .aload_n 0, []), (13, .iload_n 2, []), (14, .invokevirtual 373, [0, 157, 1, 7, 1286, 1289, 1288, 66, 104]), (17, .invokevirtual 376, [0, 114, 1, 7, 1298, 1301, 1300, 69, 104]), (20, .iadd, []), (21, .istore_n 1, []), (22, .iinc 2 1, []), (25, .goto (-21), [4]), (28, .iload_n 1, []), (29, .ireturn, [0])]
def inf_X7_allFree : am_I := (yX7_allFree, cX7_allFree, 3, (some .int), RX7, ta_X7_allFree)
def ta_X7_crowded : List am_A := [(0, .iconst 0, []), (1, .istore_n 1, []), (2, .iconst 0, []), (3, .istore_n 2, []), (4, .iload_n 2, []), (5, .bipush 24, []), (7, .if_icmp .ge 47, [31]), (10, .iconst 0, []), (11, .istore_n 3, []), (12, .iload_n 3, []), (13, .aload_n 0, []), (14, .invokevirtual 349, [0, 145, 0, 7, 1266, 1269, 1268, 62, 104]), (17, .if_icmp .ge 31, [29]), (20, .iload_n 1, []), (21, .aload_n 0, []), (22, .aload_n 0, []), (23, .iload_n 3, []), (24, .iload_n 2, []), (25, .invokevirtual 370, [0, 156, 2, 7, 1290, 1293, 1292, 67, 104]), (28, .invokevirtual 376, [0, 114, 1, 7, 1298, 1301, 1300, 69, 104]), (31, .iconst 1, []), (32, .if_icmp .le 7, [24]), (35, .iconst 1, []), (36, .goto 4, [25]), (39, .iconst 0, []), (40, .iadd, []), (41, .istore_n 1, []), (42, .iinc 3 1, []), (45, .goto (-33), [9]), (48, .iinc 2 1, []), (51, .goto (-47), [4]), (54, .iload_n 1, []), (55, .ireturn, [0])]
def inf_X7_crowded : am_I := (yX7_crowded, cX7_crowded, 4, (some .int), RX7, ta_X7_crowded)
def ta_X7_allRent : List am_A := [(0, .iconst 0, []), (1, .istore_n 1, []), (2, .iconst 0, []), (3, .istore_n 2, []), (4, .iload_n 2, []), (5, .aload_n 0, []), (6, .getfield 7, [7, 0, 869]), (9, .if_icmp .ge 17, [16]), (12, .iload_n 1, []), (13, .aload_n 0, []), (14, .iload_n 2, []), (15, .invokevirtual 364, [0, 154, 1, 7, 1274, 1277, 1276, 64, 104]), (18, .iadd, []), (19, .istore_n 1, []), (20, .iinc 2 1, []), (23, .goto (-19), [4]), (26, .iload_n 1, []), (27, .ireturn, [0])]
def inf_X7_allRent : am_I := (yX7_allRent, cX7_allRent, 3, (some .int), RX7, ta_X7_allRent)
def ta_X7_told : List am_A := [(0, .iload_n 1, []), (1, .tableswitch 80 0 6 #[43, 48, 55, 60, 65, 70, 75], [43, 25, 2, 5, 10, 13, 16, 19, 22]), (44, .aload_n 0, []), (45, .getfield 13, [7, 1, 870]), (48, .ireturn, [0]), (49, .aload_n 0, []), (50, .iconst 2, []), (51, .iconst 0, []), (52, .invokevirtual 337, [0, 144, 2, 7, 1270, 1273, 1272, 63, 104]), (55, .ireturn, [0]), (56, .aload_n 0, []), (57, .invokevirtual 349, [0, 145, 0, 7, 1266, 1269, 1268, 62, 104]), (60, .ireturn, [0]), (61, .aload_n 0, []), (62, .getfield 16, [7, 2, 871]), (65, .ireturn, [0]), (66, .aload_n 0, []), (67, .invokevirtual 379, [0, 158, 0, 7, 1282, 1285, 1284, 65, 104]), (70, .ireturn, [0]), (71, .aload_n 0, []), (72, .invokevirtual 382, [0, 159, 0, 7, 1302, 1305, 1304, 70, 104]), (75, .ireturn, [0]), (76, .aload_n 0, []), (77, .invokevirtual 385, [0, 160, 0, 7, 1306, 1309, 1308, 71, 104]), (80, .ireturn, [0]), (81, .iconst (-1), []), (82, .ireturn, [0])]
def inf_X7_told : am_I := (yX7_told, cX7_told, 2, (some .int), RX7, ta_X7_told)
def ta_X7_isHeight : List am_A := [(0, .aload_n 0, []), (1, .iload_n 1, []), (2, .iconst 0, []), (3, .aload_n 0, []), (4, .invokevirtual 349, [0, 145, 0, 7, 1266, 1269, 1268, 62, 104]), (7, .iconst 1, []), (8, .isub, []), (9, .invokevirtual 257, [0, 112, 3, 7, 1118, 1121, 1120, 31, 104]), (12, .ireturn, [1])]
def inf_X7_isHeight : am_I := (yX7_isHeight, cX7_isHeight, 2, (some .boolean), RX7, ta_X7_isHeight)
def ta_X7_held : List am_A := [(0, .aload_n 0, []), (1, .iload_n 1, []), (2, .invokevirtual 388, [0, 162, 1, 7, 1314, 1317, 1316, 72, 104]), (5, .ifCond .eq 20, [13]), (8, .aload_n 0, []), (9, .iload_n 2, []), (10, .invokevirtual 265, [0, 117, 1, 7, 1126, 1129, 1128, 33, 104]), (13, .ifCond .eq 12, [13]), (16, .aload_n 0, []), (17, .iload_n 1, []), (18, .iload_n 2, []), (19, .invokevirtual 370, [0, 156, 2, 7, 1290, 1293, 1292, 67, 104]), (22, .goto 4, [14]), (25, .iconst (-1), []), (26, .ireturn, [0])]
def inf_X7_held : am_I := (yX7_held, cX7_held, 3, (some .int), RX7, ta_X7_held)
def ta_X7_free : List am_A := [(0, .aload_n 0, []), (1, .iload_n 1, []), (2, .invokevirtual 265, [0, 117, 1, 7, 1126, 1129, 1128, 33, 104]), (5, .ifCond .eq 11, [8]), (8, .aload_n 0, []), (9, .iload_n 1, []), (10, .invokevirtual 373, [0, 157, 1, 7, 1286, 1289, 1288, 66, 104]), (13, .goto 4, [9]), (16, .iconst (-1), []), (17, .ireturn, [0])]
def inf_X7_free : am_I := (yX7_free, cX7_free, 2, (some .int), RX7, ta_X7_free)
def ta_X7_clashOf : List am_A := [(0, .iconst 0, []), (1, .istore_n 3, []), (2, .iconst 0, []), (3, .istore 4, []), (5, .iload 4, []), (7, .bipush 24, []), (9, .if_icmp .ge 59, [35]), (12, .iconst 0, []), (13, .istore 5, []), (15, .iload 5, []), (17, .aload_n 0, []), (18, .invokevirtual 349, [0, 145, 0, 7, 1266, 1269, 1268, 62, 104]), (21, .if_icmp .ge 41, [33]), (24, .iload_n 3, []), (25, .aload_n 0, []), (26, .iload_n 1, []), (27, .iload 5, []), (29, .iload 4, []), (31, .invokevirtual 367, [0, 152, 3, 7, 1294, 1297, 1296, 68, 104]), (34, .ifCond .eq 19, [28]), (37, .aload_n 0, []), (38, .iload_n 2, []), (39, .iload 5, []), (41, .iload 4, []), (43, .invokevirtual 367, [0, 152, 3, 7, 1294, 1297, 1296, 68, 104]), (46, .ifCond .eq 7, [28]), (49, .iconst 1, []), (50, .goto 4, [29]), (53, .iconst 0, []), (54, .iadd, []), (55, .istore_n 3, []), (56, .iinc 5 1, []), (59, .goto (-44), [9]), (62, .iinc 4 1, []), (65, .goto (-60), [4]), (68, .iload_n 3, []), (69, .ireturn, [0])]
def inf_X7_clashOf : am_I := (yX7_clashOf, cX7_clashOf, 6, (some .int), RX7, ta_X7_clashOf)
def ta_X7_clash : List am_A := [(0, .aload_n 0, []), (1, .iload_n 1, []), (2, .invokevirtual 271, [0, 115, 1, 7, 1134, 1137, 1136, 34, 104]), (5, .ifCond .eq 11, [8]), (8, .aload_n 0, []), (9, .iload_n 2, []), (10, .invokevirtual 271, [0, 115, 1, 7, 1134, 1137, 1136, 34, 104]), (13, .ifCond .ne 5, [10]), (16, .iconst (-1), []), (17, .ireturn, [0]), (18, .iload_n 1, []), (19, .iload_n 2, []), (20, .if_icmp .ne 8, [15]), (23, .bipush (-2), []), (25, .goto 9, [19]), (28, .aload_n 0, []), (29, .iload_n 1, []), (30, .iload_n 2, []), (31, .invokevirtual 391, [0, 165, 2, 7, 1326, 1329, 1328, 73, 104]), (34, .ireturn, [0])]
def inf_X7_clash : am_I := (yX7_clash, cX7_clash, 3, (some .int), RX7, ta_X7_clash)
def ta_X7_worst : List am_A := [(0, .bipush (-5), []), (2, .istore_n 1, []), (3, .iconst 0, []), (4, .istore_n 2, []), (5, .iconst 0, []), (6, .istore_n 3, []), (7, .iload_n 3, []), (8, .aload_n 0, []), (9, .getfield 7, [7, 0, 869]), (12, .if_icmp .ge 58, [39]), (15, .iload_n 3, []), (16, .iconst 1, []), (17, .iadd, []), (18, .istore 4, []), (20, .iload 4, []), (22, .aload_n 0, []), (23, .getfield 7, [7, 0, 869]), (26, .if_icmp .ge 38, [37]), (29, .aload_n 0, []), (30, .iload_n 3, []), (31, .iload 4, []), (33, .invokevirtual 391, [0, 165, 2, 7, 1326, 1329, 1328, 73, 104]), (36, .istore 5, []), (38, .iload 5, []), (40, .iload_n 2, []), (41, .if_icmp .gt 6, [27]), (44, .goto 14, [35]), (47, .bipush 10, []), (49, .iload_n 3, []), (50, .imul, []), (51, .iload 4, []), (53, .iadd, []), (54, .istore_n 1, []), (55, .iload 5, []), (57, .istore_n 2, []), (58, .iinc 4 1, []), (61, .goto (-41), [14]), (64, .iinc 3 1, []), (67, .goto (-60), [6]), (70, .iload_n 1, []), (71, .ireturn, [0])]
def inf_X7_worst : am_I := (yX7_worst, cX7_worst, 6, (some .int), RX7, ta_X7_worst)
def ta_X7_goDay : List am_A := [(0, .iconst 0, []), (1, .istore_n 1, []), (2, .iload_n 1, []), (3, .aload_n 0, []), (4, .getfield 7, [7, 0, 869]), (7, .if_icmp .ge 20, [15]), (10, .aload_n 0, []), (11, .getfield 99, [7, 29, 898]), (14, .iload_n 1, []), (15, .aload_n 0, []), (16, .iload_n 1, []), (17, .invokevirtual 364, [0, 154, 1, 7, 1274, 1277, 1276, 64, 104]), (20, .iastore, []), (21, .iinc 1 1, []), (24, .goto (-22), [2]), (27, .iconst 0, []), (28, .istore_n 1, []), (29, .iload_n 1, []), (30, .aload_n 0, []), (31, .getfield 7, [7, 0, 869]), (34, .if_icmp .ge 96, [72]), (37, .aload_n 0, []), (38, .aload_n 0, []), (39, .getfield 16, [7, 2, 871]), (42, .iload_n 1, []), (43, .invokevirtual 282, [0, 113, 2, 7, 1154, 1157, 1156, 38, 104]), (46, .ifCond .eq 6, [28]), (49, .goto 75, [70]), (52, .aload_n 0, []), (53, .getfield 38, [7, 9, 878]), (56, .iload_n 1, []), (57, .iaload, []), (58, .aload_n 0, []), (59, .iconst 2, []), (60, .iconst 0, []), (61, .invokevirtual 337, [0, 144, 2, 7, 1270, 1273, 1272, 63, 104]), (64, .iadd, []), (65, .aload_n 0, []), (66, .getfield 99, [7, 29, 898]), (69, .iload_n 1, []), (70, .iaload, []), (71, .isub, []), (72, .istore_n 2, []), (73, .aload_n 0, []), (74, .getfield 38, [7, 9, 878]), (77, .iload_n 1, []), (78, .iload_n 2, []), (79, .ifCond .ge 7, [50]), (82, .iconst 0, []), (83, .goto 17, [56]), (86, .iload_n 2, []), (87, .sipush 9999, []), (90, .if_icmp .le 9, [55]), (93, .sipush 9999, []), (96, .goto 4, [56]), (99, .iload_n 2, []), (100, .iastore, []), (101, .aload_n 0, []), (102, .iload_n 2, []), (103, .ifCond .ge 14, [67]), (106, .aload_n 0, []), (107, .getfield 16, [7, 2, 871]), (110, .iconst 1, []), (111, .iload_n 1, []), (112, .ishl, []), (113, .ior, []), (114, .goto 7, [69]), (117, .aload_n 0, []), (118, .getfield 16, [7, 2, 871]), (121, .putfield 16, [7, 2, 871]), (124, .iinc 1 1, []), (127, .goto (-98), [17]), (130, .aload_n 0, []), (131, .dup, []), (132, .getfield 13, [7, 1, 870]), (135, .iconst 1, []), (136, .iadd, []), (137, .putfield 13, [7, 1, 870]), (140, .return_, [])]
def inf_X7_goDay : am_I := (yX7_goDay, cX7_goDay, 3, none, RX7, ta_X7_goDay)
def ta_X7_goDays : List am_A := [(0, .iconst 0, []), (1, .istore_n 2, []), (2, .iload_n 2, []), (3, .iload_n 1, []), (4, .if_icmp .ge 13, [9]), (7, .aload_n 0, []), (8, .invokevirtual 394, [0, 168, 0, 7, 1346, 1349, 1348, 76, 104]), (11, .iinc 2 1, []), (14, .goto (-12), [2]), (17, .return_, [])]
def inf_X7_goDays : am_I := (yX7_goDays, cX7_goDays, 3, none, RX7, ta_X7_goDays)
def ta_X7_pass : List am_A := [(0, .aload_n 0, []), (1, .iload_n 1, []), (2, .invokevirtual 397, [0, 119, 1, 7, 1338, 1341, 1340, 74, 104]), (5, .ifCond .ne 6, [6]), (8, .bipush (-2), []), (10, .ireturn, [0]), (11, .aload_n 0, []), (12, .getfield 13, [7, 1, 870]), (15, .iload_n 1, []), (16, .iadd, []), (17, .sipush 9999, []), (20, .if_icmp .le 6, [14]), (23, .bipush (-3), []), (25, .ireturn, [0]), (26, .aload_n 0, []), (27, .iload_n 1, []), (28, .invokevirtual 400, [0, 169, 1, 7, 1342, 1345, 1344, 75, 104]), (31, .aload_n 0, []), (32, .getfield 13, [7, 1, 870]), (35, .ireturn, [0])]
def inf_X7_pass : am_I := (yX7_pass, cX7_pass, 2, (some .int), RX7, ta_X7_pass)
def ta_X7_save : List am_A := [(0, .aload_n 0, []), (1, .aload_n 0, []), (2, .getfield 13, [7, 1, 870]), (5, .putfield 102, [7, 30, 899]), (8, .aload_n 0, []), (9, .aload_n 0, []), (10, .getfield 16, [7, 2, 871]), (13, .putfield 105, [7, 31, 900]), (16, .iconst 0, []), (17, .istore_n 1, []), (18, .iload_n 1, []), (19, .bipush 7, []), (21, .if_icmp .ge 21, [23]), (24, .aload_n 0, []), (25, .getfield 108, [7, 32, 901]), (28, .iload_n 1, []), (29, .aload_n 0, []), (30, .getfield 38, [7, 9, 878]), (33, .iload_n 1, []), (34, .iaload, []), (35, .iastore, []), (36, .iinc 1 1, []), (39, .goto (-21), [10]), (42, .return_, [])]
def inf_X7_save : am_I := (yX7_save, cX7_save, 2, none, RX7, ta_X7_save)
def ta_X7_putBack : List am_A := [(0, .aload_n 0, []), (1, .aload_n 0, []), (2, .getfield 102, [7, 30, 899]), (5, .putfield 13, [7, 1, 870]), (8, .aload_n 0, []), (9, .aload_n 0, []), (10, .getfield 105, [7, 31, 900]), (13, .putfield 16, [7, 2, 871]), (16, .iconst 0, []), (17, .istore_n 1, []), (18, .iload_n 1, []), (19, .bipush 7, []), (21, .if_icmp .ge 21, [23]), (24, .aload_n 0, []), (25, .getfield 38, [7, 9, 878]), (28, .iload_n 1, []), (29, .aload_n 0, []), (30, .getfield 108, [7, 32, 901]), (33, .iload_n 1, []), (34, .iaload, []), (35, .iastore, []), (36, .iinc 1 1, []), (39, .goto (-21), [10]), (42, .return_, [])]
def inf_X7_putBack : am_I := (yX7_putBack, cX7_putBack, 2, none, RX7, ta_X7_putBack)
def ta_X7_on : List am_A := [(0, .aload_n 0, []), (1, .iload_n 2, []), (2, .iconst 0, []), (3, .iconst 1, []), (4, .invokevirtual 257, [0, 112, 3, 7, 1118, 1121, 1120, 31, 104]), (7, .ifCond .ne 39, [26]), (10, .aload_n 0, []), (11, .iload_n 2, []), (12, .bipush 10, []), (14, .bipush 9, []), (16, .aload_n 0, []), (17, .getfield 7, [7, 0, 869]), (20, .iadd, []), (21, .invokevirtual 257, [0, 112, 3, 7, 1118, 1121, 1120, 31, 104]), (24, .ifCond .ne 22, [26]), (27, .aload_n 0, []), (28, .iload_n 2, []), (29, .bipush 20, []), (31, .bipush 19, []), (33, .aload_n 0, []), (34, .getfield 7, [7, 0, 869]), (37, .iadd, []), (38, .invokevirtual 257, [0, 112, 3, 7, 1118, 1121, 1120, 31, 104]), (41, .ifCond .ne 5, [26]), (44, .iconst (-1), []), (45, .ireturn, [0]), (46, .aload_n 0, []), (47, .iload_n 1, []), (48, .invokevirtual 397, [0, 119, 1, 7, 1338, 1341, 1340, 74, 104]), (51, .ifCond .ne 6, [32]), (54, .bipush (-2), []), (56, .ireturn, [0]), (57, .aload_n 0, []), (58, .invokevirtual 403, [0, 171, 0, 7, 1354, 1357, 1356, 77, 104]), (61, .aload_n 0, []), (62, .iload_n 1, []), (63, .invokevirtual 400, [0, 169, 1, 7, 1342, 1345, 1344, 75, 104]), (66, .iload_n 2, []), (67, .ifCond .ne 10, [42]), (70, .aload_n 0, []), (71, .getfield 16, [7, 2, 871]), (74, .goto 41, [63]), (77, .iload_n 2, []), (78, .iconst 1, []), (79, .if_icmp .ne 10, [48]), (82, .aload_n 0, []), (83, .invokevirtual 385, [0, 160, 0, 7, 1306, 1309, 1308, 71, 104]), (86, .goto 29, [63]), (89, .iload_n 2, []), (90, .bipush 20, []), (92, .if_icmp .ge 15, [58]), (95, .aload_n 0, []), (96, .getfield 38, [7, 9, 878]), (99, .iload_n 2, []), (100, .bipush 10, []), (102, .isub, []), (103, .iaload, []), (104, .goto 11, [63]), (107, .aload_n 0, []), (108, .iload_n 2, []), (109, .bipush 20, []), (111, .isub, []), (112, .invokevirtual 364, [0, 154, 1, 7, 1274, 1277, 1276, 64, 104]), (115, .istore_n 3, []), (116, .aload_n 0, []), (117, .invokevirtual 406, [0, 172, 0, 7, 1358, 1361, 1360, 78, 104]), (120, .iload_n 3, []), (121, .ireturn, [0])]
def inf_X7_on : am_I := (yX7_on, cX7_on, 4, (some .int), RX7, ta_X7_on)
def ta_X7_empty : List am_A := [(0, .aload_n 0, []), (1, .iload_n 1, []), (2, .invokevirtual 271, [0, 115, 1, 7, 1134, 1137, 1136, 34, 104]), (5, .ifCond .ne 5, [6]), (8, .iconst (-1), []), (9, .ireturn, [0]), (10, .aload_n 0, []), (11, .invokevirtual 403, [0, 171, 0, 7, 1354, 1357, 1356, 77, 104]), (14, .iconst 0, []), (15, .istore_n 2, []), (16, .iload_n 2, []), (17, .bipush 100, []), (19, .if_icmp .ge 25, [23]), (22, .aload_n 0, []), (23, .aload_n 0, []), (24, .getfield 16, [7, 2, 871]), (27, .iload_n 1, []), (28, .invokevirtual 282, [0, 113, 2, 7, 1154, 1157, 1156, 38, 104]), (31, .ifCond .ne 13, [23]), (34, .aload_n 0, []), (35, .invokevirtual 394, [0, 168, 0, 7, 1346, 1349, 1348, 76, 104]), (38, .iinc 2 1, []), (41, .goto (-25), [10]), (44, .aload_n 0, []), (45, .invokevirtual 406, [0, 172, 0, 7, 1358, 1361, 1360, 78, 104]), (48, .iload_n 2, []), (49, .bipush 100, []), (51, .if_icmp .ge 7, [30]), (54, .iload_n 2, []), (55, .goto 5, [31]), (58, .bipush (-5), []), (60, .ireturn, [0])]
def inf_X7_empty : am_I := (yX7_empty, cX7_empty, 3, (some .int), RX7, ta_X7_empty)
def ta_X7_shared : List am_A := [(0, .iconst 0, []), (1, .istore_n 2, []), (2, .iconst 0, []), (3, .istore_n 3, []), (4, .iload_n 3, []), (5, .bipush 24, []), (7, .if_icmp .ge 61, [37]), (10, .iconst 0, []), (11, .istore 4, []), (13, .iload 4, []), (15, .aload_n 0, []), (16, .invokevirtual 349, [0, 145, 0, 7, 1266, 1269, 1268, 62, 104]), (19, .if_icmp .ge 43, [35]), (22, .iload_n 2, []), (23, .aload_n 0, []), (24, .iload_n 1, []), (25, .iload 4, []), (27, .iload_n 3, []), (28, .invokevirtual 367, [0, 152, 3, 7, 1294, 1297, 1296, 68, 104]), (31, .ifCond .eq 22, [30]), (34, .aload_n 0, []), (35, .aload_n 0, []), (36, .iload 4, []), (38, .iload_n 3, []), (39, .invokevirtual 370, [0, 156, 2, 7, 1290, 1293, 1292, 67, 104]), (42, .invokevirtual 376, [0, 114, 1, 7, 1298, 1301, 1300, 69, 104]), (45, .iconst 1, []), (46, .if_icmp .le 7, [30]), (49, .iconst 1, []), (50, .goto 4, [31]), (53, .iconst 0, []), (54, .iadd, []), (55, .istore_n 2, []), (56, .iinc 4 1, []), (59, .goto (-46), [9]), (62, .iinc 3 1, []), (65, .goto (-61), [4]), (68, .iload_n 2, []), (69, .ireturn, [0])]
def inf_X7_shared : am_I := (yX7_shared, cX7_shared, 5, (some .int), RX7, ta_X7_shared)
def ta_X7_lower : List am_A := [(0, .aload_n 0, []), (1, .iload_n 1, []), (2, .invokevirtual 271, [0, 115, 1, 7, 1134, 1137, 1136, 34, 104]), (5, .ifCond .eq 13, [10]), (8, .aload_n 0, []), (9, .iload_n 2, []), (10, .iconst 0, []), (11, .iconst 1, []), (12, .invokevirtual 257, [0, 112, 3, 7, 1118, 1121, 1120, 31, 104]), (15, .ifCond .ne 5, [12]), (18, .iconst (-1), []), (19, .ireturn, [0]), (20, .aload_n 0, []), (21, .getfield 26, [7, 5, 874]), (24, .iload_n 1, []), (25, .iaload, []), (26, .istore_n 3, []), (27, .iconst 0, []), (28, .istore 4, []), (30, .iconst (-1), []), (31, .istore 5, []), (33, .iconst 0, []), (34, .istore 6, []), (36, .iload 6, []), (38, .bipush 10, []), (40, .if_icmp .ge 47, [47]), (43, .aload_n 0, []), (44, .getfield 26, [7, 5, 874]), (47, .iload_n 1, []), (48, .iload 6, []), (50, .iastore, []), (51, .aload_n 0, []), (52, .iload_n 1, []), (53, .invokevirtual 409, [0, 175, 1, 7, 1370, 1373, 1372, 79, 104]), (56, .istore 7, []), (58, .iload 5, []), (60, .ifCond .lt 13, [41]), (63, .iload 7, []), (65, .iload 5, []), (67, .if_icmp .lt 6, [41]), (70, .goto 11, [45]), (73, .iload 6, []), (75, .istore 4, []), (77, .iload 7, []), (79, .istore 5, []), (81, .iinc 6 1, []), (84, .goto (-48), [23]), (87, .aload_n 0, []), (88, .getfield 26, [7, 5, 874]), (91, .iload_n 1, []), (92, .iload_n 3, []), (93, .iastore, []), (94, .iload_n 2, []), (95, .ifCond .ne 8, [56]), (98, .iload 4, []), (100, .goto 5, [57]), (103, .iload 5, []), (105, .ireturn, [0])]
def inf_X7_lower : am_I := (yX7_lower, cX7_lower, 8, (some .int), RX7, ta_X7_lower)
def ta_X7_sooner : List am_A := [(0, .aload_n 0, []), (1, .iload_n 1, []), (2, .invokevirtual 271, [0, 115, 1, 7, 1134, 1137, 1136, 34, 104]), (5, .ifCond .eq 13, [10]), (8, .aload_n 0, []), (9, .iload_n 2, []), (10, .iconst 0, []), (11, .iconst 1, []), (12, .invokevirtual 257, [0, 112, 3, 7, 1118, 1121, 1120, 31, 104]), (15, .ifCond .ne 5, [12]), (18, .iconst (-1), []), (19, .ireturn, [0]), (20, .aload_n 0, []), (21, .getfield 32, [7, 7, 876]), (24, .iload_n 1, []), (25, .iaload, []), (26, .istore_n 3, []), (27, .iconst 0, []), (28, .istore 4, []), (30, .iconst (-1), []), (31, .istore 5, []), (33, .iconst 0, []), (34, .istore 6, []), (36, .iload 6, []), (38, .bipush 24, []), (40, .if_icmp .ge 47, [47]), (43, .aload_n 0, []), (44, .getfield 32, [7, 7, 876]), (47, .iload_n 1, []), (48, .iload 6, []), (50, .iastore, []), (51, .aload_n 0, []), (52, .iload_n 1, []), (53, .invokevirtual 409, [0, 175, 1, 7, 1370, 1373, 1372, 79, 104]), (56, .istore 7, []), (58, .iload 5, []), (60, .ifCond .lt 13, [41]), (63, .iload 7, []), (65, .iload 5, []), (67, .if_icmp .lt 6, [41]), (70, .goto 11, [45]), (73, .iload 6, []), (75, .istore 4, []), (77, .iload 7, []), (79, .istore 5, []), (81, .iinc 6 1, []), (84, .goto (-48), [23]), (87, .aload_n 0, []), (88, .getfield 32, [7, 7, 876]), (91, .iload_n 1, []), (92, .iload_n 3, []), (93, .iastore, []), (94, .iload_n 2, []), (95, .ifCond .ne 8, [56]), (98, .iload 4, []), (100, .goto 5, [57]), (103, .iload 5, []), (105, .ireturn, [0])]
def inf_X7_sooner : am_I := (yX7_sooner, cX7_sooner, 8, (some .int), RX7, ta_X7_sooner)
def ta_X7_layFoes : List am_A := [(0, .iconst 0, []), (1, .istore_n 1, []), (2, .iload_n 1, []), (3, .aload_n 0, []), (4, .getfield 7, [7, 0, 869]), (7, .if_icmp .ge 62, [41]), (10, .aload_n 0, []), (11, .getfield 111, [7, 33, 902]), (14, .iload_n 1, []), (15, .iconst 0, []), (16, .iastore, []), (17, .iconst 0, []), (18, .istore_n 2, []), (19, .iload_n 2, []), (20, .aload_n 0, []), (21, .getfield 7, [7, 0, 869]), (24, .if_icmp .ge 39, [39]), (27, .aload_n 0, []), (28, .getfield 111, [7, 33, 902]), (31, .iload_n 1, []), (32, .dup2, []), (33, .iaload, []), (34, .iload_n 1, []), (35, .iload_n 2, []), (36, .if_icmp .eq 18, [34]), (39, .aload_n 0, []), (40, .iload_n 1, []), (41, .iload_n 2, []), (42, .invokevirtual 391, [0, 165, 2, 7, 1326, 1329, 1328, 73, 104]), (45, .ifCond .le 9, [34]), (48, .iconst 1, []), (49, .iload_n 2, []), (50, .ishl, []), (51, .goto 4, [35]), (54, .iconst 0, []), (55, .ior, []), (56, .iastore, []), (57, .iinc 2 1, []), (60, .goto (-41), [13]), (63, .iinc 1 1, []), (66, .goto (-64), [2]), (69, .return_, [])]
def inf_X7_layFoes : am_I := (yX7_layFoes, cX7_layFoes, 3, none, RX7, ta_X7_layFoes)
def ta_X7_isPeaceful : List am_A := [(0, .iconst 0, []), (1, .istore_n 2, []), (2, .iload_n 2, []), (3, .aload_n 0, []), (4, .getfield 7, [7, 0, 869]), (7, .if_icmp .ge 31, [22]), (10, .aload_n 0, []), (11, .iload_n 1, []), (12, .iload_n 2, []), (13, .invokevirtual 282, [0, 113, 2, 7, 1154, 1157, 1156, 38, 104]), (16, .ifCond .eq 16, [20]), (19, .aload_n 0, []), (20, .getfield 111, [7, 33, 902]), (23, .iload_n 2, []), (24, .iaload, []), (25, .iload_n 1, []), (26, .iand, []), (27, .ifCond .eq 5, [20]), (30, .iconst 0, []), (31, .ireturn, [1]), (32, .iinc 2 1, []), (35, .goto (-33), [2]), (38, .iconst 1, []), (39, .ireturn, [1])]
def inf_X7_isPeaceful : am_I := (yX7_isPeaceful, cX7_isPeaceful, 3, (some .boolean), RX7, ta_X7_isPeaceful)
def ta_X7_let : List am_A := [(0, .aload_n 0, []), (1, .iload_n 1, []), (2, .iconst 0, []), (3, .iconst 1, []), (4, .invokevirtual 257, [0, 112, 3, 7, 1118, 1121, 1120, 31, 104]), (7, .ifCond .ne 5, [8]), (10, .iconst (-1), []), (11, .ireturn, [0]), (12, .aload_n 0, []), (13, .invokevirtual 412, [0, 178, 0, 7, 1382, 1385, 1384, 80, 104]), (16, .iconst 0, []), (17, .istore_n 2, []), (18, .iconst 0, []), (19, .istore_n 3, []), (20, .iconst 1, []), (21, .istore 4, []), (23, .iload 4, []), (25, .iconst 1, []), (26, .aload_n 0, []), (27, .getfield 7, [7, 0, 869]), (30, .ishl, []), (31, .if_icmp .ge 93, [65]), (34, .iload 4, []), (36, .aload_n 0, []), (37, .getfield 16, [7, 2, 871]), (40, .iand, []), (41, .ifCond .ne 77, [63]), (44, .aload_n 0, []), (45, .iload 4, []), (47, .invokevirtual 415, [0, 179, 1, 7, 1386, 1389, 1388, 81, 104]), (50, .ifCond .ne 6, [32]), (53, .goto 65, [63]), (56, .iconst 0, []), (57, .istore 5, []), (59, .iconst 0, []), (60, .istore 6, []), (62, .iload 6, []), (64, .aload_n 0, []), (65, .getfield 7, [7, 0, 869]), (68, .if_icmp .ge 35, [55]), (71, .iload 5, []), (73, .aload_n 0, []), (74, .iload 4, []), (76, .iload 6, []), (78, .invokevirtual 282, [0, 113, 2, 7, 1154, 1157, 1156, 38, 104]), (81, .ifCond .eq 12, [50]), (84, .aload_n 0, []), (85, .iload 6, []), (87, .invokevirtual 364, [0, 154, 1, 7, 1274, 1277, 1276, 64, 104]), (90, .goto 4, [51]), (93, .iconst 0, []), (94, .iadd, []), (95, .istore 5, []), (97, .iinc 6 1, []), (100, .goto (-38), [36]), (103, .iload 5, []), (105, .iload_n 3, []), (106, .if_icmp .gt 6, [59]), (109, .goto 9, [63]), (112, .iload 4, []), (114, .istore_n 2, []), (115, .iload 5, []), (117, .istore_n 3, []), (118, .iinc 4 1, []), (121, .goto (-98), [16]), (124, .iload_n 1, []), (125, .ifCond .ne 7, [69]), (128, .iload_n 2, []), (129, .goto 4, [70]), (132, .iload_n 3, []), (133, .ireturn, [0])]
def inf_X7_let : am_I := (yX7_let, cX7_let, 7, (some .int), RX7, ta_X7_let)
def ta_X7_whoEvict : List am_A := [(0, .aload_n 0, []), (1, .invokevirtual 412, [0, 178, 0, 7, 1382, 1385, 1384, 80, 104]), (4, .iconst 1, []), (5, .aload_n 0, []), (6, .getfield 7, [7, 0, 869]), (9, .ishl, []), (10, .iconst 1, []), (11, .isub, []), (12, .aload_n 0, []), (13, .getfield 16, [7, 2, 871]), (16, .iconst (-1), []), (17, .ixor, []), (18, .iand, []), (19, .istore_n 1, []), (20, .iload_n 1, []), (21, .istore_n 2, []), (22, .iconst 0, []), (23, .istore_n 3, []), (24, .iload_n 3, []), (25, .iload_n 1, []), (26, .if_icmp .gt 65, [57]), (29, .iload_n 3, []), (30, .iload_n 1, []), (31, .iconst (-1), []), (32, .ixor, []), (33, .iand, []), (34, .ifCond .ne 51, [55]), (37, .aload_n 0, []), (38, .iload_n 1, []), (39, .iload_n 3, []), (40, .iconst (-1), []), (41, .ixor, []), (42, .iand, []), (43, .invokevirtual 415, [0, 179, 1, 7, 1386, 1389, 1388, 81, 104]), (46, .ifCond .ne 6, [36]), (49, .goto 36, [55]), (52, .aload_n 0, []), (53, .iload_n 3, []), (54, .invokevirtual 376, [0, 114, 1, 7, 1298, 1301, 1300, 69, 104]), (57, .aload_n 0, []), (58, .iload_n 2, []), (59, .invokevirtual 376, [0, 114, 1, 7, 1298, 1301, 1300, 69, 104]), (62, .if_icmp .lt 21, [53]), (65, .aload_n 0, []), (66, .iload_n 3, []), (67, .invokevirtual 376, [0, 114, 1, 7, 1298, 1301, 1300, 69, 104]), (70, .aload_n 0, []), (71, .iload_n 2, []), (72, .invokevirtual 376, [0, 114, 1, 7, 1298, 1301, 1300, 69, 104]), (75, .if_icmp .ne 10, [55]), (78, .iload_n 3, []), (79, .iload_n 2, []), (80, .if_icmp .ge 5, [55]), (83, .iload_n 3, []), (84, .istore_n 2, []), (85, .iinc 3 1, []), (88, .goto (-64), [18]), (91, .iload_n 2, []), (92, .ireturn, [0])]
def inf_X7_whoEvict : am_I := (yX7_whoEvict, cX7_whoEvict, 4, (some .int), RX7, ta_X7_whoEvict)
def ta_X7_layWays : List am_A := [(0, .iconst 0, []), (1, .istore_n 2, []), (2, .iload_n 2, []), (3, .bipush 10, []), (5, .if_icmp .ge 38, [24]), (8, .aload_n 0, []), (9, .getfield 114, [7, 34, 903]), (12, .iload_n 2, []), (13, .iload_n 2, []), (14, .iload_n 1, []), (15, .if_icmp .ne 20, [20]), (18, .aload_n 0, []), (19, .aload_n 0, []), (20, .iconst 0, []), (21, .invokevirtual 373, [0, 157, 1, 7, 1286, 1289, 1288, 66, 104]), (24, .iload_n 2, []), (25, .invokevirtual 282, [0, 113, 2, 7, 1154, 1157, 1156, 38, 104]), (28, .ifCond .eq 7, [20]), (31, .lconst 1, []), (32, .goto 4, [21]), (35, .lconst 0, []), (36, .lastore, []), (37, .iinc 2 1, []), (40, .goto (-38), [2]), (43, .iconst 1, []), (44, .istore_n 2, []), (45, .iload_n 2, []), (46, .bipush 24, []), (48, .if_icmp .ge 129, [95]), (51, .aload_n 0, []), (52, .iload_n 2, []), (53, .invokevirtual 373, [0, 157, 1, 7, 1286, 1289, 1288, 66, 104]), (56, .istore_n 3, []), (57, .iconst 0, []), (58, .istore 4, []), (60, .iload 4, []), (62, .bipush 10, []), (64, .if_icmp .ge 77, [78]), (67, .aload_n 0, []), (68, .getfield 118, [7, 35, 904]), (71, .iload 4, []), (73, .aload_n 0, []), (74, .iload_n 3, []), (75, .iload 4, []), (77, .invokevirtual 282, [0, 113, 2, 7, 1154, 1157, 1156, 38, 104]), (80, .ifCond .ne 7, [48]), (83, .lconst 0, []), (84, .goto 50, [75]), (87, .aload_n 0, []), (88, .getfield 114, [7, 34, 903]), (91, .iload 4, []), (93, .laload, []), (94, .iload 4, []), (96, .ifCond .le 15, [61]), (99, .aload_n 0, []), (100, .getfield 114, [7, 34, 903]), (103, .iload 4, []), (105, .iconst 1, []), (106, .isub, []), (107, .laload, []), (108, .goto 4, [62]), (111, .lconst 0, []), (112, .ladd, []), (113, .iload 4, []), (115, .bipush 9, []), (117, .if_icmp .ge 15, [73]), (120, .aload_n 0, []), (121, .getfield 114, [7, 34, 903]), (124, .iload 4, []), (126, .iconst 1, []), (127, .iadd, []), (128, .laload, []), (129, .goto 4, [74]), (132, .lconst 0, []), (133, .ladd, []), (134, .lastore, []), (135, .iinc 4 1, []), (138, .goto (-78), [35]), (141, .iconst 0, []), (142, .istore 4, []), (144, .iload 4, []), (146, .bipush 10, []), (148, .if_icmp .ge 23, [93]), (151, .aload_n 0, []), (152, .getfield 114, [7, 34, 903]), (155, .iload 4, []), (157, .aload_n 0, []), (158, .getfield 118, [7, 35, 904]), (161, .iload 4, []), (163, .laload, []), (164, .lastore, []), (165, .iinc 4 1, []), (168, .goto (-24), [80]), (171, .iinc 2 1, []), (174, .goto (-129), [26]), (177, .return_, [])]
def inf_X7_layWays : am_I := (yX7_layWays, cX7_layWays, 5, none, RX7, ta_X7_layWays)
def ta_X7_ways : List am_A := [(0, .aload_n 0, []), (1, .iload_n 1, []), (2, .invokevirtual 388, [0, 162, 1, 7, 1314, 1317, 1316, 72, 104]), (5, .ifCond .ne 7, [6]), (8, .ldc2_w 418, [9223372036854775808, 1398]), (11, .lreturn, []), (12, .aload_n 0, []), (13, .iload_n 1, []), (14, .invokevirtual 420, [0, 182, 1, 7, 1399, 1402, 1401, 82, 104]), (17, .lconst 0, []), (18, .lstore_n 2, []), (19, .iconst 0, []), (20, .istore 4, []), (22, .iload 4, []), (24, .bipush 10, []), (26, .if_icmp .ge 19, [25]), (29, .lload_n 2, []), (30, .aload_n 0, []), (31, .getfield 114, [7, 34, 903]), (34, .iload 4, []), (36, .laload, []), (37, .ladd, []), (38, .lstore_n 2, []), (39, .iinc 4 1, []), (42, .goto (-20), [13]), (45, .lload_n 2, []), (46, .lreturn, [])]
def inf_X7_ways : am_I := (yX7_ways, cX7_ways, 5, (some .long), RX7, ta_X7_ways)
def ta_X7_outs : List am_A := [(0, .aload_n 0, []), (1, .iload_n 1, []), (2, .invokevirtual 388, [0, 162, 1, 7, 1314, 1317, 1316, 72, 104]), (5, .ifCond .ne 5, [6]), (8, .iconst (-1), []), (9, .ireturn, [0]), (10, .aload_n 0, []), (11, .iload_n 1, []), (12, .invokevirtual 420, [0, 182, 1, 7, 1399, 1402, 1401, 82, 104]), (15, .iconst 0, []), (16, .istore_n 2, []), (17, .iconst 0, []), (18, .istore_n 3, []), (19, .iload_n 3, []), (20, .bipush 10, []), (22, .if_icmp .ge 30, [33]), (25, .iload_n 2, []), (26, .aload_n 0, []), (27, .getfield 114, [7, 34, 903]), (30, .iload_n 3, []), (31, .laload, []), (32, .lconst 0, []), (33, .lcmp, []), (34, .ifCond .le 9, [28]), (37, .iconst 1, []), (38, .iload_n 3, []), (39, .ishl, []), (40, .goto 4, [29]), (43, .iconst 0, []), (44, .ior, []), (45, .istore_n 2, []), (46, .iinc 3 1, []), (49, .goto (-30), [13]), (52, .iload_n 2, []), (53, .ireturn, [0])]
def inf_X7_outs : am_I := (yX7_outs, cX7_outs, 4, (some .int), RX7, ta_X7_outs)
def ta_X7_see : List am_A := [(0, .iload_n 1, []), (1, .iconst (-1), []), (2, .if_icmp .ne 10, [8]), (5, .aload_n 0, []), (6, .iconst 0, []), (7, .putfield 121, [7, 36, 905]), (10, .iconst 0, []), (11, .ireturn, [0]), (12, .aload_n 0, []), (13, .iload_n 1, []), (14, .invokevirtual 261, [0, 116, 1, 7, 1122, 1125, 1124, 32, 104]), (17, .ifCond .eq 23, [22]), (20, .aload_n 0, []), (21, .iload_n 2, []), (22, .invokevirtual 265, [0, 117, 1, 7, 1126, 1129, 1128, 33, 104]), (25, .ifCond .eq 15, [22]), (28, .aload_n 0, []), (29, .iload 4, []), (31, .iconst 0, []), (32, .bipush 20, []), (34, .invokevirtual 257, [0, 112, 3, 7, 1118, 1121, 1120, 31, 104]), (37, .ifCond .ne 6, [24]), (40, .bipush (-2), []), (42, .ireturn, [0]), (43, .aload_n 0, []), (44, .getfield 121, [7, 36, 905]), (47, .iconst 5, []), (48, .if_icmp .ne 6, [30]), (51, .bipush (-4), []), (53, .ireturn, [0]), (54, .aload_n 0, []), (55, .getfield 124, [7, 37, 906]), (58, .aload_n 0, []), (59, .getfield 121, [7, 36, 905]), (62, .iload_n 1, []), (63, .iastore, []), (64, .aload_n 0, []), (65, .getfield 127, [7, 38, 907]), (68, .aload_n 0, []), (69, .getfield 121, [7, 36, 905]), (72, .iload_n 2, []), (73, .iastore, []), (74, .aload_n 0, []), (75, .getfield 133, [7, 40, 909]), (78, .aload_n 0, []), (79, .getfield 121, [7, 36, 905]), (82, .iload_n 3, []), (83, .bastore, [103]), (84, .aload_n 0, []), (85, .getfield 130, [7, 39, 908]), (88, .aload_n 0, []), (89, .getfield 121, [7, 36, 905]), (92, .iload 4, []), (94, .iastore, []), (95, .aload_n 0, []), (96, .dup, []), (97, .getfield 121, [7, 36, 905]), (100, .iconst 1, []), (101, .iadd, []), (102, .putfield 121, [7, 36, 905]), (105, .aload_n 0, []), (106, .getfield 121, [7, 36, 905]), (109, .ireturn, [0])]
def inf_X7_see : am_I := (yX7_see, cX7_see, 5, (some .int), RX7, ta_X7_see)
def ta_X7_isSeen : List am_A := [(0, .iconst 1, []), (1, .istore_n 1, []), (2, .iconst 0, []), (3, .istore_n 2, []), (4, .iload_n 2, []), (5, .aload_n 0, []), (6, .getfield 121, [7, 36, 905]), (9, .if_icmp .ge 70, [45]), (12, .iload_n 1, []), (13, .ifCond .eq 66, [45]), (16, .aload_n 0, []), (17, .invokevirtual 403, [0, 171, 0, 7, 1354, 1357, 1356, 77, 104]), (20, .aload_n 0, []), (21, .aload_n 0, []), (22, .getfield 130, [7, 39, 908]), (25, .iload_n 2, []), (26, .iaload, []), (27, .invokevirtual 400, [0, 169, 1, 7, 1342, 1345, 1344, 75, 104]), (30, .aload_n 0, []), (31, .aload_n 0, []), (32, .getfield 124, [7, 37, 906]), (35, .iload_n 2, []), (36, .iaload, []), (37, .aload_n 0, []), (38, .getfield 127, [7, 38, 907]), (41, .iload_n 2, []), (42, .iaload, []), (43, .invokevirtual 370, [0, 156, 2, 7, 1290, 1293, 1292, 67, 104]), (46, .ifCond .eq 7, [31]), (49, .iconst 1, []), (50, .goto 4, [32]), (53, .iconst 0, []), (54, .aload_n 0, []), (55, .getfield 133, [7, 40, 909]), (58, .iload_n 2, []), (59, .baload, [103]), (60, .if_icmp .ne 7, [39]), (63, .iconst 1, []), (64, .goto 4, [40]), (67, .iconst 0, []), (68, .istore_n 1, []), (69, .aload_n 0, []), (70, .invokevirtual 406, [0, 172, 0, 7, 1358, 1361, 1360, 78, 104]), (73, .iinc 2 1, []), (76, .goto (-72), [4]), (79, .iload_n 1, []), (80, .ireturn, [1])]
def inf_X7_isSeen : am_I := (yX7_isSeen, cX7_isSeen, 3, (some .boolean), RX7, ta_X7_isSeen)
def ta_X7_can : List am_A := [(0, .aload_n 0, []), (1, .iload_n 1, []), (2, .invokevirtual 271, [0, 115, 1, 7, 1134, 1137, 1136, 34, 104]), (5, .ifCond .eq 13, [10]), (8, .aload_n 0, []), (9, .iload_n 2, []), (10, .iconst 0, []), (11, .iconst 1, []), (12, .invokevirtual 257, [0, 112, 3, 7, 1118, 1121, 1120, 31, 104]), (15, .ifCond .ne 5, [12]), (18, .iconst (-1), []), (19, .ireturn, [0]), (20, .aload_n 0, []), (21, .getfield 26, [7, 5, 874]), (24, .iload_n 1, []), (25, .iaload, []), (26, .istore_n 3, []), (27, .iconst 0, []), (28, .istore 4, []), (30, .bipush (-5), []), (32, .istore 5, []), (34, .bipush 9, []), (36, .istore 6, []), (38, .iload 6, []), (40, .ifCond .lt 34, [39]), (43, .aload_n 0, []), (44, .getfield 26, [7, 5, 874]), (47, .iload_n 1, []), (48, .iload 6, []), (50, .iastore, []), (51, .aload_n 0, []), (52, .invokevirtual 423, [0, 186, 0, 7, 1415, 1418, 1417, 83, 104]), (55, .ifCond .ne 6, [34]), (58, .goto 10, [37]), (61, .iinc 4 1, []), (64, .iload 6, []), (66, .istore 5, []), (68, .iinc 6 (-1), []), (71, .goto (-33), [23]), (74, .aload_n 0, []), (75, .getfield 26, [7, 5, 874]), (78, .iload_n 1, []), (79, .iload_n 3, []), (80, .iastore, []), (81, .iload_n 2, []), (82, .ifCond .ne 8, [48]), (85, .iload 4, []), (87, .goto 5, [49]), (90, .iload 5, []), (92, .ireturn, [0])]
def inf_X7_can : am_I := (yX7_can, cX7_can, 7, (some .int), RX7, ta_X7_can)
def ta_X7_divisor : List am_A := [(0, .iload_n 1, []), (1, .istore_n 3, []), (2, .iload_n 2, []), (3, .istore 4, []), (5, .iload 4, []), (7, .ifCond .eq 19, [15]), (10, .iload_n 3, []), (11, .iload 4, []), (13, .irem, []), (14, .istore 5, []), (16, .iload 4, []), (18, .istore_n 3, []), (19, .iload 5, []), (21, .istore 4, []), (23, .goto (-18), [4]), (26, .iload_n 3, []), (27, .ireturn, [0])]
def inf_X7_divisor : am_I := (yX7_divisor, cX7_divisor, 6, (some .int), RX7, ta_X7_divisor)
def ta_X7_lowest : List am_A := [(0, .aload_n 0, []), (1, .iload_n 1, []), (2, .iload_n 2, []), (3, .invokevirtual 426, [0, 188, 2, 7, 1427, 1430, 1429, 85, 104]), (6, .istore 4, []), (8, .iload_n 3, []), (9, .ifCond .ne 11, [12]), (12, .iload_n 1, []), (13, .iload 4, []), (15, .idiv, []), (16, .i2l, []), (17, .goto 8, [16]), (20, .iload_n 2, []), (21, .iload 4, []), (23, .idiv, []), (24, .i2l, []), (25, .lreturn, [])]
def inf_X7_lowest : am_I := (yX7_lowest, cX7_lowest, 5, (some .long), RX7, ta_X7_lowest)
def ta_X7_odds : List am_A := [(0, .aload_n 0, []), (1, .iload_n 1, []), (2, .invokevirtual 265, [0, 117, 1, 7, 1126, 1129, 1128, 33, 104]), (5, .ifCond .eq 34, [21]), (8, .aload_n 0, []), (9, .iload_n 2, []), (10, .iconst 0, []), (11, .iconst 1, []), (12, .invokevirtual 257, [0, 112, 3, 7, 1118, 1121, 1120, 31, 104]), (15, .ifCond .eq 24, [21]), (18, .aload_n 0, []), (19, .aload_n 0, []), (20, .aload_n 0, []), (21, .iload_n 1, []), (22, .invokevirtual 373, [0, 157, 1, 7, 1286, 1289, 1288, 66, 104]), (25, .invokevirtual 376, [0, 114, 1, 7, 1298, 1301, 1300, 69, 104]), (28, .aload_n 0, []), (29, .invokevirtual 349, [0, 145, 0, 7, 1266, 1269, 1268, 62, 104]), (32, .iload_n 2, []), (33, .invokevirtual 429, [0, 189, 3, 7, 1423, 1426, 1425, 84, 104]), (36, .goto 6, [22]), (39, .ldc2_w 418, [9223372036854775808, 1398]), (42, .lreturn, [])]
def inf_X7_odds : am_I := (yX7_odds, cX7_odds, 3, (some .long), RX7, ta_X7_odds)
def ta_X7_mean : List am_A := [(0, .aload_n 0, []), (1, .getfield 7, [7, 0, 869]), (4, .aload_n 0, []), (5, .aload_n 0, []), (6, .getfield 16, [7, 2, 871]), (9, .invokevirtual 376, [0, 114, 1, 7, 1298, 1301, 1300, 69, 104]), (12, .isub, []), (13, .istore_n 2, []), (14, .aload_n 0, []), (15, .iload_n 1, []), (16, .iconst 0, []), (17, .iconst 1, []), (18, .invokevirtual 257, [0, 112, 3, 7, 1118, 1121, 1120, 31, 104]), (21, .ifCond .eq 20, [23]), (24, .iload_n 2, []), (25, .ifCond .le 16, [23]), (28, .aload_n 0, []), (29, .aload_n 0, []), (30, .invokevirtual 385, [0, 160, 0, 7, 1306, 1309, 1308, 71, 104]), (33, .iload_n 2, []), (34, .iload_n 1, []), (35, .invokevirtual 429, [0, 189, 3, 7, 1423, 1426, 1425, 84, 104]), (38, .goto 6, [24]), (41, .ldc2_w 418, [9223372036854775808, 1398]), (44, .lreturn, [])]
def inf_X7_mean : am_I := (yX7_mean, cX7_mean, 3, (some .long), RX7, ta_X7_mean)
def ta_X7_lease : List am_A := [(0, .iload_n 1, []), (1, .iconst (-1), []), (2, .if_icmp .ne 10, [8]), (5, .aload_n 0, []), (6, .iconst 0, []), (7, .putfield 136, [7, 41, 910]), (10, .iconst 0, []), (11, .ireturn, [0]), (12, .aload_n 0, []), (13, .iload_n 1, []), (14, .invokevirtual 271, [0, 115, 1, 7, 1134, 1137, 1136, 34, 104]), (17, .ifCond .ne 5, [14]), (20, .iconst (-1), []), (21, .ireturn, [0]), (22, .aload_n 0, []), (23, .iload_n 2, []), (24, .invokevirtual 261, [0, 116, 1, 7, 1122, 1125, 1124, 32, 104]), (27, .ifCond .eq 11, [22]), (30, .aload_n 0, []), (31, .iload_n 3, []), (32, .invokevirtual 265, [0, 117, 1, 7, 1126, 1129, 1128, 33, 104]), (35, .ifCond .ne 6, [24]), (38, .bipush (-2), []), (40, .ireturn, [0]), (41, .aload_n 0, []), (42, .getfield 136, [7, 41, 910]), (45, .bipush 6, []), (47, .if_icmp .ne 6, [30]), (50, .bipush (-4), []), (52, .ireturn, [0]), (53, .aload_n 0, []), (54, .getfield 142, [7, 43, 912]), (57, .aload_n 0, []), (58, .getfield 136, [7, 41, 910]), (61, .iload_n 1, []), (62, .iastore, []), (63, .aload_n 0, []), (64, .getfield 145, [7, 44, 913]), (67, .aload_n 0, []), (68, .getfield 136, [7, 41, 910]), (71, .iload_n 2, []), (72, .iastore, []), (73, .aload_n 0, []), (74, .getfield 148, [7, 45, 914]), (77, .aload_n 0, []), (78, .getfield 136, [7, 41, 910]), (81, .iload_n 3, []), (82, .iastore, []), (83, .aload_n 0, []), (84, .dup, []), (85, .getfield 136, [7, 41, 910]), (88, .iconst 1, []), (89, .iadd, []), (90, .putfield 136, [7, 41, 910]), (93, .aload_n 0, []), (94, .getfield 136, [7, 41, 910]), (97, .ireturn, [0])]
def inf_X7_lease : am_I := (yX7_lease, cX7_lease, 4, (some .int), RX7, ta_X7_lease)
def ta_X7_leased : List am_A := [(0, .aload_n 0, []), (1, .iload_n 1, []), (2, .iconst 0, []), (3, .iconst 1, []), (4, .invokevirtual 257, [0, 112, 3, 7, 1118, 1121, 1120, 31, 104]), (7, .ifCond .ne 5, [8]), (10, .iconst (-1), []), (11, .ireturn, [0]), (12, .iconst 0, []), (13, .istore_n 2, []), (14, .iload_n 2, []), (15, .aload_n 0, []), (16, .getfield 7, [7, 0, 869]), (19, .if_icmp .ge 33, [32]), (22, .aload_n 0, []), (23, .getfield 157, [7, 48, 917]), (26, .iload_n 2, []), (27, .aload_n 0, []), (28, .getfield 26, [7, 5, 874]), (31, .iload_n 2, []), (32, .iaload, []), (33, .iastore, []), (34, .aload_n 0, []), (35, .getfield 160, [7, 49, 918]), (38, .iload_n 2, []), (39, .aload_n 0, []), (40, .getfield 32, [7, 7, 876]), (43, .iload_n 2, []), (44, .iaload, []), (45, .iastore, []), (46, .iinc 2 1, []), (49, .goto (-35), [10]), (52, .iconst 0, []), (53, .istore_n 2, []), (54, .iload_n 2, []), (55, .aload_n 0, []), (56, .getfield 136, [7, 41, 910]), (59, .if_icmp .ge 43, [62]), (62, .aload_n 0, []), (63, .getfield 26, [7, 5, 874]), (66, .aload_n 0, []), (67, .getfield 142, [7, 43, 912]), (70, .iload_n 2, []), (71, .iaload, []), (72, .aload_n 0, []), (73, .getfield 145, [7, 44, 913]), (76, .iload_n 2, []), (77, .iaload, []), (78, .iastore, []), (79, .aload_n 0, []), (80, .getfield 32, [7, 7, 876]), (83, .aload_n 0, []), (84, .getfield 142, [7, 43, 912]), (87, .iload_n 2, []), (88, .iaload, []), (89, .aload_n 0, []), (90, .getfield 148, [7, 45, 914]), (93, .iload_n 2, []), (94, .iaload, []), (95, .iastore, []), (96, .iinc 2 1, []), (99, .goto (-45), [34]), (102, .iload_n 1, []), (103, .ifCond .ne 10, [67]), (106, .aload_n 0, []), (107, .invokevirtual 382, [0, 159, 0, 7, 1302, 1305, 1304, 70, 104]), (110, .goto 7, [69]), (113, .aload_n 0, []), (114, .invokevirtual 385, [0, 160, 0, 7, 1306, 1309, 1308, 71, 104]), (117, .istore_n 2, []), (118, .iconst 0, []), (119, .istore_n 3, []), (120, .iload_n 3, []), (121, .aload_n 0, []), (122, .getfield 7, [7, 0, 869]), (125, .if_icmp .ge 33, [94]), (128, .aload_n 0, []), (129, .getfield 26, [7, 5, 874]), (132, .iload_n 3, []), (133, .aload_n 0, []), (134, .getfield 157, [7, 48, 917]), (137, .iload_n 3, []), (138, .iaload, []), (139, .iastore, []), (140, .aload_n 0, []), (141, .getfield 32, [7, 7, 876]), (144, .iload_n 3, []), (145, .aload_n 0, []), (146, .getfield 160, [7, 49, 918]), (149, .iload_n 3, []), (150, .iaload, []), (151, .iastore, []), (152, .iinc 3 1, []), (155, .goto (-35), [72]), (158, .iload_n 2, []), (159, .ireturn, [0])]
def inf_X7_leased : am_I := (yX7_leased, cX7_leased, 4, (some .int), RX7, ta_X7_leased)
def ta_X7_book : List am_A := [(0, .iload_n 1, []), (1, .iconst (-1), []), (2, .if_icmp .ne 10, [8]), (5, .aload_n 0, []), (6, .iconst 0, []), (7, .putfield 139, [7, 42, 911]), (10, .iconst 0, []), (11, .ireturn, [0]), (12, .aload_n 0, []), (13, .iload_n 1, []), (14, .invokevirtual 271, [0, 115, 1, 7, 1134, 1137, 1136, 34, 104]), (17, .ifCond .ne 5, [14]), (20, .iconst (-1), []), (21, .ireturn, [0]), (22, .aload_n 0, []), (23, .iload_n 2, []), (24, .invokevirtual 268, [0, 118, 1, 7, 1142, 1145, 1144, 36, 104]), (27, .ifCond .ne 6, [20]), (30, .bipush (-2), []), (32, .ireturn, [0]), (33, .aload_n 0, []), (34, .getfield 139, [7, 42, 911]), (37, .bipush 8, []), (39, .if_icmp .ne 6, [26]), (42, .bipush (-4), []), (44, .ireturn, [0]), (45, .aload_n 0, []), (46, .getfield 151, [7, 46, 915]), (49, .aload_n 0, []), (50, .getfield 139, [7, 42, 911]), (53, .iload_n 1, []), (54, .iastore, []), (55, .aload_n 0, []), (56, .getfield 154, [7, 47, 916]), (59, .aload_n 0, []), (60, .getfield 139, [7, 42, 911]), (63, .iload_n 2, []), (64, .iastore, []), (65, .aload_n 0, []), (66, .dup, []), (67, .getfield 139, [7, 42, 911]), (70, .iconst 1, []), (71, .iadd, []), (72, .putfield 139, [7, 42, 911]), (75, .aload_n 0, []), (76, .getfield 139, [7, 42, 911]), (79, .ireturn, [0])]
def inf_X7_book : am_I := (yX7_book, cX7_book, 3, (some .int), RX7, ta_X7_book)
def ta_X7_looked : List am_A := [(0, .iconst 0, []), (1, .istore_n 1, []), (2, .iload_n 1, []), (3, .aload_n 0, []), (4, .getfield 139, [7, 42, 911]), (7, .if_icmp .ge 31, [22]), (10, .aload_n 0, []), (11, .getfield 38, [7, 9, 878]), (14, .aload_n 0, []), (15, .getfield 151, [7, 46, 915]), (18, .iload_n 1, []), (19, .iaload, []), (20, .iaload, []), (21, .aload_n 0, []), (22, .getfield 154, [7, 47, 916]), (25, .iload_n 1, []), (26, .iaload, []), (27, .if_icmp .eq 5, [20]), (30, .iload_n 1, []), (31, .ireturn, [0]), (32, .iinc 1 1, []), (35, .goto (-33), [2]), (38, .bipush (-5), []), (40, .ireturn, [0])]
def inf_X7_looked : am_I := (yX7_looked, cX7_looked, 2, (some .int), RX7, ta_X7_looked)
def ta_X7_judge : List am_A := [(0, .aload_n 0, []), (1, .iload_n 1, []), (2, .invokevirtual 433, [0, 211, 1, 7, 1455, 1458, 1457, 86, 104]), (5, .ifCond .ne 5, [6]), (8, .iconst (-1), []), (9, .ireturn, [0]), (10, .aload_n 0, []), (11, .getfield 245, [7, 77, 946]), (14, .iload_n 1, []), (15, .iaload, []), (16, .ifCond .lt 16, [19]), (19, .aload_n 0, []), (20, .getfield 245, [7, 77, 946]), (23, .iload_n 1, []), (24, .iaload, []), (25, .iconst 3, []), (26, .if_icmp .eq 6, [19]), (29, .bipush (-12), []), (31, .ireturn, [0]), (32, .iconst 0, []), (33, .istore_n 3, []), (34, .iload_n 3, []), (35, .bipush 24, []), (37, .if_icmp .ge 66, [65]), (40, .aload_n 0, []), (41, .getfield 245, [7, 77, 946]), (44, .iload_n 1, []), (45, .iaload, []), (46, .ifCond .lt 21, [41]), (49, .iload_n 2, []), (50, .ifCond .lt 17, [41]), (53, .iload_n 2, []), (54, .aload_n 0, []), (55, .getfield 248, [7, 78, 947]), (58, .iload_n 1, []), (59, .iaload, []), (60, .iload_n 3, []), (61, .isub, []), (62, .iconst 1, []), (63, .isub, []), (64, .if_icmp .le 8, [45]), (67, .bipush 100, []), (69, .iload_n 3, []), (70, .iadd, []), (71, .ireturn, [0]), (72, .aload_n 0, []), (73, .getfield 251, [7, 79, 948]), (76, .bipush 60, []), (78, .iload_n 1, []), (79, .imul, []), (80, .iload_n 2, []), (81, .iadd, []), (82, .iload_n 3, []), (83, .iadd, []), (84, .laload, []), (85, .aload_n 0, []), (86, .iload_n 3, []), (87, .invokevirtual 373, [0, 157, 1, 7, 1286, 1289, 1288, 66, 104]), (90, .i2l, []), (91, .lcmp, []), (92, .ifCond .eq 5, [63]), (95, .iload_n 3, []), (96, .ireturn, [0]), (97, .iinc 3 1, []), (100, .goto (-66), [21]), (103, .bipush (-5), []), (105, .ireturn, [0])]
def inf_X7_judge : am_I := (yX7_judge, cX7_judge, 4, (some .int), RX7, ta_X7_judge)
def ta_X7_image : List am_A := [(0, .aload_n 0, []), (1, .iconst 1, []), (2, .putfield 163, [7, 50, 919]), (5, .aload_n 0, []), (6, .aload_n 0, []), (7, .getfield 47, [7, 12, 881]), (10, .putfield 167, [7, 51, 920]), (13, .aload_n 0, []), (14, .aload_n 0, []), (15, .getfield 7, [7, 0, 869]), (18, .putfield 170, [7, 52, 921]), (21, .aload_n 0, []), (22, .aload_n 0, []), (23, .getfield 13, [7, 1, 870]), (26, .putfield 173, [7, 53, 922]), (29, .aload_n 0, []), (30, .aload_n 0, []), (31, .getfield 16, [7, 2, 871]), (34, .putfield 176, [7, 54, 923]), (37, .aload_n 0, []), (38, .aload_n 0, []), (39, .getfield 121, [7, 36, 905]), (42, .putfield 179, [7, 55, 924]), (45, .aload_n 0, []), (46, .aload_n 0, []), (47, .getfield 136, [7, 41, 910]), (50, .putfield 182, [7, 56, 925]), (53, .aload_n 0, []), (54, .aload_n 0, []), (55, .getfield 139, [7, 42, 911]), (58, .putfield 185, [7, 57, 926]), (61, .iconst 0, []), (62, .istore_n 1, []), (63, .iload_n 1, []), (64, .bipush 7, []), (66, .if_icmp .ge 93, [94]), (69, .aload_n 0, []), (70, .getfield 188, [7, 58, 927]), (73, .iload_n 1, []), (74, .aload_n 0, []), (75, .getfield 19, [7, 3, 872]), (78, .iload_n 1, []), (79, .iaload, []), (80, .iastore, []), (81, .aload_n 0, []), (82, .getfield 191, [7, 59, 928]), (85, .iload_n 1, []), (86, .aload_n 0, []), (87, .getfield 23, [7, 4, 873]), (90, .iload_n 1, []), (91, .iaload, []), (92, .iastore, []), (93, .aload_n 0, []), (94, .getfield 194, [7, 60, 929]), (97, .iload_n 1, []), (98, .aload_n 0, []), (99, .getfield 26, [7, 5, 874]), (102, .iload_n 1, []), (103, .iaload, []), (104, .iastore, []), (105, .aload_n 0, []), (106, .getfield 197, [7, 61, 930]), (109, .iload_n 1, []), (110, .aload_n 0, []), (111, .getfield 29, [7, 6, 875]), (114, .iload_n 1, []), (115, .iaload, []), (116, .iastore, []), (117, .aload_n 0, []), (118, .getfield 200, [7, 62, 931]), (121, .iload_n 1, []), (122, .aload_n 0, []), (123, .getfield 32, [7, 7, 876]), (126, .iload_n 1, []), (127, .iaload, []), (128, .iastore, []), (129, .aload_n 0, []), (130, .getfield 203, [7, 63, 932]), (133, .iload_n 1, []), (134, .aload_n 0, []), (135, .getfield 35, [7, 8, 877]), (138, .iload_n 1, []), (139, .iaload, []), (140, .iastore, []), (141, .aload_n 0, []), (142, .getfield 206, [7, 64, 933]), (145, .iload_n 1, []), (146, .aload_n 0, []), (147, .getfield 38, [7, 9, 878]), (150, .iload_n 1, []), (151, .iaload, []), (152, .iastore, []), (153, .iinc 1 1, []), (156, .goto (-93), [33]), (159, .iconst 0, []), (160, .istore_n 1, []), (161, .iload_n 1, []), (162, .bipush 28, []), (164, .if_icmp .ge 21, [109]), (167, .aload_n 0, []), (168, .getfield 209, [7, 65, 934]), (171, .iload_n 1, []), (172, .aload_n 0, []), (173, .getfield 41, [7, 10, 879]), (176, .iload_n 1, []), (177, .iaload, []), (178, .iastore, []), (179, .iinc 1 1, []), (182, .goto (-21), [96]), (185, .iconst 0, []), (186, .istore_n 1, []), (187, .iload_n 1, []), (188, .iconst 5, []), (189, .if_icmp .ge 57, [148]), (192, .aload_n 0, []), (193, .getfield 212, [7, 66, 935]), (196, .iload_n 1, []), (197, .aload_n 0, []), (198, .getfield 124, [7, 37, 906]), (201, .iload_n 1, []), (202, .iaload, []), (203, .iastore, []), (204, .aload_n 0, []), (205, .getfield 215, [7, 67, 936]), (208, .iload_n 1, []), (209, .aload_n 0, []), (210, .getfield 127, [7, 38, 907]), (213, .iload_n 1, []), (214, .iaload, []), (215, .iastore, []), (216, .aload_n 0, []), (217, .getfield 218, [7, 68, 937]), (220, .iload_n 1, []), (221, .aload_n 0, []), (222, .getfield 130, [7, 39, 908]), (225, .iload_n 1, []), (226, .iaload, []), (227, .iastore, []), (228, .aload_n 0, []), (229, .getfield 236, [7, 74, 943]), (232, .iload_n 1, []), (233, .aload_n 0, []), (234, .getfield 133, [7, 40, 909]), (237, .iload_n 1, []), (238, .baload, [103]), (239, .bastore, [103]), (240, .iinc 1 1, []), (243, .goto (-56), [111]), (246, .iconst 0, []), (247, .istore_n 1, []), (248, .iload_n 1, []), (249, .bipush 6, []), (251, .if_icmp .ge 45, [179]), (254, .aload_n 0, []), (255, .getfield 221, [7, 69, 938]), (258, .iload_n 1, []), (259, .aload_n 0, []), (260, .getfield 142, [7, 43, 912]), (263, .iload_n 1, []), (264, .iaload, []), (265, .iastore, []), (266, .aload_n 0, []), (267, .getfield 224, [7, 70, 939]), (270, .iload_n 1, []), (271, .aload_n 0, []), (272, .getfield 145, [7, 44, 913]), (275, .iload_n 1, []), (276, .iaload, []), (277, .iastore, []), (278, .aload_n 0, []), (279, .getfield 227, [7, 71, 940]), (282, .iload_n 1, []), (283, .aload_n 0, []), (284, .getfield 148, [7, 45, 914]), (287, .iload_n 1, []), (288, .iaload, []), (289, .iastore, []), (290, .iinc 1 1, []), (293, .goto (-45), [150]), (296, .iconst 0, []), (297, .istore_n 1, []), (298, .iload_n 1, []), (299, .bipush 8, []), (301, .if_icmp .ge 33, [202]), (304, .aload_n 0, []), (305, .getfield 230, [7, 72, 941]), (308, .iload_n 1, []), (309, .aload_n 0, []), (310, .getfield 151, [7, 46, 915]), (313, .iload_n 1, []), (314, .iaload, []), (315, .iastore, []), (316, .aload_n 0, []), (317, .getfield 233, [7, 73, 942]), (320, .iload_n 1, []), (321, .aload_n 0, []), (322, .getfield 154, [7, 47, 916]), (325, .iload_n 1, []), (326, .iaload, []), (327, .iastore, []), (328, .iinc 1 1, []), (331, .goto (-33), [181]), (334, .aload_n 0, []), (335, .getfield 7, [7, 0, 869]), (338, .ireturn, [0])]
def inf_X7_image : am_I := (yX7_image, cX7_image, 2, (some .int), RX7, ta_X7_image)
def ta_X7_undo : List am_A := [(0, .aload_n 0, []), (1, .getfield 163, [7, 50, 919]), (4, .ifCond .ne 6, [5]), (7, .bipush (-3), []), (9, .ireturn, [0]), (10, .aload_n 0, []), (11, .aload_n 0, []), (12, .getfield 167, [7, 51, 920]), (15, .putfield 47, [7, 12, 881]), (18, .aload_n 0, []), (19, .aload_n 0, []), (20, .getfield 170, [7, 52, 921]), (23, .putfield 7, [7, 0, 869]), (26, .aload_n 0, []), (27, .aload_n 0, []), (28, .getfield 173, [7, 53, 922]), (31, .putfield 13, [7, 1, 870]), (34, .aload_n 0, []), (35, .aload_n 0, []), (36, .getfield 176, [7, 54, 923]), (39, .putfield 16, [7, 2, 871]), (42, .aload_n 0, []), (43, .aload_n 0, []), (44, .getfield 179, [7, 55, 924]), (47, .putfield 121, [7, 36, 905]), (50, .aload_n 0, []), (51, .aload_n 0, []), (52, .getfield 182, [7, 56, 925]), (55, .putfield 136, [7, 41, 910]), (58, .aload_n 0, []), (59, .aload_n 0, []), (60, .getfield 185, [7, 57, 926]), (63, .putfield 139, [7, 42, 911]), (66, .iconst 0, []), (67, .istore_n 1, []), (68, .iload_n 1, []), (69, .bipush 7, []), (71, .if_icmp .ge 93, [96]), (74, .aload_n 0, []), (75, .getfield 19, [7, 3, 872]), (78, .iload_n 1, []), (79, .aload_n 0, []), (80, .getfield 188, [7, 58, 927]), (83, .iload_n 1, []), (84, .iaload, []), (85, .iastore, []), (86, .aload_n 0, []), (87, .getfield 23, [7, 4, 873]), (90, .iload_n 1, []), (91, .aload_n 0, []), (92, .getfield 191, [7, 59, 928]), (95, .iload_n 1, []), (96, .iaload, []), (97, .iastore, []), (98, .aload_n 0, []), (99, .getfield 26, [7, 5, 874]), (102, .iload_n 1, []), (103, .aload_n 0, []), (104, .getfield 194, [7, 60, 929]), (107, .iload_n 1, []), (108, .iaload, []), (109, .iastore, []), (110, .aload_n 0, []), (111, .getfield 29, [7, 6, 875]), (114, .iload_n 1, []), (115, .aload_n 0, []), (116, .getfield 197, [7, 61, 930]), (119, .iload_n 1, []), (120, .iaload, []), (121, .iastore, []), (122, .aload_n 0, []), (123, .getfield 32, [7, 7, 876]), (126, .iload_n 1, []), (127, .aload_n 0, []), (128, .getfield 200, [7, 62, 931]), (131, .iload_n 1, []), (132, .iaload, []), (133, .iastore, []), (134, .aload_n 0, []), (135, .getfield 35, [7, 8, 877]), (138, .iload_n 1, []), (139, .aload_n 0, []), (140, .getfield 203, [7, 63, 932]), (143, .iload_n 1, []), (144, .iaload, []), (145, .iastore, []), (146, .aload_n 0, []), (147, .getfield 38, [7, 9, 878]), (150, .iload_n 1, []), (151, .aload_n 0, []), (152, .getfield 206, [7, 64, 933]), (155, .iload_n 1, []), (156, .iaload, []), (157, .iastore, []), (158, .iinc 1 1, []), (161, .goto (-93), [35]), (164, .iconst 0, []), (165, .istore_n 1, []), (166, .iload_n 1, []), (167, .bipush 28, []), (169, .if_icmp .ge 21, [111]), (172, .aload_n 0, []), (173, .getfield 41, [7, 10, 879]), (176, .iload_n 1, []), (177, .aload_n 0, []), (178, .getfield 209, [7, 65, 934]), (181, .iload_n 1, []), (182, .iaload, []), (183, .iastore, []), (184, .iinc 1 1, []), (187, .goto (-21), [98]), (190, .iconst 0, []), (191, .istore_n 1, []), (192, .iload_n 1, []), (193, .iconst 5, []), (194, .if_icmp .ge 57, [150]), (197, .aload_n 0, []), (198, .getfield 124, [7, 37, 906]), (201, .iload_n 1, []), (202, .aload_n 0, []), (203, .getfield 212, [7, 66, 935]), (206, .iload_n 1, []), (207, .iaload, []), (208, .iastore, []), (209, .aload_n 0, []), (210, .getfield 127, [7, 38, 907]), (213, .iload_n 1, []), (214, .aload_n 0, []), (215, .getfield 215, [7, 67, 936]), (218, .iload_n 1, []), (219, .iaload, []), (220, .iastore, []), (221, .aload_n 0, []), (222, .getfield 130, [7, 39, 908]), (225, .iload_n 1, []), (226, .aload_n 0, []), (227, .getfield 218, [7, 68, 937]), (230, .iload_n 1, []), (231, .iaload, []), (232, .iastore, []), (233, .aload_n 0, []), (234, .getfield 133, [7, 40, 909]), (237, .iload_n 1, []), (238, .aload_n 0, []), (239, .getfield 236, [7, 74, 943]), (242, .iload_n 1, []), (243, .baload, [103]), (244, .bastore, [103]), (245, .iinc 1 1, []), (248, .goto (-56), [113]), (251, .iconst 0, []), (252, .istore_n 1, []), (253, .iload_n 1, []), (254, .bipush 6, []), (256, .if_icmp .ge 45, [181]), (259, .aload_n 0, []), (260, .getfield 142, [7, 43, 912]), (263, .iload_n 1, []), (264, .aload_n 0, []), (265, .getfield 221, [7, 69, 938]), (268, .iload_n 1, []), (269, .iaload, []), (270, .iastore, []), (271, .aload_n 0, []), (272, .getfield 145, [7, 44, 913]), (275, .iload_n 1, []), (276, .aload_n 0, []), (277, .getfield 224, [7, 70, 939]), (280, .iload_n 1, []), (281, .iaload, []), (282, .iastore, []), (283, .aload_n 0, []), (284, .getfield 148, [7, 45, 914]), (287, .iload_n 1, []), (288, .aload_n 0, []), (289, .getfield 227, [7, 71, 940]), (292, .iload_n 1, []), (293, .iaload, []), (294, .iastore, []), (295, .iinc 1 1, []), (298, .goto (-45), [152]), (301, .iconst 0, []), (302, .istore_n 1, []), (303, .iload_n 1, []), (304, .bipush 8, []), (306, .if_icmp .ge 33, [204]), (309, .aload_n 0, []), (310, .getfield 151, [7, 46, 915]), (313, .iload_n 1, []), (314, .aload_n 0, []), (315, .getfield 230, [7, 72, 941]), (318, .iload_n 1, []), (319, .iaload, []), (320, .iastore, []), (321, .aload_n 0, []), (322, .getfield 154, [7, 47, 916]), (325, .iload_n 1, []), (326, .aload_n 0, []), (327, .getfield 233, [7, 73, 942]), (330, .iload_n 1, []), (331, .iaload, []), (332, .iastore, []), (333, .iinc 1 1, []), (336, .goto (-33), [183]), (339, .aload_n 0, []), (340, .getfield 7, [7, 0, 869]), (343, .ireturn, [0])]
def inf_X7_undo : am_I := (yX7_undo, cX7_undo, 2, (some .int), RX7, ta_X7_undo)
def ta_X7_body : List am_A := [(0, .aload_n 0, []), (1, .getfield 239, [7, 75, 944]), (4, .bipush 20, []), (6, .if_icmp .ge 13, [10]), (9, .aload_n 0, []), (10, .getfield 242, [7, 76, 945]), (13, .aload_n 0, []), (14, .getfield 239, [7, 75, 944]), (17, .iload_n 1, []), (18, .iastore, []), (19, .aload_n 0, []), (20, .dup, []), (21, .getfield 239, [7, 75, 944]), (24, .iconst 1, []), (25, .iadd, []), (26, .putfield 239, [7, 75, 944]), (29, .return_, [])]
def inf_X7_body : am_I := (yX7_body, cX7_body, 2, none, RX7, ta_X7_body)
def ta_X7_birdFlies : List am_A := [(0, .aload_n 0, []), (1, .bipush 10, []), (3, .invokevirtual 436, [0, 199, 1, 7, 1475, 1478, 1477, 88, 104]), (6, .iload_n 2, []), (7, .iload_n 1, []), (8, .iadd, []), (9, .ireturn, [0])]
def inf_X7_birdFlies : am_I := (yX7_birdFlies, cX7_birdFlies, 3, (some .int), RX7, ta_X7_birdFlies)
def ta_X7_fliesAct : List am_A := [(0, .aload_n 0, []), (1, .getfield 19, [7, 3, 872]), (4, .iload_n 1, []), (5, .iaload, []), (6, .tableswitch 83 2 6 #[34, 83, 49, 34, 63], [34, 37, 5, 37, 15, 5, 24]), (40, .aload_n 0, []), (41, .bipush 30, []), (43, .invokevirtual 436, [0, 199, 1, 7, 1475, 1478, 1477, 88, 104]), (46, .aload_n 0, []), (47, .iload_n 1, []), (48, .iload_n 2, []), (49, .iconst 3, []), (50, .imul, []), (51, .invokevirtual 439, [0, 200, 2, 7, 1479, 1482, 1481, 89, 104]), (54, .ireturn, [0]), (55, .aload_n 0, []), (56, .bipush 50, []), (58, .invokevirtual 436, [0, 199, 1, 7, 1475, 1478, 1477, 88, 104]), (61, .aload_n 0, []), (62, .iload_n 1, []), (63, .iload_n 2, []), (64, .invokevirtual 439, [0, 200, 2, 7, 1479, 1482, 1481, 89, 104]), (67, .ineg, []), (68, .ireturn, [0]), (69, .aload_n 0, []), (70, .bipush 71, []), (72, .invokevirtual 436, [0, 199, 1, 7, 1475, 1478, 1477, 88, 104]), (75, .aload_n 0, []), (76, .iload_n 1, []), (77, .iload_n 2, []), (78, .invokevirtual 439, [0, 200, 2, 7, 1479, 1482, 1481, 89, 104]), (81, .aload_n 0, []), (82, .getfield 23, [7, 4, 873]), (85, .iload_n 1, []), (86, .iaload, []), (87, .ixor, []), (88, .ireturn, [0]), (89, .aload_n 0, []), (90, .iload_n 1, []), (91, .iload_n 2, []), (92, .invokevirtual 439, [0, 200, 2, 7, 1479, 1482, 1481, 89, 104]), (95, .ireturn, [0])]
def inf_X7_fliesAct : am_I := (yX7_fliesAct, cX7_fliesAct, 3, (some .int), RX7, ta_X7_fliesAct)
def ta_X7_birdSings : List am_A := [(0, .aload_n 0, []), (1, .bipush 11, []), (3, .invokevirtual 436, [0, 199, 1, 7, 1475, 1478, 1477, 88, 104]), (6, .aload_n 0, []), (7, .iload_n 1, []), (8, .iload_n 2, []), (9, .invokevirtual 442, [0, 201, 2, 7, 1471, 1474, 1473, 87, 104]), (12, .aload_n 0, []), (13, .getfield 23, [7, 4, 873]), (16, .iload_n 1, []), (17, .iaload, []), (18, .isub, []), (19, .ireturn, [0])]
def inf_X7_birdSings : am_I := (yX7_birdSings, cX7_birdSings, 3, (some .int), RX7, ta_X7_birdSings)
def ta_X7_singerSings : List am_A := [(0, .aload_n 0, []), (1, .bipush 20, []), (3, .invokevirtual 436, [0, 199, 1, 7, 1475, 1478, 1477, 88, 104]), (6, .aload_n 0, []), (7, .iload_n 1, []), (8, .iload_n 2, []), (9, .invokevirtual 445, [0, 202, 2, 7, 1491, 1494, 1493, 92, 104]), (12, .bipush 6, []), (14, .ixor, []), (15, .ireturn, [0])]
def inf_X7_singerSings : am_I := (yX7_singerSings, cX7_singerSings, 3, (some .int), RX7, ta_X7_singerSings)
def ta_X7_singsAct : List am_A := [(0, .aload_n 0, []), (1, .getfield 19, [7, 3, 872]), (4, .iload_n 1, []), (5, .iaload, []), (6, .lookupswitch 78 #[(1, 34), (4, 41), (6, 56)], [34, 35, 5, 10, 20]), (40, .aload_n 0, []), (41, .iload_n 1, []), (42, .iload_n 2, []), (43, .invokevirtual 448, [0, 203, 2, 7, 1487, 1490, 1489, 91, 104]), (46, .ireturn, [0]), (47, .aload_n 0, []), (48, .bipush 51, []), (50, .invokevirtual 436, [0, 199, 1, 7, 1475, 1478, 1477, 88, 104]), (53, .aload_n 0, []), (54, .iload_n 1, []), (55, .iload_n 2, []), (56, .iconst 1, []), (57, .iadd, []), (58, .invokevirtual 448, [0, 203, 2, 7, 1487, 1490, 1489, 91, 104]), (61, .ireturn, [0]), (62, .aload_n 0, []), (63, .bipush 70, []), (65, .invokevirtual 436, [0, 199, 1, 7, 1475, 1478, 1477, 88, 104]), (68, .aload_n 0, []), (69, .iload_n 1, []), (70, .iload_n 2, []), (71, .invokevirtual 445, [0, 202, 2, 7, 1491, 1494, 1493, 92, 104]), (74, .istore_n 3, []), (75, .iload_n 3, []), (76, .aload_n 0, []), (77, .iload_n 1, []), (78, .iconst 2, []), (79, .invokevirtual 439, [0, 200, 2, 7, 1479, 1482, 1481, 89, 104]), (82, .iadd, []), (83, .ireturn, [0]), (84, .aload_n 0, []), (85, .iload_n 1, []), (86, .iload_n 2, []), (87, .invokevirtual 445, [0, 202, 2, 7, 1491, 1494, 1493, 92, 104]), (90, .ireturn, [0])]
def inf_X7_singsAct : am_I := (yX7_singsAct, cX7_singsAct, 4, (some .int), RX7, ta_X7_singsAct)
def ta_X7_birdTells : List am_A := [(0, .aload_n 0, []), (1, .bipush 12, []), (3, .invokevirtual 436, [0, 199, 1, 7, 1475, 1478, 1477, 88, 104]), (6, .aload_n 0, []), (7, .iload_n 1, []), (8, .iload_n 2, []), (9, .invokevirtual 451, [0, 204, 2, 7, 1483, 1486, 1485, 90, 104]), (12, .iconst 2, []), (13, .imul, []), (14, .ireturn, [0])]
def inf_X7_birdTells : am_I := (yX7_birdTells, cX7_birdTells, 3, (some .int), RX7, ta_X7_birdTells)
def ta_X7_tellsAct : List am_A := [(0, .aload_n 0, []), (1, .getfield 19, [7, 3, 872]), (4, .iload_n 1, []), (5, .iaload, []), (6, .tableswitch 67 3 6 #[30, 67, 52, 30], [30, 30, 5, 30, 20, 5]), (36, .aload_n 0, []), (37, .bipush 40, []), (39, .invokevirtual 436, [0, 199, 1, 7, 1475, 1478, 1477, 88, 104]), (42, .aload_n 0, []), (43, .iload_n 1, []), (44, .iload_n 2, []), (45, .invokevirtual 454, [0, 205, 2, 7, 1499, 1502, 1501, 94, 104]), (48, .istore_n 3, []), (49, .iload_n 3, []), (50, .aload_n 0, []), (51, .iload_n 1, []), (52, .iconst 1, []), (53, .invokevirtual 451, [0, 204, 2, 7, 1483, 1486, 1485, 90, 104]), (56, .iadd, []), (57, .ireturn, [0]), (58, .aload_n 0, []), (59, .bipush 60, []), (61, .invokevirtual 436, [0, 199, 1, 7, 1475, 1478, 1477, 88, 104]), (64, .aload_n 0, []), (65, .iload_n 1, []), (66, .iload_n 2, []), (67, .iload_n 1, []), (68, .isub, []), (69, .invokevirtual 454, [0, 205, 2, 7, 1499, 1502, 1501, 94, 104]), (72, .ireturn, [0]), (73, .aload_n 0, []), (74, .iload_n 1, []), (75, .iload_n 2, []), (76, .invokevirtual 454, [0, 205, 2, 7, 1499, 1502, 1501, 94, 104]), (79, .ireturn, [0])]
def inf_X7_tellsAct : am_I := (yX7_tellsAct, cX7_tellsAct, 4, (some .int), RX7, ta_X7_tellsAct)
def ta_X7_act : List am_A := [(0, .aload_n 0, []), (1, .iconst 0, []), (2, .putfield 239, [7, 75, 944]), (5, .aload_n 0, []), (6, .iload_n 1, []), (7, .invokevirtual 271, [0, 115, 1, 7, 1134, 1137, 1136, 34, 104]), (10, .ifCond .eq 13, [13]), (13, .aload_n 0, []), (14, .iload_n 2, []), (15, .iconst 0, []), (16, .iconst 2, []), (17, .invokevirtual 257, [0, 112, 3, 7, 1118, 1121, 1120, 31, 104]), (20, .ifCond .ne 5, [15]), (23, .iconst 0, []), (24, .ireturn, [0]), (25, .iload_n 2, []), (26, .ifCond .ne 12, [22]), (29, .aload_n 0, []), (30, .iload_n 1, []), (31, .iload_n 3, []), (32, .invokevirtual 442, [0, 201, 2, 7, 1471, 1474, 1473, 87, 104]), (35, .goto 23, [34]), (38, .iload_n 2, []), (39, .iconst 1, []), (40, .if_icmp .ne 12, [30]), (43, .aload_n 0, []), (44, .iload_n 1, []), (45, .iload_n 3, []), (46, .invokevirtual 451, [0, 204, 2, 7, 1483, 1486, 1485, 90, 104]), (49, .goto 9, [34]), (52, .aload_n 0, []), (53, .iload_n 1, []), (54, .iload_n 3, []), (55, .invokevirtual 457, [0, 206, 2, 7, 1495, 1498, 1497, 93, 104]), (58, .ireturn, [0])]
def inf_X7_act : am_I := (yX7_act, cX7_act, 4, (some .int), RX7, ta_X7_act)
def ta_X7_trace : List am_A := [(0, .aload_n 0, []), (1, .iload_n 1, []), (2, .iconst 0, []), (3, .bipush 19, []), (5, .invokevirtual 257, [0, 112, 3, 7, 1118, 1121, 1120, 31, 104]), (8, .ifCond .eq 20, [15]), (11, .iload_n 1, []), (12, .aload_n 0, []), (13, .getfield 239, [7, 75, 944]), (16, .if_icmp .ge 12, [15]), (19, .aload_n 0, []), (20, .getfield 242, [7, 76, 945]), (23, .iload_n 1, []), (24, .iaload, []), (25, .goto 4, [16]), (28, .iconst (-1), []), (29, .ireturn, [0])]
def inf_X7_trace : am_I := (yX7_trace, cX7_trace, 2, (some .int), RX7, ta_X7_trace)
def ta_X7_taken : List am_A := [(0, .aload_n 0, []), (1, .iload_n 2, []), (2, .iconst 0, []), (3, .bipush 6, []), (5, .invokevirtual 257, [0, 112, 3, 7, 1118, 1121, 1120, 31, 104]), (8, .ifCond .ne 6, [8]), (11, .bipush (-2), []), (13, .ireturn, [0]), (14, .aload_n 0, []), (15, .iload_n 1, []), (16, .invokevirtual 271, [0, 115, 1, 7, 1134, 1137, 1136, 34, 104]), (19, .ifCond .ne 6, [14]), (22, .bipush (-11), []), (24, .ireturn, [0]), (25, .aload_n 0, []), (26, .getfield 19, [7, 3, 872]), (29, .iload_n 1, []), (30, .iaload, []), (31, .istore_n 3, []), (32, .iload_n 2, []), (33, .ifCond .eq 39, [42]), (36, .iload_n 3, []), (37, .iload_n 2, []), (38, .if_icmp .eq 34, [42]), (41, .iload_n 2, []), (42, .iconst 1, []), (43, .if_icmp .ne 8, [30]), (46, .iload_n 3, []), (47, .iconst 4, []), (48, .if_icmp .eq 24, [42]), (51, .iload_n 2, []), (52, .iconst 2, []), (53, .if_icmp .ne 8, [36]), (56, .iload_n 3, []), (57, .iconst 5, []), (58, .if_icmp .eq 14, [42]), (61, .iload_n 2, []), (62, .iconst 3, []), (63, .if_icmp .ne 13, [44]), (66, .iload_n 3, []), (67, .bipush 6, []), (69, .if_icmp .ne 7, [44]), (72, .iload_n 3, []), (73, .goto 5, [45]), (76, .bipush (-12), []), (78, .ireturn, [0])]
def inf_X7_taken : am_I := (yX7_taken, cX7_taken, 4, (some .int), RX7, ta_X7_taken)
def ta_X7_count : List am_A := [(0, .iload_n 1, []), (1, .tableswitch 78 0 6 #[43, 48, 53, 58, 63, 68, 73], [43, 23, 2, 5, 8, 11, 14, 17, 20]), (44, .aload_n 0, []), (45, .getfield 7, [7, 0, 869]), (48, .ireturn, [0]), (49, .aload_n 0, []), (50, .getfield 44, [7, 11, 880]), (53, .ireturn, [0]), (54, .aload_n 0, []), (55, .getfield 121, [7, 36, 905]), (58, .ireturn, [0]), (59, .aload_n 0, []), (60, .getfield 136, [7, 41, 910]), (63, .ireturn, [0]), (64, .aload_n 0, []), (65, .getfield 139, [7, 42, 911]), (68, .ireturn, [0]), (69, .aload_n 0, []), (70, .getfield 50, [7, 13, 882]), (73, .ireturn, [0]), (74, .aload_n 0, []), (75, .getfield 239, [7, 75, 944]), (78, .ireturn, [0]), (79, .bipush (-2), []), (81, .ireturn, [0])]
def inf_X7_count : am_I := (yX7_count, cX7_count, 2, (some .int), RX7, ta_X7_count)
def ta_X7_isTape : List am_A := [(0, .aload_n 0, []), (1, .iload_n 1, []), (2, .iconst 0, []), (3, .iconst 5, []), (4, .invokevirtual 257, [0, 112, 3, 7, 1118, 1121, 1120, 31, 104]), (7, .ireturn, [1])]
def inf_X7_isTape : am_I := (yX7_isTape, cX7_isTape, 2, (some .boolean), RX7, ta_X7_isTape)
def ta_X7_tape : List am_A := [(0, .aload_n 0, []), (1, .iload_n 1, []), (2, .invokevirtual 433, [0, 211, 1, 7, 1455, 1458, 1457, 86, 104]), (5, .ifCond .ne 5, [6]), (8, .iconst (-1), []), (9, .ireturn, [0]), (10, .aload_n 0, []), (11, .iload_n 2, []), (12, .iconst (-1), []), (13, .iconst 4, []), (14, .invokevirtual 257, [0, 112, 3, 7, 1118, 1121, 1120, 31, 104]), (17, .ifCond .eq 13, [17]), (20, .iload_n 2, []), (21, .ifCond .lt 12, [19]), (24, .iload_n 3, []), (25, .bipush 60, []), (27, .if_icmp .le 6, [19]), (30, .bipush (-2), []), (32, .ireturn, [0]), (33, .iload_n 2, []), (34, .ifCond .lt 10, [25]), (37, .iload_n 3, []), (38, .ifCond .ge 6, [25]), (41, .bipush (-14), []), (43, .ireturn, [0]), (44, .aload_n 0, []), (45, .getfield 245, [7, 77, 946]), (48, .iload_n 1, []), (49, .iload_n 2, []), (50, .iastore, []), (51, .aload_n 0, []), (52, .getfield 248, [7, 78, 947]), (55, .iload_n 1, []), (56, .iload_n 2, []), (57, .ifCond .ge 7, [37]), (60, .iconst 0, []), (61, .goto 4, [38]), (64, .iload_n 3, []), (65, .iastore, []), (66, .iconst 0, []), (67, .istore 4, []), (69, .iload 4, []), (71, .bipush 60, []), (73, .if_icmp .ge 22, [55]), (76, .aload_n 0, []), (77, .getfield 251, [7, 79, 948]), (80, .bipush 60, []), (82, .iload_n 1, []), (83, .imul, []), (84, .iload 4, []), (86, .iadd, []), (87, .lconst 0, []), (88, .lastore, []), (89, .iinc 4 1, []), (92, .goto (-23), [41]), (95, .iconst 1, []), (96, .ireturn, [0])]
def inf_X7_tape : am_I := (yX7_tape, cX7_tape, 5, (some .int), RX7, ta_X7_tape)
def ta_X7_narrow : List am_A := [(0, .iload_n 1, []), (1, .ifCond .ne 10, [7]), (4, .lload_n 2, []), (5, .l2i, []), (6, .i2b, []), (7, .i2l, []), (8, .goto 46, [34]), (11, .iload_n 1, []), (12, .iconst 1, []), (13, .if_icmp .ne 10, [15]), (16, .lload_n 2, []), (17, .l2i, []), (18, .i2s, []), (19, .i2l, []), (20, .goto 34, [34]), (23, .iload_n 1, []), (24, .iconst 2, []), (25, .if_icmp .ne 9, [22]), (28, .lload_n 2, []), (29, .l2i, []), (30, .i2l, []), (31, .goto 23, [34]), (34, .iload_n 1, []), (35, .iconst 4, []), (36, .if_icmp .ne 17, [33]), (39, .lload_n 2, []), (40, .lconst 0, []), (41, .lcmp, []), (42, .ifCond .eq 7, [31]), (45, .lconst 1, []), (46, .goto 8, [34]), (49, .lconst 0, []), (50, .goto 4, [34]), (53, .lload_n 2, []), (54, .lreturn, [])]
def inf_X7_narrow : am_I := (yX7_narrow, cX7_narrow, 4, (some .long), RX7, ta_X7_narrow)
def ta_X7_item : List am_A := [(0, .aload_n 0, []), (1, .iload_n 1, []), (2, .invokevirtual 433, [0, 211, 1, 7, 1455, 1458, 1457, 86, 104]), (5, .ifCond .ne 5, [6]), (8, .iconst (-1), []), (9, .ireturn, [0]), (10, .aload_n 0, []), (11, .getfield 245, [7, 77, 946]), (14, .iload_n 1, []), (15, .iaload, []), (16, .ifCond .ge 6, [13]), (19, .bipush (-11), []), (21, .ireturn, [0]), (22, .aload_n 0, []), (23, .iload_n 2, []), (24, .iconst 0, []), (25, .aload_n 0, []), (26, .getfield 248, [7, 78, 947]), (29, .iload_n 1, []), (30, .iaload, []), (31, .iconst 1, []), (32, .isub, []), (33, .invokevirtual 257, [0, 112, 3, 7, 1118, 1121, 1120, 31, 104]), (36, .ifCond .ne 6, [26]), (39, .bipush (-13), []), (41, .ireturn, [0]), (42, .aload_n 0, []), (43, .getfield 251, [7, 79, 948]), (46, .bipush 60, []), (48, .iload_n 1, []), (49, .imul, []), (50, .iload_n 2, []), (51, .iadd, []), (52, .aload_n 0, []), (53, .aload_n 0, []), (54, .getfield 245, [7, 77, 946]), (57, .iload_n 1, []), (58, .iaload, []), (59, .lload_n 3, []), (60, .invokevirtual 460, [0, 213, 2, 7, 1523, 1526, 1525, 95, 104]), (63, .lastore, []), (64, .iconst 1, []), (65, .ireturn, [0])]
def inf_X7_item : am_I := (yX7_item, cX7_item, 5, (some .int), RX7, ta_X7_item)
def ta_X7_read : List am_A := [(0, .aload_n 0, []), (1, .iload_n 1, []), (2, .invokevirtual 433, [0, 211, 1, 7, 1455, 1458, 1457, 86, 104]), (5, .ifCond .eq 29, [20]), (8, .aload_n 0, []), (9, .getfield 245, [7, 77, 946]), (12, .iload_n 1, []), (13, .iaload, []), (14, .ifCond .lt 20, [20]), (17, .aload_n 0, []), (18, .iload_n 2, []), (19, .iconst 0, []), (20, .aload_n 0, []), (21, .getfield 248, [7, 78, 947]), (24, .iload_n 1, []), (25, .iaload, []), (26, .iconst 1, []), (27, .isub, []), (28, .invokevirtual 257, [0, 112, 3, 7, 1118, 1121, 1120, 31, 104]), (31, .ifCond .ne 9, [22]), (34, .ldc2_w 418, [9223372036854775808, 1398]), (37, .goto 14, [30]), (40, .aload_n 0, []), (41, .getfield 251, [7, 79, 948]), (44, .bipush 60, []), (46, .iload_n 1, []), (47, .imul, []), (48, .iload_n 2, []), (49, .iadd, []), (50, .laload, []), (51, .lreturn, [])]
def inf_X7_read : am_I := (yX7_read, cX7_read, 3, (some .long), RX7, ta_X7_read)
def ta_X7_shift : List am_A := [(0, .aload_n 0, []), (1, .iload_n 1, []), (2, .invokevirtual 433, [0, 211, 1, 7, 1455, 1458, 1457, 86, 104]), (5, .ifCond .eq 11, [8]), (8, .aload_n 0, []), (9, .iload_n 3, []), (10, .invokevirtual 433, [0, 211, 1, 7, 1455, 1458, 1457, 86, 104]), (13, .ifCond .ne 5, [10]), (16, .iconst (-1), []), (17, .ireturn, [0]), (18, .aload_n 0, []), (19, .getfield 245, [7, 77, 946]), (22, .iload_n 1, []), (23, .iaload, []), (24, .ifCond .lt 12, [20]), (27, .aload_n 0, []), (28, .getfield 245, [7, 77, 946]), (31, .iload_n 3, []), (32, .iaload, []), (33, .ifCond .ge 6, [22]), (36, .bipush (-11), []), (38, .ireturn, [0]), (39, .aload_n 0, []), (40, .getfield 245, [7, 77, 946]), (43, .iload_n 1, []), (44, .iaload, []), (45, .aload_n 0, []), (46, .getfield 245, [7, 77, 946]), (49, .iload_n 3, []), (50, .iaload, []), (51, .if_icmp .eq 6, [33]), (54, .bipush (-12), []), (56, .ireturn, [0]), (57, .iload 5, []), (59, .ifCond .lt 39, [55]), (62, .iload_n 2, []), (63, .ifCond .lt 35, [55]), (66, .iload 4, []), (68, .ifCond .lt 30, [55]), (71, .iload_n 2, []), (72, .aload_n 0, []), (73, .getfield 248, [7, 78, 947]), (76, .iload_n 1, []), (77, .iaload, []), (78, .iload 5, []), (80, .isub, []), (81, .if_icmp .gt 17, [55]), (84, .iload 4, []), (86, .aload_n 0, []), (87, .getfield 248, [7, 78, 947]), (90, .iload_n 3, []), (91, .iaload, []), (92, .iload 5, []), (94, .isub, []), (95, .if_icmp .le 6, [57]), (98, .bipush (-13), []), (100, .ireturn, [0]), (101, .iconst 0, []), (102, .istore 6, []), (104, .iload 6, []), (106, .iload 5, []), (108, .if_icmp .ge 30, [78]), (111, .aload_n 0, []), (112, .getfield 254, [7, 80, 949]), (115, .iload 6, []), (117, .aload_n 0, []), (118, .getfield 251, [7, 79, 948]), (121, .bipush 60, []), (123, .iload_n 1, []), (124, .imul, []), (125, .iload_n 2, []), (126, .iadd, []), (127, .iload 6, []), (129, .iadd, []), (130, .laload, []), (131, .lastore, []), (132, .iinc 6 1, []), (135, .goto (-31), [59]), (138, .iconst 0, []), (139, .istore 6, []), (141, .iload 6, []), (143, .iload 5, []), (145, .if_icmp .ge 31, [99]), (148, .aload_n 0, []), (149, .getfield 251, [7, 79, 948]), (152, .bipush 60, []), (154, .iload_n 3, []), (155, .imul, []), (156, .iload 4, []), (158, .iadd, []), (159, .iload 6, []), (161, .iadd, []), (162, .aload_n 0, []), (163, .getfield 254, [7, 80, 949]), (166, .iload 6, []), (168, .laload, []), (169, .lastore, []), (170, .iinc 6 1, []), (173, .goto (-32), [80]), (176, .iload 5, []), (178, .ireturn, [0])]
def inf_X7_shift : am_I := (yX7_shift, cX7_shift, 7, (some .int), RX7, ta_X7_shift)
def ta_J6_bitCount_0f7a4 : List am_A := [(0, .iload_n 0, []), (1, .iload_n 0, []), (2, .iconst 1, []), (3, .iushr, []), (4, .ldc_w 265, [1431655765, 416]), (7, .iand, []), (8, .isub, []), (9, .istore_n 0, []), (10, .iload_n 0, []), (11, .ldc_w 266, [858993459, 417]), (14, .iand, []), (15, .iload_n 0, []), (16, .iconst 2, []), (17, .iushr, []), (18, .ldc_w 266, [858993459, 417]), (21, .iand, []), (22, .iadd, []), (23, .istore_n 0, []), (24, .iload_n 0, []), (25, .iload_n 0, []), (26, .iconst 4, []), (27, .iushr, []), (28, .iadd, []), (29, .ldc_w 267, [252645135, 418]), (32, .iand, []), (33, .istore_n 0, []), (34, .iload_n 0, []), (35, .iload_n 0, []), (36, .bipush 8, []), (38, .iushr, []), (39, .iadd, []), (40, .istore_n 0, []), (41, .iload_n 0, []), (42, .iload_n 0, []), (43, .bipush 16, []), (45, .iushr, []), (46, .iadd, []), (47, .istore_n 0, []), (48, .iload_n 0, []), (49, .bipush 63, []), (51, .iand, []), (52, .ireturn, [0])]
def inf_J6_bitCount_0f7a4 : am_I := (yJ6_bitCount_0f7a4, cJ6_bitCount_0f7a4, 1, (some .int), RJ6, ta_J6_bitCount_0f7a4)
def ta_J9_floorMod_7cf53 : List am_A := [(0, .iload_n 0, []), (1, .iload_n 1, []), (2, .irem, []), (3, .istore_n 2, []), (4, .iload_n 0, []), (5, .iload_n 1, []), (6, .ixor, []), (7, .ifCond .ge 11, [14]), (10, .iload_n 2, []), (11, .ifCond .eq 7, [14]), (14, .iload_n 2, []), (15, .iload_n 1, []), (16, .iadd, []), (17, .ireturn, [0]), (18, .iload_n 2, []), (19, .ireturn, [0])]
def inf_J9_floorMod_7cf53 : am_I := (yJ9_floorMod_7cf53, cJ9_floorMod_7cf53, 3, (some .int), RJ9, ta_J9_floorMod_7cf53)
def ta_J9_max_7cf53 : List am_A := [(0, .iload_n 0, []), (1, .iload_n 1, []), (2, .if_icmp .lt 7, [5]), (5, .iload_n 0, []), (6, .goto 4, [6]), (9, .iload_n 1, []), (10, .ireturn, [0])]
def inf_J9_max_7cf53 : am_I := (yJ9_max_7cf53, cJ9_max_7cf53, 2, (some .int), RJ9, ta_J9_max_7cf53)
def ta_J9_min_7cf53 : List am_A := [(0, .iload_n 0, []), (1, .iload_n 1, []), (2, .if_icmp .gt 7, [5]), (5, .iload_n 0, []), (6, .goto 4, [6]), (9, .iload_n 1, []), (10, .ireturn, [0])]
def inf_J9_min_7cf53 : am_I := (yJ9_min_7cf53, cJ9_min_7cf53, 2, (some .int), RJ9, ta_J9_min_7cf53)
def ta_L_law : List am_A := [(0, .new 7, [6, 112, 113, 97]), (3, .dup, []), (4, .invokespecial 9, [2, 46, 0, 6, 114, 116, 115, 97]), (7, .astore_n 1, []), (8, .new 10, [7, 863, 864, 104]), (11, .dup, []), (12, .invokespecial 12, [2, 111, 0, 7, 865, 867, 866, 104]), (15, .astore_n 2, []), (16, .iconst 0, []), (17, .istore_n 3, []), (18, .iload_n 3, []), (19, .aload_n 0, []), (20, .arraylength, []), (21, .bipush 7, []), (23, .isub, []), (24, .if_icmp .gt 1488, [1058]), (27, .aload_n 0, []), (28, .iload_n 3, []), (29, .iaload, []), (30, .bipush 63, []), (32, .iand, []), (33, .tableswitch 1473 0 39 #[175, 250, 283, 326, 375, 418, 441, 454, 477, 510, 533, 566, 579, 602, 635, 658, 691, 724, 747, 760, 784, 807, 876, 909, 943, 967, 1010, 1033, 1066, 1079, 1112, 1125, 1138, 1181, 1204, 1237, 1260, 1303, 1376, 1410], [175, 1056, 22, 89, 116, 153, 188, 225, 242, 249, 266, 293, 310, 337, 344, 361, 388, 405, 432, 459, 476, 483, 501, 518, 573, 600, 628, 646, 683, 700, 727, 734, 761, 768, 775, 812, 829, 856, 873, 910, 971, 999]), (208, .aload_n 1, []), (209, .aload_n 0, []), (210, .iload_n 3, []), (211, .iconst 1, []), (212, .iadd, []), (213, .iaload, []), (214, .aload_n 0, []), (215, .iload_n 3, []), (216, .iconst 2, []), (217, .iadd, []), (218, .iaload, []), (219, .aload_n 0, []), (220, .iload_n 3, []), (221, .iconst 3, []), (222, .iadd, []), (223, .iaload, []), (224, .aload_n 0, []), (225, .iload_n 3, []), (226, .iconst 4, []), (227, .iadd, []), (228, .iaload, []), (229, .aload_n 0, []), (230, .iload_n 3, []), (231, .iconst 5, []), (232, .iadd, []), (233, .iaload, []), (234, .aload_n 0, []), (235, .iload_n 3, []), (236, .bipush 6, []), (238, .iadd, []), (239, .iaload, []), (240, .invokevirtual 13, [0, 47, 6, 6, 356, 359, 357, 358, 97]), (243, .aload_n 2, []), (244, .aload_n 0, []), (245, .iload_n 3, []), (246, .iconst 1, []), (247, .iadd, []), (248, .iaload, []), (249, .aload_n 0, []), (250, .iload_n 3, []), (251, .iconst 2, []), (252, .iadd, []), (253, .iaload, []), (254, .aload_n 0, []), (255, .iload_n 3, []), (256, .iconst 3, []), (257, .iadd, []), (258, .iaload, []), (259, .aload_n 0, []), (260, .iload_n 3, []), (261, .iconst 4, []), (262, .iadd, []), (263, .iaload, []), (264, .aload_n 0, []), (265, .iload_n 3, []), (266, .iconst 5, []), (267, .iadd, []), (268, .iaload, []), (269, .aload_n 0, []), (270, .iload_n 3, []), (271, .bipush 6, []), (273, .iadd, []), (274, .iaload, []), (275, .invokevirtual 17, [0, 120, 6, 7, 1114, 1117, 1115, 1116, 104]), (278, .if_icmp .eq 1228, [1056]), (281, .iconst 0, []), (282, .ireturn, [1]), (283, .aload_n 1, []), (284, .aload_n 0, []), (285, .iload_n 3, []), (286, .iconst 1, []), (287, .iadd, []), (288, .iaload, []), (289, .aload_n 0, []), (290, .iload_n 3, []), (291, .iconst 2, []), (292, .iadd, []), (293, .iaload, []), (294, .invokevirtual 18, [0, 48, 2, 6, 367, 370, 368, 369, 97]), (297, .aload_n 2, []), (298, .aload_n 0, []), (299, .iload_n 3, []), (300, .iconst 1, []), (301, .iadd, []), (302, .iaload, []), (303, .aload_n 0, []), (304, .iload_n 3, []), (305, .iconst 2, []), (306, .iadd, []), (307, .iaload, []), (308, .invokevirtual 22, [0, 155, 2, 7, 1226, 1229, 1227, 1228, 104]), (311, .if_icmp .eq 1195, [1056]), (314, .iconst 0, []), (315, .ireturn, [1]), (316, .aload_n 1, []), (317, .aload_n 0, []), (318, .iload_n 3, []), (319, .iconst 1, []), (320, .iadd, []), (321, .iaload, []), (322, .aload_n 0, []), (323, .iload_n 3, []), (324, .iconst 2, []), (325, .iadd, []), (326, .iaload, []), (327, .aload_n 0, []), (328, .iload_n 3, []), (329, .iconst 3, []), (330, .iadd, []), (331, .iaload, []), (332, .invokevirtual 23, [0, 49, 3, 6, 425, 428, 426, 427, 97]), (335, .aload_n 2, []), (336, .aload_n 0, []), (337, .iload_n 3, []), (338, .iconst 1, []), (339, .iadd, []), (340, .iaload, []), (341, .aload_n 0, []), (342, .iload_n 3, []), (343, .iconst 2, []), (344, .iadd, []), (345, .iaload, []), (346, .aload_n 0, []), (347, .iload_n 3, []), (348, .iconst 3, []), (349, .iadd, []), (350, .iaload, []), (351, .invokevirtual 27, [0, 123, 3, 7, 1130, 1133, 1131, 1132, 104]), (354, .if_icmp .eq 1152, [1056]), (357, .iconst 0, []), (358, .ireturn, [1]), (359, .aload_n 1, []), (360, .aload_n 0, []), (361, .iload_n 3, []), (362, .iconst 1, []), (363, .iadd, []), (364, .iaload, []), (365, .aload_n 0, []), (366, .iload_n 3, []), (367, .iconst 2, []), (368, .iadd, []), (369, .iaload, []), (370, .ifCond .eq 7, [167]), (373, .iconst 1, []), (374, .goto 4, [168]), (377, .iconst 0, []), (378, .invokevirtual 28, [0, 50, 2, 6, 437, 440, 438, 439, 97]), (381, .aload_n 2, []), (382, .aload_n 0, []), (383, .iload_n 3, []), (384, .iconst 1, []), (385, .iadd, []), (386, .iaload, []), (387, .aload_n 0, []), (388, .iload_n 3, []), (389, .iconst 2, []), (390, .iadd, []), (391, .iaload, []), (392, .ifCond .eq 7, [183]), (395, .iconst 1, []), (396, .goto 4, [184]), (399, .iconst 0, []), (400, .invokevirtual 32, [0, 124, 2, 7, 1150, 1153, 1151, 1152, 104]), (403, .if_icmp .eq 1103, [1056]), (406, .iconst 0, []), (407, .ireturn, [1]), (408, .aload_n 1, []), (409, .aload_n 0, []), (410, .iload_n 3, []), (411, .iconst 1, []), (412, .iadd, []), (413, .iaload, []), (414, .aload_n 0, []), (415, .iload_n 3, []), (416, .iconst 2, []), (417, .iadd, []), (418, .iaload, []), (419, .aload_n 0, []), (420, .iload_n 3, []), (421, .iconst 3, []), (422, .iadd, []), (423, .iaload, []), (424, .invokevirtual 33, [0, 51, 3, 6, 441, 444, 442, 443, 97]), (427, .aload_n 2, []), (428, .aload_n 0, []), (429, .iload_n 3, []), (430, .iconst 1, []), (431, .iadd, []), (432, .iaload, []), (433, .aload_n 0, []), (434, .iload_n 3, []), (435, .iconst 2, []), (436, .iadd, []), (437, .iaload, []), (438, .aload_n 0, []), (439, .iload_n 3, []), (440, .iconst 3, []), (441, .iadd, []), (442, .iaload, []), (443, .invokevirtual 36, [0, 125, 3, 7, 1158, 1161, 1159, 1160, 104]), (446, .if_icmp .eq 1060, [1056]), (449, .iconst 0, []), (450, .ireturn, [1]), (451, .aload_n 1, []), (452, .aload_n 0, []), (453, .iload_n 3, []), (454, .iconst 1, []), (455, .iadd, []), (456, .iaload, []), (457, .invokevirtual 37, [0, 52, 1, 6, 445, 448, 446, 447, 97]), (460, .aload_n 2, []), (461, .aload_n 0, []), (462, .iload_n 3, []), (463, .iconst 1, []), (464, .iadd, []), (465, .iaload, []), (466, .invokevirtual 41, [0, 126, 1, 7, 1162, 1165, 1163, 1164, 104]), (469, .if_icmp .eq 1037, [1056]), (472, .iconst 0, []), (473, .ireturn, [1]), (474, .aload_n 1, []), (475, .invokevirtual 42, [0, 53, 0, 6, 453, 456, 454, 455, 97]), (478, .aload_n 2, []), (479, .invokevirtual 46, [0, 141, 0, 7, 1166, 1169, 1167, 1168, 104]), (482, .if_icmp .eq 1024, [1056]), (485, .iconst 0, []), (486, .ireturn, [1]), (487, .aload_n 1, []), (488, .aload_n 0, []), (489, .iload_n 3, []), (490, .iconst 1, []), (491, .iadd, []), (492, .iaload, []), (493, .invokevirtual 47, [0, 54, 1, 6, 575, 578, 576, 577, 97]), (496, .aload_n 2, []), (497, .aload_n 0, []), (498, .iload_n 3, []), (499, .iconst 1, []), (500, .iadd, []), (501, .iaload, []), (502, .invokevirtual 50, [0, 161, 1, 7, 1278, 1281, 1279, 1280, 104]), (505, .if_icmp .eq 1001, [1056]), (508, .iconst 0, []), (509, .ireturn, [1]), (510, .aload_n 1, []), (511, .aload_n 0, []), (512, .iload_n 3, []), (513, .iconst 1, []), (514, .iadd, []), (515, .iaload, []), (516, .aload_n 0, []), (517, .iload_n 3, []), (518, .iconst 2, []), (519, .iadd, []), (520, .iaload, []), (521, .invokevirtual 51, [0, 55, 2, 6, 615, 618, 616, 617, 97]), (524, .aload_n 2, []), (525, .aload_n 0, []), (526, .iload_n 3, []), (527, .iconst 1, []), (528, .iadd, []), (529, .iaload, []), (530, .aload_n 0, []), (531, .iload_n 3, []), (532, .iconst 2, []), (533, .iadd, []), (534, .iaload, []), (535, .invokevirtual 54, [0, 163, 2, 7, 1310, 1313, 1311, 1312, 104]), (538, .if_icmp .eq 968, [1056]), (541, .iconst 0, []), (542, .ireturn, [1]), (543, .aload_n 1, []), (544, .aload_n 0, []), (545, .iload_n 3, []), (546, .iconst 1, []), (547, .iadd, []), (548, .iaload, []), (549, .invokevirtual 55, [0, 56, 1, 6, 624, 627, 625, 626, 97]), (552, .aload_n 2, []), (553, .aload_n 0, []), (554, .iload_n 3, []), (555, .iconst 1, []), (556, .iadd, []), (557, .iaload, []), (558, .invokevirtual 58, [0, 164, 1, 7, 1318, 1321, 1319, 1320, 104]), (561, .if_icmp .eq 945, [1056]), (564, .iconst 0, []), (565, .ireturn, [1]), (566, .aload_n 1, []), (567, .aload_n 0, []), (568, .iload_n 3, []), (569, .iconst 1, []), (570, .iadd, []), (571, .iaload, []), (572, .aload_n 0, []), (573, .iload_n 3, []), (574, .iconst 2, []), (575, .iadd, []), (576, .iaload, []), (577, .invokevirtual 59, [0, 57, 2, 6, 628, 631, 629, 630, 97]), (580, .aload_n 2, []), (581, .aload_n 0, []), (582, .iload_n 3, []), (583, .iconst 1, []), (584, .iadd, []), (585, .iaload, []), (586, .aload_n 0, []), (587, .iload_n 3, []), (588, .iconst 2, []), (589, .iadd, []), (590, .iaload, []), (591, .invokevirtual 62, [0, 166, 2, 7, 1322, 1325, 1323, 1324, 104]), (594, .if_icmp .eq 912, [1056]), (597, .iconst 0, []), (598, .ireturn, [1]), (599, .aload_n 1, []), (600, .invokevirtual 63, [0, 58, 0, 6, 636, 639, 637, 638, 97]), (603, .aload_n 2, []), (604, .invokevirtual 66, [0, 167, 0, 7, 1330, 1333, 1331, 1332, 104]), (607, .if_icmp .eq 899, [1056]), (610, .iconst 0, []), (611, .ireturn, [1]), (612, .aload_n 1, []), (613, .aload_n 0, []), (614, .iload_n 3, []), (615, .iconst 1, []), (616, .iadd, []), (617, .iaload, []), (618, .invokevirtual 67, [0, 59, 1, 6, 640, 643, 641, 642, 97]), (621, .aload_n 2, []), (622, .aload_n 0, []), (623, .iload_n 3, []), (624, .iconst 1, []), (625, .iadd, []), (626, .iaload, []), (627, .invokevirtual 70, [0, 170, 1, 7, 1334, 1337, 1335, 1336, 104]), (630, .if_icmp .eq 876, [1056]), (633, .iconst 0, []), (634, .ireturn, [1]), (635, .aload_n 1, []), (636, .aload_n 0, []), (637, .iload_n 3, []), (638, .iconst 1, []), (639, .iadd, []), (640, .iaload, []), (641, .aload_n 0, []), (642, .iload_n 3, []), (643, .iconst 2, []), (644, .iadd, []), (645, .iaload, []), (646, .invokevirtual 71, [0, 60, 2, 6, 655, 658, 656, 657, 97]), (649, .aload_n 2, []), (650, .aload_n 0, []), (651, .iload_n 3, []), (652, .iconst 1, []), (653, .iadd, []), (654, .iaload, []), (655, .aload_n 0, []), (656, .iload_n 3, []), (657, .iconst 2, []), (658, .iadd, []), (659, .iaload, []), (660, .invokevirtual 74, [0, 173, 2, 7, 1350, 1353, 1351, 1352, 104]), (663, .if_icmp .eq 843, [1056]), (666, .iconst 0, []), (667, .ireturn, [1]), (668, .aload_n 1, []), (669, .aload_n 0, []), (670, .iload_n 3, []), (671, .iconst 1, []), (672, .iadd, []), (673, .iaload, []), (674, .invokevirtual 75, [0, 61, 1, 6, 666, 669, 667, 668, 97]), (677, .aload_n 2, []), (678, .aload_n 0, []), (679, .iload_n 3, []), (680, .iconst 1, []), (681, .iadd, []), (682, .iaload, []), (683, .invokevirtual 78, [0, 174, 1, 7, 1362, 1365, 1363, 1364, 104]), (686, .if_icmp .eq 820, [1056]), (689, .iconst 0, []), (690, .ireturn, [1]), (691, .aload_n 1, []), (692, .aload_n 0, []), (693, .iload_n 3, []), (694, .iconst 1, []), (695, .iadd, []), (696, .iaload, []), (697, .aload_n 0, []), (698, .iload_n 3, []), (699, .iconst 2, []), (700, .iadd, []), (701, .iaload, []), (702, .invokevirtual 79, [0, 62, 2, 6, 671, 674, 672, 673, 97]), (705, .aload_n 2, []), (706, .aload_n 0, []), (707, .iload_n 3, []), (708, .iconst 1, []), (709, .iadd, []), (710, .iaload, []), (711, .aload_n 0, []), (712, .iload_n 3, []), (713, .iconst 2, []), (714, .iadd, []), (715, .iaload, []), (716, .invokevirtual 82, [0, 176, 2, 7, 1366, 1369, 1367, 1368, 104]), (719, .if_icmp .eq 787, [1056]), (722, .iconst 0, []), (723, .ireturn, [1]), (724, .aload_n 1, []), (725, .aload_n 0, []), (726, .iload_n 3, []), (727, .iconst 1, []), (728, .iadd, []), (729, .iaload, []), (730, .aload_n 0, []), (731, .iload_n 3, []), (732, .iconst 2, []), (733, .iadd, []), (734, .iaload, []), (735, .invokevirtual 83, [0, 63, 2, 6, 679, 682, 680, 681, 97]), (738, .aload_n 2, []), (739, .aload_n 0, []), (740, .iload_n 3, []), (741, .iconst 1, []), (742, .iadd, []), (743, .iaload, []), (744, .aload_n 0, []), (745, .iload_n 3, []), (746, .iconst 2, []), (747, .iadd, []), (748, .iaload, []), (749, .invokevirtual 86, [0, 177, 2, 7, 1374, 1377, 1375, 1376, 104]), (752, .if_icmp .eq 754, [1056]), (755, .iconst 0, []), (756, .ireturn, [1]), (757, .aload_n 1, []), (758, .aload_n 0, []), (759, .iload_n 3, []), (760, .iconst 1, []), (761, .iadd, []), (762, .iaload, []), (763, .invokevirtual 87, [0, 64, 1, 6, 683, 686, 684, 685, 97]), (766, .aload_n 2, []), (767, .aload_n 0, []), (768, .iload_n 3, []), (769, .iconst 1, []), (770, .iadd, []), (771, .iaload, []), (772, .invokevirtual 90, [0, 180, 1, 7, 1378, 1381, 1379, 1380, 104]), (775, .if_icmp .eq 731, [1056]), (778, .iconst 0, []), (779, .ireturn, [1]), (780, .aload_n 1, []), (781, .invokevirtual 91, [0, 65, 0, 6, 703, 706, 704, 705, 97]), (784, .aload_n 2, []), (785, .invokevirtual 94, [0, 181, 0, 7, 1390, 1393, 1391, 1392, 104]), (788, .if_icmp .eq 718, [1056]), (791, .iconst 0, []), (792, .ireturn, [1]), (793, .aload_n 1, []), (794, .aload_n 0, []), (795, .iload_n 3, []), (796, .iconst 1, []), (797, .iadd, []), (798, .iaload, []), (799, .invokevirtual 95, [0, 66, 1, 6, 707, 710, 708, 709, 97]), (802, .aload_n 2, []), (803, .aload_n 0, []), (804, .iload_n 3, []), (805, .iconst 1, []), (806, .iadd, []), (807, .iaload, []), (808, .invokevirtual 99, [0, 183, 1, 7, 1394, 1397, 1395, 1396, 104]), (811, .lcmp, []), (812, .ifCond .eq 694, [1056]), (815, .iconst 0, []), (816, .ireturn, [1]), (817, .aload_n 1, []), (818, .aload_n 0, []), (819, .iload_n 3, []), (820, .iconst 1, []), (821, .iadd, []), (822, .iaload, []), (823, .invokevirtual 100, [0, 67, 1, 6, 721, 724, 722, 723, 97]), (826, .aload_n 2, []), (827, .aload_n 0, []), (828, .iload_n 3, []), (829, .iconst 1, []), (830, .iadd, []), (831, .iaload, []), (832, .invokevirtual 103, [0, 184, 1, 7, 1403, 1406, 1404, 1405, 104]), (835, .if_icmp .eq 671, [1056]), (838, .iconst 0, []), (839, .ireturn, [1]), (840, .aload_n 1, []), (841, .aload_n 0, []), (842, .iload_n 3, []), (843, .iconst 1, []), (844, .iadd, []), (845, .iaload, []), (846, .aload_n 0, []), (847, .iload_n 3, []), (848, .iconst 2, []), (849, .iadd, []), (850, .iaload, []), (851, .aload_n 0, []), (852, .iload_n 3, []), (853, .iconst 3, []), (854, .iadd, []), (855, .iaload, []), (856, .ifCond .eq 7, [537]), (859, .iconst 1, []), (860, .goto 4, [538]), (863, .iconst 0, []), (864, .aload_n 0, []), (865, .iload_n 3, []), (866, .iconst 4, []), (867, .iadd, []), (868, .iaload, []), (869, .invokevirtual 104, [0, 68, 4, 6, 725, 728, 726, 727, 97]), (872, .aload_n 2, []), (873, .aload_n 0, []), (874, .iload_n 3, []), (875, .iconst 1, []), (876, .iadd, []), (877, .iaload, []), (878, .aload_n 0, []), (879, .iload_n 3, []), (880, .iconst 2, []), (881, .iadd, []), (882, .iaload, []), (883, .aload_n 0, []), (884, .iload_n 3, []), (885, .iconst 3, []), (886, .iadd, []), (887, .iaload, []), (888, .ifCond .eq 7, [563]), (891, .iconst 1, []), (892, .goto 4, [564]), (895, .iconst 0, []), (896, .aload_n 0, []), (897, .iload_n 3, []), (898, .iconst 4, []), (899, .iadd, []), (900, .iaload, []), (901, .invokevirtual 108, [0, 185, 4, 7, 1407, 1410, 1408, 1409, 104]), (904, .if_icmp .eq 602, [1056]), (907, .iconst 0, []), (908, .ireturn, [1]), (909, .aload_n 1, []), (910, .aload_n 0, []), (911, .iload_n 3, []), (912, .iconst 1, []), (913, .iadd, []), (914, .iaload, []), (915, .aload_n 0, []), (916, .iload_n 3, []), (917, .iconst 2, []), (918, .iadd, []), (919, .iaload, []), (920, .invokevirtual 109, [0, 69, 2, 6, 733, 736, 734, 735, 97]), (923, .aload_n 2, []), (924, .aload_n 0, []), (925, .iload_n 3, []), (926, .iconst 1, []), (927, .iadd, []), (928, .iaload, []), (929, .aload_n 0, []), (930, .iload_n 3, []), (931, .iconst 2, []), (932, .iadd, []), (933, .iaload, []), (934, .invokevirtual 112, [0, 187, 2, 7, 1411, 1414, 1412, 1413, 104]), (937, .if_icmp .eq 569, [1056]), (940, .iconst 0, []), (941, .ireturn, [1]), (942, .aload_n 1, []), (943, .aload_n 0, []), (944, .iload_n 3, []), (945, .iconst 1, []), (946, .iadd, []), (947, .iaload, []), (948, .aload_n 0, []), (949, .iload_n 3, []), (950, .iconst 2, []), (951, .iadd, []), (952, .iaload, []), (953, .invokevirtual 113, [0, 70, 2, 6, 750, 753, 751, 752, 97]), (956, .aload_n 2, []), (957, .aload_n 0, []), (958, .iload_n 3, []), (959, .iconst 1, []), (960, .iadd, []), (961, .iaload, []), (962, .aload_n 0, []), (963, .iload_n 3, []), (964, .iconst 2, []), (965, .iadd, []), (966, .iaload, []), (967, .invokevirtual 117, [0, 190, 2, 7, 1419, 1422, 1420, 1421, 104]), (970, .lcmp, []), (971, .ifCond .eq 535, [1056]), (974, .iconst 0, []), (975, .ireturn, [1]), (976, .aload_n 1, []), (977, .aload_n 0, []), (978, .iload_n 3, []), (979, .iconst 1, []), (980, .iadd, []), (981, .iaload, []), (982, .invokevirtual 118, [0, 71, 1, 6, 757, 760, 758, 759, 97]), (985, .aload_n 2, []), (986, .aload_n 0, []), (987, .iload_n 3, []), (988, .iconst 1, []), (989, .iadd, []), (990, .iaload, []), (991, .invokevirtual 121, [0, 191, 1, 7, 1431, 1434, 1432, 1433, 104]), (994, .lcmp, []), (995, .ifCond .eq 511, [1056]), (998, .iconst 0, []), (999, .ireturn, [1]), (1000, .aload_n 1, []), (1001, .aload_n 0, []), (1002, .iload_n 3, []), (1003, .iconst 1, []), (1004, .iadd, []), (1005, .iaload, []), (1006, .aload_n 0, []), (1007, .iload_n 3, []), (1008, .iconst 2, []), (1009, .iadd, []), (1010, .iaload, []), (1011, .aload_n 0, []), (1012, .iload_n 3, []), (1013, .iconst 3, []), (1014, .iadd, []), (1015, .iaload, []), (1016, .invokevirtual 122, [0, 72, 3, 6, 761, 764, 762, 763, 97]), (1019, .aload_n 2, []), (1020, .aload_n 0, []), (1021, .iload_n 3, []), (1022, .iconst 1, []), (1023, .iadd, []), (1024, .iaload, []), (1025, .aload_n 0, []), (1026, .iload_n 3, []), (1027, .iconst 2, []), (1028, .iadd, []), (1029, .iaload, []), (1030, .aload_n 0, []), (1031, .iload_n 3, []), (1032, .iconst 3, []), (1033, .iadd, []), (1034, .iaload, []), (1035, .invokevirtual 125, [0, 192, 3, 7, 1435, 1438, 1436, 1437, 104]), (1038, .if_icmp .eq 468, [1056]), (1041, .iconst 0, []), (1042, .ireturn, [1]), (1043, .aload_n 1, []), (1044, .aload_n 0, []), (1045, .iload_n 3, []), (1046, .iconst 1, []), (1047, .iadd, []), (1048, .iaload, []), (1049, .invokevirtual 126, [0, 73, 1, 6, 765, 768, 766, 767, 97]), (1052, .aload_n 2, []), (1053, .aload_n 0, []), (1054, .iload_n 3, []), (1055, .iconst 1, []), (1056, .iadd, []), (1057, .iaload, []), (1058, .invokevirtual 129, [0, 193, 1, 7, 1439, 1442, 1440, 1441, 104]), (1061, .if_icmp .eq 445, [1056]), (1064, .iconst 0, []), (1065, .ireturn, [1]), (1066, .aload_n 1, []), (1067, .aload_n 0, []), (1068, .iload_n 3, []), (1069, .iconst 1, []), (1070, .iadd, []), (1071, .iaload, []), (1072, .aload_n 0, []), (1073, .iload_n 3, []), (1074, .iconst 2, []), (1075, .iadd, []), (1076, .iaload, []), (1077, .invokevirtual 130, [0, 74, 2, 6, 779, 782, 780, 781, 97]), (1080, .aload_n 2, []), (1081, .aload_n 0, []), (1082, .iload_n 3, []), (1083, .iconst 1, []), (1084, .iadd, []), (1085, .iaload, []), (1086, .aload_n 0, []), (1087, .iload_n 3, []), (1088, .iconst 2, []), (1089, .iadd, []), (1090, .iaload, []), (1091, .invokevirtual 133, [0, 194, 2, 7, 1443, 1446, 1444, 1445, 104]), (1094, .if_icmp .eq 412, [1056]), (1097, .iconst 0, []), (1098, .ireturn, [1]), (1099, .aload_n 1, []), (1100, .invokevirtual 134, [0, 75, 0, 6, 783, 786, 784, 785, 97]), (1103, .aload_n 2, []), (1104, .invokevirtual 137, [0, 195, 0, 7, 1447, 1450, 1448, 1449, 104]), (1107, .if_icmp .eq 399, [1056]), (1110, .iconst 0, []), (1111, .ireturn, [1]), (1112, .aload_n 1, []), (1113, .aload_n 0, []), (1114, .iload_n 3, []), (1115, .iconst 1, []), (1116, .iadd, []), (1117, .iaload, []), (1118, .aload_n 0, []), (1119, .iload_n 3, []), (1120, .iconst 2, []), (1121, .iadd, []), (1122, .iaload, []), (1123, .invokevirtual 138, [0, 76, 2, 6, 787, 790, 788, 789, 97]), (1126, .aload_n 2, []), (1127, .aload_n 0, []), (1128, .iload_n 3, []), (1129, .iconst 1, []), (1130, .iadd, []), (1131, .iaload, []), (1132, .aload_n 0, []), (1133, .iload_n 3, []), (1134, .iconst 2, []), (1135, .iadd, []), (1136, .iaload, []), (1137, .invokevirtual 141, [0, 196, 2, 7, 1451, 1454, 1452, 1453, 104]), (1140, .if_icmp .eq 366, [1056]), (1143, .iconst 0, []), (1144, .ireturn, [1]), (1145, .aload_n 1, []), (1146, .invokevirtual 142, [0, 77, 0, 6, 791, 794, 792, 793, 97]), (1149, .aload_n 2, []), (1150, .invokevirtual 145, [0, 197, 0, 7, 1459, 1462, 1460, 1461, 104]), (1153, .if_icmp .eq 353, [1056]), (1156, .iconst 0, []), (1157, .ireturn, [1]), (1158, .aload_n 1, []), (1159, .invokevirtual 146, [0, 78, 0, 6, 795, 798, 796, 797, 97]), (1162, .aload_n 2, []), (1163, .invokevirtual 149, [0, 198, 0, 7, 1463, 1466, 1464, 1465, 104]), (1166, .if_icmp .eq 340, [1056]), (1169, .iconst 0, []), (1170, .ireturn, [1]), (1171, .aload_n 1, []), (1172, .aload_n 0, []), (1173, .iload_n 3, []), (1174, .iconst 1, []), (1175, .iadd, []), (1176, .iaload, []), (1177, .aload_n 0, []), (1178, .iload_n 3, []), (1179, .iconst 2, []), (1180, .iadd, []), (1181, .iaload, []), (1182, .aload_n 0, []), (1183, .iload_n 3, []), (1184, .iconst 3, []), (1185, .iadd, []), (1186, .iaload, []), (1187, .invokevirtual 150, [0, 79, 3, 6, 799, 802, 800, 801, 97]), (1190, .aload_n 2, []), (1191, .aload_n 0, []), (1192, .iload_n 3, []), (1193, .iconst 1, []), (1194, .iadd, []), (1195, .iaload, []), (1196, .aload_n 0, []), (1197, .iload_n 3, []), (1198, .iconst 2, []), (1199, .iadd, []), (1200, .iaload, []), (1201, .aload_n 0, []), (1202, .iload_n 3, []), (1203, .iconst 3, []), (1204, .iadd, []), (1205, .iaload, []), (1206, .invokevirtual 153, [0, 207, 3, 7, 1467, 1470, 1468, 1469, 104]), (1209, .if_icmp .eq 297, [1056]), (1212, .iconst 0, []), (1213, .ireturn, [1]), (1214, .aload_n 1, []), (1215, .aload_n 0, []), (1216, .iload_n 3, []), (1217, .iconst 1, []), (1218, .iadd, []), (1219, .iaload, []), (1220, .invokevirtual 154, [0, 80, 1, 6, 818, 821, 819, 820, 97]), (1223, .aload_n 2, []), (1224, .aload_n 0, []), (1225, .iload_n 3, []), (1226, .iconst 1, []), (1227, .iadd, []), (1228, .iaload, []), (1229, .invokevirtual 157, [0, 208, 1, 7, 1503, 1506, 1504, 1505, 104]), (1232, .if_icmp .eq 274, [1056]), (1235, .iconst 0, []), (1236, .ireturn, [1]), (1237, .aload_n 1, []), (1238, .aload_n 0, []), (1239, .iload_n 3, []), (1240, .iconst 1, []), (1241, .iadd, []), (1242, .iaload, []), (1243, .aload_n 0, []), (1244, .iload_n 3, []), (1245, .iconst 2, []), (1246, .iadd, []), (1247, .iaload, []), (1248, .invokevirtual 158, [0, 81, 2, 6, 822, 825, 823, 824, 97]), (1251, .aload_n 2, []), (1252, .aload_n 0, []), (1253, .iload_n 3, []), (1254, .iconst 1, []), (1255, .iadd, []), (1256, .iaload, []), (1257, .aload_n 0, []), (1258, .iload_n 3, []), (1259, .iconst 2, []), (1260, .iadd, []), (1261, .iaload, []), (1262, .invokevirtual 161, [0, 209, 2, 7, 1507, 1510, 1508, 1509, 104]), (1265, .if_icmp .eq 241, [1056]), (1268, .iconst 0, []), (1269, .ireturn, [1]), (1270, .aload_n 1, []), (1271, .aload_n 0, []), (1272, .iload_n 3, []), (1273, .iconst 1, []), (1274, .iadd, []), (1275, .iaload, []), (1276, .invokevirtual 162, [0, 82, 1, 6, 829, 832, 830, 831, 97]), (1279, .aload_n 2, []), (1280, .aload_n 0, []), (1281, .iload_n 3, []), (1282, .iconst 1, []), (1283, .iadd, []), (1284, .iaload, []), (1285, .invokevirtual 165, [0, 210, 1, 7, 1511, 1514, 1512, 1513, 104]), (1288, .if_icmp .eq 218, [1056]), (1291, .iconst 0, []), (1292, .ireturn, [1]), (1293, .aload_n 1, []), (1294, .aload_n 0, []), (1295, .iload_n 3, []), (1296, .iconst 1, []), (1297, .iadd, []), (1298, .iaload, []), (1299, .aload_n 0, []), (1300, .iload_n 3, []), (1301, .iconst 2, []), (1302, .iadd, []), (1303, .iaload, []), (1304, .aload_n 0, []), (1305, .iload_n 3, []), (1306, .iconst 3, []), (1307, .iadd, []), (1308, .iaload, []), (1309, .invokevirtual 166, [0, 83, 3, 6, 833, 836, 834, 835, 97]), (1312, .aload_n 2, []), (1313, .aload_n 0, []), (1314, .iload_n 3, []), (1315, .iconst 1, []), (1316, .iadd, []), (1317, .iaload, []), (1318, .aload_n 0, []), (1319, .iload_n 3, []), (1320, .iconst 2, []), (1321, .iadd, []), (1322, .iaload, []), (1323, .aload_n 0, []), (1324, .iload_n 3, []), (1325, .iconst 3, []), (1326, .iadd, []), (1327, .iaload, []), (1328, .invokevirtual 169, [0, 212, 3, 7, 1515, 1518, 1516, 1517, 104]), (1331, .if_icmp .eq 175, [1056]), (1334, .iconst 0, []), (1335, .ireturn, [1]), (1336, .aload_n 1, []), (1337, .aload_n 0, []), (1338, .iload_n 3, []), (1339, .iconst 1, []), (1340, .iadd, []), (1341, .iaload, []), (1342, .aload_n 0, []), (1343, .iload_n 3, []), (1344, .iconst 2, []), (1345, .iadd, []), (1346, .iaload, []), (1347, .aload_n 0, []), (1348, .iload_n 3, []), (1349, .iconst 3, []), (1350, .iadd, []), (1351, .iaload, []), (1352, .i2l, []), (1353, .bipush 32, []), (1355, .lshl, []), (1356, .aload_n 0, []), (1357, .iload_n 3, []), (1358, .iconst 4, []), (1359, .iadd, []), (1360, .iaload, []), (1361, .i2l, []), (1362, .ldc2_w 170, [4294967295, 1535]), (1365, .land, []), (1366, .lor, []), (1367, .invokevirtual 172, [0, 84, 3, 6, 843, 846, 844, 845, 97]), (1370, .aload_n 2, []), (1371, .aload_n 0, []), (1372, .iload_n 3, []), (1373, .iconst 1, []), (1374, .iadd, []), (1375, .iaload, []), (1376, .aload_n 0, []), (1377, .iload_n 3, []), (1378, .iconst 2, []), (1379, .iadd, []), (1380, .iaload, []), (1381, .aload_n 0, []), (1382, .iload_n 3, []), (1383, .iconst 3, []), (1384, .iadd, []), (1385, .iaload, []), (1386, .i2l, []), (1387, .bipush 32, []), (1389, .lshl, []), (1390, .aload_n 0, []), (1391, .iload_n 3, []), (1392, .iconst 4, []), (1393, .iadd, []), (1394, .iaload, []), (1395, .i2l, []), (1396, .ldc2_w 170, [4294967295, 1535]), (1399, .land, []), (1400, .lor, []), (1401, .invokevirtual 176, [0, 214, 3, 7, 1519, 1522, 1520, 1521, 104]), (1404, .if_icmp .eq 102, [1056]), (1407, .iconst 0, []), (1408, .ireturn, [1]), (1409, .aload_n 1, []), (1410, .aload_n 0, []), (1411, .iload_n 3, []), (1412, .iconst 1, []), (1413, .iadd, []), (1414, .iaload, []), (1415, .aload_n 0, []), (1416, .iload_n 3, []), (1417, .iconst 2, []), (1418, .iadd, []), (1419, .iaload, []), (1420, .invokevirtual 177, [0, 85, 2, 6, 851, 854, 852, 853, 97]), (1423, .aload_n 2, []), (1424, .aload_n 0, []), (1425, .iload_n 3, []), (1426, .iconst 1, []), (1427, .iadd, []), (1428, .iaload, []), (1429, .aload_n 0, []), (1430, .iload_n 3, []), (1431, .iconst 2, []), (1432, .iadd, []), (1433, .iaload, []), (1434, .invokevirtual 180, [0, 215, 2, 7, 1527, 1530, 1528, 1529, 104]), (1437, .lcmp, []), (1438, .ifCond .eq 68, [1056]), (1441, .iconst 0, []), (1442, .ireturn, [1]), (1443, .aload_n 1, []), (1444, .aload_n 0, []), (1445, .iload_n 3, []), (1446, .iconst 1, []), (1447, .iadd, []), (1448, .iaload, []), (1449, .aload_n 0, []), (1450, .iload_n 3, []), (1451, .iconst 2, []), (1452, .iadd, []), (1453, .iaload, []), (1454, .aload_n 0, []), (1455, .iload_n 3, []), (1456, .iconst 3, []), (1457, .iadd, []), (1458, .iaload, []), (1459, .aload_n 0, []), (1460, .iload_n 3, []), (1461, .iconst 4, []), (1462, .iadd, []), (1463, .iaload, []), (1464, .aload_n 0, []), (1465, .iload_n 3, []), (1466, .iconst 5, []), (1467, .iadd, []), (1468, .iaload, []), (1469, .invokevirtual 181, [0, 86, 5, 6, 855, 858, 856, 857, 97]), (1472, .aload_n 2, []), (1473, .aload_n 0, []), (1474, .iload_n 3, []), (1475, .iconst 1, []), (1476, .iadd, []), (1477, .iaload, []), (1478, .aload_n 0, []), (1479, .iload_n 3, []), (1480, .iconst 2, []), (1481, .iadd, []), (1482, .iaload, []), (1483, .aload_n 0, []), (1484, .iload_n 3, []), (1485, .iconst 3, []), (1486, .iadd, []), (1487, .iaload, []), (1488, .aload_n 0, []), (1489, .iload_n 3, []), (1490, .iconst 4, []), (1491, .iadd, []), (1492, .iaload, []), (1493, .aload_n 0, []), (1494, .iload_n 3, []), (1495, .iconst 5, []), (1496, .iadd, []), (1497, .iaload, []), (1498, .invokevirtual 185, [0, 216, 5, 7, 1531, 1534, 1532, 1533, 104]), (1501, .if_icmp .eq 5, [1056]), (1504, .iconst 0, []), (1505, .ireturn, [1]), (1506, .iinc 3 7, []), (1509, .goto (-1491), [10]), (1512, .iconst 1, []), (1513, .ireturn, [1])]
def inf_L_law : am_I := (yL_law, cL_law, 4, (some .boolean), RL, ta_L_law)
def am_ms : List am_I := [inf_X0_init, inf_X0_begin, inf_X0_become, inf_X0_change, inf_X0_bottom, inf_X0_begins, inf_X0_heights, inf_X0_span, inf_X0_holds, inf_X0_strips, inf_X0_rent, inf_X0_live, inf_X0_liveADay, inf_X1_init, inf_X1_clear, inf_X1_put, inf_X1_price, inf_X1_testOf, inf_X1_passes, inf_X1_trait, inf_X2_init, inf_X2_put, inf_X2_parse, inf_X2_clause, inf_X2_change, inf_X2_gain, inf_X2_top, inf_X2_either, inf_X2_factor, inf_X2_test, inf_X2_isLetter, inf_X2_next, inf_X2_skip, inf_X2_skipWord, inf_X2_number, inf_X3_init, inf_X3_put, inf_X3_become, inf_X4_init, inf_X4_birdAt, inf_X4_outBits, inf_X4_become, inf_X5_init, inf_X5_begin, inf_X5_cut, inf_X5_hasPart, inf_X6_init, inf_X6_bird, inf_X6_of, inf_X6_set, inf_X6_evict, inf_X6_row, inf_X6_feed, inf_X6_estuary, inf_X6_told, inf_X6_held, inf_X6_free, inf_X6_clash, inf_X6_worst, inf_X6_pass, inf_X6_on, inf_X6_empty, inf_X6_lower, inf_X6_sooner, inf_X6_let, inf_X6_whoEvict, inf_X6_ways, inf_X6_outs, inf_X6_see, inf_X6_can, inf_X6_odds, inf_X6_mean, inf_X6_lease, inf_X6_leased, inf_X6_book, inf_X6_looked, inf_X6_judge, inf_X6_image, inf_X6_undo, inf_X6_act, inf_X6_trace, inf_X6_taken, inf_X6_count, inf_X6_tape, inf_X6_item, inf_X6_read, inf_X6_shift, inf_X6_within, inf_X6_estuaryNow, inf_X6_layAir, inf_X6_layBird, inf_X6_freeAt, inf_X6_isFree, inf_X6_freeStrips, inf_X6_crowded, inf_X6_rentOfAll, inf_X6_clashOf, inf_X6_sharedStrips, inf_X6_findFoes, inf_X6_findRents, inf_X6_isPeaceful, inf_X6_rentOfSet, inf_X6_goAnHour, inf_X6_seenHeldBy, inf_X6_lastSeenDays, inf_X6_seenAsTold, inf_X6_partOfFraction, inf_X6_isUnder, inf_X6_run, inf_X6_kindAbove, inf_X6_note, inf_X7_init, inf_X7_in, inf_X7_has, inf_X7_ones, inf_X7_isBird, inf_X7_isLow, inf_X7_isHour, inf_X7_isPurse, inf_X7_isDays, inf_X7_bird, inf_X7_isGood, inf_X7_partOf, inf_X7_set, inf_X7_evict, inf_X7_row, inf_X7_feed, inf_X7_next, inf_X7_takes, inf_X7_takesWord, inf_X7_isDigit, inf_X7_takesNumber, inf_X7_emits, inf_X7_whole, inf_X7_settle, inf_X7_place, inf_X7_takesTest, inf_X7_takesE, inf_X7_takesHead, inf_X7_takesClause, inf_X7_goesText, inf_X7_estuary, inf_X7_begin, inf_X7_behind, inf_X7_lastOf, inf_X7_top, inf_X7_factOf, inf_X7_holds, inf_X7_price, inf_X7_bottom, inf_X7_begins, inf_X7_heights, inf_X7_holdsStrip, inf_X7_strips, inf_X7_rent, inf_X7_of, inf_X7_heldBy, inf_X7_freeAt, inf_X7_allFree, inf_X7_crowded, inf_X7_allRent, inf_X7_told, inf_X7_isHeight, inf_X7_held, inf_X7_free, inf_X7_clashOf, inf_X7_clash, inf_X7_worst, inf_X7_goDay, inf_X7_goDays, inf_X7_pass, inf_X7_save, inf_X7_putBack, inf_X7_on, inf_X7_empty, inf_X7_shared, inf_X7_lower, inf_X7_sooner, inf_X7_layFoes, inf_X7_isPeaceful, inf_X7_let, inf_X7_whoEvict, inf_X7_layWays, inf_X7_ways, inf_X7_outs, inf_X7_see, inf_X7_isSeen, inf_X7_can, inf_X7_divisor, inf_X7_lowest, inf_X7_odds, inf_X7_mean, inf_X7_lease, inf_X7_leased, inf_X7_book, inf_X7_looked, inf_X7_judge, inf_X7_image, inf_X7_undo, inf_X7_body, inf_X7_birdFlies, inf_X7_fliesAct, inf_X7_birdSings, inf_X7_singerSings, inf_X7_singsAct, inf_X7_birdTells, inf_X7_tellsAct, inf_X7_act, inf_X7_trace, inf_X7_taken, inf_X7_count, inf_X7_isTape, inf_X7_tape, inf_X7_narrow, inf_X7_item, inf_X7_read, inf_X7_shift, inf_J6_bitCount_0f7a4, inf_J9_floorMod_7cf53, inf_J9_max_7cf53, inf_J9_min_7cf53]
def am_P (k : Nat) : Option am_I := am_ms[k]?
end
section
def am_all (P : Nat → Option am_I) (inf : am_I) : Bool := (List.range inf.2.2.2.2.2.length).all fun i => am_chk P inf i
theorem am_allE {P : Nat → Option am_I} {inf : am_I} (h : am_all P inf = true) : ∀ i, i < inf.2.2.2.2.2.length → am_chk P inf i = true := fun i hi => List.all_eq_true.mp h i (List.mem_range.mpr hi)
set_option maxRecDepth 100000 in
theorem ok_X0_init : am_okM am_P inf_X0_init := ⟨by decide +kernel, by decide +kernel, by decide +kernel, am_allE (by decide +kernel)⟩
set_option maxRecDepth 100000 in
theorem ok_X0_begin : am_okM am_P inf_X0_begin := ⟨by decide +kernel, by decide +kernel, by decide +kernel, am_allE (by decide +kernel)⟩
set_option maxRecDepth 100000 in
theorem ok_X0_become : am_okM am_P inf_X0_become := ⟨by decide +kernel, by decide +kernel, by decide +kernel, am_allE (by decide +kernel)⟩
set_option maxRecDepth 100000 in
theorem ok_X0_change : am_okM am_P inf_X0_change := ⟨by decide +kernel, by decide +kernel, by decide +kernel, am_allE (by decide +kernel)⟩
set_option maxRecDepth 100000 in
theorem ok_X0_bottom : am_okM am_P inf_X0_bottom := ⟨by decide +kernel, by decide +kernel, by decide +kernel, am_allE (by decide +kernel)⟩
set_option maxRecDepth 100000 in
theorem ok_X0_begins : am_okM am_P inf_X0_begins := ⟨by decide +kernel, by decide +kernel, by decide +kernel, am_allE (by decide +kernel)⟩
set_option maxRecDepth 100000 in
theorem ok_X0_heights : am_okM am_P inf_X0_heights := ⟨by decide +kernel, by decide +kernel, by decide +kernel, am_allE (by decide +kernel)⟩
set_option maxRecDepth 100000 in
theorem ok_X0_span : am_okM am_P inf_X0_span := ⟨by decide +kernel, by decide +kernel, by decide +kernel, am_allE (by decide +kernel)⟩
set_option maxRecDepth 100000 in
theorem ok_X0_holds : am_okM am_P inf_X0_holds := ⟨by decide +kernel, by decide +kernel, by decide +kernel, am_allE (by decide +kernel)⟩
set_option maxRecDepth 100000 in
theorem ok_X0_strips : am_okM am_P inf_X0_strips := ⟨by decide +kernel, by decide +kernel, by decide +kernel, am_allE (by decide +kernel)⟩
set_option maxRecDepth 100000 in
theorem ok_X0_rent : am_okM am_P inf_X0_rent := ⟨by decide +kernel, by decide +kernel, by decide +kernel, am_allE (by decide +kernel)⟩
set_option maxRecDepth 100000 in
theorem ok_X0_live : am_okM am_P inf_X0_live := ⟨by decide +kernel, by decide +kernel, by decide +kernel, am_allE (by decide +kernel)⟩
set_option maxRecDepth 100000 in
theorem ok_X0_liveADay : am_okM am_P inf_X0_liveADay := ⟨by decide +kernel, by decide +kernel, by decide +kernel, am_allE (by decide +kernel)⟩
set_option maxRecDepth 100000 in
theorem ok_X1_init : am_okM am_P inf_X1_init := ⟨by decide +kernel, by decide +kernel, by decide +kernel, am_allE (by decide +kernel)⟩
set_option maxRecDepth 100000 in
theorem ok_X1_clear : am_okM am_P inf_X1_clear := ⟨by decide +kernel, by decide +kernel, by decide +kernel, am_allE (by decide +kernel)⟩
set_option maxRecDepth 100000 in
theorem ok_X1_put : am_okM am_P inf_X1_put := ⟨by decide +kernel, by decide +kernel, by decide +kernel, am_allE (by decide +kernel)⟩
set_option maxRecDepth 100000 in
theorem ok_X1_price : am_okM am_P inf_X1_price := ⟨by decide +kernel, by decide +kernel, by decide +kernel, am_allE (by decide +kernel)⟩
set_option maxRecDepth 100000 in
theorem ok_X1_testOf : am_okM am_P inf_X1_testOf := ⟨by decide +kernel, by decide +kernel, by decide +kernel, am_allE (by decide +kernel)⟩
set_option maxRecDepth 100000 in
theorem ok_X1_passes : am_okM am_P inf_X1_passes := ⟨by decide +kernel, by decide +kernel, by decide +kernel, am_allE (by decide +kernel)⟩
set_option maxRecDepth 100000 in
theorem ok_X1_trait : am_okM am_P inf_X1_trait := ⟨by decide +kernel, by decide +kernel, by decide +kernel, am_allE (by decide +kernel)⟩
set_option maxRecDepth 100000 in
theorem ok_X2_init : am_okM am_P inf_X2_init := ⟨by decide +kernel, by decide +kernel, by decide +kernel, am_allE (by decide +kernel)⟩
set_option maxRecDepth 100000 in
theorem ok_X2_put : am_okM am_P inf_X2_put := ⟨by decide +kernel, by decide +kernel, by decide +kernel, am_allE (by decide +kernel)⟩
set_option maxRecDepth 100000 in
theorem ok_X2_parse : am_okM am_P inf_X2_parse := ⟨by decide +kernel, by decide +kernel, by decide +kernel, am_allE (by decide +kernel)⟩
set_option maxRecDepth 100000 in
theorem ok_X2_clause : am_okM am_P inf_X2_clause := ⟨by decide +kernel, by decide +kernel, by decide +kernel, am_allE (by decide +kernel)⟩
set_option maxRecDepth 100000 in
theorem ok_X2_change : am_okM am_P inf_X2_change := ⟨by decide +kernel, by decide +kernel, by decide +kernel, am_allE (by decide +kernel)⟩
set_option maxRecDepth 100000 in
theorem ok_X2_gain : am_okM am_P inf_X2_gain := ⟨by decide +kernel, by decide +kernel, by decide +kernel, am_allE (by decide +kernel)⟩
set_option maxRecDepth 100000 in
theorem ok_X2_top : am_okM am_P inf_X2_top := ⟨by decide +kernel, by decide +kernel, by decide +kernel, am_allE (by decide +kernel)⟩
set_option maxRecDepth 100000 in
theorem ok_X2_either : am_okM am_P inf_X2_either := ⟨by decide +kernel, by decide +kernel, by decide +kernel, am_allE (by decide +kernel)⟩
set_option maxRecDepth 100000 in
theorem ok_X2_factor : am_okM am_P inf_X2_factor := ⟨by decide +kernel, by decide +kernel, by decide +kernel, am_allE (by decide +kernel)⟩
set_option maxRecDepth 100000 in
theorem ok_X2_test : am_okM am_P inf_X2_test := ⟨by decide +kernel, by decide +kernel, by decide +kernel, am_allE (by decide +kernel)⟩
set_option maxRecDepth 100000 in
theorem ok_X2_isLetter : am_okM am_P inf_X2_isLetter := ⟨by decide +kernel, by decide +kernel, by decide +kernel, am_allE (by decide +kernel)⟩
set_option maxRecDepth 100000 in
theorem ok_X2_next : am_okM am_P inf_X2_next := ⟨by decide +kernel, by decide +kernel, by decide +kernel, am_allE (by decide +kernel)⟩
set_option maxRecDepth 100000 in
theorem ok_X2_skip : am_okM am_P inf_X2_skip := ⟨by decide +kernel, by decide +kernel, by decide +kernel, am_allE (by decide +kernel)⟩
set_option maxRecDepth 100000 in
theorem ok_X2_skipWord : am_okM am_P inf_X2_skipWord := ⟨by decide +kernel, by decide +kernel, by decide +kernel, am_allE (by decide +kernel)⟩
set_option maxRecDepth 100000 in
theorem ok_X2_number : am_okM am_P inf_X2_number := ⟨by decide +kernel, by decide +kernel, by decide +kernel, am_allE (by decide +kernel)⟩
set_option maxRecDepth 100000 in
theorem ok_X3_init : am_okM am_P inf_X3_init := ⟨by decide +kernel, by decide +kernel, by decide +kernel, am_allE (by decide +kernel)⟩
set_option maxRecDepth 100000 in
theorem ok_X3_put : am_okM am_P inf_X3_put := ⟨by decide +kernel, by decide +kernel, by decide +kernel, am_allE (by decide +kernel)⟩
set_option maxRecDepth 100000 in
theorem ok_X3_become : am_okM am_P inf_X3_become := ⟨by decide +kernel, by decide +kernel, by decide +kernel, am_allE (by decide +kernel)⟩
set_option maxRecDepth 100000 in
theorem ok_X4_init : am_okM am_P inf_X4_init := ⟨by decide +kernel, by decide +kernel, by decide +kernel, am_allE (by decide +kernel)⟩
set_option maxRecDepth 100000 in
theorem ok_X4_birdAt : am_okM am_P inf_X4_birdAt := ⟨by decide +kernel, by decide +kernel, by decide +kernel, am_allE (by decide +kernel)⟩
set_option maxRecDepth 100000 in
theorem ok_X4_outBits : am_okM am_P inf_X4_outBits := ⟨by decide +kernel, by decide +kernel, by decide +kernel, am_allE (by decide +kernel)⟩
set_option maxRecDepth 100000 in
theorem ok_X4_become : am_okM am_P inf_X4_become := ⟨by decide +kernel, by decide +kernel, by decide +kernel, am_allE (by decide +kernel)⟩
set_option maxRecDepth 100000 in
theorem ok_X5_init : am_okM am_P inf_X5_init := ⟨by decide +kernel, by decide +kernel, by decide +kernel, am_allE (by decide +kernel)⟩
set_option maxRecDepth 100000 in
theorem ok_X5_begin : am_okM am_P inf_X5_begin := ⟨by decide +kernel, by decide +kernel, by decide +kernel, am_allE (by decide +kernel)⟩
set_option maxRecDepth 100000 in
theorem ok_X5_cut : am_okM am_P inf_X5_cut := ⟨by decide +kernel, by decide +kernel, by decide +kernel, am_allE (by decide +kernel)⟩
set_option maxRecDepth 100000 in
theorem ok_X5_hasPart : am_okM am_P inf_X5_hasPart := ⟨by decide +kernel, by decide +kernel, by decide +kernel, am_allE (by decide +kernel)⟩
set_option maxRecDepth 100000 in
theorem ok_X6_init : am_okM am_P inf_X6_init := ⟨by decide +kernel, by decide +kernel, by decide +kernel, am_allE (by decide +kernel)⟩
set_option maxRecDepth 100000 in
theorem ok_X6_bird : am_okM am_P inf_X6_bird := ⟨by decide +kernel, by decide +kernel, by decide +kernel, am_allE (by decide +kernel)⟩
end
section
set_option maxRecDepth 100000 in
theorem ok_X6_of : am_okM am_P inf_X6_of := ⟨by decide +kernel, by decide +kernel, by decide +kernel, am_allE (by decide +kernel)⟩
set_option maxRecDepth 100000 in
theorem ok_X6_set : am_okM am_P inf_X6_set := ⟨by decide +kernel, by decide +kernel, by decide +kernel, am_allE (by decide +kernel)⟩
set_option maxRecDepth 100000 in
theorem ok_X6_evict : am_okM am_P inf_X6_evict := ⟨by decide +kernel, by decide +kernel, by decide +kernel, am_allE (by decide +kernel)⟩
set_option maxRecDepth 100000 in
theorem ok_X6_row : am_okM am_P inf_X6_row := ⟨by decide +kernel, by decide +kernel, by decide +kernel, am_allE (by decide +kernel)⟩
set_option maxRecDepth 100000 in
theorem ok_X6_feed : am_okM am_P inf_X6_feed := ⟨by decide +kernel, by decide +kernel, by decide +kernel, am_allE (by decide +kernel)⟩
set_option maxRecDepth 100000 in
theorem ok_X6_estuary : am_okM am_P inf_X6_estuary := ⟨by decide +kernel, by decide +kernel, by decide +kernel, am_allE (by decide +kernel)⟩
set_option maxRecDepth 100000 in
theorem ok_X6_told : am_okM am_P inf_X6_told := ⟨by decide +kernel, by decide +kernel, by decide +kernel, am_allE (by decide +kernel)⟩
set_option maxRecDepth 100000 in
theorem ok_X6_held : am_okM am_P inf_X6_held := ⟨by decide +kernel, by decide +kernel, by decide +kernel, am_allE (by decide +kernel)⟩
set_option maxRecDepth 100000 in
theorem ok_X6_free : am_okM am_P inf_X6_free := ⟨by decide +kernel, by decide +kernel, by decide +kernel, am_allE (by decide +kernel)⟩
set_option maxRecDepth 100000 in
theorem ok_X6_clash : am_okM am_P inf_X6_clash := ⟨by decide +kernel, by decide +kernel, by decide +kernel, am_allE (by decide +kernel)⟩
set_option maxRecDepth 100000 in
theorem ok_X6_worst : am_okM am_P inf_X6_worst := ⟨by decide +kernel, by decide +kernel, by decide +kernel, am_allE (by decide +kernel)⟩
set_option maxRecDepth 100000 in
theorem ok_X6_pass : am_okM am_P inf_X6_pass := ⟨by decide +kernel, by decide +kernel, by decide +kernel, am_allE (by decide +kernel)⟩
set_option maxRecDepth 100000 in
theorem ok_X6_on : am_okM am_P inf_X6_on := ⟨by decide +kernel, by decide +kernel, by decide +kernel, am_allE (by decide +kernel)⟩
set_option maxRecDepth 100000 in
theorem ok_X6_empty : am_okM am_P inf_X6_empty := ⟨by decide +kernel, by decide +kernel, by decide +kernel, am_allE (by decide +kernel)⟩
set_option maxRecDepth 100000 in
theorem ok_X6_lower : am_okM am_P inf_X6_lower := ⟨by decide +kernel, by decide +kernel, by decide +kernel, am_allE (by decide +kernel)⟩
set_option maxRecDepth 100000 in
theorem ok_X6_sooner : am_okM am_P inf_X6_sooner := ⟨by decide +kernel, by decide +kernel, by decide +kernel, am_allE (by decide +kernel)⟩
set_option maxRecDepth 100000 in
theorem ok_X6_let : am_okM am_P inf_X6_let := ⟨by decide +kernel, by decide +kernel, by decide +kernel, am_allE (by decide +kernel)⟩
set_option maxRecDepth 100000 in
theorem ok_X6_whoEvict : am_okM am_P inf_X6_whoEvict := ⟨by decide +kernel, by decide +kernel, by decide +kernel, am_allE (by decide +kernel)⟩
set_option maxRecDepth 100000 in
theorem ok_X6_ways : am_okM am_P inf_X6_ways := ⟨by decide +kernel, by decide +kernel, by decide +kernel, am_allE (by decide +kernel)⟩
set_option maxRecDepth 100000 in
theorem ok_X6_outs : am_okM am_P inf_X6_outs := ⟨by decide +kernel, by decide +kernel, by decide +kernel, am_allE (by decide +kernel)⟩
set_option maxRecDepth 100000 in
theorem ok_X6_see : am_okM am_P inf_X6_see := ⟨by decide +kernel, by decide +kernel, by decide +kernel, am_allE (by decide +kernel)⟩
set_option maxRecDepth 100000 in
theorem ok_X6_can : am_okM am_P inf_X6_can := ⟨by decide +kernel, by decide +kernel, by decide +kernel, am_allE (by decide +kernel)⟩
set_option maxRecDepth 100000 in
theorem ok_X6_odds : am_okM am_P inf_X6_odds := ⟨by decide +kernel, by decide +kernel, by decide +kernel, am_allE (by decide +kernel)⟩
set_option maxRecDepth 100000 in
theorem ok_X6_mean : am_okM am_P inf_X6_mean := ⟨by decide +kernel, by decide +kernel, by decide +kernel, am_allE (by decide +kernel)⟩
set_option maxRecDepth 100000 in
theorem ok_X6_lease : am_okM am_P inf_X6_lease := ⟨by decide +kernel, by decide +kernel, by decide +kernel, am_allE (by decide +kernel)⟩
set_option maxRecDepth 100000 in
theorem ok_X6_leased : am_okM am_P inf_X6_leased := ⟨by decide +kernel, by decide +kernel, by decide +kernel, am_allE (by decide +kernel)⟩
set_option maxRecDepth 100000 in
theorem ok_X6_book : am_okM am_P inf_X6_book := ⟨by decide +kernel, by decide +kernel, by decide +kernel, am_allE (by decide +kernel)⟩
set_option maxRecDepth 100000 in
theorem ok_X6_looked : am_okM am_P inf_X6_looked := ⟨by decide +kernel, by decide +kernel, by decide +kernel, am_allE (by decide +kernel)⟩
set_option maxRecDepth 100000 in
theorem ok_X6_judge : am_okM am_P inf_X6_judge := ⟨by decide +kernel, by decide +kernel, by decide +kernel, am_allE (by decide +kernel)⟩
set_option maxRecDepth 100000 in
theorem ok_X6_image : am_okM am_P inf_X6_image := ⟨by decide +kernel, by decide +kernel, by decide +kernel, am_allE (by decide +kernel)⟩
set_option maxRecDepth 100000 in
theorem ok_X6_undo : am_okM am_P inf_X6_undo := ⟨by decide +kernel, by decide +kernel, by decide +kernel, am_allE (by decide +kernel)⟩
set_option maxRecDepth 100000 in
theorem ok_X6_act : am_okM am_P inf_X6_act := ⟨by decide +kernel, by decide +kernel, by decide +kernel, am_allE (by decide +kernel)⟩
set_option maxRecDepth 100000 in
theorem ok_X6_trace : am_okM am_P inf_X6_trace := ⟨by decide +kernel, by decide +kernel, by decide +kernel, am_allE (by decide +kernel)⟩
set_option maxRecDepth 100000 in
theorem ok_X6_taken : am_okM am_P inf_X6_taken := ⟨by decide +kernel, by decide +kernel, by decide +kernel, am_allE (by decide +kernel)⟩
end
section
set_option maxRecDepth 100000 in
theorem ok_X6_count : am_okM am_P inf_X6_count := ⟨by decide +kernel, by decide +kernel, by decide +kernel, am_allE (by decide +kernel)⟩
set_option maxRecDepth 100000 in
theorem ok_X6_tape : am_okM am_P inf_X6_tape := ⟨by decide +kernel, by decide +kernel, by decide +kernel, am_allE (by decide +kernel)⟩
set_option maxRecDepth 100000 in
theorem ok_X6_item : am_okM am_P inf_X6_item := ⟨by decide +kernel, by decide +kernel, by decide +kernel, am_allE (by decide +kernel)⟩
set_option maxRecDepth 100000 in
theorem ok_X6_read : am_okM am_P inf_X6_read := ⟨by decide +kernel, by decide +kernel, by decide +kernel, am_allE (by decide +kernel)⟩
set_option maxRecDepth 100000 in
theorem ok_X6_shift : am_okM am_P inf_X6_shift := ⟨by decide +kernel, by decide +kernel, by decide +kernel, am_allE (by decide +kernel)⟩
set_option maxRecDepth 100000 in
theorem ok_X6_within : am_okM am_P inf_X6_within := ⟨by decide +kernel, by decide +kernel, by decide +kernel, am_allE (by decide +kernel)⟩
set_option maxRecDepth 100000 in
theorem ok_X6_estuaryNow : am_okM am_P inf_X6_estuaryNow := ⟨by decide +kernel, by decide +kernel, by decide +kernel, am_allE (by decide +kernel)⟩
set_option maxRecDepth 100000 in
theorem ok_X6_layAir : am_okM am_P inf_X6_layAir := ⟨by decide +kernel, by decide +kernel, by decide +kernel, am_allE (by decide +kernel)⟩
set_option maxRecDepth 100000 in
theorem ok_X6_layBird : am_okM am_P inf_X6_layBird := ⟨by decide +kernel, by decide +kernel, by decide +kernel, am_allE (by decide +kernel)⟩
set_option maxRecDepth 100000 in
theorem ok_X6_freeAt : am_okM am_P inf_X6_freeAt := ⟨by decide +kernel, by decide +kernel, by decide +kernel, am_allE (by decide +kernel)⟩
set_option maxRecDepth 100000 in
theorem ok_X6_isFree : am_okM am_P inf_X6_isFree := ⟨by decide +kernel, by decide +kernel, by decide +kernel, am_allE (by decide +kernel)⟩
set_option maxRecDepth 100000 in
theorem ok_X6_freeStrips : am_okM am_P inf_X6_freeStrips := ⟨by decide +kernel, by decide +kernel, by decide +kernel, am_allE (by decide +kernel)⟩
set_option maxRecDepth 100000 in
theorem ok_X6_crowded : am_okM am_P inf_X6_crowded := ⟨by decide +kernel, by decide +kernel, by decide +kernel, am_allE (by decide +kernel)⟩
set_option maxRecDepth 100000 in
theorem ok_X6_rentOfAll : am_okM am_P inf_X6_rentOfAll := ⟨by decide +kernel, by decide +kernel, by decide +kernel, am_allE (by decide +kernel)⟩
set_option maxRecDepth 100000 in
theorem ok_X6_clashOf : am_okM am_P inf_X6_clashOf := ⟨by decide +kernel, by decide +kernel, by decide +kernel, am_allE (by decide +kernel)⟩
set_option maxRecDepth 100000 in
theorem ok_X6_sharedStrips : am_okM am_P inf_X6_sharedStrips := ⟨by decide +kernel, by decide +kernel, by decide +kernel, am_allE (by decide +kernel)⟩
set_option maxRecDepth 100000 in
theorem ok_X6_findFoes : am_okM am_P inf_X6_findFoes := ⟨by decide +kernel, by decide +kernel, by decide +kernel, am_allE (by decide +kernel)⟩
set_option maxRecDepth 100000 in
theorem ok_X6_findRents : am_okM am_P inf_X6_findRents := ⟨by decide +kernel, by decide +kernel, by decide +kernel, am_allE (by decide +kernel)⟩
set_option maxRecDepth 100000 in
theorem ok_X6_isPeaceful : am_okM am_P inf_X6_isPeaceful := ⟨by decide +kernel, by decide +kernel, by decide +kernel, am_allE (by decide +kernel)⟩
set_option maxRecDepth 100000 in
theorem ok_X6_rentOfSet : am_okM am_P inf_X6_rentOfSet := ⟨by decide +kernel, by decide +kernel, by decide +kernel, am_allE (by decide +kernel)⟩
set_option maxRecDepth 100000 in
theorem ok_X6_goAnHour : am_okM am_P inf_X6_goAnHour := ⟨by decide +kernel, by decide +kernel, by decide +kernel, am_allE (by decide +kernel)⟩
set_option maxRecDepth 100000 in
theorem ok_X6_seenHeldBy : am_okM am_P inf_X6_seenHeldBy := ⟨by decide +kernel, by decide +kernel, by decide +kernel, am_allE (by decide +kernel)⟩
set_option maxRecDepth 100000 in
theorem ok_X6_lastSeenDays : am_okM am_P inf_X6_lastSeenDays := ⟨by decide +kernel, by decide +kernel, by decide +kernel, am_allE (by decide +kernel)⟩
set_option maxRecDepth 100000 in
theorem ok_X6_seenAsTold : am_okM am_P inf_X6_seenAsTold := ⟨by decide +kernel, by decide +kernel, by decide +kernel, am_allE (by decide +kernel)⟩
set_option maxRecDepth 100000 in
theorem ok_X6_partOfFraction : am_okM am_P inf_X6_partOfFraction := ⟨by decide +kernel, by decide +kernel, by decide +kernel, am_allE (by decide +kernel)⟩
set_option maxRecDepth 100000 in
theorem ok_X6_isUnder : am_okM am_P inf_X6_isUnder := ⟨by decide +kernel, by decide +kernel, by decide +kernel, am_allE (by decide +kernel)⟩
set_option maxRecDepth 100000 in
theorem ok_X6_run : am_okM am_P inf_X6_run := ⟨by decide +kernel, by decide +kernel, by decide +kernel, am_allE (by decide +kernel)⟩
set_option maxRecDepth 100000 in
theorem ok_X6_kindAbove : am_okM am_P inf_X6_kindAbove := ⟨by decide +kernel, by decide +kernel, by decide +kernel, am_allE (by decide +kernel)⟩
set_option maxRecDepth 100000 in
theorem ok_X6_note : am_okM am_P inf_X6_note := ⟨by decide +kernel, by decide +kernel, by decide +kernel, am_allE (by decide +kernel)⟩
set_option maxRecDepth 100000 in
theorem ok_X7_init : am_okM am_P inf_X7_init := ⟨by decide +kernel, by decide +kernel, by decide +kernel, am_allE (by decide +kernel)⟩
set_option maxRecDepth 100000 in
theorem ok_X7_in : am_okM am_P inf_X7_in := ⟨by decide +kernel, by decide +kernel, by decide +kernel, am_allE (by decide +kernel)⟩
set_option maxRecDepth 100000 in
theorem ok_X7_has : am_okM am_P inf_X7_has := ⟨by decide +kernel, by decide +kernel, by decide +kernel, am_allE (by decide +kernel)⟩
set_option maxRecDepth 100000 in
theorem ok_X7_ones : am_okM am_P inf_X7_ones := ⟨by decide +kernel, by decide +kernel, by decide +kernel, am_allE (by decide +kernel)⟩
set_option maxRecDepth 100000 in
theorem ok_X7_isBird : am_okM am_P inf_X7_isBird := ⟨by decide +kernel, by decide +kernel, by decide +kernel, am_allE (by decide +kernel)⟩
set_option maxRecDepth 100000 in
theorem ok_X7_isLow : am_okM am_P inf_X7_isLow := ⟨by decide +kernel, by decide +kernel, by decide +kernel, am_allE (by decide +kernel)⟩
end
section
set_option maxRecDepth 100000 in
theorem ok_X7_isHour : am_okM am_P inf_X7_isHour := ⟨by decide +kernel, by decide +kernel, by decide +kernel, am_allE (by decide +kernel)⟩
set_option maxRecDepth 100000 in
theorem ok_X7_isPurse : am_okM am_P inf_X7_isPurse := ⟨by decide +kernel, by decide +kernel, by decide +kernel, am_allE (by decide +kernel)⟩
set_option maxRecDepth 100000 in
theorem ok_X7_isDays : am_okM am_P inf_X7_isDays := ⟨by decide +kernel, by decide +kernel, by decide +kernel, am_allE (by decide +kernel)⟩
set_option maxRecDepth 100000 in
theorem ok_X7_bird : am_okM am_P inf_X7_bird := ⟨by decide +kernel, by decide +kernel, by decide +kernel, am_allE (by decide +kernel)⟩
set_option maxRecDepth 100000 in
theorem ok_X7_isGood : am_okM am_P inf_X7_isGood := ⟨by decide +kernel, by decide +kernel, by decide +kernel, am_allE (by decide +kernel)⟩
set_option maxRecDepth 100000 in
theorem ok_X7_partOf : am_okM am_P inf_X7_partOf := ⟨by decide +kernel, by decide +kernel, by decide +kernel, am_allE (by decide +kernel)⟩
set_option maxRecDepth 100000 in
theorem ok_X7_set : am_okM am_P inf_X7_set := ⟨by decide +kernel, by decide +kernel, by decide +kernel, am_allE (by decide +kernel)⟩
set_option maxRecDepth 100000 in
theorem ok_X7_evict : am_okM am_P inf_X7_evict := ⟨by decide +kernel, by decide +kernel, by decide +kernel, am_allE (by decide +kernel)⟩
set_option maxRecDepth 100000 in
theorem ok_X7_row : am_okM am_P inf_X7_row := ⟨by decide +kernel, by decide +kernel, by decide +kernel, am_allE (by decide +kernel)⟩
set_option maxRecDepth 100000 in
theorem ok_X7_feed : am_okM am_P inf_X7_feed := ⟨by decide +kernel, by decide +kernel, by decide +kernel, am_allE (by decide +kernel)⟩
set_option maxRecDepth 100000 in
theorem ok_X7_next : am_okM am_P inf_X7_next := ⟨by decide +kernel, by decide +kernel, by decide +kernel, am_allE (by decide +kernel)⟩
set_option maxRecDepth 100000 in
theorem ok_X7_takes : am_okM am_P inf_X7_takes := ⟨by decide +kernel, by decide +kernel, by decide +kernel, am_allE (by decide +kernel)⟩
set_option maxRecDepth 100000 in
theorem ok_X7_takesWord : am_okM am_P inf_X7_takesWord := ⟨by decide +kernel, by decide +kernel, by decide +kernel, am_allE (by decide +kernel)⟩
set_option maxRecDepth 100000 in
theorem ok_X7_isDigit : am_okM am_P inf_X7_isDigit := ⟨by decide +kernel, by decide +kernel, by decide +kernel, am_allE (by decide +kernel)⟩
set_option maxRecDepth 100000 in
theorem ok_X7_takesNumber : am_okM am_P inf_X7_takesNumber := ⟨by decide +kernel, by decide +kernel, by decide +kernel, am_allE (by decide +kernel)⟩
set_option maxRecDepth 100000 in
theorem ok_X7_emits : am_okM am_P inf_X7_emits := ⟨by decide +kernel, by decide +kernel, by decide +kernel, am_allE (by decide +kernel)⟩
set_option maxRecDepth 100000 in
theorem ok_X7_whole : am_okM am_P inf_X7_whole := ⟨by decide +kernel, by decide +kernel, by decide +kernel, am_allE (by decide +kernel)⟩
set_option maxRecDepth 100000 in
theorem ok_X7_settle : am_okM am_P inf_X7_settle := ⟨by decide +kernel, by decide +kernel, by decide +kernel, am_allE (by decide +kernel)⟩
set_option maxRecDepth 100000 in
theorem ok_X7_place : am_okM am_P inf_X7_place := ⟨by decide +kernel, by decide +kernel, by decide +kernel, am_allE (by decide +kernel)⟩
set_option maxRecDepth 100000 in
theorem ok_X7_takesTest : am_okM am_P inf_X7_takesTest := ⟨by decide +kernel, by decide +kernel, by decide +kernel, am_allE (by decide +kernel)⟩
set_option maxRecDepth 100000 in
theorem ok_X7_takesE : am_okM am_P inf_X7_takesE := ⟨by decide +kernel, by decide +kernel, by decide +kernel, am_allE (by decide +kernel)⟩
set_option maxRecDepth 100000 in
theorem ok_X7_takesHead : am_okM am_P inf_X7_takesHead := ⟨by decide +kernel, by decide +kernel, by decide +kernel, am_allE (by decide +kernel)⟩
set_option maxRecDepth 100000 in
theorem ok_X7_takesClause : am_okM am_P inf_X7_takesClause := ⟨by decide +kernel, by decide +kernel, by decide +kernel, am_allE (by decide +kernel)⟩
set_option maxRecDepth 100000 in
theorem ok_X7_goesText : am_okM am_P inf_X7_goesText := ⟨by decide +kernel, by decide +kernel, by decide +kernel, am_allE (by decide +kernel)⟩
set_option maxRecDepth 100000 in
theorem ok_X7_estuary : am_okM am_P inf_X7_estuary := ⟨by decide +kernel, by decide +kernel, by decide +kernel, am_allE (by decide +kernel)⟩
set_option maxRecDepth 100000 in
theorem ok_X7_begin : am_okM am_P inf_X7_begin := ⟨by decide +kernel, by decide +kernel, by decide +kernel, am_allE (by decide +kernel)⟩
set_option maxRecDepth 100000 in
theorem ok_X7_behind : am_okM am_P inf_X7_behind := ⟨by decide +kernel, by decide +kernel, by decide +kernel, am_allE (by decide +kernel)⟩
set_option maxRecDepth 100000 in
theorem ok_X7_lastOf : am_okM am_P inf_X7_lastOf := ⟨by decide +kernel, by decide +kernel, by decide +kernel, am_allE (by decide +kernel)⟩
set_option maxRecDepth 100000 in
theorem ok_X7_top : am_okM am_P inf_X7_top := ⟨by decide +kernel, by decide +kernel, by decide +kernel, am_allE (by decide +kernel)⟩
set_option maxRecDepth 100000 in
theorem ok_X7_factOf : am_okM am_P inf_X7_factOf := ⟨by decide +kernel, by decide +kernel, by decide +kernel, am_allE (by decide +kernel)⟩
set_option maxRecDepth 100000 in
theorem ok_X7_holds : am_okM am_P inf_X7_holds := ⟨by decide +kernel, by decide +kernel, by decide +kernel, am_allE (by decide +kernel)⟩
set_option maxRecDepth 100000 in
theorem ok_X7_price : am_okM am_P inf_X7_price := ⟨by decide +kernel, by decide +kernel, by decide +kernel, am_allE (by decide +kernel)⟩
set_option maxRecDepth 100000 in
theorem ok_X7_bottom : am_okM am_P inf_X7_bottom := ⟨by decide +kernel, by decide +kernel, by decide +kernel, am_allE (by decide +kernel)⟩
set_option maxRecDepth 100000 in
theorem ok_X7_begins : am_okM am_P inf_X7_begins := ⟨by decide +kernel, by decide +kernel, by decide +kernel, am_allE (by decide +kernel)⟩
set_option maxRecDepth 100000 in
theorem ok_X7_heights : am_okM am_P inf_X7_heights := ⟨by decide +kernel, by decide +kernel, by decide +kernel, am_allE (by decide +kernel)⟩
set_option maxRecDepth 100000 in
theorem ok_X7_holdsStrip : am_okM am_P inf_X7_holdsStrip := ⟨by decide +kernel, by decide +kernel, by decide +kernel, am_allE (by decide +kernel)⟩
set_option maxRecDepth 100000 in
theorem ok_X7_strips : am_okM am_P inf_X7_strips := ⟨by decide +kernel, by decide +kernel, by decide +kernel, am_allE (by decide +kernel)⟩
set_option maxRecDepth 100000 in
theorem ok_X7_rent : am_okM am_P inf_X7_rent := ⟨by decide +kernel, by decide +kernel, by decide +kernel, am_allE (by decide +kernel)⟩
set_option maxRecDepth 100000 in
theorem ok_X7_of : am_okM am_P inf_X7_of := ⟨by decide +kernel, by decide +kernel, by decide +kernel, am_allE (by decide +kernel)⟩
set_option maxRecDepth 100000 in
theorem ok_X7_heldBy : am_okM am_P inf_X7_heldBy := ⟨by decide +kernel, by decide +kernel, by decide +kernel, am_allE (by decide +kernel)⟩
set_option maxRecDepth 100000 in
theorem ok_X7_freeAt : am_okM am_P inf_X7_freeAt := ⟨by decide +kernel, by decide +kernel, by decide +kernel, am_allE (by decide +kernel)⟩
end
section
set_option maxRecDepth 100000 in
theorem ok_X7_allFree : am_okM am_P inf_X7_allFree := ⟨by decide +kernel, by decide +kernel, by decide +kernel, am_allE (by decide +kernel)⟩
set_option maxRecDepth 100000 in
theorem ok_X7_crowded : am_okM am_P inf_X7_crowded := ⟨by decide +kernel, by decide +kernel, by decide +kernel, am_allE (by decide +kernel)⟩
set_option maxRecDepth 100000 in
theorem ok_X7_allRent : am_okM am_P inf_X7_allRent := ⟨by decide +kernel, by decide +kernel, by decide +kernel, am_allE (by decide +kernel)⟩
set_option maxRecDepth 100000 in
theorem ok_X7_told : am_okM am_P inf_X7_told := ⟨by decide +kernel, by decide +kernel, by decide +kernel, am_allE (by decide +kernel)⟩
set_option maxRecDepth 100000 in
theorem ok_X7_isHeight : am_okM am_P inf_X7_isHeight := ⟨by decide +kernel, by decide +kernel, by decide +kernel, am_allE (by decide +kernel)⟩
set_option maxRecDepth 100000 in
theorem ok_X7_held : am_okM am_P inf_X7_held := ⟨by decide +kernel, by decide +kernel, by decide +kernel, am_allE (by decide +kernel)⟩
set_option maxRecDepth 100000 in
theorem ok_X7_free : am_okM am_P inf_X7_free := ⟨by decide +kernel, by decide +kernel, by decide +kernel, am_allE (by decide +kernel)⟩
set_option maxRecDepth 100000 in
theorem ok_X7_clashOf : am_okM am_P inf_X7_clashOf := ⟨by decide +kernel, by decide +kernel, by decide +kernel, am_allE (by decide +kernel)⟩
set_option maxRecDepth 100000 in
theorem ok_X7_clash : am_okM am_P inf_X7_clash := ⟨by decide +kernel, by decide +kernel, by decide +kernel, am_allE (by decide +kernel)⟩
set_option maxRecDepth 100000 in
theorem ok_X7_worst : am_okM am_P inf_X7_worst := ⟨by decide +kernel, by decide +kernel, by decide +kernel, am_allE (by decide +kernel)⟩
set_option maxRecDepth 100000 in
theorem ok_X7_goDay : am_okM am_P inf_X7_goDay := ⟨by decide +kernel, by decide +kernel, by decide +kernel, am_allE (by decide +kernel)⟩
set_option maxRecDepth 100000 in
theorem ok_X7_goDays : am_okM am_P inf_X7_goDays := ⟨by decide +kernel, by decide +kernel, by decide +kernel, am_allE (by decide +kernel)⟩
set_option maxRecDepth 100000 in
theorem ok_X7_pass : am_okM am_P inf_X7_pass := ⟨by decide +kernel, by decide +kernel, by decide +kernel, am_allE (by decide +kernel)⟩
set_option maxRecDepth 100000 in
theorem ok_X7_save : am_okM am_P inf_X7_save := ⟨by decide +kernel, by decide +kernel, by decide +kernel, am_allE (by decide +kernel)⟩
set_option maxRecDepth 100000 in
theorem ok_X7_putBack : am_okM am_P inf_X7_putBack := ⟨by decide +kernel, by decide +kernel, by decide +kernel, am_allE (by decide +kernel)⟩
set_option maxRecDepth 100000 in
theorem ok_X7_on : am_okM am_P inf_X7_on := ⟨by decide +kernel, by decide +kernel, by decide +kernel, am_allE (by decide +kernel)⟩
set_option maxRecDepth 100000 in
theorem ok_X7_empty : am_okM am_P inf_X7_empty := ⟨by decide +kernel, by decide +kernel, by decide +kernel, am_allE (by decide +kernel)⟩
set_option maxRecDepth 100000 in
theorem ok_X7_shared : am_okM am_P inf_X7_shared := ⟨by decide +kernel, by decide +kernel, by decide +kernel, am_allE (by decide +kernel)⟩
set_option maxRecDepth 100000 in
theorem ok_X7_lower : am_okM am_P inf_X7_lower := ⟨by decide +kernel, by decide +kernel, by decide +kernel, am_allE (by decide +kernel)⟩
set_option maxRecDepth 100000 in
theorem ok_X7_sooner : am_okM am_P inf_X7_sooner := ⟨by decide +kernel, by decide +kernel, by decide +kernel, am_allE (by decide +kernel)⟩
set_option maxRecDepth 100000 in
theorem ok_X7_layFoes : am_okM am_P inf_X7_layFoes := ⟨by decide +kernel, by decide +kernel, by decide +kernel, am_allE (by decide +kernel)⟩
set_option maxRecDepth 100000 in
theorem ok_X7_isPeaceful : am_okM am_P inf_X7_isPeaceful := ⟨by decide +kernel, by decide +kernel, by decide +kernel, am_allE (by decide +kernel)⟩
set_option maxRecDepth 100000 in
theorem ok_X7_let : am_okM am_P inf_X7_let := ⟨by decide +kernel, by decide +kernel, by decide +kernel, am_allE (by decide +kernel)⟩
set_option maxRecDepth 100000 in
theorem ok_X7_whoEvict : am_okM am_P inf_X7_whoEvict := ⟨by decide +kernel, by decide +kernel, by decide +kernel, am_allE (by decide +kernel)⟩
set_option maxRecDepth 100000 in
theorem ok_X7_layWays : am_okM am_P inf_X7_layWays := ⟨by decide +kernel, by decide +kernel, by decide +kernel, am_allE (by decide +kernel)⟩
set_option maxRecDepth 100000 in
theorem ok_X7_ways : am_okM am_P inf_X7_ways := ⟨by decide +kernel, by decide +kernel, by decide +kernel, am_allE (by decide +kernel)⟩
set_option maxRecDepth 100000 in
theorem ok_X7_outs : am_okM am_P inf_X7_outs := ⟨by decide +kernel, by decide +kernel, by decide +kernel, am_allE (by decide +kernel)⟩
set_option maxRecDepth 100000 in
theorem ok_X7_see : am_okM am_P inf_X7_see := ⟨by decide +kernel, by decide +kernel, by decide +kernel, am_allE (by decide +kernel)⟩
set_option maxRecDepth 100000 in
theorem ok_X7_isSeen : am_okM am_P inf_X7_isSeen := ⟨by decide +kernel, by decide +kernel, by decide +kernel, am_allE (by decide +kernel)⟩
set_option maxRecDepth 100000 in
theorem ok_X7_can : am_okM am_P inf_X7_can := ⟨by decide +kernel, by decide +kernel, by decide +kernel, am_allE (by decide +kernel)⟩
set_option maxRecDepth 100000 in
theorem ok_X7_divisor : am_okM am_P inf_X7_divisor := ⟨by decide +kernel, by decide +kernel, by decide +kernel, am_allE (by decide +kernel)⟩
set_option maxRecDepth 100000 in
theorem ok_X7_lowest : am_okM am_P inf_X7_lowest := ⟨by decide +kernel, by decide +kernel, by decide +kernel, am_allE (by decide +kernel)⟩
set_option maxRecDepth 100000 in
theorem ok_X7_odds : am_okM am_P inf_X7_odds := ⟨by decide +kernel, by decide +kernel, by decide +kernel, am_allE (by decide +kernel)⟩
set_option maxRecDepth 100000 in
theorem ok_X7_mean : am_okM am_P inf_X7_mean := ⟨by decide +kernel, by decide +kernel, by decide +kernel, am_allE (by decide +kernel)⟩
set_option maxRecDepth 100000 in
theorem ok_X7_lease : am_okM am_P inf_X7_lease := ⟨by decide +kernel, by decide +kernel, by decide +kernel, am_allE (by decide +kernel)⟩
set_option maxRecDepth 100000 in
theorem ok_X7_leased : am_okM am_P inf_X7_leased := ⟨by decide +kernel, by decide +kernel, by decide +kernel, am_allE (by decide +kernel)⟩
set_option maxRecDepth 100000 in
theorem ok_X7_book : am_okM am_P inf_X7_book := ⟨by decide +kernel, by decide +kernel, by decide +kernel, am_allE (by decide +kernel)⟩
set_option maxRecDepth 100000 in
theorem ok_X7_looked : am_okM am_P inf_X7_looked := ⟨by decide +kernel, by decide +kernel, by decide +kernel, am_allE (by decide +kernel)⟩
set_option maxRecDepth 100000 in
theorem ok_X7_judge : am_okM am_P inf_X7_judge := ⟨by decide +kernel, by decide +kernel, by decide +kernel, am_allE (by decide +kernel)⟩
end
section
set_option maxRecDepth 100000 in
theorem ok_X7_image : am_okM am_P inf_X7_image := ⟨by decide +kernel, by decide +kernel, by decide +kernel, am_allE (by decide +kernel)⟩
set_option maxRecDepth 100000 in
theorem ok_X7_undo : am_okM am_P inf_X7_undo := ⟨by decide +kernel, by decide +kernel, by decide +kernel, am_allE (by decide +kernel)⟩
set_option maxRecDepth 100000 in
theorem ok_X7_body : am_okM am_P inf_X7_body := ⟨by decide +kernel, by decide +kernel, by decide +kernel, am_allE (by decide +kernel)⟩
set_option maxRecDepth 100000 in
theorem ok_X7_birdFlies : am_okM am_P inf_X7_birdFlies := ⟨by decide +kernel, by decide +kernel, by decide +kernel, am_allE (by decide +kernel)⟩
set_option maxRecDepth 100000 in
theorem ok_X7_fliesAct : am_okM am_P inf_X7_fliesAct := ⟨by decide +kernel, by decide +kernel, by decide +kernel, am_allE (by decide +kernel)⟩
set_option maxRecDepth 100000 in
theorem ok_X7_birdSings : am_okM am_P inf_X7_birdSings := ⟨by decide +kernel, by decide +kernel, by decide +kernel, am_allE (by decide +kernel)⟩
set_option maxRecDepth 100000 in
theorem ok_X7_singerSings : am_okM am_P inf_X7_singerSings := ⟨by decide +kernel, by decide +kernel, by decide +kernel, am_allE (by decide +kernel)⟩
set_option maxRecDepth 100000 in
theorem ok_X7_singsAct : am_okM am_P inf_X7_singsAct := ⟨by decide +kernel, by decide +kernel, by decide +kernel, am_allE (by decide +kernel)⟩
set_option maxRecDepth 100000 in
theorem ok_X7_birdTells : am_okM am_P inf_X7_birdTells := ⟨by decide +kernel, by decide +kernel, by decide +kernel, am_allE (by decide +kernel)⟩
set_option maxRecDepth 100000 in
theorem ok_X7_tellsAct : am_okM am_P inf_X7_tellsAct := ⟨by decide +kernel, by decide +kernel, by decide +kernel, am_allE (by decide +kernel)⟩
set_option maxRecDepth 100000 in
theorem ok_X7_act : am_okM am_P inf_X7_act := ⟨by decide +kernel, by decide +kernel, by decide +kernel, am_allE (by decide +kernel)⟩
set_option maxRecDepth 100000 in
theorem ok_X7_trace : am_okM am_P inf_X7_trace := ⟨by decide +kernel, by decide +kernel, by decide +kernel, am_allE (by decide +kernel)⟩
set_option maxRecDepth 100000 in
theorem ok_X7_taken : am_okM am_P inf_X7_taken := ⟨by decide +kernel, by decide +kernel, by decide +kernel, am_allE (by decide +kernel)⟩
set_option maxRecDepth 100000 in
theorem ok_X7_count : am_okM am_P inf_X7_count := ⟨by decide +kernel, by decide +kernel, by decide +kernel, am_allE (by decide +kernel)⟩
set_option maxRecDepth 100000 in
theorem ok_X7_isTape : am_okM am_P inf_X7_isTape := ⟨by decide +kernel, by decide +kernel, by decide +kernel, am_allE (by decide +kernel)⟩
set_option maxRecDepth 100000 in
theorem ok_X7_tape : am_okM am_P inf_X7_tape := ⟨by decide +kernel, by decide +kernel, by decide +kernel, am_allE (by decide +kernel)⟩
set_option maxRecDepth 100000 in
theorem ok_X7_narrow : am_okM am_P inf_X7_narrow := ⟨by decide +kernel, by decide +kernel, by decide +kernel, am_allE (by decide +kernel)⟩
set_option maxRecDepth 100000 in
theorem ok_X7_item : am_okM am_P inf_X7_item := ⟨by decide +kernel, by decide +kernel, by decide +kernel, am_allE (by decide +kernel)⟩
set_option maxRecDepth 100000 in
theorem ok_X7_read : am_okM am_P inf_X7_read := ⟨by decide +kernel, by decide +kernel, by decide +kernel, am_allE (by decide +kernel)⟩
set_option maxRecDepth 100000 in
theorem ok_X7_shift : am_okM am_P inf_X7_shift := ⟨by decide +kernel, by decide +kernel, by decide +kernel, am_allE (by decide +kernel)⟩
set_option maxRecDepth 100000 in
theorem ok_J6_bitCount_0f7a4 : am_okM am_P inf_J6_bitCount_0f7a4 := ⟨by decide +kernel, by decide +kernel, by decide +kernel, am_allE (by decide +kernel)⟩
end
section
def am_okF (P : Nat → Option am_I) (inf : am_I) : Prop := plainFor inf.1 = true ∧ inf.1.cls = inf.2.2.2.2.1 ∧ am_pc inf.2.2.2.2.2 0 = some 0 ∧ ∀ i, i < inf.2.2.2.2.2.length → am_chk P inf i = true
theorem am_okF_of {P : Nat → Option am_I} {inf : am_I} (h : am_okM P inf) : am_okF P inf := ⟨plainFor_of_name h.1, h.2⟩
set_option maxRecDepth 100000 in
theorem ok_J9_floorMod_7cf53 : am_okF am_P inf_J9_floorMod_7cf53 := ⟨by decide +kernel, by decide +kernel, by decide +kernel, am_allE (by decide +kernel)⟩
set_option maxRecDepth 100000 in
theorem ok_J9_max_7cf53 : am_okF am_P inf_J9_max_7cf53 := ⟨by decide +kernel, by decide +kernel, by decide +kernel, am_allE (by decide +kernel)⟩
set_option maxRecDepth 100000 in
theorem ok_J9_min_7cf53 : am_okF am_P inf_J9_min_7cf53 := ⟨by decide +kernel, by decide +kernel, by decide +kernel, am_allE (by decide +kernel)⟩
def am_allR (P : Nat → Option am_I) (inf : am_I) (a n : Nat) : Bool := (List.range n).all fun i => am_chk P inf (a + i)
theorem am_allRE {P : Nat → Option am_I} {inf : am_I} {a n : Nat} (h : am_allR P inf a n = true) {i : Nat} (h1 : a ≤ i) (h2 : i < a + n) : am_chk P inf i = true := by
  have := List.all_eq_true.mp h (i - a) (List.mem_range.mpr (by omega))
  rw [show a + (i - a) = i from by omega] at this
  exact this
set_option maxRecDepth 100000 in
theorem ok_L_law_0 : am_allR am_P inf_L_law 0 6 = true := by decide +kernel
set_option maxRecDepth 100000 in
theorem ok_L_law_6 : am_chk am_P inf_L_law 6 = true := by
  have e : am_chk am_P inf_L_law 6 = (decide (decode cL_law 12 = .ok (.invokespecial 12, 3)) && (!am_falls (.invokespecial 12) || decide (am_pc ta_L_law 7 = some (12 + 3))) && (decide (inf_X7_init.1.name = "<init>") && decide (inf_X7_init.2.2.2.1 = none) && am_w 865 (.methodLink RL 12 inf_X7_init.1) && am_w 867 (.code inf_X7_init.1 inf_X7_init.2.1 inf_X7_init.2.2.1 none) && am_w 866 (.instanceMethod inf_X7_init.1) && am_w 104 (.initialized inf_X7_init.1.cls) && am_chkN inf_X7_init 0)) := rfl
  rw [e]
  simp only [Bool.and_eq_true]
  refine ⟨⟨by decide +kernel, by decide +kernel⟩, ⟨⟨⟨⟨⟨by decide +kernel, by decide +kernel⟩, by decide +kernel⟩, ?_⟩, by decide +kernel⟩, by decide +kernel⟩, by decide +kernel⟩
  exact decide_eq_true (rfl : lw_tbl[867]? = some (.code inf_X7_init.1 inf_X7_init.2.1 inf_X7_init.2.2.1 none))
set_option maxRecDepth 100000 in
theorem ok_L_law_7 : am_allR am_P inf_L_law 7 53 = true := by decide +kernel
set_option maxRecDepth 100000 in
theorem ok_L_law_60 : am_allR am_P inf_L_law 60 60 = true := by decide +kernel
set_option maxRecDepth 100000 in
theorem ok_L_law_120 : am_allR am_P inf_L_law 120 60 = true := by decide +kernel
set_option maxRecDepth 100000 in
theorem ok_L_law_180 : am_allR am_P inf_L_law 180 60 = true := by decide +kernel
set_option maxRecDepth 100000 in
theorem ok_L_law_240 : am_allR am_P inf_L_law 240 60 = true := by decide +kernel
set_option maxRecDepth 100000 in
theorem ok_L_law_300 : am_allR am_P inf_L_law 300 60 = true := by decide +kernel
set_option maxRecDepth 100000 in
theorem ok_L_law_360 : am_allR am_P inf_L_law 360 60 = true := by decide +kernel
set_option maxRecDepth 100000 in
theorem ok_L_law_420 : am_allR am_P inf_L_law 420 60 = true := by decide +kernel
set_option maxRecDepth 100000 in
theorem ok_L_law_480 : am_allR am_P inf_L_law 480 60 = true := by decide +kernel
set_option maxRecDepth 100000 in
theorem ok_L_law_540 : am_allR am_P inf_L_law 540 60 = true := by decide +kernel
set_option maxRecDepth 100000 in
theorem ok_L_law_600 : am_allR am_P inf_L_law 600 60 = true := by decide +kernel
set_option maxRecDepth 100000 in
theorem ok_L_law_660 : am_allR am_P inf_L_law 660 60 = true := by decide +kernel
set_option maxRecDepth 100000 in
theorem ok_L_law_720 : am_allR am_P inf_L_law 720 44 = true := by decide +kernel
set_option maxRecDepth 100000 in
theorem ok_L_law_764 : am_chk am_P inf_L_law 764 = true := by
  have e : am_chk am_P inf_L_law 764 = (decide (decode cL_law 1150 = .ok (.invokevirtual 145, 3)) && (!am_falls (.invokevirtual 145) || decide (am_pc ta_L_law 765 = some (1150 + 3))) && (decide (7 < 8) && decide (inf_X7_image.1.cls = am_cn 7) && am_w 1459 (.methodLink RL 145 inf_X7_image.1) && am_w 1462 (.code inf_X7_image.1 inf_X7_image.2.1 inf_X7_image.2.2.1 inf_X7_image.2.2.2.1) && am_w 1460 (.instanceMethod inf_X7_image.1) && am_w 1461 (.selects (am_cn 7) inf_X7_image.1 inf_X7_image.1) && am_w 104 (.initialized inf_X7_image.1.cls) && am_chkN inf_X7_image 0)) := rfl
  rw [e]
  simp only [Bool.and_eq_true]
  refine ⟨⟨by decide +kernel, by decide +kernel⟩, ⟨⟨⟨⟨⟨⟨by decide +kernel, by decide +kernel⟩, by decide +kernel⟩, ?_⟩, by decide +kernel⟩, by decide +kernel⟩, by decide +kernel⟩, by decide +kernel⟩
  exact decide_eq_true (rfl : lw_tbl[1462]? = some (.code inf_X7_image.1 inf_X7_image.2.1 inf_X7_image.2.2.1 inf_X7_image.2.2.2.1))
set_option maxRecDepth 100000 in
theorem ok_L_law_765 : am_allR am_P inf_L_law 765 6 = true := by decide +kernel
set_option maxRecDepth 100000 in
theorem ok_L_law_771 : am_chk am_P inf_L_law 771 = true := by
  have e : am_chk am_P inf_L_law 771 = (decide (decode cL_law 1163 = .ok (.invokevirtual 149, 3)) && (!am_falls (.invokevirtual 149) || decide (am_pc ta_L_law 772 = some (1163 + 3))) && (decide (7 < 8) && decide (inf_X7_undo.1.cls = am_cn 7) && am_w 1463 (.methodLink RL 149 inf_X7_undo.1) && am_w 1466 (.code inf_X7_undo.1 inf_X7_undo.2.1 inf_X7_undo.2.2.1 inf_X7_undo.2.2.2.1) && am_w 1464 (.instanceMethod inf_X7_undo.1) && am_w 1465 (.selects (am_cn 7) inf_X7_undo.1 inf_X7_undo.1) && am_w 104 (.initialized inf_X7_undo.1.cls) && am_chkN inf_X7_undo 0)) := rfl
  rw [e]
  simp only [Bool.and_eq_true]
  refine ⟨⟨by decide +kernel, by decide +kernel⟩, ⟨⟨⟨⟨⟨⟨by decide +kernel, by decide +kernel⟩, by decide +kernel⟩, ?_⟩, by decide +kernel⟩, by decide +kernel⟩, by decide +kernel⟩, by decide +kernel⟩
  exact decide_eq_true (rfl : lw_tbl[1466]? = some (.code inf_X7_undo.1 inf_X7_undo.2.1 inf_X7_undo.2.2.1 inf_X7_undo.2.2.2.1))
set_option maxRecDepth 100000 in
theorem ok_L_law_772 : am_allR am_P inf_L_law 772 8 = true := by decide +kernel
set_option maxRecDepth 100000 in
theorem ok_L_law_780 : am_allR am_P inf_L_law 780 60 = true := by decide +kernel
set_option maxRecDepth 100000 in
theorem ok_L_law_840 : am_allR am_P inf_L_law 840 60 = true := by decide +kernel
set_option maxRecDepth 100000 in
theorem ok_L_law_900 : am_allR am_P inf_L_law 900 60 = true := by decide +kernel
set_option maxRecDepth 100000 in
theorem ok_L_law_960 : am_allR am_P inf_L_law 960 60 = true := by decide +kernel
set_option maxRecDepth 100000 in
theorem ok_L_law_1020 : am_allR am_P inf_L_law 1020 40 = true := by decide +kernel
set_option maxRecDepth 100000 in
theorem ok_L_law : am_okM am_P inf_L_law := ⟨by decide +kernel, by decide +kernel, by decide +kernel, fun i hi => by
  have hl : inf_L_law.2.2.2.2.2.length = 1060 := by decide +kernel
  rw [hl] at hi
  by_cases h0 : i < 60
  · by_cases ha : i < 6
    · exact am_allRE ok_L_law_0 (by omega) (by omega)
    · by_cases hb : i = 6
      · rw [hb]
        exact ok_L_law_6
      · exact am_allRE ok_L_law_7 (by omega) (by omega)
  by_cases h60 : i < 120
  · exact am_allRE ok_L_law_60 (by omega) (by omega)
  by_cases h120 : i < 180
  · exact am_allRE ok_L_law_120 (by omega) (by omega)
  by_cases h180 : i < 240
  · exact am_allRE ok_L_law_180 (by omega) (by omega)
  by_cases h240 : i < 300
  · exact am_allRE ok_L_law_240 (by omega) (by omega)
  by_cases h300 : i < 360
  · exact am_allRE ok_L_law_300 (by omega) (by omega)
  by_cases h360 : i < 420
  · exact am_allRE ok_L_law_360 (by omega) (by omega)
  by_cases h420 : i < 480
  · exact am_allRE ok_L_law_420 (by omega) (by omega)
  by_cases h480 : i < 540
  · exact am_allRE ok_L_law_480 (by omega) (by omega)
  by_cases h540 : i < 600
  · exact am_allRE ok_L_law_540 (by omega) (by omega)
  by_cases h600 : i < 660
  · exact am_allRE ok_L_law_600 (by omega) (by omega)
  by_cases h660 : i < 720
  · exact am_allRE ok_L_law_660 (by omega) (by omega)
  by_cases h720 : i < 780
  · by_cases ha : i < 764
    · exact am_allRE ok_L_law_720 (by omega) (by omega)
    · by_cases hb : i = 764
      · rw [hb]
        exact ok_L_law_764
      · by_cases hc : i < 771
        · exact am_allRE ok_L_law_765 (by omega) (by omega)
        · by_cases hd : i = 771
          · rw [hd]
            exact ok_L_law_771
          · exact am_allRE ok_L_law_772 (by omega) (by omega)
  by_cases h780 : i < 840
  · exact am_allRE ok_L_law_780 (by omega) (by omega)
  by_cases h840 : i < 900
  · exact am_allRE ok_L_law_840 (by omega) (by omega)
  by_cases h900 : i < 960
  · exact am_allRE ok_L_law_900 (by omega) (by omega)
  by_cases h960 : i < 1020
  · exact am_allRE ok_L_law_960 (by omega) (by omega)
  exact am_allRE ok_L_law_1020 (by omega) (by omega)⟩
end
section
def am_ms0 : List am_I := [inf_X0_init, inf_X0_begin, inf_X0_become, inf_X0_change, inf_X0_bottom, inf_X0_begins, inf_X0_heights, inf_X0_span, inf_X0_holds, inf_X0_strips, inf_X0_rent, inf_X0_live, inf_X0_liveADay, inf_X1_init, inf_X1_clear, inf_X1_put, inf_X1_price, inf_X1_testOf, inf_X1_passes, inf_X1_trait, inf_X2_init, inf_X2_put, inf_X2_parse, inf_X2_clause, inf_X2_change]
theorem am_msok0 : ∀ inf ∈ am_ms0, am_okF am_P inf := List.forall_mem_cons.mpr ⟨am_okF_of ok_X0_init, List.forall_mem_cons.mpr ⟨am_okF_of ok_X0_begin, List.forall_mem_cons.mpr ⟨am_okF_of ok_X0_become, List.forall_mem_cons.mpr ⟨am_okF_of ok_X0_change, List.forall_mem_cons.mpr ⟨am_okF_of ok_X0_bottom, List.forall_mem_cons.mpr ⟨am_okF_of ok_X0_begins, List.forall_mem_cons.mpr ⟨am_okF_of ok_X0_heights, List.forall_mem_cons.mpr ⟨am_okF_of ok_X0_span, List.forall_mem_cons.mpr ⟨am_okF_of ok_X0_holds, List.forall_mem_cons.mpr ⟨am_okF_of ok_X0_strips, List.forall_mem_cons.mpr ⟨am_okF_of ok_X0_rent, List.forall_mem_cons.mpr ⟨am_okF_of ok_X0_live, List.forall_mem_cons.mpr ⟨am_okF_of ok_X0_liveADay, List.forall_mem_cons.mpr ⟨am_okF_of ok_X1_init, List.forall_mem_cons.mpr ⟨am_okF_of ok_X1_clear, List.forall_mem_cons.mpr ⟨am_okF_of ok_X1_put, List.forall_mem_cons.mpr ⟨am_okF_of ok_X1_price, List.forall_mem_cons.mpr ⟨am_okF_of ok_X1_testOf, List.forall_mem_cons.mpr ⟨am_okF_of ok_X1_passes, List.forall_mem_cons.mpr ⟨am_okF_of ok_X1_trait, List.forall_mem_cons.mpr ⟨am_okF_of ok_X2_init, List.forall_mem_cons.mpr ⟨am_okF_of ok_X2_put, List.forall_mem_cons.mpr ⟨am_okF_of ok_X2_parse, List.forall_mem_cons.mpr ⟨am_okF_of ok_X2_clause, List.forall_mem_cons.mpr ⟨am_okF_of ok_X2_change, fun _ h => absurd h List.not_mem_nil⟩⟩⟩⟩⟩⟩⟩⟩⟩⟩⟩⟩⟩⟩⟩⟩⟩⟩⟩⟩⟩⟩⟩⟩⟩
def am_ms1 : List am_I := [inf_X2_gain, inf_X2_top, inf_X2_either, inf_X2_factor, inf_X2_test, inf_X2_isLetter, inf_X2_next, inf_X2_skip, inf_X2_skipWord, inf_X2_number, inf_X3_init, inf_X3_put, inf_X3_become, inf_X4_init, inf_X4_birdAt, inf_X4_outBits, inf_X4_become, inf_X5_init, inf_X5_begin, inf_X5_cut, inf_X5_hasPart, inf_X6_init, inf_X6_bird, inf_X6_of, inf_X6_set]
theorem am_msok1 : ∀ inf ∈ am_ms1, am_okF am_P inf := List.forall_mem_cons.mpr ⟨am_okF_of ok_X2_gain, List.forall_mem_cons.mpr ⟨am_okF_of ok_X2_top, List.forall_mem_cons.mpr ⟨am_okF_of ok_X2_either, List.forall_mem_cons.mpr ⟨am_okF_of ok_X2_factor, List.forall_mem_cons.mpr ⟨am_okF_of ok_X2_test, List.forall_mem_cons.mpr ⟨am_okF_of ok_X2_isLetter, List.forall_mem_cons.mpr ⟨am_okF_of ok_X2_next, List.forall_mem_cons.mpr ⟨am_okF_of ok_X2_skip, List.forall_mem_cons.mpr ⟨am_okF_of ok_X2_skipWord, List.forall_mem_cons.mpr ⟨am_okF_of ok_X2_number, List.forall_mem_cons.mpr ⟨am_okF_of ok_X3_init, List.forall_mem_cons.mpr ⟨am_okF_of ok_X3_put, List.forall_mem_cons.mpr ⟨am_okF_of ok_X3_become, List.forall_mem_cons.mpr ⟨am_okF_of ok_X4_init, List.forall_mem_cons.mpr ⟨am_okF_of ok_X4_birdAt, List.forall_mem_cons.mpr ⟨am_okF_of ok_X4_outBits, List.forall_mem_cons.mpr ⟨am_okF_of ok_X4_become, List.forall_mem_cons.mpr ⟨am_okF_of ok_X5_init, List.forall_mem_cons.mpr ⟨am_okF_of ok_X5_begin, List.forall_mem_cons.mpr ⟨am_okF_of ok_X5_cut, List.forall_mem_cons.mpr ⟨am_okF_of ok_X5_hasPart, List.forall_mem_cons.mpr ⟨am_okF_of ok_X6_init, List.forall_mem_cons.mpr ⟨am_okF_of ok_X6_bird, List.forall_mem_cons.mpr ⟨am_okF_of ok_X6_of, List.forall_mem_cons.mpr ⟨am_okF_of ok_X6_set, fun _ h => absurd h List.not_mem_nil⟩⟩⟩⟩⟩⟩⟩⟩⟩⟩⟩⟩⟩⟩⟩⟩⟩⟩⟩⟩⟩⟩⟩⟩⟩
def am_ms2 : List am_I := [inf_X6_evict, inf_X6_row, inf_X6_feed, inf_X6_estuary, inf_X6_told, inf_X6_held, inf_X6_free, inf_X6_clash, inf_X6_worst, inf_X6_pass, inf_X6_on, inf_X6_empty, inf_X6_lower, inf_X6_sooner, inf_X6_let, inf_X6_whoEvict, inf_X6_ways, inf_X6_outs, inf_X6_see, inf_X6_can, inf_X6_odds, inf_X6_mean, inf_X6_lease, inf_X6_leased, inf_X6_book]
theorem am_msok2 : ∀ inf ∈ am_ms2, am_okF am_P inf := List.forall_mem_cons.mpr ⟨am_okF_of ok_X6_evict, List.forall_mem_cons.mpr ⟨am_okF_of ok_X6_row, List.forall_mem_cons.mpr ⟨am_okF_of ok_X6_feed, List.forall_mem_cons.mpr ⟨am_okF_of ok_X6_estuary, List.forall_mem_cons.mpr ⟨am_okF_of ok_X6_told, List.forall_mem_cons.mpr ⟨am_okF_of ok_X6_held, List.forall_mem_cons.mpr ⟨am_okF_of ok_X6_free, List.forall_mem_cons.mpr ⟨am_okF_of ok_X6_clash, List.forall_mem_cons.mpr ⟨am_okF_of ok_X6_worst, List.forall_mem_cons.mpr ⟨am_okF_of ok_X6_pass, List.forall_mem_cons.mpr ⟨am_okF_of ok_X6_on, List.forall_mem_cons.mpr ⟨am_okF_of ok_X6_empty, List.forall_mem_cons.mpr ⟨am_okF_of ok_X6_lower, List.forall_mem_cons.mpr ⟨am_okF_of ok_X6_sooner, List.forall_mem_cons.mpr ⟨am_okF_of ok_X6_let, List.forall_mem_cons.mpr ⟨am_okF_of ok_X6_whoEvict, List.forall_mem_cons.mpr ⟨am_okF_of ok_X6_ways, List.forall_mem_cons.mpr ⟨am_okF_of ok_X6_outs, List.forall_mem_cons.mpr ⟨am_okF_of ok_X6_see, List.forall_mem_cons.mpr ⟨am_okF_of ok_X6_can, List.forall_mem_cons.mpr ⟨am_okF_of ok_X6_odds, List.forall_mem_cons.mpr ⟨am_okF_of ok_X6_mean, List.forall_mem_cons.mpr ⟨am_okF_of ok_X6_lease, List.forall_mem_cons.mpr ⟨am_okF_of ok_X6_leased, List.forall_mem_cons.mpr ⟨am_okF_of ok_X6_book, fun _ h => absurd h List.not_mem_nil⟩⟩⟩⟩⟩⟩⟩⟩⟩⟩⟩⟩⟩⟩⟩⟩⟩⟩⟩⟩⟩⟩⟩⟩⟩
def am_ms3 : List am_I := [inf_X6_looked, inf_X6_judge, inf_X6_image, inf_X6_undo, inf_X6_act, inf_X6_trace, inf_X6_taken, inf_X6_count, inf_X6_tape, inf_X6_item, inf_X6_read, inf_X6_shift, inf_X6_within, inf_X6_estuaryNow, inf_X6_layAir, inf_X6_layBird, inf_X6_freeAt, inf_X6_isFree, inf_X6_freeStrips, inf_X6_crowded, inf_X6_rentOfAll, inf_X6_clashOf, inf_X6_sharedStrips, inf_X6_findFoes, inf_X6_findRents]
theorem am_msok3 : ∀ inf ∈ am_ms3, am_okF am_P inf := List.forall_mem_cons.mpr ⟨am_okF_of ok_X6_looked, List.forall_mem_cons.mpr ⟨am_okF_of ok_X6_judge, List.forall_mem_cons.mpr ⟨am_okF_of ok_X6_image, List.forall_mem_cons.mpr ⟨am_okF_of ok_X6_undo, List.forall_mem_cons.mpr ⟨am_okF_of ok_X6_act, List.forall_mem_cons.mpr ⟨am_okF_of ok_X6_trace, List.forall_mem_cons.mpr ⟨am_okF_of ok_X6_taken, List.forall_mem_cons.mpr ⟨am_okF_of ok_X6_count, List.forall_mem_cons.mpr ⟨am_okF_of ok_X6_tape, List.forall_mem_cons.mpr ⟨am_okF_of ok_X6_item, List.forall_mem_cons.mpr ⟨am_okF_of ok_X6_read, List.forall_mem_cons.mpr ⟨am_okF_of ok_X6_shift, List.forall_mem_cons.mpr ⟨am_okF_of ok_X6_within, List.forall_mem_cons.mpr ⟨am_okF_of ok_X6_estuaryNow, List.forall_mem_cons.mpr ⟨am_okF_of ok_X6_layAir, List.forall_mem_cons.mpr ⟨am_okF_of ok_X6_layBird, List.forall_mem_cons.mpr ⟨am_okF_of ok_X6_freeAt, List.forall_mem_cons.mpr ⟨am_okF_of ok_X6_isFree, List.forall_mem_cons.mpr ⟨am_okF_of ok_X6_freeStrips, List.forall_mem_cons.mpr ⟨am_okF_of ok_X6_crowded, List.forall_mem_cons.mpr ⟨am_okF_of ok_X6_rentOfAll, List.forall_mem_cons.mpr ⟨am_okF_of ok_X6_clashOf, List.forall_mem_cons.mpr ⟨am_okF_of ok_X6_sharedStrips, List.forall_mem_cons.mpr ⟨am_okF_of ok_X6_findFoes, List.forall_mem_cons.mpr ⟨am_okF_of ok_X6_findRents, fun _ h => absurd h List.not_mem_nil⟩⟩⟩⟩⟩⟩⟩⟩⟩⟩⟩⟩⟩⟩⟩⟩⟩⟩⟩⟩⟩⟩⟩⟩⟩
def am_ms4 : List am_I := [inf_X6_isPeaceful, inf_X6_rentOfSet, inf_X6_goAnHour, inf_X6_seenHeldBy, inf_X6_lastSeenDays, inf_X6_seenAsTold, inf_X6_partOfFraction, inf_X6_isUnder, inf_X6_run, inf_X6_kindAbove, inf_X6_note, inf_X7_init, inf_X7_in, inf_X7_has, inf_X7_ones, inf_X7_isBird, inf_X7_isLow, inf_X7_isHour, inf_X7_isPurse, inf_X7_isDays, inf_X7_bird, inf_X7_isGood, inf_X7_partOf, inf_X7_set, inf_X7_evict]
theorem am_msok4 : ∀ inf ∈ am_ms4, am_okF am_P inf := List.forall_mem_cons.mpr ⟨am_okF_of ok_X6_isPeaceful, List.forall_mem_cons.mpr ⟨am_okF_of ok_X6_rentOfSet, List.forall_mem_cons.mpr ⟨am_okF_of ok_X6_goAnHour, List.forall_mem_cons.mpr ⟨am_okF_of ok_X6_seenHeldBy, List.forall_mem_cons.mpr ⟨am_okF_of ok_X6_lastSeenDays, List.forall_mem_cons.mpr ⟨am_okF_of ok_X6_seenAsTold, List.forall_mem_cons.mpr ⟨am_okF_of ok_X6_partOfFraction, List.forall_mem_cons.mpr ⟨am_okF_of ok_X6_isUnder, List.forall_mem_cons.mpr ⟨am_okF_of ok_X6_run, List.forall_mem_cons.mpr ⟨am_okF_of ok_X6_kindAbove, List.forall_mem_cons.mpr ⟨am_okF_of ok_X6_note, List.forall_mem_cons.mpr ⟨am_okF_of ok_X7_init, List.forall_mem_cons.mpr ⟨am_okF_of ok_X7_in, List.forall_mem_cons.mpr ⟨am_okF_of ok_X7_has, List.forall_mem_cons.mpr ⟨am_okF_of ok_X7_ones, List.forall_mem_cons.mpr ⟨am_okF_of ok_X7_isBird, List.forall_mem_cons.mpr ⟨am_okF_of ok_X7_isLow, List.forall_mem_cons.mpr ⟨am_okF_of ok_X7_isHour, List.forall_mem_cons.mpr ⟨am_okF_of ok_X7_isPurse, List.forall_mem_cons.mpr ⟨am_okF_of ok_X7_isDays, List.forall_mem_cons.mpr ⟨am_okF_of ok_X7_bird, List.forall_mem_cons.mpr ⟨am_okF_of ok_X7_isGood, List.forall_mem_cons.mpr ⟨am_okF_of ok_X7_partOf, List.forall_mem_cons.mpr ⟨am_okF_of ok_X7_set, List.forall_mem_cons.mpr ⟨am_okF_of ok_X7_evict, fun _ h => absurd h List.not_mem_nil⟩⟩⟩⟩⟩⟩⟩⟩⟩⟩⟩⟩⟩⟩⟩⟩⟩⟩⟩⟩⟩⟩⟩⟩⟩
def am_ms5 : List am_I := [inf_X7_row, inf_X7_feed, inf_X7_next, inf_X7_takes, inf_X7_takesWord, inf_X7_isDigit, inf_X7_takesNumber, inf_X7_emits, inf_X7_whole, inf_X7_settle, inf_X7_place, inf_X7_takesTest, inf_X7_takesE, inf_X7_takesHead, inf_X7_takesClause, inf_X7_goesText, inf_X7_estuary, inf_X7_begin, inf_X7_behind, inf_X7_lastOf, inf_X7_top, inf_X7_factOf, inf_X7_holds, inf_X7_price, inf_X7_bottom]
theorem am_msok5 : ∀ inf ∈ am_ms5, am_okF am_P inf := List.forall_mem_cons.mpr ⟨am_okF_of ok_X7_row, List.forall_mem_cons.mpr ⟨am_okF_of ok_X7_feed, List.forall_mem_cons.mpr ⟨am_okF_of ok_X7_next, List.forall_mem_cons.mpr ⟨am_okF_of ok_X7_takes, List.forall_mem_cons.mpr ⟨am_okF_of ok_X7_takesWord, List.forall_mem_cons.mpr ⟨am_okF_of ok_X7_isDigit, List.forall_mem_cons.mpr ⟨am_okF_of ok_X7_takesNumber, List.forall_mem_cons.mpr ⟨am_okF_of ok_X7_emits, List.forall_mem_cons.mpr ⟨am_okF_of ok_X7_whole, List.forall_mem_cons.mpr ⟨am_okF_of ok_X7_settle, List.forall_mem_cons.mpr ⟨am_okF_of ok_X7_place, List.forall_mem_cons.mpr ⟨am_okF_of ok_X7_takesTest, List.forall_mem_cons.mpr ⟨am_okF_of ok_X7_takesE, List.forall_mem_cons.mpr ⟨am_okF_of ok_X7_takesHead, List.forall_mem_cons.mpr ⟨am_okF_of ok_X7_takesClause, List.forall_mem_cons.mpr ⟨am_okF_of ok_X7_goesText, List.forall_mem_cons.mpr ⟨am_okF_of ok_X7_estuary, List.forall_mem_cons.mpr ⟨am_okF_of ok_X7_begin, List.forall_mem_cons.mpr ⟨am_okF_of ok_X7_behind, List.forall_mem_cons.mpr ⟨am_okF_of ok_X7_lastOf, List.forall_mem_cons.mpr ⟨am_okF_of ok_X7_top, List.forall_mem_cons.mpr ⟨am_okF_of ok_X7_factOf, List.forall_mem_cons.mpr ⟨am_okF_of ok_X7_holds, List.forall_mem_cons.mpr ⟨am_okF_of ok_X7_price, List.forall_mem_cons.mpr ⟨am_okF_of ok_X7_bottom, fun _ h => absurd h List.not_mem_nil⟩⟩⟩⟩⟩⟩⟩⟩⟩⟩⟩⟩⟩⟩⟩⟩⟩⟩⟩⟩⟩⟩⟩⟩⟩
def am_ms6 : List am_I := [inf_X7_begins, inf_X7_heights, inf_X7_holdsStrip, inf_X7_strips, inf_X7_rent, inf_X7_of, inf_X7_heldBy, inf_X7_freeAt, inf_X7_allFree, inf_X7_crowded, inf_X7_allRent, inf_X7_told, inf_X7_isHeight, inf_X7_held, inf_X7_free, inf_X7_clashOf, inf_X7_clash, inf_X7_worst, inf_X7_goDay, inf_X7_goDays, inf_X7_pass, inf_X7_save, inf_X7_putBack, inf_X7_on, inf_X7_empty]
theorem am_msok6 : ∀ inf ∈ am_ms6, am_okF am_P inf := List.forall_mem_cons.mpr ⟨am_okF_of ok_X7_begins, List.forall_mem_cons.mpr ⟨am_okF_of ok_X7_heights, List.forall_mem_cons.mpr ⟨am_okF_of ok_X7_holdsStrip, List.forall_mem_cons.mpr ⟨am_okF_of ok_X7_strips, List.forall_mem_cons.mpr ⟨am_okF_of ok_X7_rent, List.forall_mem_cons.mpr ⟨am_okF_of ok_X7_of, List.forall_mem_cons.mpr ⟨am_okF_of ok_X7_heldBy, List.forall_mem_cons.mpr ⟨am_okF_of ok_X7_freeAt, List.forall_mem_cons.mpr ⟨am_okF_of ok_X7_allFree, List.forall_mem_cons.mpr ⟨am_okF_of ok_X7_crowded, List.forall_mem_cons.mpr ⟨am_okF_of ok_X7_allRent, List.forall_mem_cons.mpr ⟨am_okF_of ok_X7_told, List.forall_mem_cons.mpr ⟨am_okF_of ok_X7_isHeight, List.forall_mem_cons.mpr ⟨am_okF_of ok_X7_held, List.forall_mem_cons.mpr ⟨am_okF_of ok_X7_free, List.forall_mem_cons.mpr ⟨am_okF_of ok_X7_clashOf, List.forall_mem_cons.mpr ⟨am_okF_of ok_X7_clash, List.forall_mem_cons.mpr ⟨am_okF_of ok_X7_worst, List.forall_mem_cons.mpr ⟨am_okF_of ok_X7_goDay, List.forall_mem_cons.mpr ⟨am_okF_of ok_X7_goDays, List.forall_mem_cons.mpr ⟨am_okF_of ok_X7_pass, List.forall_mem_cons.mpr ⟨am_okF_of ok_X7_save, List.forall_mem_cons.mpr ⟨am_okF_of ok_X7_putBack, List.forall_mem_cons.mpr ⟨am_okF_of ok_X7_on, List.forall_mem_cons.mpr ⟨am_okF_of ok_X7_empty, fun _ h => absurd h List.not_mem_nil⟩⟩⟩⟩⟩⟩⟩⟩⟩⟩⟩⟩⟩⟩⟩⟩⟩⟩⟩⟩⟩⟩⟩⟩⟩
def am_ms7 : List am_I := [inf_X7_shared, inf_X7_lower, inf_X7_sooner, inf_X7_layFoes, inf_X7_isPeaceful, inf_X7_let, inf_X7_whoEvict, inf_X7_layWays, inf_X7_ways, inf_X7_outs, inf_X7_see, inf_X7_isSeen, inf_X7_can, inf_X7_divisor, inf_X7_lowest, inf_X7_odds, inf_X7_mean, inf_X7_lease, inf_X7_leased, inf_X7_book, inf_X7_looked, inf_X7_judge, inf_X7_image, inf_X7_undo, inf_X7_body]
theorem am_msok7 : ∀ inf ∈ am_ms7, am_okF am_P inf := List.forall_mem_cons.mpr ⟨am_okF_of ok_X7_shared, List.forall_mem_cons.mpr ⟨am_okF_of ok_X7_lower, List.forall_mem_cons.mpr ⟨am_okF_of ok_X7_sooner, List.forall_mem_cons.mpr ⟨am_okF_of ok_X7_layFoes, List.forall_mem_cons.mpr ⟨am_okF_of ok_X7_isPeaceful, List.forall_mem_cons.mpr ⟨am_okF_of ok_X7_let, List.forall_mem_cons.mpr ⟨am_okF_of ok_X7_whoEvict, List.forall_mem_cons.mpr ⟨am_okF_of ok_X7_layWays, List.forall_mem_cons.mpr ⟨am_okF_of ok_X7_ways, List.forall_mem_cons.mpr ⟨am_okF_of ok_X7_outs, List.forall_mem_cons.mpr ⟨am_okF_of ok_X7_see, List.forall_mem_cons.mpr ⟨am_okF_of ok_X7_isSeen, List.forall_mem_cons.mpr ⟨am_okF_of ok_X7_can, List.forall_mem_cons.mpr ⟨am_okF_of ok_X7_divisor, List.forall_mem_cons.mpr ⟨am_okF_of ok_X7_lowest, List.forall_mem_cons.mpr ⟨am_okF_of ok_X7_odds, List.forall_mem_cons.mpr ⟨am_okF_of ok_X7_mean, List.forall_mem_cons.mpr ⟨am_okF_of ok_X7_lease, List.forall_mem_cons.mpr ⟨am_okF_of ok_X7_leased, List.forall_mem_cons.mpr ⟨am_okF_of ok_X7_book, List.forall_mem_cons.mpr ⟨am_okF_of ok_X7_looked, List.forall_mem_cons.mpr ⟨am_okF_of ok_X7_judge, List.forall_mem_cons.mpr ⟨am_okF_of ok_X7_image, List.forall_mem_cons.mpr ⟨am_okF_of ok_X7_undo, List.forall_mem_cons.mpr ⟨am_okF_of ok_X7_body, fun _ h => absurd h List.not_mem_nil⟩⟩⟩⟩⟩⟩⟩⟩⟩⟩⟩⟩⟩⟩⟩⟩⟩⟩⟩⟩⟩⟩⟩⟩⟩
def am_ms8 : List am_I := [inf_X7_birdFlies, inf_X7_fliesAct, inf_X7_birdSings, inf_X7_singerSings, inf_X7_singsAct, inf_X7_birdTells, inf_X7_tellsAct, inf_X7_act, inf_X7_trace, inf_X7_taken, inf_X7_count, inf_X7_isTape, inf_X7_tape, inf_X7_narrow, inf_X7_item, inf_X7_read, inf_X7_shift, inf_J6_bitCount_0f7a4, inf_J9_floorMod_7cf53, inf_J9_max_7cf53, inf_J9_min_7cf53]
theorem am_msok8 : ∀ inf ∈ am_ms8, am_okF am_P inf := List.forall_mem_cons.mpr ⟨am_okF_of ok_X7_birdFlies, List.forall_mem_cons.mpr ⟨am_okF_of ok_X7_fliesAct, List.forall_mem_cons.mpr ⟨am_okF_of ok_X7_birdSings, List.forall_mem_cons.mpr ⟨am_okF_of ok_X7_singerSings, List.forall_mem_cons.mpr ⟨am_okF_of ok_X7_singsAct, List.forall_mem_cons.mpr ⟨am_okF_of ok_X7_birdTells, List.forall_mem_cons.mpr ⟨am_okF_of ok_X7_tellsAct, List.forall_mem_cons.mpr ⟨am_okF_of ok_X7_act, List.forall_mem_cons.mpr ⟨am_okF_of ok_X7_trace, List.forall_mem_cons.mpr ⟨am_okF_of ok_X7_taken, List.forall_mem_cons.mpr ⟨am_okF_of ok_X7_count, List.forall_mem_cons.mpr ⟨am_okF_of ok_X7_isTape, List.forall_mem_cons.mpr ⟨am_okF_of ok_X7_tape, List.forall_mem_cons.mpr ⟨am_okF_of ok_X7_narrow, List.forall_mem_cons.mpr ⟨am_okF_of ok_X7_item, List.forall_mem_cons.mpr ⟨am_okF_of ok_X7_read, List.forall_mem_cons.mpr ⟨am_okF_of ok_X7_shift, List.forall_mem_cons.mpr ⟨am_okF_of ok_J6_bitCount_0f7a4, List.forall_mem_cons.mpr ⟨ok_J9_floorMod_7cf53, List.forall_mem_cons.mpr ⟨ok_J9_max_7cf53, List.forall_mem_cons.mpr ⟨ok_J9_min_7cf53, fun _ h => absurd h List.not_mem_nil⟩⟩⟩⟩⟩⟩⟩⟩⟩⟩⟩⟩⟩⟩⟩⟩⟩⟩⟩⟩⟩
set_option maxRecDepth 100000 in
theorem am_msapp : am_ms = am_ms0 ++ (am_ms1 ++ (am_ms2 ++ (am_ms3 ++ (am_ms4 ++ (am_ms5 ++ (am_ms6 ++ (am_ms7 ++ (am_ms8)))))))) := rfl
theorem am_okAll : ∀ mi inf, am_P mi = some inf → am_okF am_P inf := by
  intro mi inf h
  have hm : inf ∈ am_ms := List.mem_of_getElem? h
  rw [am_msapp] at hm
  simp only [List.mem_append] at hm
  rcases hm with h | h | h | h | h | h | h | h | h
  · exact am_msok0 inf h
  · exact am_msok1 inf h
  · exact am_msok2 inf h
  · exact am_msok3 inf h
  · exact am_msok4 inf h
  · exact am_msok5 inf h
  · exact am_msok6 inf h
  · exact am_msok7 inf h
  · exact am_msok8 inf h
end
section
theorem am_lays0 : ∀ k, k < 10 → u_lay RX0 TX0 k ∈ lw_tbl := by decide +kernel
theorem am_lays1 : ∀ k, k < 4 → u_lay RX1 TX1 k ∈ lw_tbl := by decide +kernel
theorem am_lays2 : ∀ k, k < 3 → u_lay RX2 TX2 k ∈ lw_tbl := by decide +kernel
theorem am_lays3 : ∀ k, k < 5 → u_lay RX3 TX3 k ∈ lw_tbl := by decide +kernel
theorem am_lays4 : ∀ k, k < 7 → u_lay RX4 TX4 k ∈ lw_tbl := by decide +kernel
theorem am_lays5 : ∀ k, k < 3 → u_lay RX5 TX5 k ∈ lw_tbl := by decide +kernel
theorem am_lays6 : ∀ k, k < 17 → u_lay RX6 TX6 k ∈ lw_tbl := by decide +kernel
theorem am_lays7 : ∀ k, k < 81 → u_lay RX7 TX7 k ∈ lw_tbl := by decide +kernel
theorem am_8 {P : Nat → Prop} (h0 : P 0) (h1 : P 1) (h2 : P 2) (h3 : P 3) (h4 : P 4) (h5 : P 5) (h6 : P 6) (h7 : P 7) (ci : Nat) (h : ci < 8) : P ci := by
  match ci, h with
  | 0, _ => exact h0
  | 1, _ => exact h1
  | 2, _ => exact h2
  | 3, _ => exact h3
  | 4, _ => exact h4
  | 5, _ => exact h5
  | 6, _ => exact h6
  | 7, _ => exact h7
  | n + 8, h => omega
theorem am_lays (ci : Nat) (h : ci < 8) : ∀ k, k < am_fnum ci → u_lay (am_cn ci) (am_fT ci) k ∈ lw_tbl :=
  am_8 (P := fun ci => ∀ k, k < am_fnum ci → u_lay (am_cn ci) (am_fT ci) k ∈ lw_tbl) am_lays0 am_lays1 am_lays2 am_lays3 am_lays4 am_lays5 am_lays6 am_lays7 ci h
theorem am_ftyE (ci : Nat) (h : ci < 8) : ∀ k, k < am_fnum ci → parseFieldDescriptor (am_fT ci k).2.2.1 = some (am_fty ci k) :=
  am_8 (P := fun ci => ∀ k, k < am_fnum ci → parseFieldDescriptor (am_fT ci k).2.2.1 = some (am_fty ci k)) tyX0_ok tyX1_ok tyX2_ok tyX3_ok tyX4_ok tyX5_ok tyX6_ok tyX7_ok ci h
theorem am_nmE (ci : Nat) (h : ci < 8) : ∀ x, x < am_fnum ci → ∀ y, y < am_fnum ci → x ≠ y → (am_fT ci x).2.1 ≠ (am_fT ci y).2.1 :=
  am_8 (P := fun ci => ∀ x, x < am_fnum ci → ∀ y, y < am_fnum ci → x ≠ y → (am_fT ci x).2.1 ≠ (am_fT ci y).2.1) nmX0 nmX1 nmX2 nmX3 nmX4 nmX5 nmX6 nmX7 ci h
theorem am_goodLay (C : String) (T : u_T) (k : Nat) : goodWord (u_lay C T k) = true := by
  unfold u_lay
  split <;> rfl
/-! places -/
theorem am_inW {D : va_G} {ct : Nat → ClassId} {ro : Nat → Nat} {s0 : State} {L : Nat} {xs : Nat → Int32} {M : am_M} {H : Heap} (hG : am_G D ct ro s0 L xs M H) {q : Nat} (h : (am_sh M q).1 < 8) : am_R0 ≤ q ∧ q < am_nx M := by
  obtain ⟨-, -, -, -, h5, h6⟩ := hG
  constructor
  · rcases Nat.lt_or_ge q am_R0 with z | z
    · rw [(h5 q z).1] at h
      unfold am_roS at h
      split at h
      · exact absurd (show (100 : Nat) < 8 from h) (by decide)
      · split at h
        · exact absurd (show (200 : Nat) < 8 from h) (by decide)
        · exact absurd (show (100 : Nat) < 8 from h) (by decide)
    · exact z
  · rcases Nat.lt_or_ge q (am_nx M) with z | z
    · exact z
    · rw [(h6 q z).1] at h
      exact absurd h (by decide)
theorem am_obj {D : va_G} {ct : Nat → ClassId} {ro : Nat → Nat} {s0 : State} {L : Nat} {xs : Nat → Int32} {M : am_M} {H : Heap} (hG : am_G D ct ro s0 L xs M H) {q ci : Nat} (hci : ci < 8) (h : (am_sh M q).1 = ci) :
    am_R0 ≤ q ∧ q < am_nx M ∧ t_OB (am_ad s0 ro q) (D.1 ci) (am_fnum ci) (D.2 ci) H (fun k => am_rd (am_ad s0 ro) M q k (am_fty ci k)) := by
  subst h
  obtain ⟨h1, h2⟩ := am_inW hG hci
  refine ⟨h1, h2, ?_⟩
  rcases hG.2.2.2.1 q h1 h2 with z | z
  · exact z.2
  · exact absurd z.1 (by omega)
theorem am_cell_kept {D : va_G} {ct : Nat → ClassId} {ad : Nat → Nat} {M M' : am_M} {H H' : Heap} {q : Nat} (h : am_cell D ct ad M q H) (hs : am_sh M' q = am_sh M q) (hr : ∀ k ty, am_rd ad M' q k ty = am_rd ad M q k ty) (hq : H'[ad q]? = H[ad q]?) : am_cell D ct ad M' q H' := by
  unfold am_cell at h ⊢
  rw [hs]
  rcases h with ⟨h1, h2⟩ | ⟨h1, h2, h3⟩
  · exact Or.inl ⟨h1, (h2.kept hq).to (fun k _ => (hr k _).symm)⟩
  · refine Or.inr ⟨h1, h2, ?_⟩
    rw [hq, h3]
    congr 2
    funext j
    exact (hr j _).symm
theorem am_G_wr {D : va_G} {ct : Nat → ClassId} {ro : Nat → Nat} {s0 : State} {L : Nat} {xs : Nat → Int32} {M : am_M} {H H' : Heap} (hG : am_G D ct ro s0 L xs M H) {q k : Nat} {v : Value} (h1 : am_R0 ≤ q) (h2 : q < am_nx M) (hz : H'.size = H.size) (ho : ∀ x : Nat, x ≠ am_ad s0 ro q → H'[x]? = H[x]?)
    (hc : am_cell D ct (am_ad s0 ro) (am_wr M q k v) q H') : am_G D ct ro s0 L xs (am_wr M q k v) H' := by
  obtain ⟨g1, g2, g3, g4, g5, g6⟩ := hG
  refine ⟨by rw [hz, am_wr_nx]; exact g1, by rw [am_wr_nx]; exact g2, fun x hx => ?_, fun x x1 x2 => ?_, fun x hx => ?_, fun x hx => ?_⟩
  · rw [ho x (by rw [am_adW h1]; omega)]
    exact g3 x hx
  · rw [am_wr_nx] at x2
    by_cases e : x = q
    · subst e
      exact hc
    · refine am_cell_kept (g4 x x1 x2) (am_wr_sh ..) (fun j ty => am_rd_wr _ _ _ _ _ (fun z => e z.1) _) (ho _ fun z => e (am_adI x1 h1 z))
  · have e : x ≠ q := by omega
    rw [am_wr_sh]
    exact ⟨(g5 x hx).1, fun j => by rw [am_wr_1 _ _ _ _ (fun z => e z.1)]; exact (g5 x hx).2 j⟩
  · rw [am_wr_nx] at hx
    have e : x ≠ q := by omega
    rw [am_wr_sh]
    exact ⟨(g6 x hx).1, fun j => by rw [am_wr_1 _ _ _ _ (fun z => e z.1), am_wr_2 _ _ _ _ (fun z => e z.1), am_wr_3 _ _ _ _ (fun z => e z.1)]; exact (g6 x hx).2 j⟩
theorem am_G_new {D : va_G} {ct : Nat → ClassId} {ro : Nat → Nat} {s0 : State} {L : Nat} {xs : Nat → Int32} {M : am_M} {H H' : Heap} (hG : am_G D ct ro s0 L xs M H) (tag n cost : Nat) (hz : H'.size = H.size + 1) (ho : ∀ x : Nat, x < H.size → H'[x]? = H[x]?)
    (hc : am_cell D ct (am_ad s0 ro) (am_new M tag n cost) (am_nx M) H') : am_G D ct ro s0 L xs (am_new M tag n cost) H' := by
  obtain ⟨g1, g2, g3, g4, g5, g6⟩ := hG
  have hs : ∀ x, x ≠ am_nx M → am_sh (am_new M tag n cost) x = am_sh M x := fun x hx => by
    show (if x = M.2.2.2.2.1 then (tag, n) else M.2.2.2.1 x) = _
    rw [if_neg (show ¬ x = M.2.2.2.2.1 from hx)]
    rfl
  refine ⟨by show H'.size + am_R0 = _ + (am_nx M + 1); omega, by show am_R0 ≤ am_nx M + 1; omega, fun x hx => ?_, fun x x1 x2 => ?_, fun x hx => ?_, fun x hx => ?_⟩
  · rw [ho x (by omega)]
    exact g3 x hx
  · have x2 : x < am_nx M + 1 := x2
    by_cases e : x = am_nx M
    · subst e
      exact hc
    · refine am_cell_kept (g4 x x1 (by omega)) (hs x e) (fun j ty => by cases ty <;> rfl) (ho _ ?_)
      rw [am_adW x1]
      omega
  · rw [hs x (by omega)]
    exact g5 x hx
  · have hx : am_nx M + 1 ≤ x := hx
    rw [hs x (by omega)]
    exact g6 x (by omega)
/-- any row, of the start or made: a cell that holds it -/
theorem am_row {D : va_G} {ct : Nat → ClassId} {ro : Nat → Nat} {b : Nat} {s0 s : State} {L : Nat} {xs : Nat → Int32} {M : am_M} {H : Heap} (C : am_C0 D ct ro b s0 L xs) (hW : s0.WarmedH s.vm) (hG : am_G D ct ro s0 L xs M H) {q t : Nat} (ht : t ≤ 6) (h : (am_sh M q).1 = 100 + t) :
    ∃ cell : Cell, H[am_ad s0 ro q]? = some cell ∧ s.isArrayOf cell (am_tys t) ∧ cell.vm ≠ .unknown ∧ (am_sh M q).2 ≤ cell.slots.size ∧ cell.slots.size.toInt32 = Int32.ofNat (am_sh M q).2 ∧ ∀ j : Nat, j < (am_sh M q).2 → cell.slots[j]? = some (am_rd (am_ad s0 ro) M q j (am_tys t)) := by
  have hal := hW.alike
  rcases Nat.lt_or_ge q am_R0 with z | z
  · obtain ⟨e1, e2⟩ := hG.2.2.2.2.1 q z
    have ht0 : t = 0 := by
      rw [e1] at h
      unfold am_roS at h
      split at h
      · have : (100 : Nat) = 100 + t := h
        omega
      · split at h
        · have : (200 : Nat) = 100 + t := h
          omega
        · have : (100 : Nat) = 100 + t := h
          omega
    subst ht0
    have hp : q < 4 ∨ q = 8 := by
      rw [e1] at h
      unfold am_roS at h
      unfold am_R0 at z
      split at h
      · exact Or.inl (by assumption)
      · split at h
        · exact absurd (show (200 : Nat) = 100 + 0 from h) (by decide)
        · exact Or.inr (by omega)
    obtain ⟨cell, q1, q2, q3, q4, q5, q6⟩ := C.2.2.2.1 q hp
    have hlt : ro q < s0.heap.size := (Array.getElem?_eq_some_iff.mp q1).1
    refine ⟨cell, by rw [am_adR z, hG.2.2.1 _ hlt]; exact q1, State.isArrayOf_alike hal q2, q3, by rw [e1]; exact q4, by rw [e1]; exact q5, fun j hj => ?_⟩
    rw [e1] at hj
    rw [q6 j hj, ← e2 j]
    rfl
  · have hn : q < am_nx M := by
      rcases Nat.lt_or_ge q (am_nx M) with y | y
      · exact y
      · have := (hG.2.2.2.2.2 q y).1
        rw [this] at h
        have : (1000 : Nat) = 100 + t := h
        omega
    rcases hG.2.2.2.1 q z hn with y | ⟨y1, y2, y3⟩
    · exact absurd y.1 (by omega)
    · have e : (am_sh M q).1 - 100 = t := by omega
      rw [e] at y3
      obtain ⟨hA, -⟩ := C.2.2.1 t ht
      refine ⟨_, y3, arrOfT_moved hal hA _ _, (fun z => by cases z), by simp [arrV_size], by simp [arrV_size], fun j hj => by rw [arrV_read _ _ hj]⟩
/-- a row that was made -/
theorem am_rowW {D : va_G} {ct : Nat → ClassId} {ro : Nat → Nat} {s0 : State} {L : Nat} {xs : Nat → Int32} {M : am_M} {H : Heap} (hG : am_G D ct ro s0 L xs M H) {q t : Nat} (h0 : am_R0 ≤ q) (ht : t ≤ 6) (h : (am_sh M q).1 = 100 + t) :
    q < am_nx M ∧ H[am_ad s0 ro q]? = some (arrV (ct t) (am_sh M q).2 (fun j => am_rd (am_ad s0 ro) M q j (am_tys t))) := by
  have hn : q < am_nx M := by
    rcases Nat.lt_or_ge q (am_nx M) with y | y
    · exact y
    · have := (hG.2.2.2.2.2 q y).1
      rw [this] at h
      have : (1000 : Nat) = 100 + t := h
      omega
  refine ⟨hn, ?_⟩
  rcases hG.2.2.2.1 q h0 hn with y | ⟨y1, y2, y3⟩
  · exact absurd y.1 (by omega)
  · have e : (am_sh M q).1 - 100 = t := by omega
    rw [e] at y3
    exact y3
theorem am_updV {ad : Nat → Nat} {M : am_M} {q k : Nat} {v : Value} {w : Value} {ty : FieldType} (h : am_rd ad (am_wr M q k v) q k ty = w) : updV (fun j => am_rd ad M q j ty) k w = fun j => am_rd ad (am_wr M q k v) q j ty := by
  funext j
  by_cases e : j = k
  · subst e
    simp [updV, h]
  · simp [updV, e, am_rd_wr ad M q k v (fun z => e z.2)]
theorem am_G_st {D : va_G} {ct : Nat → ClassId} {ro : Nat → Nat} {s0 : State} {L : Nat} {xs : Nat → Int32} {M : am_M} {H H' : Heap} (hG : am_G D ct ro s0 L xs M H) {q k t : Nat} {v w : Value} (h1 : am_R0 ≤ q) (ht : t ≤ 6) (h : (am_sh M q).1 = 100 + t) (hw : am_rd (am_ad s0 ro) (am_wr M q k v) q k (am_tys t) = w)
    (he : H'[am_ad s0 ro q]? = some ((arrV (ct t) (am_sh M q).2 (fun j => am_rd (am_ad s0 ro) M q j (am_tys t))).setSlot k w)) (hz : H'.size = H.size) (ho : ∀ x : Nat, x ≠ am_ad s0 ro q → H'[x]? = H[x]?) : am_G D ct ro s0 L xs (am_wr M q k v) H' := by
  refine am_G_wr hG h1 (am_rowW hG h1 ht h).1 hz ho (Or.inr ?_)
  rw [am_wr_sh, h]
  refine ⟨by omega, by omega, ?_⟩
  rw [he, arrV_store, show 100 + t - 100 = t by omega, am_updV hw]

section AMW
variable {p : Program} {l : Launch} {e : Env} {R : Room} {s : State} {m : MethodId} {args : Array Value} {below : List Frame} {meth : Method} {c : Code} {H : Heap} {locs : List Loc} {cells slots : Nat} {Q : State → Prop}
variable {cc : ByteArray} {pc : Nat} {arr : Array Slot} {rest : List Value} {D : va_G} {ct : Nat → ClassId} {ro : Nat → Nat} {b : Nat} {s0 : State} {L : Nat} {xs : Nat → Int32} {M : am_M} {own : String}
theorem am_layW (C : am_C0 D ct ro b s0 L xs) (hW : s0.WarmedH s.vm) {ci k : Nat} (hci : ci < 8) (hk : k < am_fnum ci) : (u_lay (am_cn ci) (am_fT ci) k).before args s = true :=
  word_at hW (good_of_word (am_goodLay _ _ _)) (C.1 _ (am_lays ci hci k hk))
theorem am_layO (C : am_C0 D ct ro b s0 L xs) (hW : s0.WarmedH s.vm) {ci k : Nat} (hci : ci < 8) (hk : k < am_fnum ci) (args : Array Value) : (Cond.lays (am_cn ci) (am_fT ci k).1 (am_fT ci k).2.1 (am_fT ci k).2.2.1).before args s = true ∨ (Cond.laysFinal (am_cn ci) (am_fT ci k).1 (am_fT ci k).2.1 (am_fT ci k).2.2.1).before args s = true := by
  have h := am_layW (args := args) C hW hci hk
  unfold u_lay at h
  split at h
  · exact Or.inr h
  · exact Or.inl h
theorem am_Wget (hx : p.tables.exec = Jvm.exec) (hb : c.code = cc) (C : am_C0 D ct ro b s0 L xs) (hW : s0.WarmedH s.vm) (hown : s.vm.findClass own = some m.cls) (hG : am_G D ct ro s0 L xs M H) {ci k w q x : Nat} (hci : ci < 8) (hk : k < am_fnum ci) (hw : am_w w (.fieldLink own x (am_fT ci k).1 (am_fT ci k).2.1 (am_fT ci k).2.2.1) = true) (hq : (am_sh M q).1 = ci) (hdg : decode cc pc = .ok (.getfield x, 3))
    (kk : W p l e R s m args below meth c H locs cells slots Q (F0 m (pc + 3) arr (am_rd (am_ad s0 ro) M q k (am_fty ci k) :: rest))) : W p l e R s m args below meth c H locs cells slots Q (F0 m pc arr (.ref (am_ad s0 ro q) :: rest)) := by
  obtain ⟨-, -, cell, q1, q2, q3, q4⟩ := am_obj hG hci hq
  obtain ⟨hS, hfc, kC, hkC, hkind⟩ := u_Kn_moved hW.alike (C.2.1 ci hci)
  obtain ⟨cf, kf, fi, f, hi, hsl⟩ := hS k hk
  refine W.getf hx hb hown (am_word C hW hw rfl args) hi (u_facts hfc hkC (am_layO C hW hci hk args) hi).1 q1 (by rw [q3]; exact fun h => by cases h) (v := am_rd (am_ad s0 ro) M q k (am_fty ci k)) ?_ rfl rfl hdg kk
  rw [hsl, q4 k hk]
theorem am_okN {ty : FieldType} {v : Value} (h : am_okv ty v = true) (ad : Nat → Nat) : narrow ty (am_cv ad v) = am_cv ad v ∧ fits ty (am_cv ad v) = true := by
  cases ty <;> cases v <;> simp_all [am_okv, am_cv, fits, narrow]
  rename_i x
  rcases h with h | h <;> subst h <;> decide
theorem am_Wput (hx : p.tables.exec = Jvm.exec) (hb : c.code = cc) (C : am_C0 D ct ro b s0 L xs) (hW : s0.WarmedH s.vm) (hown : s.vm.findClass own = some m.cls) (hG : am_G D ct ro s0 L xs M H) {ci k w q x : Nat} {v : Value} (hci : ci < 8) (hk : k < am_fnum ci) (hw : am_w w (.fieldLink own x (am_fT ci k).1 (am_fT ci k).2.1 (am_fT ci k).2.2.1) = true) (hq : (am_sh M q).1 = ci) (hv : am_okv (am_fty ci k) v = true)
    (hf : (am_fT ci k).2.2.2 = false ∨ ((am_fT ci k).2.2.2 = true ∧ meth.name = "<init>" ∧ (am_fT ci k).1 = own)) (hdg : decode cc pc = .ok (.putfield x, 3))
    (kk : ∀ (H' : Heap) (i : Nat), am_G D ct ro s0 L xs (am_wr M q k v) H' → W p l e R s m args below meth c H' (locs ++ [⟨am_ad s0 ro q, i⟩]) cells slots Q (F0 m (pc + 3) arr rest)) : W p l e R s m args below meth c H locs cells slots Q (F0 m pc arr (am_cv (am_ad s0 ro) v :: .ref (am_ad s0 ro q) :: rest)) := by
  obtain ⟨p1, p2, cell, q1, q2, q3, q4⟩ := am_obj hG hci hq
  have hKn := u_Kn_moved hW.alike (C.2.1 ci hci)
  obtain ⟨hS, hfc, kC, hkC, hkind⟩ := id hKn
  obtain ⟨cf, kf, fi, f, hi, hsl⟩ := hS k hk
  obtain ⟨hn, hfit⟩ := am_okN hv (am_ad s0 ro)
  have hd := am_ftyE ci hci k hk
  have hap : ∀ a b, a < am_fnum ci → b < am_fnum ci → a ≠ b → (D.2 ci) a ≠ (D.2 ci) b := by
    intro a b ha hb2 hne
    obtain ⟨_, _, _, fa, hia, ea⟩ := hS a ha
    obtain ⟨_, _, _, fb, hib, eb⟩ := hS b hb2
    rw [← ea, ← eb]
    refine u_apart (am_layO C hW hci ha args) (am_layO C hW hci hb2 args) hia hib ?_
    rw [(State.fieldFound?_type hia (am_ftyE ci hci a ha)).1, (State.fieldFound?_type hib (am_ftyE ci hci b hb2)).1]
    exact am_nmE ci hci a ha b hb2 hne
  have hst := (u_facts hfc hkC (am_layO C hW hci hk args) hi).1
  have fin : ∀ H' : Heap, H'[am_ad s0 ro q]? = some (cell.setSlot f.slot (am_cv (am_ad s0 ro) v)) → H'.size = H.size → (∀ x : Nat, x ≠ am_ad s0 ro q → H'[x]? = H[x]?) → am_G D ct ro s0 L xs (am_wr M q k v) H' := by
    intro H' e1 e2 e3
    refine am_G_wr hG p1 p2 e2 e3 (Or.inl ?_)
    rw [am_wr_sh, hq]
    refine ⟨hci, t_OB.to (V := updV (fun j => am_rd (am_ad s0 ro) M q j (am_fty ci j)) k (am_cv (am_ad s0 ro) v)) ⟨_, e1, q2, q3, ?_⟩ (fun j hj => ?_)⟩
    · rw [hsl]
      exact t_set q4 hap hk _
    · by_cases ej : j = k
      · subst ej
        simp [updV, am_rd_self _ _ _ _ hv]
      · simp [updV, ej, am_rd_wr _ M q k v (fun z => ej z.2)]
  have hlay := am_layW (args := args) C hW hci hk
  unfold u_lay at hlay
  rcases hf with hf | ⟨hf, hin, hdecl⟩
  · rw [if_neg (by rw [hf]; decide)] at hlay
    have h6 := u_store hfc hkC hkind hlay hi hd hn hfit
    exact W.putK hx hb (f := f) ⟨hown, am_word C hW hw rfl args, ⟨_, _, _, hi⟩, hst⟩ (by rw [q2]; exact h6) q1 q3 (by rw [hsl]; exact k2_hasslot (q4 k hk)) rfl rfl hdg fun H' e1 e2 e3 => kk H' _ (fin H' e1 e2 e3)
  · rw [if_pos hf] at hlay
    have hcf : m.cls = cf := by
      obtain ⟨_, _, c', _, _, _, -, -, hf', -, -, -, hown2, -⟩ := Cond.laysFinal_spec hlay
      have e1 : c' = cf := by have := hi.symm.trans hf'; simp at this; exact this.1.symm
      rw [hdecl] at hown2
      rw [← e1]; exact Option.some.inj (hown.symm.trans hown2)
    have h6 := u_fits hfc hkC hkind (Or.inr hlay) hi hd hn hfit
    exact W.putFinK hx hb hown (am_word C hW hw rfl args) hi hst hcf hin (by rw [q2]; exact h6) q1 q3 (by rw [hsl]; exact k2_hasslot (q4 k hk)) rfl rfl hdg fun H' e1 e2 e3 => kk H' _ (fin H' e1 e2 e3)
end AMW
end
section
section AMX
variable {p : Program} {l : Launch} {e : Env} {R : Room} {s : State} {m : MethodId} {args : Array Value} {below : List Frame} {meth : Method} {c : Code} {H : Heap} {locs : List Loc} {cells slots : Nat} {Q : State → Prop}
variable {cc : ByteArray} {pc : Nat} {arr : Array Slot} {rest : List Value} {D : va_G} {ct : Nat → ClassId} {ro : Nat → Nat} {b : Nat} {s0 : State} {L : Nat} {xs : Nat → Int32} {M : am_M} {own : String}
theorem am_badE {M : am_M} {q : Nat} {i : Int32} (h : am_bad M q i = false) : ¬ i < 0 ∧ i.toNatClampNeg < (am_sh M q).2 := by
  unfold am_bad at h
  rw [Bool.or_eq_false_iff, decide_eq_false_iff_not, decide_eq_false_iff_not] at h
  exact ⟨h.1, Nat.not_le.mp h.2⟩
theorem am_isrf (t : Nat) (h4 : 4 ≤ t) (h : t ≤ 6) : (am_tys t).isReference = true := by
  rcases (by omega : t = 4 ∨ t = 5 ∨ t = 6) with rfl | rfl | rfl <;> rfl
theorem am_Wald (hx : p.tables.exec = Jvm.exec) (hb : c.code = cc) (C : am_C0 D ct ro b s0 L xs) (hW : s0.WarmedH s.vm) (hG : am_G D ct ro s0 L xs M H) {q t : Nat} {i : Int32} {ins : Instr} (ht : t ≤ 6) (hq : (am_sh M q).1 = 100 + t) (hi : am_bad M q i = false)
    (hins : (t = 0 ∧ ins = .iaload) ∨ (t = 1 ∧ ins = .laload) ∨ ((t = 2 ∨ t = 3) ∧ ins = .baload) ∨ (4 ≤ t ∧ ins = .aaload)) (hdg : decode cc pc = .ok (ins, 1))
    (kk : W p l e R s m args below meth c H locs cells slots Q (F0 m (pc + 1) arr (am_rd (am_ad s0 ro) M q i.toNatClampNeg (am_tys t) :: rest))) : W p l e R s m args below meth c H locs cells slots Q (F0 m pc arr (.int i :: .ref (am_ad s0 ro q) :: rest)) := by
  obtain ⟨cell, c1, c2, c3, c4, c5, c6⟩ := am_row C hW hG ht hq
  obtain ⟨b1, b2⟩ := am_badE hi
  have hin : ¬ (i < 0 ∨ cell.slots.size ≤ i.toNatClampNeg) := by
    rintro (z | z)
    · exact b1 z
    · omega
  rcases hins with ⟨rfl, rfl⟩ | ⟨rfl, rfl⟩ | ⟨rfl | rfl, rfl⟩ | ⟨h4, rfl⟩
  · exact W.iald hx hb c1 c2 c3 hin (c6 _ b2) rfl rfl hdg kk
  · exact W.lald hx hb c1 c2 c3 hin (c6 _ b2) rfl rfl hdg kk
  · exact W.bald hx hb c1 c2 c3 hin (c6 _ b2) rfl rfl hdg kk
  · exact W.zald hx hb c1 c2 c3 hin (c6 _ b2) rfl rfl hdg kk
  · exact W.aald hx hb c1 c2 (am_isrf t h4 ht) c3 hin (c6 _ b2) rfl rfl hdg kk
theorem am_Wist (hx : p.tables.exec = Jvm.exec) (hb : c.code = cc) (C : am_C0 D ct ro b s0 L xs) (hW : s0.WarmedH s.vm) (hG : am_G D ct ro s0 L xs M H) {q t : Nat} {i x : Int32} {ins : Instr} (h0 : am_R0 ≤ q) (ht : t = 0 ∨ t = 2 ∨ t = 3) (hq : (am_sh M q).1 = 100 + t) (hi : am_bad M q i = false)
    (hins : (t = 0 ∧ ins = .iastore) ∨ ((t = 2 ∨ t = 3) ∧ ins = .bastore)) (hdg : decode cc pc = .ok (ins, 1))
    (kk : ∀ (H' : Heap) (j : Nat), am_G D ct ro s0 L xs (am_wr M q i.toNatClampNeg (.int (am_nar (100 + t) x))) H' → W p l e R s m args below meth c H' (locs ++ [⟨am_ad s0 ro q, j⟩]) cells slots Q (F0 m (pc + 1) arr rest)) : W p l e R s m args below meth c H locs cells slots Q (F0 m pc arr (.int x :: .int i :: .ref (am_ad s0 ro q) :: rest)) := by
  have ht6 : t ≤ 6 := by omega
  obtain ⟨-, c1⟩ := am_rowW hG h0 ht6 hq
  have c2 := arrOfT_moved hW.alike (C.2.2.1 t ht6).1 (am_sh M q).2 (fun j => am_rd (am_ad s0 ro) M q j (am_tys t))
  obtain ⟨b1, b2⟩ := am_badE hi
  have hin : ¬ (i < 0 ∨ (arrV (ct t) (am_sh M q).2 (fun j => am_rd (am_ad s0 ro) M q j (am_tys t))).slots.size ≤ i.toNatClampNeg) := by
    rw [arrV_size]
    rintro (z | z)
    · exact b1 z
    · omega
  rcases hins with ⟨rfl, rfl⟩ | ⟨rfl | rfl, rfl⟩
  · exact W.iast hx hb c1 c2 (fun z => by cases z) hin rfl rfl hdg fun H' e1 e2 e3 => kk H' _ (am_G_st hG h0 ht6 hq (by simp [am_tys, am_rd, am_wr, am_up, am_nar]) e1 e2 e3)
  · exact W.bast hx hb c1 c2 (fun z => by cases z) hin rfl rfl hdg fun H' e1 e2 e3 => kk H' _ (am_G_st hG h0 ht6 hq (by simp [am_tys, am_rd, am_wr, am_up, am_nar, vp_nar]; rfl) e1 e2 e3)
  · exact W.zast hx hb c1 c2 (fun z => by cases z) hin rfl rfl hdg fun H' e1 e2 e3 => kk H' _ (am_G_st hG h0 ht6 hq (by simp [am_tys, am_rd, am_wr, am_up, am_nar, vp_nar]; rfl) e1 e2 e3)
theorem am_Wlst (hx : p.tables.exec = Jvm.exec) (hb : c.code = cc) (C : am_C0 D ct ro b s0 L xs) (hW : s0.WarmedH s.vm) (hG : am_G D ct ro s0 L xs M H) {q : Nat} {i : Int32} {x : Int64} (h0 : am_R0 ≤ q) (hq : (am_sh M q).1 = 101) (hi : am_bad M q i = false) (hdg : decode cc pc = .ok (.lastore, 1))
    (kk : ∀ (H' : Heap) (j : Nat), am_G D ct ro s0 L xs (am_wr M q i.toNatClampNeg (.long x)) H' → W p l e R s m args below meth c H' (locs ++ [⟨am_ad s0 ro q, j⟩]) cells slots Q (F0 m (pc + 1) arr rest)) : W p l e R s m args below meth c H locs cells slots Q (F0 m pc arr (.long x :: .int i :: .ref (am_ad s0 ro q) :: rest)) := by
  obtain ⟨-, c1⟩ := am_rowW (t := 1) hG h0 (by decide) hq
  have c2 := arrOfT_moved hW.alike (C.2.2.1 1 (by decide)).1 (am_sh M q).2 (fun j => am_rd (am_ad s0 ro) M q j (am_tys 1))
  obtain ⟨b1, b2⟩ := am_badE hi
  have hin : ¬ (i < 0 ∨ (arrV (ct 1) (am_sh M q).2 (fun j => am_rd (am_ad s0 ro) M q j (am_tys 1))).slots.size ≤ i.toNatClampNeg) := by
    rw [arrV_size]
    rintro (z | z)
    · exact b1 z
    · omega
  exact W.last hx hb c1 c2 (fun z => by cases z) hin rfl rfl hdg fun H' e1 e2 e3 => kk H' _ (am_G_st (t := 1) hG h0 (by decide) hq (by simp [am_tys, am_rd, am_wr, am_up]) e1 e2 e3)
theorem am_assign {U : State} {C : String} {cC : ClassId} (h : ClassAt U C cC) : U.vm.assignable cC cC = true := by
  obtain ⟨-, k, hk, hkind⟩ := h
  simp [Vm.assignable, Vm.assignableAux, hk, hkind, Vm.isSubclass, Vm.isSubclassAux]
theorem am_Wast (hx : p.tables.exec = Jvm.exec) (hb : c.code = cc) (C : am_C0 D ct ro b s0 L xs) (hW : s0.WarmedH s.vm) (hG : am_G D ct ro s0 L xs M H) {q t ci v : Nat} {i : Int32} (h0 : am_R0 ≤ q) (htc : (t = 4 ∧ ci = 1) ∨ (t = 5 ∧ ci = 5) ∨ (t = 6 ∧ ci = 0)) (hq : (am_sh M q).1 = 100 + t) (hv : (am_sh M v).1 = ci) (hi : am_bad M q i = false) (hdg : decode cc pc = .ok (.aastore, 1))
    (kk : ∀ (H' : Heap) (j : Nat), am_G D ct ro s0 L xs (am_wr M q i.toNatClampNeg (.ref v)) H' → W p l e R s m args below meth c H' (locs ++ [⟨am_ad s0 ro q, j⟩]) cells slots Q (F0 m (pc + 1) arr rest)) : W p l e R s m args below meth c H locs cells slots Q (F0 m pc arr (.ref (am_ad s0 ro v) :: .int i :: .ref (am_ad s0 ro q) :: rest)) := by
  have ht6 : t ≤ 6 := by omega
  have hci : ci < 8 := by omega
  have hty : am_tys t = .object (am_cn ci) := by rcases htc with ⟨rfl, rfl⟩ | ⟨rfl, rfl⟩ | ⟨rfl, rfl⟩ <;> rfl
  obtain ⟨-, c1⟩ := am_rowW hG h0 ht6 hq
  obtain ⟨-, hra⟩ := C.2.2.1 t ht6
  have hra := hra.moved hW.alike
  rw [hty] at hra
  obtain ⟨kA, comp, k1, k2, k3, -⟩ := hra
  have hcls := (u_Kn_moved hW.alike (C.2.1 ci hci)).2
  have hcomp : comp = D.1 ci := Option.some.inj (k3.symm.trans hcls.1)
  subst hcomp
  obtain ⟨kC, hkC, -⟩ := hcls.2
  obtain ⟨-, -, cellV, g1, g2, g3, -⟩ := am_obj hG hci hv
  obtain ⟨b1, b2⟩ := am_badE hi
  refine W.aast hx hb c1 (fun q h => by cases h) (fun h => by cases h) k1 k2 rfl hkC ⟨b1, by rw [arrV_size]; exact b2⟩ g1 (fun q h => by rw [g3] at h; cases h) (by rw [g2]; exact hkC) (by rw [g2]; exact am_assign hcls) rfl rfl hdg fun H' e1 e2 e3 => kk H' _ (am_G_st hG h0 ht6 hq ?_ e1 e2 e3)
  rw [hty]
  simp [am_rd, am_wr, am_up, va_rf]
theorem am_Walen (hx : p.tables.exec = Jvm.exec) (hb : c.code = cc) (C : am_C0 D ct ro b s0 L xs) (hW : s0.WarmedH s.vm) (hG : am_G D ct ro s0 L xs M H) {q : Nat} (h1 : 100 ≤ (am_sh M q).1) (h2 : (am_sh M q).1 ≤ 106) (hdg : decode cc pc = .ok (.arraylength, 1))
    (kk : W p l e R s m args below meth c H locs cells slots Q (F0 m (pc + 1) arr (.int (Int32.ofNat (am_sh M q).2) :: rest))) : W p l e R s m args below meth c H locs cells slots Q (F0 m pc arr (.ref (am_ad s0 ro q) :: rest)) := by
  obtain ⟨cell, c1, c2, c3, c4, c5, c6⟩ := am_row (q := q) C hW hG (t := (am_sh M q).1 - 100) (by omega) (by omega)
  exact W.alen hx hb c1 c2 c5 rfl rfl hdg kk
def am_defOK : FieldType → Bool
  | .float | .double => false
  | _ => true
theorem am_def {ad : Nat → Nat} {M : am_M} {q k : Nat} (h : M.1 q k = 0 ∧ M.2.1 q k = 0 ∧ M.2.2.1 q k = none) {ty : FieldType} (ht : am_defOK ty = true) : defaultValue ty = am_rd ad M q k ty := by
  obtain ⟨h1, h2, h3⟩ := h
  cases ty <;> simp_all [am_defOK, am_rd, defaultValue, va_rf]
theorem am_defF (ci : Nat) (h : ci < 8) : ∀ k, k < am_fnum ci → am_defOK (am_fty ci k) = true :=
  am_8 (P := fun ci => ∀ k, k < am_fnum ci → am_defOK (am_fty ci k) = true) (by decide) (by decide) (by decide) (by decide) (by decide) (by decide) (by decide) (by decide +kernel) ci h
theorem am_Wnew (hx : p.tables.exec = Jvm.exec) (hb : c.code = cc) (C : am_C0 D ct ro b s0 L xs) (hW : s0.WarmedH s.vm) (hown : s.vm.findClass own = some m.cls) (hG : am_G D ct ro s0 L xs M H) {ci x w w2 w3 : Nat} (hci : ci < 8) (h1 : am_w w (.classLink own x (am_cn ci)) = true) (h2 : am_w w2 (.instantiable (am_cn ci) (am_fnum ci)) = true) (h3 : am_w w3 (.initialized (am_cn ci)) = true)
    (hc : cells + 1 ≤ R.cells) (hs : slots + am_fnum ci ≤ R.slots) (hdg : decode cc pc = .ok (.new x, 3))
    (kk : ∀ H' : Heap, am_G D ct ro s0 L xs (am_new M ci (am_fnum ci) (am_fnum ci)) H' → W p l e R s m args below meth c H' locs (cells + 1) (slots + am_fnum ci) Q (F0 m (pc + 3) arr (.ref (am_ad s0 ro (am_nx M)) :: rest))) : W p l e R s m args below meth c H locs cells slots Q (F0 m pc arr rest) := by
  have hKn := u_Kn_moved hW.alike (C.2.1 ci hci)
  have hsz : am_ad s0 ro (am_nx M) = H.size := by
    rw [am_adW hG.2.1]
    have := hG.1
    have := hG.2.1
    omega
  refine W.newcK hx hb hown (am_word C hW h1 rfl args) (am_word C hW h2 rfl args) (am_word C hW h3 rfl args) rfl hdg hc hs hKn.2.1 rfl fun H' kC hkC e1 z1 o1 => ?_
  have hG' : am_G D ct ro s0 L xs (am_new M ci (am_fnum ci) (am_fnum ci)) H' := by
    refine am_G_new hG _ _ _ z1 o1 (Or.inl ?_)
    have hsh : am_sh (am_new M ci (am_fnum ci) (am_fnum ci)) (am_nx M) = (ci, am_fnum ci) := by
      show (if am_nx M = M.2.2.2.2.1 then (ci, am_fnum ci) else M.2.2.2.1 (am_nx M)) = _
      exact if_pos rfl
    rw [hsh, hsz]
    refine ⟨hci, t_OB.to (u_born (ws := u_ws (am_cn ci) (am_fT ci) (am_fnum ci)) (args := args) (am_fty ci) (fun w hw => ?_) (fun _ h => h) hKn hkC e1 (am_ftyE ci hci)) (fun k hk => am_def ((hG.2.2.2.2.2 _ (Nat.le_refl _)).2 k) (am_defF ci hci k hk))⟩
    obtain ⟨k, hk, rfl⟩ := List.mem_map.mp hw
    exact am_layW C hW hci (List.mem_range.mp hk)
  have := kk H' hG'
  rw [hsz] at this
  exact this
theorem am_Wnewa (hx : p.tables.exec = Jvm.exec) (hb : c.code = cc) (C : am_C0 D ct ro b s0 L xs) (hW : s0.WarmedH s.vm) (hG : am_G D ct ro s0 L xs M H) {t w : Nat} {a : ArrayType} {n : Int32} (ht : t ≤ 3) (hty : newarray.typeOf a = am_tys t) (h1 : am_w w (.arrayClass (newarray.typeOf a)) = true) (hn : ¬ n < 0) (hn2 : ¬ 65536 < n.toNatClampNeg)
    (hc : cells + 1 ≤ R.cells) (hs : slots + n.toNatClampNeg ≤ R.slots) (hdg : decode cc pc = .ok (.newarray a, 2))
    (kk : ∀ H' : Heap, am_G D ct ro s0 L xs (am_new M (100 + t) n.toNatClampNeg n.toNatClampNeg) H' → W p l e R s m args below meth c H' locs (cells + 1) (slots + n.toNatClampNeg) Q (F0 m (pc + 2) arr (.ref (am_ad s0 ro (am_nx M)) :: rest))) : W p l e R s m args below meth c H locs cells slots Q (F0 m pc arr (.int n :: rest)) := by
  have hsz : am_ad s0 ro (am_nx M) = H.size := by
    rw [am_adW hG.2.1]
    have := hG.1
    have := hG.2.1
    omega
  have hb8 : componentBytes (newarray.typeOf a) ≤ 8 := by cases a <;> decide
  refine va_newaK hx hb (am_word C hW h1 rfl args) rfl hdg rfl hn rfl (Nat.le_trans (Nat.mul_le_mul (Nat.not_lt.mp hn2) hb8) (by decide)) hc hs rfl fun H' cA e1 z1 o1 hA hN => ?_
  have hcA : cA = ct t := by
    have hra := (C.2.2.1 t (by omega)).2.moved hW.alike
    rw [hty] at hN
    match t, ht, hra, hN with
    | 0, _, hra, hN => exact Option.some.inj (hN.symm.trans hra)
    | 1, _, hra, hN => exact Option.some.inj (hN.symm.trans hra)
    | 2, _, hra, hN => exact Option.some.inj (hN.symm.trans hra)
    | 3, _, hra, hN => exact Option.some.inj (hN.symm.trans hra)
    | k + 4, h, _, _ => omega
  subst hcA
  have hG' : am_G D ct ro s0 L xs (am_new M (100 + t) n.toNatClampNeg n.toNatClampNeg) H' := by
    refine am_G_new hG _ _ _ z1 o1 (Or.inr ?_)
    have hsh : am_sh (am_new M (100 + t) n.toNatClampNeg n.toNatClampNeg) (am_nx M) = (100 + t, n.toNatClampNeg) := by
      show (if am_nx M = M.2.2.2.2.1 then (100 + t, n.toNatClampNeg) else M.2.2.2.1 (am_nx M)) = _
      exact if_pos rfl
    rw [hsh, hsz]
    refine ⟨by show 100 ≤ 100 + t; omega, by show 100 + t ≤ 106; omega, ?_⟩
    rw [e1, hty, show (100 + t, n.toNatClampNeg).1 - 100 = t by show 100 + t - 100 = t; omega]
    congr 2
    funext j
    refine am_def ((hG.2.2.2.2.2 _ (Nat.le_refl _)).2 j) ?_
    match t, ht with
    | 0, _ => rfl
    | 1, _ => rfl
    | 2, _ => rfl
    | 3, _ => rfl
    | k + 4, h => omega
  have := kk H' hG'
  rw [hsz] at this
  exact this
theorem am_Wanew (hx : p.tables.exec = Jvm.exec) (hb : c.code = cc) (C : am_C0 D ct ro b s0 L xs) (hW : s0.WarmedH s.vm) (hown : s.vm.findClass own = some m.cls) (hG : am_G D ct ro s0 L xs M H) {t x w w2 : Nat} {Cn : String} {n : Int32} (ht : 4 ≤ t ∧ t ≤ 6) (hty : am_tys t = .object Cn) (h1 : am_w w (.classLink own x Cn) = true) (h2 : am_w w2 (.arrayOver (.object Cn)) = true) (hn : ¬ n < 0) (hn2 : ¬ 65536 < n.toNatClampNeg)
    (hc : cells + 1 ≤ R.cells) (hs : slots + n.toNatClampNeg ≤ R.slots) (hdg : decode cc pc = .ok (.anewarray x, 3))
    (kk : ∀ H' : Heap, am_G D ct ro s0 L xs (am_new M (100 + t) n.toNatClampNeg n.toNatClampNeg) H' → W p l e R s m args below meth c H' locs (cells + 1) (slots + n.toNatClampNeg) Q (F0 m (pc + 3) arr (.ref (am_ad s0 ro (am_nx M)) :: rest))) : W p l e R s m args below meth c H locs cells slots Q (F0 m pc arr (.int n :: rest)) := by
  have hsz : am_ad s0 ro (am_nx M) = H.size := by
    rw [am_adW hG.2.1]
    have := hG.1
    have := hG.2.1
    omega
  have hAO : va_AO Cn s := (va_AO.of (C.1 _ (List.mem_of_getElem? (am_wE h2)))).moved hW.alike
  refine W.anew hx hb hown (am_word C hW h1 rfl args) (va_AO.use hAO) rfl hdg rfl hn (Nat.le_trans (Nat.mul_le_mul_right 4 (Nat.not_lt.mp hn2)) (by decide)) hc hs fun cA kA comp f1 f2 f3 f4 => ?_
  generalize hH1 : H.push ({ cls := cA, slots := Array.replicate n.toNatClampNeg .null, vm := .none } : Cell) = H'
  have z1 : H'.size = H.size + 1 := by rw [← hH1, Array.size_push]
  have e1 : H'[H.size]? = some (arrV cA n.toNatClampNeg (fun _ => .null)) := by rw [← hH1, Array.getElem?_push_size, ← arrV_new]
  have o1 : ∀ q : Nat, q < H.size → H'[q]? = H[q]? := fun q hq => by rw [← hH1, Array.getElem?_push, if_neg (Nat.ne_of_lt hq)]
  have hcA : cA = ct t := by
    have hra := (C.2.2.1 t (by omega)).2.moved hW.alike
    rw [hty] at hra
    obtain ⟨_, _, -, -, -, q4⟩ := hra
    exact Option.some.inj (f1.symm.trans q4)
  subst hcA
  have hG' : am_G D ct ro s0 L xs (am_new M (100 + t) n.toNatClampNeg n.toNatClampNeg) H' := by
    refine am_G_new hG _ _ _ z1 o1 (Or.inr ?_)
    have hsh : am_sh (am_new M (100 + t) n.toNatClampNeg n.toNatClampNeg) (am_nx M) = (100 + t, n.toNatClampNeg) := by
      show (if am_nx M = M.2.2.2.2.1 then (100 + t, n.toNatClampNeg) else M.2.2.2.1 (am_nx M)) = _
      exact if_pos rfl
    rw [hsh, hsz]
    refine ⟨by show 100 ≤ 100 + t; omega, by show 100 + t ≤ 106; omega, ?_⟩
    rw [e1, show (100 + t, n.toNatClampNeg).1 - 100 = t by show 100 + t - 100 = t; omega, hty]
    congr 2
    funext j
    exact am_def (ty := .object Cn) ((hG.2.2.2.2.2 _ (Nat.le_refl _)).2 j) rfl
  have := kk H' hG'
  rw [hsz] at this
  exact this
theorem am_Wgets (hx : p.tables.exec = Jvm.exec) (hb : c.code = cc) (C : am_C0 D ct ro b s0 L xs) (hW : s0.WarmedH s.vm) (hown : s.vm.findClass own = some m.cls) (hG : am_G D ct ro s0 L xs M H) {q x w : Nat} (hq : q < 4) (h1 : am_w w (.fieldLink own x "AirByYard" (am_stN q) "[I") = true) (hdg : decode cc pc = .ok (.getstatic x, 3))
    (kk : W p l e R s m args below meth c H locs cells slots Q (F0 m (pc + 3) arr (.ref (am_ad s0 ro q) :: rest))) : W p l e R s m args below meth c H locs cells slots Q (F0 m pc arr rest) := by
  have hZ := va_Z.moved hW.alike (C.2.2.2.2.1 q hq)
  obtain ⟨cf, kf, fi, f, a, cell, z1, z2, z3, z4, z5, z6, z7, z8⟩ := hZ
  have hlt : a < s0.heap.size := (Array.getElem?_eq_some_iff.mp z5).1
  rw [am_adR (show q < am_R0 by unfold am_R0; omega)] at kk
  exact W.gets hx hb hown (am_word C hW h1 rfl args) z1 z2 z3 z4 (by rw [hG.2.2.1 a hlt]; exact z5) (fun h => by rw [h] at z6; cases z6) z7 rfl hdg kk
theorem am_Wldcs (hx : p.tables.exec = Jvm.exec) (hb : c.code = cc) (C : am_C0 D ct ro b s0 L xs) (hW : s0.WarmedH s.vm) (hown : s.vm.findClass own = some m.cls) {q x : Nat} (h1 : 4 ≤ q) (h2 : q < 8) (ho : own = RX2) (hxx : x = am_stx q) (hdg : decode cc pc = .ok (.ldc x, 2))
    (kk : W p l e R s m args below meth c H locs cells slots Q (F0 m (pc + 2) arr (.ref (am_ad s0 ro q) :: rest))) : W p l e R s m args below meth c H locs cells slots Q (F0 m pc arr rest) := by
  subst ho
  subst hxx
  rw [am_adR (show q < am_R0 by unfold am_R0; omega)] at kk
  exact va_ldcS hx hb hown ((C.2.2.2.2.2.1 q h1 h2).warm hW) hdg kk
end AMX
end
section
/-! a method's own variables -/
def am_lv (ad : Nat → Nat) (ls : List Value) : List (Nat × Value) := (List.range ls.length).filterMap fun i => match ls[i]? with
  | some v => if am_isJ v then none else some (i, am_cv ad v)
  | none => none
theorem am_lv_mem {ad : Nat → Nat} {ls : List Value} {q : Nat × Value} : q ∈ am_lv ad ls ↔ ∃ v : Value, ls[q.1]? = some v ∧ am_isJ v = false ∧ q.2 = am_cv ad v := by
  unfold am_lv
  rw [List.mem_filterMap]
  constructor
  · rintro ⟨i, hi, h⟩
    cases hv : ls[i]? with
    | none => rw [hv] at h; cases h
    | some v =>
      rw [hv] at h
      cases hj : am_isJ v with
      | true => simp [hj] at h
      | false =>
        simp [hj] at h
        subst h
        exact ⟨v, hv, hj, rfl⟩
  · rintro ⟨v, hv, hj, h⟩
    refine ⟨q.1, List.mem_range.mpr (List.getElem?_eq_some_iff.mp hv).1, ?_⟩
    rw [hv]
    simp [hj, ← h]
theorem am_lr_has {ad : Nat → Nat} {ls : List Value} {arr : Array Slot} {nL : Nat} (h : am_lr ad ls arr nL) : lv_has arr nL (am_lv ad ls) := by
  refine ⟨h.1, h.2.1, fun q hq => ?_⟩
  obtain ⟨v, h1, h2, h3⟩ := am_lv_mem.mp hq
  rw [h3]
  exact h.2.2.2 _ _ h1 h2
theorem am_has_lr {ad : Nat → Nat} {ls : List Value} {arr : Array Slot} {nL : Nat} {l : List (Nat × Value)} (h : lv_has arr nL l) (hl : ls.length = nL) (hm : ∀ (i : Nat) (v : Value), ls[i]? = some v → am_isJ v = false → (i, am_cv ad v) ∈ l) : am_lr ad ls arr nL :=
  ⟨h.1, h.2.1, hl, fun i v h1 h2 => h.2.2 _ (hm i v h1 h2)⟩
theorem am_lget {ad : Nat → Nat} {ls : List Value} {arr : Array Slot} {nL : Nat} (h : am_lr ad ls arr nL) {i : Nat} {v : Value} (hv : ls[i]? = some v) (hj : am_isJ v = false) : arr[i]? = some (.val (am_cv ad v)) := h.2.2.2 i v hv hj
theorem am_inv_len (ls : List Value) (i : Nat) : (am_inv ls i).length = ls.length := by
  cases i with
  | zero => rfl
  | succ i =>
    simp only [am_inv]
    split
    · split
      · simp
      · rfl
    · rfl
theorem am_inv_get {ls : List Value} {i j : Nat} {v : Value} (h : (am_inv ls i)[j]? = some v) (hj : am_isJ v = false) : ls[j]? = some v ∧ ¬ (j + 1 = i ∧ v.category = 2) := by
  cases i with
  | zero => exact ⟨h, by omega⟩
  | succ i =>
    cases hv : ls[i]? with
    | none =>
      simp only [am_inv, hv] at h
      refine ⟨h, fun z => ?_⟩
      have e : j = i := by omega
      subst e
      rw [hv] at h
      cases h
    | some w =>
      simp only [am_inv, hv] at h
      by_cases hc : w.category = 2
      · simp only [hc, if_true] at h
        by_cases e : j = i
        · subst e
          have hl : j < ls.length := (List.getElem?_eq_some_iff.mp hv).1
          rw [List.getElem?_set_self hl] at h
          cases h
          exact absurd hj (by decide)
        · rw [List.getElem?_set_ne (fun z => e z.symm)] at h
          exact ⟨h, fun z => e (by omega)⟩
      · simp only [hc, if_false] at h
        refine ⟨h, fun z => ?_⟩
        have e : j = i := by omega
        subst e
        rw [hv] at h
        cases h
        exact hc z.2
theorem am_lset1 {ad : Nat → Nat} {ls ls' : List Value} {arr : Array Slot} {nL i : Nat} {v : Value} (hl : ls.length = nL) (hs : am_set1 ls i v = some ls')
    (h : lv_has arr nL ((i, am_cv ad v) :: (am_lv ad ls).filter (fun q => !(q.1 == i) && !(q.1 + 1 == i && q.2.category == 2)))) : i < nL ∧ am_lr ad ls' arr nL := by
  unfold am_set1 at hs
  split at hs
  next hi =>
    cases hs
    refine ⟨by omega, am_has_lr h (by rw [List.length_set, am_inv_len, hl]) fun j w h1 h2 => ?_⟩
    by_cases e : j = i
    · subst e
      rw [List.getElem?_set_self (by rw [am_inv_len]; exact hi)] at h1
      cases h1
      exact List.mem_cons_self
    · rw [List.getElem?_set_ne (fun z => e z.symm)] at h1
      obtain ⟨g1, g2⟩ := am_inv_get h1 h2
      refine List.mem_cons_of_mem _ (List.mem_filter.mpr ⟨am_lv_mem.mpr ⟨w, g1, h2, rfl⟩, ?_⟩)
      simp only [am_cat, Bool.and_eq_true, Bool.not_eq_true', beq_eq_false_iff_ne, Bool.and_eq_false_iff]
      refine ⟨e, ?_⟩
      by_cases e2 : j + 1 = i
      · exact Or.inr fun z => g2 ⟨e2, z⟩
      · exact Or.inl e2
  next => cases hs
theorem am_lset1i {ls ls' : List Value} {i : Nat} {v : Value} (hs : am_set1 ls i v = some ls') : i < ls.length := by
  unfold am_set1 at hs
  split at hs
  · assumption
  · cases hs
theorem am_lset2i {ls ls' : List Value} {i : Nat} {v : Value} (hs : am_set2 ls i v = some ls') : i + 1 < ls.length := by
  unfold am_set2 at hs
  split at hs
  · assumption
  · cases hs
theorem am_lset2 {ad : Nat → Nat} {ls ls' : List Value} {arr : Array Slot} {nL i : Nat} {v : Value} (hl : ls.length = nL) (hs : am_set2 ls i v = some ls')
    (h : lv_has arr nL ((i, am_cv ad v) :: (am_lv ad ls).filter (fun q => !(q.1 == i) && (!(q.1 == i + 1) && !(q.1 + 1 == i && q.2.category == 2))))) : am_lr ad ls' arr nL := by
  unfold am_set2 at hs
  split at hs
  next hi =>
    cases hs
    refine am_has_lr h (by rw [List.length_set, List.length_set, am_inv_len, hl]) fun j w h1 h2 => ?_
    by_cases e1 : j = i + 1
    · subst e1
      rw [List.getElem?_set_self (by rw [List.length_set, am_inv_len]; exact hi)] at h1
      cases h1
      exact absurd h2 (by decide)
    · rw [List.getElem?_set_ne (fun z => e1 z.symm)] at h1
      by_cases e : j = i
      · subst e
        rw [List.getElem?_set_self (by rw [am_inv_len]; omega)] at h1
        cases h1
        exact List.mem_cons_self
      · rw [List.getElem?_set_ne (fun z => e z.symm)] at h1
        obtain ⟨g1, g2⟩ := am_inv_get h1 h2
        refine List.mem_cons_of_mem _ (List.mem_filter.mpr ⟨am_lv_mem.mpr ⟨w, g1, h2, rfl⟩, ?_⟩)
        simp only [am_cat, Bool.and_eq_true, Bool.not_eq_true', beq_eq_false_iff_ne, Bool.and_eq_false_iff]
        refine ⟨e, e1, ?_⟩
        by_cases e2 : j + 1 = i
        · exact Or.inr fun z => g2 ⟨e2, z⟩
        · exact Or.inl e2
  next => cases hs
theorem am_lay_args (ad : Nat → Nat) : ∀ (as : List Value) (k i : Nat) (v : Value), (am_lay as)[i]? = some v → am_isJ v = false → (k + i, am_cv ad v) ∈ lv_args k (as.map (am_cv ad)) := by
  intro as
  induction as with
  | nil => intro k i v h; simp [am_lay] at h
  | cons a as ih =>
    intro k i v h hj
    unfold am_lay at h
    by_cases hc : a.category = 2
    · rw [if_pos hc] at h
      rw [List.map_cons]
      unfold lv_args
      rw [am_cat, if_pos hc]
      match i, h with
      | 0, h => cases h; exact List.mem_cons_self
      | 1, h => cases h; exact absurd hj (by decide)
      | i + 2, h =>
        have := ih (k + 2) i v (by simpa using h) hj
        rw [show k + (i + 2) = k + 2 + i by omega]
        exact List.mem_cons_of_mem _ this
    · rw [if_neg hc] at h
      rw [List.map_cons]
      unfold lv_args
      rw [am_cat, if_neg hc]
      match i, h with
      | 0, h => cases h; exact List.mem_cons_self
      | i + 1, h =>
        have := ih (k + 1) i v (by simpa using h) hj
        rw [show k + (i + 1) = k + 1 + i by omega]
        exact List.mem_cons_of_mem _ this
theorem am_lay_len (ad : Nat → Nat) : ∀ as : List Value, (lg_sl (as.map (am_cv ad))).length = (am_lay as).length := by
  intro as
  induction as with
  | nil => rfl
  | cons a as ih =>
    rw [List.map_cons]
    unfold am_lay
    have e : lg_sl (am_cv ad a :: as.map (am_cv ad)) = (if (am_cv ad a).category = 2 then [Slot.val (am_cv ad a), .second] else [.val (am_cv ad a)]) ++ lg_sl (as.map (am_cv ad)) := rfl
    rw [e, List.length_append, ih, am_cat]
    split <;> simp <;> omega
theorem am_entryL (ad : Nat → Nat) (as : List Value) {n : Nat} (h : (am_lay as).length ≤ n) : am_lr ad (am_entry as n) ((lg_sl (as.map (am_cv ad)) ++ List.replicate (n - (lg_sl (as.map (am_cv ad))).length) Slot.unset).toArray) n := by
  have hl := lv_entry (as.map (am_cv ad)) (n := n) (by rw [am_lay_len]; exact h)
  refine am_has_lr hl (by unfold am_entry; simp; omega) fun i v h1 h2 => ?_
  unfold am_entry at h1
  by_cases hi : i < (am_lay as).length
  · rw [List.getElem?_append_left hi] at h1
    have := am_lay_args ad as 0 i v h1 h2
    rwa [Nat.zero_add] at this
  · rw [List.getElem?_append_right (by omega)] at h1
    have := List.eq_of_mem_replicate (List.mem_of_getElem? h1)
    subst this
    exact absurd h2 (by decide)
end
section
theorem am_tgtE {co : List am_A} {pc t : Nat} {off : Int} (h : am_tgt co pc off t = true) : ∃ q : Nat, am_pc co t = some q ∧ (pc : Int) + off = (q : Int) := by
  unfold am_tgt at h
  cases hc : co[t]? with
  | none => rw [hc] at h; cases h
  | some a =>
    rw [hc] at h
    exact ⟨a.1, by simp [am_pc, hc], by simpa using h⟩
theorem am_ld0 {ls st : List Value} {j i : Nat} {M : am_M} {i' : Nat} {ls' st' : List Value} {M' : am_M} (h : am_ldL ls st j i M 0 = some (i', ls', st', M')) : ∃ x : Int32, ls[j]? = some (.int x) ∧ i' = i + 1 ∧ ls' = ls ∧ st' = .int x :: st ∧ M' = M := by
  unfold am_ldL at h
  split at h <;> first | (cases h; exact ⟨_, by assumption, rfl, rfl, rfl, rfl⟩) | (rename_i q; cases q) | cases h
theorem am_ld1 {ls st : List Value} {j i : Nat} {M : am_M} {i' : Nat} {ls' st' : List Value} {M' : am_M} (h : am_ldL ls st j i M 1 = some (i', ls', st', M')) : ∃ x : Int64, ls[j]? = some (.long x) ∧ i' = i + 1 ∧ ls' = ls ∧ st' = .long x :: st ∧ M' = M := by
  unfold am_ldL at h
  split at h <;> first | (cases h; exact ⟨_, by assumption, rfl, rfl, rfl, rfl⟩) | (rename_i q; cases q) | cases h
theorem am_ld2 {ls st : List Value} {j i : Nat} {M : am_M} {i' : Nat} {ls' st' : List Value} {M' : am_M} (h : am_ldL ls st j i M 2 = some (i', ls', st', M')) : (∃ x : Nat, ls[j]? = some (.ref x) ∧ i' = i + 1 ∧ ls' = ls ∧ st' = .ref x :: st ∧ M' = M) ∨ (ls[j]? = some .null ∧ i' = i + 1 ∧ ls' = ls ∧ st' = .null :: st ∧ M' = M) := by
  unfold am_ldL at h
  split at h <;> first | (cases h; exact Or.inl ⟨_, by assumption, rfl, rfl, rfl, rfl⟩) | (cases h; exact Or.inr ⟨by assumption, rfl, rfl, rfl, rfl⟩) | (rename_i q; cases q) | cases h
theorem am_st0 {ls st : List Value} {j i : Nat} {M : am_M} {i' : Nat} {ls' st' : List Value} {M' : am_M} (h : am_stL ls st j i M 0 = some (i', ls', st', M')) : ∃ (x : Int32) (st0 : List Value), st = .int x :: st0 ∧ am_set1 ls j (.int x) = some ls' ∧ i' = i + 1 ∧ st' = st0 ∧ M' = M := by
  unfold am_stL at h
  split at h <;> first | (obtain ⟨a, h1, h2⟩ := Option.map_eq_some_iff.mp h; cases h2; exact ⟨_, _, rfl, h1, rfl, rfl, rfl⟩) | (rename_i q; cases q) | cases h
theorem am_st1 {ls st : List Value} {j i : Nat} {M : am_M} {i' : Nat} {ls' st' : List Value} {M' : am_M} (h : am_stL ls st j i M 1 = some (i', ls', st', M')) : ∃ (x : Int64) (st0 : List Value), st = .long x :: st0 ∧ am_set2 ls j (.long x) = some ls' ∧ i' = i + 1 ∧ st' = st0 ∧ M' = M := by
  unfold am_stL at h
  split at h <;> first | (obtain ⟨a, h1, h2⟩ := Option.map_eq_some_iff.mp h; cases h2; exact ⟨_, _, rfl, h1, rfl, rfl, rfl⟩) | (rename_i q; cases q) | cases h
theorem am_st2 {ls st : List Value} {j i : Nat} {M : am_M} {i' : Nat} {ls' st' : List Value} {M' : am_M} (h : am_stL ls st j i M 2 = some (i', ls', st', M')) : ∃ (v : Value) (st0 : List Value), (v = .null ∨ ∃ x, v = .ref x) ∧ st = v :: st0 ∧ am_set1 ls j v = some ls' ∧ i' = i + 1 ∧ st' = st0 ∧ M' = M := by
  unfold am_stL at h
  split at h <;> first | (obtain ⟨a, h1, h2⟩ := Option.map_eq_some_iff.mp h; cases h2; exact ⟨_, _, Or.inr ⟨_, rfl⟩, rfl, h1, rfl, rfl, rfl⟩) | (obtain ⟨a, h1, h2⟩ := Option.map_eq_some_iff.mp h; cases h2; exact ⟨_, _, Or.inl rfl, rfl, h1, rfl, rfl, rfl⟩) | (rename_i q; cases q) | cases h
theorem am_ldE {M : am_M} {tag p : Nat} {i : Int32} {v : Value} {ls st : List Value} {pc i' : Nat} {ls' st' : List Value} {M' : am_M} (h : am_ld M tag p i v ls st pc = some (i', ls', st', M')) : (am_sh M p).1 = tag ∧ am_bad M p i = false ∧ i' = pc + 1 ∧ ls' = ls ∧ st' = v :: st ∧ M' = M := by
  unfold am_ld at h
  split at h
  next h1 =>
    split at h
    · cases h
    next h2 =>
      cases h
      exact ⟨h1, by simpa using h2, rfl, rfl, rfl, rfl⟩
  · cases h
theorem am_svE {M : am_M} {tag p : Nat} {i : Int32} {v : Value} {ls st : List Value} {pc i' : Nat} {ls' st' : List Value} {M' : am_M} (h : am_sv M tag p i v ls st pc = some (i', ls', st', M')) : (am_sh M p).1 = tag ∧ am_R0 ≤ p ∧ am_bad M p i = false ∧ i' = pc + 1 ∧ ls' = ls ∧ st' = st ∧ M' = am_wr M p i.toNatClampNeg v := by
  unfold am_sv at h
  split at h
  next h1 =>
    split at h
    · cases h
    next h2 =>
      cases h
      exact ⟨h1.1, h1.2, by simpa using h2, rfl, rfl, rfl, rfl⟩
  · cases h
theorem am_lt {α : Type} {P : α → Prop} {a : α} {locs : List α} (h : ∀ q ∈ locs, P q) (ha : P a) : ∀ q ∈ locs ++ [a], P q := by
  intro q hq
  rcases List.mem_append.mp hq with h1 | h1
  · exact h q h1
  · rw [List.mem_singleton] at h1
    rw [h1]
    exact ha
theorem am_lookE : ∀ (ps : List (Int × Int)) (ts : List Nat) (d : Int) (t : Nat) (x : Int) (co : List am_A) (pc : Nat), am_tgt co pc d t = true → am_zipT co pc (ps.map fun q => q.2) ts = true → ∃ q : Nat, am_pc co (am_look ps ts t x) = some q ∧ (pc : Int) + Op.lookupswitch.offset ps d x = (q : Int) := by
  intro ps
  induction ps with
  | nil =>
    intro ts d t x co pc h1 h2
    cases ts with
    | nil => exact am_tgtE h1
    | cons a ts => cases h2
  | cons a ps ih =>
    intro ts d t x co pc h1 h2
    cases ts with
    | nil => cases h2
    | cons u ts =>
      rw [List.map_cons] at h2
      unfold am_zipT at h2
      rw [Bool.and_eq_true] at h2
      unfold am_look Op.lookupswitch.offset
      by_cases e : x = a.1
      · rw [if_pos e, if_pos e.symm]
        exact am_tgtE h2.1
      · rw [if_neg e, if_neg (fun z => e z.symm)]
        exact ih ts d t x co pc h1 h2.2
theorem am_zipE : ∀ (os : List Int) (ts : List Nat) (co : List am_A) (pc n : Nat), am_zipT co pc os ts = true → n < ts.length → ∃ (o : Int) (q : Nat), os[n]? = some o ∧ am_pc co (ts.getD n 0) = some q ∧ (pc : Int) + o = (q : Int) := by
  intro os
  induction os with
  | nil =>
    intro ts co pc n h hn
    cases ts with
    | nil => simp at hn
    | cons a ts => cases h
  | cons o os ih =>
    intro ts co pc n h hn
    cases ts with
    | nil => cases h
    | cons u ts =>
      unfold am_zipT at h
      rw [Bool.and_eq_true] at h
      cases n with
      | zero =>
        obtain ⟨q, h1, h2⟩ := am_tgtE h.1
        exact ⟨o, q, rfl, h1, h2⟩
      | succ n =>
        obtain ⟨o', q, h1, h2, h3⟩ := ih ts co pc n h.2 (by simpa using hn)
        exact ⟨o', q, by simpa using h1, by simpa using h2, h3⟩
section AMS
variable {p : Program} {l : Launch} {e : Env} {R : Room} {s : State} {m : MethodId} {args : Array Value} {below : List Frame} {meth : Method} {c : Code} {H : Heap} {locs : List Loc} {cells slots : Nat} {Q : State → Prop}
variable {cc : ByteArray} {pc : Nat} {arr : Array Slot} {rest : List Value} {D : va_G} {ct : Nat → ClassId} {ro : Nat → Nat} {b : Nat} {s0 : State} {L : Nat} {xs : Nat → Int32} {M : am_M} {own nm : String} {ret : Option FieldType} {co : List am_A}
theorem am_Wif0 (hx : p.tables.exec = Jvm.exec) (hb : c.code = cc) {cd : Jvm.ClassFile.Cond} {off : Int} {x : Int32} {tgt i t : Nat} (hdg : decode cc pc = .ok (.ifCond cd off, 3)) (ht : (pc : Int) + off = (tgt : Int)) (h1 : am_pc co t = some tgt) (h2 : am_pc co (i + 1) = some (pc + 3))
    (kk : ∀ pc', am_pc co (if am_cond cd x 0 then t else i + 1) = some pc' → W p l e R s m args below meth c H locs cells slots Q (F0 m pc' arr rest)) : W p l e R s m args below meth c H locs cells slots Q (F0 m pc arr (.int x :: rest)) := by
  cases cd with
  | eq => exact lv_if_eq hx hb hdg ht (fun z => kk _ (by simp [am_cond, z, h1])) (fun z => kk _ (by simp [am_cond, z, h2]))
  | ne => exact lv_if_ne hx hb hdg ht (fun z => kk _ (by simp [am_cond, z, h1])) (fun z => kk _ (by simp [am_cond, z, h2]))
  | lt => exact lv_if_lt hx hb hdg ht (fun z => kk _ (by rw [show am_cond .lt x 0 = true from decide_eq_true z]; exact h1)) (fun z => kk _ (by rw [show am_cond .lt x 0 = false from decide_eq_false z]; exact h2))
  | ge => exact lv_if_ge hx hb hdg ht (fun z => kk _ (by rw [show am_cond .ge x 0 = true from decide_eq_true z]; exact h1)) (fun z => kk _ (by rw [show am_cond .ge x 0 = false from decide_eq_false z]; exact h2))
  | gt => exact lv_if_gt hx hb hdg ht (fun z => kk _ (by rw [show am_cond .gt x 0 = true from decide_eq_true z]; exact h1)) (fun z => kk _ (by rw [show am_cond .gt x 0 = false from decide_eq_false z]; exact h2))
  | le => exact lv_if_le hx hb hdg ht (fun z => kk _ (by rw [show am_cond .le x 0 = true from decide_eq_true z]; exact h1)) (fun z => kk _ (by rw [show am_cond .le x 0 = false from decide_eq_false z]; exact h2))
theorem am_Wif2 (hx : p.tables.exec = Jvm.exec) (hb : c.code = cc) {cd : Jvm.ClassFile.Cond} {off : Int} {x y : Int32} {tgt i t : Nat} (hdg : decode cc pc = .ok (.if_icmp cd off, 3)) (ht : (pc : Int) + off = (tgt : Int)) (h1 : am_pc co t = some tgt) (h2 : am_pc co (i + 1) = some (pc + 3))
    (kk : ∀ pc', am_pc co (if am_cond cd x y then t else i + 1) = some pc' → W p l e R s m args below meth c H locs cells slots Q (F0 m pc' arr rest)) : W p l e R s m args below meth c H locs cells slots Q (F0 m pc arr (.int y :: .int x :: rest)) := by
  cases cd with
  | eq => exact lv_icmp_eq hx hb hdg ht (fun z => kk _ (by simp [am_cond, z, h1])) (fun z => kk _ (by simp [am_cond, z, h2]))
  | ne => exact lv_icmp_ne hx hb hdg ht (fun z => kk _ (by simp [am_cond, z, h1])) (fun z => kk _ (by simp [am_cond, z, h2]))
  | lt => exact lv_icmp_lt hx hb hdg ht (fun z => kk _ (by rw [show am_cond .lt x y = true from decide_eq_true z]; exact h1)) (fun z => kk _ (by rw [show am_cond .lt x y = false from decide_eq_false z]; exact h2))
  | ge => exact lv_icmp_ge hx hb hdg ht (fun z => kk _ (by rw [show am_cond .ge x y = true from decide_eq_true z]; exact h1)) (fun z => kk _ (by rw [show am_cond .ge x y = false from decide_eq_false z]; exact h2))
  | gt => exact lv_icmp_gt hx hb hdg ht (fun z => kk _ (by rw [show am_cond .gt x y = true from decide_eq_true z]; exact h1)) (fun z => kk _ (by rw [show am_cond .gt x y = false from decide_eq_false z]; exact h2))
  | le => exact lv_icmp_le hx hb hdg ht (fun z => kk _ (by rw [show am_cond .le x y = true from decide_eq_true z]; exact h1)) (fun z => kk _ (by rw [show am_cond .le x y = false from decide_eq_false z]; exact h2))
set_option maxHeartbeats 8000000 in
theorem am_simple (hx : p.tables.exec = Jvm.exec) (hb : c.code = cc) (C : am_C0 D ct ro b s0 L xs) (hW : s0.WarmedH s.vm) (hown : s.vm.findClass own = some m.cls) (hnm : nm = "<init>" → meth.name = "<init>") (hG : am_G D ct ro s0 L xs M H) {ls : List Value} {nL : Nat} (hlr : am_lr (am_ad s0 ro) ls arr nL) (hlo : ∀ q ∈ locs, s0.heap.size ≤ q.base)
    {i : Nat} {ins : Instr} {aux : List Nat} {st : List Value} (hd : decode cc pc = .ok (ins, am_len ins aux)) (hf : am_falls ins = true → am_pc co (i + 1) = some (pc + am_len ins aux)) (hk : am_chkI own nm ret co pc ins aux = true)
    {i' : Nat} {ls' st' : List Value} {M' : am_M} (h : am_step ins aux i ls st M = some (i', ls', st', M')) {c0 u0 : Nat} (hc0 : c0 ≤ am_nx M) (hu0 : u0 ≤ am_us M) (hc : am_nx M' - c0 ≤ R.cells) (hs : am_us M' - u0 ≤ R.slots)
    (kk : ∀ (H' : Heap) (locs' : List Loc) (arr' : Array Slot) (pc' : Nat), am_pc co i' = some pc' → am_G D ct ro s0 L xs M' H' → am_lr (am_ad s0 ro) ls' arr' nL → (∀ q ∈ locs', s0.heap.size ≤ q.base) →
      W p l e R s m args below meth c H' locs' (am_nx M' - c0) (am_us M' - u0) Q (F0 m pc' arr' (st'.map (am_cv (am_ad s0 ro))))) :
    W p l e R s m args below meth c H locs (am_nx M - c0) (am_us M - u0) Q (F0 m pc arr (st.map (am_cv (am_ad s0 ro)))) := by
  have adW : ∀ q, am_R0 ≤ q → s0.heap.size ≤ am_ad s0 ro q := fun q hq => by rw [am_adW hq]; omega
  unfold am_step at h
  split at h
  case h_1 =>
    cases h
    exact lv_iconst hx hb hd rfl (kk _ _ _ _ (hf rfl) hG hlr hlo)
  case h_2 =>
    cases h
    exact lv_bipush hx hb hd rfl (kk _ _ _ _ (hf rfl) hG hlr hlo)
  case h_3 =>
    cases h
    exact lv_sipush hx hb hd rfl (kk _ _ _ _ (hf rfl) hG hlr hlo)
  case h_4 =>
    cases h
    exact lv_lconst hx hb hd rfl (kk _ _ _ _ (hf rfl) hG hlr hlo)
  case h_5 =>
    cases h
    exact lv_null hx hb hd (kk _ _ _ _ (hf rfl) hG hlr hlo)
  case h_6 =>
    cases h
    exact lv_ldc hx hb hown (am_word C hW hk rfl args) hd (kk _ _ _ _ (hf rfl) hG hlr hlo)
  case h_7 =>
    cases h
    simp only [am_chkI, Bool.and_eq_true, decide_eq_true_eq] at hk
    exact am_Wldcs hx hb C hW hown hk.1.1.2 hk.1.2 hk.1.1.1 hk.2 hd (kk _ _ _ _ (hf rfl) hG hlr hlo)
  case h_8 =>
    cases h
    exact lv_ldcw hx hb hown (am_word C hW hk rfl args) hd (kk _ _ _ _ (hf rfl) hG hlr hlo)
  case h_9 =>
    cases h
    exact lv_ldc2 hx hb hown (am_word C hW hk rfl args) hd (kk _ _ _ _ (hf rfl) hG hlr hlo)
  case h_10 =>
    obtain ⟨x, h1, rfl, rfl, rfl, rfl⟩ := am_ld0 h
    exact lv_iload_n hx hb hd rfl (am_lget hlr h1 rfl) (kk _ _ _ _ (hf rfl) hG hlr hlo)
  case h_11 =>
    obtain ⟨x, h1, rfl, rfl, rfl, rfl⟩ := am_ld0 h
    exact lv_iload hx hb hd (am_lget hlr h1 rfl) (kk _ _ _ _ (hf rfl) hG hlr hlo)
  case h_12 =>
    obtain ⟨x, h1, rfl, rfl, rfl, rfl⟩ := am_ld1 h
    exact lv_lload_n hx hb hd rfl (am_lget hlr h1 rfl) (kk _ _ _ _ (hf rfl) hG hlr hlo)
  case h_13 =>
    obtain ⟨x, h1, rfl, rfl, rfl, rfl⟩ := am_ld1 h
    exact lv_lload hx hb hd (am_lget hlr h1 rfl) (kk _ _ _ _ (hf rfl) hG hlr hlo)
  case h_14 =>
    rcases am_ld2 h with ⟨x, h1, rfl, rfl, rfl, rfl⟩ | ⟨h1, rfl, rfl, rfl, rfl⟩
    · exact lv_aload_n hx hb hd rfl (am_lget hlr h1 rfl) (kk _ _ _ _ (hf rfl) hG hlr hlo)
    · exact lv_aload_nN hx hb hd rfl (am_lget hlr h1 rfl) (kk _ _ _ _ (hf rfl) hG hlr hlo)
  case h_15 =>
    rcases am_ld2 h with ⟨x, h1, rfl, rfl, rfl, rfl⟩ | ⟨h1, rfl, rfl, rfl, rfl⟩
    · exact lv_aload hx hb hd (am_lget hlr h1 rfl) (kk _ _ _ _ (hf rfl) hG hlr hlo)
    · exact lv_aloadN hx hb hd (am_lget hlr h1 rfl) (kk _ _ _ _ (hf rfl) hG hlr hlo)
  case h_16 =>
    obtain ⟨x, st0, rfl, h1, rfl, rfl, rfl⟩ := am_st0 h
    have hn := am_lset1i h1
    rw [hlr.2.2.1] at hn
    exact lv_istore_n hx hb hd rfl (am_lr_has hlr) hn rfl fun arr' hl => kk _ _ _ _ (hf rfl) hG (am_lset1 hlr.2.2.1 h1 hl).2 hlo
  case h_17 =>
    obtain ⟨x, st0, rfl, h1, rfl, rfl, rfl⟩ := am_st0 h
    have hn := am_lset1i h1
    rw [hlr.2.2.1] at hn
    exact lv_istore hx hb hd (am_lr_has hlr) hn rfl fun arr' hl => kk _ _ _ _ (hf rfl) hG (am_lset1 hlr.2.2.1 h1 hl).2 hlo
  case h_18 =>
    obtain ⟨x, st0, rfl, h1, rfl, rfl, rfl⟩ := am_st1 h
    have hn := am_lset2i h1
    rw [hlr.2.2.1] at hn
    exact lv_lstore_n hx hb hd rfl (am_lr_has hlr) hn rfl fun arr' hl => kk _ _ _ _ (hf rfl) hG (am_lset2 hlr.2.2.1 h1 hl) hlo
  case h_19 =>
    obtain ⟨x, st0, rfl, h1, rfl, rfl, rfl⟩ := am_st1 h
    have hn := am_lset2i h1
    rw [hlr.2.2.1] at hn
    exact lv_lstore hx hb hd (am_lr_has hlr) hn rfl fun arr' hl => kk _ _ _ _ (hf rfl) hG (am_lset2 hlr.2.2.1 h1 hl) hlo
  case h_20 =>
    obtain ⟨v, st0, hv, rfl, h1, rfl, rfl, rfl⟩ := am_st2 h
    have hn := am_lset1i h1
    rw [hlr.2.2.1] at hn
    rcases hv with rfl | ⟨x, rfl⟩
    · exact lv_astore_nN hx hb hd rfl (am_lr_has hlr) hn rfl fun arr' hl => kk _ _ _ _ (hf rfl) hG (am_lset1 (v := .null) hlr.2.2.1 h1 hl).2 hlo
    · exact lv_astore_n hx hb hd rfl (am_lr_has hlr) hn rfl fun arr' hl => kk _ _ _ _ (hf rfl) hG (am_lset1 (v := .ref x) hlr.2.2.1 h1 hl).2 hlo
  case h_21 =>
    obtain ⟨v, st0, hv, rfl, h1, rfl, rfl, rfl⟩ := am_st2 h
    have hn := am_lset1i h1
    rw [hlr.2.2.1] at hn
    rcases hv with rfl | ⟨x, rfl⟩
    · exact lv_astoreN hx hb hd (am_lr_has hlr) hn rfl fun arr' hl => kk _ _ _ _ (hf rfl) hG (am_lset1 (v := .null) hlr.2.2.1 h1 hl).2 hlo
    · exact lv_astore hx hb hd (am_lr_has hlr) hn rfl fun arr' hl => kk _ _ _ _ (hf rfl) hG (am_lset1 (v := .ref x) hlr.2.2.1 h1 hl).2 hlo
  case h_22 =>
    split at h
    next x hv =>
      obtain ⟨a, h1, h2⟩ := Option.map_eq_some_iff.mp h
      cases h2
      have hn := am_lset1i h1
      rw [hlr.2.2.1] at hn
      obtain ⟨j, hj⟩ := List.getElem?_of_mem (am_lv_mem (ad := am_ad s0 ro) (q := (_, .int x)).mpr ⟨_, hv, rfl, rfl⟩)
      exact lv_iinc hx hb hd (am_lr_has hlr) hj rfl hn rfl fun arr' hl => kk _ _ _ _ (hf rfl) hG (am_lset1 hlr.2.2.1 h1 hl).2 hlo
    next => cases h
  case h_23 =>
    cases h
    exact lv_iadd hx hb hd (kk _ _ _ _ (hf rfl) hG hlr hlo)
  case h_24 =>
    cases h
    exact lv_isub hx hb hd (kk _ _ _ _ (hf rfl) hG hlr hlo)
  case h_25 =>
    cases h
    exact lv_imul hx hb hd (kk _ _ _ _ (hf rfl) hG hlr hlo)
  case h_26 =>
    cases h
    exact lv_iand hx hb hd (kk _ _ _ _ (hf rfl) hG hlr hlo)
  case h_27 =>
    cases h
    exact lv_ior hx hb hd (kk _ _ _ _ (hf rfl) hG hlr hlo)
  case h_28 =>
    cases h
    exact lv_ixor hx hb hd (kk _ _ _ _ (hf rfl) hG hlr hlo)
  case h_29 =>
    split at h
    · cases h
    next hne =>
      cases h
      exact lv_idiv hx hb hd hne (kk _ _ _ _ (hf rfl) hG hlr hlo)
  case h_30 =>
    split at h
    · cases h
    next hne =>
      cases h
      exact lv_irem hx hb hd hne (kk _ _ _ _ (hf rfl) hG hlr hlo)
  case h_31 =>
    cases h
    exact lv_ineg hx hb hd (kk _ _ _ _ (hf rfl) hG hlr hlo)
  case h_32 =>
    cases h
    exact lv_ishl hx hb hd (kk _ _ _ _ (hf rfl) hG hlr hlo)
  case h_33 =>
    cases h
    exact lv_ishr hx hb hd (kk _ _ _ _ (hf rfl) hG hlr hlo)
  case h_34 =>
    cases h
    exact lv_iushr hx hb hd rfl (kk _ _ _ _ (hf rfl) hG hlr hlo)
  case h_35 =>
    cases h
    exact lv_ladd hx hb hd (kk _ _ _ _ (hf rfl) hG hlr hlo)
  case h_36 =>
    cases h
    exact lv_lsub hx hb hd (kk _ _ _ _ (hf rfl) hG hlr hlo)
  case h_37 =>
    cases h
    exact lv_land hx hb hd (kk _ _ _ _ (hf rfl) hG hlr hlo)
  case h_38 =>
    cases h
    exact lv_lor hx hb hd (kk _ _ _ _ (hf rfl) hG hlr hlo)
  case h_39 =>
    cases h
    exact lv_lxor hx hb hd (kk _ _ _ _ (hf rfl) hG hlr hlo)
  case h_40 =>
    cases h
    exact lv_lshl hx hb hd rfl (kk _ _ _ _ (hf rfl) hG hlr hlo)
  case h_41 =>
    cases h
    exact lv_lshr hx hb hd rfl (kk _ _ _ _ (hf rfl) hG hlr hlo)
  case h_42 =>
    cases h
    exact W.lcmp hx hb hd (kk _ _ _ _ (hf rfl) hG hlr hlo)
  case h_43 =>
    cases h
    exact lv_i2l hx hb hd rfl (kk _ _ _ _ (hf rfl) hG hlr hlo)
  case h_44 =>
    cases h
    exact lv_l2i hx hb hd rfl (kk _ _ _ _ (hf rfl) hG hlr hlo)
  case h_45 =>
    cases h
    exact lv_i2b hx hb hd rfl (kk _ _ _ _ (hf rfl) hG hlr hlo)
  case h_46 =>
    cases h
    exact lv_i2s hx hb hd rfl (kk _ _ _ _ (hf rfl) hG hlr hlo)
  case h_47 =>
    split at h
    next hcv =>
      cases h
      exact lv_dup hx hb hd (by rw [am_cat]; exact hcv) (kk _ _ _ _ (hf rfl) hG hlr hlo)
    · cases h
  case h_48 =>
    split at h
    next hcv =>
      cases h
      exact lv_pop hx hb hd (by rw [am_cat]; exact hcv) (kk _ _ _ _ (hf rfl) hG hlr hlo)
    · cases h
  case h_49 =>
    split at h
    next hcv =>
      cases h
      exact lv_dup2_11 hx hb hd (by rw [am_cat]; exact hcv.1) (by rw [am_cat]; exact hcv.2) (kk _ _ _ _ (hf rfl) hG hlr hlo)
    · cases h
  case h_50 =>
    cases h
    obtain ⟨q, h1, h2⟩ := am_tgtE hk
    exact lv_goto hx hb hd h2 (kk _ _ _ _ h1 hG hlr hlo)
  case h_51 =>
    cases h
    obtain ⟨q, h1, h2⟩ := am_tgtE hk
    exact am_Wif0 hx hb hd h2 h1 (hf rfl) fun pc' hp => kk _ _ _ _ hp hG hlr hlo
  case h_52 =>
    cases h
    obtain ⟨q, h1, h2⟩ := am_tgtE hk
    exact am_Wif2 hx hb hd h2 h1 (hf rfl) fun pc' hp => kk _ _ _ _ hp hG hlr hlo
  case h_53 =>
    cases h
    exact lv_ifnull hx hb hd (kk _ _ _ _ (hf rfl) hG hlr hlo)
  case h_54 =>
    cases h
    obtain ⟨q, h1, h2⟩ := am_tgtE hk
    exact lv_ifnullN hx hb hd h2 (kk _ _ _ _ h1 hG hlr hlo)
  case h_55 =>
    cases h
    obtain ⟨q, h1, h2⟩ := am_tgtE hk
    exact lv_ifnonnull hx hb hd h2 (kk _ _ _ _ h1 hG hlr hlo)
  case h_56 =>
    cases h
    exact lv_ifnonnullN hx hb hd (kk _ _ _ _ (hf rfl) hG hlr hlo)
  case h_57 =>
    rename_i d lo hi os hd0 t ts x st0
    cases h
    simp only [am_chkI, Bool.and_eq_true, decide_eq_true_eq] at hk
    by_cases hr : x.toInt < lo ∨ hi < x.toInt
    · obtain ⟨q, h1, h2⟩ := am_tgtE hk.1.1
      rw [if_pos hr] at kk
      exact lv_tableOut hx hb hd hr h2 (kk _ _ _ _ h1 hG hlr hlo)
    · rw [if_neg hr] at kk
      obtain ⟨hr1, hr2⟩ := not_or.mp hr
      obtain ⟨o, q, h0, h1, h2⟩ := am_zipE _ _ _ _ (x.toInt - lo).toNat hk.1.2 (by omega)
      exact lv_tableIn hx hb hd hr1 hr2 (by rw [← Array.getElem?_toList]; exact h0) h2 (kk _ _ _ _ h1 hG hlr hlo)
  case h_58 =>
    cases h
    simp only [am_chkI, Bool.and_eq_true] at hk
    obtain ⟨q, h1, h2⟩ := am_lookE _ _ _ _ _ _ _ hk.1.1 hk.1.2
    exact lv_lookup hx hb hd hk.2 rfl h2 (kk _ _ _ _ h1 hG hlr hlo)
  case h_59 =>
    split at h
    next hq =>
      cases h
      simp only [am_chkI, Bool.and_eq_true, decide_eq_true_eq] at hk
      refine am_Wget hx hb C hW hown hG hk.1.1 hk.1.2 hk.2 hq hd ?_
      have := kk _ _ _ _ (hf rfl) hG hlr hlo
      rw [List.map_cons, am_rd_cv] at this
      exact this
    · cases h
  case h_60 =>
    split at h
    next hq =>
      cases h
      simp only [am_chkI, Bool.and_eq_true, Bool.or_eq_true, decide_eq_true_eq] at hk
      refine am_Wput hx hb C hW hown hG hk.1.1.1 hk.1.1.2 hk.1.2 hq.1 hq.2 ?_ hd fun H' j hG' => ?_
      · rcases hk.2 with z | z
        · exact Or.inl z
        · exact Or.inr ⟨z.1.1, hnm z.1.2, z.2⟩
      · have := kk _ _ _ _ (hf rfl) hG' hlr (am_lt (a := ⟨_, j⟩) hlo (adW _ (am_obj hG hk.1.1.1 hq.1).1))
        rw [am_wr_nx, am_wr_us] at this
        exact this
    · cases h
  case h_61 =>
    cases h
    simp only [am_chkI, Bool.and_eq_true, decide_eq_true_eq] at hk
    exact am_Wgets hx hb C hW hown hG hk.1 hk.2 hd (kk _ _ _ _ (hf rfl) hG hlr hlo)
  case h_62 =>
    obtain ⟨h1, h2, rfl, rfl, rfl, rfl⟩ := am_ldE h
    exact am_Wald (t := 0) hx hb C hW hG (by decide) h1 h2 (Or.inl ⟨rfl, rfl⟩) hd (kk _ _ _ _ (hf rfl) hG hlr hlo)
  case h_63 =>
    obtain ⟨h1, h2, rfl, rfl, rfl, rfl⟩ := am_ldE h
    exact am_Wald (t := 1) hx hb C hW hG (by decide) h1 h2 (Or.inr (Or.inl ⟨rfl, rfl⟩)) hd (kk _ _ _ _ (hf rfl) hG hlr hlo)
  case h_64 =>
    obtain ⟨h1, h2, rfl, rfl, rfl, rfl⟩ := am_ldE h
    simp only [am_chkI, decide_eq_true_eq] at hk
    rcases hk with rfl | rfl
    · exact am_Wald (t := 2) hx hb C hW hG (by decide) h1 h2 (Or.inr (Or.inr (Or.inl ⟨Or.inl rfl, rfl⟩))) hd (kk _ _ _ _ (hf rfl) hG hlr hlo)
    · exact am_Wald (t := 3) hx hb C hW hG (by decide) h1 h2 (Or.inr (Or.inr (Or.inl ⟨Or.inr rfl, rfl⟩))) hd (kk _ _ _ _ (hf rfl) hG hlr hlo)
  case h_65 =>
    obtain ⟨h1, h2, rfl, rfl, rfl, rfl⟩ := am_ldE h
    simp only [am_chkI, decide_eq_true_eq] at hk
    have := kk _ _ _ _ (hf rfl) hG hlr hlo
    rw [List.map_cons, am_rf_cv] at this
    have h3 : ∀ u : Nat, 104 ≤ u → u ≤ 106 → u = 104 ∨ u = 105 ∨ u = 106 := by omega
    rcases h3 _ hk.1 hk.2 with rfl | rfl | rfl
    · exact am_Wald (t := 4) hx hb C hW hG (by decide) h1 h2 (Or.inr (Or.inr (Or.inr ⟨by decide, rfl⟩))) hd this
    · exact am_Wald (t := 5) hx hb C hW hG (by decide) h1 h2 (Or.inr (Or.inr (Or.inr ⟨by decide, rfl⟩))) hd this
    · exact am_Wald (t := 6) hx hb C hW hG (by decide) h1 h2 (Or.inr (Or.inr (Or.inr ⟨by decide, rfl⟩))) hd this
  case h_66 =>
    obtain ⟨h1, h0, h2, rfl, rfl, rfl, rfl⟩ := am_svE h
    refine am_Wist (t := 0) hx hb C hW hG h0 (Or.inl rfl) h1 h2 (Or.inl ⟨rfl, rfl⟩) hd fun H' j hG' => ?_
    · have := kk _ _ _ _ (hf rfl) hG' hlr (am_lt (a := ⟨_, j⟩) hlo (adW _ h0))
      rw [am_wr_nx, am_wr_us] at this
      exact this
  case h_67 =>
    obtain ⟨h1, h0, h2, rfl, rfl, rfl, rfl⟩ := am_svE h
    refine am_Wlst hx hb C hW hG h0 h1 h2 hd fun H' j hG' => ?_
    · have := kk _ _ _ _ (hf rfl) hG' hlr (am_lt (a := ⟨_, j⟩) hlo (adW _ h0))
      rw [am_wr_nx, am_wr_us] at this
      exact this
  case h_68 =>
    obtain ⟨h1, h0, h2, rfl, rfl, rfl, rfl⟩ := am_svE h
    simp only [am_chkI, decide_eq_true_eq] at hk
    rcases hk with rfl | rfl
    · refine am_Wist (t := 2) hx hb C hW hG h0 (Or.inr (Or.inl rfl)) h1 h2 (Or.inr ⟨Or.inl rfl, rfl⟩) hd fun H' j hG' => ?_
      have := kk _ _ _ _ (hf rfl) hG' hlr (am_lt (a := ⟨_, j⟩) hlo (adW _ h0))
      rw [am_wr_nx, am_wr_us] at this
      exact this
    · refine am_Wist (t := 3) hx hb C hW hG h0 (Or.inr (Or.inr rfl)) h1 h2 (Or.inr ⟨Or.inr rfl, rfl⟩) hd fun H' j hG' => ?_
      have := kk _ _ _ _ (hf rfl) hG' hlr (am_lt (a := ⟨_, j⟩) hlo (adW _ h0))
      rw [am_wr_nx, am_wr_us] at this
      exact this
  case h_69 =>
    split at h
    next hv =>
      obtain ⟨h1, h0, h2, rfl, rfl, rfl, rfl⟩ := am_svE h
      simp only [am_chkI, decide_eq_true_eq] at hk
      have fin : ∀ t : Nat, am_tys t = am_tys t := fun _ => rfl
      rcases hk with ⟨rfl, rfl⟩ | ⟨rfl, rfl⟩ | ⟨rfl, rfl⟩
      · refine am_Wast (t := 4) (ci := 1) hx hb C hW hG h0 (Or.inl ⟨rfl, rfl⟩) h1 hv h2 hd fun H' j hG' => ?_
        have := kk _ _ _ _ (hf rfl) hG' hlr (am_lt (a := ⟨_, j⟩) hlo (adW _ h0))
        rw [am_wr_nx, am_wr_us] at this
        exact this
      · refine am_Wast (t := 5) (ci := 5) hx hb C hW hG h0 (Or.inr (Or.inl ⟨rfl, rfl⟩)) h1 hv h2 hd fun H' j hG' => ?_
        have := kk _ _ _ _ (hf rfl) hG' hlr (am_lt (a := ⟨_, j⟩) hlo (adW _ h0))
        rw [am_wr_nx, am_wr_us] at this
        exact this
      · refine am_Wast (t := 6) (ci := 0) hx hb C hW hG h0 (Or.inr (Or.inr ⟨rfl, rfl⟩)) h1 hv h2 hd fun H' j hG' => ?_
        have := kk _ _ _ _ (hf rfl) hG' hlr (am_lt (a := ⟨_, j⟩) hlo (adW _ h0))
        rw [am_wr_nx, am_wr_us] at this
        exact this
    · cases h
  case h_70 =>
    split at h
    next hq =>
      cases h
      exact am_Walen hx hb C hW hG hq.1 hq.2 hd (kk _ _ _ _ (hf rfl) hG hlr hlo)
    · cases h
  case h_71 =>
    split at h
    · cases h
    next hn =>
      cases h
      obtain ⟨hn1, hn2⟩ := not_or.mp hn
      have e1 : ∀ tag n cost, am_nx (am_new M tag n cost) - c0 = am_nx M - c0 + 1 := fun tag n cost => by show am_nx M + 1 - c0 = _; omega
      have e2 : ∀ tag n cost, am_us (am_new M tag n cost) - u0 = am_us M - u0 + cost := fun tag n cost => by show am_us M + cost - u0 = _; omega
      rw [e1] at hc
      rw [e2] at hs
      simp only [am_chkI, Bool.and_eq_true, decide_eq_true_eq] at hk
      refine am_Wnewa hx hb C hW hG hk.1.1 hk.1.2 hk.2 hn1 hn2 hc hs hd fun H' hG' => ?_
      have := kk _ _ _ _ (hf rfl) hG' hlr hlo
      rw [e1, e2] at this
      exact this
  case h_72 =>
    split at h
    · cases h
    next hn =>
      cases h
      obtain ⟨hn1, hn2⟩ := not_or.mp hn
      have e1 : ∀ tag n cost, am_nx (am_new M tag n cost) - c0 = am_nx M - c0 + 1 := fun tag n cost => by show am_nx M + 1 - c0 = _; omega
      have e2 : ∀ tag n cost, am_us (am_new M tag n cost) - u0 = am_us M - u0 + cost := fun tag n cost => by show am_us M + cost - u0 = _; omega
      rw [e1] at hc
      rw [e2] at hs
      rename_i x t w w2 n st0
      have hk : decide (4 ≤ t ∧ t ≤ 6) = true ∧ (match am_tys t with
        | .object C => am_w w (.classLink own x C) && am_w w2 (.arrayOver (.object C))
        | _ => false) = true := by
        have hk : (decide (4 ≤ t ∧ t ≤ 6) && (match am_tys t with
          | .object C => am_w w (.classLink own x C) && am_w w2 (.arrayOver (.object C))
          | _ => false)) = true := hk
        exact (Bool.and_eq_true _ _).mp hk
      obtain ⟨k1, k2⟩ := hk
      have k1 := of_decide_eq_true k1
      split at k2
      next Cn hty =>
        rw [Bool.and_eq_true] at k2
        refine am_Wanew hx hb C hW hown hG k1 hty k2.1 k2.2 hn1 hn2 hc hs hd fun H' hG' => ?_
        have := kk _ _ _ _ (hf rfl) hG' hlr hlo
        rw [e1, e2] at this
        exact this
      next => cases k2
  case h_73 =>
    cases h
    have e1 : ∀ tag n cost, am_nx (am_new M tag n cost) - c0 = am_nx M - c0 + 1 := fun tag n cost => by show am_nx M + 1 - c0 = _; omega
    have e2 : ∀ tag n cost, am_us (am_new M tag n cost) - u0 = am_us M - u0 + cost := fun tag n cost => by show am_us M + cost - u0 = _; omega
    rw [e1] at hc
    rw [e2] at hs
    simp only [am_chkI, Bool.and_eq_true, decide_eq_true_eq] at hk
    refine am_Wnew hx hb C hW hown hG hk.1.1.1 hk.1.1.2 hk.1.2 hk.2 hc hs hd fun H' hG' => ?_
    have := kk _ _ _ _ (hf rfl) hG' hlr hlo
    rw [e1, e2] at this
    exact this
  case h_74 =>
    cases h
end AMS
end
section
theorem am_inside {ro : Nat → Nat} {s0 : State} {L : Nat} {xs : Nat → Int32} {D : va_G} {ct : Nat → ClassId} {M : am_M} : ∀ (a : Array Value) (U : State) (g : JFrame) (mk : MethodId) (as : List Value), am_Pc D ct ro s0 L xs M as a U → am_Pc D ct ro s0 L xs M as a (U.calling g mk a) := fun _ _ _ _ _ h => h
section AMC
variable {p : Program} {l : Launch} {e : Env} {R : Room} {s : State} {m : MethodId} {args : Array Value} {below : List Frame} {meth : Method} {c : Code} {H : Heap} {locs : List Loc} {cells slots : Nat} {Q : State → Prop}
variable {cc : ByteArray} {pc : Nat} {arr : Array Slot} {rest : List Value} {D : va_G} {ct : Nat → ClassId} {ro : Nat → Nat} {b : Nat} {s0 : State} {L : Nat} {xs : Nat → Int32} {M : am_M} {own : String}
theorem am_Wback {M1 : am_M} {r : Option Value} {mc ms : Nat} {st0 rest : List Value} {a : Array Value} (hr : va_Run p l e R s m args below meth c H locs cells slots mc ms (F0 m pc arr st0) rest (am_Qc D ct ro s0 L xs M1 r a) (fun q => s0.heap.size ≤ q)) (hlo : ∀ q ∈ locs, s0.heap.size ≤ q.base)
    (kk : ∀ (H' : Heap) (locs' : List Loc), am_G D ct ro s0 L xs M1 H' → (∀ q ∈ locs', s0.heap.size ≤ q.base) → W p l e R s m args below meth c H' locs' (cells + mc) (slots + ms) Q (F0 m (pc + 3) arr ((r.map (am_cv (am_ad s0 ro))).toList ++ rest))) : W p l e R s m args below meth c H locs cells slots Q (F0 m pc arr st0) := by
  intro T hT X
  obtain ⟨v, st₀, t, T', L', h0, X', hL, e1, e2, hq, go⟩ := hr T hT X
  obtain ⟨hv, hG'⟩ := hq
  cases hv
  obtain ⟨t2, a1, b1⟩ := kk T'.heap (locs ++ L') (by rw [e1]; exact hG') (fun q hq => by
    rcases List.mem_append.mp hq with h | h
    · exact hlo q h
    · exact hL q h) T' rfl X'
  exact ⟨t2, go t2 a1, b1⟩
theorem am_WbackS {r : Int32} {st0 rest : List Value} {a : Array Value} (hr : va_Run p l e R s m args below meth c H locs cells slots 0 0 (F0 m pc arr st0) rest (am_QcS r a) (fun _ => False))
    (kk : W p l e R s m args below meth c H locs cells slots Q (F0 m (pc + 3) arr (.int r :: rest))) : W p l e R s m args below meth c H locs cells slots Q (F0 m pc arr st0) := by
  intro T hT X
  obtain ⟨v, st₀, t, T', L', h0, X', hL, e1, e2, hq, go⟩ := hr T hT X
  obtain ⟨hv, hG'⟩ := hq
  cases hv
  have hL0 : L' = [] := by
    cases L' with
    | nil => rfl
    | cons z zs => exact (hL z List.mem_cons_self).elim
  subst hL0
  rw [List.append_nil] at X'
  obtain ⟨t2, a1, b1⟩ := kk T' (by rw [e1, hG', h0]) X'
  exact ⟨t2, go t2 a1, b1⟩
theorem am_notMH {inf : am_I} {n : Nat} (h : am_chkN inf n = true) : (parseMethodDescriptor inf.1.desc).map (fun d => d.parameters.length) = some n ∧ (inf.1.cls ≠ "java/lang/invoke/MethodHandle" ∧ inf.1.cls ≠ "java/lang/invoke/VarHandle") ∧ inf.2.2.1 ≤ 41 := by
  simp only [am_chkN, Bool.and_eq_true, decide_eq_true_eq] at h
  exact ⟨h.1.1.1, ⟨h.1.1.2, h.1.2⟩, h.2⟩
def am_con (D : va_G) (ct : Nat → ClassId) (ro : Nat → Nat) (s0 : State) (L : Nat) (xs : Nat → Int32) (l : Launch) (d : Nat) (inf : am_I) (as : List Value) (M : am_M) (r : Option Value) (M1 : am_M) : Prop :=
  Met l inf.1 [Cond.code inf.1 inf.2.1 inf.2.2.1 inf.2.2.2.1] { frames := d, cells := am_nx M1 - am_nx M, slots := am_us M1 - am_us M, locals := 60 * d } (am_Pc D ct ro s0 L xs M as) (am_Qc D ct ro s0 L xs M1 r) (am_nx M1 - am_nx M) (am_us M1 - am_us M) (fun q => s0.heap.size ≤ q)
theorem am_callB (C : am_C0 D ct ro b s0 L xs) (hW : s0.WarmedH s.vm) {d n x w1 w2 w4 mc ms : Nat} {inf : am_I} {rt : Option FieldType} (hrt : inf.2.2.2.1 = rt) (hn : am_chkN inf n = true) (h1 : am_w w1 (.methodLink own x inf.1) = true) (h2 : am_w w2 (.code inf.1 inf.2.1 inf.2.2.1 inf.2.2.2.1) = true) (h4 : am_w w4 (.initialized inf.1.cls) = true) (hF : d + 1 ≤ R.frames) (hLc : 60 * (d + 1) ≤ R.locals) :
    CallB R s args own x inf.1 inf.2.1 inf.2.2.1 rt [Cond.code inf.1 inf.2.1 inf.2.2.1 inf.2.2.2.1] { frames := d, cells := mc, slots := ms, locals := 60 * d } mc ms n := by
  obtain ⟨n1, n2, n3⟩ := am_notMH hn
  subst hrt
  refine ⟨rfl, rfl, hF, ?_, fun w hw a' U hU => ?_, List.mem_singleton.mpr rfl, am_word C hW h2 rfl args, am_word C hW h4 rfl args, n2, fun sig hs => ?_, am_word C hW h1 rfl args⟩
  · show 8 + (inf.2.2.1 + 11) + 60 * d ≤ R.locals
    omega
  · rw [List.mem_singleton] at hw
    subst hw
    exact am_word C (State.WarmedH.trans hW hU) h2 rfl a'
  · rw [hs] at n1
    simpa using n1.symm
theorem am_WcallV (hx : p.tables.exec = Jvm.exec) (hb : c.code = cc) (hml : c.maxLocals = arr.size) (C : am_C0 D ct ro b s0 L xs) (hW : s0.WarmedH s.vm) (hown : s.vm.findClass own = some m.cls) (hG : am_G D ct ro s0 L xs M H) (hlo : ∀ q ∈ locs, s0.heap.size ≤ q.base)
    {d n x ci w1 w2 w3 w4 w5 q : Nat} {inf : am_I} {as : List Value} {r : Option Value} {M1 : am_M} (hM : am_con D ct ro s0 L xs l d inf (.ref q :: as) M r M1) (hci : ci < 8) (hcls : inf.1.cls = am_cn ci) (hq : (am_sh M q).1 = ci) (hn : am_chkN inf n = true) (h1 : am_w w1 (.methodLink own x inf.1) = true) (h2 : am_w w2 (.code inf.1 inf.2.1 inf.2.2.1 inf.2.2.2.1) = true) (h3 : am_w w3 (.instanceMethod inf.1) = true) (h4 : am_w w4 (.selects (am_cn ci) inf.1 inf.1) = true) (h5 : am_w w5 (.initialized inf.1.cls) = true)
    (hF : d + 1 ≤ R.frames) (hLc : 60 * (d + 1) ≤ R.locals) (hlen : as.length = n) (hsum : (rest.map fun v => v.category).sum ≤ 8) (hc : cells + (am_nx M1 - am_nx M) ≤ R.cells) (hs : slots + (am_us M1 - am_us M) ≤ R.slots) (hdg : decode cc pc = .ok (.invokevirtual x, 3))
    (kk : ∀ (H' : Heap) (locs' : List Loc), am_G D ct ro s0 L xs M1 H' → (∀ q ∈ locs', s0.heap.size ≤ q.base) → W p l e R s m args below meth c H' locs' (cells + (am_nx M1 - am_nx M)) (slots + (am_us M1 - am_us M)) Q (F0 m (pc + 3) arr ((r.map (am_cv (am_ad s0 ro))).toList ++ rest.map (am_cv (am_ad s0 ro))))) :
    W p l e R s m args below meth c H locs cells slots Q (F0 m pc arr ((as.map (am_cv (am_ad s0 ro))).reverse ++ .ref (am_ad s0 ro q) :: rest.map (am_cv (am_ad s0 ro)))) := by
  obtain ⟨-, -, cell, g1, g2, g3, -⟩ := am_obj hG hci hq
  have hcl := (u_Kn_moved hW.alike (C.2.1 ci hci)).2
  refine am_Wback (va_runV (own := own) (C := am_cn ci) (As := as.map (am_cv (am_ad s0 ro))) (Ts := []) ⟨hx, hb, hml, hown, fun _ h => absurd h List.not_mem_nil⟩ hM ⟨am_callB C hW rfl hn h1 h2 h5 hF hLc, am_word C hW h3 rfl args, am_word C hW h4 rfl args⟩
    ⟨fun _ _ _ _ h => h, ⟨cell, g1, by rw [g3]; rfl, by rw [g2]; exact hcl.1⟩, fun U hU hV => ⟨rfl, State.WarmedH.trans hW hV, by rw [hU]; exact hG⟩⟩ rfl (by rw [List.length_map]; exact hlen) rfl rfl (lv_room (by rw [am_cats]; exact hsum)) hdg ⟨hc, hs⟩) hlo kk
theorem am_WcallS (hx : p.tables.exec = Jvm.exec) (hb : c.code = cc) (hml : c.maxLocals = arr.size) (C : am_C0 D ct ro b s0 L xs) (hW : s0.WarmedH s.vm) (hown : s.vm.findClass own = some m.cls) (hG : am_G D ct ro s0 L xs M H) (hlo : ∀ q ∈ locs, s0.heap.size ≤ q.base)
    {d n x w1 w2 w3 w4 : Nat} {inf : am_I} {as : List Value} {r : Option Value} {M1 : am_M} (hM : am_con D ct ro s0 L xs l d inf as M r M1) (hn : am_chkN inf n = true) (h1 : am_w w1 (.methodLink own x inf.1) = true) (h2 : am_w w2 (.code inf.1 inf.2.1 inf.2.2.1 inf.2.2.2.1) = true) (h3 : am_w w3 (.static inf.1) = true) (h4 : am_w w4 (.initialized inf.1.cls) = true)
    (hF : d + 1 ≤ R.frames) (hLc : 60 * (d + 1) ≤ R.locals) (hlen : as.length = n) (hsum : (rest.map fun v => v.category).sum ≤ 8) (hc : cells + (am_nx M1 - am_nx M) ≤ R.cells) (hs : slots + (am_us M1 - am_us M) ≤ R.slots) (hdg : decode cc pc = .ok (.invokestatic x, 3))
    (kk : ∀ (H' : Heap) (locs' : List Loc), am_G D ct ro s0 L xs M1 H' → (∀ q ∈ locs', s0.heap.size ≤ q.base) → W p l e R s m args below meth c H' locs' (cells + (am_nx M1 - am_nx M)) (slots + (am_us M1 - am_us M)) Q (F0 m (pc + 3) arr ((r.map (am_cv (am_ad s0 ro))).toList ++ rest.map (am_cv (am_ad s0 ro))))) :
    W p l e R s m args below meth c H locs cells slots Q (F0 m pc arr ((as.map (am_cv (am_ad s0 ro))).reverse ++ rest.map (am_cv (am_ad s0 ro)))) := by
  refine am_Wback (va_runS (own := own) (As := as.map (am_cv (am_ad s0 ro))) (Ts := []) ⟨hx, hb, hml, hown, fun _ h => absurd h List.not_mem_nil⟩ hM ⟨am_callB C hW rfl hn h1 h2 h4 hF hLc, am_word C hW h3 rfl args⟩
    ⟨fun _ _ _ _ h => h, fun U hU hV => ⟨rfl, State.WarmedH.trans hW hV, by rw [hU]; exact hG⟩⟩ rfl (by rw [List.length_map]; exact hlen) rfl rfl (lv_room (by rw [am_cats]; exact hsum)) hdg ⟨hc, hs⟩) hlo kk
theorem am_WcallI (hx : p.tables.exec = Jvm.exec) (hb : c.code = cc) (hml : c.maxLocals = arr.size) (C : am_C0 D ct ro b s0 L xs) (hW : s0.WarmedH s.vm) (hown : s.vm.findClass own = some m.cls) (hG : am_G D ct ro s0 L xs M H) (hlo : ∀ q ∈ locs, s0.heap.size ≤ q.base)
    {d n x w1 w2 w3 w4 q : Nat} {inf : am_I} {as : List Value} {r : Option Value} {M1 : am_M} (hM : am_con D ct ro s0 L xs l d inf (.ref q :: as) M r M1) (hin : inf.1.name = "<init>") (hrt : inf.2.2.2.1 = none) (hn : am_chkN inf n = true) (h1 : am_w w1 (.methodLink own x inf.1) = true) (h2 : am_w w2 (.code inf.1 inf.2.1 inf.2.2.1 inf.2.2.2.1) = true) (h3 : am_w w3 (.instanceMethod inf.1) = true) (h4 : am_w w4 (.initialized inf.1.cls) = true)
    (hF : d + 1 ≤ R.frames) (hLc : 60 * (d + 1) ≤ R.locals) (hlen : as.length = n) (hsum : (rest.map fun v => v.category).sum ≤ 8) (hc : cells + (am_nx M1 - am_nx M) ≤ R.cells) (hs : slots + (am_us M1 - am_us M) ≤ R.slots) (hdg : decode cc pc = .ok (.invokespecial x, 3))
    (kk : ∀ (H' : Heap) (locs' : List Loc), am_G D ct ro s0 L xs M1 H' → (∀ q ∈ locs', s0.heap.size ≤ q.base) → W p l e R s m args below meth c H' locs' (cells + (am_nx M1 - am_nx M)) (slots + (am_us M1 - am_us M)) Q (F0 m (pc + 3) arr ((r.map (am_cv (am_ad s0 ro))).toList ++ rest.map (am_cv (am_ad s0 ro))))) :
    W p l e R s m args below meth c H locs cells slots Q (F0 m pc arr ((as.map (am_cv (am_ad s0 ro))).reverse ++ .ref (am_ad s0 ro q) :: rest.map (am_cv (am_ad s0 ro)))) := by
  refine am_Wback (va_runI (own := own) (As := as.map (am_cv (am_ad s0 ro))) (Ts := []) ⟨hx, hb, hml, hown, fun _ h => absurd h List.not_mem_nil⟩ hM ⟨am_callB C hW hrt hn h1 h2 h4 hF hLc, hin, am_word C hW h3 rfl args⟩
    ⟨fun _ _ _ _ h => h, fun U hU hV => ⟨rfl, State.WarmedH.trans hW hV, by rw [hU]; exact hG⟩⟩ rfl (by rw [List.length_map]; exact hlen) rfl rfl (lv_room (by rw [am_cats]; exact hsum)) hdg ⟨hc, hs⟩) hlo kk
theorem am_WcallN (hx : p.tables.exec = Jvm.exec) (hb : c.code = cc) (hml : c.maxLocals = arr.size) (C : am_C0 D ct ro b s0 L xs) (hW : s0.WarmedH s.vm) (hown : s.vm.findClass own = some m.cls) (hG : am_G D ct ro s0 L xs M H) (hlo : ∀ q ∈ locs, s0.heap.size ≤ q.base)
    {d n x w1 w2 w3 w4 q : Nat} {inf : am_I} {as : List Value} {r : Option Value} {M1 : am_M} (hM : am_con D ct ro s0 L xs l d inf (.ref q :: as) M r M1) (hin : inf.1.name = "<init>") (hrt : inf.2.2.2.1 = none) (hn : am_chkN inf n = true) (h1 : am_w w1 (.methodLinkNest own x inf.1 "AirByYard") = true) (h2 : am_w w2 (.code inf.1 inf.2.1 inf.2.2.1 inf.2.2.2.1) = true) (h3 : am_w w3 (.instanceMethod inf.1) = true) (h4 : am_w w4 (.initialized inf.1.cls) = true)
    (hF : d + 1 ≤ R.frames) (hLc : 60 * (d + 1) ≤ R.locals) (hlen : as.length = n) (hsum : (rest.map fun v => v.category).sum ≤ 8) (hc : cells + (am_nx M1 - am_nx M) ≤ R.cells) (hs : slots + (am_us M1 - am_us M) ≤ R.slots) (hdg : decode cc pc = .ok (.invokespecial x, 3))
    (kk : ∀ (H' : Heap) (locs' : List Loc), am_G D ct ro s0 L xs M1 H' → (∀ q ∈ locs', s0.heap.size ≤ q.base) → W p l e R s m args below meth c H' locs' (cells + (am_nx M1 - am_nx M)) (slots + (am_us M1 - am_us M)) Q (F0 m (pc + 3) arr ((r.map (am_cv (am_ad s0 ro))).toList ++ rest.map (am_cv (am_ad s0 ro))))) :
    W p l e R s m args below meth c H locs cells slots Q (F0 m pc arr ((as.map (am_cv (am_ad s0 ro))).reverse ++ .ref (am_ad s0 ro q) :: rest.map (am_cv (am_ad s0 ro)))) := by
  obtain ⟨n1, n2, n3⟩ := am_notMH hn
  refine am_Wback (va_runIN (own := own) (host := "AirByYard") (As := as.map (am_cv (am_ad s0 ro))) (Ts := []) (maxL := inf.2.2.1) (bytes := inf.2.1) (n := n) ⟨hx, hb, hml, hown, fun _ h => absurd h List.not_mem_nil⟩ hM
    ⟨⟨⟨rfl, rfl, hF, by show 8 + (inf.2.2.1 + 11) + 60 * d ≤ R.locals; omega, fun w hw a' U hU => by
      rw [List.mem_singleton] at hw
      subst hw
      exact am_word C (State.WarmedH.trans hW hU) h2 rfl a', by rw [← hrt]; exact List.mem_singleton.mpr rfl⟩, by rw [← hrt]; exact am_word C hW h2 rfl args, am_word C hW h4 rfl args, n2, fun sig hs => by rw [hs] at n1; simpa using n1.symm, va_Nw.use rfl ((va_Nw.of rfl (C.1 _ (List.mem_of_getElem? (am_wE h1)))).warmM hW)⟩, hin, am_word C hW h3 rfl args⟩
    ⟨fun _ _ _ _ h => h, fun U hU hV => ⟨rfl, State.WarmedH.trans hW hV, by rw [hU]; exact hG⟩⟩ rfl (by rw [List.length_map]; exact hlen) rfl rfl (lv_room (by rw [am_cats]; exact hsum)) hdg ⟨hc, hs⟩) hlo kk
theorem am_Wobj (hx : p.tables.exec = Jvm.exec) (hb : c.code = cc) (hml : c.maxLocals = arr.size) (C : am_C0 D ct ro b s0 L xs) (hW : s0.WarmedH s.vm) (hown : s.vm.findClass own = some m.cls) {x w1 w2 w3 q : Nat} (h1 : am_w w1 (.methodLink own x objectInit) = true) (h2 : am_w w2 (.instanceMethod objectInit) = true) (h3 : am_w w3 (.code objectInit ⟨#[0xb1]⟩ 1 none) = true)
    (hF : 1 ≤ R.frames) (hLc : 60 ≤ R.locals) (hsum : (rest.map fun v => v.category).sum ≤ 8) (hdg : decode cc pc = .ok (.invokespecial x, 3))
    (kk : W p l e R s m args below meth c H locs cells slots Q (F0 m (pc + 3) arr rest)) : W p l e R s m args below meth c H locs cells slots Q (F0 m pc arr (.ref q :: rest)) :=
  W.objInit hx hb hown (am_word C hW h1 rfl args) (am_word C hW h2 rfl args) (am_word C hW h3 rfl args) rfl hml.symm rfl hdg hF (by show 2 * 0 + _ + 12 ≤ R.locals; omega) kk
theorem am_Wstr (hx : p.tables.exec = Jvm.exec) (hb : c.code = cc) (hml : c.maxLocals = arr.size) (C : am_C0 D ct ro b s0 L xs) (hW : s0.WarmedH s.vm) (hown : s.vm.findClass own = some m.cls) (hG : am_G D ct ro s0 L xs M H) {n x w1 w2 w3 w4 w5 q mL : Nat} {y : MethodName} {bytes : ByteArray} {rt : Option FieldType} {as : List Value} {r : Int32}
    (hM : Met l y [Cond.code y bytes mL rt] am_rmS (am_PcS s0 (.ref (ro q) :: as)) (am_QcS r) 0 0 (fun _ => False)) (hcell : ∃ cell : Cell, s0.heap[ro q]? = some cell ∧ cell.vm.isStatics = false ∧ s0.vm.findClass RJ0 = some cell.cls)
    (hn : (parseMethodDescriptor y.desc).map (fun d => d.parameters.length) = some n) (hnm : y.cls ≠ "java/lang/invoke/MethodHandle" ∧ y.cls ≠ "java/lang/invoke/VarHandle") (hm2 : mL ≤ 41) (h1 : am_w w1 (.methodLink own x y) = true) (h2 : am_w w2 (.code y bytes mL rt) = true) (h3 : am_w w3 (.instanceMethod y) = true) (h4 : am_w w4 (.selects RJ0 y y) = true) (h5 : am_w w5 (.initialized y.cls) = true)
    (hF : 7 ≤ R.frames) (hLc : 420 ≤ R.locals) (hlen : as.length = n) (hsum : (rest.map fun v => v.category).sum ≤ 8) (hc : cells ≤ R.cells) (hs : slots ≤ R.slots) (hdg : decode cc pc = .ok (.invokevirtual x, 3))
    (kk : W p l e R s m args below meth c H locs cells slots Q (F0 m (pc + 3) arr (.int r :: rest))) :
    W p l e R s m args below meth c H locs cells slots Q (F0 m pc arr (as.reverse ++ .ref (ro q) :: rest)) := by
  obtain ⟨cell, g1, g2, g3⟩ := hcell
  have hlt : ro q < s0.heap.size := (Array.getElem?_eq_some_iff.mp g1).1
  refine am_WbackS (va_runV (own := own) (C := RJ0) (As := as) (Ts := []) (n := n) (maxL := mL) (bytes := bytes) (ret := rt) ⟨hx, hb, hml, hown, fun _ h => absurd h List.not_mem_nil⟩ hM ⟨⟨rfl, rfl, by show 5 + 1 ≤ R.frames; omega, by show 8 + (mL + 11) + 300 ≤ R.locals; omega, fun w hw a' U hU => ?_, List.mem_singleton.mpr rfl, am_word C hW h2 rfl args, am_word C hW h5 rfl args, hnm, fun sig hs => by rw [hs] at hn; simpa using hn.symm, am_word C hW h1 rfl args⟩, am_word C hW h3 rfl args, am_word C hW h4 rfl args⟩
    ⟨fun _ _ _ _ h => h, ⟨cell, by rw [hG.2.2.1 _ hlt]; exact g1, g2, by rw [hW.alike.findClass]; exact g3⟩, fun U hU hV => ⟨rfl, State.WarmedH.trans hW hV, fun z hz => by rw [hU]; exact hG.2.2.1 z hz⟩⟩ rfl hlen rfl rfl (lv_room hsum) hdg ⟨by omega, by omega⟩) kk
  rw [List.mem_singleton] at hw
  subst hw
  exact am_word C (State.WarmedH.trans hW hU) h2 rfl a'
theorem am_Wcopy {α : Type} (mk : α → Value) (hx : p.tables.exec = Jvm.exec) (hb : c.code = cc) (hml : c.maxLocals = arr.size) (C : am_C0 D ct ro b s0 L xs) (hW : s0.WarmedH s.vm) (hown : s.vm.findClass own = some m.cls) {x w1 w2 w3 w4 a0 a t n0 n1 : Nat} {f g : Nat → α} (ht : t ≤ 3) (hp0 : H[a0]? = some (arrV (ct t) n0 (fun j => mk (f j)))) (hp1 : H[a]? = some (arrV (ct t) n1 (fun j => mk (g j)))) (hfit : ∀ z, fits (am_tys t) (mk z) = true) (hone : ∀ z, (mk z).category = (mk z).category)
    (k1 : am_w w1 (.methodLink own x arraycopyName) = true) (k2 : am_w w2 (.native arraycopyName) = true) (k3 : am_w w3 (.static arraycopyName) = true) (k4 : am_w w4 (.initialized "java/lang/System") = true)
    {sp dp n : Int32} (h1 : ¬ sp < 0) (h2 : ¬ dp < 0) (h3 : ¬ n < 0) (h4 : sp.toNatClampNeg + n.toNatClampNeg ≤ n0) (h5 : dp.toNatClampNeg + n.toNatClampNeg ≤ n1) (hF : 7 ≤ R.frames) (hLc : 420 ≤ R.locals) (hsum : (rest.map fun v => v.category).sum ≤ 8) (hdg : decode cc pc = .ok (.invokestatic x, 3))
    (kk : ∀ (H1 : Heap) (locs1 : List Loc), H1[a]? = some (arrV (ct t) n1 (fun j => mk (va_cpy f g sp.toNatClampNeg dp.toNatClampNeg n.toNatClampNeg j))) → H1.size = H.size → (∀ q : Nat, q ≠ a → H1[q]? = H[q]?) → (∀ q ∈ locs1, q ∈ locs ∨ q.base = a) → W p l e R s m args below meth c H1 locs1 cells slots Q (F0 m (pc + 3) arr rest)) : W p l e R s m args below meth c H locs cells slots Q (F0 m pc arr (.int n :: .int dp :: .ref a :: .int sp :: .ref a0 :: rest)) := by
  have nn : ∀ z : Int32, ¬ z < 0 → z.toInt = (z.toNatClampNeg : Int) := by
    intro z hz
    have hz0 : (0 : Int) ≤ z.toInt := by
      have := Int32.not_lt.mp hz
      simpa using Int32.le_iff_toInt_le.mp this
    show z.toInt = ((z.toInt.toNat : Nat) : Int)
    omega
  have hty : refKind (am_tys t) = false := by
    rcases (by omega : t = 0 ∨ t = 1 ∨ t = 2 ∨ t = 3) with rfl | rfl | rfl | rfl <;> rfl
  have hA := arrOfT_moved hW.alike (C.2.2.1 t (by omega)).1
  have hnw : nativeFrameWords "java/lang/System" "arraycopy" 5 + 11 ≤ 60 := by decide
  intro T hT X
  obtain ⟨-, k0', hk0, cm0, hkk0⟩ := hA n0 (fun j => mk (f j))
  obtain ⟨-, k1', hk1, cm1, hkk1⟩ := hA n1 (fun j => mk (g j))
  obtain ⟨vm', X', step⟩ := X.arraycopy hx hown (am_word C hW k1 rfl args) (am_word C hW k2 rfl args) (am_word C hW k3 rfl args) (am_word C hW k4 rfl args) (src := a0) (dst := a) (cs := arrV (ct t) n0 (fun j => mk (f j))) (cd := arrV (ct t) n1 (fun j => mk (g j))) (srcPos := sp) (destPos := dp) (n := n) (by rw [hT]; exact hp0) (by rw [hT]; exact hp1)
    (fun _ h => by cases h) (fun _ h => by cases h) (fun h => by cases h) (fun h => by cases h) hk0 hk1 hkk0 hkk1 (by simp [hty]) h1 h2 h3
    (by rw [nn sp h1, nn n h3, arrV_size]; omega)
    (by rw [nn dp h2, nn n h3, arrV_size]; omega)
    (fun vm₁ _ i hi => by
      have e : (arrV (ct t) n0 (fun j => mk (f j))).slots.getD (sp.toNatClampNeg + i) .null = mk (f (sp.toNatClampNeg + i)) := by
        rw [Array.getD_eq_getD_getElem?, arrV_read _ _ (by omega)]
        rfl
      refine ⟨?_, ?_⟩
      · rw [e]
        exact hfit _
      · rw [e]
        rcases (by omega : t = 0 ∨ t = 1 ∨ t = 2 ∨ t = 3) with rfl | rfl | rfl | rfl
        · have := hfit (f (sp.toNatClampNeg + i))
          cases hz : mk (f (sp.toNatClampNeg + i)) <;> rw [hz] at this <;> first | exact trivial | cases this
        · have := hfit (f (sp.toNatClampNeg + i))
          cases hz : mk (f (sp.toNatClampNeg + i)) <;> rw [hz] at this <;> first | exact trivial | cases this
        · have := hfit (f (sp.toNatClampNeg + i))
          cases hz : mk (f (sp.toNatClampNeg + i)) <;> rw [hz] at this <;> first | exact trivial | cases this
        · have := hfit (f (sp.toNatClampNeg + i))
          cases hz : mk (f (sp.toNatClampNeg + i)) <;> rw [hz] at this <;> first | exact trivial | cases this)
    (g := F0 m pc arr (.int n :: .int dp :: .ref a :: .int sp :: .ref a0 :: rest)) rfl (by rw [hml]) (rest := rest) rfl (by rw [hb]; exact hdg) (by omega) (by show 2 * 0 + _ + _ ≤ _; omega)
  have e1 : copied (arrV (ct t) n0 (fun j => mk (f j))) (arrV (ct t) n1 (fun j => mk (g j))) sp dp n = arrV (ct t) n1 (fun j => mk (va_cpy f g sp.toNatClampNeg dp.toNatClampNeg n.toNatClampNeg j)) := va_copied mk (ct t) (ct t) f g h4
  rw [e1] at X' step
  have hl : a < H.size := (Array.getElem?_eq_some_iff.mp hp1).1
  generalize hcell : arrV (ct t) n1 (fun j => mk (va_cpy f g sp.toNatClampNeg dp.toNatClampNeg n.toNatClampNeg j)) = cell at X' step kk
  have hheap : ((T.setVm vm').setCell a cell).heap = H.setIfInBounds a cell := by rw [← hT]; rfl
  obtain ⟨t2, a1, b1⟩ := kk (H.setIfInBounds a cell) _ (by simp [Array.getElem?_setIfInBounds, hl]) (by simp) (fun q hq => by simp [Array.getElem?_setIfInBounds, Ne.symm hq]) (fun q hq => by
      rcases List.mem_append.mp hq with h | h
      · exact Or.inl h
      · obtain ⟨z, -, hz⟩ := List.mem_map.mp h
        rw [← hz]
        exact Or.inr rfl) _ hheap X'
  exact ⟨t2, step t2 a1, b1⟩
end AMC
end
section
theorem am_wr_mono (M : am_M) (p k : Nat) (v : Value) : am_nx M ≤ am_nx (am_wr M p k v) ∧ am_us M ≤ am_us (am_wr M p k v) := by
  rw [am_wr_nx, am_wr_us]
  exact ⟨Nat.le_refl _, Nat.le_refl _⟩
theorem am_new_mono (M : am_M) (tag n cost : Nat) : am_nx M ≤ am_nx (am_new M tag n cost) ∧ am_us M ≤ am_us (am_new M tag n cost) := ⟨Nat.le_succ _, Nat.le_add_right _ _⟩
set_option maxHeartbeats 4000000 in
theorem am_step_mono {ins : Instr} {aux : List Nat} {i : Nat} {ls st : List Value} {M : am_M} {i' : Nat} {ls' st' : List Value} {M' : am_M} (h : am_step ins aux i ls st M = some (i', ls', st', M')) : am_nx M ≤ am_nx M' ∧ am_us M ≤ am_us M' := by
  have rf : am_nx M ≤ am_nx M ∧ am_us M ≤ am_us M := ⟨Nat.le_refl _, Nat.le_refl _⟩
  unfold am_step at h
  split at h <;> first
    | (cases h; done)
    | (cases h; exact rf)
    | (obtain ⟨_, _, _, _, _, rfl⟩ := am_ld0 h; exact rf)
    | (obtain ⟨_, _, _, _, _, rfl⟩ := am_ld1 h; exact rf)
    | (rcases am_ld2 h with ⟨_, _, _, _, _, rfl⟩ | ⟨_, _, _, _, rfl⟩ <;> exact rf)
    | (obtain ⟨_, _, _, _, _, _, rfl⟩ := am_st0 h; exact rf)
    | (obtain ⟨_, _, _, _, _, _, rfl⟩ := am_st1 h; exact rf)
    | (obtain ⟨_, _, _, _, _, _, _, rfl⟩ := am_st2 h; exact rf)
    | (obtain ⟨_, _, _, _, _, rfl⟩ := am_ldE h; exact rf)
    | (obtain ⟨_, _, _, _, _, _, rfl⟩ := am_svE h; exact am_wr_mono _ _ _ _)
    | (split at h <;> first | (cases h; exact rf) | (cases h; exact am_wr_mono _ _ _ _) | (cases h; exact am_new_mono _ _ _ _) | (obtain ⟨_, _, h2⟩ := Option.map_eq_some_iff.mp h; cases h2; exact rf) | (obtain ⟨_, _, _, _, _, _, rfl⟩ := am_svE h; exact am_wr_mono _ _ _ _) | cases h)
    | (cases h; exact am_new_mono _ _ _ _)
theorem am_prim_mono {aux : List Nat} {i : Nat} {ls st : List Value} {M : am_M} {i' : Nat} {ls' st' : List Value} {M' : am_M} (h : am_prim aux i ls st M = some (i', ls', st', M')) : am_nx M = am_nx M' ∧ am_us M = am_us M' := by
  unfold am_prim at h
  split at h
  · split at h
    · cases h; exact ⟨rfl, rfl⟩
    · cases h
  · split at h
    · split at h
      · cases h; exact ⟨rfl, rfl⟩
      · cases h; exact ⟨rfl, rfl⟩
      · cases h
    · cases h
  · split at h
    · split at h
      · cases h
      · cases h; exact ⟨rfl, rfl⟩
    · cases h
  · split at h
    · cases h; exact ⟨rfl, rfl⟩
    · cases h
  · cases h
theorem am_run_mono (P : Nat → Option am_I) : ∀ (n d : Nat) (co : List am_A) (i : Nat) (ls st : List Value) (M : am_M) (r : Option Value) (M' : am_M), am_run P n d co i ls st M = some (r, M') → am_nx M ≤ am_nx M' ∧ am_us M ≤ am_us M' := by
  intro n
  induction n with
  | zero => intro d co i ls st M r M' h; cases h
  | succ n ih =>
    intro d co i ls st M r M' h
    unfold am_run at h
    split at h
    · cases h
    · split at h
      · obtain ⟨_, _, h2⟩ := Option.map_eq_some_iff.mp h
        cases h2
        exact ⟨Nat.le_refl _, Nat.le_refl _⟩
      · split at h
        · split at h
          · split at h
            · split at h
              · split at h
                next h1 =>
                  have a1 := ih _ _ _ _ _ _ _ _ h1
                  have a2 := ih _ _ _ _ _ _ _ _ h
                  exact ⟨Nat.le_trans a1.1 a2.1, Nat.le_trans a1.2 a2.2⟩
                · cases h
              · cases h
            · cases h
          · split at h
            next h1 =>
              have a1 := am_prim_mono h1
              have a2 := ih _ _ _ _ _ _ _ _ h
              rw [a1.1, a1.2]
              exact a2
            · cases h
        · split at h
          next h1 =>
            have a1 := am_step_mono h1
            have a2 := ih _ _ _ _ _ _ _ _ h
            exact ⟨Nat.le_trans a1.1 a2.1, Nat.le_trans a1.2 a2.2⟩
          · cases h
/-- what a return instruction hands back -/
def am_rk (ret : Option FieldType) (r : Option Value) (ins : Instr) : Prop :=
  (ins = .return_ ∧ r = none ∧ ret = none) ∨ (ins = .ireturn ∧ ∃ x : Int32, r = some (.int x) ∧ (ret = some .int ∨ (ret = some .boolean ∧ (x = 0 ∨ x = 1)))) ∨
  (ins = .lreturn ∧ ∃ x : Int64, r = some (.long x) ∧ ret = some .long) ∨ (ins = .areturn ∧ (r = some .null ∨ ∃ q : Nat, r = some (.ref q)) ∧ ∃ Cn, ret = some (.object Cn))
theorem am_retE {own nm : String} {ret : Option FieldType} {co : List am_A} {pc : Nat} {ins : Instr} {aux : List Nat} {st : List Value} {r : Option Value} (hk : am_chkI own nm ret co pc ins aux = true) (h : am_ret ins aux st = some r) : am_rk ret r ins ∧ st = r.toList ∧ am_len ins aux = 1 := by
  unfold am_ret at h
  split at h
  · cases h
    exact ⟨Or.inl ⟨rfl, rfl, of_decide_eq_true hk⟩, rfl, rfl⟩
  · cases h
    exact ⟨Or.inr (Or.inl ⟨rfl, _, rfl, Or.inl (of_decide_eq_true hk)⟩), rfl, rfl⟩
  · split at h
    next hx =>
      cases h
      exact ⟨Or.inr (Or.inl ⟨rfl, _, rfl, Or.inr ⟨of_decide_eq_true hk, hx⟩⟩), rfl, rfl⟩
    · cases h
  · cases h
    exact ⟨Or.inr (Or.inr (Or.inl ⟨rfl, _, rfl, of_decide_eq_true hk⟩)), rfl, rfl⟩
  · cases h
    refine ⟨Or.inr (Or.inr (Or.inr ⟨rfl, Or.inr ⟨_, rfl⟩, ?_⟩)), rfl, rfl⟩
    simp only [am_chkI] at hk
    split at hk
    · exact ⟨_, rfl⟩
    · cases hk
  · cases h
    refine ⟨Or.inr (Or.inr (Or.inr ⟨rfl, Or.inl rfl, ?_⟩)), rfl, rfl⟩
    simp only [am_chkI] at hk
    split at hk
    · exact ⟨_, rfl⟩
    · cases hk
  · cases h
theorem am_callE {aux : List Nat} {st : List Value} {M : am_M} {mi : Nat} {as rest : List Value} (h : am_call aux st M = some (mi, as, rest)) :
    (∃ n t, aux = 1 :: mi :: n :: t ∧ as.length = n ∧ st = as.reverse ++ rest ∧ (rest.map fun v => v.category).sum ≤ 8) ∨
    ∃ kd n ci t q as', aux = kd :: mi :: n :: ci :: t ∧ kd < 4 ∧ kd ≠ 1 ∧ as = .ref q :: as' ∧ as'.length = n ∧ st = as'.reverse ++ .ref q :: rest ∧ (am_sh M q).1 = ci ∧ (rest.map fun v => v.category).sum ≤ 8 := by
  unfold am_call at h
  split at h
  · split at h
    next hn =>
      cases h
      exact Or.inl ⟨_, _, rfl, by rw [List.length_reverse, List.length_take]; omega, by rw [List.reverse_reverse, List.take_append_drop], hn.2⟩
    · cases h
  · rename_i hno
    split at h
    next hkd =>
      split at h
      next q rest' hdr =>
        split at h
        next hn =>
          cases h
          exact Or.inr ⟨_, _, _, _, q, _, rfl, hkd, (fun z => by subst z; exact hno rfl), rfl, by rw [List.length_reverse, List.length_take]; omega, by rw [List.reverse_reverse, ← hdr, List.take_append_drop], hn.2.1, hn.2.2⟩
        · cases h
      · cases h
    · cases h
  · cases h
end
section
theorem am_str7 {D : va_G} {ct : Nat → ClassId} {ro : Nat → Nat} {s0 : State} {L : Nat} {xs : Nat → Int32} {M : am_M} {H : Heap} (hG : am_G D ct ro s0 L xs M H) {q : Nat} (h : (am_sh M q).1 = 200) : 4 ≤ q ∧ q < 8 ∧ (am_sh M q).2 = (am_roL q).length ∧ (∀ k, M.1 q k = (am_roL q).getD k 0) ∧ am_ad s0 ro q = ro q := by
  obtain ⟨g1, g2, g3, g4, g5, g6⟩ := hG
  rcases Nat.lt_or_ge q am_R0 with z | z
  · obtain ⟨e1, e2⟩ := g5 q z
    rw [e1] at h
    have hq : 4 ≤ q ∧ q < 8 := by
      unfold am_roS at h
      split at h
      · exact absurd (show (100 : Nat) = 200 from h) (by decide)
      · split at h
        · exact ⟨by omega, by assumption⟩
        · exact absurd (show (100 : Nat) = 200 from h) (by decide)
    refine ⟨hq.1, hq.2, ?_, fun k => ?_, am_adR z⟩
    · rw [e1]
      unfold am_roS
      rw [if_neg (by omega), if_pos hq.2]
    · rw [e2 k]
      unfold am_roI
      rw [if_pos hq.2]
  · exfalso
    rcases Nat.lt_or_ge q (am_nx M) with y | y
    · rcases g4 q z y with w | w
      · exact absurd w.1 (by omega)
      · exact absurd w.2.1 (by omega)
    · rw [(g6 q y).1] at h
      exact absurd (show (1000 : Nat) = 200 from h) (by decide)
theorem am_G_copy {D : va_G} {ct : Nat → ClassId} {ro : Nat → Nat} {s0 : State} {L : Nat} {xs : Nat → Int32} {M M' : am_M} {H H' : Heap} (hG : am_G D ct ro s0 L xs M H) {q t : Nat} (h1 : am_R0 ≤ q) (hq : q < am_nx M) (ht : t ≤ 6) (hsq : (am_sh M q).1 = 100 + t) (hs : ∀ x, am_sh M' x = am_sh M x) (hnx : am_nx M' = am_nx M) (hr : ∀ x, x ≠ q → ∀ k, M'.1 x k = M.1 x k ∧ M'.2.1 x k = M.2.1 x k ∧ M'.2.2.1 x k = M.2.2.1 x k)
    (he : H'[am_ad s0 ro q]? = some (arrV (ct t) (am_sh M q).2 (fun j => am_rd (am_ad s0 ro) M' q j (am_tys t)))) (hz : H'.size = H.size) (ho : ∀ x : Nat, x ≠ am_ad s0 ro q → H'[x]? = H[x]?) : am_G D ct ro s0 L xs M' H' := by
  obtain ⟨g1, g2, g3, g4, g5, g6⟩ := hG
  refine ⟨by rw [hz, hnx]; exact g1, by rw [hnx]; exact g2, fun x hx => ?_, fun x x1 x2 => ?_, fun x hx => ?_, fun x hx => ?_⟩
  · rw [ho x (by rw [am_adW h1]; omega)]
    exact g3 x hx
  · rw [hnx] at x2
    by_cases e : x = q
    · subst e
      refine Or.inr ?_
      rw [hs, hsq, show 100 + t - 100 = t by omega]
      exact ⟨by omega, by omega, he⟩
    · refine am_cell_kept (g4 x x1 x2) (hs x) (fun j ty => ?_) (ho _ fun z => e (am_adI x1 h1 z))
      obtain ⟨r1, r2, r3⟩ := hr x e j
      cases ty <;> simp [am_rd, r1, r2, r3]
  · have e : x ≠ q := by omega
    rw [hs]
    exact ⟨(g5 x hx).1, fun j => by rw [(hr x e j).1]; exact (g5 x hx).2 j⟩
  · rw [hnx] at hx
    have e : x ≠ q := by omega
    rw [hs]
    exact ⟨(g6 x hx).1, fun j => by rw [(hr x e j).1, (hr x e j).2.1, (hr x e j).2.2]; exact (g6 x hx).2 j⟩
theorem am_chk1 {P : Nat → Option am_I} {own : String} {ins : Instr} {mi n : Nat} {tl : List Nat} {inf : am_I} (h : am_chkC P own ins (1 :: mi :: n :: tl) = true) (hP : P mi = some inf) : ∃ x w1 w2 w3 w4, ins = .invokestatic x ∧ am_w w1 (.methodLink own x inf.1) = true ∧ am_w w2 (.code inf.1 inf.2.1 inf.2.2.1 inf.2.2.2.1) = true ∧ am_w w3 (.static inf.1) = true ∧ am_w w4 (.initialized inf.1.cls) = true ∧ am_chkN inf n = true := by
  generalize hx : 1 :: mi :: n :: tl = aux at h
  unfold am_chkC at h
  split at h <;> first | (cases hx; done) | (cases h; done) | skip
  cases hx
  rw [hP] at h
  simp only [Bool.and_eq_true] at h
  exact ⟨_, _, _, _, _, rfl, h.1.1.1.1, h.1.1.1.2, h.1.1.2, h.1.2, h.2⟩
theorem am_chk4 {P : Nat → Option am_I} {own : String} {ins : Instr} {kd mi n ci : Nat} {tl : List Nat} {inf : am_I} (h : am_chkC P own ins (kd :: mi :: n :: ci :: tl) = true) (hkd : kd < 4) (hk1 : kd ≠ 1) (hP : P mi = some inf) :
    (∃ x w1 w2 w3 w4 w5, ins = .invokevirtual x ∧ ci < 8 ∧ inf.1.cls = am_cn ci ∧ am_w w1 (.methodLink own x inf.1) = true ∧ am_w w2 (.code inf.1 inf.2.1 inf.2.2.1 inf.2.2.2.1) = true ∧ am_w w3 (.instanceMethod inf.1) = true ∧ am_w w4 (.selects (am_cn ci) inf.1 inf.1) = true ∧ am_w w5 (.initialized inf.1.cls) = true ∧ am_chkN inf n = true) ∨
    (∃ x w1 w2 w3 w4, ins = .invokespecial x ∧ inf.1.name = "<init>" ∧ inf.2.2.2.1 = none ∧ am_w w1 (.methodLink own x inf.1) = true ∧ am_w w2 (.code inf.1 inf.2.1 inf.2.2.1 none) = true ∧ am_w w3 (.instanceMethod inf.1) = true ∧ am_w w4 (.initialized inf.1.cls) = true ∧ am_chkN inf n = true) ∨
    (∃ x w1 w2 w3 w4, ins = .invokespecial x ∧ inf.1.name = "<init>" ∧ inf.2.2.2.1 = none ∧ am_w w1 (.methodLinkNest own x inf.1 "AirByYard") = true ∧ am_w w2 (.code inf.1 inf.2.1 inf.2.2.1 none) = true ∧ am_w w3 (.instanceMethod inf.1) = true ∧ am_w w4 (.initialized inf.1.cls) = true ∧ am_chkN inf n = true) := by
  generalize hx : kd :: mi :: n :: ci :: tl = aux at h
  unfold am_chkC at h
  split at h
  · cases hx
    rw [hP] at h
    simp only [Bool.and_eq_true, decide_eq_true_eq] at h
    exact Or.inl ⟨_, _, _, _, _, _, rfl, h.1.1.1.1.1.1.1, h.1.1.1.1.1.1.2, h.1.1.1.1.1.2, h.1.1.1.1.2, h.1.1.1.2, h.1.1.2, h.1.2, h.2⟩
  · cases hx
    exact absurd rfl hk1
  · cases hx
    rw [hP] at h
    simp only [Bool.and_eq_true, decide_eq_true_eq] at h
    exact Or.inr (Or.inl ⟨_, _, _, _, _, rfl, h.1.1.1.1.1.1, h.1.1.1.1.1.2, h.1.1.1.1.2, h.1.1.1.2, h.1.1.2, h.1.2, h.2⟩)
  · cases hx
    rw [hP] at h
    simp only [Bool.and_eq_true, decide_eq_true_eq] at h
    exact Or.inr (Or.inr ⟨_, _, _, _, _, rfl, h.1.1.1.1.1.1, h.1.1.1.1.1.2, h.1.1.1.1.2, h.1.1.1.2, h.1.1.2, h.1.2, h.2⟩)
  · cases hx
    exact absurd hkd (by decide)
  · cases hx
    exact absurd hkd (by decide)
  · cases hx
    exact absurd hkd (by decide)
  · cases hx
    exact absurd hkd (by decide)
  · cases h
theorem am_chkP {P : Nat → Option am_I} {own : String} {ins : Instr} {kd : Nat} {tl : List Nat} (h : am_chkC P own ins (kd :: tl) = true) (hkd : 4 ≤ kd) :
    (∃ x w1 w2 w3, kd = 4 ∧ ins = .invokespecial x ∧ am_w w1 (.methodLink own x objectInit) = true ∧ am_w w2 (.instanceMethod objectInit) = true ∧ am_w w3 (.code objectInit ⟨#[0xb1]⟩ 1 none) = true) ∨
    (∃ x t w1 w2 w3 w4, kd = 5 ∧ ins = .invokestatic x ∧ tl = [t, w1, w2, w3, w4] ∧ am_w w1 (.methodLink own x arraycopyName) = true ∧ am_w w2 (.native arraycopyName) = true ∧ am_w w3 (.static arraycopyName) = true ∧ am_w w4 (.initialized "java/lang/System") = true) ∨
    (∃ x w1 w2 w3 w4 w5, kd = 6 ∧ ins = .invokevirtual x ∧ am_w w1 (.methodLink own x yJ0_charAt_5068e) = true ∧ am_w w2 (.code yJ0_charAt_5068e cJ0_charAt_5068e 2 (some .char)) = true ∧ am_w w3 (.instanceMethod yJ0_charAt_5068e) = true ∧ am_w w4 (.selects RJ0 yJ0_charAt_5068e yJ0_charAt_5068e) = true ∧ am_w w5 (.initialized RJ0) = true) ∨
    (∃ x w1 w2 w3 w4 w5, kd = 7 ∧ ins = .invokevirtual x ∧ am_w w1 (.methodLink own x yJ0_length_8abf5) = true ∧ am_w w2 (.code yJ0_length_8abf5 cJ0_length_8abf5 1 (some .int)) = true ∧ am_w w3 (.instanceMethod yJ0_length_8abf5) = true ∧ am_w w4 (.selects RJ0 yJ0_length_8abf5 yJ0_length_8abf5) = true ∧ am_w w5 (.initialized RJ0) = true) := by
  generalize hx : kd :: tl = au at h
  unfold am_chkC at h
  split at h
  · cases hx
    exact absurd hkd (by decide)
  · cases hx
    exact absurd hkd (by decide)
  · cases hx
    exact absurd hkd (by decide)
  · cases hx
    exact absurd hkd (by decide)
  · cases hx
    simp only [Bool.and_eq_true] at h
    exact Or.inl ⟨_, _, _, _, rfl, rfl, h.1.1, h.1.2, h.2⟩
  · cases hx
    simp only [Bool.and_eq_true] at h
    exact Or.inr (Or.inl ⟨_, _, _, _, _, _, rfl, rfl, rfl, h.1.1.1, h.1.1.2, h.1.2, h.2⟩)
  · cases hx
    simp only [Bool.and_eq_true] at h
    exact Or.inr (Or.inr (Or.inl ⟨_, _, _, _, _, _, rfl, rfl, h.1.1.1.1, h.1.1.1.2, h.1.1.2, h.1.2, h.2⟩))
  · cases hx
    simp only [Bool.and_eq_true] at h
    exact Or.inr (Or.inr (Or.inr ⟨_, _, _, _, _, _, rfl, rfl, h.1.1.1.1, h.1.1.1.2, h.1.1.2, h.1.2, h.2⟩))
  · cases h
theorem am_len2 (as : List Value) (ad : Nat → Nat) : (as.map (am_cv ad)).reverse = as.reverse.map (am_cv ad) := List.map_reverse.symm
/-- the walk of a method from any of its instructions on -/
def am_B (P : Nat → Option am_I) (D : va_G) (ct : Nat → ClassId) (ro : Nat → Nat) (b : Nat) (s0 : State) (L : Nat) (xs : Nat → Int32) (n : Nat) : Prop :=
  ∀ (d : Nat) (inf : am_I) (i : Nat) (ls st : List Value) (M : am_M) (r : Option Value) (M' : am_M), am_okF P inf → am_run P n d inf.2.2.2.2.2 i ls st M = some (r, M') →
  ∀ {p : Program} {l : Launch} {e : Env} {R : Room} {s : State} {m : MethodId} {args : Array Value} {below : List Frame} {meth : Method} {c : Code} {H : Heap} {locs : List Loc} {Q : State → Prop} {arr : Array Slot} {pc c0 u0 : Nat},
  p.tables.exec = Jvm.exec → c.code = inf.2.1 → c.maxLocals = inf.2.2.1 → s0.WarmedH s.vm → s.vm.findClass inf.2.2.2.2.1 = some m.cls → (inf.1.name = "<init>" → meth.name = "<init>") → am_G D ct ro s0 L xs M H → am_lr (am_ad s0 ro) ls arr inf.2.2.1 → (∀ q ∈ locs, s0.heap.size ≤ q.base) →
  am_pc inf.2.2.2.2.2 i = some pc → c0 ≤ am_nx M → u0 ≤ am_us M → am_nx M' - c0 ≤ R.cells → am_us M' - u0 ≤ R.slots → d ≤ R.frames → 60 * d ≤ R.locals →
  (∀ (H' : Heap) (locs' : List Loc) (arr' : Array Slot) (pc' : Nat) (ins' : Instr), decode inf.2.1 pc' = .ok (ins', 1) → am_rk inf.2.2.2.1 r ins' → am_G D ct ro s0 L xs M' H' → (∀ q ∈ locs', s0.heap.size ≤ q.base) →
    W p l e R s m args below meth c H' locs' (am_nx M' - c0) (am_us M' - u0) Q (F0 m pc' arr' (r.toList.map (am_cv (am_ad s0 ro))))) →
  W p l e R s m args below meth c H locs (am_nx M - c0) (am_us M - u0) Q (F0 m pc arr (st.map (am_cv (am_ad s0 ro))))
set_option maxHeartbeats 4000000 in
/-- a method's contract out of its walk -/
theorem am_AB {P : Nat → Option am_I} {D : va_G} {ct : Nat → ClassId} {ro : Nat → Nat} {b : Nat} {s0 : State} {L : Nat} {xs : Nat → Int32} {n : Nat} (hB : am_B P D ct ro b s0 L xs n) {d : Nat} {inf : am_I} {as : List Value} {M : am_M} {r : Option Value} {M1 : am_M} (ok : am_okF P inf) (hlay : (am_lay as).length ≤ inf.2.2.1)
    (h : am_run P n d inf.2.2.2.2.2 0 (am_entry as inf.2.2.1) [] M = some (r, M1)) (l : Launch) : am_con D ct ro s0 L xs l d inf as M r M1 := by
  obtain ⟨k1, k2, k3, k4⟩ := id ok
  refine va_MetF (cc := inf.2.1) (maxL := inf.2.2.1) (ret := inf.2.2.2.1) k1 rfl ?_
  intro p e s m args below meth c s₁ B hml hv
  obtain ⟨rfl, hW, hG⟩ := hv
  have hown : s.vm.findClass inf.2.2.2.2.1 = some m.cls := k2 ▸ findClass_of_methodNamed B.named
  have hnm : inf.1.name = "<init>" → meth.name = "<init>" := fun z => (name_of_methodNamed B.named B.method).1.trans z
  rw [lg_entry_eq]
  have hlr := am_entryL (am_ad s0 ro) as hlay
  have hmono := am_run_mono P _ _ _ _ _ _ _ _ _ h
  have key := hB d inf 0 (am_entry as inf.2.2.1) [] M r M1 ok h (p := p) (l := l) (e := e) (R := (headSpec [Cond.code inf.1 inf.2.1 inf.2.2.1 inf.2.2.2.1] { frames := d, cells := am_nx M1 - am_nx M, slots := am_us M1 - am_us M, locals := 60 * d }).room) (s := s) (m := m) (args := (as.map (am_cv (am_ad s0 ro))).toArray) (below := below) (meth := meth) (c := c) (H := s.heap) (locs := [])
    (Q := MQ below (am_Qc D ct ro s0 L xs M1 r) (as.map (am_cv (am_ad s0 ro))).toArray s (am_nx M1 - am_nx M) (am_us M1 - am_us M) (fun q => s0.heap.size ≤ q)) (c0 := am_nx M) (u0 := am_us M)
    B.exec B.bytes hml hW hown hnm hG hlr (fun q hq => absurd hq List.not_mem_nil) k3 (Nat.le_refl _) (Nat.le_refl _) (Nat.le_refl _) (Nat.le_refl _) (Nat.le_refl _) (Nat.le_refl _) ?_
  · rw [Nat.sub_self, Nat.sub_self] at key
    exact key
  · intro H' locs' arr' pc' ins' hd hrk hG' hlo'
    have hlocks := B.notSynchronized
    rcases hrk with ⟨rfl, rfl, hret⟩ | ⟨rfl, x, rfl, hret⟩ | ⟨rfl, x, rfl, hret⟩ | ⟨rfl, hr, Cn, hret⟩
    · exact W.vret B.exec B.bytes (B.returns.trans hret) (fun t ht _ => ⟨rfl, by rw [ht]; exact hG'⟩) hlo' hd
    · rcases hret with hret | ⟨hret, hx⟩
      · exact W.iret B.exec B.bytes (B.returns.trans hret) (fun t ht _ => ⟨rfl, by rw [ht]; exact hG'⟩) hlo' hd
      · exact W.zret B.exec B.bytes (B.returns.trans hret) (by rcases hx with rfl | rfl <;> decide) (fun t ht _ => ⟨rfl, by rw [ht]; exact hG'⟩) hlo' hd
    · exact W.lret B.exec B.bytes (B.returns.trans hret) (fun t ht _ => ⟨rfl, by rw [ht]; exact hG'⟩) hlo' hd
    · rcases hr with rfl | ⟨q, rfl⟩
      · exact W.aret B.exec B.bytes (B.returns.trans hret) (Or.inl ⟨_, rfl⟩) (Or.inl rfl) (fun t ht _ => ⟨rfl, by rw [ht]; exact hG'⟩) hlo' hd
      · exact W.aret B.exec B.bytes (B.returns.trans hret) (Or.inl ⟨_, rfl⟩) (Or.inr ⟨_, rfl⟩) (fun t ht _ => ⟨rfl, by rw [ht]; exact hG'⟩) hlo' hd
set_option maxHeartbeats 8000000 in
theorem am_main {P : Nat → Option am_I} {D : va_G} {ct : Nat → ClassId} {ro : Nat → Nat} {b : Nat} {s0 : State} {L : Nat} {xs : Nat → Int32} (hP : ∀ mi inf, P mi = some inf → am_okF P inf) (C : am_C0 D ct ro b s0 L xs) : ∀ n, am_B P D ct ro b s0 L xs n := by
  intro n
  induction n with
  | zero => intro d inf i ls st M r M' ok h; cases h
  | succ n ih =>
    intro d inf i ls st M r M' ok h p l e R s m args below meth c H locs Q arr pc c0 u0 hx hb hml hW hown hnm hG hlr hlo hpc hc0 hu0 hc hs hF hLc K
    have hmono := am_run_mono P _ _ _ _ _ _ _ _ _ h
    unfold am_run at h
    split at h
    · cases h
    next pc' ins aux hi =>
      have epc : pc' = pc := by
        unfold am_pc at hpc
        rw [hi] at hpc
        exact Option.some.inj hpc
      subst epc
      have hchk := ok.2.2.2 i (List.getElem?_eq_some_iff.mp hi).1
      unfold am_chk at hchk
      rw [hi] at hchk
      simp only [Bool.and_eq_true, Bool.or_eq_true, Bool.not_eq_true', decide_eq_true_eq] at hchk
      obtain ⟨⟨hd, hf⟩, hk⟩ := hchk
      have hf : am_falls ins = true → am_pc inf.2.2.2.2.2 (i + 1) = some (pc' + am_len ins aux) := fun z => by
        rcases hf with q | q
        · rw [z] at q; cases q
        · exact q
      split at h
      next hret =>
        have hinv : am_isInv ins = false := by cases ins <;> first | rfl | cases hret
        rw [hinv] at hk
        obtain ⟨r', h1, h2⟩ := Option.map_eq_some_iff.mp h
        cases h2
        obtain ⟨e1, e2, e3⟩ := am_retE hk h1
        rw [e2]
        rw [e3] at hd
        exact K H locs arr pc' ins hd e1 hG hlo
      next hret =>
        have hsz : c.maxLocals = arr.size := hml.trans hlr.1.symm
        split at h
        next hinv =>
          rw [if_pos hinv] at hk
          have hf3 : am_pc inf.2.2.2.2.2 (i + 1) = some (pc' + 3) := by
            have := hf (by cases ins <;> first | rfl | cases hinv)
            rw [this]
            cases ins <;> first | rfl | cases hinv
          have hd3 : decode inf.2.1 pc' = .ok (ins, 3) := by
            rw [hd]
            cases ins <;> first | rfl | cases hinv
          split at h
          next mi as rest hcall =>
            split at h
            next d' inf' hPm =>
              split at h
              next hlay =>
                split at h
                next v M1 hrun =>
                  have ok' := hP _ _ hPm
                  have hM := am_AB ih ok' hlay hrun l
                  have m1 := am_run_mono P _ _ _ _ _ _ _ _ _ hrun
                  have m2 := am_run_mono P _ _ _ _ _ _ _ _ _ h
                  have ec : am_nx M - c0 + (am_nx M1 - am_nx M) = am_nx M1 - c0 := by omega
                  have eu : am_us M - u0 + (am_us M1 - am_us M) = am_us M1 - u0 := by omega
                  have kk : ∀ (H' : Heap) (locs' : List Loc), am_G D ct ro s0 L xs M1 H' → (∀ q ∈ locs', s0.heap.size ≤ q.base) → W p l e R s m args below meth c H' locs' (am_nx M - c0 + (am_nx M1 - am_nx M)) (am_us M - u0 + (am_us M1 - am_us M)) Q (F0 m (pc' + 3) arr ((v.map (am_cv (am_ad s0 ro))).toList ++ rest.map (am_cv (am_ad s0 ro)))) := by
                    intro H' locs' hG' hlo'
                    rw [ec, eu]
                    have := ih (d' + 1) inf (i + 1) ls (v.toList ++ rest) M1 r M' ok h hx hb hml hW hown hnm hG' hlr hlo' hf3 (Nat.le_trans hc0 m1.1) (Nat.le_trans hu0 m1.2) hc hs hF hLc K
                    rw [List.map_append] at this
                    cases v with
                    | none => exact this
                    | some w => exact this
                  have hcc : am_nx M - c0 + (am_nx M1 - am_nx M) ≤ R.cells := by omega
                  have hss : am_us M - u0 + (am_us M1 - am_us M) ≤ R.slots := by omega
                  rcases am_callE hcall with ⟨na, tl, rfl, hlen, rfl, hsum⟩ | ⟨kd, na, ci, tl, q, as', rfl, hkd, hk1, rfl, hlen, rfl, hq, hsum⟩
                  · obtain ⟨x, w1, w2, w3, w4, rfl, a1, a2, a3, a4, a5⟩ := am_chk1 hk hPm
                    have := am_WcallS hx hb hsz C hW hown hG hlo hM a5 a1 a2 a3 a4 hF hLc hlen hsum hcc hss hd3 kk
                    rw [am_len2, ← List.map_append] at this
                    exact this
                  · rcases am_chk4 hk hkd hk1 hPm with ⟨x, w1, w2, w3, w4, w5, rfl, b1, b2, a1, a2, a3, a4, a5, a6⟩ | ⟨x, w1, w2, w3, w4, rfl, b1, b2, a1, a2, a3, a4, a6⟩ | ⟨x, w1, w2, w3, w4, rfl, b1, b2, a1, a2, a3, a4, a6⟩
                    · have := am_WcallV hx hb hsz C hW hown hG hlo hM b1 b2 hq a6 a1 a2 a3 a4 a5 hF hLc hlen hsum hcc hss hd3 kk
                      rw [am_len2] at this
                      rw [List.map_append]
                      exact this
                    · have := am_WcallI hx hb hsz C hW hown hG hlo hM b1 b2 a6 a1 (by rw [b2]; exact a2) a3 a4 hF hLc hlen hsum hcc hss hd3 kk
                      rw [am_len2] at this
                      rw [List.map_append]
                      exact this
                    · have := am_WcallN hx hb hsz C hW hown hG hlo hM b1 b2 a6 a1 (by rw [b2]; exact a2) a3 a4 hF hLc hlen hsum hcc hss hd3 kk
                      rw [am_len2] at this
                      rw [List.map_append]
                      exact this
                · cases h
              · cases h
            · cases h
          next hcall =>
            split at h
            next d' i' ls' st' M1 hpr =>
              have m1 := am_prim_mono hpr
              have m2 := am_run_mono P _ _ _ _ _ _ _ _ _ h
              have kk : ∀ (H' : Heap) (locs' : List Loc), i' = i + 1 → ls' = ls → am_G D ct ro s0 L xs M1 H' → (∀ q ∈ locs', s0.heap.size ≤ q.base) → W p l e R s m args below meth c H' locs' (am_nx M - c0) (am_us M - u0) Q (F0 m (pc' + 3) arr (st'.map (am_cv (am_ad s0 ro)))) := by
                intro H' locs' e1 e2 hG' hlo'
                subst e1
                subst e2
                rw [m1.1, m1.2]
                exact ih (d' + 7) inf (i + 1) ls' st' M1 r M' ok h hx hb hml hW hown hnm hG' hlr hlo' hf3 (by omega) (by omega) hc hs hF hLc K
              have hF7 : 7 ≤ R.frames := by omega
              have hL7 : 420 ≤ R.locals := by omega
              unfold am_prim at hpr
              split at hpr
              · obtain ⟨x, w1, w2, w3, -, rfl, a1, a2, a3⟩ | ⟨_, _, _, _, _, _, z, -⟩ | ⟨_, _, _, _, _, _, z, -⟩ | ⟨_, _, _, _, _, _, z, -⟩ := am_chkP hk (by decide)
                · split at hpr
                  next hsum =>
                    cases hpr
                    exact am_Wobj hx hb hsz C hW hown a1 a2 a3 (by omega) (by omega) (by rw [am_cats]; exact hsum) hd3 (kk _ _ rfl rfl hG hlo)
                  · cases hpr
                · cases z
                · cases z
                · cases z
              · obtain ⟨_, _, _, _, z, -⟩ | ⟨x, t', w1, w2, w3, w4, -, rfl, htl, a1, a2, a3, a4⟩ | ⟨_, _, _, _, _, _, z, -⟩ | ⟨_, _, _, _, _, _, z, -⟩ := am_chkP hk (by decide)
                · cases z
                · split at hpr
                  next hc9 =>
                    obtain ⟨t1, t2, r1, r2, n1, n2, n3, n4, n5, hsum⟩ := hc9
                    split at hpr
                    · cases hpr
                      obtain ⟨y1, y2⟩ := am_rowW (t := 0) hG r1 (by decide) t1
                      obtain ⟨z1, z2⟩ := am_rowW (t := 0) hG r2 (by decide) t2
                      refine am_Wcopy (α := Int32) (t := 0) (fun z => .int z) hx hb hsz C hW hown (by decide) y2 z2 (fun _ => rfl) (fun _ => rfl) a1 a2 a3 a4 n1 n2 n3 n4 n5 hF7 hL7 (by rw [am_cats]; exact hsum) hd3 fun H1 locs1 b1 b2 b3 b4 => ?_
                      refine kk H1 locs1 rfl rfl (am_G_copy (t := 0) hG r2 z1 (by decide) t2 (fun _ => rfl) rfl (fun x hx k => ⟨?_, rfl, rfl⟩) (by rw [b1]; congr 2; funext j; exact congrArg Value.int (if_pos rfl).symm) b2 b3) (fun q hq => ?_)
                      · exact if_neg hx
                      · rcases b4 q hq with h9 | h9
                        · exact hlo q h9
                        · rw [h9, am_adW r2]
                          omega
                    · cases hpr
                      obtain ⟨y1, y2⟩ := am_rowW (t := 1) hG r1 (by decide) t1
                      obtain ⟨z1, z2⟩ := am_rowW (t := 1) hG r2 (by decide) t2
                      refine am_Wcopy (α := Int64) (t := 1) (fun z => .long z) hx hb hsz C hW hown (by decide) y2 z2 (fun _ => rfl) (fun _ => rfl) a1 a2 a3 a4 n1 n2 n3 n4 n5 hF7 hL7 (by rw [am_cats]; exact hsum) hd3 fun H1 locs1 b1 b2 b3 b4 => ?_
                      refine kk H1 locs1 rfl rfl (am_G_copy (t := 1) hG r2 z1 (by decide) t2 (fun _ => rfl) rfl (fun x hx k => ⟨rfl, ?_, rfl⟩) (by rw [b1]; congr 2; funext j; exact congrArg Value.long (if_pos rfl).symm) b2 b3) (fun q hq => ?_)
                      · exact if_neg hx
                      · rcases b4 q hq with h9 | h9
                        · exact hlo q h9
                        · rw [h9, am_adW r2]
                          omega
                    · cases hpr
                  · cases hpr
                · cases z
                · cases z
              · obtain ⟨_, _, _, _, z, -⟩ | ⟨_, _, _, _, _, _, z, -⟩ | ⟨x, w1, w2, w3, w4, w5, -, rfl, a1, a2, a3, a4, a5⟩ | ⟨_, _, _, _, _, _, z, -⟩ := am_chkP hk (by decide)
                · cases z
                · cases z
                · split at hpr
                  next hc9 =>
                    split at hpr
                    · cases hpr
                    next hbad =>
                      cases hpr
                      obtain ⟨s1, s2, s3, s4, s5⟩ := am_str7 hG hc9.1
                      obtain ⟨y1, y2, y3⟩ := C.2.2.2.2.2.2 l _ s1 s2
                      obtain ⟨q1, q2⟩ := am_badE (by simpa using hbad)
                      rw [s3] at q2
                      have fin := kk _ _ rfl rfl hG hlo
                      rw [List.map_cons] at fin
                      rw [List.map_cons, List.map_cons]
                      show W p l e R s m args below meth c H locs _ _ Q (F0 m pc' arr (Value.int _ :: Value.ref (am_ad s0 ro _) :: _))
                      rw [s5]
                      refine am_Wstr (as := [.int _]) hx hb hsz C hW hown hG (y3 _ (fun w => w.elim q1 (fun w => absurd q2 (Nat.not_lt.mpr w)))) y1 (n := 1) (by decide +kernel) ⟨by decide, by decide⟩ (by decide) a1 a2 a3 a4 a5 hF7 hL7 rfl (by rw [am_cats]; exact hc9.2) (by omega) (by omega) hd3 ?_
                      rw [s4] at fin
                      exact fin
                  · cases hpr
                · cases z
              · obtain ⟨_, _, _, _, z, -⟩ | ⟨_, _, _, _, _, _, z, -⟩ | ⟨_, _, _, _, _, _, z, -⟩ | ⟨x, w1, w2, w3, w4, w5, -, rfl, a1, a2, a3, a4, a5⟩ := am_chkP hk (by decide)
                · cases z
                · cases z
                · cases z
                · split at hpr
                  next hc9 =>
                    cases hpr
                    obtain ⟨s1, s2, s3, s4, s5⟩ := am_str7 hG hc9.1
                    obtain ⟨y1, y2, y3⟩ := C.2.2.2.2.2.2 l _ s1 s2
                    have fin := kk _ _ rfl rfl hG hlo
                    rw [List.map_cons] at fin
                    rw [List.map_cons]
                    show W p l e R s m args below meth c H locs _ _ Q (F0 m pc' arr (Value.ref (am_ad s0 ro _) :: _))
                    rw [s5]
                    refine am_Wstr (as := []) hx hb hsz C hW hown hG y2 y1 (n := 0) (by decide +kernel) ⟨by decide, by decide⟩ (by decide) a1 a2 a3 a4 a5 hF7 hL7 rfl (by rw [am_cats]; exact hc9.2) (by omega) (by omega) hd3 ?_
                    rw [s3] at fin
                    exact fin
                  · cases hpr
              · cases hpr
            · cases h
        next hinv =>
          rw [if_neg hinv] at hk
          split at h
          next i' ls' st' M1 hst =>
            have m1 := am_step_mono hst
            have m2 := am_run_mono P _ _ _ _ _ _ _ _ _ h
            exact am_simple hx hb C hW hown hnm hG hlr hlo hd hf hk hst hc0 hu0 (by omega) (by omega) fun H' locs' arr' pc'' hp hG' hlr' hlo' =>
              ih d inf i' ls' st' M1 r M' ok h hx hb hml hW hown hnm hG' hlr' hlo' hp (Nat.le_trans hc0 m1.1) (Nat.le_trans hu0 m1.2) hc hs hF hLc K
          · cases h
end
section
theorem dJ0_length_8abf5_0 : decode cJ0_length_8abf5 0 = .ok (.aload_n 0, 1) := by decide +kernel
theorem dJ0_length_8abf5_1 : decode cJ0_length_8abf5 1 = .ok (.getfield 9, 3) := by decide +kernel
theorem dJ0_length_8abf5_4 : decode cJ0_length_8abf5 4 = .ok (.arraylength, 1) := by decide +kernel
theorem dJ0_length_8abf5_5 : decode cJ0_length_8abf5 5 = .ok (.aload_n 0, 1) := by decide +kernel
theorem dJ0_length_8abf5_6 : decode cJ0_length_8abf5 6 = .ok (.invokevirtual 335, 3) := by decide +kernel
theorem dJ0_length_8abf5_9 : decode cJ0_length_8abf5 9 = .ok (.ishr, 1) := by decide +kernel
theorem dJ0_length_8abf5_10 : decode cJ0_length_8abf5 10 = .ok (.ireturn, 1) := by decide +kernel
theorem dJ0_charAt_5068e_0 : decode cJ0_charAt_5068e 0 = .ok (.aload_n 0, 1) := by decide +kernel
theorem dJ0_charAt_5068e_1 : decode cJ0_charAt_5068e 1 = .ok (.invokevirtual 492, 3) := by decide +kernel
theorem dJ0_charAt_5068e_4 : decode cJ0_charAt_5068e 4 = .ok (.ifCond .eq 12, 3) := by decide +kernel
theorem dJ0_charAt_5068e_7 : decode cJ0_charAt_5068e 7 = .ok (.aload_n 0, 1) := by decide +kernel
theorem dJ0_charAt_5068e_8 : decode cJ0_charAt_5068e 8 = .ok (.getfield 9, 3) := by decide +kernel
theorem dJ0_charAt_5068e_11 : decode cJ0_charAt_5068e 11 = .ok (.iload_n 1, 1) := by decide +kernel
theorem dJ0_charAt_5068e_12 : decode cJ0_charAt_5068e 12 = .ok (.invokestatic 495, 3) := by decide +kernel
theorem dJ0_charAt_5068e_15 : decode cJ0_charAt_5068e 15 = .ok (.ireturn, 1) := by decide +kernel
theorem dJ0_charAt_5068e_16 : decode cJ0_charAt_5068e 16 = .ok (.aload_n 0, 1) := by decide +kernel
theorem dJ0_charAt_5068e_17 : decode cJ0_charAt_5068e 17 = .ok (.getfield 9, 3) := by decide +kernel
theorem dJ0_charAt_5068e_20 : decode cJ0_charAt_5068e 20 = .ok (.iload_n 1, 1) := by decide +kernel
theorem dJ0_charAt_5068e_21 : decode cJ0_charAt_5068e 21 = .ok (.invokestatic 498, 3) := by decide +kernel
theorem dJ0_charAt_5068e_24 : decode cJ0_charAt_5068e 24 = .ok (.ireturn, 1) := by decide +kernel
theorem dJ0_coder_7d493_0 : decode cJ0_coder_7d493 0 = .ok (.getstatic 38, 3) := by decide +kernel
theorem dJ0_coder_7d493_3 : decode cJ0_coder_7d493 3 = .ok (.ifCond .eq 10, 3) := by decide +kernel
theorem dJ0_coder_7d493_6 : decode cJ0_coder_7d493 6 = .ok (.aload_n 0, 1) := by decide +kernel
theorem dJ0_coder_7d493_7 : decode cJ0_coder_7d493 7 = .ok (.getfield 15, 3) := by decide +kernel
theorem dJ0_coder_7d493_10 : decode cJ0_coder_7d493 10 = .ok (.goto 4, 3) := by decide +kernel
theorem dJ0_coder_7d493_13 : decode cJ0_coder_7d493 13 = .ok (.iconst 1, 1) := by decide +kernel
theorem dJ0_coder_7d493_14 : decode cJ0_coder_7d493 14 = .ok (.ireturn, 1) := by decide +kernel
theorem dJ0_isLatin1_aae02_0 : decode cJ0_isLatin1_aae02 0 = .ok (.getstatic 38, 3) := by decide +kernel
theorem dJ0_isLatin1_aae02_3 : decode cJ0_isLatin1_aae02 3 = .ok (.ifCond .eq 14, 3) := by decide +kernel
theorem dJ0_isLatin1_aae02_6 : decode cJ0_isLatin1_aae02 6 = .ok (.aload_n 0, 1) := by decide +kernel
theorem dJ0_isLatin1_aae02_7 : decode cJ0_isLatin1_aae02 7 = .ok (.getfield 15, 3) := by decide +kernel
theorem dJ0_isLatin1_aae02_10 : decode cJ0_isLatin1_aae02 10 = .ok (.ifCond .ne 7, 3) := by decide +kernel
theorem dJ0_isLatin1_aae02_13 : decode cJ0_isLatin1_aae02 13 = .ok (.iconst 1, 1) := by decide +kernel
theorem dJ0_isLatin1_aae02_14 : decode cJ0_isLatin1_aae02 14 = .ok (.goto 4, 3) := by decide +kernel
theorem dJ0_isLatin1_aae02_17 : decode cJ0_isLatin1_aae02 17 = .ok (.iconst 0, 1) := by decide +kernel
theorem dJ0_isLatin1_aae02_18 : decode cJ0_isLatin1_aae02 18 = .ok (.ireturn, 1) := by decide +kernel
theorem dJ0_checkIndex_df160_0 : decode cJ0_checkIndex_df160 0 = .ok (.iload_n 0, 1) := by decide +kernel
theorem dJ0_checkIndex_df160_1 : decode cJ0_checkIndex_df160 1 = .ok (.iload_n 1, 1) := by decide +kernel
theorem dJ0_checkIndex_df160_2 : decode cJ0_checkIndex_df160 2 = .ok (.getstatic 1053, 3) := by decide +kernel
theorem dJ0_checkIndex_df160_5 : decode cJ0_checkIndex_df160 5 = .ok (.invokestatic 1059, 3) := by decide +kernel
theorem dJ0_checkIndex_df160_8 : decode cJ0_checkIndex_df160 8 = .ok (.pop, 1) := by decide +kernel
theorem dJ0_checkIndex_df160_9 : decode cJ0_checkIndex_df160 9 = .ok (.return_, 1) := by decide +kernel
theorem dJ1_charAt_3b067_0 : decode cJ1_charAt_3b067 0 = .ok (.iload_n 1, 1) := by decide +kernel
theorem dJ1_charAt_3b067_1 : decode cJ1_charAt_3b067 1 = .ok (.aload_n 0, 1) := by decide +kernel
theorem dJ1_charAt_3b067_2 : decode cJ1_charAt_3b067 2 = .ok (.arraylength, 1) := by decide +kernel
theorem dJ1_charAt_3b067_3 : decode cJ1_charAt_3b067 3 = .ok (.invokestatic 9, 3) := by decide +kernel
theorem dJ1_charAt_3b067_6 : decode cJ1_charAt_3b067 6 = .ok (.aload_n 0, 1) := by decide +kernel
theorem dJ1_charAt_3b067_7 : decode cJ1_charAt_3b067 7 = .ok (.iload_n 1, 1) := by decide +kernel
theorem dJ1_charAt_3b067_8 : decode cJ1_charAt_3b067 8 = .ok (.baload, 1) := by decide +kernel
theorem dJ1_charAt_3b067_9 : decode cJ1_charAt_3b067 9 = .ok (.sipush 255, 3) := by decide +kernel
theorem dJ1_charAt_3b067_12 : decode cJ1_charAt_3b067 12 = .ok (.iand, 1) := by decide +kernel
theorem dJ1_charAt_3b067_13 : decode cJ1_charAt_3b067 13 = .ok (.i2c, 1) := by decide +kernel
theorem dJ1_charAt_3b067_14 : decode cJ1_charAt_3b067 14 = .ok (.ireturn, 1) := by decide +kernel
theorem dJ3_checkIndex_8e157_0 : decode cJ3_checkIndex_8e157 0 = .ok (.iload_n 0, 1) := by decide +kernel
theorem dJ3_checkIndex_8e157_1 : decode cJ3_checkIndex_8e157 1 = .ok (.ifCond .lt 8, 3) := by decide +kernel
theorem dJ3_checkIndex_8e157_4 : decode cJ3_checkIndex_8e157 4 = .ok (.iload_n 0, 1) := by decide +kernel
theorem dJ3_checkIndex_8e157_5 : decode cJ3_checkIndex_8e157 5 = .ok (.iload_n 1, 1) := by decide +kernel
theorem dJ3_checkIndex_8e157_6 : decode cJ3_checkIndex_8e157 6 = .ok (.if_icmp .lt 10, 3) := by decide +kernel
theorem dJ3_checkIndex_8e157_9 : decode cJ3_checkIndex_8e157 9 = .ok (.aload_n 2, 1) := by decide +kernel
theorem dJ3_checkIndex_8e157_10 : decode cJ3_checkIndex_8e157 10 = .ok (.iload_n 0, 1) := by decide +kernel
theorem dJ3_checkIndex_8e157_11 : decode cJ3_checkIndex_8e157 11 = .ok (.iload_n 1, 1) := by decide +kernel
theorem dJ3_checkIndex_8e157_12 : decode cJ3_checkIndex_8e157 12 = .ok (.invokestatic 95, 3) := by decide +kernel
theorem dJ3_checkIndex_8e157_15 : decode cJ3_checkIndex_8e157 15 = .ok (.athrow, 1) := by decide +kernel
theorem dJ3_checkIndex_8e157_16 : decode cJ3_checkIndex_8e157 16 = .ok (.iload_n 0, 1) := by decide +kernel
theorem dJ3_checkIndex_8e157_17 : decode cJ3_checkIndex_8e157 17 = .ok (.ireturn, 1) := by decide +kernel
theorem am_wd {b : Nat} {s0 s : State} (h0 : ∀ w ∈ lw_tbl, w.before #[Value.ref b] s0 = true) (hW : s0.WarmedH s.vm) {w : Nat} {c : Cond} (h : lw_tbl[w]? = some c) (hg : goodWord c = true) (args : Array Value) : c.before args s = true :=
  word_at hW (good_of_word hg) (h0 c (List.mem_of_getElem? h))
def am_QcV : Array Value → State → Outcome → State → Prop := fun _ st o t => o = .returned none ∧ t.heap = st.heap
def am_rmk (k : Nat) : Room := { frames := k, cells := 0, slots := 0, locals := 60 * k }
abbrev am_Ar (s0 : State) : Nat → Prop := fun q => s0.heap.size ≤ q
theorem am_dm {y : MethodName} {bytes : ByteArray} {mL n d : Nat} {R : Room} {b : Nat} {s0 s : State} {args : Array Value} {rt : Option FieldType} {own : String} {x w1 w2 w5 : Nat} (h0 : ∀ w ∈ lw_tbl, w.before #[Value.ref b] s0 = true) (hW : s0.WarmedH s.vm)
    (hn : (parseMethodDescriptor y.desc).map (fun d => d.parameters.length) = some n) (hnm : y.cls ≠ "java/lang/invoke/MethodHandle" ∧ y.cls ≠ "java/lang/invoke/VarHandle") (h1 : lw_tbl[w1]? = some (.methodLink own x y)) (h2 : lw_tbl[w2]? = some (.code y bytes mL rt)) (h5 : lw_tbl[w5]? = some (.initialized y.cls)) (hm : mL ≤ 41) (hF : d + 1 ≤ R.frames) (hLc : 60 * (d + 1) ≤ R.locals) :
    CallB R s args own x y bytes mL rt [Cond.code y bytes mL rt] (am_rmk d) 0 0 n :=
  ⟨rfl, rfl, hF, by show 8 + (mL + 11) + 60 * d ≤ R.locals; omega, fun w hw a' U hU => by
    rw [List.mem_singleton] at hw
    subst hw
    exact am_wd h0 (State.WarmedH.trans hW hU) h2 rfl a', List.mem_singleton.mpr rfl, am_wd h0 hW h2 rfl args, am_wd h0 hW h5 rfl args, hnm, fun sig hs => by rw [hs] at hn; simpa using hn.symm, am_wd h0 hW h1 rfl args⟩
theorem am_WbackV {p : Program} {l : Launch} {e : Env} {R : Room} {s : State} {m : MethodId} {args : Array Value} {below : List Frame} {meth : Method} {c : Code} {H : Heap} {locs : List Loc} {cells slots : Nat} {Q : State → Prop} {pc : Nat} {arr : Array Slot} {st0 rest : List Value} {a : Array Value} (hr : va_Run p l e R s m args below meth c H locs cells slots 0 0 (F0 m pc arr st0) rest (am_QcV a) (fun _ => False))
    (kk : W p l e R s m args below meth c H locs cells slots Q (F0 m (pc + 3) arr rest)) : W p l e R s m args below meth c H locs cells slots Q (F0 m pc arr st0) := by
  intro T hT X
  obtain ⟨v, st₀, t, T', L', h0, X', hL, e1, e2, hq, go⟩ := hr T hT X
  obtain ⟨hv, hG'⟩ := hq
  cases hv
  have hL0 : L' = [] := by
    cases L' with
    | nil => rfl
    | cons z zs => exact (hL z List.mem_cons_self).elim
  subst hL0
  rw [List.append_nil] at X'
  obtain ⟨t2, a1, b1⟩ := kk T' (by rw [e1, hG', h0]) X'
  exact ⟨t2, go t2 a1, b1⟩
set_option maxHeartbeats 4000000 in
theorem am_c1 (l : Launch) (s0 : State) {i n : Int32} (r : Option Nat) (h1 : ¬ i < 0) (h2 : i < n) : Met l yJ3_checkIndex_8e157 [Cond.code yJ3_checkIndex_8e157 cJ3_checkIndex_8e157 3 (some .int)] (am_rmk 0) (am_PcS s0 [.int i, .int n, va_rf r]) (am_QcS i) 0 0 (fun _ => False) := by
  refine Met.ofW (cc := cJ3_checkIndex_8e157) (maxL := 3) (ret := some .int) (by decide) rfl ?_
  intro p e s m args below meth c s₁ B hml hv
  obtain ⟨rfl, hW, hq⟩ := hv
  have hx := B.exec
  have hb := B.bytes
  have hlocks := B.notSynchronized
  rw [lg_entry_eq]
  have hl : ∃ ls : Array Slot, ls = (lg_sl [.int i, .int n, va_rf r] ++ List.replicate (3 - (lg_sl [.int i, .int n, va_rf r]).length) Slot.unset).toArray ∧ lv_has ls 3 [(0, .int i), (1, .int n)] := by
    refine ⟨_, rfl, ?_⟩
    cases r with
    | none => exact lv_sub (lv_entry [.int i, .int n, .null] (n := 3) (Nat.le_of_ble_eq_true rfl)) [0, 1] rfl
    | some a => exact lv_sub (lv_entry [.int i, .int n, .ref a] (n := 3) (Nat.le_of_ble_eq_true rfl)) [0, 1] rfl
  obtain ⟨ls, els, hl⟩ := hl
  rw [← els]
  refine lv_iload_n hx hb dJ3_checkIndex_8e157_0 rfl (lv_at hl 0 rfl) ?_
  refine lv_if_lt (tgt := 9) hx hb dJ3_checkIndex_8e157_1 (by decide) (fun z => absurd z h1) (fun _ => ?_)
  refine lv_iload_n hx hb dJ3_checkIndex_8e157_4 rfl (lv_at hl 0 rfl) ?_
  refine lv_iload_n hx hb dJ3_checkIndex_8e157_5 rfl (lv_at hl 1 rfl) ?_
  refine lv_icmp_lt (tgt := 16) hx hb dJ3_checkIndex_8e157_6 (by decide) (fun _ => ?_) (fun z => absurd h2 z)
  refine lv_iload_n hx hb dJ3_checkIndex_8e157_16 rfl (lv_at hl 0 rfl) ?_
  exact W.iret hx hb B.returns (fun t ht _ => ⟨rfl, ht⟩) (fun q hq => absurd hq List.not_mem_nil) dJ3_checkIndex_8e157_17
set_option maxHeartbeats 4000000 in
theorem am_c2 (l : Launch) {b : Nat} {s0 : State} (h0 : ∀ w ∈ lw_tbl, w.before #[Value.ref b] s0 = true) (hZ : ∃ r, va_Z "jdk/internal/util/Preconditions" "SIOOBE_FORMATTER" "Ljava/util/function/BiFunction;" (va_rf r) (am_Ar s0) s0 s0.heap) {i n : Int32} (h1 : ¬ i < 0) (h2 : i < n) : Met l yJ0_checkIndex_df160 [Cond.code yJ0_checkIndex_df160 cJ0_checkIndex_df160 2 none] (am_rmk 1) (am_PcS s0 [.int i, .int n]) am_QcV 0 0 (fun _ => False) := by
  obtain ⟨r, hZ⟩ := hZ
  refine Met.ofW (cc := cJ0_checkIndex_df160) (maxL := 2) (ret := none) (by decide) rfl ?_
  intro p e s m args below meth c s₁ B hml hv
  obtain ⟨rfl, hW, hq⟩ := hv
  have hx := B.exec
  have hb := B.bytes
  have hlocks := B.notSynchronized
  have hown : s.vm.findClass RJ0 = some m.cls := findClass_of_methodNamed B.named
  have hS : va_S (am_Ar s0) s.heap s.heap [] := va_S.rf
  have hl := lv_entry [.int i, .int n] (n := 2) (Nat.le_of_ble_eq_true rfl)
  rw [lg_entry_eq]
  generalize (lg_sl [.int i, .int n] ++ List.replicate (2 - (lg_sl [.int i, .int n]).length) Slot.unset).toArray = ls at hl ⊢
  refine lv_iload_n hx hb dJ0_checkIndex_df160_0 rfl (lv_at hl 0 rfl) ?_
  refine lv_iload_n hx hb dJ0_checkIndex_df160_1 rfl (lv_at hl 1 rfl) ?_
  refine va_gets hx hb ((va_Z.moved hW.alike hZ).kept (fun a _ ha => hq a (Nat.not_le.mp ha))) hS hown (am_wd h0 hW (w := 502) (by decide +kernel) rfl _) (fun _ h => h) dJ0_checkIndex_df160_2 ?_
  refine am_WbackS (va_runS (own := RJ0) (As := [.int i, .int n, va_rf r]) (rest := []) (Ts := []) (n := 3) ⟨hx, hb, hml, hown, fun _ h => absurd h List.not_mem_nil⟩ (am_c1 l s0 r h1 h2) ⟨am_dm h0 hW (w1 := 504) (w2 := 506) (w5 := 109) (by decide +kernel) ⟨by decide, by decide⟩ (by decide +kernel) (by decide +kernel) (by decide +kernel) (by decide) (by decide) (by decide), am_wd h0 hW (w := 505) (by decide +kernel) rfl _⟩
    ⟨fun _ _ _ _ h => h, fun U hU hV => ⟨rfl, State.WarmedH.trans hW hV, fun z hz => by rw [hU]; exact hq z hz⟩⟩ rfl rfl hl.1 rfl (lv_room (by decide)) dJ0_checkIndex_df160_5 ⟨Nat.zero_le _, Nat.zero_le _⟩) ?_
  refine lv_pop hx hb dJ0_checkIndex_df160_8 rfl ?_
  exact W.vret hx hb B.returns (fun t ht _ => ⟨rfl, ht⟩) (fun q hq => absurd hq List.not_mem_nil) dJ0_checkIndex_df160_9
set_option maxHeartbeats 4000000 in
theorem am_c3 (l : Launch) {b : Nat} {s0 : State} (h0 : ∀ w ∈ lw_tbl, w.before #[Value.ref b] s0 = true) (hZ : ∃ r, va_Z "jdk/internal/util/Preconditions" "SIOOBE_FORMATTER" "Ljava/util/function/BiFunction;" (va_rf r) (am_Ar s0) s0 s0.heap) {t0 N : Nat} {f : Nat → Int32} (hT : va_T .byte t0 N (fun j => .int (f j)) (am_Ar s0) s0 s0.heap) (hN : N < 2 ^ 31) {k : Int32} (hk : vp_in k N) : Met l yJ1_charAt_3b067 [Cond.code yJ1_charAt_3b067 cJ1_charAt_3b067 2 (some .char)] (am_rmk 2) (am_PcS s0 [.ref t0, .int k]) (am_QcS (((f k.toNatClampNeg) &&& 255).toUInt32 % 65536).toInt32) 0 0 (fun _ => False) := by
  have h1 : ¬ k < 0 := fun z => hk (Or.inl z)
  have h2 : k < Int32.ofNat N := by
    obtain ⟨j, hj, rfl⟩ := vp_in_of hk hN
    exact nI_lt hj hN
  refine Met.ofW (cc := cJ1_charAt_3b067) (maxL := 2) (ret := some .char) (by decide) rfl ?_
  intro p e s m args below meth c s₁ B hml hv
  obtain ⟨rfl, hW, hq⟩ := hv
  have hx := B.exec
  have hb := B.bytes
  have hlocks := B.notSynchronized
  have hown : s.vm.findClass RJ1 = some m.cls := findClass_of_methodNamed B.named
  have hS : va_S (am_Ar s0) s.heap s.heap [] := va_S.rf
  have hT' := (va_T.moved hW.alike hT).kept (H1 := s.heap) (fun a _ ha => hq a (Nat.not_le.mp ha))
  have hl := lv_entry [.ref t0, .int k] (n := 2) (Nat.le_of_ble_eq_true rfl)
  rw [lg_entry_eq]
  generalize (lg_sl [.ref t0, .int k] ++ List.replicate (2 - (lg_sl [.ref t0, .int k]).length) Slot.unset).toArray = ls at hl ⊢
  refine lv_iload_n hx hb dJ1_charAt_3b067_0 rfl (lv_at hl 1 rfl) ?_
  refine lv_aload_n hx hb dJ1_charAt_3b067_1 rfl (lv_at hl 0 rfl) ?_
  refine va_tlen hx hb hT' hS rfl dJ1_charAt_3b067_2 ?_
  refine am_WbackV (va_runS (own := RJ1) (As := [.int k, .int (Int32.ofNat N)]) (rest := []) (Ts := []) (n := 2) ⟨hx, hb, hml, hown, fun _ h => absurd h List.not_mem_nil⟩ (am_c2 l h0 hZ h1 h2) ⟨am_dm h0 hW (w1 := 499) (w2 := 501) (w5 := 107) (by decide +kernel) ⟨by decide, by decide⟩ (by decide +kernel) (by decide +kernel) (by decide +kernel) (by decide) (by decide) (by decide), am_wd h0 hW (w := 500) (by decide +kernel) rfl _⟩
    ⟨fun _ _ _ _ h => h, fun U hU hV => ⟨rfl, State.WarmedH.trans hW hV, fun z hz => by rw [hU]; exact hq z hz⟩⟩ rfl rfl hl.1 rfl (lv_room (by decide)) dJ1_charAt_3b067_3 ⟨Nat.zero_le _, Nat.zero_le _⟩) ?_
  refine lv_aload_n hx hb dJ1_charAt_3b067_6 rfl (lv_at hl 0 rfl) ?_
  refine lv_iload_n hx hb dJ1_charAt_3b067_7 rfl (lv_at hl 1 rfl) ?_
  refine va_tb hx hb hT' hS hk rfl dJ1_charAt_3b067_8 ?_
  refine lv_sipush (v := 255) hx hb dJ1_charAt_3b067_9 (by decide) ?_
  refine lv_iand hx hb dJ1_charAt_3b067_12 ?_
  refine lv_i2c hx hb dJ1_charAt_3b067_13 rfl ?_
  exact W.zret hx hb B.returns (pk_nc _) (fun t ht _ => ⟨rfl, ht⟩) (fun q hq => absurd hq List.not_mem_nil) dJ1_charAt_3b067_14
/-- what is known of a text's own object -/
def am_T1 (s0 : State) (a t N : Nat) (f : Nat → Int32) : Prop := va_O "java/lang/String" a (am_Ar s0) s0 s0.heap ∧ va_OF "java/lang/String" "coder" "B" (.int 0) a (am_Ar s0) s0 s0.heap ∧ va_OF "java/lang/String" "value" "[B" (.ref t) a (am_Ar s0) s0 s0.heap ∧ va_T .byte t N (fun j => .int (f j)) (am_Ar s0) s0 s0.heap ∧ va_Z "java/lang/String" "COMPACT_STRINGS" "Z" (.int 1) (am_Ar s0) s0 s0.heap
set_option maxHeartbeats 4000000 in
theorem am_c4 (l : Launch) {b : Nat} {s0 : State} (h0 : ∀ w ∈ lw_tbl, w.before #[Value.ref b] s0 = true) {a t N : Nat} {f : Nat → Int32} (hT : am_T1 s0 a t N f) : Met l yJ0_isLatin1_aae02 [Cond.code yJ0_isLatin1_aae02 cJ0_isLatin1_aae02 1 (some .boolean)] (am_rmk 0) (am_PcS s0 [.ref a]) (am_QcS 1) 0 0 (fun _ => False) := by
  obtain ⟨t1, t2, t3, t4, t5⟩ := hT
  refine Met.ofW (cc := cJ0_isLatin1_aae02) (maxL := 1) (ret := some .boolean) (by decide) rfl ?_
  intro p e s m args below meth c s₁ B hml hv
  obtain ⟨rfl, hW, hq⟩ := hv
  have hx := B.exec
  have hb := B.bytes
  have hlocks := B.notSynchronized
  have hown : s.vm.findClass RJ0 = some m.cls := findClass_of_methodNamed B.named
  have hS : va_S (am_Ar s0) s.heap s.heap [] := va_S.rf
  have hkp : ∀ a : Nat, a < s0.heap.size → ¬ am_Ar s0 a → s.heap[a]? = s0.heap[a]? := fun a _ ha => hq a (Nat.not_le.mp ha)
  have hl := lv_entry [.ref a] (n := 1) (Nat.le_of_ble_eq_true rfl)
  rw [lg_entry_eq]
  generalize (lg_sl [.ref a] ++ List.replicate (1 - (lg_sl [.ref a]).length) Slot.unset).toArray = ls at hl ⊢
  refine va_gets hx hb ((va_Z.moved hW.alike t5).kept hkp) hS hown (am_wd h0 hW (w := 486) (by decide +kernel) rfl _) (fun _ h => h) dJ0_isLatin1_aae02_0 ?_
  refine lv_if_eq (tgt := 17) hx hb dJ0_isLatin1_aae02_3 (by decide) (fun z => absurd z (by decide)) (fun _ => ?_)
  refine lv_aload_n hx hb dJ0_isLatin1_aae02_6 rfl (lv_at hl 0 rfl) ?_
  refine vk_getf hx hb ((va_OF.moved hW.alike t2).kept hkp) hS hown (am_wd h0 hW (w := 1537) (by decide +kernel) rfl _) (fun _ h => h) dJ0_isLatin1_aae02_7 ?_
  refine lv_if_ne (tgt := 17) hx hb dJ0_isLatin1_aae02_10 (by decide) (fun z => absurd rfl z) (fun _ => ?_)
  refine lv_iconst (v := 1) hx hb dJ0_isLatin1_aae02_13 (by decide) ?_
  refine lv_goto (tgt := 18) hx hb dJ0_isLatin1_aae02_14 (by decide) ?_
  exact W.zret hx hb B.returns (by decide) (fun t ht _ => ⟨rfl, ht⟩) (fun q hq => absurd hq List.not_mem_nil) dJ0_isLatin1_aae02_18
set_option maxHeartbeats 4000000 in
theorem am_c5 (l : Launch) {b : Nat} {s0 : State} (h0 : ∀ w ∈ lw_tbl, w.before #[Value.ref b] s0 = true) {a t N : Nat} {f : Nat → Int32} (hT : am_T1 s0 a t N f) : Met l yJ0_coder_7d493 [Cond.code yJ0_coder_7d493 cJ0_coder_7d493 1 (some .byte)] (am_rmk 0) (am_PcS s0 [.ref a]) (am_QcS 0) 0 0 (fun _ => False) := by
  obtain ⟨t1, t2, t3, t4, t5⟩ := hT
  refine Met.ofW (cc := cJ0_coder_7d493) (maxL := 1) (ret := some .byte) (by decide) rfl ?_
  intro p e s m args below meth c s₁ B hml hv
  obtain ⟨rfl, hW, hq⟩ := hv
  have hx := B.exec
  have hb := B.bytes
  have hlocks := B.notSynchronized
  have hown : s.vm.findClass RJ0 = some m.cls := findClass_of_methodNamed B.named
  have hS : va_S (am_Ar s0) s.heap s.heap [] := va_S.rf
  have hkp : ∀ a : Nat, a < s0.heap.size → ¬ am_Ar s0 a → s.heap[a]? = s0.heap[a]? := fun a _ ha => hq a (Nat.not_le.mp ha)
  have hl := lv_entry [.ref a] (n := 1) (Nat.le_of_ble_eq_true rfl)
  rw [lg_entry_eq]
  generalize (lg_sl [.ref a] ++ List.replicate (1 - (lg_sl [.ref a]).length) Slot.unset).toArray = ls at hl ⊢
  refine va_gets hx hb ((va_Z.moved hW.alike t5).kept hkp) hS hown (am_wd h0 hW (w := 486) (by decide +kernel) rfl _) (fun _ h => h) dJ0_coder_7d493_0 ?_
  refine lv_if_eq (tgt := 13) hx hb dJ0_coder_7d493_3 (by decide) (fun z => absurd z (by decide)) (fun _ => ?_)
  refine lv_aload_n hx hb dJ0_coder_7d493_6 rfl (lv_at hl 0 rfl) ?_
  refine vk_getf hx hb ((va_OF.moved hW.alike t2).kept hkp) hS hown (am_wd h0 hW (w := 1537) (by decide +kernel) rfl _) (fun _ h => h) dJ0_coder_7d493_7 ?_
  refine lv_goto (tgt := 14) hx hb dJ0_coder_7d493_10 (by decide) ?_
  exact W.zret hx hb B.returns (by decide) (fun t ht _ => ⟨rfl, ht⟩) (fun q hq => absurd hq List.not_mem_nil) dJ0_coder_7d493_14
set_option maxHeartbeats 4000000 in
theorem am_c6 (l : Launch) {b : Nat} {s0 : State} (h0 : ∀ w ∈ lw_tbl, w.before #[Value.ref b] s0 = true) {a t N : Nat} {f : Nat → Int32} (hT : am_T1 s0 a t N f) : Met l yJ0_length_8abf5 [Cond.code yJ0_length_8abf5 cJ0_length_8abf5 1 (some .int)] am_rmS (am_PcS s0 [.ref a]) (am_QcS (Int32.ofNat N)) 0 0 (fun _ => False) := by
  have hT0 := hT
  obtain ⟨t1, t2, t3, t4, t5⟩ := hT
  refine Met.ofW (cc := cJ0_length_8abf5) (maxL := 1) (ret := some .int) (by decide) rfl ?_
  intro p e s m args below meth c s₁ B hml hv
  obtain ⟨rfl, hW, hq⟩ := hv
  have hx := B.exec
  have hb := B.bytes
  have hlocks := B.notSynchronized
  have hown : s.vm.findClass RJ0 = some m.cls := findClass_of_methodNamed B.named
  have hS : va_S (am_Ar s0) s.heap s.heap [] := va_S.rf
  have hkp : ∀ a : Nat, a < s0.heap.size → ¬ am_Ar s0 a → s.heap[a]? = s0.heap[a]? := fun a _ ha => hq a (Nat.not_le.mp ha)
  have hl := lv_entry [.ref a] (n := 1) (Nat.le_of_ble_eq_true rfl)
  rw [lg_entry_eq]
  generalize (lg_sl [.ref a] ++ List.replicate (1 - (lg_sl [.ref a]).length) Slot.unset).toArray = ls at hl ⊢
  refine lv_aload_n hx hb dJ0_length_8abf5_0 rfl (lv_at hl 0 rfl) ?_
  refine vk_getf hx hb ((va_OF.moved hW.alike t3).kept hkp) hS hown (am_wd h0 hW (w := 1536) (by decide +kernel) rfl _) (fun _ h => h) dJ0_length_8abf5_1 ?_
  refine va_tlen hx hb ((va_T.moved hW.alike t4).kept hkp) hS rfl dJ0_length_8abf5_4 ?_
  refine lv_aload_n hx hb dJ0_length_8abf5_5 rfl (lv_at hl 0 rfl) ?_
  obtain ⟨cell, o1, o2, o3, o4⟩ := (va_O.moved hW.alike t1).kept hkp
  refine am_WbackS (va_runV (own := RJ0) (C := RJ0) (As := []) (rest := [.int (Int32.ofNat N)]) (Ts := []) (n := 0) ⟨hx, hb, hml, hown, fun _ h => absurd h List.not_mem_nil⟩ (am_c5 l h0 hT0) ⟨am_dm h0 hW (w1 := 482) (w2 := 485) (w5 := 107) (by decide +kernel) ⟨by decide, by decide⟩ (by decide +kernel) (by decide +kernel) (by decide +kernel) (by decide) (by decide) (by decide), am_wd h0 hW (w := 483) (by decide +kernel) rfl _, am_wd h0 hW (w := 484) (by decide +kernel) rfl _⟩
    ⟨fun _ _ _ _ h => h, ⟨cell, o1, o2, o3⟩, fun U hU hV => ⟨rfl, State.WarmedH.trans hW hV, fun z hz => by rw [hU]; exact hq z hz⟩⟩ rfl rfl hl.1 rfl (lv_room (Nat.le_of_ble_eq_true rfl)) dJ0_length_8abf5_6 ⟨Nat.zero_le _, Nat.zero_le _⟩) ?_
  refine lv_ishr hx hb dJ0_length_8abf5_9 ?_
  rw [sb_shr0]
  exact W.iret hx hb B.returns (fun t ht _ => ⟨rfl, ht⟩) (fun q hq => absurd hq List.not_mem_nil) dJ0_length_8abf5_10
set_option maxHeartbeats 4000000 in
theorem am_c7 (l : Launch) {b : Nat} {s0 : State} (h0 : ∀ w ∈ lw_tbl, w.before #[Value.ref b] s0 = true) (hZ : ∃ r, va_Z "jdk/internal/util/Preconditions" "SIOOBE_FORMATTER" "Ljava/util/function/BiFunction;" (va_rf r) (am_Ar s0) s0 s0.heap) {a t N : Nat} {f : Nat → Int32} (hT : am_T1 s0 a t N f) (hN : N < 2 ^ 31) {k : Int32} (hk : vp_in k N) : Met l yJ0_charAt_5068e [Cond.code yJ0_charAt_5068e cJ0_charAt_5068e 2 (some .char)] am_rmS (am_PcS s0 [.ref a, .int k]) (am_QcS (((f k.toNatClampNeg) &&& 255).toUInt32 % 65536).toInt32) 0 0 (fun _ => False) := by
  have hT0 := hT
  obtain ⟨t1, t2, t3, t4, t5⟩ := hT
  refine Met.ofW (cc := cJ0_charAt_5068e) (maxL := 2) (ret := some .char) (by decide) rfl ?_
  intro p e s m args below meth c s₁ B hml hv
  obtain ⟨rfl, hW, hq⟩ := hv
  have hx := B.exec
  have hb := B.bytes
  have hlocks := B.notSynchronized
  have hown : s.vm.findClass RJ0 = some m.cls := findClass_of_methodNamed B.named
  have hS : va_S (am_Ar s0) s.heap s.heap [] := va_S.rf
  have hkp : ∀ a : Nat, a < s0.heap.size → ¬ am_Ar s0 a → s.heap[a]? = s0.heap[a]? := fun a _ ha => hq a (Nat.not_le.mp ha)
  have hl := lv_entry [.ref a, .int k] (n := 2) (Nat.le_of_ble_eq_true rfl)
  rw [lg_entry_eq]
  generalize (lg_sl [.ref a, .int k] ++ List.replicate (2 - (lg_sl [.ref a, .int k]).length) Slot.unset).toArray = ls at hl ⊢
  refine lv_aload_n hx hb dJ0_charAt_5068e_0 rfl (lv_at hl 0 rfl) ?_
  obtain ⟨cell, o1, o2, o3, o4⟩ := (va_O.moved hW.alike t1).kept hkp
  refine am_WbackS (va_runV (own := RJ0) (C := RJ0) (As := []) (rest := []) (Ts := []) (n := 0) ⟨hx, hb, hml, hown, fun _ h => absurd h List.not_mem_nil⟩ (am_c4 l h0 hT0) ⟨am_dm h0 hW (w1 := 492) (w2 := 495) (w5 := 107) (by decide +kernel) ⟨by decide, by decide⟩ (by decide +kernel) (by decide +kernel) (by decide +kernel) (by decide) (by decide) (by decide), am_wd h0 hW (w := 493) (by decide +kernel) rfl _, am_wd h0 hW (w := 494) (by decide +kernel) rfl _⟩
    ⟨fun _ _ _ _ h => h, ⟨cell, o1, o2, o3⟩, fun U hU hV => ⟨rfl, State.WarmedH.trans hW hV, fun z hz => by rw [hU]; exact hq z hz⟩⟩ rfl rfl hl.1 rfl (lv_room (by decide)) dJ0_charAt_5068e_1 ⟨Nat.zero_le _, Nat.zero_le _⟩) ?_
  refine lv_if_eq (tgt := 16) hx hb dJ0_charAt_5068e_4 (by decide) (fun z => absurd z (by decide)) (fun _ => ?_)
  refine lv_aload_n hx hb dJ0_charAt_5068e_7 rfl (lv_at hl 0 rfl) ?_
  refine vk_getf hx hb ((va_OF.moved hW.alike t3).kept hkp) hS hown (am_wd h0 hW (w := 1536) (by decide +kernel) rfl _) (fun _ h => h) dJ0_charAt_5068e_8 ?_
  refine lv_iload_n hx hb dJ0_charAt_5068e_11 rfl (lv_at hl 1 rfl) ?_
  refine am_WbackS (va_runS (own := RJ0) (As := [.ref t, .int k]) (rest := []) (Ts := []) (n := 2) ⟨hx, hb, hml, hown, fun _ h => absurd h List.not_mem_nil⟩ (am_c3 l h0 hZ t4 hN hk) ⟨am_dm h0 hW (w1 := 496) (w2 := 498) (w5 := 108) (by decide +kernel) ⟨by decide, by decide⟩ (by decide +kernel) (by decide +kernel) (by decide +kernel) (by decide) (by decide) (by decide), am_wd h0 hW (w := 497) (by decide +kernel) rfl _⟩
    ⟨fun _ _ _ _ h => h, fun U hU hV => ⟨rfl, State.WarmedH.trans hW hV, fun z hz => by rw [hU]; exact hq z hz⟩⟩ rfl rfl hl.1 rfl (lv_room (by decide)) dJ0_charAt_5068e_12 ⟨Nat.zero_le _, Nat.zero_le _⟩) ?_
  exact W.zret hx hb B.returns (pk_nc _) (fun t ht _ => ⟨rfl, ht⟩) (fun q hq => absurd hq List.not_mem_nil) dJ0_charAt_5068e_15
end
section
def am_gv : Jvm.Cond := Jvm.Cond.and given_1 narrow_1
def am_tmS (i : Nat) : Term := .string RX2 (am_stx (i + 4))
set_option maxRecDepth 100000 in
theorem am_g1 : ∀ p, p < 4 → Cond.arrayOf (.static "AirByYard" (am_stN p) "[I") .int ∈ flatC am_gv ∧ Cond.eq (.length (.static "AirByYard" (am_stN p) "[I")) (.int (Int32.ofNat (am_roL p).length)) ∈ flatC am_gv := by decide +kernel
set_option maxRecDepth 100000 in
theorem am_g2 : ∀ p, p < 4 → ∀ j, j < (am_roL p).length → Cond.eq (.elem (.static "AirByYard" (am_stN p) "[I") (.int (Int32.ofNat j))) (.int ((am_roL p).getD j 0)) ∈ flatC am_gv := by decide +kernel
set_option maxRecDepth 100000 in
theorem am_g3 : ∀ i, i < 4 → Cond.exactly (am_tmS i) "java/lang/String" ∈ flatC am_gv ∧ Cond.eq (.field (am_tmS i) "java/lang/String" "coder" "B") (.int 0) ∈ flatC am_gv ∧ Cond.arrayOf (.field (am_tmS i) "java/lang/String" "value" "[B") .byte ∈ flatC am_gv ∧ Cond.eq (.length (.field (am_tmS i) "java/lang/String" "value" "[B")) (.int (Int32.ofNat (am_roL (i + 4)).length)) ∈ flatC am_gv := by decide +kernel
set_option maxRecDepth 100000 in
theorem am_g4 : ∀ i, i < 4 → ∀ j, j < (am_roL (i + 4)).length → Cond.eq (.elem (.field (am_tmS i) "java/lang/String" "value" "[B") (.int (Int32.ofNat j))) (.int ((am_roL (i + 4)).getD j 0)) ∈ flatC am_gv := by decide +kernel
set_option maxRecDepth 100000 in
theorem am_g5 : ∀ i, i < 4 → ∀ j, j < 4 → i ≠ j → (Cond.not (Cond.eq (am_tmS i) (am_tmS j)) ∈ flatC am_gv ∨ Cond.not (Cond.eq (am_tmS j) (am_tmS i)) ∈ flatC am_gv) := by decide +kernel
theorem am_g6 : Cond.eq (.static "java/lang/String" "COMPACT_STRINGS" "Z") (.int 1) ∈ flatC am_gv := by decide +kernel
theorem am_g7 : Cond.isRef (.static "jdk/internal/util/Preconditions" "SIOOBE_FORMATTER" "Ljava/util/function/BiFunction;") ∈ flatC am_gv := by decide +kernel
theorem am_t1 : ∀ p, p < 4 → Cond.laysStatic "AirByYard" (am_stN p) "[I" ∈ lw_tbl := by decide +kernel
theorem am_t2 : Cond.initialized "AirByYard" ∈ lw_tbl ∧ Cond.initialized "java/lang/String" ∈ lw_tbl ∧ Cond.initialized "jdk/internal/util/Preconditions" ∈ lw_tbl ∧ Cond.laysStatic "java/lang/String" "COMPACT_STRINGS" "Z" ∈ lw_tbl ∧ Cond.laysStatic "jdk/internal/util/Preconditions" "SIOOBE_FORMATTER" "Ljava/util/function/BiFunction;" ∈ lw_tbl := by decide +kernel
theorem am_t3 : ∀ i, i < 4 → Cond.stringRef RX2 (am_stx (i + 4)) (am_stt (i + 4)) ∈ lw_tbl := by decide +kernel
theorem am_t4 : ∀ t, t < 4 → Cond.arrayClass (am_tys t) ∈ lw_tbl := by decide +kernel
theorem am_t5 : Cond.arrayOver (.object RX1) ∈ lw_tbl ∧ Cond.arrayOver (.object RX5) ∈ lw_tbl ∧ Cond.arrayOver (.object RX0) ∈ lw_tbl := by decide +kernel
theorem am_t6 : ∀ ci, ci < 8 → Cond.instantiable (am_cn ci) (am_fnum ci) ∈ lw_tbl := by decide +kernel
theorem am_chars : ∀ i, i < 4 → ∀ j, j < (am_roL (i + 4)).length → ((((am_roL (i + 4)).getD j 0) &&& 255).toUInt32 % 65536).toInt32 = (am_roL (i + 4)).getD j 0 := by decide +kernel
theorem am_knowC {args : Array Value} {s : State} (hts : ∀ w ∈ lw_tbl, w.before args s = true) : ∃ D : va_G, ∀ ci, ci < 8 → u_Kn s (am_cn ci) (am_fT ci) (am_fnum ci) (D.1 ci) (D.2 ci) := by
  have h : ∀ ci : Nat, ∃ q : ClassId × (Nat → Nat), ci < 8 → u_Kn s (am_cn ci) (am_fT ci) (am_fnum ci) q.1 q.2 := by
    intro ci
    by_cases hc : ci < 8
    · obtain ⟨cC, iS, hk⟩ := u_known (C := am_cn ci) (T := am_fT ci) (N := am_fnum ci) (n := am_fnum ci) hts (fun w hw => by
        obtain ⟨k, hk, rfl⟩ := List.mem_map.mp hw
        exact am_lays ci hc k (List.mem_range.mp hk)) (hts _ (am_t6 ci hc))
      exact ⟨(cC, iS), fun _ => hk⟩
    · exact ⟨(0, fun _ => 0), fun z => absurd z hc⟩
  obtain ⟨f, hf⟩ := Classical.axiomOfChoice h
  exact ⟨(fun ci => (f ci).1, fun ci => (f ci).2), hf⟩
theorem am_arrO {args : Array Value} {s : State} {Cn : String} (h : (Cond.arrayOver (.object Cn)).before args s = true) : ∃ cA : ClassId, ArrOfT s cA (.object Cn) ∧ va_RA s cA (.object Cn) := by
  obtain ⟨comp, c, k, h1, h2, h3, h4, h5⟩ := Cond.arrayOver_spec h
  exact ⟨c, fun n z => ⟨(fun q hq => by cases hq), k, h3, comp, h4⟩, k, comp, h3, h4, h1, h5⟩
theorem am_arrP {args : Array Value} {s : State} {ty : FieldType} (h : (Cond.arrayClass ty).before args s = true) (hp : ∀ C, ty ≠ .object C) : ∃ cA : ClassId, ArrOfT s cA ty ∧ va_RA s cA ty := by
  obtain ⟨c, k, comp, h1, h2, h3⟩ := Cond.arrayClass_spec h
  refine ⟨c, fun n z => ⟨(fun q hq => by cases hq), k, h2, comp, h3⟩, ?_⟩
  cases ty <;> first | exact h1 | exact absurd rfl (hp _)
theorem am_knowA {args : Array Value} {s : State} (hts : ∀ w ∈ lw_tbl, w.before args s = true) : ∃ ct : Nat → ClassId, ∀ t, t ≤ 6 → ArrOfT s (ct t) (am_tys t) ∧ va_RA s (ct t) (am_tys t) := by
  have h : ∀ t : Nat, ∃ cA : ClassId, t ≤ 6 → ArrOfT s cA (am_tys t) ∧ va_RA s cA (am_tys t) := by
    intro t
    rcases (by omega : t = 0 ∨ t = 1 ∨ t = 2 ∨ t = 3 ∨ t = 4 ∨ t = 5 ∨ t = 6 ∨ 6 < t) with rfl | rfl | rfl | rfl | rfl | rfl | rfl | z
    · obtain ⟨c, hc⟩ := am_arrP (hts _ (am_t4 0 (by decide))) (fun C z => by cases z)
      exact ⟨c, fun _ => hc⟩
    · obtain ⟨c, hc⟩ := am_arrP (hts _ (am_t4 1 (by decide))) (fun C z => by cases z)
      exact ⟨c, fun _ => hc⟩
    · obtain ⟨c, hc⟩ := am_arrP (hts _ (am_t4 2 (by decide))) (fun C z => by cases z)
      exact ⟨c, fun _ => hc⟩
    · obtain ⟨c, hc⟩ := am_arrP (hts _ (am_t4 3 (by decide))) (fun C z => by cases z)
      exact ⟨c, fun _ => hc⟩
    · obtain ⟨c, hc⟩ := am_arrO (hts _ am_t5.1)
      exact ⟨c, fun _ => hc⟩
    · obtain ⟨c, hc⟩ := am_arrO (hts _ am_t5.2.1)
      exact ⟨c, fun _ => hc⟩
    · obtain ⟨c, hc⟩ := am_arrO (hts _ am_t5.2.2)
      exact ⟨c, fun _ => hc⟩
    · exact ⟨0, fun y => by omega⟩
  exact Classical.axiomOfChoice h
/-- all that a run needs of the machine's start -/
theorem am_begin {s : State} {b L : Nat} {xs : Nat → Int32} (hts : ∀ w ∈ lw_tbl, w.before #[Value.ref b] s = true) (hX : va_X b L xs s s.heap) (hgv : am_gv.before #[Value.ref b] s = true) : ∃ (D : va_G) (ct : Nat → ClassId) (ro : Nat → Nat), ro 8 = b ∧ am_C0 D ct ro b s L xs := by
  have hf := flat_of_before _ hgv
  have hA : ∀ a : Nat, a < s.heap.size → ¬ am_Ar s a := fun a h => Nat.not_le.mpr h
  obtain ⟨D, hD⟩ := am_knowC hts
  obtain ⟨ct, hct⟩ := am_knowA hts
  have hst : ∀ p : Nat, ∃ t : Nat, p < 4 → (Term.static "AirByYard" (am_stN p) "[I").eval #[Value.ref b] s none [] s = some (.ref t) ∧ va_T .int t (am_roL p).length (fun j => .int ((am_roL p).getD j 0)) (am_Ar s) s s.heap := by
    intro p
    by_cases hp : p < 4
    · obtain ⟨t, h1, h2⟩ := va_Tof (f := fun j => .int ((am_roL p).getD j 0)) (A := am_Ar s) (by rcases (by omega : p = 0 ∨ p = 1 ∨ p = 2 ∨ p = 3) with rfl | rfl | rfl | rfl <;> decide) (hf _ (am_g1 p hp).1) (va_eqt (hf _ (am_g1 p hp).2)) (fun j hj => va_eqt (hf _ (am_g2 p hp j hj))) hA
      exact ⟨t, fun _ => ⟨h1, h2⟩⟩
    · exact ⟨0, fun z => absurd z hp⟩
  obtain ⟨ts, hts4⟩ := Classical.axiomOfChoice hst
  obtain ⟨adK, adV, hS, hev⟩ := vk_Sof (args := #[Value.ref b]) (s := s) (N := 4) (tm := am_tmS) (len := [5, 6, 5, 4]) (byt := [am_roL 4, am_roL 5, am_roL 6, am_roL 7]) (A := am_Ar s) (by decide) (fun i hi => hf _ (am_g3 i hi).1) (fun i hi => hf _ (am_g3 i hi).2.1) (fun i hi => hf _ (am_g3 i hi).2.2.1)
    (fun i hi => by
      have := hf _ (am_g3 i hi).2.2.2
      rcases (by omega : i = 0 ∨ i = 1 ∨ i = 2 ∨ i = 3) with rfl | rfl | rfl | rfl <;> exact this)
    (fun i hi j hj => by
      have h4 : ∀ j, j < (am_roL (i + 4)).length → (Cond.eq (.elem (.field (am_tmS i) "java/lang/String" "value" "[B") (.int (Int32.ofNat j))) (.int ((am_roL (i + 4)).getD j 0))).before #[Value.ref b] s = true := fun j hj => hf _ (am_g4 i hi j hj)
      rcases (by omega : i = 0 ∨ i = 1 ∨ i = 2 ∨ i = 3) with rfl | rfl | rfl | rfl <;> exact h4 j hj)
    (fun i j hi hj hne => by
      rcases am_g5 i hi j hj hne with h | h
      · exact Or.inl (hf _ h)
      · exact Or.inr (hf _ h)) hA
  have hCS := va_Zof (A := am_Ar s) (hts _ am_t2.2.2.2.1) (hts _ am_t2.2.1) (va_eqi (hf _ am_g6)) hA
  have hZ : ∃ r, va_Z "jdk/internal/util/Preconditions" "SIOOBE_FORMATTER" "Ljava/util/function/BiFunction;" (va_rf r) (am_Ar s) s s.heap := by
    rcases va_Zqof (A := am_Ar s) (hts _ am_t2.2.2.2.2) (hts _ am_t2.2.2.1) (hf _ am_g7) hA with h | ⟨t, h⟩
    · exact ⟨none, h⟩
    · exact ⟨some t, h⟩
  have hro : ∀ p, 4 ≤ p → p < 8 → (if p < 4 then ts p else if p < 8 then adK (p - 4) else b) = adK (p - 4) := fun p h1 h2 => by rw [if_neg (by omega), if_pos h2]
  refine ⟨D, ct, fun p => if p < 4 then ts p else if p < 8 then adK (p - 4) else b, rfl, hts, hD, hct, ?_, ?_, ?_, ?_⟩
  · rintro p (hp | rfl)
    · obtain ⟨cell, q1, q2, q3, q4, q5, q6, -⟩ := (hts4 p hp).2
      have e : (am_roS L p).2 = (am_roL p).length := by unfold am_roS; rw [if_pos hp]
      rw [e]
      refine ⟨cell, by show s.heap[if p < 4 then ts p else _]? = _; rw [if_pos hp]; exact q1, q2, q3, q4, q5, fun j hj => ?_⟩
      rw [q6 j hj]
      unfold am_roI
      rw [if_pos (by omega)]
    · obtain ⟨scr, q1, q2, q3, q4, q5⟩ := hX
      refine ⟨scr, q1, q2, q3, by rw [q4]; exact Nat.le_refl _, by rw [q4]; rfl, fun j hj => ?_⟩
      exact q5 j hj
  · intro p hp
    show va_Z "AirByYard" (am_stN p) "[I" (.ref (if p < 4 then ts p else _)) _ s s.heap
    rw [if_pos hp]
    exact va_Zref (hts _ (am_t1 p hp)) (hts _ am_t2.1) (hts4 p hp).1 hA
  · intro p h1 h2
    show vk_R RX2 (am_stx p) (am_stt p) (if p < 4 then ts p else if p < 8 then adK (p - 4) else b) s
    rw [hro p h1 h2]
    have e4 : p - 4 + 4 = p := by omega
    have a1 := hts _ (am_t3 (p - 4) (by omega))
    have a2 := hev (p - 4) (by omega)
    unfold am_tmS at a2
    rw [e4] at a1 a2
    exact vk_R.of a1 a2
  · intro l p h1 h2
    show (∃ cell : Cell, s.heap[if p < 4 then ts p else if p < 8 then adK (p - 4) else b]? = some cell ∧ _ ∧ _) ∧ Met l _ _ _ (am_PcS s [.ref (if p < 4 then ts p else if p < 8 then adK (p - 4) else b)]) _ _ _ _ ∧ ∀ k : Int32, _ → Met l _ _ _ (am_PcS s [.ref (if p < 4 then ts p else if p < 8 then adK (p - 4) else b), .int k]) _ _ _ _
    rw [hro p h1 h2]
    obtain ⟨t1, t2, t3, t4⟩ := hS.1 (p - 4) (by omega)
    have key : ∀ i, i < 4 → ([5, 6, 5, 4] : List Nat).getD i 0 = (am_roL (i + 4)).length ∧ ([am_roL 4, am_roL 5, am_roL 6, am_roL 7] : List (List Int32)).getD i [] = am_roL (i + 4) ∧ (am_roL (i + 4)).length < 2 ^ 31 := by
      intro i hi
      rcases (by omega : i = 0 ∨ i = 1 ∨ i = 2 ∨ i = 3) with rfl | rfl | rfl | rfl <;> exact ⟨rfl, rfl, by decide⟩
    obtain ⟨k1, k2, k3⟩ := key (p - 4) (by omega)
    rw [k1, k2] at t4
    have e4 : p - 4 + 4 = p := by omega
    have hc := am_chars (p - 4) (by omega)
    rw [e4] at t4 k3 hc
    have hT : am_T1 s (adK (p - 4)) (adV (p - 4)) (am_roL p).length (fun j => (am_roL p).getD j 0) := ⟨t1, t2, t3, t4, hCS⟩
    refine ⟨?_, am_c6 l hts hT, fun k hk => ?_⟩
    · obtain ⟨cell, o1, o2, o3, -⟩ := t1
      exact ⟨cell, o1, o2, o3⟩
    · have := am_c7 l hts hZ hT k3 hk
      obtain ⟨j, hj, rfl⟩ := vp_in_of hk k3
      rw [nI_clamp (by omega), hc j hj] at this
      rw [nI_clamp (by omega)]
      exact this
end
section
/-! where all lies once both objects stand: what rows and objects are, and which of them hold which -/
def am_MR (p k : Nat) : Option Nat := match Nat.blt p 199 with
  | true => (match Nat.blt p 99 with | true => (match Nat.blt p 49 with | true => (match Nat.blt p 24 with | true => (match Nat.blt p 12 with | true => (match Nat.blt p 6 with | true => (match Nat.blt p 3 with | true => (match Nat.blt p 1 with | true => none | false => (match Nat.blt p 2 with | true => none | false => none)) | false => (match Nat.blt p 4 with | true => none | false => (match Nat.blt p 5 with | true => none | false => none))) | false => (match Nat.blt p 9 with | true => (match Nat.blt p 7 with | true => none | false => (match Nat.blt p 8 with | true => none | false => none)) | false => (match Nat.blt p 10 with | true => (([some 10, some 41, none, some 72, some 74, none, some 75, some 76, none, some 77, some 108, some 110, some 111, some 112, some 113, some 114, some 115] : List (Option Nat)).getD k none) | false => (match Nat.blt p 11 with | true => (([some 11, none, none, none, some 12, some 17, some 22] : List (Option Nat)).getD k none) | false => (([some 27, some 29, some 31, some 33, some 35, some 37, some 39] : List (Option Nat)).getD k none))))) | false => (match Nat.blt p 18 with | true => (match Nat.blt p 15 with | true => (match Nat.blt p 13 with | true => (([some 13, some 14, some 15, some 16] : List (Option Nat)).getD k none) | false => (match Nat.blt p 14 with | true => none | false => none)) | false => (match Nat.blt p 16 with | true => none | false => (match Nat.blt p 17 with | true => none | false => (([some 18, some 19, some 20, some 21] : List (Option Nat)).getD k none)))) | false => (match Nat.blt p 21 with | true => (match Nat.blt p 19 with | true => none | false => (match Nat.blt p 20 with | true => none | false => none)) | false => (match Nat.blt p 22 with | true => none | false => (match Nat.blt p 23 with | true => (([some 23, some 24, some 25, some 26] : List (Option Nat)).getD k none) | false => none))))) | false => (match Nat.blt p 36 with | true => (match Nat.blt p 30 with | true => (match Nat.blt p 27 with | true => (match Nat.blt p 25 with | true => none | false => (match Nat.blt p 26 with | true => none | false => none)) | false => (match Nat.blt p 28 with | true => (([some 28] : List (Option Nat)).getD k none) | false => (match Nat.blt p 29 with | true => none | false => (([some 30] : List (Option Nat)).getD k none)))) | false => (match Nat.blt p 33 with | true => (match Nat.blt p 31 with | true => none | false => (match Nat.blt p 32 with | true => (([some 32] : List (Option Nat)).getD k none) | false => none)) | false => (match Nat.blt p 34 with | true => (([some 34] : List (Option Nat)).getD k none) | false => (match Nat.blt p 35 with | true => none | false => (([some 36] : List (Option Nat)).getD k none))))) | false => (match Nat.blt p 42 with | true => (match Nat.blt p 39 with | true => (match Nat.blt p 37 with | true => none | false => (match Nat.blt p 38 with | true => (([some 38] : List (Option Nat)).getD k none) | false => none)) | false => (match Nat.blt p 40 with | true => (([some 40] : List (Option Nat)).getD k none) | false => (match Nat.blt p 41 with | true => none | false => (([some 42, none, none, none, some 43, some 48, some 53] : List (Option Nat)).getD k none)))) | false => (match Nat.blt p 45 with | true => (match Nat.blt p 43 with | true => (([some 58, some 60, some 62, some 64, some 66, some 68, some 70] : List (Option Nat)).getD k none) | false => (match Nat.blt p 44 with | true => (([some 44, some 45, some 46, some 47] : List (Option Nat)).getD k none) | false => none)) | false => (match Nat.blt p 47 with | true => (match Nat.blt p 46 with | true => none | false => none) | false => (match Nat.blt p 48 with | true => none | false => (([some 49, some 50, some 51, some 52] : List (Option Nat)).getD k none))))))) | false => (match Nat.blt p 74 with | true => (match Nat.blt p 61 with | true => (match Nat.blt p 55 with | true => (match Nat.blt p 52 with | true => (match Nat.blt p 50 with | true => none | false => (match Nat.blt p 51 with | true => none | false => none)) | false => (match Nat.blt p 53 with | true => none | false => (match Nat.blt p 54 with | true => (([some 54, some 55, some 56, some 57] : List (Option Nat)).getD k none) | false => none))) | false => (match Nat.blt p 58 with | true => (match Nat.blt p 56 with | true => none | false => (match Nat.blt p 57 with | true => none | false => none)) | false => (match Nat.blt p 59 with | true => (([some 59] : List (Option Nat)).getD k none) | false => (match Nat.blt p 60 with | true => none | false => (([some 61] : List (Option Nat)).getD k none))))) | false => (match Nat.blt p 67 with | true => (match Nat.blt p 64 with | true => (match Nat.blt p 62 with | true => none | false => (match Nat.blt p 63 with | true => (([some 63] : List (Option Nat)).getD k none) | false => none)) | false => (match Nat.blt p 65 with | true => (([some 65] : List (Option Nat)).getD k none) | false => (match Nat.blt p 66 with | true => none | false => (([some 67] : List (Option Nat)).getD k none)))) | false => (match Nat.blt p 70 with | true => (match Nat.blt p 68 with | true => none | false => (match Nat.blt p 69 with | true => (([some 69] : List (Option Nat)).getD k none) | false => none)) | false => (match Nat.blt p 72 with | true => (match Nat.blt p 71 with | true => (([some 71] : List (Option Nat)).getD k none) | false => none) | false => (match Nat.blt p 73 with | true => (([some 73] : List (Option Nat)).getD k none) | false => none))))) | false => (match Nat.blt p 86 with | true => (match Nat.blt p 80 with | true => (match Nat.blt p 77 with | true => (match Nat.blt p 75 with | true => (([some 116, some 118, some 120, some 122, some 124, some 126, some 128] : List (Option Nat)).getD k none) | false => (match Nat.blt p 76 with | true => (([some 130, some 132, some 134, some 136, some 138, some 140] : List (Option Nat)).getD k none) | false => none)) | false => (match Nat.blt p 78 with | true => (([some 78, none, none, none, some 79, some 84, some 89] : List (Option Nat)).getD k none) | false => (match Nat.blt p 79 with | true => (([some 94, some 96, some 98, some 100, some 102, some 104, some 106] : List (Option Nat)).getD k none) | false => (([some 80, some 81, some 82, some 83] : List (Option Nat)).getD k none)))) | false => (match Nat.blt p 83 with | true => (match Nat.blt p 81 with | true => none | false => (match Nat.blt p 82 with | true => none | false => none)) | false => (match Nat.blt p 84 with | true => none | false => (match Nat.blt p 85 with | true => (([some 85, some 86, some 87, some 88] : List (Option Nat)).getD k none) | false => none)))) | false => (match Nat.blt p 92 with | true => (match Nat.blt p 89 with | true => (match Nat.blt p 87 with | true => none | false => (match Nat.blt p 88 with | true => none | false => none)) | false => (match Nat.blt p 90 with | true => (([some 90, some 91, some 92, some 93] : List (Option Nat)).getD k none) | false => (match Nat.blt p 91 with | true => none | false => none))) | false => (match Nat.blt p 95 with | true => (match Nat.blt p 93 with | true => none | false => (match Nat.blt p 94 with | true => none | false => (([some 95] : List (Option Nat)).getD k none))) | false => (match Nat.blt p 97 with | true => (match Nat.blt p 96 with | true => none | false => (([some 97] : List (Option Nat)).getD k none)) | false => (match Nat.blt p 98 with | true => none | false => (([some 99] : List (Option Nat)).getD k none)))))))) | false => (match Nat.blt p 149 with | true => (match Nat.blt p 124 with | true => (match Nat.blt p 111 with | true => (match Nat.blt p 105 with | true => (match Nat.blt p 102 with | true => (match Nat.blt p 100 with | true => none | false => (match Nat.blt p 101 with | true => (([some 101] : List (Option Nat)).getD k none) | false => none)) | false => (match Nat.blt p 103 with | true => (([some 103] : List (Option Nat)).getD k none) | false => (match Nat.blt p 104 with | true => none | false => (([some 105] : List (Option Nat)).getD k none)))) | false => (match Nat.blt p 108 with | true => (match Nat.blt p 106 with | true => none | false => (match Nat.blt p 107 with | true => (([some 107] : List (Option Nat)).getD k none) | false => none)) | false => (match Nat.blt p 109 with | true => (([some 109] : List (Option Nat)).getD k none) | false => (match Nat.blt p 110 with | true => none | false => none)))) | false => (match Nat.blt p 117 with | true => (match Nat.blt p 114 with | true => (match Nat.blt p 112 with | true => none | false => (match Nat.blt p 113 with | true => none | false => none)) | false => (match Nat.blt p 115 with | true => none | false => (match Nat.blt p 116 with | true => none | false => (([some 117] : List (Option Nat)).getD k none)))) | false => (match Nat.blt p 120 with | true => (match Nat.blt p 118 with | true => none | false => (match Nat.blt p 119 with | true => (([some 119] : List (Option Nat)).getD k none) | false => none)) | false => (match Nat.blt p 122 with | true => (match Nat.blt p 121 with | true => (([some 121] : List (Option Nat)).getD k none) | false => none) | false => (match Nat.blt p 123 with | true => (([some 123] : List (Option Nat)).getD k none) | false => none))))) | false => (match Nat.blt p 136 with | true => (match Nat.blt p 130 with | true => (match Nat.blt p 127 with | true => (match Nat.blt p 125 with | true => (([some 125] : List (Option Nat)).getD k none) | false => (match Nat.blt p 126 with | true => none | false => (([some 127] : List (Option Nat)).getD k none))) | false => (match Nat.blt p 128 with | true => none | false => (match Nat.blt p 129 with | true => (([some 129] : List (Option Nat)).getD k none) | false => none))) | false => (match Nat.blt p 133 with | true => (match Nat.blt p 131 with | true => (([some 131] : List (Option Nat)).getD k none) | false => (match Nat.blt p 132 with | true => none | false => (([some 133] : List (Option Nat)).getD k none))) | false => (match Nat.blt p 134 with | true => none | false => (match Nat.blt p 135 with | true => (([some 135] : List (Option Nat)).getD k none) | false => none)))) | false => (match Nat.blt p 142 with | true => (match Nat.blt p 139 with | true => (match Nat.blt p 137 with | true => (([some 137] : List (Option Nat)).getD k none) | false => (match Nat.blt p 138 with | true => none | false => (([some 139] : List (Option Nat)).getD k none))) | false => (match Nat.blt p 140 with | true => none | false => (match Nat.blt p 141 with | true => (([some 141] : List (Option Nat)).getD k none) | false => none))) | false => (match Nat.blt p 145 with | true => (match Nat.blt p 143 with | true => (([none, none, none, some 143, some 144, some 145, some 146, some 147, some 148, some 149, some 150, none, none, none, none, none, some 151, some 152, some 153, some 154, some 155, some 156, some 157, some 158, none, none, none, some 159, some 160, some 161, none, none, some 162, some 163, some 164, some 165, none, some 166, some 167, some 168, some 169, none, none, some 170, some 171, some 172, some 173, some 174, some 175, some 176, none, none, none, none, none, none, none, none, some 177, some 178, some 179, some 180, some 181, some 182, some 183, some 184, some 185, some 186, some 187, some 188, some 189, some 190, some 191, some 192, some 193, none, some 194, some 195, some 196, some 197, some 198] : List (Option Nat)).getD k none) | false => (match Nat.blt p 144 with | true => none | false => none)) | false => (match Nat.blt p 147 with | true => (match Nat.blt p 146 with | true => none | false => none) | false => (match Nat.blt p 148 with | true => none | false => none)))))) | false => (match Nat.blt p 174 with | true => (match Nat.blt p 161 with | true => (match Nat.blt p 155 with | true => (match Nat.blt p 152 with | true => (match Nat.blt p 150 with | true => none | false => (match Nat.blt p 151 with | true => none | false => none)) | false => (match Nat.blt p 153 with | true => none | false => (match Nat.blt p 154 with | true => none | false => none))) | false => (match Nat.blt p 158 with | true => (match Nat.blt p 156 with | true => none | false => (match Nat.blt p 157 with | true => none | false => none)) | false => (match Nat.blt p 159 with | true => none | false => (match Nat.blt p 160 with | true => none | false => none)))) | false => (match Nat.blt p 167 with | true => (match Nat.blt p 164 with | true => (match Nat.blt p 162 with | true => none | false => (match Nat.blt p 163 with | true => none | false => none)) | false => (match Nat.blt p 165 with | true => none | false => (match Nat.blt p 166 with | true => none | false => none))) | false => (match Nat.blt p 170 with | true => (match Nat.blt p 168 with | true => none | false => (match Nat.blt p 169 with | true => none | false => none)) | false => (match Nat.blt p 172 with | true => (match Nat.blt p 171 with | true => none | false => none) | false => (match Nat.blt p 173 with | true => none | false => none))))) | false => (match Nat.blt p 186 with | true => (match Nat.blt p 180 with | true => (match Nat.blt p 177 with | true => (match Nat.blt p 175 with | true => none | false => (match Nat.blt p 176 with | true => none | false => none)) | false => (match Nat.blt p 178 with | true => none | false => (match Nat.blt p 179 with | true => none | false => none))) | false => (match Nat.blt p 183 with | true => (match Nat.blt p 181 with | true => none | false => (match Nat.blt p 182 with | true => none | false => none)) | false => (match Nat.blt p 184 with | true => none | false => (match Nat.blt p 185 with | true => none | false => none)))) | false => (match Nat.blt p 192 with | true => (match Nat.blt p 189 with | true => (match Nat.blt p 187 with | true => none | false => (match Nat.blt p 188 with | true => none | false => none)) | false => (match Nat.blt p 190 with | true => none | false => (match Nat.blt p 191 with | true => none | false => none))) | false => (match Nat.blt p 195 with | true => (match Nat.blt p 193 with | true => none | false => (match Nat.blt p 194 with | true => none | false => none)) | false => (match Nat.blt p 197 with | true => (match Nat.blt p 196 with | true => none | false => none) | false => (match Nat.blt p 198 with | true => none | false => none))))))))
  | false => none
abbrev av_S : Type := (Nat → Nat → Option Nat) × (Nat → Nat × Nat) × Nat × Nat
/-- the length of the script, and what holds what: no less than the table says -/
abbrev av_W : Type := { w : Nat × (Nat → Nat → Option Nat) // ∀ p k q, am_MR p k = some q → w.2 p k = some q }
def am_MS (L : av_W) (p : Nat) : Nat × Nat := match Nat.blt p 199 with
  | true => (match Nat.blt p 99 with | true => (match Nat.blt p 49 with | true => (match Nat.blt p 24 with | true => (match Nat.blt p 12 with | true => (match Nat.blt p 6 with | true => (match Nat.blt p 3 with | true => (match Nat.blt p 1 with | true => (100, 5) | false => (match Nat.blt p 2 with | true => (100, 5) | false => (100, 21))) | false => (match Nat.blt p 4 with | true => (100, 7) | false => (match Nat.blt p 5 with | true => (200, 5) | false => (200, 6)))) | false => (match Nat.blt p 9 with | true => (match Nat.blt p 7 with | true => (200, 5) | false => (match Nat.blt p 8 with | true => (200, 4) | false => (100, L.1.1))) | false => (match Nat.blt p 10 with | true => (6, 17) | false => (match Nat.blt p 11 with | true => (4, 7) | false => (106, 7))))) | false => (match Nat.blt p 18 with | true => (match Nat.blt p 15 with | true => (match Nat.blt p 13 with | true => (3, 5) | false => (match Nat.blt p 14 with | true => (100, 5) | false => (100, 5))) | false => (match Nat.blt p 16 with | true => (100, 5) | false => (match Nat.blt p 17 with | true => (100, 5) | false => (3, 5)))) | false => (match Nat.blt p 21 with | true => (match Nat.blt p 19 with | true => (100, 6) | false => (match Nat.blt p 20 with | true => (100, 6) | false => (100, 6))) | false => (match Nat.blt p 22 with | true => (100, 6) | false => (match Nat.blt p 23 with | true => (3, 5) | false => (100, 8)))))) | false => (match Nat.blt p 36 with | true => (match Nat.blt p 30 with | true => (match Nat.blt p 27 with | true => (match Nat.blt p 25 with | true => (100, 8) | false => (match Nat.blt p 26 with | true => (100, 8) | false => (100, 8))) | false => (match Nat.blt p 28 with | true => (0, 10) | false => (match Nat.blt p 29 with | true => (100, 4) | false => (0, 10)))) | false => (match Nat.blt p 33 with | true => (match Nat.blt p 31 with | true => (100, 4) | false => (match Nat.blt p 32 with | true => (0, 10) | false => (100, 4))) | false => (match Nat.blt p 34 with | true => (0, 10) | false => (match Nat.blt p 35 with | true => (100, 4) | false => (0, 10))))) | false => (match Nat.blt p 42 with | true => (match Nat.blt p 39 with | true => (match Nat.blt p 37 with | true => (100, 4) | false => (match Nat.blt p 38 with | true => (0, 10) | false => (100, 4))) | false => (match Nat.blt p 40 with | true => (0, 10) | false => (match Nat.blt p 41 with | true => (100, 4) | false => (4, 7)))) | false => (match Nat.blt p 45 with | true => (match Nat.blt p 43 with | true => (106, 7) | false => (match Nat.blt p 44 with | true => (3, 5) | false => (100, 5))) | false => (match Nat.blt p 47 with | true => (match Nat.blt p 46 with | true => (100, 5) | false => (100, 5)) | false => (match Nat.blt p 48 with | true => (100, 5) | false => (3, 5))))))) | false => (match Nat.blt p 74 with | true => (match Nat.blt p 61 with | true => (match Nat.blt p 55 with | true => (match Nat.blt p 52 with | true => (match Nat.blt p 50 with | true => (100, 6) | false => (match Nat.blt p 51 with | true => (100, 6) | false => (100, 6))) | false => (match Nat.blt p 53 with | true => (100, 6) | false => (match Nat.blt p 54 with | true => (3, 5) | false => (100, 8)))) | false => (match Nat.blt p 58 with | true => (match Nat.blt p 56 with | true => (100, 8) | false => (match Nat.blt p 57 with | true => (100, 8) | false => (100, 8))) | false => (match Nat.blt p 59 with | true => (0, 10) | false => (match Nat.blt p 60 with | true => (100, 4) | false => (0, 10))))) | false => (match Nat.blt p 67 with | true => (match Nat.blt p 64 with | true => (match Nat.blt p 62 with | true => (100, 4) | false => (match Nat.blt p 63 with | true => (0, 10) | false => (100, 4))) | false => (match Nat.blt p 65 with | true => (0, 10) | false => (match Nat.blt p 66 with | true => (100, 4) | false => (0, 10)))) | false => (match Nat.blt p 70 with | true => (match Nat.blt p 68 with | true => (100, 4) | false => (match Nat.blt p 69 with | true => (0, 10) | false => (100, 4))) | false => (match Nat.blt p 72 with | true => (match Nat.blt p 71 with | true => (0, 10) | false => (100, 4)) | false => (match Nat.blt p 73 with | true => (2, 3) | false => (102, 100)))))) | false => (match Nat.blt p 86 with | true => (match Nat.blt p 80 with | true => (match Nat.blt p 77 with | true => (match Nat.blt p 75 with | true => (104, 7) | false => (match Nat.blt p 76 with | true => (105, 6) | false => (100, 20))) | false => (match Nat.blt p 78 with | true => (4, 7) | false => (match Nat.blt p 79 with | true => (106, 7) | false => (3, 5)))) | false => (match Nat.blt p 83 with | true => (match Nat.blt p 81 with | true => (100, 5) | false => (match Nat.blt p 82 with | true => (100, 5) | false => (100, 5))) | false => (match Nat.blt p 84 with | true => (100, 5) | false => (match Nat.blt p 85 with | true => (3, 5) | false => (100, 6))))) | false => (match Nat.blt p 92 with | true => (match Nat.blt p 89 with | true => (match Nat.blt p 87 with | true => (100, 6) | false => (match Nat.blt p 88 with | true => (100, 6) | false => (100, 6))) | false => (match Nat.blt p 90 with | true => (3, 5) | false => (match Nat.blt p 91 with | true => (100, 8) | false => (100, 8)))) | false => (match Nat.blt p 95 with | true => (match Nat.blt p 93 with | true => (100, 8) | false => (match Nat.blt p 94 with | true => (100, 8) | false => (0, 10))) | false => (match Nat.blt p 97 with | true => (match Nat.blt p 96 with | true => (100, 4) | false => (0, 10)) | false => (match Nat.blt p 98 with | true => (100, 4) | false => (0, 10)))))))) | false => (match Nat.blt p 149 with | true => (match Nat.blt p 124 with | true => (match Nat.blt p 111 with | true => (match Nat.blt p 105 with | true => (match Nat.blt p 102 with | true => (match Nat.blt p 100 with | true => (100, 4) | false => (match Nat.blt p 101 with | true => (0, 10) | false => (100, 4))) | false => (match Nat.blt p 103 with | true => (0, 10) | false => (match Nat.blt p 104 with | true => (100, 4) | false => (0, 10)))) | false => (match Nat.blt p 108 with | true => (match Nat.blt p 106 with | true => (100, 4) | false => (match Nat.blt p 107 with | true => (0, 10) | false => (100, 4))) | false => (match Nat.blt p 109 with | true => (0, 10) | false => (match Nat.blt p 110 with | true => (100, 4) | false => (100, 24))))) | false => (match Nat.blt p 117 with | true => (match Nat.blt p 114 with | true => (match Nat.blt p 112 with | true => (100, 24) | false => (match Nat.blt p 113 with | true => (100, 7) | false => (100, 7))) | false => (match Nat.blt p 115 with | true => (101, 10) | false => (match Nat.blt p 116 with | true => (101, 10) | false => (1, 4)))) | false => (match Nat.blt p 120 with | true => (match Nat.blt p 118 with | true => (100, 100) | false => (match Nat.blt p 119 with | true => (1, 4) | false => (100, 100))) | false => (match Nat.blt p 122 with | true => (match Nat.blt p 121 with | true => (1, 4) | false => (100, 100)) | false => (match Nat.blt p 123 with | true => (1, 4) | false => (100, 100)))))) | false => (match Nat.blt p 136 with | true => (match Nat.blt p 130 with | true => (match Nat.blt p 127 with | true => (match Nat.blt p 125 with | true => (1, 4) | false => (match Nat.blt p 126 with | true => (100, 100) | false => (1, 4))) | false => (match Nat.blt p 128 with | true => (100, 100) | false => (match Nat.blt p 129 with | true => (1, 4) | false => (100, 100)))) | false => (match Nat.blt p 133 with | true => (match Nat.blt p 131 with | true => (5, 3) | false => (match Nat.blt p 132 with | true => (101, 60) | false => (5, 3))) | false => (match Nat.blt p 134 with | true => (101, 60) | false => (match Nat.blt p 135 with | true => (5, 3) | false => (101, 60))))) | false => (match Nat.blt p 142 with | true => (match Nat.blt p 139 with | true => (match Nat.blt p 137 with | true => (5, 3) | false => (match Nat.blt p 138 with | true => (101, 60) | false => (5, 3))) | false => (match Nat.blt p 140 with | true => (101, 60) | false => (match Nat.blt p 141 with | true => (5, 3) | false => (101, 60)))) | false => (match Nat.blt p 145 with | true => (match Nat.blt p 143 with | true => (7, 81) | false => (match Nat.blt p 144 with | true => (100, 7) | false => (100, 7))) | false => (match Nat.blt p 147 with | true => (match Nat.blt p 146 with | true => (100, 7) | false => (100, 7)) | false => (match Nat.blt p 148 with | true => (100, 7) | false => (100, 7))))))) | false => (match Nat.blt p 174 with | true => (match Nat.blt p 161 with | true => (match Nat.blt p 155 with | true => (match Nat.blt p 152 with | true => (match Nat.blt p 150 with | true => (100, 7) | false => (match Nat.blt p 151 with | true => (100, 28) | false => (100, 100))) | false => (match Nat.blt p 153 with | true => (100, 6) | false => (match Nat.blt p 154 with | true => (100, 60) | false => (100, 60)))) | false => (match Nat.blt p 158 with | true => (match Nat.blt p 156 with | true => (100, 60) | false => (match Nat.blt p 157 with | true => (100, 60) | false => (100, 600))) | false => (match Nat.blt p 159 with | true => (100, 101) | false => (match Nat.blt p 160 with | true => (100, 16) | false => (103, 100))))) | false => (match Nat.blt p 167 with | true => (match Nat.blt p 164 with | true => (match Nat.blt p 162 with | true => (100, 7) | false => (match Nat.blt p 163 with | true => (100, 7) | false => (100, 7))) | false => (match Nat.blt p 165 with | true => (101, 10) | false => (match Nat.blt p 166 with | true => (101, 10) | false => (100, 5)))) | false => (match Nat.blt p 170 with | true => (match Nat.blt p 168 with | true => (100, 5) | false => (match Nat.blt p 169 with | true => (100, 5) | false => (103, 5))) | false => (match Nat.blt p 172 with | true => (match Nat.blt p 171 with | true => (100, 6) | false => (100, 6)) | false => (match Nat.blt p 173 with | true => (100, 6) | false => (100, 8)))))) | false => (match Nat.blt p 186 with | true => (match Nat.blt p 180 with | true => (match Nat.blt p 177 with | true => (match Nat.blt p 175 with | true => (100, 8) | false => (match Nat.blt p 176 with | true => (100, 7) | false => (100, 7))) | false => (match Nat.blt p 178 with | true => (100, 7) | false => (match Nat.blt p 179 with | true => (100, 7) | false => (100, 7)))) | false => (match Nat.blt p 183 with | true => (match Nat.blt p 181 with | true => (100, 7) | false => (match Nat.blt p 182 with | true => (100, 7) | false => (100, 7))) | false => (match Nat.blt p 184 with | true => (100, 7) | false => (match Nat.blt p 185 with | true => (100, 28) | false => (100, 5))))) | false => (match Nat.blt p 192 with | true => (match Nat.blt p 189 with | true => (match Nat.blt p 187 with | true => (100, 5) | false => (match Nat.blt p 188 with | true => (100, 5) | false => (100, 6))) | false => (match Nat.blt p 190 with | true => (100, 6) | false => (match Nat.blt p 191 with | true => (100, 6) | false => (100, 8)))) | false => (match Nat.blt p 195 with | true => (match Nat.blt p 193 with | true => (100, 8) | false => (match Nat.blt p 194 with | true => (103, 5) | false => (100, 20))) | false => (match Nat.blt p 197 with | true => (match Nat.blt p 196 with | true => (100, 6) | false => (100, 6)) | false => (match Nat.blt p 198 with | true => (101, 360) | false => (101, 60)))))))))
  | false => (1000, 0)
def av_S0 (L : av_W) : av_S := (L.1.2, am_MS L, 199, 3977)
end
section
/-! the small machine once both objects stand: only numbers change; what a run comes to, and a tree of what it does -/
theorem am_run_fuel (P : Nat → Option am_I) : ∀ (n m d : Nat) (co : List am_A) (i : Nat) (ls st : List Value) (M : am_M) (r : Option Value × am_M), n ≤ m → am_run P n d co i ls st M = some r → am_run P m d co i ls st M = some r := by
  intro n
  induction n with
  | zero => intro m d co i ls st M r hm h; cases h
  | succ n ih =>
    intro m d co i ls st M r hm h
    obtain ⟨m, rfl⟩ : ∃ k, m = k + 1 := ⟨m - 1, by omega⟩
    have hm' : n ≤ m := by omega
    unfold am_run at h
    split at h
    · cases h
    next pc ins aux hi =>
      split at h
      next hr =>
        unfold am_run
        rw [hi]
        dsimp only
        rw [if_pos hr]
        exact h
      next hr =>
        split at h
        next hv =>
          split at h
          next mi as rest hc =>
            split at h
            next d' inf hP =>
              split at h
              next hl =>
                split at h
                next v M1 h1 =>
                  unfold am_run
                  rw [hi]
                  dsimp only
                  rw [if_neg hr, if_pos hv, hc]
                  dsimp only
                  rw [hP]
                  dsimp only
                  rw [if_pos hl, ih _ _ _ _ _ _ _ _ hm' h1]
                  exact ih _ _ _ _ _ _ _ _ hm' h
                next => cases h
              next => cases h
            next => cases h
          next hc =>
            split at h
            next d' i' ls' st' M' hp =>
              unfold am_run
              rw [hi]
              dsimp only
              rw [if_neg hr, if_pos hv, hc]
              dsimp only
              rw [hp]
              exact ih _ _ _ _ _ _ _ _ hm' h
            next => cases h
        next hv =>
          split at h
          next i' ls' st' M' hp =>
            unfold am_run
            rw [hi]
            dsimp only
            rw [if_neg hr, if_neg hv, hp]
            exact ih _ _ _ _ _ _ _ _ hm' h
          next => cases h
abbrev av_N : Type := (Nat → Nat → Int32) × (Nat → Nat → Int64)
abbrev av_Q : Type := Option Value × av_N
def av_R (S : av_S) (d : Nat) (co : List am_A) (i : Nat) (ls st : List Value) (N : av_N) (q : av_Q) : Prop := ∃ n, am_run am_P n d co i ls st (N.1, N.2, S) = some (q.1, q.2.1, q.2.2, S)
theorem av_R_one {S : av_S} {d : Nat} {co : List am_A} {i : Nat} {ls st : List Value} {N : av_N} {q q' : av_Q} (h : av_R S d co i ls st N q) (h' : av_R S d co i ls st N q') : q = q' := by
  obtain ⟨n, h⟩ := h
  obtain ⟨n', h'⟩ := h'
  have a := am_run_fuel am_P n (n + n') _ _ _ _ _ _ _ (by omega) h
  have b := am_run_fuel am_P n' (n + n') _ _ _ _ _ _ _ (by omega) h'
  rw [a] at b
  obtain ⟨q1, q2, q3⟩ := q
  obtain ⟨p1, p2, p3⟩ := q'
  cases b
  rfl
/-- what the run comes to, if it ends -/
noncomputable def av_V (S : av_S) (d : Nat) (co : List am_A) (i : Nat) (ls st : List Value) (N : av_N) : Option av_Q := @dite _ (∃ q, av_R S d co i ls st N q) (Classical.propDecidable _) (fun h => some (Classical.choose h)) (fun _ => none)
theorem av_V_of {S : av_S} {d : Nat} {co : List am_A} {i : Nat} {ls st : List Value} {N : av_N} {q : av_Q} (h : av_R S d co i ls st N q) : av_V S d co i ls st N = some q := by
  unfold av_V
  rw [dif_pos ⟨q, h⟩]
  exact congrArg some (av_R_one (Classical.choose_spec (⟨q, h⟩ : ∃ q, av_R S d co i ls st N q)) h)
theorem av_V_R {S : av_S} {d : Nat} {co : List am_A} {i : Nat} {ls st : List Value} {N : av_N} {q : av_Q} (h : av_V S d co i ls st N = some q) : av_R S d co i ls st N q := by
  unfold av_V at h
  split at h
  next h1 =>
    cases h
    exact Classical.choose_spec h1
  · cases h
/-- a call of a method by its number -/
noncomputable def av_C (S : av_S) (d mi : Nat) (as : List Value) (N : av_N) : Option av_Q := match am_P mi with
  | some inf => av_V S d inf.2.2.2.2.2 0 (am_entry as inf.2.2.1) [] N
  | none => none
def av_k (n : Int) : Int32 := Int32.ofInt n
def av_tt {α : Type} (b : Bool) (A : Option α) : Option α := match b with
  | true => A
  | false => none
def av_tg {α : Type} (s : Nat × Nat) (t : Nat) (A : Option α) : Option α := match Nat.beq s.1 t with
  | true => A
  | false => none
def av_gx {α : Type} (j : Int32) (n : Nat) (A : Option α) : Option α := if ¬ j < 0 ∧ j.toNatClampNeg < n then A else none
def av_ge {α : Type} (p : Nat) (A : Option α) : Option α := match Nat.ble 9 p with
  | true => A
  | false => none
def av_al {α : Type} (s : Nat × Nat) (A : Option α) : Option α := match Nat.ble 100 s.1 && Nat.ble s.1 106 with
  | true => A
  | false => none
def av_bt {α : Type} (x : Int32) (A : Option α) : Option α := if x = 0 ∨ x = 1 then A else none
def av_nz {α : Type} (y : Int32) (A : Option α) : Option α := if y = 0 then none else A
def av_if {α : Type} (c : Jvm.ClassFile.Cond) (x y : Int32) (A B : α) : α := match c with
  | .eq => if x = y then A else B
  | .ne => if x = y then B else A
  | .lt => if x < y then A else B
  | .ge => if x < y then B else A
  | .gt => if y < x then A else B
  | .le => if y < x then B else A
def av_sw {α : Type} : Int → List Nat → Int32 → Nat → (Nat → α) → α
  | _, [], _, t, f => f t
  | lo, a :: as, x, t, f => if x = av_k lo then f a else av_sw (lo + 1) as x t f
def av_lk {α : Type} : List (Int × Int) → List Nat → Int32 → Nat → (Nat → α) → α
  | (a, _) :: ps, t :: ts, x, d, f => if x = av_k a then f t else av_lk ps ts x d f
  | _, _, _, d, f => f d
def av_nf {α : Type} : List Value → (List Value → α) → α
  | [], f => f []
  | v :: vs, f => av_nf vs fun l => f (v :: l)
def av_w (N : av_N) (p k : Nat) (x : Int32) : av_N := (am_up N.1 p k x, N.2)
def av_wl (N : av_N) (p k : Nat) (x : Int64) : av_N := (N.1, am_up N.2 p k x)
def av_isSt : Instr → Bool
  | .istore_n _ | .istore _ | .lstore_n _ | .lstore _ | .astore_n _ | .astore _ | .iinc _ _ => true
  | _ => false
/-- what may go the plain way -/
def av_ok : Instr → Bool
  | .new _ | .newarray _ | .anewarray _ | .aastore | .putfield _ | .iastore | .lastore | .bastore => false
  | _ => true
def av_rng (n : Int) : Bool := Nat.ble n.toNat 2147483647 && Nat.ble (-n).toNat 2147483648
def av_F (S : av_S) (cont : Nat → List Value → List Value → av_N → Option av_Q) (ins : Instr) (aux : List Nat) (i : Nat) (ls st : List Value) (N : av_N) : Option av_Q :=
  match ins, aux, st with
  | .iconst n, _, st => cont (i + 1) ls (.int (av_k n) :: st) N
  | .bipush n, _, st => av_tt (Nat.ble n.toNat 127 && Nat.ble (-n).toNat 128) (cont (i + 1) ls (.int (av_k n) :: st) N)
  | .sipush n, _, st => av_tt (Nat.ble n.toNat 32767 && Nat.ble (-n).toNat 32768) (cont (i + 1) ls (.int (av_k n) :: st) N)
  | .iload_n k, _, st => match ls[k.val]? with
    | some (.int x) => cont (i + 1) ls (.int x :: st) N
    | _ => none
  | .iload k, _, st => match ls[k]? with
    | some (.int x) => cont (i + 1) ls (.int x :: st) N
    | _ => none
  | .aload_n k, _, st => match ls[k.val]? with
    | some (.ref x) => cont (i + 1) ls (.ref x :: st) N
    | some .null => cont (i + 1) ls (.null :: st) N
    | _ => none
  | .aload k, _, st => match ls[k]? with
    | some (.ref x) => cont (i + 1) ls (.ref x :: st) N
    | some .null => cont (i + 1) ls (.null :: st) N
    | _ => none
  | .iadd, _, .int y :: .int x :: st => cont (i + 1) ls (.int (x + y) :: st) N
  | .isub, _, .int y :: .int x :: st => cont (i + 1) ls (.int (x - y) :: st) N
  | .idiv, _, .int y :: .int x :: st => av_nz y (cont (i + 1) ls (.int (x / y) :: st) N)
  | .irem, _, .int y :: .int x :: st => av_nz y (cont (i + 1) ls (.int (x - x / y * y) :: st) N)
  | .ifCond c _, [t], .int x :: st => av_if c x (av_k 0) (cont t ls st N) (cont (i + 1) ls st N)
  | .if_icmp c _, [t], .int y :: .int x :: st => av_if c x y (cont t ls st N) (cont (i + 1) ls st N)
  | .tableswitch _ lo hi _, _ :: t :: ts, .int x :: st => av_tt (decide (hi - lo + 1 = (ts.length : Int)) && (av_rng lo && av_rng hi)) (av_sw lo ts x t fun t => cont t ls st N)
  | .lookupswitch _ ps, _ :: t :: ts, .int x :: st => av_tt (ps.toList.all fun q => av_rng q.1) (av_lk ps.toList ts x t fun t => cont t ls st N)
  | .getfield _, [ci, k, _], .ref p :: st => av_tg (S.2.1 p) ci (match am_fty ci k with
    | .long => cont (i + 1) ls (.long (N.2 p k) :: st) N
    | .object _ => (am_MR p k).bind fun q => cont (i + 1) ls (.ref q :: st) N
    | .array _ => (am_MR p k).bind fun q => cont (i + 1) ls (.ref q :: st) N
    | _ => cont (i + 1) ls (.int (N.1 p k) :: st) N)
  | .putfield _, [ci, k, _], v :: .ref p :: st => av_tg (S.2.1 p) ci (match am_fty ci k, v with
    | .int, .int x => cont (i + 1) ls st (av_w N p k x)
    | .long, .long x => cont (i + 1) ls st (av_wl N p k x)
    | .boolean, .int x => av_bt x (cont (i + 1) ls st (av_w N p k x))
    | _, _ => none)
  | .iaload, _, .int j :: .ref p :: st => av_tg (S.2.1 p) 100 (av_gx j (S.2.1 p).2 (cont (i + 1) ls (.int (N.1 p j.toNatClampNeg) :: st) N))
  | .laload, _, .int j :: .ref p :: st => av_tg (S.2.1 p) 101 (av_gx j (S.2.1 p).2 (cont (i + 1) ls (.long (N.2 p j.toNatClampNeg) :: st) N))
  | .baload, [t], .int j :: .ref p :: st => av_tg (S.2.1 p) t (av_gx j (S.2.1 p).2 (cont (i + 1) ls (.int (N.1 p j.toNatClampNeg) :: st) N))
  | .aaload, [t], .int j :: .ref p :: st => av_tg (S.2.1 p) t (av_gx j (S.2.1 p).2 ((am_MR p j.toNatClampNeg).bind fun q => cont (i + 1) ls (.ref q :: st) N))
  | .iastore, _, .int x :: .int j :: .ref p :: st => av_ge p (av_tg (S.2.1 p) 100 (av_gx j (S.2.1 p).2 (cont (i + 1) ls st (av_w N p j.toNatClampNeg x))))
  | .lastore, _, .long x :: .int j :: .ref p :: st => av_ge p (av_tg (S.2.1 p) 101 (av_gx j (S.2.1 p).2 (cont (i + 1) ls st (av_wl N p j.toNatClampNeg x))))
  | .bastore, [t], .int x :: .int j :: .ref p :: st => av_ge p (av_tg (S.2.1 p) t (av_gx j (S.2.1 p).2 (cont (i + 1) ls st (av_w N p j.toNatClampNeg (am_nar t x)))))
  | .arraylength, _, .ref p :: st => av_al (S.2.1 p) (cont (i + 1) ls (.int (Int32.ofNat (S.2.1 p).2) :: st) N)
  | ins, aux, st => match av_ok ins with
    | false => none
    | true => match am_step ins aux i ls st (N.1, N.2, S) with
      | some (i', ls', st', _) => (match av_isSt ins with
        | true => av_nf ls' fun l => cont i' l st' N
        | false => cont i' ls' st' N)
      | none => none
def av_bv (o : Option av_Q) (f : av_N → Option av_Q) : Option av_Q := match o with
  | some (none, N) => f N
  | _ => none
def av_bi (o : Option av_Q) (f : Int32 → av_N → Option av_Q) : Option av_Q := match o with
  | some (some (.int x), N) => f x N
  | _ => none
def av_bl (o : Option av_Q) (f : Int64 → av_N → Option av_Q) : Option av_Q := match o with
  | some (some (.long x), N) => f x N
  | _ => none
def av_br (o : Option av_Q) (f : Nat → av_N → Option av_Q) (g : av_N → Option av_Q) : Option av_Q := match o with
  | some (some (.ref p), N) => f p N
  | some (some .null, N) => g N
  | _ => none
def av_sm (st : List Value) : Bool := Nat.ble (st.map fun v => v.category).sum 8
def av_call (call : Nat → Nat → List Value → av_N → Option av_Q) (cont : List Value → av_N → Option av_Q) (d mi : Nat) (as rest : List Value) (N : av_N) : Option av_Q := match d, am_P mi with
  | d' + 1, some inf => match Nat.ble (am_lay as).length inf.2.2.1 && av_sm rest with
    | true => (match inf.2.2.2.1 with
      | none => av_bv (call d' mi as N) fun N => cont rest N
      | some .long => av_bl (call d' mi as N) fun x N => cont (.long x :: rest) N
      | some (.object _) => av_br (call d' mi as N) (fun p N => cont (.ref p :: rest) N) (fun N => cont (.null :: rest) N)
      | some _ => av_bi (call d' mi as N) fun x N => cont (.int x :: rest) N)
    | false => none
  | _, _ => none
def av_cpI (N : av_N) (p q : Nat) (sp dp n : Int32) : av_N := ((fun a j => if a = q then va_cpy (N.1 p) (N.1 q) sp.toNatClampNeg dp.toNatClampNeg n.toNatClampNeg j else N.1 a j), N.2)
def av_cpJ (N : av_N) (p q : Nat) (sp dp n : Int32) : av_N := (N.1, (fun a j => if a = q then va_cpy (N.2 p) (N.2 q) sp.toNatClampNeg dp.toNatClampNeg n.toNatClampNeg j else N.2 a j))
def av_gc {α : Type} (sp dp n : Int32) (lp lq : Nat) (A : Option α) : Option α := if ¬ sp < 0 ∧ ¬ dp < 0 ∧ ¬ n < 0 ∧ sp.toNatClampNeg + n.toNatClampNeg ≤ lp ∧ dp.toNatClampNeg + n.toNatClampNeg ≤ lq then A else none
def av_inv (S : av_S) (call : Nat → Nat → List Value → av_N → Option av_Q) (cont : List Value → av_N → Option av_Q) (d : Nat) (aux : List Nat) (st : List Value) (N : av_N) : Option av_Q :=
  match aux, st with
  | 1 :: mi :: n :: _, st => (match Nat.ble n st.length with
    | true => av_call call cont d mi (st.take n).reverse (st.drop n) N
    | false => none)
  | 5 :: t :: _, .int n :: .int dp :: .ref q :: .int sp :: .ref p :: st => (match d with
    | _ + 7 => av_tg (S.2.1 p) t (av_tg (S.2.1 q) t (av_ge p (av_ge q (av_gc sp dp n (S.2.1 p).2 (S.2.1 q).2 (av_tt (av_sm st) (match t with
      | 100 => cont st (av_cpI N p q sp dp n)
      | 101 => cont st (av_cpJ N p q sp dp n)
      | _ => none))))))
    | _ => none)
  | 6 :: _, .int k :: .ref p :: st => (match d with
    | _ + 7 => av_tg (S.2.1 p) 200 (av_gx k (S.2.1 p).2 (av_tt (av_sm st) (cont (.int (N.1 p k.toNatClampNeg) :: st) N)))
    | _ => none)
  | 7 :: _, .ref p :: st => (match d with
    | _ + 7 => av_tg (S.2.1 p) 200 (av_tt (av_sm st) (cont (.int (Int32.ofNat (S.2.1 p).2) :: st) N))
    | _ => none)
  | kd :: mi :: n :: ci :: _, st => (match Nat.ble kd 3 && Nat.ble n st.length with
    | true => (match st.drop n with
      | .ref p :: rest => av_tg (S.2.1 p) ci (av_call call cont d mi (.ref p :: (st.take n).reverse) rest N)
      | _ => none)
    | false => none)
  | _, _ => none
def av_ret (ins : Instr) (aux : List Nat) (st : List Value) (N : av_N) : Option av_Q := match ins, aux, st with
  | .return_, _, [] => some (none, N)
  | .ireturn, [0], [.int x] => some (some (.int x), N)
  | .ireturn, [1], [.int x] => av_bt x (some (some (.int x), N))
  | .lreturn, _, [.long x] => some (some (.long x), N)
  | .areturn, _, [.ref p] => some (some (.ref p), N)
  | .areturn, _, [.null] => some (some .null, N)
  | _, _, _ => none
/-- one instruction: returns, calls, all else -/
def av_G (S : av_S) (call : Nat → Nat → List Value → av_N → Option av_Q) (cont : Nat → List Value → List Value → av_N → Option av_Q) (d : Nat) (co : List am_A) (i : Nat) (ls st : List Value) (N : av_N) : Option av_Q := match co[i]? with
  | none => none
  | some (_, ins, aux) => match am_isRet ins with
    | true => av_ret ins aux st N
    | false => match am_isInv ins with
      | true => av_inv S call (fun st N => cont (i + 1) ls st N) d aux st N
      | false => av_F S cont ins aux i ls st N
noncomputable def av_T (S : av_S) (cut : List Nat) (d : Nat) (co : List am_A) : Nat → Nat → List Value → List Value → av_N → Option av_Q
  | 0, i, ls, st, N => av_V S d co i ls st N
  | n + 1, i, ls, st, N => av_G S (av_C S) (fun i ls st N => match cut.elem i with
    | true => av_V S d co i ls st N
    | false => av_T S cut d co n i ls st N) d co i ls st N
/-! the tree says no more than the run -/
theorem av_nfE {α : Type} : ∀ (l : List Value) (f : List Value → α), av_nf l f = f l
  | [], _ => rfl
  | v :: vs, f => av_nfE vs fun l => f (v :: l)
theorem av_ttE {α : Type} {b : Bool} {A : Option α} {q : α} (h : av_tt b A = some q) : b = true ∧ A = some q := by
  cases b
  · cases h
  · exact ⟨rfl, h⟩
theorem av_tgE {α : Type} {s : Nat × Nat} {t : Nat} {A : Option α} {q : α} (h : av_tg s t A = some q) : s.1 = t ∧ A = some q := by
  unfold av_tg at h
  split at h
  next hb => exact ⟨Nat.eq_of_beq_eq_true hb, h⟩
  · cases h
theorem av_gxE {α : Type} {j : Int32} {n : Nat} {A : Option α} {q : α} (h : av_gx j n A = some q) : (¬ j < 0 ∧ j.toNatClampNeg < n) ∧ A = some q := by
  unfold av_gx at h
  split at h
  next hb => exact ⟨hb, h⟩
  · cases h
theorem av_geE {α : Type} {p : Nat} {A : Option α} {q : α} (h : av_ge p A = some q) : 9 ≤ p ∧ A = some q := by
  unfold av_ge at h
  split at h
  next hb => exact ⟨Nat.le_of_ble_eq_true hb, h⟩
  · cases h
theorem av_alE {α : Type} {s : Nat × Nat} {A : Option α} {q : α} (h : av_al s A = some q) : (100 ≤ s.1 ∧ s.1 ≤ 106) ∧ A = some q := by
  unfold av_al at h
  split at h
  next hb =>
    rw [Bool.and_eq_true] at hb
    exact ⟨⟨Nat.le_of_ble_eq_true hb.1, Nat.le_of_ble_eq_true hb.2⟩, h⟩
  · cases h
theorem av_btE {α : Type} {x : Int32} {A : Option α} {q : α} (h : av_bt x A = some q) : (x = 0 ∨ x = 1) ∧ A = some q := by
  unfold av_bt at h
  split at h
  next hb => exact ⟨hb, h⟩
  · cases h
theorem av_nzE {α : Type} {y : Int32} {A : Option α} {q : α} (h : av_nz y A = some q) : y ≠ 0 ∧ A = some q := by
  unfold av_nz at h
  split at h
  · cases h
  next hb => exact ⟨hb, h⟩
theorem av_ifE {α : Type} {c : Jvm.ClassFile.Cond} {x y : Int32} {A B : α} : av_if c x y A B = if am_cond c x y = true then A else B := by
  have hle : x ≤ y ↔ ¬ y < x := by rw [Int32.le_iff_toInt_le, Int32.lt_iff_toInt_lt]; omega
  have hle' : y ≤ x ↔ ¬ x < y := by rw [Int32.le_iff_toInt_le, Int32.lt_iff_toInt_lt]; omega
  cases c <;> simp only [av_if, am_cond, decide_eq_true_eq, Bool.not_eq_true', decide_eq_false_iff_not]
  · by_cases h : x = y
    · rw [if_pos h, if_neg (fun z => z h)]
    · rw [if_neg h, if_pos h]
  · by_cases h : x < y
    · rw [if_pos h, if_neg (fun z => hle'.mp z h)]
    · rw [if_neg h, if_pos (hle'.mpr h)]
  · by_cases h : y < x
    · rw [if_pos h, if_neg (fun z => hle.mp z h)]
    · rw [if_neg h, if_pos (hle.mpr h)]
theorem av_rngE {n : Int} (h : av_rng n = true) : -2147483648 ≤ n ∧ n ≤ 2147483647 := by
  unfold av_rng at h
  rw [Bool.and_eq_true] at h
  have h1 := Nat.le_of_ble_eq_true h.1
  have h2 := Nat.le_of_ble_eq_true h.2
  omega
theorem av_kI {n : Int} (h1 : -2147483648 ≤ n) (h2 : n ≤ 2147483647) : (av_k n).toInt = n := by
  unfold av_k
  rw [Int32.toInt_ofInt]
  show n.bmod 4294967296 = n
  exact Int.bmod_eq_of_le (by omega) (by omega)
theorem av_kX {n : Int} {x : Int32} (h : av_rng n = true) : x = av_k n ↔ x.toInt = n := by
  obtain ⟨h1, h2⟩ := av_rngE h
  rw [← Int32.toInt_inj, av_kI h1 h2]
theorem av_swE {α : Type} : ∀ (ts : List Nat) (lo : Int) (x : Int32) (t : Nat) (f : Nat → α), -2147483648 ≤ lo → lo + (ts.length : Int) ≤ 2147483648 → av_sw lo ts x t f = f (if x.toInt < lo ∨ lo + (ts.length : Int) ≤ x.toInt then t else ts.getD (x.toInt - lo).toNat 0) := by
  intro ts
  induction ts with
  | nil =>
    intro lo x t f h1 h2
    rw [if_pos (by simp; omega)]
    rfl
  | cons a as ih =>
    intro lo x t f h1 h2
    rw [List.length_cons] at h2 ⊢
    have hk : x = av_k lo ↔ x.toInt = lo := by rw [← Int32.toInt_inj, av_kI h1 (by omega)]
    show (if x = av_k lo then f a else av_sw (lo + 1) as x t f) = _
    by_cases h : x = av_k lo
    · rw [if_pos h]
      have e := hk.mp h
      rw [if_neg (by omega), show (x.toInt - lo).toNat = 0 from by omega]
      rfl
    · rw [if_neg h, ih (lo + 1) x t f (by omega) (by omega)]
      have e : ¬ x.toInt = lo := fun z => h (hk.mpr z)
      by_cases h9 : x.toInt < lo ∨ lo + ((as.length + 1 : Nat) : Int) ≤ x.toInt
      · rw [if_pos h9, if_pos (by omega)]
      · rw [if_neg h9, if_neg (by omega), show (x.toInt - lo).toNat = (x.toInt - (lo + 1)).toNat + 1 from by omega]
        rfl
theorem av_swF {α : Type} {ts : List Nat} {lo hi : Int} {x : Int32} {t : Nat} {f : Nat → α} (h : hi - lo + 1 = (ts.length : Int)) (h1 : -2147483648 ≤ lo) (h2 : hi ≤ 2147483647) : av_sw lo ts x t f = f (if x.toInt < lo ∨ hi < x.toInt then t else ts.getD (x.toInt - lo).toNat 0) := by
  rw [av_swE ts lo x t f h1 (by omega)]
  have e : (lo + (ts.length : Int) ≤ x.toInt) = (hi < x.toInt) := propext ⟨fun w => by omega, fun w => by omega⟩
  simp only [e]
theorem av_lkE {α : Type} : ∀ (ps : List (Int × Int)) (ts : List Nat) (x : Int32) (d : Nat) (f : Nat → α), (ps.all fun q => av_rng q.1) = true → av_lk ps ts x d f = f (am_look ps ts d x.toInt) := by
  intro ps
  induction ps with
  | nil => intro ts x d f _; rfl
  | cons a as ih =>
    intro ts x d f h
    rw [List.all_cons, Bool.and_eq_true] at h
    cases ts with
    | nil => rfl
    | cons t ts =>
      show (if x = av_k a.1 then f t else av_lk as ts x d f) = f (if x.toInt = a.1 then t else am_look as ts d x.toInt)
      by_cases h9 : x = av_k a.1
      · rw [if_pos h9, if_pos ((av_kX h.1).mp h9)]
      · rw [if_neg h9, if_neg (fun z => h9 ((av_kX h.1).mpr z))]
        exact ih ts x d f h.2
theorem av_b8 {n : Int} (h : (Nat.ble n.toNat 127 && Nat.ble (-n).toNat 128) = true) : (Int8.ofInt n).toInt32 = av_k n := by
  rw [Bool.and_eq_true] at h
  have h1 := Nat.le_of_ble_eq_true h.1
  have h2 := Nat.le_of_ble_eq_true h.2
  apply Int32.toInt_inj.mp
  rw [av_kI (by omega) (by omega), Int8.toInt_toInt32, Int8.toInt_ofInt]
  show n.bmod 256 = n
  exact Int.bmod_eq_of_le (by omega) (by omega)
theorem av_b16 {n : Int} (h : (Nat.ble n.toNat 32767 && Nat.ble (-n).toNat 32768) = true) : (Int16.ofInt n).toInt32 = av_k n := by
  rw [Bool.and_eq_true] at h
  have h1 := Nat.le_of_ble_eq_true h.1
  have h2 := Nat.le_of_ble_eq_true h.2
  apply Int32.toInt_inj.mp
  rw [av_kI (by omega) (by omega), Int16.toInt_toInt32, Int16.toInt_ofInt]
  show n.bmod 65536 = n
  exact Int.bmod_eq_of_le (by omega) (by omega)
theorem av_badF {S : av_S} {N : av_N} {p : Nat} {j : Int32} (h : ¬ j < 0 ∧ j.toNatClampNeg < (S.2.1 p).2) : am_bad (N.1, N.2, S) p j = false := by
  unfold am_bad
  rw [Bool.or_eq_false_iff]
  exact ⟨decide_eq_false h.1, decide_eq_false (Nat.not_le.mpr h.2)⟩
set_option maxHeartbeats 4000000 in
theorem av_okE {ins : Instr} {aux : List Nat} {i : Nat} {ls st : List Value} {M : am_M} {i' : Nat} {ls' st' : List Value} {M' : am_M} (ok : av_ok ins = true) (h : am_step ins aux i ls st M = some (i', ls', st', M')) : M' = M := by
  unfold am_step at h
  split at h <;> first
    | (cases ok; done)
    | (cases h; done)
    | (cases h; rfl)
    | (obtain ⟨_, _, _, _, _, rfl⟩ := am_ld0 h; rfl)
    | (obtain ⟨_, _, _, _, _, rfl⟩ := am_ld1 h; rfl)
    | (rcases am_ld2 h with ⟨_, _, _, _, _, rfl⟩ | ⟨_, _, _, _, rfl⟩ <;> rfl)
    | (obtain ⟨_, _, _, _, _, _, rfl⟩ := am_st0 h; rfl)
    | (obtain ⟨_, _, _, _, _, _, rfl⟩ := am_st1 h; rfl)
    | (obtain ⟨_, _, _, _, _, _, _, rfl⟩ := am_st2 h; rfl)
    | (obtain ⟨_, _, _, _, _, rfl⟩ := am_ldE h; rfl)
    | (split at h <;> first | (cases h; rfl) | (obtain ⟨_, _, h2⟩ := Option.map_eq_some_iff.mp h; cases h2; rfl) | cases h)
set_option maxHeartbeats 4000000 in
theorem av_Fe {S : av_S} (H : ∀ p k q, am_MR p k = some q → S.1 p k = some q) {cont : Nat → List Value → List Value → av_N → Option av_Q} {ins : Instr} {aux : List Nat} {i : Nat} {ls st : List Value} {N : av_N} {q : av_Q} (h : av_F S cont ins aux i ls st N = some q) : ∃ (i' : Nat) (ls' st' : List Value) (N' : av_N), am_step ins aux i ls st (N.1, N.2, S) = some (i', ls', st', N'.1, N'.2, S) ∧ cont i' ls' st' N' = some q := by
  have k0 : av_k 0 = 0 := by decide
  unfold av_F at h
  split at h
  · exact ⟨_, _, _, _, rfl, h⟩
  · obtain ⟨hb, h⟩ := av_ttE h
    refine ⟨_, _, _, N, ?_, h⟩
    rw [← av_b8 hb]
    rfl
  · obtain ⟨hb, h⟩ := av_ttE h
    refine ⟨_, _, _, N, ?_, h⟩
    rw [← av_b16 hb]
    rfl
  · split at h
    next hk =>
      refine ⟨_, _, _, N, ?_, h⟩
      show am_ldL ls _ _ i _ 0 = _
      unfold am_ldL
      rw [hk]
      rfl
    · cases h
  · split at h
    next hk =>
      refine ⟨_, _, _, N, ?_, h⟩
      show am_ldL ls _ _ i _ 0 = _
      unfold am_ldL
      rw [hk]
      rfl
    · cases h
  · split at h
    next hk =>
      refine ⟨_, _, _, N, ?_, h⟩
      show am_ldL ls _ _ i _ 2 = _
      unfold am_ldL
      rw [hk]
      rfl
    next hk =>
      refine ⟨_, _, _, N, ?_, h⟩
      show am_ldL ls _ _ i _ 2 = _
      unfold am_ldL
      rw [hk]
      rfl
    · cases h
  · split at h
    next hk =>
      refine ⟨_, _, _, N, ?_, h⟩
      show am_ldL ls _ _ i _ 2 = _
      unfold am_ldL
      rw [hk]
      rfl
    next hk =>
      refine ⟨_, _, _, N, ?_, h⟩
      show am_ldL ls _ _ i _ 2 = _
      unfold am_ldL
      rw [hk]
      rfl
    · cases h
  · exact ⟨_, _, _, _, rfl, h⟩
  · exact ⟨_, _, _, _, rfl, h⟩
  · obtain ⟨hy, h⟩ := av_nzE h
    exact ⟨_, _, _, N, if_neg hy, h⟩
  · obtain ⟨hy, h⟩ := av_nzE h
    exact ⟨_, _, _, N, if_neg hy, h⟩
  · rw [av_ifE, k0] at h
    refine ⟨_, _, _, N, rfl, ?_⟩
    split at h
    next hc => rw [if_pos hc]; exact h
    next hc => rw [if_neg hc]; exact h
  · rw [av_ifE] at h
    refine ⟨_, _, _, N, rfl, ?_⟩
    split at h
    next hc => rw [if_pos hc]; exact h
    next hc => rw [if_neg hc]; exact h
  · obtain ⟨hb, h⟩ := av_ttE h
    rw [Bool.and_eq_true, Bool.and_eq_true, decide_eq_true_eq] at hb
    have r1 := av_rngE hb.2.1
    have r2 := av_rngE hb.2.2
    rw [av_swF hb.1 r1.1 r2.2] at h
    exact ⟨_, _, _, N, rfl, h⟩
  · obtain ⟨hb, h⟩ := av_ttE h
    rw [av_lkE _ _ _ _ _ hb] at h
    exact ⟨_, _, _, N, rfl, h⟩
  · obtain ⟨ht, h⟩ := av_tgE h
    split at h
    next hf =>
      refine ⟨_, _, _, N, ?_, h⟩
      show (if (S.2.1 _).1 = _ then _ else none) = _
      rw [if_pos ht, hf]
      rfl
    next hf =>
      obtain ⟨q', h1, h2⟩ := Option.bind_eq_some_iff.mp h
      refine ⟨_, _, _, N, ?_, h2⟩
      show (if (S.2.1 _).1 = _ then some (_, _, am_rd (fun q => q) (N.1, N.2, S) _ _ _ :: _, _) else none) = _
      rw [if_pos ht, hf]
      show some (_, _, va_rf ((S.1 _ _).map fun q => q) :: _, _) = _
      rw [H _ _ _ h1]
      rfl
    next hf =>
      obtain ⟨q', h1, h2⟩ := Option.bind_eq_some_iff.mp h
      refine ⟨_, _, _, N, ?_, h2⟩
      show (if (S.2.1 _).1 = _ then some (_, _, am_rd (fun q => q) (N.1, N.2, S) _ _ _ :: _, _) else none) = _
      rw [if_pos ht, hf]
      show some (_, _, va_rf ((S.1 _ _).map fun q => q) :: _, _) = _
      rw [H _ _ _ h1]
      rfl
    next n1 n2 n3 =>
      refine ⟨_, _, _, N, ?_, h⟩
      show (if (S.2.1 _).1 = _ then some (_, _, am_rd (fun q => q) (N.1, N.2, S) _ _ _ :: _, _) else none) = _
      rw [if_pos ht]
      generalize am_fty _ _ = ty at n1 n2 n3 ⊢
      cases ty <;> first | rfl | exact (n1 rfl).elim | exact (n2 _ rfl).elim | exact (n3 _ rfl).elim
  · obtain ⟨ht, h⟩ := av_tgE h
    split at h
    next hf _ =>
      refine ⟨_, _, _, _, ?_, h⟩
      show (if (S.2.1 _).1 = _ ∧ am_okv _ _ = true then _ else none) = _
      rw [if_pos ⟨ht, by rw [hf]; rfl⟩]
      rfl
    next hf _ =>
      refine ⟨_, _, _, _, ?_, h⟩
      show (if (S.2.1 _).1 = _ ∧ am_okv _ _ = true then _ else none) = _
      rw [if_pos ⟨ht, by rw [hf]; rfl⟩]
      rfl
    next hf _ =>
      obtain ⟨hx, h⟩ := av_btE h
      refine ⟨_, _, _, _, ?_, h⟩
      show (if (S.2.1 _).1 = _ ∧ am_okv _ _ = true then _ else none) = _
      rw [if_pos ⟨ht, by rw [hf]; rcases hx with rfl | rfl <;> rfl⟩]
      rfl
    · cases h
  · obtain ⟨ht, h⟩ := av_tgE h
    obtain ⟨hg, h⟩ := av_gxE h
    refine ⟨_, _, _, N, ?_, h⟩
    show am_ld _ _ _ _ _ _ _ _ = _
    unfold am_ld
    show (if (S.2.1 _).1 = _ then _ else _) = _
    rw [if_pos ht, av_badF hg]
    rfl
  · obtain ⟨ht, h⟩ := av_tgE h
    obtain ⟨hg, h⟩ := av_gxE h
    refine ⟨_, _, _, N, ?_, h⟩
    show am_ld _ _ _ _ _ _ _ _ = _
    unfold am_ld
    show (if (S.2.1 _).1 = _ then _ else _) = _
    rw [if_pos ht, av_badF hg]
    rfl
  · obtain ⟨ht, h⟩ := av_tgE h
    obtain ⟨hg, h⟩ := av_gxE h
    refine ⟨_, _, _, N, ?_, h⟩
    show am_ld _ _ _ _ _ _ _ _ = _
    unfold am_ld
    show (if (S.2.1 _).1 = _ then _ else _) = _
    rw [if_pos ht, av_badF hg]
    rfl
  · obtain ⟨ht, h⟩ := av_tgE h
    obtain ⟨hg, h⟩ := av_gxE h
    obtain ⟨q', h1, h2⟩ := Option.bind_eq_some_iff.mp h
    refine ⟨_, _, _, N, ?_, h2⟩
    show am_ld _ _ _ _ _ _ _ _ = _
    unfold am_ld
    show (if (S.2.1 _).1 = _ then _ else _) = _
    rw [if_pos ht, av_badF hg]
    show some (_, _, va_rf (S.1 _ _) :: _, _) = _
    rw [H _ _ _ h1]
    rfl
  · obtain ⟨hp, h⟩ := av_geE h
    obtain ⟨ht, h⟩ := av_tgE h
    obtain ⟨hg, h⟩ := av_gxE h
    refine ⟨_, _, _, _, ?_, h⟩
    show am_sv _ _ _ _ _ _ _ _ = _
    unfold am_sv
    rw [if_pos ⟨ht, hp⟩, av_badF hg]
    rfl
  · obtain ⟨hp, h⟩ := av_geE h
    obtain ⟨ht, h⟩ := av_tgE h
    obtain ⟨hg, h⟩ := av_gxE h
    refine ⟨_, _, _, _, ?_, h⟩
    show am_sv _ _ _ _ _ _ _ _ = _
    unfold am_sv
    rw [if_pos ⟨ht, hp⟩, av_badF hg]
    rfl
  · obtain ⟨hp, h⟩ := av_geE h
    obtain ⟨ht, h⟩ := av_tgE h
    obtain ⟨hg, h⟩ := av_gxE h
    refine ⟨_, _, _, _, ?_, h⟩
    show am_sv _ _ _ _ _ _ _ _ = _
    unfold am_sv
    rw [if_pos ⟨ht, hp⟩, av_badF hg]
    rfl
  · obtain ⟨ht, h⟩ := av_alE h
    exact ⟨_, _, _, N, if_pos ht, h⟩
  · split at h
    · cases h
    next hok =>
      split at h
      next hs =>
        have e := av_okE hok hs
        refine ⟨_, _, _, N, by rw [hs, e], ?_⟩
        split at h
        · rw [av_nfE] at h
          exact h
        · exact h
      · cases h
theorem av_callE {S : av_S} {cont : List Value → av_N → Option av_Q} {d mi : Nat} {as rest : List Value} {N : av_N} {q : av_Q} (h : av_call (av_C S) cont d mi as rest N = some q) :
    ∃ (d' : Nat) (inf : am_I) (v : Option Value) (N1 : av_N), d = d' + 1 ∧ am_P mi = some inf ∧ (am_lay as).length ≤ inf.2.2.1 ∧ (rest.map fun v => v.category).sum ≤ 8 ∧ av_C S d' mi as N = some (v, N1) ∧ cont (v.toList ++ rest) N1 = some q := by
  unfold av_call at h
  split at h
  next d' inf hP =>
    split at h
    next hb =>
      rw [Bool.and_eq_true] at hb
      have b1 := Nat.le_of_ble_eq_true hb.1
      have b2 := Nat.le_of_ble_eq_true hb.2
      split at h
      · unfold av_bv at h
        split at h
        next hc => exact ⟨d', inf, _, _, rfl, hP, b1, b2, hc, h⟩
        · cases h
      · unfold av_bl at h
        split at h
        next hc => exact ⟨d', inf, _, _, rfl, hP, b1, b2, hc, h⟩
        · cases h
      · unfold av_br at h
        split at h
        next hc => exact ⟨d', inf, _, _, rfl, hP, b1, b2, hc, h⟩
        next hc => exact ⟨d', inf, _, _, rfl, hP, b1, b2, hc, h⟩
        · cases h
      · unfold av_bi at h
        split at h
        next hc => exact ⟨d', inf, _, _, rfl, hP, b1, b2, hc, h⟩
        · cases h
    · cases h
  · cases h
theorem av_R_step {S : av_S} {d : Nat} {co : List am_A} {i : Nat} {ls st : List Value} {N : av_N} {q : av_Q} {pc : Nat} {ins : Instr} {aux : List Nat} (hi : co[i]? = some (pc, ins, aux)) (hr : am_isRet ins = false) (hv : am_isInv ins = false) {i' : Nat} {ls' st' : List Value} {N' : av_N} (hs : am_step ins aux i ls st (N.1, N.2, S) = some (i', ls', st', N'.1, N'.2, S)) (h : av_R S d co i' ls' st' N' q) : av_R S d co i ls st N q := by
  obtain ⟨n, h⟩ := h
  refine ⟨n + 1, ?_⟩
  unfold am_run
  rw [hi]
  dsimp only
  rw [if_neg (by rw [hr]; decide), if_neg (by rw [hv]; decide), hs]
  exact h
theorem av_R_call {S : av_S} {d' : Nat} {co : List am_A} {i : Nat} {ls st : List Value} {N : av_N} {q : av_Q} {pc : Nat} {ins : Instr} {aux : List Nat} (hi : co[i]? = some (pc, ins, aux)) (hr : am_isRet ins = false) (hv : am_isInv ins = true) {mi : Nat} {as rest : List Value} (hc : am_call aux st (N.1, N.2, S) = some (mi, as, rest)) {inf : am_I} (hP : am_P mi = some inf) (hl : (am_lay as).length ≤ inf.2.2.1) {v : Option Value} {N1 : av_N} (hC : av_C S d' mi as N = some (v, N1)) (h : av_R S (d' + 1) co (i + 1) ls (v.toList ++ rest) N1 q) : av_R S (d' + 1) co i ls st N q := by
  obtain ⟨n, h⟩ := h
  unfold av_C at hC
  rw [hP] at hC
  obtain ⟨n', h'⟩ := av_V_R hC
  refine ⟨n + n' + 1, ?_⟩
  unfold am_run
  rw [hi]
  dsimp only
  rw [if_neg (by rw [hr]; decide), if_pos hv, hc]
  dsimp only
  rw [hP]
  dsimp only
  rw [if_pos hl, am_run_fuel am_P n' (n + n') _ _ _ _ _ _ _ (by omega) h']
  exact am_run_fuel am_P n (n + n') _ _ _ _ _ _ _ (by omega) h
theorem av_R_prim {S : av_S} {d' : Nat} {co : List am_A} {i : Nat} {ls st : List Value} {N : av_N} {q : av_Q} {pc : Nat} {ins : Instr} {aux : List Nat} (hi : co[i]? = some (pc, ins, aux)) (hr : am_isRet ins = false) (hv : am_isInv ins = true) (hc : am_call aux st (N.1, N.2, S) = none) {i' : Nat} {ls' st' : List Value} {N' : av_N} (hp : am_prim aux i ls st (N.1, N.2, S) = some (i', ls', st', N'.1, N'.2, S)) (h : av_R S (d' + 7) co i' ls' st' N' q) : av_R S (d' + 7) co i ls st N q := by
  obtain ⟨n, h⟩ := h
  refine ⟨n + 1, ?_⟩
  unfold am_run
  rw [hi]
  dsimp only
  rw [if_neg (by rw [hr]; decide), if_pos hv, hc]
  dsimp only
  rw [hp]
  exact h
theorem av_cnone {kd : Nat} {tl : List Nat} {st : List Value} {M : am_M} (h : 4 ≤ kd) : am_call (kd :: tl) st M = none := by
  unfold am_call
  split
  next e => injection e with e1 e2; omega
  next e => injection e with e1 e2; rw [if_neg (by omega)]
  · rfl
theorem av_retE {ins : Instr} {aux : List Nat} {st : List Value} {N : av_N} {q : av_Q} (h : av_ret ins aux st N = some q) : am_ret ins aux st = some q.1 ∧ q.2 = N := by
  unfold av_ret at h
  split at h
  · cases h; exact ⟨rfl, rfl⟩
  · cases h; exact ⟨rfl, rfl⟩
  · obtain ⟨hx, h⟩ := av_btE h
    cases h
    exact ⟨if_pos hx, rfl⟩
  · cases h; exact ⟨rfl, rfl⟩
  · cases h; exact ⟨rfl, rfl⟩
  · cases h; exact ⟨rfl, rfl⟩
  · cases h
set_option maxHeartbeats 4000000 in
theorem av_GE {S : av_S} (H : ∀ p k q, am_MR p k = some q → S.1 p k = some q) {cont : Nat → List Value → List Value → av_N → Option av_Q} {d : Nat} {co : List am_A} {i : Nat} {ls st : List Value} {N : av_N} {q : av_Q} (h : av_G S (av_C S) cont d co i ls st N = some q) (hcont : ∀ i ls st N q, cont i ls st N = some q → av_V S d co i ls st N = some q) : av_V S d co i ls st N = some q := by
  apply av_V_of
  unfold av_G at h
  split at h
  · cases h
  next pc ins aux hi =>
    split at h
    next hr =>
      obtain ⟨e1, e2⟩ := av_retE h
      refine ⟨1, ?_⟩
      unfold am_run
      rw [hi]
      dsimp only
      rw [if_pos hr, e1, e2]
      rfl
    next hr =>
      split at h
      next hv =>
        unfold av_inv at h
        split at h
        · split at h
          next hb =>
            obtain ⟨d', inf, v, N1, rfl, hP, hl, hs, hC, h⟩ := av_callE h
            exact av_R_call hi hr hv (if_pos ⟨Nat.le_of_ble_eq_true hb, hs⟩) hP hl hC (av_V_R (hcont _ _ _ _ _ h))
          · cases h
        · split at h
          · obtain ⟨t1, h⟩ := av_tgE h
            obtain ⟨t2, h⟩ := av_tgE h
            obtain ⟨r1, h⟩ := av_geE h
            obtain ⟨r2, h⟩ := av_geE h
            unfold av_gc at h
            split at h
            next hg =>
              obtain ⟨hs, h⟩ := av_ttE h
              have hs := Nat.le_of_ble_eq_true hs
              split at h
              · refine av_R_prim hi hr hv (av_cnone (by decide)) ?_ (av_V_R (hcont _ _ _ _ _ h))
                exact if_pos ⟨t1, t2, r1, r2, hg.1, hg.2.1, hg.2.2.1, hg.2.2.2.1, hg.2.2.2.2, hs⟩
              · refine av_R_prim hi hr hv (av_cnone (by decide)) ?_ (av_V_R (hcont _ _ _ _ _ h))
                exact if_pos ⟨t1, t2, r1, r2, hg.1, hg.2.1, hg.2.2.1, hg.2.2.2.1, hg.2.2.2.2, hs⟩
              · cases h
            · cases h
          · cases h
        · split at h
          · obtain ⟨t1, h⟩ := av_tgE h
            obtain ⟨hg, h⟩ := av_gxE h
            obtain ⟨hs, h⟩ := av_ttE h
            have hs := Nat.le_of_ble_eq_true hs
            refine av_R_prim (N' := N) hi hr hv (av_cnone (by decide)) ?_ (av_V_R (hcont _ _ _ _ _ h))
            refine Eq.trans (if_pos (And.intro t1 hs)) ?_
            rw [av_badF hg]
            rfl
          · cases h
        · split at h
          · obtain ⟨t1, h⟩ := av_tgE h
            obtain ⟨hs, h⟩ := av_ttE h
            have hs := Nat.le_of_ble_eq_true hs
            refine av_R_prim (N' := N) hi hr hv (av_cnone (by decide)) ?_ (av_V_R (hcont _ _ _ _ _ h))
            exact if_pos ⟨t1, hs⟩
          · cases h
        · rename_i n1 n5 n6 n7
          split at h
          next hb =>
            rw [Bool.and_eq_true] at hb
            have b1 := Nat.le_of_ble_eq_true hb.1
            have b2 := Nat.le_of_ble_eq_true hb.2
            split at h
            next hdr =>
              obtain ⟨t1, h⟩ := av_tgE h
              obtain ⟨d', inf, v, N1, rfl, hP, hl, hs, hC, h⟩ := av_callE h
              refine av_R_call hi hr hv ?_ hP hl hC (av_V_R (hcont _ _ _ _ _ h))
              unfold am_call
              split
              next e => injection e with e1 e2; injection e2 with e2 e3; injection e3 with e3 e4; first | exact (n1 e1).elim | exact (n1 _ _ _ e).elim
              next e =>
                injection e with e1 e2
                injection e2 with e2 e3
                injection e3 with e3 e4
                injection e4 with e4 e5
                subst e1 e2 e3 e4
                rw [if_pos (by omega), hdr]
                exact if_pos ⟨b2, t1, hs⟩
              next e1 e2 => exact (e2 _ _ _ _ _ rfl).elim
            · cases h
          · cases h
        · cases h
      next hv =>
        obtain ⟨i', ls', st', N', hs, h⟩ := av_Fe H h
        exact av_R_step hi hr hv hs (av_V_R (hcont _ _ _ _ _ h))
theorem av_TE {S : av_S} (H : ∀ p k q, am_MR p k = some q → S.1 p k = some q) {cut : List Nat} {d : Nat} {co : List am_A} : ∀ (n i : Nat) (ls st : List Value) (N : av_N) (q : av_Q), av_T S cut d co n i ls st N = some q → av_V S d co i ls st N = some q := by
  intro n
  induction n with
  | zero => intro i ls st N q h; exact h
  | succ n ih =>
    intro i ls st N q h
    refine av_GE H (cont := fun i ls st N => match cut.elem i with
      | true => av_V S d co i ls st N
      | false => av_T S cut d co n i ls st N) h ?_
    intro i ls st N q h
    split at h
    · exact h
    · exact ih _ _ _ _ _ h
end
section
set_option maxRecDepth 100000 in
theorem eq_X6_within (L : av_W) (d : Nat) (x0 : Int32) (x1 : Int32) (x2 : Int32) (N : av_N) {q : av_Q} (h : (if x0 < x1 then (av_bt (av_k 0) (some (some (.int (av_k 0)), N))) else (if x2 < x0 then (av_bt (av_k 0) (some (some (.int (av_k 0)), N))) else (av_bt (av_k 1) (some (some (.int (av_k 1)), N))))) = some q) : av_C (av_S0 L) d 87 [.int x0, .int x1, .int x2] N = some q := av_TE L.2 (cut := []) 400 0 [.int x0, .int x1, .int x2] [] N q h
set_option maxRecDepth 100000 in
theorem eq_X0_bottom (L : av_W) (d : Nat) (p0 : Nat) (N : av_N) {q : av_Q} (h : (av_tg (am_MS L p0) 0 (if (N.1 p0 2) = (av_k 2) then (av_tg (am_MS L p0) 0 (some (some (.int ((N.1 p0 4) + (av_k 2))), N))) else (av_tg (am_MS L p0) 0 (if (N.1 p0 2) = (av_k 5) then (av_tg (am_MS L p0) 0 (some (some (.int ((N.1 p0 4) + (av_k 2))), N))) else (av_tg (am_MS L p0) 0 (some (some (.int (N.1 p0 4)), N))))))) = some q) : av_C (av_S0 L) d 4 [.ref p0] N = some q := av_TE L.2 (cut := []) 400 0 [.ref p0] [] N q h
set_option maxRecDepth 100000 in
theorem eq_X0_begins (L : av_W) (d : Nat) (p0 : Nat) (x1 : Int32) (N : av_N) {q : av_Q} (h : (av_tg (am_MS L p0) 0 (if (N.1 p0 2) = (av_k 3) then (av_bi (av_C (av_S0 L) d 218 [.int x1, .int (av_k 2)] N) fun z102 N101 => av_V (av_S0 L) (d + 1) ta_X0_begins 14 [.ref p0, .int x1, .int z102] [] N101) else (av_tg (am_MS L p0) 0 (if (N.1 p0 2) = (av_k 6) then (av_bi (av_C (av_S0 L) d 218 [.int x1, .int (av_k 2)] N) fun z104 N103 => av_V (av_S0 L) (d + 1) ta_X0_begins 14 [.ref p0, .int x1, .int z104] [] N103) else (av_V (av_S0 L) (d + 1) ta_X0_begins 14 [.ref p0, .int x1, .int (av_k 0)] [] N))))) = some q) : av_C (av_S0 L) (d + 1) 5 [.ref p0, .int x1] N = some q := av_TE L.2 (cut := [14]) 400 0 [.ref p0, .int x1, am_junk] [] N q h
set_option maxRecDepth 100000 in
theorem eq_X0_begins_14 (L : av_W) (d : Nat) (p0 : Nat) (x1 : Int32) (x2 : Int32) (N : av_N) {q : av_Q} (h : (av_tg (am_MS L p0) 0 (if (N.1 p0 2) = (av_k 6) then (av_tg (am_MS L p0) 0 ((am_MR p0 0).bind fun r107 => av_bi (av_C (av_S0 L) d 218 [.int x1, .int (av_k 4)] N) fun z109 N108 => av_tg (am_MS L r107) 100 (av_gx z109 (am_MS L r107).2 (av_tg (am_MS L p0) 0 (if (N108.1 p0 2) = (av_k 5) then (av_bi (av_C (av_S0 L) d 218 [.int x1, .int (av_k 3)] N108) fun z113 N112 => av_tg (am_MS L p0) 0 (av_bi (av_C (av_S0 L) d 218 [.int ((N112.1 p0 6) + z113), .int (av_k 24)] N112) fun z115 N114 => some (some (.int z115), N114))) else (av_tg (am_MS L p0) 0 (av_bi (av_C (av_S0 L) d 218 [.int ((N108.1 p0 6) + (x2 + (N108.1 r107 z109.toNatClampNeg))), .int (av_k 24)] N108) fun z111 N110 => some (some (.int z111), N110)))))))) else (av_tg (am_MS L p0) 0 (if (N.1 p0 2) = (av_k 5) then (av_bi (av_C (av_S0 L) d 218 [.int x1, .int (av_k 3)] N) fun z104 N103 => av_tg (am_MS L p0) 0 (av_bi (av_C (av_S0 L) d 218 [.int ((N103.1 p0 6) + z104), .int (av_k 24)] N103) fun z106 N105 => some (some (.int z106), N105))) else (av_tg (am_MS L p0) 0 (av_bi (av_C (av_S0 L) d 218 [.int ((N.1 p0 6) + x2), .int (av_k 24)] N) fun z102 N101 => some (some (.int z102), N101))))))) = some q) : av_V (av_S0 L) (d + 1) ta_X0_begins 14 [.ref p0, .int x1, .int x2] [] N = some q := av_TE L.2 (cut := [14]) 400 14 [.ref p0, .int x1, .int x2] [] N q h
set_option maxRecDepth 100000 in
theorem eq_X6_bird (L : av_W) (d : Nat) (x1 : Int32) (x2 : Int32) (x3 : Int32) (x4 : Int32) (x5 : Int32) (x6 : Int32) (N : av_N) {q : av_Q} (h : (av_bi (av_C (av_S0 L) d 87 [.int x1, .int (av_k 0), .int (av_k 6)] N) fun z102 N101 => if z102 = (av_k 0) then (some (some (.int (av_k (-1))), N101)) else (av_bi (av_C (av_S0 L) d 87 [.int x2, .int (av_k 0), .int (av_k 9)] N101) fun z104 N103 => if z104 = (av_k 0) then (av_V (av_S0 L) (d + 1) ta_X6_bird 34 [.ref 9, .int x1, .int x2, .int x3, .int x4, .int x5, .int x6, am_junk, am_junk] [] N103) else (av_bi (av_C (av_S0 L) d 87 [.int x3, .int (av_k 0), .int (av_k 9)] N103) fun z106 N105 => if z106 = (av_k 0) then (av_V (av_S0 L) (d + 1) ta_X6_bird 34 [.ref 9, .int x1, .int x2, .int x3, .int x4, .int x5, .int x6, am_junk, am_junk] [] N105) else (av_bi (av_C (av_S0 L) d 87 [.int x4, .int (av_k 1), .int (av_k 10)] N105) fun z108 N107 => if z108 = (av_k 0) then (av_V (av_S0 L) (d + 1) ta_X6_bird 34 [.ref 9, .int x1, .int x2, .int x3, .int x4, .int x5, .int x6, am_junk, am_junk] [] N107) else (av_bi (av_C (av_S0 L) d 87 [.int x5, .int (av_k 0), .int (av_k 23)] N107) fun z110 N109 => if z110 = (av_k 0) then (av_V (av_S0 L) (d + 1) ta_X6_bird 34 [.ref 9, .int x1, .int x2, .int x3, .int x4, .int x5, .int x6, am_junk, am_junk] [] N109) else (av_bi (av_C (av_S0 L) d 87 [.int x6, .int (av_k 1), .int (av_k 24)] N109) fun z112 N111 => if z112 = (av_k 0) then (av_V (av_S0 L) (d + 1) ta_X6_bird 34 [.ref 9, .int x1, .int x2, .int x3, .int x4, .int x5, .int x6, am_junk, am_junk] [] N111) else (if (av_k 1) = (av_k 0) then (some (some (.int (av_k (-2))), N111)) else (if (N111.1 10 1) < (av_k 7) then (av_gx (N111.1 10 1) 7 ((am_MR 11 (N111.1 10 1).toNatClampNeg).bind fun r113 => av_tg (am_MS L r113) 0 (av_bv (av_C (av_S0 L) d 1 [.ref r113, .int (N111.1 10 1), .int x1, .int x2] N111) fun N114 => av_tg (am_MS L r113) 0 (av_tg (am_MS L r113) 0 (av_tg (am_MS L r113) 0 (av_tg (am_MS L r113) 0 (av_tg (am_MS L r113) 0 (some (some (.int ((av_w (av_w (av_w (av_w (av_w N114 r113 4 x3) r113 5 x4) r113 6 x5) r113 7 x6) 10 1 (((av_w (av_w (av_w (av_w N114 r113 4 x3) r113 5 x4) r113 6 x5) r113 7 x6).1 10 1) + (av_k 1))).1 r113 1)), (av_w (av_w (av_w (av_w (av_w N114 r113 4 x3) r113 5 x4) r113 6 x5) r113 7 x6) 10 1 (((av_w (av_w (av_w (av_w N114 r113 4 x3) r113 5 x4) r113 6 x5) r113 7 x6).1 10 1) + (av_k 1)))))))))))) else (some (some (.int (av_k (-4))), N111)))))))))) = some q) : av_C (av_S0 L) (d + 1) 47 [.ref 9, .int x1, .int x2, .int x3, .int x4, .int x5, .int x6] N = some q := av_TE L.2 (cut := [34]) 400 0 [.ref 9, .int x1, .int x2, .int x3, .int x4, .int x5, .int x6, am_junk, am_junk] [] N q h
set_option maxRecDepth 100000 in
theorem eq_X6_bird_34 (L : av_W) (d : Nat) (x1 : Int32) (x2 : Int32) (x3 : Int32) (x4 : Int32) (x5 : Int32) (x6 : Int32) (N : av_N) {q : av_Q} (h : (if (av_k 0) = (av_k 0) then (some (some (.int (av_k (-2))), N)) else (if (N.1 10 1) < (av_k 7) then (av_gx (N.1 10 1) 7 ((am_MR 11 (N.1 10 1).toNatClampNeg).bind fun r101 => av_tg (am_MS L r101) 0 (av_bv (av_C (av_S0 L) d 1 [.ref r101, .int (N.1 10 1), .int x1, .int x2] N) fun N102 => av_tg (am_MS L r101) 0 (av_tg (am_MS L r101) 0 (av_tg (am_MS L r101) 0 (av_tg (am_MS L r101) 0 (av_tg (am_MS L r101) 0 (some (some (.int ((av_w (av_w (av_w (av_w (av_w N102 r101 4 x3) r101 5 x4) r101 6 x5) r101 7 x6) 10 1 (((av_w (av_w (av_w (av_w N102 r101 4 x3) r101 5 x4) r101 6 x5) r101 7 x6).1 10 1) + (av_k 1))).1 r101 1)), (av_w (av_w (av_w (av_w (av_w N102 r101 4 x3) r101 5 x4) r101 6 x5) r101 7 x6) 10 1 (((av_w (av_w (av_w (av_w N102 r101 4 x3) r101 5 x4) r101 6 x5) r101 7 x6).1 10 1) + (av_k 1)))))))))))) else (some (some (.int (av_k (-4))), N)))) = some q) : av_V (av_S0 L) (d + 1) ta_X6_bird 34 [.ref 9, .int x1, .int x2, .int x3, .int x4, .int x5, .int x6, am_junk, am_junk] [] N = some q := av_TE L.2 (cut := [34]) 400 34 [.ref 9, .int x1, .int x2, .int x3, .int x4, .int x5, .int x6, am_junk, am_junk] [] N q h
set_option maxRecDepth 100000 in
theorem eq_X7_heights (L : av_W) (d : Nat) (x1 : Int32) (N : av_N) {q : av_Q} (h : (av_gx x1 7 (if (N.1 143 x1.toNatClampNeg) = (av_k 4) then (av_bi (av_C (av_S0 L) d 145 [.ref 142] N) fun z102 N101 => av_bi (av_C (av_S0 L) d 149 [.ref 142, .int x1] N101) fun z104 N103 => if z102 < z104 then (some (some (.int (av_k 0)), N103)) else (av_bi (av_C (av_S0 L) d 149 [.ref 142, .int x1] N103) fun z106 N105 => some (some (.int (z102 - z106)), N105))) else (av_bi (av_C (av_S0 L) d 149 [.ref 142, .int x1] N) fun z108 N107 => av_gx x1 7 (av_bi (av_C (av_S0 L) d 145 [.ref 142] N107) fun z110 N109 => if z110 < (z108 + (N107.1 146 x1.toNatClampNeg)) then (av_bi (av_C (av_S0 L) d 145 [.ref 142] N109) fun z118 N117 => av_bi (av_C (av_S0 L) d 149 [.ref 142, .int x1] N117) fun z120 N119 => if z118 < z120 then (some (some (.int (av_k 0)), N119)) else (av_bi (av_C (av_S0 L) d 149 [.ref 142, .int x1] N119) fun z122 N121 => some (some (.int (z118 - z122)), N121))) else (av_bi (av_C (av_S0 L) d 149 [.ref 142, .int x1] N109) fun z112 N111 => av_gx x1 7 (av_bi (av_C (av_S0 L) d 149 [.ref 142, .int x1] N111) fun z114 N113 => if (z112 + (N111.1 146 x1.toNatClampNeg)) < z114 then (some (some (.int (av_k 0)), N113)) else (av_bi (av_C (av_S0 L) d 149 [.ref 142, .int x1] N113) fun z116 N115 => some (some (.int ((z112 + (N111.1 146 x1.toNatClampNeg)) - z116)), N115)))))))) = some q) : av_C (av_S0 L) (d + 1) 151 [.ref 142, .int x1] N = some q := av_TE L.2 (cut := []) 400 0 [.ref 142, .int x1, am_junk] [] N q h
set_option maxRecDepth 100000 in
theorem eq_X6_layBird (L : av_W) (d : Nat) (x1 : Int32) (x2 : Int32) (N : av_N) {q : av_Q} (h : (av_V (av_S0 L) d ta_X6_layBird 2 [.ref 9, .int x1, .int x2, .int (av_k 0)] [] N) = some q) : av_C (av_S0 L) d 90 [.ref 9, .int x1, .int x2] N = some q := av_TE L.2 (cut := [2]) 400 0 [.ref 9, .int x1, .int x2, am_junk] [] N q h
set_option maxRecDepth 100000 in
theorem eq_X6_layBird_2 (L : av_W) (d : Nat) (x1 : Int32) (x2 : Int32) (x3 : Int32) (N : av_N) {q : av_Q} (h : (if x3 < (av_k 24) then (if ((x2 >>> (x3 &&& 31)) &&& (av_k 1)) = (av_k 0) then (av_V (av_S0 L) d ta_X6_layBird 2 [.ref 9, .int x1, .int x2, .int (x3 + av_k 1)] [] N) else (av_gx x3 24 (av_gx x3 24 (av_gx x3 24 (av_gx x3 24 (av_gx x3 24 (av_V (av_S0 L) d ta_X6_layBird 2 [.ref 9, .int x1, .int x2, .int (x3 + av_k 1)] [] (av_w (av_w N 111 x3.toNatClampNeg ((N.1 111 x3.toNatClampNeg) ||| ((N.1 110 x3.toNatClampNeg) &&& x1))) 110 x3.toNatClampNeg (((av_w N 111 x3.toNatClampNeg ((N.1 111 x3.toNatClampNeg) ||| ((N.1 110 x3.toNatClampNeg) &&& x1))).1 110 x3.toNatClampNeg) ||| x1))))))))) else (some (none, N))) = some q) : av_V (av_S0 L) d ta_X6_layBird 2 [.ref 9, .int x1, .int x2, .int x3] [] N = some q := av_TE L.2 (cut := [2]) 400 2 [.ref 9, .int x1, .int x2, .int x3] [] N q h
set_option maxRecDepth 100000 in
theorem eq_X7_takesE (L : av_W) (d : Nat) (x1 : Int32) (N : av_N) {q : av_Q} (h : (av_gx x1 60 (av_V (av_S0 L) (d + 1) ta_X7_takesE 14 [.ref 142, .int x1, .int (av_k 1), am_junk] [] (av_w (av_w (av_w N 142 25 (av_k 0)) 142 26 (av_k 0)) 155 x1.toNatClampNeg ((av_w (av_w N 142 25 (av_k 0)) 142 26 (av_k 0)).1 142 24)))) = some q) : av_C (av_S0 L) (d + 1) 137 [.ref 142, .int x1] N = some q := av_TE L.2 (cut := [14]) 400 0 [.ref 142, .int x1, am_junk, am_junk] [] N q h
set_option maxRecDepth 100000 in
theorem eq_X7_takesE_14_a (L : av_W) (d : Nat) (x1 : Int32) (x2 : Int32) (N : av_N) {q : av_Q} (h : (av_bi (av_C (av_S0 L) d 127 [.ref 142] N) fun z102 N101 => if x2 = (av_k 0) then (if z102 = (av_k 38) then (av_bv (av_C (av_S0 L) d 134 [.ref 142, .int z102] N101) fun N103 => av_gx (N103.1 142 25) 101 (av_V (av_S0 L) (d + 1) ta_X7_takesE 14 [.ref 142, .int x1, .int (av_k 1), .int z102] [] (av_w (av_w (av_w N103 158 (N103.1 142 25).toNatClampNeg z102) 142 25 (((av_w N103 158 (N103.1 142 25).toNatClampNeg z102).1 142 25) + (av_k 1))) 142 14 (((av_w (av_w N103 158 (N103.1 142 25).toNatClampNeg z102) 142 25 (((av_w N103 158 (N103.1 142 25).toNatClampNeg z102).1 142 25) + (av_k 1))).1 142 14) + (av_k 1))))) else (if z102 = (av_k 124) then (av_bv (av_C (av_S0 L) d 134 [.ref 142, .int z102] N101) fun N106 => av_gx (N106.1 142 25) 101 (av_V (av_S0 L) (d + 1) ta_X7_takesE 14 [.ref 142, .int x1, .int (av_k 1), .int z102] [] (av_w (av_w (av_w N106 158 (N106.1 142 25).toNatClampNeg z102) 142 25 (((av_w N106 158 (N106.1 142 25).toNatClampNeg z102).1 142 25) + (av_k 1))) 142 14 (((av_w (av_w N106 158 (N106.1 142 25).toNatClampNeg z102) 142 25 (((av_w N106 158 (N106.1 142 25).toNatClampNeg z102).1 142 25) + (av_k 1))).1 142 14) + (av_k 1))))) else (av_bv (av_C (av_S0 L) d 134 [.ref 142, .int (av_k 124)] N101) fun N104 => av_gx x1 60 (if ((av_w N104 156 x1.toNatClampNeg (N104.1 142 24)).1 142 25) = (av_k 0) then (av_bt (av_k 1) (some (some (.int (av_k 1)), (av_w N104 156 x1.toNatClampNeg (N104.1 142 24))))) else (if z102 = (av_k 41) then (av_bv (av_C (av_S0 L) d 133 [.ref 142] (av_w (av_w (av_w (av_w N104 156 x1.toNatClampNeg (N104.1 142 24)) 142 25 (((av_w N104 156 x1.toNatClampNeg (N104.1 142 24)).1 142 25) - (av_k 1))) 142 26 (((av_w (av_w N104 156 x1.toNatClampNeg (N104.1 142 24)) 142 25 (((av_w N104 156 x1.toNatClampNeg (N104.1 142 24)).1 142 25) - (av_k 1))).1 142 26) - (av_k 1))) 142 14 (((av_w (av_w (av_w N104 156 x1.toNatClampNeg (N104.1 142 24)) 142 25 (((av_w N104 156 x1.toNatClampNeg (N104.1 142 24)).1 142 25) - (av_k 1))) 142 26 (((av_w (av_w N104 156 x1.toNatClampNeg (N104.1 142 24)) 142 25 (((av_w N104 156 x1.toNatClampNeg (N104.1 142 24)).1 142 25) - (av_k 1))).1 142 26) - (av_k 1))).1 142 14) + (av_k 1)))) fun N105 => av_V (av_S0 L) (d + 1) ta_X7_takesE 14 [.ref 142, .int x1, .int x2, .int z102] [] N105) else (av_bt (av_k 0) (some (some (.int (av_k 0)), (av_w N104 156 x1.toNatClampNeg (N104.1 142 24)))))))))) else (if z102 = (av_k 33) then (if (N101.1 142 26) = (av_k 4) then (av_bt (av_k 0) (some (some (.int (av_k 0)), N101))) else (av_gx ((av_w N101 142 26 ((N101.1 142 26) + (av_k 1))).1 142 25) 101 (av_V (av_S0 L) (d + 1) ta_X7_takesE 14 [.ref 142, .int x1, .int x2, .int z102] [] (av_w (av_w (av_w (av_w N101 142 26 ((N101.1 142 26) + (av_k 1))) 158 ((av_w N101 142 26 ((N101.1 142 26) + (av_k 1))).1 142 25).toNatClampNeg z102) 142 25 (((av_w (av_w N101 142 26 ((N101.1 142 26) + (av_k 1))) 158 ((av_w N101 142 26 ((N101.1 142 26) + (av_k 1))).1 142 25).toNatClampNeg z102).1 142 25) + (av_k 1))) 142 14 (((av_w (av_w (av_w N101 142 26 ((N101.1 142 26) + (av_k 1))) 158 ((av_w N101 142 26 ((N101.1 142 26) + (av_k 1))).1 142 25).toNatClampNeg z102) 142 25 (((av_w (av_w N101 142 26 ((N101.1 142 26) + (av_k 1))) 158 ((av_w N101 142 26 ((N101.1 142 26) + (av_k 1))).1 142 25).toNatClampNeg z102).1 142 25) + (av_k 1))).1 142 14) + (av_k 1)))))) else (if z102 = (av_k 40) then (if (N101.1 142 26) = (av_k 4) then (av_bt (av_k 0) (some (some (.int (av_k 0)), N101))) else (av_gx ((av_w N101 142 26 ((N101.1 142 26) + (av_k 1))).1 142 25) 101 (av_V (av_S0 L) (d + 1) ta_X7_takesE 14 [.ref 142, .int x1, .int x2, .int z102] [] (av_w (av_w (av_w (av_w N101 142 26 ((N101.1 142 26) + (av_k 1))) 158 ((av_w N101 142 26 ((N101.1 142 26) + (av_k 1))).1 142 25).toNatClampNeg z102) 142 25 (((av_w (av_w N101 142 26 ((N101.1 142 26) + (av_k 1))) 158 ((av_w N101 142 26 ((N101.1 142 26) + (av_k 1))).1 142 25).toNatClampNeg z102).1 142 25) + (av_k 1))) 142 14 (((av_w (av_w (av_w N101 142 26 ((N101.1 142 26) + (av_k 1))) 158 ((av_w N101 142 26 ((N101.1 142 26) + (av_k 1))).1 142 25).toNatClampNeg z102) 142 25 (((av_w (av_w N101 142 26 ((N101.1 142 26) + (av_k 1))) 158 ((av_w N101 142 26 ((N101.1 142 26) + (av_k 1))).1 142 25).toNatClampNeg z102).1 142 25) + (av_k 1))).1 142 14) + (av_k 1)))))) else (av_bi (av_C (av_S0 L) d 136 [.ref 142] N101) fun z108 N107 => if z108 = (av_k 0) then (av_bt (av_k 0) (some (some (.int (av_k 0)), N107))) else (av_V (av_S0 L) (d + 1) ta_X7_takesE 14 [.ref 142, .int x1, .int (av_k 0), .int z102] [] N107))))) = some q) : av_V (av_S0 L) (d + 1) ta_X7_takesE 14 [.ref 142, .int x1, .int x2, am_junk] [] N = some q := av_TE L.2 (cut := [14]) 400 14 [.ref 142, .int x1, .int x2, am_junk] [] N q h
set_option maxRecDepth 100000 in
theorem eq_X7_takesE_14_b (L : av_W) (d : Nat) (x1 : Int32) (x2 : Int32) (x3 : Int32) (N : av_N) {q : av_Q} (h : (av_bi (av_C (av_S0 L) d 127 [.ref 142] N) fun z102 N101 => if x2 = (av_k 0) then (if z102 = (av_k 38) then (av_bv (av_C (av_S0 L) d 134 [.ref 142, .int z102] N101) fun N103 => av_gx (N103.1 142 25) 101 (av_V (av_S0 L) (d + 1) ta_X7_takesE 14 [.ref 142, .int x1, .int (av_k 1), .int z102] [] (av_w (av_w (av_w N103 158 (N103.1 142 25).toNatClampNeg z102) 142 25 (((av_w N103 158 (N103.1 142 25).toNatClampNeg z102).1 142 25) + (av_k 1))) 142 14 (((av_w (av_w N103 158 (N103.1 142 25).toNatClampNeg z102) 142 25 (((av_w N103 158 (N103.1 142 25).toNatClampNeg z102).1 142 25) + (av_k 1))).1 142 14) + (av_k 1))))) else (if z102 = (av_k 124) then (av_bv (av_C (av_S0 L) d 134 [.ref 142, .int z102] N101) fun N106 => av_gx (N106.1 142 25) 101 (av_V (av_S0 L) (d + 1) ta_X7_takesE 14 [.ref 142, .int x1, .int (av_k 1), .int z102] [] (av_w (av_w (av_w N106 158 (N106.1 142 25).toNatClampNeg z102) 142 25 (((av_w N106 158 (N106.1 142 25).toNatClampNeg z102).1 142 25) + (av_k 1))) 142 14 (((av_w (av_w N106 158 (N106.1 142 25).toNatClampNeg z102) 142 25 (((av_w N106 158 (N106.1 142 25).toNatClampNeg z102).1 142 25) + (av_k 1))).1 142 14) + (av_k 1))))) else (av_bv (av_C (av_S0 L) d 134 [.ref 142, .int (av_k 124)] N101) fun N104 => av_gx x1 60 (if ((av_w N104 156 x1.toNatClampNeg (N104.1 142 24)).1 142 25) = (av_k 0) then (av_bt (av_k 1) (some (some (.int (av_k 1)), (av_w N104 156 x1.toNatClampNeg (N104.1 142 24))))) else (if z102 = (av_k 41) then (av_bv (av_C (av_S0 L) d 133 [.ref 142] (av_w (av_w (av_w (av_w N104 156 x1.toNatClampNeg (N104.1 142 24)) 142 25 (((av_w N104 156 x1.toNatClampNeg (N104.1 142 24)).1 142 25) - (av_k 1))) 142 26 (((av_w (av_w N104 156 x1.toNatClampNeg (N104.1 142 24)) 142 25 (((av_w N104 156 x1.toNatClampNeg (N104.1 142 24)).1 142 25) - (av_k 1))).1 142 26) - (av_k 1))) 142 14 (((av_w (av_w (av_w N104 156 x1.toNatClampNeg (N104.1 142 24)) 142 25 (((av_w N104 156 x1.toNatClampNeg (N104.1 142 24)).1 142 25) - (av_k 1))) 142 26 (((av_w (av_w N104 156 x1.toNatClampNeg (N104.1 142 24)) 142 25 (((av_w N104 156 x1.toNatClampNeg (N104.1 142 24)).1 142 25) - (av_k 1))).1 142 26) - (av_k 1))).1 142 14) + (av_k 1)))) fun N105 => av_V (av_S0 L) (d + 1) ta_X7_takesE 14 [.ref 142, .int x1, .int x2, .int z102] [] N105) else (av_bt (av_k 0) (some (some (.int (av_k 0)), (av_w N104 156 x1.toNatClampNeg (N104.1 142 24)))))))))) else (if z102 = (av_k 33) then (if (N101.1 142 26) = (av_k 4) then (av_bt (av_k 0) (some (some (.int (av_k 0)), N101))) else (av_gx ((av_w N101 142 26 ((N101.1 142 26) + (av_k 1))).1 142 25) 101 (av_V (av_S0 L) (d + 1) ta_X7_takesE 14 [.ref 142, .int x1, .int x2, .int z102] [] (av_w (av_w (av_w (av_w N101 142 26 ((N101.1 142 26) + (av_k 1))) 158 ((av_w N101 142 26 ((N101.1 142 26) + (av_k 1))).1 142 25).toNatClampNeg z102) 142 25 (((av_w (av_w N101 142 26 ((N101.1 142 26) + (av_k 1))) 158 ((av_w N101 142 26 ((N101.1 142 26) + (av_k 1))).1 142 25).toNatClampNeg z102).1 142 25) + (av_k 1))) 142 14 (((av_w (av_w (av_w N101 142 26 ((N101.1 142 26) + (av_k 1))) 158 ((av_w N101 142 26 ((N101.1 142 26) + (av_k 1))).1 142 25).toNatClampNeg z102) 142 25 (((av_w (av_w N101 142 26 ((N101.1 142 26) + (av_k 1))) 158 ((av_w N101 142 26 ((N101.1 142 26) + (av_k 1))).1 142 25).toNatClampNeg z102).1 142 25) + (av_k 1))).1 142 14) + (av_k 1)))))) else (if z102 = (av_k 40) then (if (N101.1 142 26) = (av_k 4) then (av_bt (av_k 0) (some (some (.int (av_k 0)), N101))) else (av_gx ((av_w N101 142 26 ((N101.1 142 26) + (av_k 1))).1 142 25) 101 (av_V (av_S0 L) (d + 1) ta_X7_takesE 14 [.ref 142, .int x1, .int x2, .int z102] [] (av_w (av_w (av_w (av_w N101 142 26 ((N101.1 142 26) + (av_k 1))) 158 ((av_w N101 142 26 ((N101.1 142 26) + (av_k 1))).1 142 25).toNatClampNeg z102) 142 25 (((av_w (av_w N101 142 26 ((N101.1 142 26) + (av_k 1))) 158 ((av_w N101 142 26 ((N101.1 142 26) + (av_k 1))).1 142 25).toNatClampNeg z102).1 142 25) + (av_k 1))) 142 14 (((av_w (av_w (av_w N101 142 26 ((N101.1 142 26) + (av_k 1))) 158 ((av_w N101 142 26 ((N101.1 142 26) + (av_k 1))).1 142 25).toNatClampNeg z102) 142 25 (((av_w (av_w N101 142 26 ((N101.1 142 26) + (av_k 1))) 158 ((av_w N101 142 26 ((N101.1 142 26) + (av_k 1))).1 142 25).toNatClampNeg z102).1 142 25) + (av_k 1))).1 142 14) + (av_k 1)))))) else (av_bi (av_C (av_S0 L) d 136 [.ref 142] N101) fun z108 N107 => if z108 = (av_k 0) then (av_bt (av_k 0) (some (some (.int (av_k 0)), N107))) else (av_V (av_S0 L) (d + 1) ta_X7_takesE 14 [.ref 142, .int x1, .int (av_k 0), .int z102] [] N107))))) = some q) : av_V (av_S0 L) (d + 1) ta_X7_takesE 14 [.ref 142, .int x1, .int x2, .int x3] [] N = some q := av_TE L.2 (cut := [14]) 400 14 [.ref 142, .int x1, .int x2, .int x3] [] N q h
end
