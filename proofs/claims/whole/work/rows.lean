section
/-- a private method of a class that the tables say can be made, by its rows of tables_1 -/
def lw_okq (q : MethodName × Nat) : Prop := (q.1.cls ≠ "java/lang/invoke/MethodHandle" ∧ q.1.cls ≠ "java/lang/invoke/VarHandle") ∧ Cond.instantiable q.1.cls q.2 ∈ tables_1 ∧ Cond.privateMethod q.1 ∈ tables_1 ∧ Cond.instanceMethod q.1 ∈ tables_1
theorem lw_p0 : lw_okq (⟨"AirByYard", "estuaryNow", "()LAirByYard$Estuary;"⟩, 17) := ⟨⟨by decide +kernel, by decide +kernel⟩, List.mem_of_getElem? (i := 17) (by decide +kernel), List.mem_of_getElem? (i := 280) (by decide +kernel), List.mem_of_getElem? (i := 281) (by decide +kernel)⟩
theorem lw_p1 : lw_okq (⟨"AirByYard$Reader", "clause", "(LAirByYard$Estuary;)Z"⟩, 3) := ⟨⟨by decide +kernel, by decide +kernel⟩, List.mem_of_getElem? (i := 142) (by decide +kernel), List.mem_of_getElem? (i := 370) (by decide +kernel), List.mem_of_getElem? (i := 371) (by decide +kernel)⟩
theorem lw_p2 : lw_okq (⟨"AirByYard$Reader", "next", "()I"⟩, 3) := ⟨⟨by decide +kernel, by decide +kernel⟩, List.mem_of_getElem? (i := 142) (by decide +kernel), List.mem_of_getElem? (i := 374) (by decide +kernel), List.mem_of_getElem? (i := 375) (by decide +kernel)⟩
theorem lw_p3 : lw_okq (⟨"AirByYard$Reader", "skipWord", "(Ljava/lang/String;)Z"⟩, 3) := ⟨⟨by decide +kernel, by decide +kernel⟩, List.mem_of_getElem? (i := 142) (by decide +kernel), List.mem_of_getElem? (i := 379) (by decide +kernel), List.mem_of_getElem? (i := 380) (by decide +kernel)⟩
theorem lw_p4 : lw_okq (⟨"AirByYard$Reader", "skip", "(C)Z"⟩, 3) := ⟨⟨by decide +kernel, by decide +kernel⟩, List.mem_of_getElem? (i := 142) (by decide +kernel), List.mem_of_getElem? (i := 431) (by decide +kernel), List.mem_of_getElem? (i := 432) (by decide +kernel)⟩
theorem lw_p5 : lw_okq (⟨"AirByYard$Reader", "change", "(LAirByYard$Estuary;I)Z"⟩, 3) := ⟨⟨by decide +kernel, by decide +kernel⟩, List.mem_of_getElem? (i := 142) (by decide +kernel), List.mem_of_getElem? (i := 435) (by decide +kernel), List.mem_of_getElem? (i := 436) (by decide +kernel)⟩
theorem lw_p6 : lw_okq (⟨"AirByYard$Reader", "number", "()I"⟩, 3) := ⟨⟨by decide +kernel, by decide +kernel⟩, List.mem_of_getElem? (i := 142) (by decide +kernel), List.mem_of_getElem? (i := 439) (by decide +kernel), List.mem_of_getElem? (i := 440) (by decide +kernel)⟩
theorem lw_p7 : lw_okq (⟨"AirByYard$Reader", "either", "(LAirByYard$Estuary;I)Z"⟩, 3) := ⟨⟨by decide +kernel, by decide +kernel⟩, List.mem_of_getElem? (i := 142) (by decide +kernel), List.mem_of_getElem? (i := 444) (by decide +kernel), List.mem_of_getElem? (i := 445) (by decide +kernel)⟩
theorem lw_p8 : lw_okq (⟨"AirByYard$Reader", "factor", "(LAirByYard$Estuary;I)Z"⟩, 3) := ⟨⟨by decide +kernel, by decide +kernel⟩, List.mem_of_getElem? (i := 142) (by decide +kernel), List.mem_of_getElem? (i := 448) (by decide +kernel), List.mem_of_getElem? (i := 449) (by decide +kernel)⟩
theorem lw_p9 : lw_okq (⟨"AirByYard$Reader", "test", "(LAirByYard$Estuary;)Z"⟩, 3) := ⟨⟨by decide +kernel, by decide +kernel⟩, List.mem_of_getElem? (i := 142) (by decide +kernel), List.mem_of_getElem? (i := 452) (by decide +kernel), List.mem_of_getElem? (i := 453) (by decide +kernel)⟩
theorem lw_p10 : lw_okq (⟨"AirByYard$Reader", "gain", "(LAirByYard$Estuary;)Z"⟩, 3) := ⟨⟨by decide +kernel, by decide +kernel⟩, List.mem_of_getElem? (i := 142) (by decide +kernel), List.mem_of_getElem? (i := 468) (by decide +kernel), List.mem_of_getElem? (i := 469) (by decide +kernel)⟩
theorem lw_p11 : lw_okq (⟨"AirByYard$Reader", "top", "(LAirByYard$Estuary;)Z"⟩, 3) := ⟨⟨by decide +kernel, by decide +kernel⟩, List.mem_of_getElem? (i := 142) (by decide +kernel), List.mem_of_getElem? (i := 473) (by decide +kernel), List.mem_of_getElem? (i := 474) (by decide +kernel)⟩
theorem lw_p12 : lw_okq (⟨"AirByYard", "freeStrips", "(I)I"⟩, 17) := ⟨⟨by decide +kernel, by decide +kernel⟩, List.mem_of_getElem? (i := 17) (by decide +kernel), List.mem_of_getElem? (i := 488) (by decide +kernel), List.mem_of_getElem? (i := 489) (by decide +kernel)⟩
theorem lw_p13 : lw_okq (⟨"AirByYard", "layAir", "(LAirByYard$Scene;II)V"⟩, 17) := ⟨⟨by decide +kernel, by decide +kernel⟩, List.mem_of_getElem? (i := 17) (by decide +kernel), List.mem_of_getElem? (i := 492) (by decide +kernel), List.mem_of_getElem? (i := 493) (by decide +kernel)⟩
theorem lw_p14 : lw_okq (⟨"AirByYard", "layBird", "(II)V"⟩, 17) := ⟨⟨by decide +kernel, by decide +kernel⟩, List.mem_of_getElem? (i := 17) (by decide +kernel), List.mem_of_getElem? (i := 503) (by decide +kernel), List.mem_of_getElem? (i := 504) (by decide +kernel)⟩
theorem lw_p15 : lw_okq (⟨"AirByYard", "freeAt", "(II)I"⟩, 17) := ⟨⟨by decide +kernel, by decide +kernel⟩, List.mem_of_getElem? (i := 17) (by decide +kernel), List.mem_of_getElem? (i := 507) (by decide +kernel), List.mem_of_getElem? (i := 508) (by decide +kernel)⟩
def lw_privs_1 : List (MethodName × Nat) := [(⟨"AirByYard", "estuaryNow", "()LAirByYard$Estuary;"⟩, 17), (⟨"AirByYard$Reader", "clause", "(LAirByYard$Estuary;)Z"⟩, 3), (⟨"AirByYard$Reader", "next", "()I"⟩, 3), (⟨"AirByYard$Reader", "skipWord", "(Ljava/lang/String;)Z"⟩, 3), (⟨"AirByYard$Reader", "skip", "(C)Z"⟩, 3), (⟨"AirByYard$Reader", "change", "(LAirByYard$Estuary;I)Z"⟩, 3), (⟨"AirByYard$Reader", "number", "()I"⟩, 3), (⟨"AirByYard$Reader", "either", "(LAirByYard$Estuary;I)Z"⟩, 3), (⟨"AirByYard$Reader", "factor", "(LAirByYard$Estuary;I)Z"⟩, 3), (⟨"AirByYard$Reader", "test", "(LAirByYard$Estuary;)Z"⟩, 3), (⟨"AirByYard$Reader", "gain", "(LAirByYard$Estuary;)Z"⟩, 3), (⟨"AirByYard$Reader", "top", "(LAirByYard$Estuary;)Z"⟩, 3), (⟨"AirByYard", "freeStrips", "(I)I"⟩, 17), (⟨"AirByYard", "layAir", "(LAirByYard$Scene;II)V"⟩, 17), (⟨"AirByYard", "layBird", "(II)V"⟩, 17), (⟨"AirByYard", "freeAt", "(II)I"⟩, 17)]
theorem lw_r1 : ∀ q ∈ lw_privs_1, lw_okq q := List.forall_mem_cons.mpr ⟨lw_p0, List.forall_mem_cons.mpr ⟨lw_p1, List.forall_mem_cons.mpr ⟨lw_p2, List.forall_mem_cons.mpr ⟨lw_p3, List.forall_mem_cons.mpr ⟨lw_p4, List.forall_mem_cons.mpr ⟨lw_p5, List.forall_mem_cons.mpr ⟨lw_p6, List.forall_mem_cons.mpr ⟨lw_p7, List.forall_mem_cons.mpr ⟨lw_p8, List.forall_mem_cons.mpr ⟨lw_p9, List.forall_mem_cons.mpr ⟨lw_p10, List.forall_mem_cons.mpr ⟨lw_p11, List.forall_mem_cons.mpr ⟨lw_p12, List.forall_mem_cons.mpr ⟨lw_p13, List.forall_mem_cons.mpr ⟨lw_p14, List.forall_mem_cons.mpr ⟨lw_p15, fun _ h => absurd h List.not_mem_nil⟩⟩⟩⟩⟩⟩⟩⟩⟩⟩⟩⟩⟩⟩⟩⟩
theorem lw_p16 : lw_okq (⟨"AirByYard", "crowded", "(LAirByYard$Scene;)I"⟩, 17) := ⟨⟨by decide +kernel, by decide +kernel⟩, List.mem_of_getElem? (i := 17) (by decide +kernel), List.mem_of_getElem? (i := 512) (by decide +kernel), List.mem_of_getElem? (i := 513) (by decide +kernel)⟩
theorem lw_p17 : lw_okq (⟨"AirByYard", "rentOfAll", "(LAirByYard$Scene;)I"⟩, 17) := ⟨⟨by decide +kernel, by decide +kernel⟩, List.mem_of_getElem? (i := 17) (by decide +kernel), List.mem_of_getElem? (i := 516) (by decide +kernel), List.mem_of_getElem? (i := 517) (by decide +kernel)⟩
theorem lw_p18 : lw_okq (⟨"AirByYard", "clashOf", "(LAirByYard$Bird;LAirByYard$Bird;)I"⟩, 17) := ⟨⟨by decide +kernel, by decide +kernel⟩, List.mem_of_getElem? (i := 17) (by decide +kernel), List.mem_of_getElem? (i := 537) (by decide +kernel), List.mem_of_getElem? (i := 538) (by decide +kernel)⟩
theorem lw_p19 : lw_okq (⟨"AirByYard", "sharedStrips", "(LAirByYard$Bird;I)I"⟩, 17) := ⟨⟨by decide +kernel, by decide +kernel⟩, List.mem_of_getElem? (i := 17) (by decide +kernel), List.mem_of_getElem? (i := 580) (by decide +kernel), List.mem_of_getElem? (i := 581) (by decide +kernel)⟩
theorem lw_p20 : lw_okq (⟨"AirByYard", "findFoes", "()V"⟩, 17) := ⟨⟨by decide +kernel, by decide +kernel⟩, List.mem_of_getElem? (i := 17) (by decide +kernel), List.mem_of_getElem? (i := 592) (by decide +kernel), List.mem_of_getElem? (i := 593) (by decide +kernel)⟩
theorem lw_p21 : lw_okq (⟨"AirByYard", "findRents", "()V"⟩, 17) := ⟨⟨by decide +kernel, by decide +kernel⟩, List.mem_of_getElem? (i := 17) (by decide +kernel), List.mem_of_getElem? (i := 596) (by decide +kernel), List.mem_of_getElem? (i := 597) (by decide +kernel)⟩
theorem lw_p22 : lw_okq (⟨"AirByYard", "isPeaceful", "(I)Z"⟩, 17) := ⟨⟨by decide +kernel, by decide +kernel⟩, List.mem_of_getElem? (i := 17) (by decide +kernel), List.mem_of_getElem? (i := 600) (by decide +kernel), List.mem_of_getElem? (i := 601) (by decide +kernel)⟩
theorem lw_p23 : lw_okq (⟨"AirByYard", "rentOfSet", "(I)I"⟩, 17) := ⟨⟨by decide +kernel, by decide +kernel⟩, List.mem_of_getElem? (i := 17) (by decide +kernel), List.mem_of_getElem? (i := 604) (by decide +kernel), List.mem_of_getElem? (i := 605) (by decide +kernel)⟩
theorem lw_p24 : lw_okq (⟨"AirByYard", "isFree", "(III)Z"⟩, 17) := ⟨⟨by decide +kernel, by decide +kernel⟩, List.mem_of_getElem? (i := 17) (by decide +kernel), List.mem_of_getElem? (i := 617) (by decide +kernel), List.mem_of_getElem? (i := 618) (by decide +kernel)⟩
theorem lw_p25 : lw_okq (⟨"AirByYard", "goAnHour", "(II)V"⟩, 17) := ⟨⟨by decide +kernel, by decide +kernel⟩, List.mem_of_getElem? (i := 17) (by decide +kernel), List.mem_of_getElem? (i := 621) (by decide +kernel), List.mem_of_getElem? (i := 622) (by decide +kernel)⟩
theorem lw_p26 : lw_okq (⟨"AirByYard", "seenHeldBy", "(LAirByYard$Bird;ILAirByYard$Estuary;)I"⟩, 17) := ⟨⟨by decide +kernel, by decide +kernel⟩, List.mem_of_getElem? (i := 17) (by decide +kernel), List.mem_of_getElem? (i := 642) (by decide +kernel), List.mem_of_getElem? (i := 643) (by decide +kernel)⟩
theorem lw_p27 : lw_okq (⟨"AirByYard", "lastSeenDays", "()I"⟩, 17) := ⟨⟨by decide +kernel, by decide +kernel⟩, List.mem_of_getElem? (i := 17) (by decide +kernel), List.mem_of_getElem? (i := 646) (by decide +kernel), List.mem_of_getElem? (i := 647) (by decide +kernel)⟩
theorem lw_p28 : lw_okq (⟨"AirByYard", "seenAsTold", "()I"⟩, 17) := ⟨⟨by decide +kernel, by decide +kernel⟩, List.mem_of_getElem? (i := 17) (by decide +kernel), List.mem_of_getElem? (i := 651) (by decide +kernel), List.mem_of_getElem? (i := 652) (by decide +kernel)⟩
theorem lw_p29 : lw_okq (⟨"AirByYard", "run", "(LAirByYard$Bird;IIII)I"⟩, 17) := ⟨⟨by decide +kernel, by decide +kernel⟩, List.mem_of_getElem? (i := 17) (by decide +kernel), List.mem_of_getElem? (i := 708) (by decide +kernel), List.mem_of_getElem? (i := 709) (by decide +kernel)⟩
theorem lw_p30 : lw_okq (⟨"AirByYard", "note", "(I)V"⟩, 17) := ⟨⟨by decide +kernel, by decide +kernel⟩, List.mem_of_getElem? (i := 17) (by decide +kernel), List.mem_of_getElem? (i := 714) (by decide +kernel), List.mem_of_getElem? (i := 715) (by decide +kernel)⟩
theorem lw_p31 : lw_okq (⟨"AirByYardModel", "in", "(III)Z"⟩, 81) := ⟨⟨by decide +kernel, by decide +kernel⟩, List.mem_of_getElem? (i := 768) (by decide +kernel), List.mem_of_getElem? (i := 1023) (by decide +kernel), List.mem_of_getElem? (i := 1024) (by decide +kernel)⟩
def lw_privs_2 : List (MethodName × Nat) := [(⟨"AirByYard", "crowded", "(LAirByYard$Scene;)I"⟩, 17), (⟨"AirByYard", "rentOfAll", "(LAirByYard$Scene;)I"⟩, 17), (⟨"AirByYard", "clashOf", "(LAirByYard$Bird;LAirByYard$Bird;)I"⟩, 17), (⟨"AirByYard", "sharedStrips", "(LAirByYard$Bird;I)I"⟩, 17), (⟨"AirByYard", "findFoes", "()V"⟩, 17), (⟨"AirByYard", "findRents", "()V"⟩, 17), (⟨"AirByYard", "isPeaceful", "(I)Z"⟩, 17), (⟨"AirByYard", "rentOfSet", "(I)I"⟩, 17), (⟨"AirByYard", "isFree", "(III)Z"⟩, 17), (⟨"AirByYard", "goAnHour", "(II)V"⟩, 17), (⟨"AirByYard", "seenHeldBy", "(LAirByYard$Bird;ILAirByYard$Estuary;)I"⟩, 17), (⟨"AirByYard", "lastSeenDays", "()I"⟩, 17), (⟨"AirByYard", "seenAsTold", "()I"⟩, 17), (⟨"AirByYard", "run", "(LAirByYard$Bird;IIII)I"⟩, 17), (⟨"AirByYard", "note", "(I)V"⟩, 17), (⟨"AirByYardModel", "in", "(III)Z"⟩, 81)]
theorem lw_r2 : ∀ q ∈ lw_privs_2, lw_okq q := List.forall_mem_cons.mpr ⟨lw_p16, List.forall_mem_cons.mpr ⟨lw_p17, List.forall_mem_cons.mpr ⟨lw_p18, List.forall_mem_cons.mpr ⟨lw_p19, List.forall_mem_cons.mpr ⟨lw_p20, List.forall_mem_cons.mpr ⟨lw_p21, List.forall_mem_cons.mpr ⟨lw_p22, List.forall_mem_cons.mpr ⟨lw_p23, List.forall_mem_cons.mpr ⟨lw_p24, List.forall_mem_cons.mpr ⟨lw_p25, List.forall_mem_cons.mpr ⟨lw_p26, List.forall_mem_cons.mpr ⟨lw_p27, List.forall_mem_cons.mpr ⟨lw_p28, List.forall_mem_cons.mpr ⟨lw_p29, List.forall_mem_cons.mpr ⟨lw_p30, List.forall_mem_cons.mpr ⟨lw_p31, fun _ h => absurd h List.not_mem_nil⟩⟩⟩⟩⟩⟩⟩⟩⟩⟩⟩⟩⟩⟩⟩⟩
theorem lw_p32 : lw_okq (⟨"AirByYardModel", "isLow", "(I)Z"⟩, 81) := ⟨⟨by decide +kernel, by decide +kernel⟩, List.mem_of_getElem? (i := 768) (by decide +kernel), List.mem_of_getElem? (i := 1027) (by decide +kernel), List.mem_of_getElem? (i := 1028) (by decide +kernel)⟩
theorem lw_p33 : lw_okq (⟨"AirByYardModel", "isHour", "(I)Z"⟩, 81) := ⟨⟨by decide +kernel, by decide +kernel⟩, List.mem_of_getElem? (i := 768) (by decide +kernel), List.mem_of_getElem? (i := 1031) (by decide +kernel), List.mem_of_getElem? (i := 1032) (by decide +kernel)⟩
theorem lw_p34 : lw_okq (⟨"AirByYardModel", "isBird", "(I)Z"⟩, 81) := ⟨⟨by decide +kernel, by decide +kernel⟩, List.mem_of_getElem? (i := 768) (by decide +kernel), List.mem_of_getElem? (i := 1039) (by decide +kernel), List.mem_of_getElem? (i := 1040) (by decide +kernel)⟩
theorem lw_p35 : lw_okq (⟨"AirByYardModel", "isGood", "(II)Z"⟩, 81) := ⟨⟨by decide +kernel, by decide +kernel⟩, List.mem_of_getElem? (i := 768) (by decide +kernel), List.mem_of_getElem? (i := 1043) (by decide +kernel), List.mem_of_getElem? (i := 1044) (by decide +kernel)⟩
theorem lw_p36 : lw_okq (⟨"AirByYardModel", "isPurse", "(I)Z"⟩, 81) := ⟨⟨by decide +kernel, by decide +kernel⟩, List.mem_of_getElem? (i := 768) (by decide +kernel), List.mem_of_getElem? (i := 1047) (by decide +kernel), List.mem_of_getElem? (i := 1048) (by decide +kernel)⟩
theorem lw_p37 : lw_okq (⟨"AirByYardModel", "partOf", "(II)I"⟩, 81) := ⟨⟨by decide +kernel, by decide +kernel⟩, List.mem_of_getElem? (i := 768) (by decide +kernel), List.mem_of_getElem? (i := 1051) (by decide +kernel), List.mem_of_getElem? (i := 1052) (by decide +kernel)⟩
theorem lw_p38 : lw_okq (⟨"AirByYardModel", "has", "(II)Z"⟩, 81) := ⟨⟨by decide +kernel, by decide +kernel⟩, List.mem_of_getElem? (i := 768) (by decide +kernel), List.mem_of_getElem? (i := 1059) (by decide +kernel), List.mem_of_getElem? (i := 1060) (by decide +kernel)⟩
theorem lw_p39 : lw_okq (⟨"AirByYardModel", "goesText", "(I)Z"⟩, 81) := ⟨⟨by decide +kernel, by decide +kernel⟩, List.mem_of_getElem? (i := 768) (by decide +kernel), List.mem_of_getElem? (i := 1075) (by decide +kernel), List.mem_of_getElem? (i := 1076) (by decide +kernel)⟩
theorem lw_p40 : lw_okq (⟨"AirByYardModel", "takesClause", "(I)Z"⟩, 81) := ⟨⟨by decide +kernel, by decide +kernel⟩, List.mem_of_getElem? (i := 768) (by decide +kernel), List.mem_of_getElem? (i := 1079) (by decide +kernel), List.mem_of_getElem? (i := 1080) (by decide +kernel)⟩
theorem lw_p41 : lw_okq (⟨"AirByYardModel", "takesHead", "(I)Z"⟩, 81) := ⟨⟨by decide +kernel, by decide +kernel⟩, List.mem_of_getElem? (i := 768) (by decide +kernel), List.mem_of_getElem? (i := 1083) (by decide +kernel), List.mem_of_getElem? (i := 1084) (by decide +kernel)⟩
theorem lw_p42 : lw_okq (⟨"AirByYardModel", "next", "()I"⟩, 81) := ⟨⟨by decide +kernel, by decide +kernel⟩, List.mem_of_getElem? (i := 768) (by decide +kernel), List.mem_of_getElem? (i := 1087) (by decide +kernel), List.mem_of_getElem? (i := 1088) (by decide +kernel)⟩
theorem lw_p43 : lw_okq (⟨"AirByYardModel", "takesWord", "(II)Z"⟩, 81) := ⟨⟨by decide +kernel, by decide +kernel⟩, List.mem_of_getElem? (i := 768) (by decide +kernel), List.mem_of_getElem? (i := 1091) (by decide +kernel), List.mem_of_getElem? (i := 1092) (by decide +kernel)⟩
theorem lw_p44 : lw_okq (⟨"AirByYardModel", "takes", "(I)Z"⟩, 81) := ⟨⟨by decide +kernel, by decide +kernel⟩, List.mem_of_getElem? (i := 768) (by decide +kernel), List.mem_of_getElem? (i := 1095) (by decide +kernel), List.mem_of_getElem? (i := 1096) (by decide +kernel)⟩
theorem lw_p45 : lw_okq (⟨"AirByYardModel", "takesNumber", "()Z"⟩, 81) := ⟨⟨by decide +kernel, by decide +kernel⟩, List.mem_of_getElem? (i := 768) (by decide +kernel), List.mem_of_getElem? (i := 1099) (by decide +kernel), List.mem_of_getElem? (i := 1100) (by decide +kernel)⟩
theorem lw_p46 : lw_okq (⟨"AirByYardModel", "isDigit", "()Z"⟩, 81) := ⟨⟨by decide +kernel, by decide +kernel⟩, List.mem_of_getElem? (i := 768) (by decide +kernel), List.mem_of_getElem? (i := 1103) (by decide +kernel), List.mem_of_getElem? (i := 1104) (by decide +kernel)⟩
theorem lw_p47 : lw_okq (⟨"AirByYardModel", "takesE", "(I)Z"⟩, 81) := ⟨⟨by decide +kernel, by decide +kernel⟩, List.mem_of_getElem? (i := 768) (by decide +kernel), List.mem_of_getElem? (i := 1107) (by decide +kernel), List.mem_of_getElem? (i := 1108) (by decide +kernel)⟩
def lw_privs_3 : List (MethodName × Nat) := [(⟨"AirByYardModel", "isLow", "(I)Z"⟩, 81), (⟨"AirByYardModel", "isHour", "(I)Z"⟩, 81), (⟨"AirByYardModel", "isBird", "(I)Z"⟩, 81), (⟨"AirByYardModel", "isGood", "(II)Z"⟩, 81), (⟨"AirByYardModel", "isPurse", "(I)Z"⟩, 81), (⟨"AirByYardModel", "partOf", "(II)I"⟩, 81), (⟨"AirByYardModel", "has", "(II)Z"⟩, 81), (⟨"AirByYardModel", "goesText", "(I)Z"⟩, 81), (⟨"AirByYardModel", "takesClause", "(I)Z"⟩, 81), (⟨"AirByYardModel", "takesHead", "(I)Z"⟩, 81), (⟨"AirByYardModel", "next", "()I"⟩, 81), (⟨"AirByYardModel", "takesWord", "(II)Z"⟩, 81), (⟨"AirByYardModel", "takes", "(I)Z"⟩, 81), (⟨"AirByYardModel", "takesNumber", "()Z"⟩, 81), (⟨"AirByYardModel", "isDigit", "()Z"⟩, 81), (⟨"AirByYardModel", "takesE", "(I)Z"⟩, 81)]
theorem lw_r3 : ∀ q ∈ lw_privs_3, lw_okq q := List.forall_mem_cons.mpr ⟨lw_p32, List.forall_mem_cons.mpr ⟨lw_p33, List.forall_mem_cons.mpr ⟨lw_p34, List.forall_mem_cons.mpr ⟨lw_p35, List.forall_mem_cons.mpr ⟨lw_p36, List.forall_mem_cons.mpr ⟨lw_p37, List.forall_mem_cons.mpr ⟨lw_p38, List.forall_mem_cons.mpr ⟨lw_p39, List.forall_mem_cons.mpr ⟨lw_p40, List.forall_mem_cons.mpr ⟨lw_p41, List.forall_mem_cons.mpr ⟨lw_p42, List.forall_mem_cons.mpr ⟨lw_p43, List.forall_mem_cons.mpr ⟨lw_p44, List.forall_mem_cons.mpr ⟨lw_p45, List.forall_mem_cons.mpr ⟨lw_p46, List.forall_mem_cons.mpr ⟨lw_p47, fun _ h => absurd h List.not_mem_nil⟩⟩⟩⟩⟩⟩⟩⟩⟩⟩⟩⟩⟩⟩⟩⟩
theorem lw_p48 : lw_okq (⟨"AirByYardModel", "takesTest", "()Z"⟩, 81) := ⟨⟨by decide +kernel, by decide +kernel⟩, List.mem_of_getElem? (i := 768) (by decide +kernel), List.mem_of_getElem? (i := 1111) (by decide +kernel), List.mem_of_getElem? (i := 1112) (by decide +kernel)⟩
theorem lw_p49 : lw_okq (⟨"AirByYardModel", "place", "(I)I"⟩, 81) := ⟨⟨by decide +kernel, by decide +kernel⟩, List.mem_of_getElem? (i := 768) (by decide +kernel), List.mem_of_getElem? (i := 1115) (by decide +kernel), List.mem_of_getElem? (i := 1116) (by decide +kernel)⟩
theorem lw_p50 : lw_okq (⟨"AirByYardModel", "emits", "(I)V"⟩, 81) := ⟨⟨by decide +kernel, by decide +kernel⟩, List.mem_of_getElem? (i := 768) (by decide +kernel), List.mem_of_getElem? (i := 1119) (by decide +kernel), List.mem_of_getElem? (i := 1120) (by decide +kernel)⟩
theorem lw_p51 : lw_okq (⟨"AirByYardModel", "whole", "()V"⟩, 81) := ⟨⟨by decide +kernel, by decide +kernel⟩, List.mem_of_getElem? (i := 768) (by decide +kernel), List.mem_of_getElem? (i := 1123) (by decide +kernel), List.mem_of_getElem? (i := 1124) (by decide +kernel)⟩
theorem lw_p52 : lw_okq (⟨"AirByYardModel", "settle", "(I)V"⟩, 81) := ⟨⟨by decide +kernel, by decide +kernel⟩, List.mem_of_getElem? (i := 768) (by decide +kernel), List.mem_of_getElem? (i := 1127) (by decide +kernel), List.mem_of_getElem? (i := 1128) (by decide +kernel)⟩
theorem lw_p53 : lw_okq (⟨"AirByYardModel", "bottom", "(I)I"⟩, 81) := ⟨⟨by decide +kernel, by decide +kernel⟩, List.mem_of_getElem? (i := 768) (by decide +kernel), List.mem_of_getElem? (i := 1135) (by decide +kernel), List.mem_of_getElem? (i := 1136) (by decide +kernel)⟩
theorem lw_p54 : lw_okq (⟨"AirByYardModel", "begins", "(I)I"⟩, 81) := ⟨⟨by decide +kernel, by decide +kernel⟩, List.mem_of_getElem? (i := 768) (by decide +kernel), List.mem_of_getElem? (i := 1139) (by decide +kernel), List.mem_of_getElem? (i := 1140) (by decide +kernel)⟩
theorem lw_p55 : lw_okq (⟨"AirByYardModel", "price", "(I)I"⟩, 81) := ⟨⟨by decide +kernel, by decide +kernel⟩, List.mem_of_getElem? (i := 768) (by decide +kernel), List.mem_of_getElem? (i := 1143) (by decide +kernel), List.mem_of_getElem? (i := 1144) (by decide +kernel)⟩
theorem lw_p56 : lw_okq (⟨"AirByYardModel", "begin", "()I"⟩, 81) := ⟨⟨by decide +kernel, by decide +kernel⟩, List.mem_of_getElem? (i := 768) (by decide +kernel), List.mem_of_getElem? (i := 1147) (by decide +kernel), List.mem_of_getElem? (i := 1148) (by decide +kernel)⟩
theorem lw_p57 : lw_okq (⟨"AirByYardModel", "behind", "()I"⟩, 81) := ⟨⟨by decide +kernel, by decide +kernel⟩, List.mem_of_getElem? (i := 768) (by decide +kernel), List.mem_of_getElem? (i := 1151) (by decide +kernel), List.mem_of_getElem? (i := 1152) (by decide +kernel)⟩
theorem lw_p58 : lw_okq (⟨"AirByYardModel", "holds", "(II)Z"⟩, 81) := ⟨⟨by decide +kernel, by decide +kernel⟩, List.mem_of_getElem? (i := 768) (by decide +kernel), List.mem_of_getElem? (i := 1155) (by decide +kernel), List.mem_of_getElem? (i := 1156) (by decide +kernel)⟩
theorem lw_p59 : lw_okq (⟨"AirByYardModel", "factOf", "(II)I"⟩, 81) := ⟨⟨by decide +kernel, by decide +kernel⟩, List.mem_of_getElem? (i := 768) (by decide +kernel), List.mem_of_getElem? (i := 1159) (by decide +kernel), List.mem_of_getElem? (i := 1160) (by decide +kernel)⟩
theorem lw_p60 : lw_okq (⟨"AirByYardModel", "strips", "(I)I"⟩, 81) := ⟨⟨by decide +kernel, by decide +kernel⟩, List.mem_of_getElem? (i := 768) (by decide +kernel), List.mem_of_getElem? (i := 1163) (by decide +kernel), List.mem_of_getElem? (i := 1164) (by decide +kernel)⟩
theorem lw_p61 : lw_okq (⟨"AirByYardModel", "heights", "(I)I"⟩, 81) := ⟨⟨by decide +kernel, by decide +kernel⟩, List.mem_of_getElem? (i := 768) (by decide +kernel), List.mem_of_getElem? (i := 1167) (by decide +kernel), List.mem_of_getElem? (i := 1168) (by decide +kernel)⟩
theorem lw_p62 : lw_okq (⟨"AirByYardModel", "top", "()I"⟩, 81) := ⟨⟨by decide +kernel, by decide +kernel⟩, List.mem_of_getElem? (i := 768) (by decide +kernel), List.mem_of_getElem? (i := 1171) (by decide +kernel), List.mem_of_getElem? (i := 1172) (by decide +kernel)⟩
theorem lw_p63 : lw_okq (⟨"AirByYardModel", "lastOf", "(II)I"⟩, 81) := ⟨⟨by decide +kernel, by decide +kernel⟩, List.mem_of_getElem? (i := 768) (by decide +kernel), List.mem_of_getElem? (i := 1175) (by decide +kernel), List.mem_of_getElem? (i := 1176) (by decide +kernel)⟩
def lw_privs_4 : List (MethodName × Nat) := [(⟨"AirByYardModel", "takesTest", "()Z"⟩, 81), (⟨"AirByYardModel", "place", "(I)I"⟩, 81), (⟨"AirByYardModel", "emits", "(I)V"⟩, 81), (⟨"AirByYardModel", "whole", "()V"⟩, 81), (⟨"AirByYardModel", "settle", "(I)V"⟩, 81), (⟨"AirByYardModel", "bottom", "(I)I"⟩, 81), (⟨"AirByYardModel", "begins", "(I)I"⟩, 81), (⟨"AirByYardModel", "price", "(I)I"⟩, 81), (⟨"AirByYardModel", "begin", "()I"⟩, 81), (⟨"AirByYardModel", "behind", "()I"⟩, 81), (⟨"AirByYardModel", "holds", "(II)Z"⟩, 81), (⟨"AirByYardModel", "factOf", "(II)I"⟩, 81), (⟨"AirByYardModel", "strips", "(I)I"⟩, 81), (⟨"AirByYardModel", "heights", "(I)I"⟩, 81), (⟨"AirByYardModel", "top", "()I"⟩, 81), (⟨"AirByYardModel", "lastOf", "(II)I"⟩, 81)]
theorem lw_r4 : ∀ q ∈ lw_privs_4, lw_okq q := List.forall_mem_cons.mpr ⟨lw_p48, List.forall_mem_cons.mpr ⟨lw_p49, List.forall_mem_cons.mpr ⟨lw_p50, List.forall_mem_cons.mpr ⟨lw_p51, List.forall_mem_cons.mpr ⟨lw_p52, List.forall_mem_cons.mpr ⟨lw_p53, List.forall_mem_cons.mpr ⟨lw_p54, List.forall_mem_cons.mpr ⟨lw_p55, List.forall_mem_cons.mpr ⟨lw_p56, List.forall_mem_cons.mpr ⟨lw_p57, List.forall_mem_cons.mpr ⟨lw_p58, List.forall_mem_cons.mpr ⟨lw_p59, List.forall_mem_cons.mpr ⟨lw_p60, List.forall_mem_cons.mpr ⟨lw_p61, List.forall_mem_cons.mpr ⟨lw_p62, List.forall_mem_cons.mpr ⟨lw_p63, fun _ h => absurd h List.not_mem_nil⟩⟩⟩⟩⟩⟩⟩⟩⟩⟩⟩⟩⟩⟩⟩⟩
theorem lw_p64 : lw_okq (⟨"AirByYardModel", "rent", "(I)I"⟩, 81) := ⟨⟨by decide +kernel, by decide +kernel⟩, List.mem_of_getElem? (i := 768) (by decide +kernel), List.mem_of_getElem? (i := 1179) (by decide +kernel), List.mem_of_getElem? (i := 1180) (by decide +kernel)⟩
theorem lw_p65 : lw_okq (⟨"AirByYardModel", "allFree", "()I"⟩, 81) := ⟨⟨by decide +kernel, by decide +kernel⟩, List.mem_of_getElem? (i := 768) (by decide +kernel), List.mem_of_getElem? (i := 1187) (by decide +kernel), List.mem_of_getElem? (i := 1188) (by decide +kernel)⟩
theorem lw_p66 : lw_okq (⟨"AirByYardModel", "freeAt", "(I)I"⟩, 81) := ⟨⟨by decide +kernel, by decide +kernel⟩, List.mem_of_getElem? (i := 768) (by decide +kernel), List.mem_of_getElem? (i := 1191) (by decide +kernel), List.mem_of_getElem? (i := 1192) (by decide +kernel)⟩
theorem lw_p67 : lw_okq (⟨"AirByYardModel", "heldBy", "(II)I"⟩, 81) := ⟨⟨by decide +kernel, by decide +kernel⟩, List.mem_of_getElem? (i := 768) (by decide +kernel), List.mem_of_getElem? (i := 1195) (by decide +kernel), List.mem_of_getElem? (i := 1196) (by decide +kernel)⟩
theorem lw_p68 : lw_okq (⟨"AirByYardModel", "holdsStrip", "(III)Z"⟩, 81) := ⟨⟨by decide +kernel, by decide +kernel⟩, List.mem_of_getElem? (i := 768) (by decide +kernel), List.mem_of_getElem? (i := 1199) (by decide +kernel), List.mem_of_getElem? (i := 1200) (by decide +kernel)⟩
theorem lw_p69 : lw_okq (⟨"AirByYardModel", "ones", "(I)I"⟩, 81) := ⟨⟨by decide +kernel, by decide +kernel⟩, List.mem_of_getElem? (i := 768) (by decide +kernel), List.mem_of_getElem? (i := 1203) (by decide +kernel), List.mem_of_getElem? (i := 1204) (by decide +kernel)⟩
theorem lw_p70 : lw_okq (⟨"AirByYardModel", "crowded", "()I"⟩, 81) := ⟨⟨by decide +kernel, by decide +kernel⟩, List.mem_of_getElem? (i := 768) (by decide +kernel), List.mem_of_getElem? (i := 1207) (by decide +kernel), List.mem_of_getElem? (i := 1208) (by decide +kernel)⟩
theorem lw_p71 : lw_okq (⟨"AirByYardModel", "allRent", "()I"⟩, 81) := ⟨⟨by decide +kernel, by decide +kernel⟩, List.mem_of_getElem? (i := 768) (by decide +kernel), List.mem_of_getElem? (i := 1211) (by decide +kernel), List.mem_of_getElem? (i := 1212) (by decide +kernel)⟩
theorem lw_p72 : lw_okq (⟨"AirByYardModel", "isHeight", "(I)Z"⟩, 81) := ⟨⟨by decide +kernel, by decide +kernel⟩, List.mem_of_getElem? (i := 768) (by decide +kernel), List.mem_of_getElem? (i := 1219) (by decide +kernel), List.mem_of_getElem? (i := 1220) (by decide +kernel)⟩
theorem lw_p73 : lw_okq (⟨"AirByYardModel", "clashOf", "(II)I"⟩, 81) := ⟨⟨by decide +kernel, by decide +kernel⟩, List.mem_of_getElem? (i := 768) (by decide +kernel), List.mem_of_getElem? (i := 1231) (by decide +kernel), List.mem_of_getElem? (i := 1232) (by decide +kernel)⟩
theorem lw_p74 : lw_okq (⟨"AirByYardModel", "isDays", "(I)Z"⟩, 81) := ⟨⟨by decide +kernel, by decide +kernel⟩, List.mem_of_getElem? (i := 768) (by decide +kernel), List.mem_of_getElem? (i := 1243) (by decide +kernel), List.mem_of_getElem? (i := 1244) (by decide +kernel)⟩
theorem lw_p75 : lw_okq (⟨"AirByYardModel", "goDays", "(I)V"⟩, 81) := ⟨⟨by decide +kernel, by decide +kernel⟩, List.mem_of_getElem? (i := 768) (by decide +kernel), List.mem_of_getElem? (i := 1247) (by decide +kernel), List.mem_of_getElem? (i := 1248) (by decide +kernel)⟩
theorem lw_p76 : lw_okq (⟨"AirByYardModel", "goDay", "()V"⟩, 81) := ⟨⟨by decide +kernel, by decide +kernel⟩, List.mem_of_getElem? (i := 768) (by decide +kernel), List.mem_of_getElem? (i := 1251) (by decide +kernel), List.mem_of_getElem? (i := 1252) (by decide +kernel)⟩
theorem lw_p77 : lw_okq (⟨"AirByYardModel", "save", "()V"⟩, 81) := ⟨⟨by decide +kernel, by decide +kernel⟩, List.mem_of_getElem? (i := 768) (by decide +kernel), List.mem_of_getElem? (i := 1259) (by decide +kernel), List.mem_of_getElem? (i := 1260) (by decide +kernel)⟩
theorem lw_p78 : lw_okq (⟨"AirByYardModel", "putBack", "()V"⟩, 81) := ⟨⟨by decide +kernel, by decide +kernel⟩, List.mem_of_getElem? (i := 768) (by decide +kernel), List.mem_of_getElem? (i := 1263) (by decide +kernel), List.mem_of_getElem? (i := 1264) (by decide +kernel)⟩
theorem lw_p79 : lw_okq (⟨"AirByYardModel", "shared", "(I)I"⟩, 81) := ⟨⟨by decide +kernel, by decide +kernel⟩, List.mem_of_getElem? (i := 768) (by decide +kernel), List.mem_of_getElem? (i := 1275) (by decide +kernel), List.mem_of_getElem? (i := 1276) (by decide +kernel)⟩
def lw_privs_5 : List (MethodName × Nat) := [(⟨"AirByYardModel", "rent", "(I)I"⟩, 81), (⟨"AirByYardModel", "allFree", "()I"⟩, 81), (⟨"AirByYardModel", "freeAt", "(I)I"⟩, 81), (⟨"AirByYardModel", "heldBy", "(II)I"⟩, 81), (⟨"AirByYardModel", "holdsStrip", "(III)Z"⟩, 81), (⟨"AirByYardModel", "ones", "(I)I"⟩, 81), (⟨"AirByYardModel", "crowded", "()I"⟩, 81), (⟨"AirByYardModel", "allRent", "()I"⟩, 81), (⟨"AirByYardModel", "isHeight", "(I)Z"⟩, 81), (⟨"AirByYardModel", "clashOf", "(II)I"⟩, 81), (⟨"AirByYardModel", "isDays", "(I)Z"⟩, 81), (⟨"AirByYardModel", "goDays", "(I)V"⟩, 81), (⟨"AirByYardModel", "goDay", "()V"⟩, 81), (⟨"AirByYardModel", "save", "()V"⟩, 81), (⟨"AirByYardModel", "putBack", "()V"⟩, 81), (⟨"AirByYardModel", "shared", "(I)I"⟩, 81)]
theorem lw_r5 : ∀ q ∈ lw_privs_5, lw_okq q := List.forall_mem_cons.mpr ⟨lw_p64, List.forall_mem_cons.mpr ⟨lw_p65, List.forall_mem_cons.mpr ⟨lw_p66, List.forall_mem_cons.mpr ⟨lw_p67, List.forall_mem_cons.mpr ⟨lw_p68, List.forall_mem_cons.mpr ⟨lw_p69, List.forall_mem_cons.mpr ⟨lw_p70, List.forall_mem_cons.mpr ⟨lw_p71, List.forall_mem_cons.mpr ⟨lw_p72, List.forall_mem_cons.mpr ⟨lw_p73, List.forall_mem_cons.mpr ⟨lw_p74, List.forall_mem_cons.mpr ⟨lw_p75, List.forall_mem_cons.mpr ⟨lw_p76, List.forall_mem_cons.mpr ⟨lw_p77, List.forall_mem_cons.mpr ⟨lw_p78, List.forall_mem_cons.mpr ⟨lw_p79, fun _ h => absurd h List.not_mem_nil⟩⟩⟩⟩⟩⟩⟩⟩⟩⟩⟩⟩⟩⟩⟩⟩
theorem lw_p80 : lw_okq (⟨"AirByYardModel", "layFoes", "()V"⟩, 81) := ⟨⟨by decide +kernel, by decide +kernel⟩, List.mem_of_getElem? (i := 768) (by decide +kernel), List.mem_of_getElem? (i := 1287) (by decide +kernel), List.mem_of_getElem? (i := 1288) (by decide +kernel)⟩
theorem lw_p81 : lw_okq (⟨"AirByYardModel", "isPeaceful", "(I)Z"⟩, 81) := ⟨⟨by decide +kernel, by decide +kernel⟩, List.mem_of_getElem? (i := 768) (by decide +kernel), List.mem_of_getElem? (i := 1291) (by decide +kernel), List.mem_of_getElem? (i := 1292) (by decide +kernel)⟩
theorem lw_p82 : lw_okq (⟨"AirByYardModel", "layWays", "(I)V"⟩, 81) := ⟨⟨by decide +kernel, by decide +kernel⟩, List.mem_of_getElem? (i := 768) (by decide +kernel), List.mem_of_getElem? (i := 1304) (by decide +kernel), List.mem_of_getElem? (i := 1305) (by decide +kernel)⟩
theorem lw_p83 : lw_okq (⟨"AirByYardModel", "isSeen", "()Z"⟩, 81) := ⟨⟨by decide +kernel, by decide +kernel⟩, List.mem_of_getElem? (i := 768) (by decide +kernel), List.mem_of_getElem? (i := 1320) (by decide +kernel), List.mem_of_getElem? (i := 1321) (by decide +kernel)⟩
theorem lw_p84 : lw_okq (⟨"AirByYardModel", "lowest", "(III)J"⟩, 81) := ⟨⟨by decide +kernel, by decide +kernel⟩, List.mem_of_getElem? (i := 768) (by decide +kernel), List.mem_of_getElem? (i := 1328) (by decide +kernel), List.mem_of_getElem? (i := 1329) (by decide +kernel)⟩
theorem lw_p85 : lw_okq (⟨"AirByYardModel", "divisor", "(II)I"⟩, 81) := ⟨⟨by decide +kernel, by decide +kernel⟩, List.mem_of_getElem? (i := 768) (by decide +kernel), List.mem_of_getElem? (i := 1332) (by decide +kernel), List.mem_of_getElem? (i := 1333) (by decide +kernel)⟩
theorem lw_p86 : lw_okq (⟨"AirByYardModel", "isTape", "(I)Z"⟩, 81) := ⟨⟨by decide +kernel, by decide +kernel⟩, List.mem_of_getElem? (i := 768) (by decide +kernel), List.mem_of_getElem? (i := 1360) (by decide +kernel), List.mem_of_getElem? (i := 1361) (by decide +kernel)⟩
theorem lw_p87 : lw_okq (⟨"AirByYardModel", "fliesAct", "(II)I"⟩, 81) := ⟨⟨by decide +kernel, by decide +kernel⟩, List.mem_of_getElem? (i := 768) (by decide +kernel), List.mem_of_getElem? (i := 1376) (by decide +kernel), List.mem_of_getElem? (i := 1377) (by decide +kernel)⟩
theorem lw_p88 : lw_okq (⟨"AirByYardModel", "body", "(I)V"⟩, 81) := ⟨⟨by decide +kernel, by decide +kernel⟩, List.mem_of_getElem? (i := 768) (by decide +kernel), List.mem_of_getElem? (i := 1380) (by decide +kernel), List.mem_of_getElem? (i := 1381) (by decide +kernel)⟩
theorem lw_p89 : lw_okq (⟨"AirByYardModel", "birdFlies", "(II)I"⟩, 81) := ⟨⟨by decide +kernel, by decide +kernel⟩, List.mem_of_getElem? (i := 768) (by decide +kernel), List.mem_of_getElem? (i := 1384) (by decide +kernel), List.mem_of_getElem? (i := 1385) (by decide +kernel)⟩
theorem lw_p90 : lw_okq (⟨"AirByYardModel", "singsAct", "(II)I"⟩, 81) := ⟨⟨by decide +kernel, by decide +kernel⟩, List.mem_of_getElem? (i := 768) (by decide +kernel), List.mem_of_getElem? (i := 1388) (by decide +kernel), List.mem_of_getElem? (i := 1389) (by decide +kernel)⟩
theorem lw_p91 : lw_okq (⟨"AirByYardModel", "singerSings", "(II)I"⟩, 81) := ⟨⟨by decide +kernel, by decide +kernel⟩, List.mem_of_getElem? (i := 768) (by decide +kernel), List.mem_of_getElem? (i := 1392) (by decide +kernel), List.mem_of_getElem? (i := 1393) (by decide +kernel)⟩
theorem lw_p92 : lw_okq (⟨"AirByYardModel", "birdSings", "(II)I"⟩, 81) := ⟨⟨by decide +kernel, by decide +kernel⟩, List.mem_of_getElem? (i := 768) (by decide +kernel), List.mem_of_getElem? (i := 1396) (by decide +kernel), List.mem_of_getElem? (i := 1397) (by decide +kernel)⟩
theorem lw_p93 : lw_okq (⟨"AirByYardModel", "tellsAct", "(II)I"⟩, 81) := ⟨⟨by decide +kernel, by decide +kernel⟩, List.mem_of_getElem? (i := 768) (by decide +kernel), List.mem_of_getElem? (i := 1400) (by decide +kernel), List.mem_of_getElem? (i := 1401) (by decide +kernel)⟩
theorem lw_p94 : lw_okq (⟨"AirByYardModel", "birdTells", "(II)I"⟩, 81) := ⟨⟨by decide +kernel, by decide +kernel⟩, List.mem_of_getElem? (i := 768) (by decide +kernel), List.mem_of_getElem? (i := 1404) (by decide +kernel), List.mem_of_getElem? (i := 1405) (by decide +kernel)⟩
theorem lw_p95 : lw_okq (⟨"AirByYardModel", "narrow", "(IJ)J"⟩, 81) := ⟨⟨by decide +kernel, by decide +kernel⟩, List.mem_of_getElem? (i := 768) (by decide +kernel), List.mem_of_getElem? (i := 1428) (by decide +kernel), List.mem_of_getElem? (i := 1429) (by decide +kernel)⟩
def lw_privs_6 : List (MethodName × Nat) := [(⟨"AirByYardModel", "layFoes", "()V"⟩, 81), (⟨"AirByYardModel", "isPeaceful", "(I)Z"⟩, 81), (⟨"AirByYardModel", "layWays", "(I)V"⟩, 81), (⟨"AirByYardModel", "isSeen", "()Z"⟩, 81), (⟨"AirByYardModel", "lowest", "(III)J"⟩, 81), (⟨"AirByYardModel", "divisor", "(II)I"⟩, 81), (⟨"AirByYardModel", "isTape", "(I)Z"⟩, 81), (⟨"AirByYardModel", "fliesAct", "(II)I"⟩, 81), (⟨"AirByYardModel", "body", "(I)V"⟩, 81), (⟨"AirByYardModel", "birdFlies", "(II)I"⟩, 81), (⟨"AirByYardModel", "singsAct", "(II)I"⟩, 81), (⟨"AirByYardModel", "singerSings", "(II)I"⟩, 81), (⟨"AirByYardModel", "birdSings", "(II)I"⟩, 81), (⟨"AirByYardModel", "tellsAct", "(II)I"⟩, 81), (⟨"AirByYardModel", "birdTells", "(II)I"⟩, 81), (⟨"AirByYardModel", "narrow", "(IJ)J"⟩, 81)]
theorem lw_r6 : ∀ q ∈ lw_privs_6, lw_okq q := List.forall_mem_cons.mpr ⟨lw_p80, List.forall_mem_cons.mpr ⟨lw_p81, List.forall_mem_cons.mpr ⟨lw_p82, List.forall_mem_cons.mpr ⟨lw_p83, List.forall_mem_cons.mpr ⟨lw_p84, List.forall_mem_cons.mpr ⟨lw_p85, List.forall_mem_cons.mpr ⟨lw_p86, List.forall_mem_cons.mpr ⟨lw_p87, List.forall_mem_cons.mpr ⟨lw_p88, List.forall_mem_cons.mpr ⟨lw_p89, List.forall_mem_cons.mpr ⟨lw_p90, List.forall_mem_cons.mpr ⟨lw_p91, List.forall_mem_cons.mpr ⟨lw_p92, List.forall_mem_cons.mpr ⟨lw_p93, List.forall_mem_cons.mpr ⟨lw_p94, List.forall_mem_cons.mpr ⟨lw_p95, fun _ h => absurd h List.not_mem_nil⟩⟩⟩⟩⟩⟩⟩⟩⟩⟩⟩⟩⟩⟩⟩⟩
def lw_privs : List (MethodName × Nat) := lw_privs_1 ++ (lw_privs_2 ++ (lw_privs_3 ++ (lw_privs_4 ++ (lw_privs_5 ++ (lw_privs_6)))))
def lw_tbl : List Cond := k2_sels lw_privs ++ tables_1
theorem lw_privs_ok : ∀ q ∈ lw_privs, lw_okq q := by
  show ∀ q ∈ lw_privs_1 ++ (lw_privs_2 ++ (lw_privs_3 ++ (lw_privs_4 ++ (lw_privs_5 ++ (lw_privs_6))))), lw_okq q
  exact List.forall_mem_append.mpr ⟨lw_r1, List.forall_mem_append.mpr ⟨lw_r2, List.forall_mem_append.mpr ⟨lw_r3, List.forall_mem_append.mpr ⟨lw_r4, List.forall_mem_append.mpr ⟨lw_r5, lw_r6⟩⟩⟩⟩⟩
-- names
def RX0 : String := "AirByYard$Bird"
def TX0 : u_T := fun k => match k with
  | 0 => ("AirByYard$Bird", "row", "[I", true)
  | 1 => ("AirByYard$Bird", "number", "I", false)
  | 2 => ("AirByYard$Bird", "kind", "I", false)
  | 3 => ("AirByYard$Bird", "v", "I", false)
  | 4 => ("AirByYard$Bird", "low", "I", false)
  | 5 => ("AirByYard$Bird", "tall", "I", false)
  | 6 => ("AirByYard$Bird", "from", "I", false)
  | 7 => ("AirByYard$Bird", "hours", "I", false)
  | 8 => ("AirByYard$Bird", "purse", "I", false)
  | _ => ("AirByYard$Bird", "out", "Z", false)
def tyX0 : Nat → FieldType := fun k => match k with
  | 0 => .array .int
  | 1 => .int
  | 2 => .int
  | 3 => .int
  | 4 => .int
  | 5 => .int
  | 6 => .int
  | 7 => .int
  | 8 => .int
  | _ => .boolean
abbrev wsX00 : List Cond := u_ws RX0 TX0 10
theorem nmX0 : ∀ a, a < 10 → ∀ b, b < 10 → a ≠ b → (TX0 a).2.1 ≠ (TX0 b).2.1 := by decide +kernel
theorem tyX0_ok : ∀ k, k < 10 → parseFieldDescriptor (TX0 k).2.2.1 = some (tyX0 k) := by decide +kernel
abbrev cX0_init : ByteArray := prog_2_method_1_code
def yX0_init : MethodName := ⟨RX0, "<init>", "()V"⟩
abbrev cX0_begin : ByteArray := prog_2_method_2_code
def yX0_begin : MethodName := ⟨RX0, "begin", "(III)V"⟩
abbrev cX0_become : ByteArray := prog_2_method_3_code
def yX0_become : MethodName := ⟨RX0, "become", "(LAirByYard$Bird;)V"⟩
abbrev cX0_change : ByteArray := prog_2_method_4_code
def yX0_change : MethodName := ⟨RX0, "change", "(II)I"⟩
abbrev cX0_bottom : ByteArray := prog_2_method_5_code
def yX0_bottom : MethodName := ⟨RX0, "bottom", "()I"⟩
abbrev cX0_begins : ByteArray := prog_2_method_6_code
def yX0_begins : MethodName := ⟨RX0, "begins", "(I)I"⟩
abbrev cX0_heights : ByteArray := prog_2_method_7_code
def yX0_heights : MethodName := ⟨RX0, "heights", "(I)I"⟩
abbrev cX0_span : ByteArray := prog_2_method_8_code
def yX0_span : MethodName := ⟨RX0, "span", "(I)I"⟩
abbrev cX0_holds : ByteArray := prog_2_method_9_code
def yX0_holds : MethodName := ⟨RX0, "holds", "(IIII)Z"⟩
abbrev cX0_strips : ByteArray := prog_2_method_10_code
def yX0_strips : MethodName := ⟨RX0, "strips", "(I)I"⟩
abbrev cX0_rent : ByteArray := prog_2_method_11_code
def yX0_rent : MethodName := ⟨RX0, "rent", "(LAirByYard$Estuary;I)I"⟩
abbrev cX0_live : ByteArray := prog_2_method_12_code
def yX0_live : MethodName := ⟨RX0, "live", "(LAirByYard$Estuary;II)V"⟩
abbrev cX0_liveADay : ByteArray := prog_2_method_13_code
def yX0_liveADay : MethodName := ⟨RX0, "liveADay", "(LAirByYard$Estuary;I)V"⟩
def RX1 : String := "AirByYard$Estuary"
def TX1 : u_T := fun k => match k with
  | 0 => ("AirByYard$Estuary", "steps", "[I", true)
  | 1 => ("AirByYard$Estuary", "stepCount", "I", false)
  | 2 => ("AirByYard$Estuary", "gain", "I", false)
  | _ => ("AirByYard$Estuary", "top", "I", false)
def tyX1 : Nat → FieldType := fun k => match k with
  | 0 => .array .int
  | 1 => .int
  | 2 => .int
  | _ => .int
abbrev wsX10 : List Cond := u_ws RX1 TX1 4
theorem nmX1 : ∀ a, a < 4 → ∀ b, b < 4 → a ≠ b → (TX1 a).2.1 ≠ (TX1 b).2.1 := by decide +kernel
theorem tyX1_ok : ∀ k, k < 4 → parseFieldDescriptor (TX1 k).2.2.1 = some (tyX1 k) := by decide +kernel
abbrev cX1_init : ByteArray := prog_3_method_1_code
def yX1_init : MethodName := ⟨RX1, "<init>", "()V"⟩
abbrev cX1_clear : ByteArray := prog_3_method_2_code
def yX1_clear : MethodName := ⟨RX1, "clear", "()V"⟩
abbrev cX1_put : ByteArray := prog_3_method_3_code
def yX1_put : MethodName := ⟨RX1, "put", "(II)V"⟩
abbrev cX1_price : ByteArray := prog_3_method_4_code
def yX1_price : MethodName := ⟨RX1, "price", "(LAirByYard$Bird;I)I"⟩
abbrev cX1_testOf : ByteArray := prog_3_method_5_code
def yX1_testOf : MethodName := ⟨RX1, "testOf", "(III)I"⟩
abbrev cX1_passes : ByteArray := prog_3_method_6_code
def yX1_passes : MethodName := ⟨RX1, "passes", "(ILAirByYard$Bird;I)Z"⟩
abbrev cX1_trait : ByteArray := prog_3_method_7_code
def yX1_trait : MethodName := ⟨RX1, "trait", "(ILAirByYard$Bird;I)I"⟩
def RX2 : String := "AirByYard$Reader"
def TX2 : u_T := fun k => match k with
  | 0 => ("AirByYard$Reader", "signs", "[B", true)
  | 1 => ("AirByYard$Reader", "size", "I", false)
  | _ => ("AirByYard$Reader", "at", "I", false)
def tyX2 : Nat → FieldType := fun k => match k with
  | 0 => .array .byte
  | 1 => .int
  | _ => .int
abbrev wsX20 : List Cond := u_ws RX2 TX2 3
theorem nmX2 : ∀ a, a < 3 → ∀ b, b < 3 → a ≠ b → (TX2 a).2.1 ≠ (TX2 b).2.1 := by decide +kernel
theorem tyX2_ok : ∀ k, k < 3 → parseFieldDescriptor (TX2 k).2.2.1 = some (tyX2 k) := by decide +kernel
abbrev cX2_init : ByteArray := prog_4_method_1_code
def yX2_init : MethodName := ⟨RX2, "<init>", "()V"⟩
abbrev cX2_put : ByteArray := prog_4_method_2_code
def yX2_put : MethodName := ⟨RX2, "put", "(I)Z"⟩
abbrev cX2_parse : ByteArray := prog_4_method_3_code
def yX2_parse : MethodName := ⟨RX2, "parse", "(LAirByYard$Estuary;)I"⟩
abbrev cX2_clause : ByteArray := prog_4_method_4_code
def yX2_clause : MethodName := ⟨RX2, "clause", "(LAirByYard$Estuary;)Z"⟩
abbrev cX2_change : ByteArray := prog_4_method_5_code
def yX2_change : MethodName := ⟨RX2, "change", "(LAirByYard$Estuary;I)Z"⟩
abbrev cX2_gain : ByteArray := prog_4_method_6_code
def yX2_gain : MethodName := ⟨RX2, "gain", "(LAirByYard$Estuary;)Z"⟩
abbrev cX2_top : ByteArray := prog_4_method_7_code
def yX2_top : MethodName := ⟨RX2, "top", "(LAirByYard$Estuary;)Z"⟩
abbrev cX2_either : ByteArray := prog_4_method_8_code
def yX2_either : MethodName := ⟨RX2, "either", "(LAirByYard$Estuary;I)Z"⟩
abbrev cX2_factor : ByteArray := prog_4_method_9_code
def yX2_factor : MethodName := ⟨RX2, "factor", "(LAirByYard$Estuary;I)Z"⟩
abbrev cX2_test : ByteArray := prog_4_method_10_code
def yX2_test : MethodName := ⟨RX2, "test", "(LAirByYard$Estuary;)Z"⟩
abbrev cX2_isLetter : ByteArray := prog_4_method_11_code
def yX2_isLetter : MethodName := ⟨RX2, "isLetter", "(I)Z"⟩
abbrev cX2_next : ByteArray := prog_4_method_12_code
def yX2_next : MethodName := ⟨RX2, "next", "()I"⟩
abbrev cX2_skip : ByteArray := prog_4_method_13_code
def yX2_skip : MethodName := ⟨RX2, "skip", "(C)Z"⟩
abbrev cX2_skipWord : ByteArray := prog_4_method_14_code
def yX2_skipWord : MethodName := ⟨RX2, "skipWord", "(Ljava/lang/String;)Z"⟩
abbrev cX2_number : ByteArray := prog_4_method_15_code
def yX2_number : MethodName := ⟨RX2, "number", "()I"⟩
def RX3 : String := "AirByYard$Rows"
def TX3 : u_T := fun k => match k with
  | 0 => ("AirByYard$Rows", "first", "[I", true)
  | 1 => ("AirByYard$Rows", "second", "[I", true)
  | 2 => ("AirByYard$Rows", "third", "[I", true)
  | 3 => ("AirByYard$Rows", "fourth", "[I", true)
  | _ => ("AirByYard$Rows", "size", "I", false)
def tyX3 : Nat → FieldType := fun k => match k with
  | 0 => .array .int
  | 1 => .array .int
  | 2 => .array .int
  | 3 => .array .int
  | _ => .int
abbrev wsX30 : List Cond := u_ws RX3 TX3 5
theorem nmX3 : ∀ a, a < 5 → ∀ b, b < 5 → a ≠ b → (TX3 a).2.1 ≠ (TX3 b).2.1 := by decide +kernel
theorem tyX3_ok : ∀ k, k < 5 → parseFieldDescriptor (TX3 k).2.2.1 = some (tyX3 k) := by decide +kernel
abbrev cX3_init : ByteArray := prog_5_method_1_code
def yX3_init : MethodName := ⟨RX3, "<init>", "(I)V"⟩
abbrev cX3_put : ByteArray := prog_5_method_2_code
def yX3_put : MethodName := ⟨RX3, "put", "(IIII)Z"⟩
abbrev cX3_become : ByteArray := prog_5_method_3_code
def yX3_become : MethodName := ⟨RX3, "become", "(LAirByYard$Rows;)V"⟩
def RX4 : String := "AirByYard$Scene"
def TX4 : u_T := fun k => match k with
  | 0 => ("AirByYard$Scene", "birds", "[LAirByYard$Bird;", true)
  | 1 => ("AirByYard$Scene", "size", "I", false)
  | 2 => ("AirByYard$Scene", "day", "I", false)
  | 3 => ("AirByYard$Scene", "holding", "I", false)
  | 4 => ("AirByYard$Scene", "seen", "LAirByYard$Rows;", true)
  | 5 => ("AirByYard$Scene", "leases", "LAirByYard$Rows;", true)
  | _ => ("AirByYard$Scene", "book", "LAirByYard$Rows;", true)
def tyX4 : Nat → FieldType := fun k => match k with
  | 0 => .array (.object "AirByYard$Bird")
  | 1 => .int
  | 2 => .int
  | 3 => .int
  | 4 => .object "AirByYard$Rows"
  | 5 => .object "AirByYard$Rows"
  | _ => .object "AirByYard$Rows"
abbrev wsX40 : List Cond := u_ws RX4 TX4 7
theorem nmX4 : ∀ a, a < 7 → ∀ b, b < 7 → a ≠ b → (TX4 a).2.1 ≠ (TX4 b).2.1 := by decide +kernel
theorem tyX4_ok : ∀ k, k < 7 → parseFieldDescriptor (TX4 k).2.2.1 = some (tyX4 k) := by decide +kernel
abbrev cX4_init : ByteArray := prog_6_method_1_code
def yX4_init : MethodName := ⟨RX4, "<init>", "()V"⟩
abbrev cX4_birdAt : ByteArray := prog_6_method_2_code
def yX4_birdAt : MethodName := ⟨RX4, "birdAt", "(I)LAirByYard$Bird;"⟩
abbrev cX4_outBits : ByteArray := prog_6_method_3_code
def yX4_outBits : MethodName := ⟨RX4, "outBits", "()I"⟩
abbrev cX4_become : ByteArray := prog_6_method_4_code
def yX4_become : MethodName := ⟨RX4, "become", "(LAirByYard$Scene;)V"⟩
def RX5 : String := "AirByYard$Tape"
def TX5 : u_T := fun k => match k with
  | 0 => ("AirByYard$Tape", "items", "[J", true)
  | 1 => ("AirByYard$Tape", "sort", "I", false)
  | _ => ("AirByYard$Tape", "size", "I", false)
def tyX5 : Nat → FieldType := fun k => match k with
  | 0 => .array .long
  | 1 => .int
  | _ => .int
abbrev wsX50 : List Cond := u_ws RX5 TX5 3
theorem nmX5 : ∀ a, a < 3 → ∀ b, b < 3 → a ≠ b → (TX5 a).2.1 ≠ (TX5 b).2.1 := by decide +kernel
theorem tyX5_ok : ∀ k, k < 3 → parseFieldDescriptor (TX5 k).2.2.1 = some (tyX5 k) := by decide +kernel
abbrev cX5_init : ByteArray := prog_7_method_1_code
def yX5_init : MethodName := ⟨RX5, "<init>", "()V"⟩
abbrev cX5_begin : ByteArray := prog_7_method_2_code
def yX5_begin : MethodName := ⟨RX5, "begin", "(II)V"⟩
abbrev cX5_cut : ByteArray := prog_7_method_3_code
def yX5_cut : MethodName := ⟨RX5, "cut", "(J)J"⟩
abbrev cX5_hasPart : ByteArray := prog_7_method_4_code
def yX5_hasPart : MethodName := ⟨RX5, "hasPart", "(II)Z"⟩
def RX6 : String := "AirByYard"
def TX6 : u_T := fun k => match k with
  | 0 => ("AirByYard", "now", "LAirByYard$Scene;", true)
  | 1 => ("AirByYard", "image", "LAirByYard$Scene;", true)
  | 2 => ("AirByYard", "hasImage", "Z", false)
  | 3 => ("AirByYard", "reader", "LAirByYard$Reader;", true)
  | 4 => ("AirByYard", "estuaries", "[LAirByYard$Estuary;", true)
  | 5 => ("AirByYard", "estuaryCount", "I", false)
  | 6 => ("AirByYard", "tapes", "[LAirByYard$Tape;", true)
  | 7 => ("AirByYard", "trace", "[I", true)
  | 8 => ("AirByYard", "bodiesRun", "I", false)
  | 9 => ("AirByYard", "supposed", "LAirByYard$Scene;", true)
  | 10 => ("AirByYard", "ghost", "LAirByYard$Bird;", true)
  | 11 => ("AirByYard", "heldOnce", "[I", true)
  | 12 => ("AirByYard", "heldTwice", "[I", true)
  | 13 => ("AirByYard", "foes", "[I", true)
  | 14 => ("AirByYard", "rents", "[I", true)
  | 15 => ("AirByYard", "waysTo", "[J", true)
  | _ => ("AirByYard", "waysOn", "[J", true)
def tyX6 : Nat → FieldType := fun k => match k with
  | 0 => .object "AirByYard$Scene"
  | 1 => .object "AirByYard$Scene"
  | 2 => .boolean
  | 3 => .object "AirByYard$Reader"
  | 4 => .array (.object "AirByYard$Estuary")
  | 5 => .int
  | 6 => .array (.object "AirByYard$Tape")
  | 7 => .array .int
  | 8 => .int
  | 9 => .object "AirByYard$Scene"
  | 10 => .object "AirByYard$Bird"
  | 11 => .array .int
  | 12 => .array .int
  | 13 => .array .int
  | 14 => .array .int
  | 15 => .array .long
  | _ => .array .long
abbrev wsX60 : List Cond := u_ws RX6 TX6 17
theorem nmX6 : ∀ a, a < 17 → ∀ b, b < 17 → a ≠ b → (TX6 a).2.1 ≠ (TX6 b).2.1 := by decide +kernel
theorem tyX6_ok : ∀ k, k < 17 → parseFieldDescriptor (TX6 k).2.2.1 = some (tyX6 k) := by decide +kernel
abbrev cX6_init : ByteArray := prog_1_method_1_code
def yX6_init : MethodName := ⟨RX6, "<init>", "()V"⟩
abbrev cX6_bird : ByteArray := prog_1_method_2_code
def yX6_bird : MethodName := ⟨RX6, "bird", "(IIIIII)I"⟩
abbrev cX6_of : ByteArray := prog_1_method_3_code
def yX6_of : MethodName := ⟨RX6, "of", "(II)I"⟩
abbrev cX6_set : ByteArray := prog_1_method_4_code
def yX6_set : MethodName := ⟨RX6, "set", "(III)I"⟩
abbrev cX6_evict : ByteArray := prog_1_method_5_code
def yX6_evict : MethodName := ⟨RX6, "evict", "(IZ)I"⟩
abbrev cX6_row : ByteArray := prog_1_method_6_code
def yX6_row : MethodName := ⟨RX6, "row", "(III)I"⟩
abbrev cX6_feed : ByteArray := prog_1_method_7_code
def yX6_feed : MethodName := ⟨RX6, "feed", "(I)I"⟩
abbrev cX6_estuary : ByteArray := prog_1_method_8_code
def yX6_estuary : MethodName := ⟨RX6, "estuary", "()I"⟩
abbrev cX6_told : ByteArray := prog_1_method_9_code
def yX6_told : MethodName := ⟨RX6, "told", "(I)I"⟩
abbrev cX6_held : ByteArray := prog_1_method_10_code
def yX6_held : MethodName := ⟨RX6, "held", "(II)I"⟩
abbrev cX6_free : ByteArray := prog_1_method_11_code
def yX6_free : MethodName := ⟨RX6, "free", "(I)I"⟩
abbrev cX6_clash : ByteArray := prog_1_method_12_code
def yX6_clash : MethodName := ⟨RX6, "clash", "(II)I"⟩
abbrev cX6_worst : ByteArray := prog_1_method_13_code
def yX6_worst : MethodName := ⟨RX6, "worst", "()I"⟩
abbrev cX6_pass : ByteArray := prog_1_method_14_code
def yX6_pass : MethodName := ⟨RX6, "pass", "(I)I"⟩
abbrev cX6_on : ByteArray := prog_1_method_15_code
def yX6_on : MethodName := ⟨RX6, "on", "(II)I"⟩
abbrev cX6_empty : ByteArray := prog_1_method_16_code
def yX6_empty : MethodName := ⟨RX6, "empty", "(I)I"⟩
abbrev cX6_lower : ByteArray := prog_1_method_17_code
def yX6_lower : MethodName := ⟨RX6, "lower", "(II)I"⟩
abbrev cX6_sooner : ByteArray := prog_1_method_18_code
def yX6_sooner : MethodName := ⟨RX6, "sooner", "(II)I"⟩
abbrev cX6_let : ByteArray := prog_1_method_19_code
def yX6_let : MethodName := ⟨RX6, "let", "(I)I"⟩
abbrev cX6_whoEvict : ByteArray := prog_1_method_20_code
def yX6_whoEvict : MethodName := ⟨RX6, "whoEvict", "()I"⟩
abbrev cX6_ways : ByteArray := prog_1_method_21_code
def yX6_ways : MethodName := ⟨RX6, "ways", "(I)J"⟩
abbrev cX6_outs : ByteArray := prog_1_method_22_code
def yX6_outs : MethodName := ⟨RX6, "outs", "(I)I"⟩
abbrev cX6_see : ByteArray := prog_1_method_23_code
def yX6_see : MethodName := ⟨RX6, "see", "(IIZI)I"⟩
abbrev cX6_can : ByteArray := prog_1_method_24_code
def yX6_can : MethodName := ⟨RX6, "can", "(II)I"⟩
abbrev cX6_odds : ByteArray := prog_1_method_25_code
def yX6_odds : MethodName := ⟨RX6, "odds", "(II)J"⟩
abbrev cX6_mean : ByteArray := prog_1_method_26_code
def yX6_mean : MethodName := ⟨RX6, "mean", "(I)J"⟩
abbrev cX6_lease : ByteArray := prog_1_method_27_code
def yX6_lease : MethodName := ⟨RX6, "lease", "(III)I"⟩
abbrev cX6_leased : ByteArray := prog_1_method_28_code
def yX6_leased : MethodName := ⟨RX6, "leased", "(I)I"⟩
abbrev cX6_book : ByteArray := prog_1_method_29_code
def yX6_book : MethodName := ⟨RX6, "book", "(II)I"⟩
abbrev cX6_looked : ByteArray := prog_1_method_30_code
def yX6_looked : MethodName := ⟨RX6, "looked", "()I"⟩
abbrev cX6_judge : ByteArray := prog_1_method_31_code
def yX6_judge : MethodName := ⟨RX6, "judge", "(II)I"⟩
abbrev cX6_image : ByteArray := prog_1_method_32_code
def yX6_image : MethodName := ⟨RX6, "image", "()I"⟩
abbrev cX6_undo : ByteArray := prog_1_method_33_code
def yX6_undo : MethodName := ⟨RX6, "undo", "()I"⟩
abbrev cX6_act : ByteArray := prog_1_method_34_code
def yX6_act : MethodName := ⟨RX6, "act", "(III)I"⟩
abbrev cX6_trace : ByteArray := prog_1_method_35_code
def yX6_trace : MethodName := ⟨RX6, "trace", "(I)I"⟩
abbrev cX6_taken : ByteArray := prog_1_method_36_code
def yX6_taken : MethodName := ⟨RX6, "taken", "(II)I"⟩
abbrev cX6_count : ByteArray := prog_1_method_37_code
def yX6_count : MethodName := ⟨RX6, "count", "(I)I"⟩
abbrev cX6_tape : ByteArray := prog_1_method_38_code
def yX6_tape : MethodName := ⟨RX6, "tape", "(III)I"⟩
abbrev cX6_item : ByteArray := prog_1_method_39_code
def yX6_item : MethodName := ⟨RX6, "item", "(IIJ)I"⟩
abbrev cX6_read : ByteArray := prog_1_method_40_code
def yX6_read : MethodName := ⟨RX6, "read", "(II)J"⟩
abbrev cX6_shift : ByteArray := prog_1_method_41_code
def yX6_shift : MethodName := ⟨RX6, "shift", "(IIIII)I"⟩
abbrev cX6_within : ByteArray := prog_1_method_42_code
def yX6_within : MethodName := ⟨RX6, "within", "(III)Z"⟩
abbrev cX6_estuaryNow : ByteArray := prog_1_method_43_code
def yX6_estuaryNow : MethodName := ⟨RX6, "estuaryNow", "()LAirByYard$Estuary;"⟩
abbrev cX6_layAir : ByteArray := prog_1_method_44_code
def yX6_layAir : MethodName := ⟨RX6, "layAir", "(LAirByYard$Scene;II)V"⟩
abbrev cX6_layBird : ByteArray := prog_1_method_45_code
def yX6_layBird : MethodName := ⟨RX6, "layBird", "(II)V"⟩
abbrev cX6_freeAt : ByteArray := prog_1_method_46_code
def yX6_freeAt : MethodName := ⟨RX6, "freeAt", "(II)I"⟩
abbrev cX6_isFree : ByteArray := prog_1_method_47_code
def yX6_isFree : MethodName := ⟨RX6, "isFree", "(III)Z"⟩
abbrev cX6_freeStrips : ByteArray := prog_1_method_48_code
def yX6_freeStrips : MethodName := ⟨RX6, "freeStrips", "(I)I"⟩
abbrev cX6_crowded : ByteArray := prog_1_method_49_code
def yX6_crowded : MethodName := ⟨RX6, "crowded", "(LAirByYard$Scene;)I"⟩
abbrev cX6_rentOfAll : ByteArray := prog_1_method_50_code
def yX6_rentOfAll : MethodName := ⟨RX6, "rentOfAll", "(LAirByYard$Scene;)I"⟩
abbrev cX6_clashOf : ByteArray := prog_1_method_51_code
def yX6_clashOf : MethodName := ⟨RX6, "clashOf", "(LAirByYard$Bird;LAirByYard$Bird;)I"⟩
abbrev cX6_sharedStrips : ByteArray := prog_1_method_52_code
def yX6_sharedStrips : MethodName := ⟨RX6, "sharedStrips", "(LAirByYard$Bird;I)I"⟩
abbrev cX6_findFoes : ByteArray := prog_1_method_53_code
def yX6_findFoes : MethodName := ⟨RX6, "findFoes", "()V"⟩
abbrev cX6_findRents : ByteArray := prog_1_method_54_code
def yX6_findRents : MethodName := ⟨RX6, "findRents", "()V"⟩
abbrev cX6_isPeaceful : ByteArray := prog_1_method_55_code
def yX6_isPeaceful : MethodName := ⟨RX6, "isPeaceful", "(I)Z"⟩
abbrev cX6_rentOfSet : ByteArray := prog_1_method_56_code
def yX6_rentOfSet : MethodName := ⟨RX6, "rentOfSet", "(I)I"⟩
abbrev cX6_goAnHour : ByteArray := prog_1_method_57_code
def yX6_goAnHour : MethodName := ⟨RX6, "goAnHour", "(II)V"⟩
abbrev cX6_seenHeldBy : ByteArray := prog_1_method_58_code
def yX6_seenHeldBy : MethodName := ⟨RX6, "seenHeldBy", "(LAirByYard$Bird;ILAirByYard$Estuary;)I"⟩
abbrev cX6_lastSeenDays : ByteArray := prog_1_method_59_code
def yX6_lastSeenDays : MethodName := ⟨RX6, "lastSeenDays", "()I"⟩
abbrev cX6_seenAsTold : ByteArray := prog_1_method_60_code
def yX6_seenAsTold : MethodName := ⟨RX6, "seenAsTold", "()I"⟩
abbrev cX6_partOfFraction : ByteArray := prog_1_method_61_code
def yX6_partOfFraction : MethodName := ⟨RX6, "partOfFraction", "(III)J"⟩
abbrev cX6_isUnder : ByteArray := prog_1_method_62_code
def yX6_isUnder : MethodName := ⟨RX6, "isUnder", "(II)Z"⟩
abbrev cX6_run : ByteArray := prog_1_method_63_code
def yX6_run : MethodName := ⟨RX6, "run", "(LAirByYard$Bird;IIII)I"⟩
abbrev cX6_kindAbove : ByteArray := prog_1_method_64_code
def yX6_kindAbove : MethodName := ⟨RX6, "kindAbove", "(I)I"⟩
abbrev cX6_note : ByteArray := prog_1_method_65_code
def yX6_note : MethodName := ⟨RX6, "note", "(I)V"⟩
def RX7 : String := "AirByYardModel"
def TX7 : u_T := fun k => match k with
  | 0 => ("AirByYardModel", "birds", "I", false)
  | 1 => ("AirByYardModel", "days", "I", false)
  | 2 => ("AirByYardModel", "gone", "I", false)
  | 3 => ("AirByYardModel", "kind", "[I", true)
  | 4 => ("AirByYardModel", "v", "[I", true)
  | 5 => ("AirByYardModel", "low", "[I", true)
  | 6 => ("AirByYardModel", "tall", "[I", true)
  | 7 => ("AirByYardModel", "hour0", "[I", true)
  | 8 => ("AirByYardModel", "hours", "[I", true)
  | 9 => ("AirByYardModel", "purse", "[I", true)
  | 10 => ("AirByYardModel", "rows", "[I", true)
  | 11 => ("AirByYardModel", "estuaries", "I", false)
  | 12 => ("AirByYardModel", "the", "I", false)
  | 13 => ("AirByYardModel", "fed", "I", false)
  | 14 => ("AirByYardModel", "at", "I", false)
  | 15 => ("AirByYardModel", "digits", "I", false)
  | 16 => ("AirByYardModel", "text", "[I", true)
  | 17 => ("AirByYardModel", "clauses", "[I", true)
  | 18 => ("AirByYardModel", "word", "[I", true)
  | 19 => ("AirByYardModel", "number", "[I", true)
  | 20 => ("AirByYardModel", "from", "[I", true)
  | 21 => ("AirByYardModel", "to", "[I", true)
  | 22 => ("AirByYardModel", "sign", "[I", true)
  | 23 => ("AirByYardModel", "waits", "[I", true)
  | 24 => ("AirByYardModel", "signs", "I", false)
  | 25 => ("AirByYardModel", "waiting", "I", false)
  | 26 => ("AirByYardModel", "open", "I", false)
  | 27 => ("AirByYardModel", "letters", "[I", true)
  | 28 => ("AirByYardModel", "pile", "[Z", true)
  | 29 => ("AirByYardModel", "due", "[I", true)
  | 30 => ("AirByYardModel", "keptDays", "I", false)
  | 31 => ("AirByYardModel", "keptGone", "I", false)
  | 32 => ("AirByYardModel", "keptPurse", "[I", true)
  | 33 => ("AirByYardModel", "foes", "[I", true)
  | 34 => ("AirByYardModel", "way", "[J", true)
  | 35 => ("AirByYardModel", "nextWay", "[J", true)
  | 36 => ("AirByYardModel", "seen", "I", false)
  | 37 => ("AirByYardModel", "seenHeight", "[I", true)
  | 38 => ("AirByYardModel", "seenHour", "[I", true)
  | 39 => ("AirByYardModel", "seenWhen", "[I", true)
  | 40 => ("AirByYardModel", "seenHeld", "[Z", true)
  | 41 => ("AirByYardModel", "leases", "I", false)
  | 42 => ("AirByYardModel", "books", "I", false)
  | 43 => ("AirByYardModel", "leaseWho", "[I", true)
  | 44 => ("AirByYardModel", "leaseLow", "[I", true)
  | 45 => ("AirByYardModel", "leaseFrom", "[I", true)
  | 46 => ("AirByYardModel", "bookWho", "[I", true)
  | 47 => ("AirByYardModel", "bookPurse", "[I", true)
  | 48 => ("AirByYardModel", "wasLow", "[I", true)
  | 49 => ("AirByYardModel", "wasFrom", "[I", true)
  | 50 => ("AirByYardModel", "hasImage", "Z", false)
  | 51 => ("AirByYardModel", "imageThe", "I", false)
  | 52 => ("AirByYardModel", "imageBirds", "I", false)
  | 53 => ("AirByYardModel", "imageDays", "I", false)
  | 54 => ("AirByYardModel", "imageGone", "I", false)
  | 55 => ("AirByYardModel", "imageSeen", "I", false)
  | 56 => ("AirByYardModel", "imageLeases", "I", false)
  | 57 => ("AirByYardModel", "imageBooks", "I", false)
  | 58 => ("AirByYardModel", "imageKind", "[I", true)
  | 59 => ("AirByYardModel", "imageV", "[I", true)
  | 60 => ("AirByYardModel", "imageLow", "[I", true)
  | 61 => ("AirByYardModel", "imageTall", "[I", true)
  | 62 => ("AirByYardModel", "imageHour0", "[I", true)
  | 63 => ("AirByYardModel", "imageHours", "[I", true)
  | 64 => ("AirByYardModel", "imagePurse", "[I", true)
  | 65 => ("AirByYardModel", "imageRows", "[I", true)
  | 66 => ("AirByYardModel", "imageHeight", "[I", true)
  | 67 => ("AirByYardModel", "imageHour", "[I", true)
  | 68 => ("AirByYardModel", "imageWhen", "[I", true)
  | 69 => ("AirByYardModel", "imageLeaseWho", "[I", true)
  | 70 => ("AirByYardModel", "imageLeaseLow", "[I", true)
  | 71 => ("AirByYardModel", "imageLeaseFrom", "[I", true)
  | 72 => ("AirByYardModel", "imageBookWho", "[I", true)
  | 73 => ("AirByYardModel", "imageBookPurse", "[I", true)
  | 74 => ("AirByYardModel", "imageHeld", "[Z", true)
  | 75 => ("AirByYardModel", "ran", "I", false)
  | 76 => ("AirByYardModel", "bodies", "[I", true)
  | 77 => ("AirByYardModel", "sort", "[I", true)
  | 78 => ("AirByYardModel", "length", "[I", true)
  | 79 => ("AirByYardModel", "item", "[J", true)
  | _ => ("AirByYardModel", "aside", "[J", true)
def tyX7 : Nat → FieldType := fun k => match k with
  | 0 => .int
  | 1 => .int
  | 2 => .int
  | 3 => .array .int
  | 4 => .array .int
  | 5 => .array .int
  | 6 => .array .int
  | 7 => .array .int
  | 8 => .array .int
  | 9 => .array .int
  | 10 => .array .int
  | 11 => .int
  | 12 => .int
  | 13 => .int
  | 14 => .int
  | 15 => .int
  | 16 => .array .int
  | 17 => .array .int
  | 18 => .array .int
  | 19 => .array .int
  | 20 => .array .int
  | 21 => .array .int
  | 22 => .array .int
  | 23 => .array .int
  | 24 => .int
  | 25 => .int
  | 26 => .int
  | 27 => .array .int
  | 28 => .array .boolean
  | 29 => .array .int
  | 30 => .int
  | 31 => .int
  | 32 => .array .int
  | 33 => .array .int
  | 34 => .array .long
  | 35 => .array .long
  | 36 => .int
  | 37 => .array .int
  | 38 => .array .int
  | 39 => .array .int
  | 40 => .array .boolean
  | 41 => .int
  | 42 => .int
  | 43 => .array .int
  | 44 => .array .int
  | 45 => .array .int
  | 46 => .array .int
  | 47 => .array .int
  | 48 => .array .int
  | 49 => .array .int
  | 50 => .boolean
  | 51 => .int
  | 52 => .int
  | 53 => .int
  | 54 => .int
  | 55 => .int
  | 56 => .int
  | 57 => .int
  | 58 => .array .int
  | 59 => .array .int
  | 60 => .array .int
  | 61 => .array .int
  | 62 => .array .int
  | 63 => .array .int
  | 64 => .array .int
  | 65 => .array .int
  | 66 => .array .int
  | 67 => .array .int
  | 68 => .array .int
  | 69 => .array .int
  | 70 => .array .int
  | 71 => .array .int
  | 72 => .array .int
  | 73 => .array .int
  | 74 => .array .boolean
  | 75 => .int
  | 76 => .array .int
  | 77 => .array .int
  | 78 => .array .int
  | 79 => .array .long
  | _ => .array .long
abbrev wsX70 : List Cond := u_ws RX7 TX7 81
theorem nmX7 : ∀ a, a < 81 → ∀ b, b < 81 → a ≠ b → (TX7 a).2.1 ≠ (TX7 b).2.1 := by decide +kernel
theorem tyX7_ok : ∀ k, k < 81 → parseFieldDescriptor (TX7 k).2.2.1 = some (tyX7 k) := by decide +kernel
abbrev cX7_init : ByteArray := prog_9_method_1_code
def yX7_init : MethodName := ⟨RX7, "<init>", "()V"⟩
abbrev cX7_in : ByteArray := prog_9_method_2_code
def yX7_in : MethodName := ⟨RX7, "in", "(III)Z"⟩
abbrev cX7_has : ByteArray := prog_9_method_3_code
def yX7_has : MethodName := ⟨RX7, "has", "(II)Z"⟩
abbrev cX7_ones : ByteArray := prog_9_method_4_code
def yX7_ones : MethodName := ⟨RX7, "ones", "(I)I"⟩
abbrev cX7_isBird : ByteArray := prog_9_method_5_code
def yX7_isBird : MethodName := ⟨RX7, "isBird", "(I)Z"⟩
abbrev cX7_isLow : ByteArray := prog_9_method_6_code
def yX7_isLow : MethodName := ⟨RX7, "isLow", "(I)Z"⟩
abbrev cX7_isHour : ByteArray := prog_9_method_7_code
def yX7_isHour : MethodName := ⟨RX7, "isHour", "(I)Z"⟩
abbrev cX7_isPurse : ByteArray := prog_9_method_8_code
def yX7_isPurse : MethodName := ⟨RX7, "isPurse", "(I)Z"⟩
abbrev cX7_isDays : ByteArray := prog_9_method_9_code
def yX7_isDays : MethodName := ⟨RX7, "isDays", "(I)Z"⟩
abbrev cX7_bird : ByteArray := prog_9_method_10_code
def yX7_bird : MethodName := ⟨RX7, "bird", "(IIIIII)I"⟩
abbrev cX7_isGood : ByteArray := prog_9_method_11_code
def yX7_isGood : MethodName := ⟨RX7, "isGood", "(II)Z"⟩
abbrev cX7_partOf : ByteArray := prog_9_method_12_code
def yX7_partOf : MethodName := ⟨RX7, "partOf", "(II)I"⟩
abbrev cX7_set : ByteArray := prog_9_method_13_code
def yX7_set : MethodName := ⟨RX7, "set", "(III)I"⟩
abbrev cX7_evict : ByteArray := prog_9_method_14_code
def yX7_evict : MethodName := ⟨RX7, "evict", "(IZ)I"⟩
abbrev cX7_row : ByteArray := prog_9_method_15_code
def yX7_row : MethodName := ⟨RX7, "row", "(III)I"⟩
abbrev cX7_feed : ByteArray := prog_9_method_16_code
def yX7_feed : MethodName := ⟨RX7, "feed", "(I)I"⟩
abbrev cX7_next : ByteArray := prog_9_method_17_code
def yX7_next : MethodName := ⟨RX7, "next", "()I"⟩
abbrev cX7_takes : ByteArray := prog_9_method_18_code
def yX7_takes : MethodName := ⟨RX7, "takes", "(I)Z"⟩
abbrev cX7_takesWord : ByteArray := prog_9_method_19_code
def yX7_takesWord : MethodName := ⟨RX7, "takesWord", "(II)Z"⟩
abbrev cX7_isDigit : ByteArray := prog_9_method_20_code
def yX7_isDigit : MethodName := ⟨RX7, "isDigit", "()Z"⟩
abbrev cX7_takesNumber : ByteArray := prog_9_method_21_code
def yX7_takesNumber : MethodName := ⟨RX7, "takesNumber", "()Z"⟩
abbrev cX7_emits : ByteArray := prog_9_method_22_code
def yX7_emits : MethodName := ⟨RX7, "emits", "(I)V"⟩
abbrev cX7_whole : ByteArray := prog_9_method_23_code
def yX7_whole : MethodName := ⟨RX7, "whole", "()V"⟩
abbrev cX7_settle : ByteArray := prog_9_method_24_code
def yX7_settle : MethodName := ⟨RX7, "settle", "(I)V"⟩
abbrev cX7_place : ByteArray := prog_9_method_25_code
def yX7_place : MethodName := ⟨RX7, "place", "(I)I"⟩
abbrev cX7_takesTest : ByteArray := prog_9_method_26_code
def yX7_takesTest : MethodName := ⟨RX7, "takesTest", "()Z"⟩
abbrev cX7_takesE : ByteArray := prog_9_method_27_code
def yX7_takesE : MethodName := ⟨RX7, "takesE", "(I)Z"⟩
abbrev cX7_takesHead : ByteArray := prog_9_method_28_code
def yX7_takesHead : MethodName := ⟨RX7, "takesHead", "(I)Z"⟩
abbrev cX7_takesClause : ByteArray := prog_9_method_29_code
def yX7_takesClause : MethodName := ⟨RX7, "takesClause", "(I)Z"⟩
abbrev cX7_goesText : ByteArray := prog_9_method_30_code
def yX7_goesText : MethodName := ⟨RX7, "goesText", "(I)Z"⟩
abbrev cX7_estuary : ByteArray := prog_9_method_31_code
def yX7_estuary : MethodName := ⟨RX7, "estuary", "()I"⟩
abbrev cX7_begin : ByteArray := prog_9_method_32_code
def yX7_begin : MethodName := ⟨RX7, "begin", "()I"⟩
abbrev cX7_behind : ByteArray := prog_9_method_33_code
def yX7_behind : MethodName := ⟨RX7, "behind", "()I"⟩
abbrev cX7_lastOf : ByteArray := prog_9_method_34_code
def yX7_lastOf : MethodName := ⟨RX7, "lastOf", "(II)I"⟩
abbrev cX7_top : ByteArray := prog_9_method_35_code
def yX7_top : MethodName := ⟨RX7, "top", "()I"⟩
abbrev cX7_factOf : ByteArray := prog_9_method_36_code
def yX7_factOf : MethodName := ⟨RX7, "factOf", "(II)I"⟩
abbrev cX7_holds : ByteArray := prog_9_method_37_code
def yX7_holds : MethodName := ⟨RX7, "holds", "(II)Z"⟩
abbrev cX7_price : ByteArray := prog_9_method_38_code
def yX7_price : MethodName := ⟨RX7, "price", "(I)I"⟩
abbrev cX7_bottom : ByteArray := prog_9_method_39_code
def yX7_bottom : MethodName := ⟨RX7, "bottom", "(I)I"⟩
abbrev cX7_begins : ByteArray := prog_9_method_40_code
def yX7_begins : MethodName := ⟨RX7, "begins", "(I)I"⟩
abbrev cX7_heights : ByteArray := prog_9_method_41_code
def yX7_heights : MethodName := ⟨RX7, "heights", "(I)I"⟩
abbrev cX7_holdsStrip : ByteArray := prog_9_method_42_code
def yX7_holdsStrip : MethodName := ⟨RX7, "holdsStrip", "(III)Z"⟩
abbrev cX7_strips : ByteArray := prog_9_method_43_code
def yX7_strips : MethodName := ⟨RX7, "strips", "(I)I"⟩
abbrev cX7_rent : ByteArray := prog_9_method_44_code
def yX7_rent : MethodName := ⟨RX7, "rent", "(I)I"⟩
abbrev cX7_of : ByteArray := prog_9_method_45_code
def yX7_of : MethodName := ⟨RX7, "of", "(II)I"⟩
abbrev cX7_heldBy : ByteArray := prog_9_method_46_code
def yX7_heldBy : MethodName := ⟨RX7, "heldBy", "(II)I"⟩
abbrev cX7_freeAt : ByteArray := prog_9_method_47_code
def yX7_freeAt : MethodName := ⟨RX7, "freeAt", "(I)I"⟩
abbrev cX7_allFree : ByteArray := prog_9_method_48_code
def yX7_allFree : MethodName := ⟨RX7, "allFree", "()I"⟩
abbrev cX7_crowded : ByteArray := prog_9_method_49_code
def yX7_crowded : MethodName := ⟨RX7, "crowded", "()I"⟩
abbrev cX7_allRent : ByteArray := prog_9_method_50_code
def yX7_allRent : MethodName := ⟨RX7, "allRent", "()I"⟩
abbrev cX7_told : ByteArray := prog_9_method_51_code
def yX7_told : MethodName := ⟨RX7, "told", "(I)I"⟩
abbrev cX7_isHeight : ByteArray := prog_9_method_52_code
def yX7_isHeight : MethodName := ⟨RX7, "isHeight", "(I)Z"⟩
abbrev cX7_held : ByteArray := prog_9_method_53_code
def yX7_held : MethodName := ⟨RX7, "held", "(II)I"⟩
abbrev cX7_free : ByteArray := prog_9_method_54_code
def yX7_free : MethodName := ⟨RX7, "free", "(I)I"⟩
abbrev cX7_clashOf : ByteArray := prog_9_method_55_code
def yX7_clashOf : MethodName := ⟨RX7, "clashOf", "(II)I"⟩
abbrev cX7_clash : ByteArray := prog_9_method_56_code
def yX7_clash : MethodName := ⟨RX7, "clash", "(II)I"⟩
abbrev cX7_worst : ByteArray := prog_9_method_57_code
def yX7_worst : MethodName := ⟨RX7, "worst", "()I"⟩
abbrev cX7_goDay : ByteArray := prog_9_method_58_code
def yX7_goDay : MethodName := ⟨RX7, "goDay", "()V"⟩
abbrev cX7_goDays : ByteArray := prog_9_method_59_code
def yX7_goDays : MethodName := ⟨RX7, "goDays", "(I)V"⟩
abbrev cX7_pass : ByteArray := prog_9_method_60_code
def yX7_pass : MethodName := ⟨RX7, "pass", "(I)I"⟩
abbrev cX7_save : ByteArray := prog_9_method_61_code
def yX7_save : MethodName := ⟨RX7, "save", "()V"⟩
abbrev cX7_putBack : ByteArray := prog_9_method_62_code
def yX7_putBack : MethodName := ⟨RX7, "putBack", "()V"⟩
abbrev cX7_on : ByteArray := prog_9_method_63_code
def yX7_on : MethodName := ⟨RX7, "on", "(II)I"⟩
abbrev cX7_empty : ByteArray := prog_9_method_64_code
def yX7_empty : MethodName := ⟨RX7, "empty", "(I)I"⟩
abbrev cX7_shared : ByteArray := prog_9_method_65_code
def yX7_shared : MethodName := ⟨RX7, "shared", "(I)I"⟩
abbrev cX7_lower : ByteArray := prog_9_method_66_code
def yX7_lower : MethodName := ⟨RX7, "lower", "(II)I"⟩
abbrev cX7_sooner : ByteArray := prog_9_method_67_code
def yX7_sooner : MethodName := ⟨RX7, "sooner", "(II)I"⟩
abbrev cX7_layFoes : ByteArray := prog_9_method_68_code
def yX7_layFoes : MethodName := ⟨RX7, "layFoes", "()V"⟩
abbrev cX7_isPeaceful : ByteArray := prog_9_method_69_code
def yX7_isPeaceful : MethodName := ⟨RX7, "isPeaceful", "(I)Z"⟩
abbrev cX7_let : ByteArray := prog_9_method_70_code
def yX7_let : MethodName := ⟨RX7, "let", "(I)I"⟩
abbrev cX7_whoEvict : ByteArray := prog_9_method_71_code
def yX7_whoEvict : MethodName := ⟨RX7, "whoEvict", "()I"⟩
abbrev cX7_layWays : ByteArray := prog_9_method_72_code
def yX7_layWays : MethodName := ⟨RX7, "layWays", "(I)V"⟩
abbrev cX7_ways : ByteArray := prog_9_method_73_code
def yX7_ways : MethodName := ⟨RX7, "ways", "(I)J"⟩
abbrev cX7_outs : ByteArray := prog_9_method_74_code
def yX7_outs : MethodName := ⟨RX7, "outs", "(I)I"⟩
abbrev cX7_see : ByteArray := prog_9_method_75_code
def yX7_see : MethodName := ⟨RX7, "see", "(IIZI)I"⟩
abbrev cX7_isSeen : ByteArray := prog_9_method_76_code
def yX7_isSeen : MethodName := ⟨RX7, "isSeen", "()Z"⟩
abbrev cX7_can : ByteArray := prog_9_method_77_code
def yX7_can : MethodName := ⟨RX7, "can", "(II)I"⟩
abbrev cX7_divisor : ByteArray := prog_9_method_78_code
def yX7_divisor : MethodName := ⟨RX7, "divisor", "(II)I"⟩
abbrev cX7_lowest : ByteArray := prog_9_method_79_code
def yX7_lowest : MethodName := ⟨RX7, "lowest", "(III)J"⟩
abbrev cX7_odds : ByteArray := prog_9_method_80_code
def yX7_odds : MethodName := ⟨RX7, "odds", "(II)J"⟩
abbrev cX7_mean : ByteArray := prog_9_method_81_code
def yX7_mean : MethodName := ⟨RX7, "mean", "(I)J"⟩
abbrev cX7_lease : ByteArray := prog_9_method_82_code
def yX7_lease : MethodName := ⟨RX7, "lease", "(III)I"⟩
abbrev cX7_leased : ByteArray := prog_9_method_83_code
def yX7_leased : MethodName := ⟨RX7, "leased", "(I)I"⟩
abbrev cX7_book : ByteArray := prog_9_method_84_code
def yX7_book : MethodName := ⟨RX7, "book", "(II)I"⟩
abbrev cX7_looked : ByteArray := prog_9_method_85_code
def yX7_looked : MethodName := ⟨RX7, "looked", "()I"⟩
abbrev cX7_judge : ByteArray := prog_9_method_86_code
def yX7_judge : MethodName := ⟨RX7, "judge", "(II)I"⟩
abbrev cX7_image : ByteArray := prog_9_method_87_code
def yX7_image : MethodName := ⟨RX7, "image", "()I"⟩
abbrev cX7_undo : ByteArray := prog_9_method_88_code
def yX7_undo : MethodName := ⟨RX7, "undo", "()I"⟩
abbrev cX7_body : ByteArray := prog_9_method_89_code
def yX7_body : MethodName := ⟨RX7, "body", "(I)V"⟩
abbrev cX7_birdFlies : ByteArray := prog_9_method_90_code
def yX7_birdFlies : MethodName := ⟨RX7, "birdFlies", "(II)I"⟩
abbrev cX7_fliesAct : ByteArray := prog_9_method_91_code
def yX7_fliesAct : MethodName := ⟨RX7, "fliesAct", "(II)I"⟩
abbrev cX7_birdSings : ByteArray := prog_9_method_92_code
def yX7_birdSings : MethodName := ⟨RX7, "birdSings", "(II)I"⟩
abbrev cX7_singerSings : ByteArray := prog_9_method_93_code
def yX7_singerSings : MethodName := ⟨RX7, "singerSings", "(II)I"⟩
abbrev cX7_singsAct : ByteArray := prog_9_method_94_code
def yX7_singsAct : MethodName := ⟨RX7, "singsAct", "(II)I"⟩
abbrev cX7_birdTells : ByteArray := prog_9_method_95_code
def yX7_birdTells : MethodName := ⟨RX7, "birdTells", "(II)I"⟩
abbrev cX7_tellsAct : ByteArray := prog_9_method_96_code
def yX7_tellsAct : MethodName := ⟨RX7, "tellsAct", "(II)I"⟩
abbrev cX7_act : ByteArray := prog_9_method_97_code
def yX7_act : MethodName := ⟨RX7, "act", "(III)I"⟩
abbrev cX7_trace : ByteArray := prog_9_method_98_code
def yX7_trace : MethodName := ⟨RX7, "trace", "(I)I"⟩
abbrev cX7_taken : ByteArray := prog_9_method_99_code
def yX7_taken : MethodName := ⟨RX7, "taken", "(II)I"⟩
abbrev cX7_count : ByteArray := prog_9_method_100_code
def yX7_count : MethodName := ⟨RX7, "count", "(I)I"⟩
abbrev cX7_isTape : ByteArray := prog_9_method_101_code
def yX7_isTape : MethodName := ⟨RX7, "isTape", "(I)Z"⟩
abbrev cX7_tape : ByteArray := prog_9_method_102_code
def yX7_tape : MethodName := ⟨RX7, "tape", "(III)I"⟩
abbrev cX7_narrow : ByteArray := prog_9_method_103_code
def yX7_narrow : MethodName := ⟨RX7, "narrow", "(IJ)J"⟩
abbrev cX7_item : ByteArray := prog_9_method_104_code
def yX7_item : MethodName := ⟨RX7, "item", "(IIJ)I"⟩
abbrev cX7_read : ByteArray := prog_9_method_105_code
def yX7_read : MethodName := ⟨RX7, "read", "(II)J"⟩
abbrev cX7_shift : ByteArray := prog_9_method_106_code
def yX7_shift : MethodName := ⟨RX7, "shift", "(IIIII)I"⟩
def RJ6 : String := "java/lang/Integer"
abbrev cJ6_bitCount_0f7a4 : ByteArray := prog_10_method_49_code
def yJ6_bitCount_0f7a4 : MethodName := ⟨RJ6, "bitCount", "(I)I"⟩
def RJ9 : String := "java/lang/Math"
abbrev cJ9_floorMod_7cf53 : ByteArray := prog_11_method_50_code
def yJ9_floorMod_7cf53 : MethodName := ⟨RJ9, "floorMod", "(II)I"⟩
abbrev cJ9_max_7cf53 : ByteArray := prog_11_method_65_code
def yJ9_max_7cf53 : MethodName := ⟨RJ9, "max", "(II)I"⟩
abbrev cJ9_min_7cf53 : ByteArray := prog_11_method_69_code
def yJ9_min_7cf53 : MethodName := ⟨RJ9, "min", "(II)I"⟩
def RJ0 : String := "java/lang/String"
abbrev cJ0_length_8abf5 : ByteArray := prog_12_method_54_code
def yJ0_length_8abf5 : MethodName := ⟨RJ0, "length", "()I"⟩
abbrev cJ0_charAt_5068e : ByteArray := prog_12_method_56_code
def yJ0_charAt_5068e : MethodName := ⟨RJ0, "charAt", "(I)C"⟩
abbrev cJ0_coder_7d493 : ByteArray := prog_12_method_152_code
def yJ0_coder_7d493 : MethodName := ⟨RJ0, "coder", "()B"⟩
abbrev cJ0_isLatin1_aae02 : ByteArray := prog_12_method_154_code
def yJ0_isLatin1_aae02 : MethodName := ⟨RJ0, "isLatin1", "()Z"⟩
abbrev cJ0_checkIndex_df160 : ByteArray := prog_12_method_155_code
def yJ0_checkIndex_df160 : MethodName := ⟨RJ0, "checkIndex", "(II)V"⟩
def RJ1 : String := "java/lang/StringLatin1"
abbrev cJ1_charAt_3b067 : ByteArray := prog_13_method_2_code
def yJ1_charAt_3b067 : MethodName := ⟨RJ1, "charAt", "([BI)C"⟩
def RJ2 : String := "java/lang/StringUTF16"
abbrev cJ2_getChar_3b067 : ByteArray := prog_14_method_5_code
def yJ2_getChar_3b067 : MethodName := ⟨RJ2, "getChar", "([BI)C"⟩
abbrev cJ2_length_9d52b : ByteArray := prog_14_method_6_code
def yJ2_length_9d52b : MethodName := ⟨RJ2, "length", "([B)I"⟩
abbrev cJ2_charAt_3b067 : ByteArray := prog_14_method_83_code
def yJ2_charAt_3b067 : MethodName := ⟨RJ2, "charAt", "([BI)C"⟩
abbrev cJ2_checkIndex_2214a : ByteArray := prog_14_method_91_code
def yJ2_checkIndex_2214a : MethodName := ⟨RJ2, "checkIndex", "(I[B)V"⟩
def RJ10 : String := "java/lang/System"
def RJ3 : String := "jdk/internal/util/Preconditions"
abbrev cJ3_checkIndex_8e157 : ByteArray := prog_16_method_11_code
def yJ3_checkIndex_8e157 : MethodName := ⟨RJ3, "checkIndex", "(IILjava/util/function/BiFunction;)I"⟩
def RL : String := "AirByYardLaw"
abbrev cL_law : ByteArray := code
def yL_law : MethodName := ⟨RL, "law", "([I)Z"⟩
abbrev vwCl : List vw_C := [(RX0, TX0, 10), (RX1, TX1, 4), (RX2, TX2, 3), (RX3, TX3, 5), (RX4, TX4, 7), (RX5, TX5, 3), (RX6, TX6, 17), (RX7, TX7, 81)]
end
section
/-! a small machine over places: an object or row has a number, its fields and items are numbers by (place, k) -/
abbrev am_M : Type := (Nat → Nat → Int32) × (Nat → Nat → Int64) × (Nat → Nat → Option Nat) × (Nat → Nat × Nat) × Nat × Nat
/-- pc, instruction, what the program that wrote the table found out of it -/
abbrev am_A : Type := Nat × Instr × List Nat
/-- a method: name, bytes, number of its variables, what it answers, its class's name, its table -/
abbrev am_I : Type := MethodName × ByteArray × Nat × Option FieldType × String × List am_A
def am_R0 : Nat := 9
def am_junk : Value := .retAddr 0
def am_isJ : Value → Bool
  | .retAddr _ => true
  | _ => false
def am_fty : Nat → Nat → FieldType
  | 0 => tyX0 | 1 => tyX1 | 2 => tyX2 | 3 => tyX3 | 4 => tyX4 | 5 => tyX5 | 6 => tyX6 | _ => tyX7
def am_fnum : Nat → Nat
  | 0 => 10 | 1 => 4 | 2 => 3 | 3 => 5 | 4 => 7 | 5 => 3 | 6 => 17 | _ => 81
def am_fT : Nat → u_T
  | 0 => TX0 | 1 => TX1 | 2 => TX2 | 3 => TX3 | 4 => TX4 | 5 => TX5 | 6 => TX6 | _ => TX7
def am_cn : Nat → String
  | 0 => RX0 | 1 => RX1 | 2 => RX2 | 3 => RX3 | 4 => RX4 | 5 => RX5 | 6 => RX6 | _ => RX7
def am_tys : Nat → FieldType
  | 0 => .int | 1 => .long | 2 => .byte | 3 => .boolean | 4 => .object RX1 | 5 => .object RX5 | _ => .object RX0
def am_rd (ad : Nat → Nat) (M : am_M) (p k : Nat) : FieldType → Value
  | .long => .long (M.2.1 p k)
  | .object _ => va_rf ((M.2.2.1 p k).map ad)
  | .array _ => va_rf ((M.2.2.1 p k).map ad)
  | _ => .int (M.1 p k)
def am_up {α : Type} (f : Nat → Nat → α) (p k : Nat) (x : α) : Nat → Nat → α := fun q j => if q = p ∧ j = k then x else f q j
def am_wr (M : am_M) (p k : Nat) : Value → am_M
  | .int x => (am_up M.1 p k x, M.2)
  | .long x => (M.1, am_up M.2.1 p k x, M.2.2)
  | .ref q => (M.1, M.2.1, am_up M.2.2.1 p k (some q), M.2.2.2)
  | _ => (M.1, M.2.1, am_up M.2.2.1 p k none, M.2.2.2)
def am_okv : FieldType → Value → Bool
  | .int, .int _ => true
  | .long, .long _ => true
  | .boolean, .int x => x == 0 || x == 1
  | .object _, .ref _ => true
  | .array _, .ref _ => true
  | _, _ => false
def am_nar : Nat → Int32 → Int32
  | 102, x => vp_nar .byte x
  | 103, x => vp_nar .boolean x
  | _, x => x
def am_inv (ls : List Value) : Nat → List Value
  | 0 => ls
  | i + 1 => match ls[i]? with
    | some v => if v.category = 2 then ls.set i am_junk else ls
    | none => ls
def am_set1 (ls : List Value) (i : Nat) (v : Value) : Option (List Value) := if i < ls.length then some ((am_inv ls i).set i v) else none
def am_set2 (ls : List Value) (i : Nat) (v : Value) : Option (List Value) := if i + 1 < ls.length then some (((am_inv ls i).set i v).set (i + 1) am_junk) else none
def am_sh (M : am_M) (p : Nat) : Nat × Nat := M.2.2.2.1 p
def am_nx (M : am_M) : Nat := M.2.2.2.2.1
def am_us (M : am_M) : Nat := M.2.2.2.2.2
def am_new (M : am_M) (tag n : Nat) (cost : Nat) : am_M := (M.1, M.2.1, M.2.2.1, (fun p => if p = M.2.2.2.2.1 then (tag, n) else M.2.2.2.1 p), M.2.2.2.2.1 + 1, M.2.2.2.2.2 + cost)
def am_look : List (Int × Int) → List Nat → Nat → Int → Nat
  | (a, _) :: ps, t :: ts, d, x => if x = a then t else am_look ps ts d x
  | _, _, d, _ => d
def am_bad (M : am_M) (p : Nat) (i : Int32) : Bool := decide (i < 0) || decide ((am_sh M p).2 ≤ i.toNatClampNeg)
def am_ld (M : am_M) (tag : Nat) (p : Nat) (i : Int32) (v : Value) (ls st : List Value) (pc : Nat) : Option (Nat × List Value × List Value × am_M) :=
  if (am_sh M p).1 = tag then (if am_bad M p i then none else some (pc + 1, ls, v :: st, M)) else none
def am_sv (M : am_M) (tag : Nat) (p : Nat) (i : Int32) (v : Value) (ls st : List Value) (pc : Nat) : Option (Nat × List Value × List Value × am_M) :=
  if (am_sh M p).1 = tag ∧ am_R0 ≤ p then (if am_bad M p i then none else some (pc + 1, ls, st, am_wr M p i.toNatClampNeg v)) else none
abbrev am_R : Type := Option (Nat × List Value × List Value × am_M)
def am_cond : Jvm.ClassFile.Cond → Int32 → Int32 → Bool
  | .eq, x, y => decide (x = y)
  | .ne, x, y => !decide (x = y)
  | .lt, x, y => decide (x < y)
  | .ge, x, y => decide (y ≤ x)
  | .gt, x, y => decide (y < x)
  | .le, x, y => decide (x ≤ y)
def am_ldL (ls st : List Value) (i pc : Nat) (M : am_M) (k : Nat) : am_R :=
  match ls[i]?, k with
  | some (.int x), 0 => some (pc + 1, ls, .int x :: st, M)
  | some (.long x), 1 => some (pc + 1, ls, .long x :: st, M)
  | some (.ref x), 2 => some (pc + 1, ls, .ref x :: st, M)
  | some .null, 2 => some (pc + 1, ls, .null :: st, M)
  | _, _ => none
def am_stL (ls st : List Value) (i pc : Nat) (M : am_M) (k : Nat) : am_R :=
  match st, k with
  | .int x :: st, 0 => (am_set1 ls i (.int x)).map fun ls' => (pc + 1, ls', st, M)
  | .long x :: st, 1 => (am_set2 ls i (.long x)).map fun ls' => (pc + 1, ls', st, M)
  | .ref x :: st, 2 => (am_set1 ls i (.ref x)).map fun ls' => (pc + 1, ls', st, M)
  | .null :: st, 2 => (am_set1 ls i .null).map fun ls' => (pc + 1, ls', st, M)
  | _, _ => none
def am_step (ins : Instr) (aux : List Nat) (i : Nat) (ls st : List Value) (M : am_M) : am_R :=
  match ins, aux, st with
  | .iconst n, _, st => some (i + 1, ls, .int (Int32.ofInt n) :: st, M)
  | .bipush n, _, st => some (i + 1, ls, .int (Int8.ofInt n).toInt32 :: st, M)
  | .sipush n, _, st => some (i + 1, ls, .int (Int16.ofInt n).toInt32 :: st, M)
  | .lconst n, _, st => some (i + 1, ls, .long (Int64.ofNat (n : Nat)) :: st, M)
  | .aconst_null, _, st => some (i + 1, ls, .null :: st, M)
  | .ldc _, [0, c, _], st => some (i + 1, ls, .int (Int32.ofNat c) :: st, M)
  | .ldc _, [1, p], st => some (i + 1, ls, .ref p :: st, M)
  | .ldc_w _, [c, _], st => some (i + 1, ls, .int (Int32.ofNat c) :: st, M)
  | .ldc2_w _, [c, _], st => some (i + 1, ls, .long (Int64.ofNat c) :: st, M)
  | .iload_n k, _, st => am_ldL ls st k i M 0
  | .iload k, _, st => am_ldL ls st k i M 0
  | .lload_n k, _, st => am_ldL ls st k i M 1
  | .lload k, _, st => am_ldL ls st k i M 1
  | .aload_n k, _, st => am_ldL ls st k i M 2
  | .aload k, _, st => am_ldL ls st k i M 2
  | .istore_n k, _, st => am_stL ls st k i M 0
  | .istore k, _, st => am_stL ls st k i M 0
  | .lstore_n k, _, st => am_stL ls st k i M 1
  | .lstore k, _, st => am_stL ls st k i M 1
  | .astore_n k, _, st => am_stL ls st k i M 2
  | .astore k, _, st => am_stL ls st k i M 2
  | .iinc k n, _, st => match ls[k]? with
    | some (.int x) => (am_set1 ls k (.int (x + Int32.ofInt n))).map fun ls' => (i + 1, ls', st, M)
    | _ => none
  | .iadd, _, .int y :: .int x :: st => some (i + 1, ls, .int (x + y) :: st, M)
  | .isub, _, .int y :: .int x :: st => some (i + 1, ls, .int (x - y) :: st, M)
  | .imul, _, .int y :: .int x :: st => some (i + 1, ls, .int (x * y) :: st, M)
  | .iand, _, .int y :: .int x :: st => some (i + 1, ls, .int (x &&& y) :: st, M)
  | .ior, _, .int y :: .int x :: st => some (i + 1, ls, .int (x ||| y) :: st, M)
  | .ixor, _, .int y :: .int x :: st => some (i + 1, ls, .int (x ^^^ y) :: st, M)
  | .idiv, _, .int y :: .int x :: st => if y = 0 then none else some (i + 1, ls, .int (x / y) :: st, M)
  | .irem, _, .int y :: .int x :: st => if y = 0 then none else some (i + 1, ls, .int (x - x / y * y) :: st, M)
  | .ineg, _, .int x :: st => some (i + 1, ls, .int (-x) :: st, M)
  | .ishl, _, .int y :: .int x :: st => some (i + 1, ls, .int (x <<< (y &&& 31)) :: st, M)
  | .ishr, _, .int y :: .int x :: st => some (i + 1, ls, .int (x >>> (y &&& 31)) :: st, M)
  | .iushr, _, .int y :: .int x :: st => some (i + 1, ls, .int (x.toUInt32 >>> (y.toUInt32 &&& Int32.toUInt32 31)).toInt32 :: st, M)
  | .ladd, _, .long y :: .long x :: st => some (i + 1, ls, .long (x + y) :: st, M)
  | .lsub, _, .long y :: .long x :: st => some (i + 1, ls, .long (x - y) :: st, M)
  | .land, _, .long y :: .long x :: st => some (i + 1, ls, .long (x &&& y) :: st, M)
  | .lor, _, .long y :: .long x :: st => some (i + 1, ls, .long (x ||| y) :: st, M)
  | .lxor, _, .long y :: .long x :: st => some (i + 1, ls, .long (x ^^^ y) :: st, M)
  | .lshl, _, .int y :: .long x :: st => some (i + 1, ls, .long (x <<< (y.toInt64 &&& 63)) :: st, M)
  | .lshr, _, .int y :: .long x :: st => some (i + 1, ls, .long (x >>> (y.toInt64 &&& 63)) :: st, M)
  | .lcmp, _, .long y :: .long x :: st => some (i + 1, ls, .int (lg_cmp x y) :: st, M)
  | .i2l, _, .int x :: st => some (i + 1, ls, .long x.toInt64 :: st, M)
  | .l2i, _, .long x :: st => some (i + 1, ls, .int x.toInt32 :: st, M)
  | .i2b, _, .int x :: st => some (i + 1, ls, .int x.toInt8.toInt32 :: st, M)
  | .i2s, _, .int x :: st => some (i + 1, ls, .int x.toInt16.toInt32 :: st, M)
  | .dup, _, v :: st => if v.category = 1 then some (i + 1, ls, v :: v :: st, M) else none
  | .pop, _, v :: st => if v.category = 1 then some (i + 1, ls, st, M) else none
  | .dup2, _, v :: w :: st => if v.category = 1 ∧ w.category = 1 then some (i + 1, ls, v :: w :: v :: w :: st, M) else none
  | .goto _, [t], st => some (t, ls, st, M)
  | .ifCond c _, [t], .int x :: st => some (if am_cond c x 0 then t else i + 1, ls, st, M)
  | .if_icmp c _, [t], .int y :: .int x :: st => some (if am_cond c x y then t else i + 1, ls, st, M)
  | .ifnull _, [_], .ref _ :: st => some (i + 1, ls, st, M)
  | .ifnull _, [t], .null :: st => some (t, ls, st, M)
  | .ifnonnull _, [t], .ref _ :: st => some (t, ls, st, M)
  | .ifnonnull _, [_], .null :: st => some (i + 1, ls, st, M)
  | .tableswitch _ lo hi _, _ :: t :: ts, .int x :: st => some (if x.toInt < lo ∨ hi < x.toInt then t else ts.getD (x.toInt - lo).toNat 0, ls, st, M)
  | .lookupswitch _ ps, _ :: t :: ts, .int x :: st => some (am_look ps.toList ts t x.toInt, ls, st, M)
  | .getfield _, [ci, k, _], .ref p :: st => if (am_sh M p).1 = ci then some (i + 1, ls, am_rd (fun q => q) M p k (am_fty ci k) :: st, M) else none
  | .putfield _, [ci, k, _], v :: .ref p :: st => if (am_sh M p).1 = ci ∧ am_okv (am_fty ci k) v = true then some (i + 1, ls, st, am_wr M p k v) else none
  | .getstatic _, [p, _], st => some (i + 1, ls, .ref p :: st, M)
  | .iaload, _, .int j :: .ref p :: st => am_ld M 100 p j (.int (M.1 p j.toNatClampNeg)) ls st i
  | .laload, _, .int j :: .ref p :: st => am_ld M 101 p j (.long (M.2.1 p j.toNatClampNeg)) ls st i
  | .baload, [t], .int j :: .ref p :: st => am_ld M t p j (.int (M.1 p j.toNatClampNeg)) ls st i
  | .aaload, [t], .int j :: .ref p :: st => am_ld M t p j (va_rf (M.2.2.1 p j.toNatClampNeg)) ls st i
  | .iastore, _, .int x :: .int j :: .ref p :: st => am_sv M 100 p j (.int x) ls st i
  | .lastore, _, .long x :: .int j :: .ref p :: st => am_sv M 101 p j (.long x) ls st i
  | .bastore, [t], .int x :: .int j :: .ref p :: st => am_sv M t p j (.int (am_nar t x)) ls st i
  | .aastore, [t, ci], .ref v :: .int j :: .ref p :: st => if (am_sh M v).1 = ci then am_sv M t p j (.ref v) ls st i else none
  | .arraylength, _, .ref p :: st => if 100 ≤ (am_sh M p).1 ∧ (am_sh M p).1 ≤ 106 then some (i + 1, ls, .int (Int32.ofNat (am_sh M p).2) :: st, M) else none
  | .newarray _, [t, _], .int n :: st => if n < 0 ∨ 65536 < n.toNatClampNeg then none else some (i + 1, ls, .ref (am_nx M) :: st, am_new M (100 + t) n.toNatClampNeg n.toNatClampNeg)
  | .anewarray _, [t, _, _], .int n :: st => if n < 0 ∨ 65536 < n.toNatClampNeg then none else some (i + 1, ls, .ref (am_nx M) :: st, am_new M (100 + t) n.toNatClampNeg n.toNatClampNeg)
  | .new _, [ci, _, _, _], st => some (i + 1, ls, .ref (am_nx M) :: st, am_new M ci (am_fnum ci) (am_fnum ci))
  | _, _, _ => none
def am_lay : List Value → List Value
  | [] => []
  | v :: vs => if v.category = 2 then v :: am_junk :: am_lay vs else v :: am_lay vs
def am_entry (as : List Value) (n : Nat) : List Value := am_lay as ++ List.replicate (n - (am_lay as).length) am_junk
def am_ret : Instr → List Nat → List Value → Option (Option Value)
  | .return_, _, [] => some none
  | .ireturn, [0], [.int x] => some (some (.int x))
  | .ireturn, [1], [.int x] => if x = 0 ∨ x = 1 then some (some (.int x)) else none
  | .lreturn, _, [.long x] => some (some (.long x))
  | .areturn, _, [.ref p] => some (some (.ref p))
  | .areturn, _, [.null] => some (some .null)
  | _, _, _ => none
def am_isRet : Instr → Bool
  | .return_ | .ireturn | .lreturn | .areturn => true
  | _ => false
def am_isInv : Instr → Bool
  | .invokevirtual _ | .invokespecial _ | .invokestatic _ => true
  | _ => false
/-- what has no table of its own: Object's maker, the copy of rows, length and letters of the fixed texts -/
def am_prim (aux : List Nat) (i : Nat) (ls st : List Value) (M : am_M) : am_R :=
  match aux, st with
  | 4 :: _, .ref _ :: st => if (st.map fun v => v.category).sum ≤ 8 then some (i + 1, ls, st, M) else none
  | 5 :: t :: _, .int n :: .int dp :: .ref q :: .int sp :: .ref p :: st =>
    if (am_sh M p).1 = t ∧ (am_sh M q).1 = t ∧ am_R0 ≤ p ∧ am_R0 ≤ q ∧ ¬ sp < 0 ∧ ¬ dp < 0 ∧ ¬ n < 0 ∧ sp.toNatClampNeg + n.toNatClampNeg ≤ (am_sh M p).2 ∧ dp.toNatClampNeg + n.toNatClampNeg ≤ (am_sh M q).2 ∧ (st.map fun v => v.category).sum ≤ 8 then
      (match t with
      | 100 => some (i + 1, ls, st, ((fun a j => if a = q then va_cpy (M.1 p) (M.1 q) sp.toNatClampNeg dp.toNatClampNeg n.toNatClampNeg j else M.1 a j), M.2))
      | 101 => some (i + 1, ls, st, (M.1, (fun a j => if a = q then va_cpy (M.2.1 p) (M.2.1 q) sp.toNatClampNeg dp.toNatClampNeg n.toNatClampNeg j else M.2.1 a j), M.2.2))
      | _ => none)
    else none
  | 6 :: _, .int k :: .ref p :: st => if (am_sh M p).1 = 200 ∧ (st.map fun v => v.category).sum ≤ 8 then (if am_bad M p k then none else some (i + 1, ls, .int (M.1 p k.toNatClampNeg) :: st, M)) else none
  | 7 :: _, .ref p :: st => if (am_sh M p).1 = 200 ∧ (st.map fun v => v.category).sum ≤ 8 then some (i + 1, ls, .int (Int32.ofNat (am_sh M p).2) :: st, M) else none
  | _, _ => none
/-- a call of a method that has a table: its number, the arguments from the first on, what stays below -/
def am_call (aux : List Nat) (st : List Value) (M : am_M) : Option (Nat × List Value × List Value) :=
  match aux with
  | 1 :: mi :: n :: _ => if n ≤ st.length ∧ ((st.drop n).map fun v => v.category).sum ≤ 8 then some (mi, (st.take n).reverse, st.drop n) else none
  | kd :: mi :: n :: ci :: _ => if kd < 4 then (match st.drop n with
    | .ref p :: rest => if n ≤ st.length ∧ (am_sh M p).1 = ci ∧ (rest.map fun v => v.category).sum ≤ 8 then some (mi, .ref p :: (st.take n).reverse, rest) else none
    | _ => none) else none
  | _ => none
def am_run (P : Nat → Option am_I) : Nat → Nat → List am_A → Nat → List Value → List Value → am_M → Option (Option Value × am_M)
  | 0, _, _, _, _, _, _ => none
  | n + 1, d, co, i, ls, st, M =>
    match co[i]? with
    | none => none
    | some (_, ins, aux) =>
      if am_isRet ins then (am_ret ins aux st).map fun v => (v, M)
      else if am_isInv ins then
        (match am_call aux st M with
        | some (mi, as, rest) =>
          (match d, P mi with
          | d' + 1, some inf =>
            if (am_lay as).length ≤ inf.2.2.1 then
              (match am_run P n d' inf.2.2.2.2.2 0 (am_entry as inf.2.2.1) [] M with
              | some (v, M1) => am_run P n (d' + 1) co (i + 1) ls (v.toList ++ rest) M1
              | none => none)
            else none
          | _, _ => none)
        | none =>
          (match d, am_prim aux i ls st M with
          | d' + 7, some (i', ls', st', M') => am_run P n (d' + 7) co i' ls' st' M'
          | _, _ => none))
      else
        (match am_step ins aux i ls st M with
        | some (i', ls', st', M') => am_run P n d co i' ls' st' M'
        | none => none)
end
section
/-! the rows and texts that stand from the start on: places 0 .. 3 the class's rows, 4 .. 7 its texts, 8 the script -/
def am_stN : Nat → String
  | 0 => "LEAST_SET" | 1 => "MOST_SET" | 2 => "BODIES" | _ => "ABOVE"
def am_stx : Nat → Nat
  | 4 => 39 | 5 => 49 | 6 => 51 | _ => 56
def am_stt : Nat → String
  | 4 => "dear " | 5 => "cheap " | 6 => "gain " | _ => "top "
def am_roL : Nat → List Int32
  | 0 => [0, 1, 0, 1, 0]
  | 1 => [9, 10, 23, 24, 9999]
  | 2 => [10, 11, 12, 10, 20, 12, 30, 11, 12, 10, 11, 40, 50, 51, 12, 30, 11, 60, 71, 70, 40]
  | 3 => [0, 0, 0, 0, 1, 2, 3]
  | 4 => [100, 101, 97, 114, 32]
  | 5 => [99, 104, 101, 97, 112, 32]
  | 6 => [103, 97, 105, 110, 32]
  | _ => [116, 111, 112, 32]
def am_roS (L : Nat) (p : Nat) : Nat × Nat := if p < 4 then (100, (am_roL p).length) else if p < 8 then (200, (am_roL p).length) else (100, L)
def am_roI (xs : Nat → Int32) (p k : Nat) : Int32 := if p < 8 then (am_roL p).getD k 0 else xs k
/-! what the tables must say of an instruction -/
def am_pc (co : List am_A) (i : Nat) : Option Nat := (co[i]?).map fun q => q.1
def am_tgt (co : List am_A) (pc : Nat) (off : Int) (t : Nat) : Bool := match co[t]? with
  | some (q, _, _) => decide ((pc : Int) + off = (q : Int))
  | none => false
def am_len (ins : Instr) (aux : List Nat) : Nat := match ins with
  | .bipush _ | .ldc _ | .iload _ | .lload _ | .aload _ | .istore _ | .lstore _ | .astore _ | .newarray _ => 2
  | .sipush _ | .ldc_w _ | .ldc2_w _ | .iinc _ _ | .goto _ | .ifCond _ _ | .if_icmp _ _ | .ifnull _ | .ifnonnull _ | .getfield _ | .putfield _ | .getstatic _ | .invokevirtual _ | .invokespecial _ | .invokestatic _ | .new _ | .anewarray _ => 3
  | .tableswitch _ _ _ _ | .lookupswitch _ _ => aux.headD 0
  | _ => 1
def am_falls : Instr → Bool
  | .goto _ | .tableswitch _ _ _ _ | .lookupswitch _ _ | .return_ | .ireturn | .lreturn | .areturn => false
  | _ => true
def am_w (w : Nat) (c : Cond) : Bool := decide (lw_tbl[w]? = some c)
def am_chkN (inf : am_I) (n : Nat) : Bool := decide ((parseMethodDescriptor inf.1.desc).map (fun d => d.parameters.length) = some n) && decide (inf.1.cls ≠ "java/lang/invoke/MethodHandle") && decide (inf.1.cls ≠ "java/lang/invoke/VarHandle") && decide (inf.2.2.1 ≤ 41)
def am_chkC (P : Nat → Option am_I) (own : String) (ins : Instr) (aux : List Nat) : Bool :=
  match ins, aux with
  | .invokevirtual x, [0, mi, n, ci, w1, w2, w3, w4, w5] => match P mi with
    | some inf => decide (ci < 8) && decide (inf.1.cls = am_cn ci) && am_w w1 (.methodLink own x inf.1) && am_w w2 (.code inf.1 inf.2.1 inf.2.2.1 inf.2.2.2.1) && am_w w3 (.instanceMethod inf.1) && am_w w4 (.selects (am_cn ci) inf.1 inf.1) && am_w w5 (.initialized inf.1.cls) && am_chkN inf n
    | none => false
  | .invokestatic x, [1, mi, n, w1, w2, w3, w4] => match P mi with
    | some inf => am_w w1 (.methodLink own x inf.1) && am_w w2 (.code inf.1 inf.2.1 inf.2.2.1 inf.2.2.2.1) && am_w w3 (.static inf.1) && am_w w4 (.initialized inf.1.cls) && am_chkN inf n
    | none => false
  | .invokespecial x, [2, mi, n, _, w1, w2, w3, w4] => match P mi with
    | some inf => decide (inf.1.name = "<init>") && decide (inf.2.2.2.1 = none) && am_w w1 (.methodLink own x inf.1) && am_w w2 (.code inf.1 inf.2.1 inf.2.2.1 none) && am_w w3 (.instanceMethod inf.1) && am_w w4 (.initialized inf.1.cls) && am_chkN inf n
    | none => false
  | .invokespecial x, [3, mi, n, _, w1, w2, w3, w4] => match P mi with
    | some inf => decide (inf.1.name = "<init>") && decide (inf.2.2.2.1 = none) && am_w w1 (.methodLinkNest own x inf.1 "AirByYard") && am_w w2 (.code inf.1 inf.2.1 inf.2.2.1 none) && am_w w3 (.instanceMethod inf.1) && am_w w4 (.initialized inf.1.cls) && am_chkN inf n
    | none => false
  | .invokespecial x, [4, w1, w2, w3] => am_w w1 (.methodLink own x objectInit) && am_w w2 (.instanceMethod objectInit) && am_w w3 (.code objectInit ⟨#[0xb1]⟩ 1 none)
  | .invokestatic x, [5, _, w1, w2, w3, w4] => am_w w1 (.methodLink own x arraycopyName) && am_w w2 (.native arraycopyName) && am_w w3 (.static arraycopyName) && am_w w4 (.initialized "java/lang/System")
  | .invokevirtual x, [6, w1, w2, w3, w4, w5] => am_w w1 (.methodLink own x yJ0_charAt_5068e) && am_w w2 (.code yJ0_charAt_5068e cJ0_charAt_5068e 2 (some .char)) && am_w w3 (.instanceMethod yJ0_charAt_5068e) && am_w w4 (.selects RJ0 yJ0_charAt_5068e yJ0_charAt_5068e) && am_w w5 (.initialized RJ0)
  | .invokevirtual x, [7, w1, w2, w3, w4, w5] => am_w w1 (.methodLink own x yJ0_length_8abf5) && am_w w2 (.code yJ0_length_8abf5 cJ0_length_8abf5 1 (some .int)) && am_w w3 (.instanceMethod yJ0_length_8abf5) && am_w w4 (.selects RJ0 yJ0_length_8abf5 yJ0_length_8abf5) && am_w w5 (.initialized RJ0)
  | _, _ => false
def am_zipT (co : List am_A) (pc : Nat) : List Int → List Nat → Bool
  | [], [] => true
  | o :: os, t :: ts => am_tgt co pc o t && am_zipT co pc os ts
  | _, _ => false
def am_chkI (own nm : String) (ret : Option FieldType) (co : List am_A) (pc : Nat) (ins : Instr) (aux : List Nat) : Bool :=
  match ins, aux with
  | .ldc x, [0, c, w] => am_w w (.constant own x (Int32.ofNat c))
  | .ldc x, [1, p] => decide (own = RX2) && decide (4 ≤ p) && decide (p < 8) && decide (x = am_stx p)
  | .ldc_w x, [c, w] => am_w w (.constant own x (Int32.ofNat c))
  | .ldc2_w x, [c, w] => am_w w (.constantLong own x (Int64.ofNat c))
  | .goto o, [t] => am_tgt co pc o t
  | .ifCond _ o, [t] => am_tgt co pc o t
  | .if_icmp _ o, [t] => am_tgt co pc o t
  | .ifnull o, [t] => am_tgt co pc o t
  | .ifnonnull o, [t] => am_tgt co pc o t
  | .tableswitch d lo hi os, _ :: t :: ts => am_tgt co pc d t && am_zipT co pc os.toList ts && decide (hi - lo + 1 = (ts.length : Int))
  | .lookupswitch d ps, _ :: t :: ts => am_tgt co pc d t && am_zipT co pc (ps.toList.map fun q => q.2) ts && (ps.toList.zip (ps.toList.drop 1)).all (fun (a, next) => a.1 < next.1)
  | .getfield x, [ci, k, w] => decide (ci < 8) && decide (k < am_fnum ci) && am_w w (.fieldLink own x (am_fT ci k).1 (am_fT ci k).2.1 (am_fT ci k).2.2.1)
  | .putfield x, [ci, k, w] => decide (ci < 8) && decide (k < am_fnum ci) && am_w w (.fieldLink own x (am_fT ci k).1 (am_fT ci k).2.1 (am_fT ci k).2.2.1) && (decide ((am_fT ci k).2.2.2 = false) || (decide ((am_fT ci k).2.2.2 = true) && decide (nm = "<init>") && decide ((am_fT ci k).1 = own)))
  | .getstatic x, [p, w] => decide (p < 4) && am_w w (.fieldLink own x "AirByYard" (am_stN p) "[I")
  | .baload, [t] => decide (t = 102 ∨ t = 103)
  | .bastore, [t] => decide (t = 102 ∨ t = 103)
  | .aaload, [t] => decide (104 ≤ t ∧ t ≤ 106)
  | .aastore, [t, ci] => decide ((t = 104 ∧ ci = 1) ∨ (t = 105 ∧ ci = 5) ∨ (t = 106 ∧ ci = 0))
  | .newarray a, [t, w] => decide (t ≤ 3) && decide (newarray.typeOf a = am_tys t) && am_w w (.arrayClass (newarray.typeOf a))
  | .anewarray x, [t, w, w2] => decide (4 ≤ t ∧ t ≤ 6) && (match am_tys t with
    | .object C => am_w w (.classLink own x C) && am_w w2 (.arrayOver (.object C))
    | _ => false)
  | .new x, [ci, w, w2, w3] => decide (ci < 8) && am_w w (.classLink own x (am_cn ci)) && am_w w2 (.instantiable (am_cn ci) (am_fnum ci)) && am_w w3 (.initialized (am_cn ci))
  | .ireturn, [0] => decide (ret = some .int)
  | .ireturn, [1] => decide (ret = some .boolean)
  | .lreturn, _ => decide (ret = some .long)
  | .areturn, _ => (match ret with
    | some (.object _) => true
    | _ => false)
  | .return_, _ => decide (ret = none)
  | .ldc _, _ | .ldc_w _, _ | .ldc2_w _, _ | .goto _, _ | .ifCond _ _, _ | .if_icmp _ _, _ | .ifnull _, _ | .ifnonnull _, _ | .tableswitch _ _ _ _, _ | .lookupswitch _ _, _ | .getfield _, _ | .putfield _, _ | .getstatic _, _ | .baload, _ | .bastore, _ | .aaload, _ | .aastore, _ | .newarray _, _ | .anewarray _, _ | .new _, _ | .ireturn, _ => false
  | _, _ => true
def am_chk (P : Nat → Option am_I) (inf : am_I) (i : Nat) : Bool :=
  match inf.2.2.2.2.2[i]? with
  | none => false
  | some (pc, ins, aux) => decide (decode inf.2.1 pc = .ok (ins, am_len ins aux)) && (!am_falls ins || decide (am_pc inf.2.2.2.2.2 (i + 1) = some (pc + am_len ins aux))) &&
    (if am_isInv ins then am_chkC P inf.2.2.2.2.1 ins aux else am_chkI inf.2.2.2.2.1 inf.1.name inf.2.2.2.1 inf.2.2.2.2.2 pc ins aux)
def am_okM (P : Nat → Option am_I) (inf : am_I) : Prop := plainName inf.1.cls = true ∧ inf.1.cls = inf.2.2.2.2.1 ∧ am_pc inf.2.2.2.2.2 0 = some 0 ∧ ∀ i, i < inf.2.2.2.2.2.length → am_chk P inf i = true
/-! the world: where a place lies in the heap, what the heap holds there -/
def am_ad (s0 : State) (ro : Nat → Nat) (p : Nat) : Nat := if p < am_R0 then ro p else s0.heap.size + (p - am_R0)
def am_cv (ad : Nat → Nat) : Value → Value
  | .ref p => .ref (ad p)
  | v => v
def am_cell (D : va_G) (ct : Nat → ClassId) (ad : Nat → Nat) (M : am_M) (p : Nat) (H : Heap) : Prop :=
  ((am_sh M p).1 < 8 ∧ t_OB (ad p) (D.1 (am_sh M p).1) (am_fnum (am_sh M p).1) (D.2 (am_sh M p).1) H (fun k => am_rd ad M p k (am_fty (am_sh M p).1 k))) ∨
  (100 ≤ (am_sh M p).1 ∧ (am_sh M p).1 ≤ 106 ∧ H[ad p]? = some (arrV (ct ((am_sh M p).1 - 100)) (am_sh M p).2 (fun j => am_rd ad M p j (am_tys ((am_sh M p).1 - 100)))))
def am_G (D : va_G) (ct : Nat → ClassId) (ro : Nat → Nat) (s0 : State) (L : Nat) (xs : Nat → Int32) (M : am_M) (H : Heap) : Prop :=
  H.size + am_R0 = s0.heap.size + am_nx M ∧ am_R0 ≤ am_nx M ∧ (∀ q : Nat, q < s0.heap.size → H[q]? = s0.heap[q]?) ∧ (∀ p, am_R0 ≤ p → p < am_nx M → am_cell D ct (am_ad s0 ro) M p H) ∧
  (∀ p, p < am_R0 → am_sh M p = am_roS L p ∧ ∀ k, M.1 p k = am_roI xs p k) ∧ ∀ p, am_nx M ≤ p → am_sh M p = (1000, 0) ∧ ∀ k, M.1 p k = 0 ∧ M.2.1 p k = 0 ∧ M.2.2.1 p k = none
def am_roA (s0 : State) (ro : Nat → Nat) (n : Nat) (f : Nat → Int32) (p : Nat) : Prop := ∃ cell : Cell, s0.heap[ro p]? = some cell ∧ s0.isArrayOf cell .int ∧ cell.vm ≠ .unknown ∧ n ≤ cell.slots.size ∧ cell.slots.size.toInt32 = Int32.ofNat n ∧ ∀ j : Nat, j < n → cell.slots[j]? = some (.int (f j))
def am_rmS : Room := { frames := 5, cells := 0, slots := 0, locals := 300 }
def am_PcS (s0 : State) (av : List Value) : Array Value → State → Prop := fun v U => v = av.toArray ∧ s0.WarmedH U.vm ∧ ∀ q : Nat, q < s0.heap.size → U.heap[q]? = s0.heap[q]?
def am_QcS (r : Int32) : Array Value → State → Outcome → State → Prop := fun _ st o t => o = .returned (some (.int r)) ∧ t.heap = st.heap
def am_Str (s0 : State) (ro : Nat → Nat) : Prop := ∀ (l : Launch) (p : Nat), 4 ≤ p → p < 8 →
  (∃ cell : Cell, s0.heap[ro p]? = some cell ∧ cell.vm.isStatics = false ∧ s0.vm.findClass RJ0 = some cell.cls) ∧
  Met l yJ0_length_8abf5 [Cond.code yJ0_length_8abf5 cJ0_length_8abf5 1 (some .int)] am_rmS (am_PcS s0 [.ref (ro p)]) (am_QcS (Int32.ofNat (am_roL p).length)) 0 0 (fun _ => False) ∧
  ∀ k : Int32, vp_in k (am_roL p).length → Met l yJ0_charAt_5068e [Cond.code yJ0_charAt_5068e cJ0_charAt_5068e 2 (some .char)] am_rmS (am_PcS s0 [.ref (ro p), .int k]) (am_QcS ((am_roL p).getD k.toNatClampNeg 0)) 0 0 (fun _ => False)
def am_C0 (D : va_G) (ct : Nat → ClassId) (ro : Nat → Nat) (b : Nat) (s0 : State) (L : Nat) (xs : Nat → Int32) : Prop :=
  (∀ w ∈ lw_tbl, w.before #[Value.ref b] s0 = true) ∧
  (∀ ci, ci < 8 → u_Kn s0 (am_cn ci) (am_fT ci) (am_fnum ci) (D.1 ci) (D.2 ci)) ∧
  (∀ t, t ≤ 6 → ArrOfT s0 (ct t) (am_tys t) ∧ va_RA s0 (ct t) (am_tys t)) ∧
  (∀ p, p < 4 ∨ p = 8 → am_roA s0 ro (am_roS L p).2 (am_roI xs p) p) ∧
  (∀ p, p < 4 → va_Z "AirByYard" (am_stN p) "[I" (.ref (ro p)) (fun q => s0.heap.size ≤ q) s0 s0.heap) ∧
  (∀ p, 4 ≤ p → p < 8 → vk_R RX2 (am_stx p) (am_stt p) (ro p) s0) ∧ am_Str s0 ro
def am_Pc (D : va_G) (ct : Nat → ClassId) (ro : Nat → Nat) (s0 : State) (L : Nat) (xs : Nat → Int32) (M : am_M) (as : List Value) : Array Value → State → Prop := fun v U => v = (as.map (am_cv (am_ad s0 ro))).toArray ∧ s0.WarmedH U.vm ∧ am_G D ct ro s0 L xs M U.heap
def am_Qc (D : va_G) (ct : Nat → ClassId) (ro : Nat → Nat) (s0 : State) (L : Nat) (xs : Nat → Int32) (M : am_M) (r : Option Value) : Array Value → State → Outcome → State → Prop := fun _ _ o t => o = .returned (r.map (am_cv (am_ad s0 ro))) ∧ am_G D ct ro s0 L xs M t.heap
def am_lr (ad : Nat → Nat) (ls : List Value) (arr : Array Slot) (nL : Nat) : Prop := arr.size = nL ∧ lv_wf arr ∧ ls.length = nL ∧ ∀ (i : Nat) (v : Value), ls[i]? = some v → am_isJ v = false → arr[i]? = some (.val (am_cv ad v))
/-! small facts -/
theorem am_wE {w : Nat} {c : Cond} (h : am_w w c = true) : lw_tbl[w]? = some c := by simpa [am_w] using h
theorem am_word {D : va_G} {ct : Nat → ClassId} {ro : Nat → Nat} {b : Nat} {s0 s : State} {L : Nat} {xs : Nat → Int32} (C : am_C0 D ct ro b s0 L xs) (hW : s0.WarmedH s.vm) {w : Nat} {c : Cond} (h : am_w w c = true) (hg : goodWord c = true) (args : Array Value) : c.before args s = true :=
  word_at hW (good_of_word hg) (C.1 c (List.mem_of_getElem? (am_wE h)))
theorem am_cat (ad : Nat → Nat) (v : Value) : (am_cv ad v).category = v.category := by cases v <;> rfl
theorem am_cats (ad : Nat → Nat) (st : List Value) : ((st.map (am_cv ad)).map fun v => v.category) = st.map fun v => v.category := by
  rw [List.map_map]
  exact List.map_congr_left fun v _ => am_cat ad v
theorem am_rd_cv (ad : Nat → Nat) (M : am_M) (p k : Nat) (ty : FieldType) : am_cv ad (am_rd (fun q => q) M p k ty) = am_rd ad M p k ty := by
  cases ty <;> simp [am_rd, am_cv] <;> cases M.2.2.1 p k <;> rfl
theorem am_rf_cv (ad : Nat → Nat) (r : Option Nat) : am_cv ad (va_rf r) = va_rf (r.map ad) := by cases r <;> rfl
theorem am_up_s {α : Type} (f : Nat → Nat → α) (p k : Nat) (x : α) : am_up f p k x p k = x := by simp [am_up]
theorem am_up_n {α : Type} (f : Nat → Nat → α) {p k q j : Nat} (x : α) (h : ¬ (q = p ∧ j = k)) : am_up f p k x q j = f q j := by simp [am_up, h]
theorem am_wr_sh (M : am_M) (p k : Nat) (v : Value) (q : Nat) : am_sh (am_wr M p k v) q = am_sh M q := by cases v <;> rfl
theorem am_wr_nx (M : am_M) (p k : Nat) (v : Value) : am_nx (am_wr M p k v) = am_nx M := by cases v <;> rfl
theorem am_wr_us (M : am_M) (p k : Nat) (v : Value) : am_us (am_wr M p k v) = am_us M := by cases v <;> rfl
theorem am_wr_1 (M : am_M) (p k : Nat) (v : Value) {q j : Nat} (h : ¬ (q = p ∧ j = k)) : (am_wr M p k v).1 q j = M.1 q j := by cases v <;> simp [am_wr, am_up, h]
theorem am_wr_2 (M : am_M) (p k : Nat) (v : Value) {q j : Nat} (h : ¬ (q = p ∧ j = k)) : (am_wr M p k v).2.1 q j = M.2.1 q j := by cases v <;> simp [am_wr, am_up, h]
theorem am_wr_3 (M : am_M) (p k : Nat) (v : Value) {q j : Nat} (h : ¬ (q = p ∧ j = k)) : (am_wr M p k v).2.2.1 q j = M.2.2.1 q j := by cases v <;> simp [am_wr, am_up, h]
theorem am_rd_wr (ad : Nat → Nat) (M : am_M) (p k : Nat) (v : Value) {q j : Nat} (h : ¬ (q = p ∧ j = k)) (ty : FieldType) : am_rd ad (am_wr M p k v) q j ty = am_rd ad M q j ty := by
  cases ty <;> simp [am_rd, am_wr_1 M p k v h, am_wr_2 M p k v h, am_wr_3 M p k v h]
theorem am_rd_self (ad : Nat → Nat) (M : am_M) (p k : Nat) {v : Value} {ty : FieldType} (h : am_okv ty v = true) : am_rd ad (am_wr M p k v) p k ty = am_cv ad v := by
  cases ty <;> cases v <;> simp_all [am_okv, am_rd, am_wr, am_up, am_cv, va_rf]
theorem am_adI {s0 : State} {ro : Nat → Nat} {p q : Nat} (hp : am_R0 ≤ p) (hq : am_R0 ≤ q) (h : am_ad s0 ro p = am_ad s0 ro q) : p = q := by
  unfold am_ad at h
  rw [if_neg (by omega), if_neg (by omega)] at h
  omega
theorem am_adW {s0 : State} {ro : Nat → Nat} {p : Nat} (hp : am_R0 ≤ p) : am_ad s0 ro p = s0.heap.size + (p - am_R0) := by
  unfold am_ad
  rw [if_neg (by omega)]
theorem am_adR {s0 : State} {ro : Nat → Nat} {p : Nat} (hp : p < am_R0) : am_ad s0 ro p = ro p := by
  unfold am_ad
  rw [if_pos hp]
end
section
theorem am_lays0 : ∀ k, k < 10 → u_lay RX0 TX0 k ∈ lw_tbl := by decide +kernel
theorem am_lays1 : ∀ k, k < 4 → u_lay RX1 TX1 k ∈ lw_tbl := by decide +kernel
theorem am_lays2 : ∀ k, k < 3 → u_lay RX2 TX2 k ∈ lw_tbl := by decide +kernel
theorem am_lays3 : ∀ k, k < 5 → u_lay RX3 TX3 k ∈ lw_tbl := by decide +kernel
theorem am_lays4 : ∀ k, k < 7 → u_lay RX4 TX4 k ∈ lw_tbl := by decide +kernel
theorem am_lays5 : ∀ k, k < 3 → u_lay RX5 TX5 k ∈ lw_tbl := by decide +kernel
theorem am_lays6 : ∀ k, k < 17 → u_lay RX6 TX6 k ∈ lw_tbl := by decide +kernel
theorem am_lays7 : ∀ k, k < 81 → u_lay RX7 TX7 k ∈ lw_tbl := by decide +kernel
theorem am_8 {P : Nat → Prop} (h0 : P 0) (h1 : P 1) (h2 : P 2) (h3 : P 3) (h4 : P 4) (h5 : P 5) (h6 : P 6) (h7 : P 7) (ci : Nat) (h : ci < 8) : P ci := by
  match ci, h with
  | 0, _ => exact h0
  | 1, _ => exact h1
  | 2, _ => exact h2
  | 3, _ => exact h3
  | 4, _ => exact h4
  | 5, _ => exact h5
  | 6, _ => exact h6
  | 7, _ => exact h7
  | n + 8, h => omega
theorem am_lays (ci : Nat) (h : ci < 8) : ∀ k, k < am_fnum ci → u_lay (am_cn ci) (am_fT ci) k ∈ lw_tbl :=
  am_8 (P := fun ci => ∀ k, k < am_fnum ci → u_lay (am_cn ci) (am_fT ci) k ∈ lw_tbl) am_lays0 am_lays1 am_lays2 am_lays3 am_lays4 am_lays5 am_lays6 am_lays7 ci h
theorem am_ftyE (ci : Nat) (h : ci < 8) : ∀ k, k < am_fnum ci → parseFieldDescriptor (am_fT ci k).2.2.1 = some (am_fty ci k) :=
  am_8 (P := fun ci => ∀ k, k < am_fnum ci → parseFieldDescriptor (am_fT ci k).2.2.1 = some (am_fty ci k)) tyX0_ok tyX1_ok tyX2_ok tyX3_ok tyX4_ok tyX5_ok tyX6_ok tyX7_ok ci h
theorem am_nmE (ci : Nat) (h : ci < 8) : ∀ x, x < am_fnum ci → ∀ y, y < am_fnum ci → x ≠ y → (am_fT ci x).2.1 ≠ (am_fT ci y).2.1 :=
  am_8 (P := fun ci => ∀ x, x < am_fnum ci → ∀ y, y < am_fnum ci → x ≠ y → (am_fT ci x).2.1 ≠ (am_fT ci y).2.1) nmX0 nmX1 nmX2 nmX3 nmX4 nmX5 nmX6 nmX7 ci h
theorem am_goodLay (C : String) (T : u_T) (k : Nat) : goodWord (u_lay C T k) = true := by
  unfold u_lay
  split <;> rfl
/-! places -/
theorem am_inW {D : va_G} {ct : Nat → ClassId} {ro : Nat → Nat} {s0 : State} {L : Nat} {xs : Nat → Int32} {M : am_M} {H : Heap} (hG : am_G D ct ro s0 L xs M H) {q : Nat} (h : (am_sh M q).1 < 8) : am_R0 ≤ q ∧ q < am_nx M := by
  obtain ⟨-, -, -, -, h5, h6⟩ := hG
  constructor
  · rcases Nat.lt_or_ge q am_R0 with z | z
    · rw [(h5 q z).1] at h
      unfold am_roS at h
      split at h
      · exact absurd (show (100 : Nat) < 8 from h) (by decide)
      · split at h
        · exact absurd (show (200 : Nat) < 8 from h) (by decide)
        · exact absurd (show (100 : Nat) < 8 from h) (by decide)
    · exact z
  · rcases Nat.lt_or_ge q (am_nx M) with z | z
    · exact z
    · rw [(h6 q z).1] at h
      exact absurd h (by decide)
theorem am_obj {D : va_G} {ct : Nat → ClassId} {ro : Nat → Nat} {s0 : State} {L : Nat} {xs : Nat → Int32} {M : am_M} {H : Heap} (hG : am_G D ct ro s0 L xs M H) {q ci : Nat} (hci : ci < 8) (h : (am_sh M q).1 = ci) :
    am_R0 ≤ q ∧ q < am_nx M ∧ t_OB (am_ad s0 ro q) (D.1 ci) (am_fnum ci) (D.2 ci) H (fun k => am_rd (am_ad s0 ro) M q k (am_fty ci k)) := by
  subst h
  obtain ⟨h1, h2⟩ := am_inW hG hci
  refine ⟨h1, h2, ?_⟩
  rcases hG.2.2.2.1 q h1 h2 with z | z
  · exact z.2
  · exact absurd z.1 (by omega)
theorem am_cell_kept {D : va_G} {ct : Nat → ClassId} {ad : Nat → Nat} {M M' : am_M} {H H' : Heap} {q : Nat} (h : am_cell D ct ad M q H) (hs : am_sh M' q = am_sh M q) (hr : ∀ k ty, am_rd ad M' q k ty = am_rd ad M q k ty) (hq : H'[ad q]? = H[ad q]?) : am_cell D ct ad M' q H' := by
  unfold am_cell at h ⊢
  rw [hs]
  rcases h with ⟨h1, h2⟩ | ⟨h1, h2, h3⟩
  · exact Or.inl ⟨h1, (h2.kept hq).to (fun k _ => (hr k _).symm)⟩
  · refine Or.inr ⟨h1, h2, ?_⟩
    rw [hq, h3]
    congr 2
    funext j
    exact (hr j _).symm
theorem am_G_wr {D : va_G} {ct : Nat → ClassId} {ro : Nat → Nat} {s0 : State} {L : Nat} {xs : Nat → Int32} {M : am_M} {H H' : Heap} (hG : am_G D ct ro s0 L xs M H) {q k : Nat} {v : Value} (h1 : am_R0 ≤ q) (h2 : q < am_nx M) (hz : H'.size = H.size) (ho : ∀ x : Nat, x ≠ am_ad s0 ro q → H'[x]? = H[x]?)
    (hc : am_cell D ct (am_ad s0 ro) (am_wr M q k v) q H') : am_G D ct ro s0 L xs (am_wr M q k v) H' := by
  obtain ⟨g1, g2, g3, g4, g5, g6⟩ := hG
  refine ⟨by rw [hz, am_wr_nx]; exact g1, by rw [am_wr_nx]; exact g2, fun x hx => ?_, fun x x1 x2 => ?_, fun x hx => ?_, fun x hx => ?_⟩
  · rw [ho x (by rw [am_adW h1]; omega)]
    exact g3 x hx
  · rw [am_wr_nx] at x2
    by_cases e : x = q
    · subst e
      exact hc
    · refine am_cell_kept (g4 x x1 x2) (am_wr_sh ..) (fun j ty => am_rd_wr _ _ _ _ _ (fun z => e z.1) _) (ho _ fun z => e (am_adI x1 h1 z))
  · have e : x ≠ q := by omega
    rw [am_wr_sh]
    exact ⟨(g5 x hx).1, fun j => by rw [am_wr_1 _ _ _ _ (fun z => e z.1)]; exact (g5 x hx).2 j⟩
  · rw [am_wr_nx] at hx
    have e : x ≠ q := by omega
    rw [am_wr_sh]
    exact ⟨(g6 x hx).1, fun j => by rw [am_wr_1 _ _ _ _ (fun z => e z.1), am_wr_2 _ _ _ _ (fun z => e z.1), am_wr_3 _ _ _ _ (fun z => e z.1)]; exact (g6 x hx).2 j⟩
theorem am_G_new {D : va_G} {ct : Nat → ClassId} {ro : Nat → Nat} {s0 : State} {L : Nat} {xs : Nat → Int32} {M : am_M} {H H' : Heap} (hG : am_G D ct ro s0 L xs M H) (tag n cost : Nat) (hz : H'.size = H.size + 1) (ho : ∀ x : Nat, x < H.size → H'[x]? = H[x]?)
    (hc : am_cell D ct (am_ad s0 ro) (am_new M tag n cost) (am_nx M) H') : am_G D ct ro s0 L xs (am_new M tag n cost) H' := by
  obtain ⟨g1, g2, g3, g4, g5, g6⟩ := hG
  have hs : ∀ x, x ≠ am_nx M → am_sh (am_new M tag n cost) x = am_sh M x := fun x hx => by
    show (if x = M.2.2.2.2.1 then (tag, n) else M.2.2.2.1 x) = _
    rw [if_neg (show ¬ x = M.2.2.2.2.1 from hx)]
    rfl
  refine ⟨by show H'.size + am_R0 = _ + (am_nx M + 1); omega, by show am_R0 ≤ am_nx M + 1; omega, fun x hx => ?_, fun x x1 x2 => ?_, fun x hx => ?_, fun x hx => ?_⟩
  · rw [ho x (by omega)]
    exact g3 x hx
  · have x2 : x < am_nx M + 1 := x2
    by_cases e : x = am_nx M
    · subst e
      exact hc
    · refine am_cell_kept (g4 x x1 (by omega)) (hs x e) (fun j ty => by cases ty <;> rfl) (ho _ ?_)
      rw [am_adW x1]
      omega
  · rw [hs x (by omega)]
    exact g5 x hx
  · have hx : am_nx M + 1 ≤ x := hx
    rw [hs x (by omega)]
    exact g6 x (by omega)
/-- any row, of the start or made: a cell that holds it -/
theorem am_row {D : va_G} {ct : Nat → ClassId} {ro : Nat → Nat} {b : Nat} {s0 s : State} {L : Nat} {xs : Nat → Int32} {M : am_M} {H : Heap} (C : am_C0 D ct ro b s0 L xs) (hW : s0.WarmedH s.vm) (hG : am_G D ct ro s0 L xs M H) {q t : Nat} (ht : t ≤ 6) (h : (am_sh M q).1 = 100 + t) :
    ∃ cell : Cell, H[am_ad s0 ro q]? = some cell ∧ s.isArrayOf cell (am_tys t) ∧ cell.vm ≠ .unknown ∧ (am_sh M q).2 ≤ cell.slots.size ∧ cell.slots.size.toInt32 = Int32.ofNat (am_sh M q).2 ∧ ∀ j : Nat, j < (am_sh M q).2 → cell.slots[j]? = some (am_rd (am_ad s0 ro) M q j (am_tys t)) := by
  have hal := hW.alike
  rcases Nat.lt_or_ge q am_R0 with z | z
  · obtain ⟨e1, e2⟩ := hG.2.2.2.2.1 q z
    have ht0 : t = 0 := by
      rw [e1] at h
      unfold am_roS at h
      split at h
      · have : (100 : Nat) = 100 + t := h
        omega
      · split at h
        · have : (200 : Nat) = 100 + t := h
          omega
        · have : (100 : Nat) = 100 + t := h
          omega
    subst ht0
    have hp : q < 4 ∨ q = 8 := by
      rw [e1] at h
      unfold am_roS at h
      unfold am_R0 at z
      split at h
      · exact Or.inl (by assumption)
      · split at h
        · exact absurd (show (200 : Nat) = 100 + 0 from h) (by decide)
        · exact Or.inr (by omega)
    obtain ⟨cell, q1, q2, q3, q4, q5, q6⟩ := C.2.2.2.1 q hp
    have hlt : ro q < s0.heap.size := (Array.getElem?_eq_some_iff.mp q1).1
    refine ⟨cell, by rw [am_adR z, hG.2.2.1 _ hlt]; exact q1, State.isArrayOf_alike hal q2, q3, by rw [e1]; exact q4, by rw [e1]; exact q5, fun j hj => ?_⟩
    rw [e1] at hj
    rw [q6 j hj, ← e2 j]
    rfl
  · have hn : q < am_nx M := by
      rcases Nat.lt_or_ge q (am_nx M) with y | y
      · exact y
      · have := (hG.2.2.2.2.2 q y).1
        rw [this] at h
        have : (1000 : Nat) = 100 + t := h
        omega
    rcases hG.2.2.2.1 q z hn with y | ⟨y1, y2, y3⟩
    · exact absurd y.1 (by omega)
    · have e : (am_sh M q).1 - 100 = t := by omega
      rw [e] at y3
      obtain ⟨hA, -⟩ := C.2.2.1 t ht
      refine ⟨_, y3, arrOfT_moved hal hA _ _, (fun z => by cases z), by simp [arrV_size], by simp [arrV_size], fun j hj => by rw [arrV_read _ _ hj]⟩
/-- a row that was made -/
theorem am_rowW {D : va_G} {ct : Nat → ClassId} {ro : Nat → Nat} {s0 : State} {L : Nat} {xs : Nat → Int32} {M : am_M} {H : Heap} (hG : am_G D ct ro s0 L xs M H) {q t : Nat} (h0 : am_R0 ≤ q) (ht : t ≤ 6) (h : (am_sh M q).1 = 100 + t) :
    q < am_nx M ∧ H[am_ad s0 ro q]? = some (arrV (ct t) (am_sh M q).2 (fun j => am_rd (am_ad s0 ro) M q j (am_tys t))) := by
  have hn : q < am_nx M := by
    rcases Nat.lt_or_ge q (am_nx M) with y | y
    · exact y
    · have := (hG.2.2.2.2.2 q y).1
      rw [this] at h
      have : (1000 : Nat) = 100 + t := h
      omega
  refine ⟨hn, ?_⟩
  rcases hG.2.2.2.1 q h0 hn with y | ⟨y1, y2, y3⟩
  · exact absurd y.1 (by omega)
  · have e : (am_sh M q).1 - 100 = t := by omega
    rw [e] at y3
    exact y3
theorem am_updV {ad : Nat → Nat} {M : am_M} {q k : Nat} {v : Value} {w : Value} {ty : FieldType} (h : am_rd ad (am_wr M q k v) q k ty = w) : updV (fun j => am_rd ad M q j ty) k w = fun j => am_rd ad (am_wr M q k v) q j ty := by
  funext j
  by_cases e : j = k
  · subst e
    simp [updV, h]
  · simp [updV, e, am_rd_wr ad M q k v (fun z => e z.2)]
theorem am_G_st {D : va_G} {ct : Nat → ClassId} {ro : Nat → Nat} {s0 : State} {L : Nat} {xs : Nat → Int32} {M : am_M} {H H' : Heap} (hG : am_G D ct ro s0 L xs M H) {q k t : Nat} {v w : Value} (h1 : am_R0 ≤ q) (ht : t ≤ 6) (h : (am_sh M q).1 = 100 + t) (hw : am_rd (am_ad s0 ro) (am_wr M q k v) q k (am_tys t) = w)
    (he : H'[am_ad s0 ro q]? = some ((arrV (ct t) (am_sh M q).2 (fun j => am_rd (am_ad s0 ro) M q j (am_tys t))).setSlot k w)) (hz : H'.size = H.size) (ho : ∀ x : Nat, x ≠ am_ad s0 ro q → H'[x]? = H[x]?) : am_G D ct ro s0 L xs (am_wr M q k v) H' := by
  refine am_G_wr hG h1 (am_rowW hG h1 ht h).1 hz ho (Or.inr ?_)
  rw [am_wr_sh, h]
  refine ⟨by omega, by omega, ?_⟩
  rw [he, arrV_store, show 100 + t - 100 = t by omega, am_updV hw]

section AMW
variable {p : Program} {l : Launch} {e : Env} {R : Room} {s : State} {m : MethodId} {args : Array Value} {below : List Frame} {meth : Method} {c : Code} {H : Heap} {locs : List Loc} {cells slots : Nat} {Q : State → Prop}
variable {cc : ByteArray} {pc : Nat} {arr : Array Slot} {rest : List Value} {D : va_G} {ct : Nat → ClassId} {ro : Nat → Nat} {b : Nat} {s0 : State} {L : Nat} {xs : Nat → Int32} {M : am_M} {own : String}
theorem am_layW (C : am_C0 D ct ro b s0 L xs) (hW : s0.WarmedH s.vm) {ci k : Nat} (hci : ci < 8) (hk : k < am_fnum ci) : (u_lay (am_cn ci) (am_fT ci) k).before args s = true :=
  word_at hW (good_of_word (am_goodLay _ _ _)) (C.1 _ (am_lays ci hci k hk))
theorem am_layO (C : am_C0 D ct ro b s0 L xs) (hW : s0.WarmedH s.vm) {ci k : Nat} (hci : ci < 8) (hk : k < am_fnum ci) (args : Array Value) : (Cond.lays (am_cn ci) (am_fT ci k).1 (am_fT ci k).2.1 (am_fT ci k).2.2.1).before args s = true ∨ (Cond.laysFinal (am_cn ci) (am_fT ci k).1 (am_fT ci k).2.1 (am_fT ci k).2.2.1).before args s = true := by
  have h := am_layW (args := args) C hW hci hk
  unfold u_lay at h
  split at h
  · exact Or.inr h
  · exact Or.inl h
theorem am_Wget (hx : p.tables.exec = Jvm.exec) (hb : c.code = cc) (C : am_C0 D ct ro b s0 L xs) (hW : s0.WarmedH s.vm) (hown : s.vm.findClass own = some m.cls) (hG : am_G D ct ro s0 L xs M H) {ci k w q x : Nat} (hci : ci < 8) (hk : k < am_fnum ci) (hw : am_w w (.fieldLink own x (am_fT ci k).1 (am_fT ci k).2.1 (am_fT ci k).2.2.1) = true) (hq : (am_sh M q).1 = ci) (hdg : decode cc pc = .ok (.getfield x, 3))
    (kk : W p l e R s m args below meth c H locs cells slots Q (F0 m (pc + 3) arr (am_rd (am_ad s0 ro) M q k (am_fty ci k) :: rest))) : W p l e R s m args below meth c H locs cells slots Q (F0 m pc arr (.ref (am_ad s0 ro q) :: rest)) := by
  obtain ⟨-, -, cell, q1, q2, q3, q4⟩ := am_obj hG hci hq
  obtain ⟨hS, hfc, kC, hkC, hkind⟩ := u_Kn_moved hW.alike (C.2.1 ci hci)
  obtain ⟨cf, kf, fi, f, hi, hsl⟩ := hS k hk
  refine W.getf hx hb hown (am_word C hW hw rfl args) hi (u_facts hfc hkC (am_layO C hW hci hk args) hi).1 q1 (by rw [q3]; exact fun h => by cases h) (v := am_rd (am_ad s0 ro) M q k (am_fty ci k)) ?_ rfl rfl hdg kk
  rw [hsl, q4 k hk]
theorem am_okN {ty : FieldType} {v : Value} (h : am_okv ty v = true) (ad : Nat → Nat) : narrow ty (am_cv ad v) = am_cv ad v ∧ fits ty (am_cv ad v) = true := by
  cases ty <;> cases v <;> simp_all [am_okv, am_cv, fits, narrow]
  rename_i x
  rcases h with h | h <;> subst h <;> decide
theorem am_Wput (hx : p.tables.exec = Jvm.exec) (hb : c.code = cc) (C : am_C0 D ct ro b s0 L xs) (hW : s0.WarmedH s.vm) (hown : s.vm.findClass own = some m.cls) (hG : am_G D ct ro s0 L xs M H) {ci k w q x : Nat} {v : Value} (hci : ci < 8) (hk : k < am_fnum ci) (hw : am_w w (.fieldLink own x (am_fT ci k).1 (am_fT ci k).2.1 (am_fT ci k).2.2.1) = true) (hq : (am_sh M q).1 = ci) (hv : am_okv (am_fty ci k) v = true)
    (hf : (am_fT ci k).2.2.2 = false ∨ ((am_fT ci k).2.2.2 = true ∧ meth.name = "<init>" ∧ (am_fT ci k).1 = own)) (hdg : decode cc pc = .ok (.putfield x, 3))
    (kk : ∀ (H' : Heap) (i : Nat), am_G D ct ro s0 L xs (am_wr M q k v) H' → W p l e R s m args below meth c H' (locs ++ [⟨am_ad s0 ro q, i⟩]) cells slots Q (F0 m (pc + 3) arr rest)) : W p l e R s m args below meth c H locs cells slots Q (F0 m pc arr (am_cv (am_ad s0 ro) v :: .ref (am_ad s0 ro q) :: rest)) := by
  obtain ⟨p1, p2, cell, q1, q2, q3, q4⟩ := am_obj hG hci hq
  have hKn := u_Kn_moved hW.alike (C.2.1 ci hci)
  obtain ⟨hS, hfc, kC, hkC, hkind⟩ := id hKn
  obtain ⟨cf, kf, fi, f, hi, hsl⟩ := hS k hk
  obtain ⟨hn, hfit⟩ := am_okN hv (am_ad s0 ro)
  have hd := am_ftyE ci hci k hk
  have hap : ∀ a b, a < am_fnum ci → b < am_fnum ci → a ≠ b → (D.2 ci) a ≠ (D.2 ci) b := by
    intro a b ha hb2 hne
    obtain ⟨_, _, _, fa, hia, ea⟩ := hS a ha
    obtain ⟨_, _, _, fb, hib, eb⟩ := hS b hb2
    rw [← ea, ← eb]
    refine u_apart (am_layO C hW hci ha args) (am_layO C hW hci hb2 args) hia hib ?_
    rw [(State.fieldFound?_type hia (am_ftyE ci hci a ha)).1, (State.fieldFound?_type hib (am_ftyE ci hci b hb2)).1]
    exact am_nmE ci hci a ha b hb2 hne
  have hst := (u_facts hfc hkC (am_layO C hW hci hk args) hi).1
  have fin : ∀ H' : Heap, H'[am_ad s0 ro q]? = some (cell.setSlot f.slot (am_cv (am_ad s0 ro) v)) → H'.size = H.size → (∀ x : Nat, x ≠ am_ad s0 ro q → H'[x]? = H[x]?) → am_G D ct ro s0 L xs (am_wr M q k v) H' := by
    intro H' e1 e2 e3
    refine am_G_wr hG p1 p2 e2 e3 (Or.inl ?_)
    rw [am_wr_sh, hq]
    refine ⟨hci, t_OB.to (V := updV (fun j => am_rd (am_ad s0 ro) M q j (am_fty ci j)) k (am_cv (am_ad s0 ro) v)) ⟨_, e1, q2, q3, ?_⟩ (fun j hj => ?_)⟩
    · rw [hsl]
      exact t_set q4 hap hk _
    · by_cases ej : j = k
      · subst ej
        simp [updV, am_rd_self _ _ _ _ hv]
      · simp [updV, ej, am_rd_wr _ M q k v (fun z => ej z.2)]
  have hlay := am_layW (args := args) C hW hci hk
  unfold u_lay at hlay
  rcases hf with hf | ⟨hf, hin, hdecl⟩
  · rw [if_neg (by rw [hf]; decide)] at hlay
    have h6 := u_store hfc hkC hkind hlay hi hd hn hfit
    exact W.putK hx hb (f := f) ⟨hown, am_word C hW hw rfl args, ⟨_, _, _, hi⟩, hst⟩ (by rw [q2]; exact h6) q1 q3 (by rw [hsl]; exact k2_hasslot (q4 k hk)) rfl rfl hdg fun H' e1 e2 e3 => kk H' _ (fin H' e1 e2 e3)
  · rw [if_pos hf] at hlay
    have hcf : m.cls = cf := by
      obtain ⟨_, _, c', _, _, _, -, -, hf', -, -, -, hown2, -⟩ := Cond.laysFinal_spec hlay
      have e1 : c' = cf := by have := hi.symm.trans hf'; simp at this; exact this.1.symm
      rw [hdecl] at hown2
      rw [← e1]; exact Option.some.inj (hown.symm.trans hown2)
    have h6 := u_fits hfc hkC hkind (Or.inr hlay) hi hd hn hfit
    exact W.putFinK hx hb hown (am_word C hW hw rfl args) hi hst hcf hin (by rw [q2]; exact h6) q1 q3 (by rw [hsl]; exact k2_hasslot (q4 k hk)) rfl rfl hdg fun H' e1 e2 e3 => kk H' _ (fin H' e1 e2 e3)
end AMW
end
section
section AMX
variable {p : Program} {l : Launch} {e : Env} {R : Room} {s : State} {m : MethodId} {args : Array Value} {below : List Frame} {meth : Method} {c : Code} {H : Heap} {locs : List Loc} {cells slots : Nat} {Q : State → Prop}
variable {cc : ByteArray} {pc : Nat} {arr : Array Slot} {rest : List Value} {D : va_G} {ct : Nat → ClassId} {ro : Nat → Nat} {b : Nat} {s0 : State} {L : Nat} {xs : Nat → Int32} {M : am_M} {own : String}
theorem am_badE {M : am_M} {q : Nat} {i : Int32} (h : am_bad M q i = false) : ¬ i < 0 ∧ i.toNatClampNeg < (am_sh M q).2 := by
  unfold am_bad at h
  rw [Bool.or_eq_false_iff, decide_eq_false_iff_not, decide_eq_false_iff_not] at h
  exact ⟨h.1, Nat.not_le.mp h.2⟩
theorem am_isrf (t : Nat) (h4 : 4 ≤ t) (h : t ≤ 6) : (am_tys t).isReference = true := by
  rcases (by omega : t = 4 ∨ t = 5 ∨ t = 6) with rfl | rfl | rfl <;> rfl
theorem am_Wald (hx : p.tables.exec = Jvm.exec) (hb : c.code = cc) (C : am_C0 D ct ro b s0 L xs) (hW : s0.WarmedH s.vm) (hG : am_G D ct ro s0 L xs M H) {q t : Nat} {i : Int32} {ins : Instr} (ht : t ≤ 6) (hq : (am_sh M q).1 = 100 + t) (hi : am_bad M q i = false)
    (hins : (t = 0 ∧ ins = .iaload) ∨ (t = 1 ∧ ins = .laload) ∨ ((t = 2 ∨ t = 3) ∧ ins = .baload) ∨ (4 ≤ t ∧ ins = .aaload)) (hdg : decode cc pc = .ok (ins, 1))
    (kk : W p l e R s m args below meth c H locs cells slots Q (F0 m (pc + 1) arr (am_rd (am_ad s0 ro) M q i.toNatClampNeg (am_tys t) :: rest))) : W p l e R s m args below meth c H locs cells slots Q (F0 m pc arr (.int i :: .ref (am_ad s0 ro q) :: rest)) := by
  obtain ⟨cell, c1, c2, c3, c4, c5, c6⟩ := am_row C hW hG ht hq
  obtain ⟨b1, b2⟩ := am_badE hi
  have hin : ¬ (i < 0 ∨ cell.slots.size ≤ i.toNatClampNeg) := by
    rintro (z | z)
    · exact b1 z
    · omega
  rcases hins with ⟨rfl, rfl⟩ | ⟨rfl, rfl⟩ | ⟨rfl | rfl, rfl⟩ | ⟨h4, rfl⟩
  · exact W.iald hx hb c1 c2 c3 hin (c6 _ b2) rfl rfl hdg kk
  · exact W.lald hx hb c1 c2 c3 hin (c6 _ b2) rfl rfl hdg kk
  · exact W.bald hx hb c1 c2 c3 hin (c6 _ b2) rfl rfl hdg kk
  · exact W.zald hx hb c1 c2 c3 hin (c6 _ b2) rfl rfl hdg kk
  · exact W.aald hx hb c1 c2 (am_isrf t h4 ht) c3 hin (c6 _ b2) rfl rfl hdg kk
theorem am_Wist (hx : p.tables.exec = Jvm.exec) (hb : c.code = cc) (C : am_C0 D ct ro b s0 L xs) (hW : s0.WarmedH s.vm) (hG : am_G D ct ro s0 L xs M H) {q t : Nat} {i x : Int32} {ins : Instr} (h0 : am_R0 ≤ q) (ht : t = 0 ∨ t = 2 ∨ t = 3) (hq : (am_sh M q).1 = 100 + t) (hi : am_bad M q i = false)
    (hins : (t = 0 ∧ ins = .iastore) ∨ ((t = 2 ∨ t = 3) ∧ ins = .bastore)) (hdg : decode cc pc = .ok (ins, 1))
    (kk : ∀ (H' : Heap) (j : Nat), am_G D ct ro s0 L xs (am_wr M q i.toNatClampNeg (.int (am_nar (100 + t) x))) H' → W p l e R s m args below meth c H' (locs ++ [⟨am_ad s0 ro q, j⟩]) cells slots Q (F0 m (pc + 1) arr rest)) : W p l e R s m args below meth c H locs cells slots Q (F0 m pc arr (.int x :: .int i :: .ref (am_ad s0 ro q) :: rest)) := by
  have ht6 : t ≤ 6 := by omega
  obtain ⟨-, c1⟩ := am_rowW hG h0 ht6 hq
  have c2 := arrOfT_moved hW.alike (C.2.2.1 t ht6).1 (am_sh M q).2 (fun j => am_rd (am_ad s0 ro) M q j (am_tys t))
  obtain ⟨b1, b2⟩ := am_badE hi
  have hin : ¬ (i < 0 ∨ (arrV (ct t) (am_sh M q).2 (fun j => am_rd (am_ad s0 ro) M q j (am_tys t))).slots.size ≤ i.toNatClampNeg) := by
    rw [arrV_size]
    rintro (z | z)
    · exact b1 z
    · omega
  rcases hins with ⟨rfl, rfl⟩ | ⟨rfl | rfl, rfl⟩
  · exact W.iast hx hb c1 c2 (fun z => by cases z) hin rfl rfl hdg fun H' e1 e2 e3 => kk H' _ (am_G_st hG h0 ht6 hq (by simp [am_tys, am_rd, am_wr, am_up, am_nar]) e1 e2 e3)
  · exact W.bast hx hb c1 c2 (fun z => by cases z) hin rfl rfl hdg fun H' e1 e2 e3 => kk H' _ (am_G_st hG h0 ht6 hq (by simp [am_tys, am_rd, am_wr, am_up, am_nar, vp_nar]; rfl) e1 e2 e3)
  · exact W.zast hx hb c1 c2 (fun z => by cases z) hin rfl rfl hdg fun H' e1 e2 e3 => kk H' _ (am_G_st hG h0 ht6 hq (by simp [am_tys, am_rd, am_wr, am_up, am_nar, vp_nar]; rfl) e1 e2 e3)
theorem am_Wlst (hx : p.tables.exec = Jvm.exec) (hb : c.code = cc) (C : am_C0 D ct ro b s0 L xs) (hW : s0.WarmedH s.vm) (hG : am_G D ct ro s0 L xs M H) {q : Nat} {i : Int32} {x : Int64} (h0 : am_R0 ≤ q) (hq : (am_sh M q).1 = 101) (hi : am_bad M q i = false) (hdg : decode cc pc = .ok (.lastore, 1))
    (kk : ∀ (H' : Heap) (j : Nat), am_G D ct ro s0 L xs (am_wr M q i.toNatClampNeg (.long x)) H' → W p l e R s m args below meth c H' (locs ++ [⟨am_ad s0 ro q, j⟩]) cells slots Q (F0 m (pc + 1) arr rest)) : W p l e R s m args below meth c H locs cells slots Q (F0 m pc arr (.long x :: .int i :: .ref (am_ad s0 ro q) :: rest)) := by
  obtain ⟨-, c1⟩ := am_rowW (t := 1) hG h0 (by decide) hq
  have c2 := arrOfT_moved hW.alike (C.2.2.1 1 (by decide)).1 (am_sh M q).2 (fun j => am_rd (am_ad s0 ro) M q j (am_tys 1))
  obtain ⟨b1, b2⟩ := am_badE hi
  have hin : ¬ (i < 0 ∨ (arrV (ct 1) (am_sh M q).2 (fun j => am_rd (am_ad s0 ro) M q j (am_tys 1))).slots.size ≤ i.toNatClampNeg) := by
    rw [arrV_size]
    rintro (z | z)
    · exact b1 z
    · omega
  exact W.last hx hb c1 c2 (fun z => by cases z) hin rfl rfl hdg fun H' e1 e2 e3 => kk H' _ (am_G_st (t := 1) hG h0 (by decide) hq (by simp [am_tys, am_rd, am_wr, am_up]) e1 e2 e3)
theorem am_assign {U : State} {C : String} {cC : ClassId} (h : ClassAt U C cC) : U.vm.assignable cC cC = true := by
  obtain ⟨-, k, hk, hkind⟩ := h
  simp [Vm.assignable, Vm.assignableAux, hk, hkind, Vm.isSubclass, Vm.isSubclassAux]
theorem am_Wast (hx : p.tables.exec = Jvm.exec) (hb : c.code = cc) (C : am_C0 D ct ro b s0 L xs) (hW : s0.WarmedH s.vm) (hG : am_G D ct ro s0 L xs M H) {q t ci v : Nat} {i : Int32} (h0 : am_R0 ≤ q) (htc : (t = 4 ∧ ci = 1) ∨ (t = 5 ∧ ci = 5) ∨ (t = 6 ∧ ci = 0)) (hq : (am_sh M q).1 = 100 + t) (hv : (am_sh M v).1 = ci) (hi : am_bad M q i = false) (hdg : decode cc pc = .ok (.aastore, 1))
    (kk : ∀ (H' : Heap) (j : Nat), am_G D ct ro s0 L xs (am_wr M q i.toNatClampNeg (.ref v)) H' → W p l e R s m args below meth c H' (locs ++ [⟨am_ad s0 ro q, j⟩]) cells slots Q (F0 m (pc + 1) arr rest)) : W p l e R s m args below meth c H locs cells slots Q (F0 m pc arr (.ref (am_ad s0 ro v) :: .int i :: .ref (am_ad s0 ro q) :: rest)) := by
  have ht6 : t ≤ 6 := by omega
  have hci : ci < 8 := by omega
  have hty : am_tys t = .object (am_cn ci) := by rcases htc with ⟨rfl, rfl⟩ | ⟨rfl, rfl⟩ | ⟨rfl, rfl⟩ <;> rfl
  obtain ⟨-, c1⟩ := am_rowW hG h0 ht6 hq
  obtain ⟨-, hra⟩ := C.2.2.1 t ht6
  have hra := hra.moved hW.alike
  rw [hty] at hra
  obtain ⟨kA, comp, k1, k2, k3, -⟩ := hra
  have hcls := (u_Kn_moved hW.alike (C.2.1 ci hci)).2
  have hcomp : comp = D.1 ci := Option.some.inj (k3.symm.trans hcls.1)
  subst hcomp
  obtain ⟨kC, hkC, -⟩ := hcls.2
  obtain ⟨-, -, cellV, g1, g2, g3, -⟩ := am_obj hG hci hv
  obtain ⟨b1, b2⟩ := am_badE hi
  refine W.aast hx hb c1 (fun q h => by cases h) (fun h => by cases h) k1 k2 rfl hkC ⟨b1, by rw [arrV_size]; exact b2⟩ g1 (fun q h => by rw [g3] at h; cases h) (by rw [g2]; exact hkC) (by rw [g2]; exact am_assign hcls) rfl rfl hdg fun H' e1 e2 e3 => kk H' _ (am_G_st hG h0 ht6 hq ?_ e1 e2 e3)
  rw [hty]
  simp [am_rd, am_wr, am_up, va_rf]
theorem am_Walen (hx : p.tables.exec = Jvm.exec) (hb : c.code = cc) (C : am_C0 D ct ro b s0 L xs) (hW : s0.WarmedH s.vm) (hG : am_G D ct ro s0 L xs M H) {q : Nat} (h1 : 100 ≤ (am_sh M q).1) (h2 : (am_sh M q).1 ≤ 106) (hdg : decode cc pc = .ok (.arraylength, 1))
    (kk : W p l e R s m args below meth c H locs cells slots Q (F0 m (pc + 1) arr (.int (Int32.ofNat (am_sh M q).2) :: rest))) : W p l e R s m args below meth c H locs cells slots Q (F0 m pc arr (.ref (am_ad s0 ro q) :: rest)) := by
  obtain ⟨cell, c1, c2, c3, c4, c5, c6⟩ := am_row (q := q) C hW hG (t := (am_sh M q).1 - 100) (by omega) (by omega)
  exact W.alen hx hb c1 c2 c5 rfl rfl hdg kk
def am_defOK : FieldType → Bool
  | .float | .double => false
  | _ => true
theorem am_def {ad : Nat → Nat} {M : am_M} {q k : Nat} (h : M.1 q k = 0 ∧ M.2.1 q k = 0 ∧ M.2.2.1 q k = none) {ty : FieldType} (ht : am_defOK ty = true) : defaultValue ty = am_rd ad M q k ty := by
  obtain ⟨h1, h2, h3⟩ := h
  cases ty <;> simp_all [am_defOK, am_rd, defaultValue, va_rf]
theorem am_defF (ci : Nat) (h : ci < 8) : ∀ k, k < am_fnum ci → am_defOK (am_fty ci k) = true :=
  am_8 (P := fun ci => ∀ k, k < am_fnum ci → am_defOK (am_fty ci k) = true) (by decide) (by decide) (by decide) (by decide) (by decide) (by decide) (by decide) (by decide +kernel) ci h
theorem am_Wnew (hx : p.tables.exec = Jvm.exec) (hb : c.code = cc) (C : am_C0 D ct ro b s0 L xs) (hW : s0.WarmedH s.vm) (hown : s.vm.findClass own = some m.cls) (hG : am_G D ct ro s0 L xs M H) {ci x w w2 w3 : Nat} (hci : ci < 8) (h1 : am_w w (.classLink own x (am_cn ci)) = true) (h2 : am_w w2 (.instantiable (am_cn ci) (am_fnum ci)) = true) (h3 : am_w w3 (.initialized (am_cn ci)) = true)
    (hc : cells + 1 ≤ R.cells) (hs : slots + am_fnum ci ≤ R.slots) (hdg : decode cc pc = .ok (.new x, 3))
    (kk : ∀ H' : Heap, am_G D ct ro s0 L xs (am_new M ci (am_fnum ci) (am_fnum ci)) H' → W p l e R s m args below meth c H' locs (cells + 1) (slots + am_fnum ci) Q (F0 m (pc + 3) arr (.ref (am_ad s0 ro (am_nx M)) :: rest))) : W p l e R s m args below meth c H locs cells slots Q (F0 m pc arr rest) := by
  have hKn := u_Kn_moved hW.alike (C.2.1 ci hci)
  have hsz : am_ad s0 ro (am_nx M) = H.size := by
    rw [am_adW hG.2.1]
    have := hG.1
    have := hG.2.1
    omega
  refine W.newcK hx hb hown (am_word C hW h1 rfl args) (am_word C hW h2 rfl args) (am_word C hW h3 rfl args) rfl hdg hc hs hKn.2.1 rfl fun H' kC hkC e1 z1 o1 => ?_
  have hG' : am_G D ct ro s0 L xs (am_new M ci (am_fnum ci) (am_fnum ci)) H' := by
    refine am_G_new hG _ _ _ z1 o1 (Or.inl ?_)
    have hsh : am_sh (am_new M ci (am_fnum ci) (am_fnum ci)) (am_nx M) = (ci, am_fnum ci) := by
      show (if am_nx M = M.2.2.2.2.1 then (ci, am_fnum ci) else M.2.2.2.1 (am_nx M)) = _
      exact if_pos rfl
    rw [hsh, hsz]
    refine ⟨hci, t_OB.to (u_born (ws := u_ws (am_cn ci) (am_fT ci) (am_fnum ci)) (args := args) (am_fty ci) (fun w hw => ?_) (fun _ h => h) hKn hkC e1 (am_ftyE ci hci)) (fun k hk => am_def ((hG.2.2.2.2.2 _ (Nat.le_refl _)).2 k) (am_defF ci hci k hk))⟩
    obtain ⟨k, hk, rfl⟩ := List.mem_map.mp hw
    exact am_layW C hW hci (List.mem_range.mp hk)
  have := kk H' hG'
  rw [hsz] at this
  exact this
theorem am_Wnewa (hx : p.tables.exec = Jvm.exec) (hb : c.code = cc) (C : am_C0 D ct ro b s0 L xs) (hW : s0.WarmedH s.vm) (hG : am_G D ct ro s0 L xs M H) {t w : Nat} {a : ArrayType} {n : Int32} (ht : t ≤ 3) (hty : newarray.typeOf a = am_tys t) (h1 : am_w w (.arrayClass (newarray.typeOf a)) = true) (hn : ¬ n < 0) (hn2 : ¬ 65536 < n.toNatClampNeg)
    (hc : cells + 1 ≤ R.cells) (hs : slots + n.toNatClampNeg ≤ R.slots) (hdg : decode cc pc = .ok (.newarray a, 2))
    (kk : ∀ H' : Heap, am_G D ct ro s0 L xs (am_new M (100 + t) n.toNatClampNeg n.toNatClampNeg) H' → W p l e R s m args below meth c H' locs (cells + 1) (slots + n.toNatClampNeg) Q (F0 m (pc + 2) arr (.ref (am_ad s0 ro (am_nx M)) :: rest))) : W p l e R s m args below meth c H locs cells slots Q (F0 m pc arr (.int n :: rest)) := by
  have hsz : am_ad s0 ro (am_nx M) = H.size := by
    rw [am_adW hG.2.1]
    have := hG.1
    have := hG.2.1
    omega
  have hb8 : componentBytes (newarray.typeOf a) ≤ 8 := by cases a <;> decide
  refine va_newaK hx hb (am_word C hW h1 rfl args) rfl hdg rfl hn rfl (Nat.le_trans (Nat.mul_le_mul (Nat.not_lt.mp hn2) hb8) (by decide)) hc hs rfl fun H' cA e1 z1 o1 hA hN => ?_
  have hcA : cA = ct t := by
    have hra := (C.2.2.1 t (by omega)).2.moved hW.alike
    rw [hty] at hN
    match t, ht, hra, hN with
    | 0, _, hra, hN => exact Option.some.inj (hN.symm.trans hra)
    | 1, _, hra, hN => exact Option.some.inj (hN.symm.trans hra)
    | 2, _, hra, hN => exact Option.some.inj (hN.symm.trans hra)
    | 3, _, hra, hN => exact Option.some.inj (hN.symm.trans hra)
    | k + 4, h, _, _ => omega
  subst hcA
  have hG' : am_G D ct ro s0 L xs (am_new M (100 + t) n.toNatClampNeg n.toNatClampNeg) H' := by
    refine am_G_new hG _ _ _ z1 o1 (Or.inr ?_)
    have hsh : am_sh (am_new M (100 + t) n.toNatClampNeg n.toNatClampNeg) (am_nx M) = (100 + t, n.toNatClampNeg) := by
      show (if am_nx M = M.2.2.2.2.1 then (100 + t, n.toNatClampNeg) else M.2.2.2.1 (am_nx M)) = _
      exact if_pos rfl
    rw [hsh, hsz]
    refine ⟨by show 100 ≤ 100 + t; omega, by show 100 + t ≤ 106; omega, ?_⟩
    rw [e1, hty, show (100 + t, n.toNatClampNeg).1 - 100 = t by show 100 + t - 100 = t; omega]
    congr 2
    funext j
    refine am_def ((hG.2.2.2.2.2 _ (Nat.le_refl _)).2 j) ?_
    match t, ht with
    | 0, _ => rfl
    | 1, _ => rfl
    | 2, _ => rfl
    | 3, _ => rfl
    | k + 4, h => omega
  have := kk H' hG'
  rw [hsz] at this
  exact this
theorem am_Wanew (hx : p.tables.exec = Jvm.exec) (hb : c.code = cc) (C : am_C0 D ct ro b s0 L xs) (hW : s0.WarmedH s.vm) (hown : s.vm.findClass own = some m.cls) (hG : am_G D ct ro s0 L xs M H) {t x w w2 : Nat} {Cn : String} {n : Int32} (ht : 4 ≤ t ∧ t ≤ 6) (hty : am_tys t = .object Cn) (h1 : am_w w (.classLink own x Cn) = true) (h2 : am_w w2 (.arrayOver (.object Cn)) = true) (hn : ¬ n < 0) (hn2 : ¬ 65536 < n.toNatClampNeg)
    (hc : cells + 1 ≤ R.cells) (hs : slots + n.toNatClampNeg ≤ R.slots) (hdg : decode cc pc = .ok (.anewarray x, 3))
    (kk : ∀ H' : Heap, am_G D ct ro s0 L xs (am_new M (100 + t) n.toNatClampNeg n.toNatClampNeg) H' → W p l e R s m args below meth c H' locs (cells + 1) (slots + n.toNatClampNeg) Q (F0 m (pc + 3) arr (.ref (am_ad s0 ro (am_nx M)) :: rest))) : W p l e R s m args below meth c H locs cells slots Q (F0 m pc arr (.int n :: rest)) := by
  have hsz : am_ad s0 ro (am_nx M) = H.size := by
    rw [am_adW hG.2.1]
    have := hG.1
    have := hG.2.1
    omega
  have hAO : va_AO Cn s := (va_AO.of (C.1 _ (List.mem_of_getElem? (am_wE h2)))).moved hW.alike
  refine W.anew hx hb hown (am_word C hW h1 rfl args) (va_AO.use hAO) rfl hdg rfl hn (Nat.le_trans (Nat.mul_le_mul_right 4 (Nat.not_lt.mp hn2)) (by decide)) hc hs fun cA kA comp f1 f2 f3 f4 => ?_
  generalize hH1 : H.push ({ cls := cA, slots := Array.replicate n.toNatClampNeg .null, vm := .none } : Cell) = H'
  have z1 : H'.size = H.size + 1 := by rw [← hH1, Array.size_push]
  have e1 : H'[H.size]? = some (arrV cA n.toNatClampNeg (fun _ => .null)) := by rw [← hH1, Array.getElem?_push_size, ← arrV_new]
  have o1 : ∀ q : Nat, q < H.size → H'[q]? = H[q]? := fun q hq => by rw [← hH1, Array.getElem?_push, if_neg (Nat.ne_of_lt hq)]
  have hcA : cA = ct t := by
    have hra := (C.2.2.1 t (by omega)).2.moved hW.alike
    rw [hty] at hra
    obtain ⟨_, _, -, -, -, q4⟩ := hra
    exact Option.some.inj (f1.symm.trans q4)
  subst hcA
  have hG' : am_G D ct ro s0 L xs (am_new M (100 + t) n.toNatClampNeg n.toNatClampNeg) H' := by
    refine am_G_new hG _ _ _ z1 o1 (Or.inr ?_)
    have hsh : am_sh (am_new M (100 + t) n.toNatClampNeg n.toNatClampNeg) (am_nx M) = (100 + t, n.toNatClampNeg) := by
      show (if am_nx M = M.2.2.2.2.1 then (100 + t, n.toNatClampNeg) else M.2.2.2.1 (am_nx M)) = _
      exact if_pos rfl
    rw [hsh, hsz]
    refine ⟨by show 100 ≤ 100 + t; omega, by show 100 + t ≤ 106; omega, ?_⟩
    rw [e1, show (100 + t, n.toNatClampNeg).1 - 100 = t by show 100 + t - 100 = t; omega, hty]
    congr 2
    funext j
    exact am_def (ty := .object Cn) ((hG.2.2.2.2.2 _ (Nat.le_refl _)).2 j) rfl
  have := kk H' hG'
  rw [hsz] at this
  exact this
theorem am_Wgets (hx : p.tables.exec = Jvm.exec) (hb : c.code = cc) (C : am_C0 D ct ro b s0 L xs) (hW : s0.WarmedH s.vm) (hown : s.vm.findClass own = some m.cls) (hG : am_G D ct ro s0 L xs M H) {q x w : Nat} (hq : q < 4) (h1 : am_w w (.fieldLink own x "AirByYard" (am_stN q) "[I") = true) (hdg : decode cc pc = .ok (.getstatic x, 3))
    (kk : W p l e R s m args below meth c H locs cells slots Q (F0 m (pc + 3) arr (.ref (am_ad s0 ro q) :: rest))) : W p l e R s m args below meth c H locs cells slots Q (F0 m pc arr rest) := by
  have hZ := va_Z.moved hW.alike (C.2.2.2.2.1 q hq)
  obtain ⟨cf, kf, fi, f, a, cell, z1, z2, z3, z4, z5, z6, z7, z8⟩ := hZ
  have hlt : a < s0.heap.size := (Array.getElem?_eq_some_iff.mp z5).1
  rw [am_adR (show q < am_R0 by unfold am_R0; omega)] at kk
  exact W.gets hx hb hown (am_word C hW h1 rfl args) z1 z2 z3 z4 (by rw [hG.2.2.1 a hlt]; exact z5) (fun h => by rw [h] at z6; cases z6) z7 rfl hdg kk
theorem am_Wldcs (hx : p.tables.exec = Jvm.exec) (hb : c.code = cc) (C : am_C0 D ct ro b s0 L xs) (hW : s0.WarmedH s.vm) (hown : s.vm.findClass own = some m.cls) {q x : Nat} (h1 : 4 ≤ q) (h2 : q < 8) (ho : own = RX2) (hxx : x = am_stx q) (hdg : decode cc pc = .ok (.ldc x, 2))
    (kk : W p l e R s m args below meth c H locs cells slots Q (F0 m (pc + 2) arr (.ref (am_ad s0 ro q) :: rest))) : W p l e R s m args below meth c H locs cells slots Q (F0 m pc arr rest) := by
  subst ho
  subst hxx
  rw [am_adR (show q < am_R0 by unfold am_R0; omega)] at kk
  exact va_ldcS hx hb hown ((C.2.2.2.2.2.1 q h1 h2).warm hW) hdg kk
end AMX
end
section
/-! a method's own variables -/
def am_lv (ad : Nat → Nat) (ls : List Value) : List (Nat × Value) := (List.range ls.length).filterMap fun i => match ls[i]? with
  | some v => if am_isJ v then none else some (i, am_cv ad v)
  | none => none
theorem am_lv_mem {ad : Nat → Nat} {ls : List Value} {q : Nat × Value} : q ∈ am_lv ad ls ↔ ∃ v : Value, ls[q.1]? = some v ∧ am_isJ v = false ∧ q.2 = am_cv ad v := by
  unfold am_lv
  rw [List.mem_filterMap]
  constructor
  · rintro ⟨i, hi, h⟩
    cases hv : ls[i]? with
    | none => rw [hv] at h; cases h
    | some v =>
      rw [hv] at h
      cases hj : am_isJ v with
      | true => simp [hj] at h
      | false =>
        simp [hj] at h
        subst h
        exact ⟨v, hv, hj, rfl⟩
  · rintro ⟨v, hv, hj, h⟩
    refine ⟨q.1, List.mem_range.mpr (List.getElem?_eq_some_iff.mp hv).1, ?_⟩
    rw [hv]
    simp [hj, ← h]
theorem am_lr_has {ad : Nat → Nat} {ls : List Value} {arr : Array Slot} {nL : Nat} (h : am_lr ad ls arr nL) : lv_has arr nL (am_lv ad ls) := by
  refine ⟨h.1, h.2.1, fun q hq => ?_⟩
  obtain ⟨v, h1, h2, h3⟩ := am_lv_mem.mp hq
  rw [h3]
  exact h.2.2.2 _ _ h1 h2
theorem am_has_lr {ad : Nat → Nat} {ls : List Value} {arr : Array Slot} {nL : Nat} {l : List (Nat × Value)} (h : lv_has arr nL l) (hl : ls.length = nL) (hm : ∀ (i : Nat) (v : Value), ls[i]? = some v → am_isJ v = false → (i, am_cv ad v) ∈ l) : am_lr ad ls arr nL :=
  ⟨h.1, h.2.1, hl, fun i v h1 h2 => h.2.2 _ (hm i v h1 h2)⟩
theorem am_lget {ad : Nat → Nat} {ls : List Value} {arr : Array Slot} {nL : Nat} (h : am_lr ad ls arr nL) {i : Nat} {v : Value} (hv : ls[i]? = some v) (hj : am_isJ v = false) : arr[i]? = some (.val (am_cv ad v)) := h.2.2.2 i v hv hj
theorem am_inv_len (ls : List Value) (i : Nat) : (am_inv ls i).length = ls.length := by
  cases i with
  | zero => rfl
  | succ i =>
    simp only [am_inv]
    split
    · split
      · simp
      · rfl
    · rfl
theorem am_inv_get {ls : List Value} {i j : Nat} {v : Value} (h : (am_inv ls i)[j]? = some v) (hj : am_isJ v = false) : ls[j]? = some v ∧ ¬ (j + 1 = i ∧ v.category = 2) := by
  cases i with
  | zero => exact ⟨h, by omega⟩
  | succ i =>
    cases hv : ls[i]? with
    | none =>
      simp only [am_inv, hv] at h
      refine ⟨h, fun z => ?_⟩
      have e : j = i := by omega
      subst e
      rw [hv] at h
      cases h
    | some w =>
      simp only [am_inv, hv] at h
      by_cases hc : w.category = 2
      · simp only [hc, if_true] at h
        by_cases e : j = i
        · subst e
          have hl : j < ls.length := (List.getElem?_eq_some_iff.mp hv).1
          rw [List.getElem?_set_self hl] at h
          cases h
          exact absurd hj (by decide)
        · rw [List.getElem?_set_ne (fun z => e z.symm)] at h
          exact ⟨h, fun z => e (by omega)⟩
      · simp only [hc, if_false] at h
        refine ⟨h, fun z => ?_⟩
        have e : j = i := by omega
        subst e
        rw [hv] at h
        cases h
        exact hc z.2
theorem am_lset1 {ad : Nat → Nat} {ls ls' : List Value} {arr : Array Slot} {nL i : Nat} {v : Value} (hl : ls.length = nL) (hs : am_set1 ls i v = some ls')
    (h : lv_has arr nL ((i, am_cv ad v) :: (am_lv ad ls).filter (fun q => !(q.1 == i) && !(q.1 + 1 == i && q.2.category == 2)))) : i < nL ∧ am_lr ad ls' arr nL := by
  unfold am_set1 at hs
  split at hs
  next hi =>
    cases hs
    refine ⟨by omega, am_has_lr h (by rw [List.length_set, am_inv_len, hl]) fun j w h1 h2 => ?_⟩
    by_cases e : j = i
    · subst e
      rw [List.getElem?_set_self (by rw [am_inv_len]; exact hi)] at h1
      cases h1
      exact List.mem_cons_self
    · rw [List.getElem?_set_ne (fun z => e z.symm)] at h1
      obtain ⟨g1, g2⟩ := am_inv_get h1 h2
      refine List.mem_cons_of_mem _ (List.mem_filter.mpr ⟨am_lv_mem.mpr ⟨w, g1, h2, rfl⟩, ?_⟩)
      simp only [am_cat, Bool.and_eq_true, Bool.not_eq_true', beq_eq_false_iff_ne, Bool.and_eq_false_iff]
      refine ⟨e, ?_⟩
      by_cases e2 : j + 1 = i
      · exact Or.inr fun z => g2 ⟨e2, z⟩
      · exact Or.inl e2
  next => cases hs
theorem am_lset1i {ls ls' : List Value} {i : Nat} {v : Value} (hs : am_set1 ls i v = some ls') : i < ls.length := by
  unfold am_set1 at hs
  split at hs
  · assumption
  · cases hs
theorem am_lset2i {ls ls' : List Value} {i : Nat} {v : Value} (hs : am_set2 ls i v = some ls') : i + 1 < ls.length := by
  unfold am_set2 at hs
  split at hs
  · assumption
  · cases hs
theorem am_lset2 {ad : Nat → Nat} {ls ls' : List Value} {arr : Array Slot} {nL i : Nat} {v : Value} (hl : ls.length = nL) (hs : am_set2 ls i v = some ls')
    (h : lv_has arr nL ((i, am_cv ad v) :: (am_lv ad ls).filter (fun q => !(q.1 == i) && (!(q.1 == i + 1) && !(q.1 + 1 == i && q.2.category == 2))))) : am_lr ad ls' arr nL := by
  unfold am_set2 at hs
  split at hs
  next hi =>
    cases hs
    refine am_has_lr h (by rw [List.length_set, List.length_set, am_inv_len, hl]) fun j w h1 h2 => ?_
    by_cases e1 : j = i + 1
    · subst e1
      rw [List.getElem?_set_self (by rw [List.length_set, am_inv_len]; exact hi)] at h1
      cases h1
      exact absurd h2 (by decide)
    · rw [List.getElem?_set_ne (fun z => e1 z.symm)] at h1
      by_cases e : j = i
      · subst e
        rw [List.getElem?_set_self (by rw [am_inv_len]; omega)] at h1
        cases h1
        exact List.mem_cons_self
      · rw [List.getElem?_set_ne (fun z => e z.symm)] at h1
        obtain ⟨g1, g2⟩ := am_inv_get h1 h2
        refine List.mem_cons_of_mem _ (List.mem_filter.mpr ⟨am_lv_mem.mpr ⟨w, g1, h2, rfl⟩, ?_⟩)
        simp only [am_cat, Bool.and_eq_true, Bool.not_eq_true', beq_eq_false_iff_ne, Bool.and_eq_false_iff]
        refine ⟨e, e1, ?_⟩
        by_cases e2 : j + 1 = i
        · exact Or.inr fun z => g2 ⟨e2, z⟩
        · exact Or.inl e2
  next => cases hs
theorem am_lay_args (ad : Nat → Nat) : ∀ (as : List Value) (k i : Nat) (v : Value), (am_lay as)[i]? = some v → am_isJ v = false → (k + i, am_cv ad v) ∈ lv_args k (as.map (am_cv ad)) := by
  intro as
  induction as with
  | nil => intro k i v h; simp [am_lay] at h
  | cons a as ih =>
    intro k i v h hj
    unfold am_lay at h
    by_cases hc : a.category = 2
    · rw [if_pos hc] at h
      rw [List.map_cons]
      unfold lv_args
      rw [am_cat, if_pos hc]
      match i, h with
      | 0, h => cases h; exact List.mem_cons_self
      | 1, h => cases h; exact absurd hj (by decide)
      | i + 2, h =>
        have := ih (k + 2) i v (by simpa using h) hj
        rw [show k + (i + 2) = k + 2 + i by omega]
        exact List.mem_cons_of_mem _ this
    · rw [if_neg hc] at h
      rw [List.map_cons]
      unfold lv_args
      rw [am_cat, if_neg hc]
      match i, h with
      | 0, h => cases h; exact List.mem_cons_self
      | i + 1, h =>
        have := ih (k + 1) i v (by simpa using h) hj
        rw [show k + (i + 1) = k + 1 + i by omega]
        exact List.mem_cons_of_mem _ this
theorem am_lay_len (ad : Nat → Nat) : ∀ as : List Value, (lg_sl (as.map (am_cv ad))).length = (am_lay as).length := by
  intro as
  induction as with
  | nil => rfl
  | cons a as ih =>
    rw [List.map_cons]
    unfold am_lay
    have e : lg_sl (am_cv ad a :: as.map (am_cv ad)) = (if (am_cv ad a).category = 2 then [Slot.val (am_cv ad a), .second] else [.val (am_cv ad a)]) ++ lg_sl (as.map (am_cv ad)) := rfl
    rw [e, List.length_append, ih, am_cat]
    split <;> simp <;> omega
theorem am_entryL (ad : Nat → Nat) (as : List Value) {n : Nat} (h : (am_lay as).length ≤ n) : am_lr ad (am_entry as n) ((lg_sl (as.map (am_cv ad)) ++ List.replicate (n - (lg_sl (as.map (am_cv ad))).length) Slot.unset).toArray) n := by
  have hl := lv_entry (as.map (am_cv ad)) (n := n) (by rw [am_lay_len]; exact h)
  refine am_has_lr hl (by unfold am_entry; simp; omega) fun i v h1 h2 => ?_
  unfold am_entry at h1
  by_cases hi : i < (am_lay as).length
  · rw [List.getElem?_append_left hi] at h1
    have := am_lay_args ad as 0 i v h1 h2
    rwa [Nat.zero_add] at this
  · rw [List.getElem?_append_right (by omega)] at h1
    have := List.eq_of_mem_replicate (List.mem_of_getElem? h1)
    subst this
    exact absurd h2 (by decide)
end
section
theorem am_tgtE {co : List am_A} {pc t : Nat} {off : Int} (h : am_tgt co pc off t = true) : ∃ q : Nat, am_pc co t = some q ∧ (pc : Int) + off = (q : Int) := by
  unfold am_tgt at h
  cases hc : co[t]? with
  | none => rw [hc] at h; cases h
  | some a =>
    rw [hc] at h
    exact ⟨a.1, by simp [am_pc, hc], by simpa using h⟩
theorem am_ld0 {ls st : List Value} {j i : Nat} {M : am_M} {i' : Nat} {ls' st' : List Value} {M' : am_M} (h : am_ldL ls st j i M 0 = some (i', ls', st', M')) : ∃ x : Int32, ls[j]? = some (.int x) ∧ i' = i + 1 ∧ ls' = ls ∧ st' = .int x :: st ∧ M' = M := by
  unfold am_ldL at h
  split at h <;> first | (cases h; exact ⟨_, by assumption, rfl, rfl, rfl, rfl⟩) | (rename_i q; cases q) | cases h
theorem am_ld1 {ls st : List Value} {j i : Nat} {M : am_M} {i' : Nat} {ls' st' : List Value} {M' : am_M} (h : am_ldL ls st j i M 1 = some (i', ls', st', M')) : ∃ x : Int64, ls[j]? = some (.long x) ∧ i' = i + 1 ∧ ls' = ls ∧ st' = .long x :: st ∧ M' = M := by
  unfold am_ldL at h
  split at h <;> first | (cases h; exact ⟨_, by assumption, rfl, rfl, rfl, rfl⟩) | (rename_i q; cases q) | cases h
theorem am_ld2 {ls st : List Value} {j i : Nat} {M : am_M} {i' : Nat} {ls' st' : List Value} {M' : am_M} (h : am_ldL ls st j i M 2 = some (i', ls', st', M')) : (∃ x : Nat, ls[j]? = some (.ref x) ∧ i' = i + 1 ∧ ls' = ls ∧ st' = .ref x :: st ∧ M' = M) ∨ (ls[j]? = some .null ∧ i' = i + 1 ∧ ls' = ls ∧ st' = .null :: st ∧ M' = M) := by
  unfold am_ldL at h
  split at h <;> first | (cases h; exact Or.inl ⟨_, by assumption, rfl, rfl, rfl, rfl⟩) | (cases h; exact Or.inr ⟨by assumption, rfl, rfl, rfl, rfl⟩) | (rename_i q; cases q) | cases h
theorem am_st0 {ls st : List Value} {j i : Nat} {M : am_M} {i' : Nat} {ls' st' : List Value} {M' : am_M} (h : am_stL ls st j i M 0 = some (i', ls', st', M')) : ∃ (x : Int32) (st0 : List Value), st = .int x :: st0 ∧ am_set1 ls j (.int x) = some ls' ∧ i' = i + 1 ∧ st' = st0 ∧ M' = M := by
  unfold am_stL at h
  split at h <;> first | (obtain ⟨a, h1, h2⟩ := Option.map_eq_some_iff.mp h; cases h2; exact ⟨_, _, rfl, h1, rfl, rfl, rfl⟩) | (rename_i q; cases q) | cases h
theorem am_st1 {ls st : List Value} {j i : Nat} {M : am_M} {i' : Nat} {ls' st' : List Value} {M' : am_M} (h : am_stL ls st j i M 1 = some (i', ls', st', M')) : ∃ (x : Int64) (st0 : List Value), st = .long x :: st0 ∧ am_set2 ls j (.long x) = some ls' ∧ i' = i + 1 ∧ st' = st0 ∧ M' = M := by
  unfold am_stL at h
  split at h <;> first | (obtain ⟨a, h1, h2⟩ := Option.map_eq_some_iff.mp h; cases h2; exact ⟨_, _, rfl, h1, rfl, rfl, rfl⟩) | (rename_i q; cases q) | cases h
theorem am_st2 {ls st : List Value} {j i : Nat} {M : am_M} {i' : Nat} {ls' st' : List Value} {M' : am_M} (h : am_stL ls st j i M 2 = some (i', ls', st', M')) : ∃ (v : Value) (st0 : List Value), (v = .null ∨ ∃ x, v = .ref x) ∧ st = v :: st0 ∧ am_set1 ls j v = some ls' ∧ i' = i + 1 ∧ st' = st0 ∧ M' = M := by
  unfold am_stL at h
  split at h <;> first | (obtain ⟨a, h1, h2⟩ := Option.map_eq_some_iff.mp h; cases h2; exact ⟨_, _, Or.inr ⟨_, rfl⟩, rfl, h1, rfl, rfl, rfl⟩) | (obtain ⟨a, h1, h2⟩ := Option.map_eq_some_iff.mp h; cases h2; exact ⟨_, _, Or.inl rfl, rfl, h1, rfl, rfl, rfl⟩) | (rename_i q; cases q) | cases h
theorem am_ldE {M : am_M} {tag p : Nat} {i : Int32} {v : Value} {ls st : List Value} {pc i' : Nat} {ls' st' : List Value} {M' : am_M} (h : am_ld M tag p i v ls st pc = some (i', ls', st', M')) : (am_sh M p).1 = tag ∧ am_bad M p i = false ∧ i' = pc + 1 ∧ ls' = ls ∧ st' = v :: st ∧ M' = M := by
  unfold am_ld at h
  split at h
  next h1 =>
    split at h
    · cases h
    next h2 =>
      cases h
      exact ⟨h1, by simpa using h2, rfl, rfl, rfl, rfl⟩
  · cases h
theorem am_svE {M : am_M} {tag p : Nat} {i : Int32} {v : Value} {ls st : List Value} {pc i' : Nat} {ls' st' : List Value} {M' : am_M} (h : am_sv M tag p i v ls st pc = some (i', ls', st', M')) : (am_sh M p).1 = tag ∧ am_R0 ≤ p ∧ am_bad M p i = false ∧ i' = pc + 1 ∧ ls' = ls ∧ st' = st ∧ M' = am_wr M p i.toNatClampNeg v := by
  unfold am_sv at h
  split at h
  next h1 =>
    split at h
    · cases h
    next h2 =>
      cases h
      exact ⟨h1.1, h1.2, by simpa using h2, rfl, rfl, rfl, rfl⟩
  · cases h
theorem am_lt {α : Type} {P : α → Prop} {a : α} {locs : List α} (h : ∀ q ∈ locs, P q) (ha : P a) : ∀ q ∈ locs ++ [a], P q := by
  intro q hq
  rcases List.mem_append.mp hq with h1 | h1
  · exact h q h1
  · rw [List.mem_singleton] at h1
    rw [h1]
    exact ha
theorem am_lookE : ∀ (ps : List (Int × Int)) (ts : List Nat) (d : Int) (t : Nat) (x : Int) (co : List am_A) (pc : Nat), am_tgt co pc d t = true → am_zipT co pc (ps.map fun q => q.2) ts = true → ∃ q : Nat, am_pc co (am_look ps ts t x) = some q ∧ (pc : Int) + Op.lookupswitch.offset ps d x = (q : Int) := by
  intro ps
  induction ps with
  | nil =>
    intro ts d t x co pc h1 h2
    cases ts with
    | nil => exact am_tgtE h1
    | cons a ts => cases h2
  | cons a ps ih =>
    intro ts d t x co pc h1 h2
    cases ts with
    | nil => cases h2
    | cons u ts =>
      rw [List.map_cons] at h2
      unfold am_zipT at h2
      rw [Bool.and_eq_true] at h2
      unfold am_look Op.lookupswitch.offset
      by_cases e : x = a.1
      · rw [if_pos e, if_pos e.symm]
        exact am_tgtE h2.1
      · rw [if_neg e, if_neg (fun z => e z.symm)]
        exact ih ts d t x co pc h1 h2.2
theorem am_zipE : ∀ (os : List Int) (ts : List Nat) (co : List am_A) (pc n : Nat), am_zipT co pc os ts = true → n < ts.length → ∃ (o : Int) (q : Nat), os[n]? = some o ∧ am_pc co (ts.getD n 0) = some q ∧ (pc : Int) + o = (q : Int) := by
  intro os
  induction os with
  | nil =>
    intro ts co pc n h hn
    cases ts with
    | nil => simp at hn
    | cons a ts => cases h
  | cons o os ih =>
    intro ts co pc n h hn
    cases ts with
    | nil => cases h
    | cons u ts =>
      unfold am_zipT at h
      rw [Bool.and_eq_true] at h
      cases n with
      | zero =>
        obtain ⟨q, h1, h2⟩ := am_tgtE h.1
        exact ⟨o, q, rfl, h1, h2⟩
      | succ n =>
        obtain ⟨o', q, h1, h2, h3⟩ := ih ts co pc n h.2 (by simpa using hn)
        exact ⟨o', q, by simpa using h1, by simpa using h2, h3⟩
section AMS
variable {p : Program} {l : Launch} {e : Env} {R : Room} {s : State} {m : MethodId} {args : Array Value} {below : List Frame} {meth : Method} {c : Code} {H : Heap} {locs : List Loc} {cells slots : Nat} {Q : State → Prop}
variable {cc : ByteArray} {pc : Nat} {arr : Array Slot} {rest : List Value} {D : va_G} {ct : Nat → ClassId} {ro : Nat → Nat} {b : Nat} {s0 : State} {L : Nat} {xs : Nat → Int32} {M : am_M} {own nm : String} {ret : Option FieldType} {co : List am_A}
theorem am_Wif0 (hx : p.tables.exec = Jvm.exec) (hb : c.code = cc) {cd : Jvm.ClassFile.Cond} {off : Int} {x : Int32} {tgt i t : Nat} (hdg : decode cc pc = .ok (.ifCond cd off, 3)) (ht : (pc : Int) + off = (tgt : Int)) (h1 : am_pc co t = some tgt) (h2 : am_pc co (i + 1) = some (pc + 3))
    (kk : ∀ pc', am_pc co (if am_cond cd x 0 then t else i + 1) = some pc' → W p l e R s m args below meth c H locs cells slots Q (F0 m pc' arr rest)) : W p l e R s m args below meth c H locs cells slots Q (F0 m pc arr (.int x :: rest)) := by
  cases cd with
  | eq => exact lv_if_eq hx hb hdg ht (fun z => kk _ (by simp [am_cond, z, h1])) (fun z => kk _ (by simp [am_cond, z, h2]))
  | ne => exact lv_if_ne hx hb hdg ht (fun z => kk _ (by simp [am_cond, z, h1])) (fun z => kk _ (by simp [am_cond, z, h2]))
  | lt => exact lv_if_lt hx hb hdg ht (fun z => kk _ (by rw [show am_cond .lt x 0 = true from decide_eq_true z]; exact h1)) (fun z => kk _ (by rw [show am_cond .lt x 0 = false from decide_eq_false z]; exact h2))
  | ge => exact lv_if_ge hx hb hdg ht (fun z => kk _ (by rw [show am_cond .ge x 0 = true from decide_eq_true z]; exact h1)) (fun z => kk _ (by rw [show am_cond .ge x 0 = false from decide_eq_false z]; exact h2))
  | gt => exact lv_if_gt hx hb hdg ht (fun z => kk _ (by rw [show am_cond .gt x 0 = true from decide_eq_true z]; exact h1)) (fun z => kk _ (by rw [show am_cond .gt x 0 = false from decide_eq_false z]; exact h2))
  | le => exact lv_if_le hx hb hdg ht (fun z => kk _ (by rw [show am_cond .le x 0 = true from decide_eq_true z]; exact h1)) (fun z => kk _ (by rw [show am_cond .le x 0 = false from decide_eq_false z]; exact h2))
theorem am_Wif2 (hx : p.tables.exec = Jvm.exec) (hb : c.code = cc) {cd : Jvm.ClassFile.Cond} {off : Int} {x y : Int32} {tgt i t : Nat} (hdg : decode cc pc = .ok (.if_icmp cd off, 3)) (ht : (pc : Int) + off = (tgt : Int)) (h1 : am_pc co t = some tgt) (h2 : am_pc co (i + 1) = some (pc + 3))
    (kk : ∀ pc', am_pc co (if am_cond cd x y then t else i + 1) = some pc' → W p l e R s m args below meth c H locs cells slots Q (F0 m pc' arr rest)) : W p l e R s m args below meth c H locs cells slots Q (F0 m pc arr (.int y :: .int x :: rest)) := by
  cases cd with
  | eq => exact lv_icmp_eq hx hb hdg ht (fun z => kk _ (by simp [am_cond, z, h1])) (fun z => kk _ (by simp [am_cond, z, h2]))
  | ne => exact lv_icmp_ne hx hb hdg ht (fun z => kk _ (by simp [am_cond, z, h1])) (fun z => kk _ (by simp [am_cond, z, h2]))
  | lt => exact lv_icmp_lt hx hb hdg ht (fun z => kk _ (by rw [show am_cond .lt x y = true from decide_eq_true z]; exact h1)) (fun z => kk _ (by rw [show am_cond .lt x y = false from decide_eq_false z]; exact h2))
  | ge => exact lv_icmp_ge hx hb hdg ht (fun z => kk _ (by rw [show am_cond .ge x y = true from decide_eq_true z]; exact h1)) (fun z => kk _ (by rw [show am_cond .ge x y = false from decide_eq_false z]; exact h2))
  | gt => exact lv_icmp_gt hx hb hdg ht (fun z => kk _ (by rw [show am_cond .gt x y = true from decide_eq_true z]; exact h1)) (fun z => kk _ (by rw [show am_cond .gt x y = false from decide_eq_false z]; exact h2))
  | le => exact lv_icmp_le hx hb hdg ht (fun z => kk _ (by rw [show am_cond .le x y = true from decide_eq_true z]; exact h1)) (fun z => kk _ (by rw [show am_cond .le x y = false from decide_eq_false z]; exact h2))
set_option maxHeartbeats 8000000 in
theorem am_simple (hx : p.tables.exec = Jvm.exec) (hb : c.code = cc) (C : am_C0 D ct ro b s0 L xs) (hW : s0.WarmedH s.vm) (hown : s.vm.findClass own = some m.cls) (hnm : meth.name = nm) (hG : am_G D ct ro s0 L xs M H) {ls : List Value} {nL : Nat} (hlr : am_lr (am_ad s0 ro) ls arr nL) (hlo : ∀ q ∈ locs, s0.heap.size ≤ q.base)
    {i : Nat} {ins : Instr} {aux : List Nat} {st : List Value} (hd : decode cc pc = .ok (ins, am_len ins aux)) (hf : am_falls ins = true → am_pc co (i + 1) = some (pc + am_len ins aux)) (hk : am_chkI own nm ret co pc ins aux = true)
    {i' : Nat} {ls' st' : List Value} {M' : am_M} (h : am_step ins aux i ls st M = some (i', ls', st', M')) {c0 u0 : Nat} (hc0 : c0 ≤ am_nx M) (hu0 : u0 ≤ am_us M) (hc : am_nx M' - c0 ≤ R.cells) (hs : am_us M' - u0 ≤ R.slots)
    (kk : ∀ (H' : Heap) (locs' : List Loc) (arr' : Array Slot) (pc' : Nat), am_pc co i' = some pc' → am_G D ct ro s0 L xs M' H' → am_lr (am_ad s0 ro) ls' arr' nL → (∀ q ∈ locs', s0.heap.size ≤ q.base) →
      W p l e R s m args below meth c H' locs' (am_nx M' - c0) (am_us M' - u0) Q (F0 m pc' arr' (st'.map (am_cv (am_ad s0 ro))))) :
    W p l e R s m args below meth c H locs (am_nx M - c0) (am_us M - u0) Q (F0 m pc arr (st.map (am_cv (am_ad s0 ro)))) := by
  have adW : ∀ q, am_R0 ≤ q → s0.heap.size ≤ am_ad s0 ro q := fun q hq => by rw [am_adW hq]; omega
  unfold am_step at h
  split at h
  case h_1 =>
    cases h
    exact lv_iconst hx hb hd rfl (kk _ _ _ _ (hf rfl) hG hlr hlo)
  case h_2 =>
    cases h
    exact lv_bipush hx hb hd rfl (kk _ _ _ _ (hf rfl) hG hlr hlo)
  case h_3 =>
    cases h
    exact lv_sipush hx hb hd rfl (kk _ _ _ _ (hf rfl) hG hlr hlo)
  case h_4 =>
    cases h
    exact lv_lconst hx hb hd rfl (kk _ _ _ _ (hf rfl) hG hlr hlo)
  case h_5 =>
    cases h
    exact lv_null hx hb hd (kk _ _ _ _ (hf rfl) hG hlr hlo)
  case h_6 =>
    cases h
    exact lv_ldc hx hb hown (am_word C hW hk rfl args) hd (kk _ _ _ _ (hf rfl) hG hlr hlo)
  case h_7 =>
    cases h
    simp only [am_chkI, Bool.and_eq_true, decide_eq_true_eq] at hk
    exact am_Wldcs hx hb C hW hown hk.1.1.2 hk.1.2 hk.1.1.1 hk.2 hd (kk _ _ _ _ (hf rfl) hG hlr hlo)
  case h_8 =>
    cases h
    exact lv_ldcw hx hb hown (am_word C hW hk rfl args) hd (kk _ _ _ _ (hf rfl) hG hlr hlo)
  case h_9 =>
    cases h
    exact lv_ldc2 hx hb hown (am_word C hW hk rfl args) hd (kk _ _ _ _ (hf rfl) hG hlr hlo)
  case h_10 =>
    obtain ⟨x, h1, rfl, rfl, rfl, rfl⟩ := am_ld0 h
    exact lv_iload_n hx hb hd rfl (am_lget hlr h1 rfl) (kk _ _ _ _ (hf rfl) hG hlr hlo)
  case h_11 =>
    obtain ⟨x, h1, rfl, rfl, rfl, rfl⟩ := am_ld0 h
    exact lv_iload hx hb hd (am_lget hlr h1 rfl) (kk _ _ _ _ (hf rfl) hG hlr hlo)
  case h_12 =>
    obtain ⟨x, h1, rfl, rfl, rfl, rfl⟩ := am_ld1 h
    exact lv_lload_n hx hb hd rfl (am_lget hlr h1 rfl) (kk _ _ _ _ (hf rfl) hG hlr hlo)
  case h_13 =>
    obtain ⟨x, h1, rfl, rfl, rfl, rfl⟩ := am_ld1 h
    exact lv_lload hx hb hd (am_lget hlr h1 rfl) (kk _ _ _ _ (hf rfl) hG hlr hlo)
  case h_14 =>
    rcases am_ld2 h with ⟨x, h1, rfl, rfl, rfl, rfl⟩ | ⟨h1, rfl, rfl, rfl, rfl⟩
    · exact lv_aload_n hx hb hd rfl (am_lget hlr h1 rfl) (kk _ _ _ _ (hf rfl) hG hlr hlo)
    · exact lv_aload_nN hx hb hd rfl (am_lget hlr h1 rfl) (kk _ _ _ _ (hf rfl) hG hlr hlo)
  case h_15 =>
    rcases am_ld2 h with ⟨x, h1, rfl, rfl, rfl, rfl⟩ | ⟨h1, rfl, rfl, rfl, rfl⟩
    · exact lv_aload hx hb hd (am_lget hlr h1 rfl) (kk _ _ _ _ (hf rfl) hG hlr hlo)
    · exact lv_aloadN hx hb hd (am_lget hlr h1 rfl) (kk _ _ _ _ (hf rfl) hG hlr hlo)
  case h_16 =>
    obtain ⟨x, st0, rfl, h1, rfl, rfl, rfl⟩ := am_st0 h
    have hn := am_lset1i h1
    rw [hlr.2.2.1] at hn
    exact lv_istore_n hx hb hd rfl (am_lr_has hlr) hn rfl fun arr' hl => kk _ _ _ _ (hf rfl) hG (am_lset1 hlr.2.2.1 h1 hl).2 hlo
  case h_17 =>
    obtain ⟨x, st0, rfl, h1, rfl, rfl, rfl⟩ := am_st0 h
    have hn := am_lset1i h1
    rw [hlr.2.2.1] at hn
    exact lv_istore hx hb hd (am_lr_has hlr) hn rfl fun arr' hl => kk _ _ _ _ (hf rfl) hG (am_lset1 hlr.2.2.1 h1 hl).2 hlo
  case h_18 =>
    obtain ⟨x, st0, rfl, h1, rfl, rfl, rfl⟩ := am_st1 h
    have hn := am_lset2i h1
    rw [hlr.2.2.1] at hn
    exact lv_lstore_n hx hb hd rfl (am_lr_has hlr) hn rfl fun arr' hl => kk _ _ _ _ (hf rfl) hG (am_lset2 hlr.2.2.1 h1 hl) hlo
  case h_19 =>
    obtain ⟨x, st0, rfl, h1, rfl, rfl, rfl⟩ := am_st1 h
    have hn := am_lset2i h1
    rw [hlr.2.2.1] at hn
    exact lv_lstore hx hb hd (am_lr_has hlr) hn rfl fun arr' hl => kk _ _ _ _ (hf rfl) hG (am_lset2 hlr.2.2.1 h1 hl) hlo
  case h_20 =>
    obtain ⟨v, st0, hv, rfl, h1, rfl, rfl, rfl⟩ := am_st2 h
    have hn := am_lset1i h1
    rw [hlr.2.2.1] at hn
    rcases hv with rfl | ⟨x, rfl⟩
    · exact lv_astore_nN hx hb hd rfl (am_lr_has hlr) hn rfl fun arr' hl => kk _ _ _ _ (hf rfl) hG (am_lset1 (v := .null) hlr.2.2.1 h1 hl).2 hlo
    · exact lv_astore_n hx hb hd rfl (am_lr_has hlr) hn rfl fun arr' hl => kk _ _ _ _ (hf rfl) hG (am_lset1 (v := .ref x) hlr.2.2.1 h1 hl).2 hlo
  case h_21 =>
    obtain ⟨v, st0, hv, rfl, h1, rfl, rfl, rfl⟩ := am_st2 h
    have hn := am_lset1i h1
    rw [hlr.2.2.1] at hn
    rcases hv with rfl | ⟨x, rfl⟩
    · exact lv_astoreN hx hb hd (am_lr_has hlr) hn rfl fun arr' hl => kk _ _ _ _ (hf rfl) hG (am_lset1 (v := .null) hlr.2.2.1 h1 hl).2 hlo
    · exact lv_astore hx hb hd (am_lr_has hlr) hn rfl fun arr' hl => kk _ _ _ _ (hf rfl) hG (am_lset1 (v := .ref x) hlr.2.2.1 h1 hl).2 hlo
  case h_22 =>
    split at h
    next x hv =>
      obtain ⟨a, h1, h2⟩ := Option.map_eq_some_iff.mp h
      cases h2
      have hn := am_lset1i h1
      rw [hlr.2.2.1] at hn
      obtain ⟨j, hj⟩ := List.getElem?_of_mem (am_lv_mem (ad := am_ad s0 ro) (q := (_, .int x)).mpr ⟨_, hv, rfl, rfl⟩)
      exact lv_iinc hx hb hd (am_lr_has hlr) hj rfl hn rfl fun arr' hl => kk _ _ _ _ (hf rfl) hG (am_lset1 hlr.2.2.1 h1 hl).2 hlo
    next => cases h
  case h_23 =>
    cases h
    exact lv_iadd hx hb hd (kk _ _ _ _ (hf rfl) hG hlr hlo)
  case h_24 =>
    cases h
    exact lv_isub hx hb hd (kk _ _ _ _ (hf rfl) hG hlr hlo)
  case h_25 =>
    cases h
    exact lv_imul hx hb hd (kk _ _ _ _ (hf rfl) hG hlr hlo)
  case h_26 =>
    cases h
    exact lv_iand hx hb hd (kk _ _ _ _ (hf rfl) hG hlr hlo)
  case h_27 =>
    cases h
    exact lv_ior hx hb hd (kk _ _ _ _ (hf rfl) hG hlr hlo)
  case h_28 =>
    cases h
    exact lv_ixor hx hb hd (kk _ _ _ _ (hf rfl) hG hlr hlo)
  case h_29 =>
    split at h
    · cases h
    next hne =>
      cases h
      exact lv_idiv hx hb hd hne (kk _ _ _ _ (hf rfl) hG hlr hlo)
  case h_30 =>
    split at h
    · cases h
    next hne =>
      cases h
      exact lv_irem hx hb hd hne (kk _ _ _ _ (hf rfl) hG hlr hlo)
  case h_31 =>
    cases h
    exact lv_ineg hx hb hd (kk _ _ _ _ (hf rfl) hG hlr hlo)
  case h_32 =>
    cases h
    exact lv_ishl hx hb hd (kk _ _ _ _ (hf rfl) hG hlr hlo)
  case h_33 =>
    cases h
    exact lv_ishr hx hb hd (kk _ _ _ _ (hf rfl) hG hlr hlo)
  case h_34 =>
    cases h
    exact lv_iushr hx hb hd rfl (kk _ _ _ _ (hf rfl) hG hlr hlo)
  case h_35 =>
    cases h
    exact lv_ladd hx hb hd (kk _ _ _ _ (hf rfl) hG hlr hlo)
  case h_36 =>
    cases h
    exact lv_lsub hx hb hd (kk _ _ _ _ (hf rfl) hG hlr hlo)
  case h_37 =>
    cases h
    exact lv_land hx hb hd (kk _ _ _ _ (hf rfl) hG hlr hlo)
  case h_38 =>
    cases h
    exact lv_lor hx hb hd (kk _ _ _ _ (hf rfl) hG hlr hlo)
  case h_39 =>
    cases h
    exact lv_lxor hx hb hd (kk _ _ _ _ (hf rfl) hG hlr hlo)
  case h_40 =>
    cases h
    exact lv_lshl hx hb hd rfl (kk _ _ _ _ (hf rfl) hG hlr hlo)
  case h_41 =>
    cases h
    exact lv_lshr hx hb hd rfl (kk _ _ _ _ (hf rfl) hG hlr hlo)
  case h_42 =>
    cases h
    exact W.lcmp hx hb hd (kk _ _ _ _ (hf rfl) hG hlr hlo)
  case h_43 =>
    cases h
    exact lv_i2l hx hb hd rfl (kk _ _ _ _ (hf rfl) hG hlr hlo)
  case h_44 =>
    cases h
    exact lv_l2i hx hb hd rfl (kk _ _ _ _ (hf rfl) hG hlr hlo)
  case h_45 =>
    cases h
    exact lv_i2b hx hb hd rfl (kk _ _ _ _ (hf rfl) hG hlr hlo)
  case h_46 =>
    cases h
    exact lv_i2s hx hb hd rfl (kk _ _ _ _ (hf rfl) hG hlr hlo)
  case h_47 =>
    split at h
    next hcv =>
      cases h
      exact lv_dup hx hb hd (by rw [am_cat]; exact hcv) (kk _ _ _ _ (hf rfl) hG hlr hlo)
    · cases h
  case h_48 =>
    split at h
    next hcv =>
      cases h
      exact lv_pop hx hb hd (by rw [am_cat]; exact hcv) (kk _ _ _ _ (hf rfl) hG hlr hlo)
    · cases h
  case h_49 =>
    split at h
    next hcv =>
      cases h
      exact lv_dup2_11 hx hb hd (by rw [am_cat]; exact hcv.1) (by rw [am_cat]; exact hcv.2) (kk _ _ _ _ (hf rfl) hG hlr hlo)
    · cases h
  case h_50 =>
    cases h
    obtain ⟨q, h1, h2⟩ := am_tgtE hk
    exact lv_goto hx hb hd h2 (kk _ _ _ _ h1 hG hlr hlo)
  case h_51 =>
    cases h
    obtain ⟨q, h1, h2⟩ := am_tgtE hk
    exact am_Wif0 hx hb hd h2 h1 (hf rfl) fun pc' hp => kk _ _ _ _ hp hG hlr hlo
  case h_52 =>
    cases h
    obtain ⟨q, h1, h2⟩ := am_tgtE hk
    exact am_Wif2 hx hb hd h2 h1 (hf rfl) fun pc' hp => kk _ _ _ _ hp hG hlr hlo
  case h_53 =>
    cases h
    exact lv_ifnull hx hb hd (kk _ _ _ _ (hf rfl) hG hlr hlo)
  case h_54 =>
    cases h
    obtain ⟨q, h1, h2⟩ := am_tgtE hk
    exact lv_ifnullN hx hb hd h2 (kk _ _ _ _ h1 hG hlr hlo)
  case h_55 =>
    cases h
    obtain ⟨q, h1, h2⟩ := am_tgtE hk
    exact lv_ifnonnull hx hb hd h2 (kk _ _ _ _ h1 hG hlr hlo)
  case h_56 =>
    cases h
    exact lv_ifnonnullN hx hb hd (kk _ _ _ _ (hf rfl) hG hlr hlo)
  case h_57 =>
    rename_i d lo hi os hd0 t ts x st0
    cases h
    simp only [am_chkI, Bool.and_eq_true, decide_eq_true_eq] at hk
    by_cases hr : x.toInt < lo ∨ hi < x.toInt
    · obtain ⟨q, h1, h2⟩ := am_tgtE hk.1.1
      rw [if_pos hr] at kk
      exact lv_tableOut hx hb hd hr h2 (kk _ _ _ _ h1 hG hlr hlo)
    · rw [if_neg hr] at kk
      obtain ⟨hr1, hr2⟩ := not_or.mp hr
      obtain ⟨o, q, h0, h1, h2⟩ := am_zipE _ _ _ _ (x.toInt - lo).toNat hk.1.2 (by omega)
      exact lv_tableIn hx hb hd hr1 hr2 (by rw [← Array.getElem?_toList]; exact h0) h2 (kk _ _ _ _ h1 hG hlr hlo)
  case h_58 =>
    cases h
    simp only [am_chkI, Bool.and_eq_true] at hk
    obtain ⟨q, h1, h2⟩ := am_lookE _ _ _ _ _ _ _ hk.1.1 hk.1.2
    exact lv_lookup hx hb hd hk.2 rfl h2 (kk _ _ _ _ h1 hG hlr hlo)
  case h_59 =>
    split at h
    next hq =>
      cases h
      simp only [am_chkI, Bool.and_eq_true, decide_eq_true_eq] at hk
      refine am_Wget hx hb C hW hown hG hk.1.1 hk.1.2 hk.2 hq hd ?_
      have := kk _ _ _ _ (hf rfl) hG hlr hlo
      rw [List.map_cons, am_rd_cv] at this
      exact this
    · cases h
  case h_60 =>
    split at h
    next hq =>
      cases h
      simp only [am_chkI, Bool.and_eq_true, Bool.or_eq_true, decide_eq_true_eq] at hk
      refine am_Wput hx hb C hW hown hG hk.1.1.1 hk.1.1.2 hk.1.2 hq.1 hq.2 ?_ hd fun H' j hG' => ?_
      · rcases hk.2 with z | z
        · exact Or.inl z
        · exact Or.inr ⟨z.1.1, hnm.trans z.1.2, z.2⟩
      · have := kk _ _ _ _ (hf rfl) hG' hlr (am_lt (a := ⟨_, j⟩) hlo (adW _ (am_obj hG hk.1.1.1 hq.1).1))
        rw [am_wr_nx, am_wr_us] at this
        exact this
    · cases h
  case h_61 =>
    cases h
    simp only [am_chkI, Bool.and_eq_true, decide_eq_true_eq] at hk
    exact am_Wgets hx hb C hW hown hG hk.1 hk.2 hd (kk _ _ _ _ (hf rfl) hG hlr hlo)
  case h_62 =>
    obtain ⟨h1, h2, rfl, rfl, rfl, rfl⟩ := am_ldE h
    exact am_Wald (t := 0) hx hb C hW hG (by decide) h1 h2 (Or.inl ⟨rfl, rfl⟩) hd (kk _ _ _ _ (hf rfl) hG hlr hlo)
  case h_63 =>
    obtain ⟨h1, h2, rfl, rfl, rfl, rfl⟩ := am_ldE h
    exact am_Wald (t := 1) hx hb C hW hG (by decide) h1 h2 (Or.inr (Or.inl ⟨rfl, rfl⟩)) hd (kk _ _ _ _ (hf rfl) hG hlr hlo)
  case h_64 =>
    obtain ⟨h1, h2, rfl, rfl, rfl, rfl⟩ := am_ldE h
    simp only [am_chkI, decide_eq_true_eq] at hk
    rcases hk with rfl | rfl
    · exact am_Wald (t := 2) hx hb C hW hG (by decide) h1 h2 (Or.inr (Or.inr (Or.inl ⟨Or.inl rfl, rfl⟩))) hd (kk _ _ _ _ (hf rfl) hG hlr hlo)
    · exact am_Wald (t := 3) hx hb C hW hG (by decide) h1 h2 (Or.inr (Or.inr (Or.inl ⟨Or.inr rfl, rfl⟩))) hd (kk _ _ _ _ (hf rfl) hG hlr hlo)
  case h_65 =>
    obtain ⟨h1, h2, rfl, rfl, rfl, rfl⟩ := am_ldE h
    simp only [am_chkI, decide_eq_true_eq] at hk
    have := kk _ _ _ _ (hf rfl) hG hlr hlo
    rw [List.map_cons, am_rf_cv] at this
    have h3 : ∀ u : Nat, 104 ≤ u → u ≤ 106 → u = 104 ∨ u = 105 ∨ u = 106 := by omega
    rcases h3 _ hk.1 hk.2 with rfl | rfl | rfl
    · exact am_Wald (t := 4) hx hb C hW hG (by decide) h1 h2 (Or.inr (Or.inr (Or.inr ⟨by decide, rfl⟩))) hd this
    · exact am_Wald (t := 5) hx hb C hW hG (by decide) h1 h2 (Or.inr (Or.inr (Or.inr ⟨by decide, rfl⟩))) hd this
    · exact am_Wald (t := 6) hx hb C hW hG (by decide) h1 h2 (Or.inr (Or.inr (Or.inr ⟨by decide, rfl⟩))) hd this
  case h_66 =>
    obtain ⟨h1, h0, h2, rfl, rfl, rfl, rfl⟩ := am_svE h
    refine am_Wist (t := 0) hx hb C hW hG h0 (Or.inl rfl) h1 h2 (Or.inl ⟨rfl, rfl⟩) hd fun H' j hG' => ?_
    · have := kk _ _ _ _ (hf rfl) hG' hlr (am_lt (a := ⟨_, j⟩) hlo (adW _ h0))
      rw [am_wr_nx, am_wr_us] at this
      exact this
  case h_67 =>
    obtain ⟨h1, h0, h2, rfl, rfl, rfl, rfl⟩ := am_svE h
    refine am_Wlst hx hb C hW hG h0 h1 h2 hd fun H' j hG' => ?_
    · have := kk _ _ _ _ (hf rfl) hG' hlr (am_lt (a := ⟨_, j⟩) hlo (adW _ h0))
      rw [am_wr_nx, am_wr_us] at this
      exact this
  case h_68 =>
    obtain ⟨h1, h0, h2, rfl, rfl, rfl, rfl⟩ := am_svE h
    simp only [am_chkI, decide_eq_true_eq] at hk
    rcases hk with rfl | rfl
    · refine am_Wist (t := 2) hx hb C hW hG h0 (Or.inr (Or.inl rfl)) h1 h2 (Or.inr ⟨Or.inl rfl, rfl⟩) hd fun H' j hG' => ?_
      have := kk _ _ _ _ (hf rfl) hG' hlr (am_lt (a := ⟨_, j⟩) hlo (adW _ h0))
      rw [am_wr_nx, am_wr_us] at this
      exact this
    · refine am_Wist (t := 3) hx hb C hW hG h0 (Or.inr (Or.inr rfl)) h1 h2 (Or.inr ⟨Or.inr rfl, rfl⟩) hd fun H' j hG' => ?_
      have := kk _ _ _ _ (hf rfl) hG' hlr (am_lt (a := ⟨_, j⟩) hlo (adW _ h0))
      rw [am_wr_nx, am_wr_us] at this
      exact this
  case h_69 =>
    split at h
    next hv =>
      obtain ⟨h1, h0, h2, rfl, rfl, rfl, rfl⟩ := am_svE h
      simp only [am_chkI, decide_eq_true_eq] at hk
      have fin : ∀ t : Nat, am_tys t = am_tys t := fun _ => rfl
      rcases hk with ⟨rfl, rfl⟩ | ⟨rfl, rfl⟩ | ⟨rfl, rfl⟩
      · refine am_Wast (t := 4) (ci := 1) hx hb C hW hG h0 (Or.inl ⟨rfl, rfl⟩) h1 hv h2 hd fun H' j hG' => ?_
        have := kk _ _ _ _ (hf rfl) hG' hlr (am_lt (a := ⟨_, j⟩) hlo (adW _ h0))
        rw [am_wr_nx, am_wr_us] at this
        exact this
      · refine am_Wast (t := 5) (ci := 5) hx hb C hW hG h0 (Or.inr (Or.inl ⟨rfl, rfl⟩)) h1 hv h2 hd fun H' j hG' => ?_
        have := kk _ _ _ _ (hf rfl) hG' hlr (am_lt (a := ⟨_, j⟩) hlo (adW _ h0))
        rw [am_wr_nx, am_wr_us] at this
        exact this
      · refine am_Wast (t := 6) (ci := 0) hx hb C hW hG h0 (Or.inr (Or.inr ⟨rfl, rfl⟩)) h1 hv h2 hd fun H' j hG' => ?_
        have := kk _ _ _ _ (hf rfl) hG' hlr (am_lt (a := ⟨_, j⟩) hlo (adW _ h0))
        rw [am_wr_nx, am_wr_us] at this
        exact this
    · cases h
  case h_70 =>
    split at h
    next hq =>
      cases h
      exact am_Walen hx hb C hW hG hq.1 hq.2 hd (kk _ _ _ _ (hf rfl) hG hlr hlo)
    · cases h
  case h_71 =>
    split at h
    · cases h
    next hn =>
      cases h
      obtain ⟨hn1, hn2⟩ := not_or.mp hn
      have e1 : ∀ tag n cost, am_nx (am_new M tag n cost) - c0 = am_nx M - c0 + 1 := fun tag n cost => by show am_nx M + 1 - c0 = _; omega
      have e2 : ∀ tag n cost, am_us (am_new M tag n cost) - u0 = am_us M - u0 + cost := fun tag n cost => by show am_us M + cost - u0 = _; omega
      rw [e1] at hc
      rw [e2] at hs
      simp only [am_chkI, Bool.and_eq_true, decide_eq_true_eq] at hk
      refine am_Wnewa hx hb C hW hG hk.1.1 hk.1.2 hk.2 hn1 hn2 hc hs hd fun H' hG' => ?_
      have := kk _ _ _ _ (hf rfl) hG' hlr hlo
      rw [e1, e2] at this
      exact this
  case h_72 =>
    split at h
    · cases h
    next hn =>
      cases h
      obtain ⟨hn1, hn2⟩ := not_or.mp hn
      have e1 : ∀ tag n cost, am_nx (am_new M tag n cost) - c0 = am_nx M - c0 + 1 := fun tag n cost => by show am_nx M + 1 - c0 = _; omega
      have e2 : ∀ tag n cost, am_us (am_new M tag n cost) - u0 = am_us M - u0 + cost := fun tag n cost => by show am_us M + cost - u0 = _; omega
      rw [e1] at hc
      rw [e2] at hs
      rename_i x t w w2 n st0
      have hk : decide (4 ≤ t ∧ t ≤ 6) = true ∧ (match am_tys t with
        | .object C => am_w w (.classLink own x C) && am_w w2 (.arrayOver (.object C))
        | _ => false) = true := by
        have hk : (decide (4 ≤ t ∧ t ≤ 6) && (match am_tys t with
          | .object C => am_w w (.classLink own x C) && am_w w2 (.arrayOver (.object C))
          | _ => false)) = true := hk
        exact (Bool.and_eq_true _ _).mp hk
      obtain ⟨k1, k2⟩ := hk
      have k1 := of_decide_eq_true k1
      split at k2
      next Cn hty =>
        rw [Bool.and_eq_true] at k2
        refine am_Wanew hx hb C hW hown hG k1 hty k2.1 k2.2 hn1 hn2 hc hs hd fun H' hG' => ?_
        have := kk _ _ _ _ (hf rfl) hG' hlr hlo
        rw [e1, e2] at this
        exact this
      next => cases k2
  case h_73 =>
    cases h
    have e1 : ∀ tag n cost, am_nx (am_new M tag n cost) - c0 = am_nx M - c0 + 1 := fun tag n cost => by show am_nx M + 1 - c0 = _; omega
    have e2 : ∀ tag n cost, am_us (am_new M tag n cost) - u0 = am_us M - u0 + cost := fun tag n cost => by show am_us M + cost - u0 = _; omega
    rw [e1] at hc
    rw [e2] at hs
    simp only [am_chkI, Bool.and_eq_true, decide_eq_true_eq] at hk
    refine am_Wnew hx hb C hW hown hG hk.1.1.1 hk.1.1.2 hk.1.2 hk.2 hc hs hd fun H' hG' => ?_
    have := kk _ _ _ _ (hf rfl) hG' hlr hlo
    rw [e1, e2] at this
    exact this
  case h_74 =>
    cases h
end AMS
end
section
theorem am_inside {ro : Nat → Nat} {s0 : State} {L : Nat} {xs : Nat → Int32} {D : va_G} {ct : Nat → ClassId} {M : am_M} : ∀ (a : Array Value) (U : State) (g : JFrame) (mk : MethodId) (as : List Value), am_Pc D ct ro s0 L xs M as a U → am_Pc D ct ro s0 L xs M as a (U.calling g mk a) := fun _ _ _ _ _ h => h
section AMC
variable {p : Program} {l : Launch} {e : Env} {R : Room} {s : State} {m : MethodId} {args : Array Value} {below : List Frame} {meth : Method} {c : Code} {H : Heap} {locs : List Loc} {cells slots : Nat} {Q : State → Prop}
variable {cc : ByteArray} {pc : Nat} {arr : Array Slot} {rest : List Value} {D : va_G} {ct : Nat → ClassId} {ro : Nat → Nat} {b : Nat} {s0 : State} {L : Nat} {xs : Nat → Int32} {M : am_M} {own : String}
theorem am_Wback {M1 : am_M} {r : Option Value} {mc ms : Nat} {st0 rest : List Value} {a : Array Value} (hr : va_Run p l e R s m args below meth c H locs cells slots mc ms (F0 m pc arr st0) rest (am_Qc D ct ro s0 L xs M1 r a) (fun q => s0.heap.size ≤ q)) (hlo : ∀ q ∈ locs, s0.heap.size ≤ q.base)
    (kk : ∀ (H' : Heap) (locs' : List Loc), am_G D ct ro s0 L xs M1 H' → (∀ q ∈ locs', s0.heap.size ≤ q.base) → W p l e R s m args below meth c H' locs' (cells + mc) (slots + ms) Q (F0 m (pc + 3) arr ((r.map (am_cv (am_ad s0 ro))).toList ++ rest))) : W p l e R s m args below meth c H locs cells slots Q (F0 m pc arr st0) := by
  intro T hT X
  obtain ⟨v, st₀, t, T', L', h0, X', hL, e1, e2, hq, go⟩ := hr T hT X
  obtain ⟨hv, hG'⟩ := hq
  cases hv
  obtain ⟨t2, a1, b1⟩ := kk T'.heap (locs ++ L') (by rw [e1]; exact hG') (fun q hq => by
    rcases List.mem_append.mp hq with h | h
    · exact hlo q h
    · exact hL q h) T' rfl X'
  exact ⟨t2, go t2 a1, b1⟩
theorem am_WbackS {r : Int32} {st0 rest : List Value} {a : Array Value} (hr : va_Run p l e R s m args below meth c H locs cells slots 0 0 (F0 m pc arr st0) rest (am_QcS r a) (fun _ => False))
    (kk : W p l e R s m args below meth c H locs cells slots Q (F0 m (pc + 3) arr (.int r :: rest))) : W p l e R s m args below meth c H locs cells slots Q (F0 m pc arr st0) := by
  intro T hT X
  obtain ⟨v, st₀, t, T', L', h0, X', hL, e1, e2, hq, go⟩ := hr T hT X
  obtain ⟨hv, hG'⟩ := hq
  cases hv
  have hL0 : L' = [] := by
    cases L' with
    | nil => rfl
    | cons z zs => exact (hL z List.mem_cons_self).elim
  subst hL0
  rw [List.append_nil] at X'
  obtain ⟨t2, a1, b1⟩ := kk T' (by rw [e1, hG', h0]) X'
  exact ⟨t2, go t2 a1, b1⟩
theorem am_notMH {inf : am_I} {n : Nat} (h : am_chkN inf n = true) : (parseMethodDescriptor inf.1.desc).map (fun d => d.parameters.length) = some n ∧ (inf.1.cls ≠ "java/lang/invoke/MethodHandle" ∧ inf.1.cls ≠ "java/lang/invoke/VarHandle") ∧ inf.2.2.1 ≤ 41 := by
  simp only [am_chkN, Bool.and_eq_true, decide_eq_true_eq] at h
  exact ⟨h.1.1.1, ⟨h.1.1.2, h.1.2⟩, h.2⟩
def am_con (D : va_G) (ct : Nat → ClassId) (ro : Nat → Nat) (s0 : State) (L : Nat) (xs : Nat → Int32) (l : Launch) (d : Nat) (inf : am_I) (as : List Value) (M : am_M) (r : Option Value) (M1 : am_M) : Prop :=
  Met l inf.1 [Cond.code inf.1 inf.2.1 inf.2.2.1 inf.2.2.2.1] { frames := d, cells := am_nx M1 - am_nx M, slots := am_us M1 - am_us M, locals := 60 * d } (am_Pc D ct ro s0 L xs M as) (am_Qc D ct ro s0 L xs M1 r) (am_nx M1 - am_nx M) (am_us M1 - am_us M) (fun q => s0.heap.size ≤ q)
theorem am_callB (C : am_C0 D ct ro b s0 L xs) (hW : s0.WarmedH s.vm) {d n x w1 w2 w4 mc ms : Nat} {inf : am_I} {rt : Option FieldType} (hrt : inf.2.2.2.1 = rt) (hn : am_chkN inf n = true) (h1 : am_w w1 (.methodLink own x inf.1) = true) (h2 : am_w w2 (.code inf.1 inf.2.1 inf.2.2.1 inf.2.2.2.1) = true) (h4 : am_w w4 (.initialized inf.1.cls) = true) (hF : d + 1 ≤ R.frames) (hLc : 60 * (d + 1) ≤ R.locals) :
    CallB R s args own x inf.1 inf.2.1 inf.2.2.1 rt [Cond.code inf.1 inf.2.1 inf.2.2.1 inf.2.2.2.1] { frames := d, cells := mc, slots := ms, locals := 60 * d } mc ms n := by
  obtain ⟨n1, n2, n3⟩ := am_notMH hn
  subst hrt
  refine ⟨rfl, rfl, hF, ?_, fun w hw a' U hU => ?_, List.mem_singleton.mpr rfl, am_word C hW h2 rfl args, am_word C hW h4 rfl args, n2, fun sig hs => ?_, am_word C hW h1 rfl args⟩
  · show 8 + (inf.2.2.1 + 11) + 60 * d ≤ R.locals
    omega
  · rw [List.mem_singleton] at hw
    subst hw
    exact am_word C (State.WarmedH.trans hW hU) h2 rfl a'
  · rw [hs] at n1
    simpa using n1.symm
theorem am_WcallV (hx : p.tables.exec = Jvm.exec) (hb : c.code = cc) (hml : c.maxLocals = arr.size) (C : am_C0 D ct ro b s0 L xs) (hW : s0.WarmedH s.vm) (hown : s.vm.findClass own = some m.cls) (hG : am_G D ct ro s0 L xs M H) (hlo : ∀ q ∈ locs, s0.heap.size ≤ q.base)
    {d n x ci w1 w2 w3 w4 w5 q : Nat} {inf : am_I} {as : List Value} {r : Option Value} {M1 : am_M} (hM : am_con D ct ro s0 L xs l d inf (.ref q :: as) M r M1) (hci : ci < 8) (hcls : inf.1.cls = am_cn ci) (hq : (am_sh M q).1 = ci) (hn : am_chkN inf n = true) (h1 : am_w w1 (.methodLink own x inf.1) = true) (h2 : am_w w2 (.code inf.1 inf.2.1 inf.2.2.1 inf.2.2.2.1) = true) (h3 : am_w w3 (.instanceMethod inf.1) = true) (h4 : am_w w4 (.selects (am_cn ci) inf.1 inf.1) = true) (h5 : am_w w5 (.initialized inf.1.cls) = true)
    (hF : d + 1 ≤ R.frames) (hLc : 60 * (d + 1) ≤ R.locals) (hlen : as.length = n) (hsum : (rest.map fun v => v.category).sum ≤ 8) (hc : cells + (am_nx M1 - am_nx M) ≤ R.cells) (hs : slots + (am_us M1 - am_us M) ≤ R.slots) (hdg : decode cc pc = .ok (.invokevirtual x, 3))
    (kk : ∀ (H' : Heap) (locs' : List Loc), am_G D ct ro s0 L xs M1 H' → (∀ q ∈ locs', s0.heap.size ≤ q.base) → W p l e R s m args below meth c H' locs' (cells + (am_nx M1 - am_nx M)) (slots + (am_us M1 - am_us M)) Q (F0 m (pc + 3) arr ((r.map (am_cv (am_ad s0 ro))).toList ++ rest.map (am_cv (am_ad s0 ro))))) :
    W p l e R s m args below meth c H locs cells slots Q (F0 m pc arr ((as.map (am_cv (am_ad s0 ro))).reverse ++ .ref (am_ad s0 ro q) :: rest.map (am_cv (am_ad s0 ro)))) := by
  obtain ⟨-, -, cell, g1, g2, g3, -⟩ := am_obj hG hci hq
  have hcl := (u_Kn_moved hW.alike (C.2.1 ci hci)).2
  refine am_Wback (va_runV (own := own) (C := am_cn ci) (As := as.map (am_cv (am_ad s0 ro))) (Ts := []) ⟨hx, hb, hml, hown, fun _ h => absurd h List.not_mem_nil⟩ hM ⟨am_callB C hW rfl hn h1 h2 h5 hF hLc, am_word C hW h3 rfl args, am_word C hW h4 rfl args⟩
    ⟨fun _ _ _ _ h => h, ⟨cell, g1, by rw [g3]; rfl, by rw [g2]; exact hcl.1⟩, fun U hU hV => ⟨rfl, State.WarmedH.trans hW hV, by rw [hU]; exact hG⟩⟩ rfl (by rw [List.length_map]; exact hlen) rfl rfl (lv_room (by rw [am_cats]; exact hsum)) hdg ⟨hc, hs⟩) hlo kk
theorem am_WcallS (hx : p.tables.exec = Jvm.exec) (hb : c.code = cc) (hml : c.maxLocals = arr.size) (C : am_C0 D ct ro b s0 L xs) (hW : s0.WarmedH s.vm) (hown : s.vm.findClass own = some m.cls) (hG : am_G D ct ro s0 L xs M H) (hlo : ∀ q ∈ locs, s0.heap.size ≤ q.base)
    {d n x w1 w2 w3 w4 : Nat} {inf : am_I} {as : List Value} {r : Option Value} {M1 : am_M} (hM : am_con D ct ro s0 L xs l d inf as M r M1) (hn : am_chkN inf n = true) (h1 : am_w w1 (.methodLink own x inf.1) = true) (h2 : am_w w2 (.code inf.1 inf.2.1 inf.2.2.1 inf.2.2.2.1) = true) (h3 : am_w w3 (.static inf.1) = true) (h4 : am_w w4 (.initialized inf.1.cls) = true)
    (hF : d + 1 ≤ R.frames) (hLc : 60 * (d + 1) ≤ R.locals) (hlen : as.length = n) (hsum : (rest.map fun v => v.category).sum ≤ 8) (hc : cells + (am_nx M1 - am_nx M) ≤ R.cells) (hs : slots + (am_us M1 - am_us M) ≤ R.slots) (hdg : decode cc pc = .ok (.invokestatic x, 3))
    (kk : ∀ (H' : Heap) (locs' : List Loc), am_G D ct ro s0 L xs M1 H' → (∀ q ∈ locs', s0.heap.size ≤ q.base) → W p l e R s m args below meth c H' locs' (cells + (am_nx M1 - am_nx M)) (slots + (am_us M1 - am_us M)) Q (F0 m (pc + 3) arr ((r.map (am_cv (am_ad s0 ro))).toList ++ rest.map (am_cv (am_ad s0 ro))))) :
    W p l e R s m args below meth c H locs cells slots Q (F0 m pc arr ((as.map (am_cv (am_ad s0 ro))).reverse ++ rest.map (am_cv (am_ad s0 ro)))) := by
  refine am_Wback (va_runS (own := own) (As := as.map (am_cv (am_ad s0 ro))) (Ts := []) ⟨hx, hb, hml, hown, fun _ h => absurd h List.not_mem_nil⟩ hM ⟨am_callB C hW rfl hn h1 h2 h4 hF hLc, am_word C hW h3 rfl args⟩
    ⟨fun _ _ _ _ h => h, fun U hU hV => ⟨rfl, State.WarmedH.trans hW hV, by rw [hU]; exact hG⟩⟩ rfl (by rw [List.length_map]; exact hlen) rfl rfl (lv_room (by rw [am_cats]; exact hsum)) hdg ⟨hc, hs⟩) hlo kk
theorem am_WcallI (hx : p.tables.exec = Jvm.exec) (hb : c.code = cc) (hml : c.maxLocals = arr.size) (C : am_C0 D ct ro b s0 L xs) (hW : s0.WarmedH s.vm) (hown : s.vm.findClass own = some m.cls) (hG : am_G D ct ro s0 L xs M H) (hlo : ∀ q ∈ locs, s0.heap.size ≤ q.base)
    {d n x w1 w2 w3 w4 q : Nat} {inf : am_I} {as : List Value} {r : Option Value} {M1 : am_M} (hM : am_con D ct ro s0 L xs l d inf (.ref q :: as) M r M1) (hin : inf.1.name = "<init>") (hrt : inf.2.2.2.1 = none) (hn : am_chkN inf n = true) (h1 : am_w w1 (.methodLink own x inf.1) = true) (h2 : am_w w2 (.code inf.1 inf.2.1 inf.2.2.1 inf.2.2.2.1) = true) (h3 : am_w w3 (.instanceMethod inf.1) = true) (h4 : am_w w4 (.initialized inf.1.cls) = true)
    (hF : d + 1 ≤ R.frames) (hLc : 60 * (d + 1) ≤ R.locals) (hlen : as.length = n) (hsum : (rest.map fun v => v.category).sum ≤ 8) (hc : cells + (am_nx M1 - am_nx M) ≤ R.cells) (hs : slots + (am_us M1 - am_us M) ≤ R.slots) (hdg : decode cc pc = .ok (.invokespecial x, 3))
    (kk : ∀ (H' : Heap) (locs' : List Loc), am_G D ct ro s0 L xs M1 H' → (∀ q ∈ locs', s0.heap.size ≤ q.base) → W p l e R s m args below meth c H' locs' (cells + (am_nx M1 - am_nx M)) (slots + (am_us M1 - am_us M)) Q (F0 m (pc + 3) arr ((r.map (am_cv (am_ad s0 ro))).toList ++ rest.map (am_cv (am_ad s0 ro))))) :
    W p l e R s m args below meth c H locs cells slots Q (F0 m pc arr ((as.map (am_cv (am_ad s0 ro))).reverse ++ .ref (am_ad s0 ro q) :: rest.map (am_cv (am_ad s0 ro)))) := by
  refine am_Wback (va_runI (own := own) (As := as.map (am_cv (am_ad s0 ro))) (Ts := []) ⟨hx, hb, hml, hown, fun _ h => absurd h List.not_mem_nil⟩ hM ⟨am_callB C hW hrt hn h1 h2 h4 hF hLc, hin, am_word C hW h3 rfl args⟩
    ⟨fun _ _ _ _ h => h, fun U hU hV => ⟨rfl, State.WarmedH.trans hW hV, by rw [hU]; exact hG⟩⟩ rfl (by rw [List.length_map]; exact hlen) rfl rfl (lv_room (by rw [am_cats]; exact hsum)) hdg ⟨hc, hs⟩) hlo kk
theorem am_WcallN (hx : p.tables.exec = Jvm.exec) (hb : c.code = cc) (hml : c.maxLocals = arr.size) (C : am_C0 D ct ro b s0 L xs) (hW : s0.WarmedH s.vm) (hown : s.vm.findClass own = some m.cls) (hG : am_G D ct ro s0 L xs M H) (hlo : ∀ q ∈ locs, s0.heap.size ≤ q.base)
    {d n x w1 w2 w3 w4 q : Nat} {inf : am_I} {as : List Value} {r : Option Value} {M1 : am_M} (hM : am_con D ct ro s0 L xs l d inf (.ref q :: as) M r M1) (hin : inf.1.name = "<init>") (hrt : inf.2.2.2.1 = none) (hn : am_chkN inf n = true) (h1 : am_w w1 (.methodLinkNest own x inf.1 "AirByYard") = true) (h2 : am_w w2 (.code inf.1 inf.2.1 inf.2.2.1 inf.2.2.2.1) = true) (h3 : am_w w3 (.instanceMethod inf.1) = true) (h4 : am_w w4 (.initialized inf.1.cls) = true)
    (hF : d + 1 ≤ R.frames) (hLc : 60 * (d + 1) ≤ R.locals) (hlen : as.length = n) (hsum : (rest.map fun v => v.category).sum ≤ 8) (hc : cells + (am_nx M1 - am_nx M) ≤ R.cells) (hs : slots + (am_us M1 - am_us M) ≤ R.slots) (hdg : decode cc pc = .ok (.invokespecial x, 3))
    (kk : ∀ (H' : Heap) (locs' : List Loc), am_G D ct ro s0 L xs M1 H' → (∀ q ∈ locs', s0.heap.size ≤ q.base) → W p l e R s m args below meth c H' locs' (cells + (am_nx M1 - am_nx M)) (slots + (am_us M1 - am_us M)) Q (F0 m (pc + 3) arr ((r.map (am_cv (am_ad s0 ro))).toList ++ rest.map (am_cv (am_ad s0 ro))))) :
    W p l e R s m args below meth c H locs cells slots Q (F0 m pc arr ((as.map (am_cv (am_ad s0 ro))).reverse ++ .ref (am_ad s0 ro q) :: rest.map (am_cv (am_ad s0 ro)))) := by
  obtain ⟨n1, n2, n3⟩ := am_notMH hn
  refine am_Wback (va_runIN (own := own) (host := "AirByYard") (As := as.map (am_cv (am_ad s0 ro))) (Ts := []) (maxL := inf.2.2.1) (bytes := inf.2.1) (n := n) ⟨hx, hb, hml, hown, fun _ h => absurd h List.not_mem_nil⟩ hM
    ⟨⟨⟨rfl, rfl, hF, by show 8 + (inf.2.2.1 + 11) + 60 * d ≤ R.locals; omega, fun w hw a' U hU => by
      rw [List.mem_singleton] at hw
      subst hw
      exact am_word C (State.WarmedH.trans hW hU) h2 rfl a', by rw [← hrt]; exact List.mem_singleton.mpr rfl⟩, by rw [← hrt]; exact am_word C hW h2 rfl args, am_word C hW h4 rfl args, n2, fun sig hs => by rw [hs] at n1; simpa using n1.symm, va_Nw.use rfl ((va_Nw.of rfl (C.1 _ (List.mem_of_getElem? (am_wE h1)))).warmM hW)⟩, hin, am_word C hW h3 rfl args⟩
    ⟨fun _ _ _ _ h => h, fun U hU hV => ⟨rfl, State.WarmedH.trans hW hV, by rw [hU]; exact hG⟩⟩ rfl (by rw [List.length_map]; exact hlen) rfl rfl (lv_room (by rw [am_cats]; exact hsum)) hdg ⟨hc, hs⟩) hlo kk
theorem am_Wobj (hx : p.tables.exec = Jvm.exec) (hb : c.code = cc) (hml : c.maxLocals = arr.size) (C : am_C0 D ct ro b s0 L xs) (hW : s0.WarmedH s.vm) (hown : s.vm.findClass own = some m.cls) {x w1 w2 w3 q : Nat} (h1 : am_w w1 (.methodLink own x objectInit) = true) (h2 : am_w w2 (.instanceMethod objectInit) = true) (h3 : am_w w3 (.code objectInit ⟨#[0xb1]⟩ 1 none) = true)
    (hF : 1 ≤ R.frames) (hLc : 60 ≤ R.locals) (hsum : (rest.map fun v => v.category).sum ≤ 8) (hdg : decode cc pc = .ok (.invokespecial x, 3))
    (kk : W p l e R s m args below meth c H locs cells slots Q (F0 m (pc + 3) arr rest)) : W p l e R s m args below meth c H locs cells slots Q (F0 m pc arr (.ref q :: rest)) :=
  W.objInit hx hb hown (am_word C hW h1 rfl args) (am_word C hW h2 rfl args) (am_word C hW h3 rfl args) rfl hml.symm rfl hdg hF (by show 2 * 0 + _ + 12 ≤ R.locals; omega) kk
theorem am_Wstr (hx : p.tables.exec = Jvm.exec) (hb : c.code = cc) (hml : c.maxLocals = arr.size) (C : am_C0 D ct ro b s0 L xs) (hW : s0.WarmedH s.vm) (hown : s.vm.findClass own = some m.cls) (hG : am_G D ct ro s0 L xs M H) {n x w1 w2 w3 w4 w5 q mL : Nat} {y : MethodName} {bytes : ByteArray} {rt : Option FieldType} {as : List Value} {r : Int32}
    (hM : Met l y [Cond.code y bytes mL rt] am_rmS (am_PcS s0 (.ref (ro q) :: as)) (am_QcS r) 0 0 (fun _ => False)) (hcell : ∃ cell : Cell, s0.heap[ro q]? = some cell ∧ cell.vm.isStatics = false ∧ s0.vm.findClass RJ0 = some cell.cls)
    (hn : (parseMethodDescriptor y.desc).map (fun d => d.parameters.length) = some n) (hnm : y.cls ≠ "java/lang/invoke/MethodHandle" ∧ y.cls ≠ "java/lang/invoke/VarHandle") (hm2 : mL ≤ 41) (h1 : am_w w1 (.methodLink own x y) = true) (h2 : am_w w2 (.code y bytes mL rt) = true) (h3 : am_w w3 (.instanceMethod y) = true) (h4 : am_w w4 (.selects RJ0 y y) = true) (h5 : am_w w5 (.initialized y.cls) = true)
    (hF : 7 ≤ R.frames) (hLc : 420 ≤ R.locals) (hlen : as.length = n) (hsum : (rest.map fun v => v.category).sum ≤ 8) (hc : cells ≤ R.cells) (hs : slots ≤ R.slots) (hdg : decode cc pc = .ok (.invokevirtual x, 3))
    (kk : W p l e R s m args below meth c H locs cells slots Q (F0 m (pc + 3) arr (.int r :: rest))) :
    W p l e R s m args below meth c H locs cells slots Q (F0 m pc arr (as.reverse ++ .ref (ro q) :: rest)) := by
  obtain ⟨cell, g1, g2, g3⟩ := hcell
  have hlt : ro q < s0.heap.size := (Array.getElem?_eq_some_iff.mp g1).1
  refine am_WbackS (va_runV (own := own) (C := RJ0) (As := as) (Ts := []) (n := n) (maxL := mL) (bytes := bytes) (ret := rt) ⟨hx, hb, hml, hown, fun _ h => absurd h List.not_mem_nil⟩ hM ⟨⟨rfl, rfl, by show 5 + 1 ≤ R.frames; omega, by show 8 + (mL + 11) + 300 ≤ R.locals; omega, fun w hw a' U hU => ?_, List.mem_singleton.mpr rfl, am_word C hW h2 rfl args, am_word C hW h5 rfl args, hnm, fun sig hs => by rw [hs] at hn; simpa using hn.symm, am_word C hW h1 rfl args⟩, am_word C hW h3 rfl args, am_word C hW h4 rfl args⟩
    ⟨fun _ _ _ _ h => h, ⟨cell, by rw [hG.2.2.1 _ hlt]; exact g1, g2, by rw [hW.alike.findClass]; exact g3⟩, fun U hU hV => ⟨rfl, State.WarmedH.trans hW hV, fun z hz => by rw [hU]; exact hG.2.2.1 z hz⟩⟩ rfl hlen rfl rfl (lv_room hsum) hdg ⟨by omega, by omega⟩) kk
  rw [List.mem_singleton] at hw
  subst hw
  exact am_word C (State.WarmedH.trans hW hU) h2 rfl a'
theorem am_Wcopy {α : Type} (mk : α → Value) (hx : p.tables.exec = Jvm.exec) (hb : c.code = cc) (hml : c.maxLocals = arr.size) (C : am_C0 D ct ro b s0 L xs) (hW : s0.WarmedH s.vm) (hown : s.vm.findClass own = some m.cls) {x w1 w2 w3 w4 a0 a t n0 n1 : Nat} {f g : Nat → α} (ht : t ≤ 3) (hp0 : H[a0]? = some (arrV (ct t) n0 (fun j => mk (f j)))) (hp1 : H[a]? = some (arrV (ct t) n1 (fun j => mk (g j)))) (hfit : ∀ z, fits (am_tys t) (mk z) = true) (hone : ∀ z, (mk z).category = (mk z).category)
    (k1 : am_w w1 (.methodLink own x arraycopyName) = true) (k2 : am_w w2 (.native arraycopyName) = true) (k3 : am_w w3 (.static arraycopyName) = true) (k4 : am_w w4 (.initialized "java/lang/System") = true)
    {sp dp n : Int32} (h1 : ¬ sp < 0) (h2 : ¬ dp < 0) (h3 : ¬ n < 0) (h4 : sp.toNatClampNeg + n.toNatClampNeg ≤ n0) (h5 : dp.toNatClampNeg + n.toNatClampNeg ≤ n1) (hF : 7 ≤ R.frames) (hLc : 420 ≤ R.locals) (hsum : (rest.map fun v => v.category).sum ≤ 8) (hdg : decode cc pc = .ok (.invokestatic x, 3))
    (kk : ∀ (H1 : Heap) (locs1 : List Loc), H1[a]? = some (arrV (ct t) n1 (fun j => mk (va_cpy f g sp.toNatClampNeg dp.toNatClampNeg n.toNatClampNeg j))) → H1.size = H.size → (∀ q : Nat, q ≠ a → H1[q]? = H[q]?) → (∀ q ∈ locs1, q ∈ locs ∨ q.base = a) → W p l e R s m args below meth c H1 locs1 cells slots Q (F0 m (pc + 3) arr rest)) : W p l e R s m args below meth c H locs cells slots Q (F0 m pc arr (.int n :: .int dp :: .ref a :: .int sp :: .ref a0 :: rest)) := by
  have nn : ∀ z : Int32, ¬ z < 0 → z.toInt = (z.toNatClampNeg : Int) := by
    intro z hz
    have hz0 : (0 : Int) ≤ z.toInt := by
      have := Int32.not_lt.mp hz
      simpa using Int32.le_iff_toInt_le.mp this
    show z.toInt = ((z.toInt.toNat : Nat) : Int)
    omega
  have hty : refKind (am_tys t) = false := by
    rcases (by omega : t = 0 ∨ t = 1 ∨ t = 2 ∨ t = 3) with rfl | rfl | rfl | rfl <;> rfl
  have hA := arrOfT_moved hW.alike (C.2.2.1 t (by omega)).1
  have hnw : nativeFrameWords "java/lang/System" "arraycopy" 5 + 11 ≤ 60 := by decide
  intro T hT X
  obtain ⟨-, k0', hk0, cm0, hkk0⟩ := hA n0 (fun j => mk (f j))
  obtain ⟨-, k1', hk1, cm1, hkk1⟩ := hA n1 (fun j => mk (g j))
  obtain ⟨vm', X', step⟩ := X.arraycopy hx hown (am_word C hW k1 rfl args) (am_word C hW k2 rfl args) (am_word C hW k3 rfl args) (am_word C hW k4 rfl args) (src := a0) (dst := a) (cs := arrV (ct t) n0 (fun j => mk (f j))) (cd := arrV (ct t) n1 (fun j => mk (g j))) (srcPos := sp) (destPos := dp) (n := n) (by rw [hT]; exact hp0) (by rw [hT]; exact hp1)
    (fun _ h => by cases h) (fun _ h => by cases h) (fun h => by cases h) (fun h => by cases h) hk0 hk1 hkk0 hkk1 (by simp [hty]) h1 h2 h3
    (by rw [nn sp h1, nn n h3, arrV_size]; omega)
    (by rw [nn dp h2, nn n h3, arrV_size]; omega)
    (fun vm₁ _ i hi => by
      have e : (arrV (ct t) n0 (fun j => mk (f j))).slots.getD (sp.toNatClampNeg + i) .null = mk (f (sp.toNatClampNeg + i)) := by
        rw [Array.getD_eq_getD_getElem?, arrV_read _ _ (by omega)]
        rfl
      refine ⟨?_, ?_⟩
      · rw [e]
        exact hfit _
      · rw [e]
        rcases (by omega : t = 0 ∨ t = 1 ∨ t = 2 ∨ t = 3) with rfl | rfl | rfl | rfl
        · have := hfit (f (sp.toNatClampNeg + i))
          cases hz : mk (f (sp.toNatClampNeg + i)) <;> rw [hz] at this <;> first | exact trivial | cases this
        · have := hfit (f (sp.toNatClampNeg + i))
          cases hz : mk (f (sp.toNatClampNeg + i)) <;> rw [hz] at this <;> first | exact trivial | cases this
        · have := hfit (f (sp.toNatClampNeg + i))
          cases hz : mk (f (sp.toNatClampNeg + i)) <;> rw [hz] at this <;> first | exact trivial | cases this
        · have := hfit (f (sp.toNatClampNeg + i))
          cases hz : mk (f (sp.toNatClampNeg + i)) <;> rw [hz] at this <;> first | exact trivial | cases this)
    (g := F0 m pc arr (.int n :: .int dp :: .ref a :: .int sp :: .ref a0 :: rest)) rfl (by rw [hml]) (rest := rest) rfl (by rw [hb]; exact hdg) (by omega) (by show 2 * 0 + _ + _ ≤ _; omega)
  have e1 : copied (arrV (ct t) n0 (fun j => mk (f j))) (arrV (ct t) n1 (fun j => mk (g j))) sp dp n = arrV (ct t) n1 (fun j => mk (va_cpy f g sp.toNatClampNeg dp.toNatClampNeg n.toNatClampNeg j)) := va_copied mk (ct t) (ct t) f g h4
  rw [e1] at X' step
  have hl : a < H.size := (Array.getElem?_eq_some_iff.mp hp1).1
  generalize hcell : arrV (ct t) n1 (fun j => mk (va_cpy f g sp.toNatClampNeg dp.toNatClampNeg n.toNatClampNeg j)) = cell at X' step kk
  have hheap : ((T.setVm vm').setCell a cell).heap = H.setIfInBounds a cell := by rw [← hT]; rfl
  obtain ⟨t2, a1, b1⟩ := kk (H.setIfInBounds a cell) _ (by simp [Array.getElem?_setIfInBounds, hl]) (by simp) (fun q hq => by simp [Array.getElem?_setIfInBounds, Ne.symm hq]) (fun q hq => by
      rcases List.mem_append.mp hq with h | h
      · exact Or.inl h
      · obtain ⟨z, -, hz⟩ := List.mem_map.mp h
        rw [← hz]
        exact Or.inr rfl) _ hheap X'
  exact ⟨t2, step t2 a1, b1⟩
end AMC
end
section
theorem am_wr_mono (M : am_M) (p k : Nat) (v : Value) : am_nx M ≤ am_nx (am_wr M p k v) ∧ am_us M ≤ am_us (am_wr M p k v) := by
  rw [am_wr_nx, am_wr_us]
  exact ⟨Nat.le_refl _, Nat.le_refl _⟩
theorem am_new_mono (M : am_M) (tag n cost : Nat) : am_nx M ≤ am_nx (am_new M tag n cost) ∧ am_us M ≤ am_us (am_new M tag n cost) := ⟨Nat.le_succ _, Nat.le_add_right _ _⟩
set_option maxHeartbeats 4000000 in
theorem am_step_mono {ins : Instr} {aux : List Nat} {i : Nat} {ls st : List Value} {M : am_M} {i' : Nat} {ls' st' : List Value} {M' : am_M} (h : am_step ins aux i ls st M = some (i', ls', st', M')) : am_nx M ≤ am_nx M' ∧ am_us M ≤ am_us M' := by
  have rf : am_nx M ≤ am_nx M ∧ am_us M ≤ am_us M := ⟨Nat.le_refl _, Nat.le_refl _⟩
  unfold am_step at h
  split at h <;> first
    | (cases h; done)
    | (cases h; exact rf)
    | (obtain ⟨_, _, _, _, _, rfl⟩ := am_ld0 h; exact rf)
    | (obtain ⟨_, _, _, _, _, rfl⟩ := am_ld1 h; exact rf)
    | (rcases am_ld2 h with ⟨_, _, _, _, _, rfl⟩ | ⟨_, _, _, _, rfl⟩ <;> exact rf)
    | (obtain ⟨_, _, _, _, _, _, rfl⟩ := am_st0 h; exact rf)
    | (obtain ⟨_, _, _, _, _, _, rfl⟩ := am_st1 h; exact rf)
    | (obtain ⟨_, _, _, _, _, _, _, rfl⟩ := am_st2 h; exact rf)
    | (obtain ⟨_, _, _, _, _, rfl⟩ := am_ldE h; exact rf)
    | (obtain ⟨_, _, _, _, _, _, rfl⟩ := am_svE h; exact am_wr_mono _ _ _ _)
    | (split at h <;> first | (cases h; exact rf) | (cases h; exact am_wr_mono _ _ _ _) | (cases h; exact am_new_mono _ _ _ _) | (obtain ⟨_, _, h2⟩ := Option.map_eq_some_iff.mp h; cases h2; exact rf) | (obtain ⟨_, _, _, _, _, _, rfl⟩ := am_svE h; exact am_wr_mono _ _ _ _) | cases h)
    | (cases h; exact am_new_mono _ _ _ _)
theorem am_prim_mono {aux : List Nat} {i : Nat} {ls st : List Value} {M : am_M} {i' : Nat} {ls' st' : List Value} {M' : am_M} (h : am_prim aux i ls st M = some (i', ls', st', M')) : am_nx M = am_nx M' ∧ am_us M = am_us M' := by
  unfold am_prim at h
  split at h
  · split at h
    · cases h; exact ⟨rfl, rfl⟩
    · cases h
  · split at h
    · split at h
      · cases h; exact ⟨rfl, rfl⟩
      · cases h; exact ⟨rfl, rfl⟩
      · cases h
    · cases h
  · split at h
    · split at h
      · cases h
      · cases h; exact ⟨rfl, rfl⟩
    · cases h
  · split at h
    · cases h; exact ⟨rfl, rfl⟩
    · cases h
  · cases h
theorem am_run_mono (P : Nat → Option am_I) : ∀ (n d : Nat) (co : List am_A) (i : Nat) (ls st : List Value) (M : am_M) (r : Option Value) (M' : am_M), am_run P n d co i ls st M = some (r, M') → am_nx M ≤ am_nx M' ∧ am_us M ≤ am_us M' := by
  intro n
  induction n with
  | zero => intro d co i ls st M r M' h; cases h
  | succ n ih =>
    intro d co i ls st M r M' h
    unfold am_run at h
    split at h
    · cases h
    · split at h
      · obtain ⟨_, _, h2⟩ := Option.map_eq_some_iff.mp h
        cases h2
        exact ⟨Nat.le_refl _, Nat.le_refl _⟩
      · split at h
        · split at h
          · split at h
            · split at h
              · split at h
                next h1 =>
                  have a1 := ih _ _ _ _ _ _ _ _ h1
                  have a2 := ih _ _ _ _ _ _ _ _ h
                  exact ⟨Nat.le_trans a1.1 a2.1, Nat.le_trans a1.2 a2.2⟩
                · cases h
              · cases h
            · cases h
          · split at h
            next h1 =>
              have a1 := am_prim_mono h1
              have a2 := ih _ _ _ _ _ _ _ _ h
              rw [a1.1, a1.2]
              exact a2
            · cases h
        · split at h
          next h1 =>
            have a1 := am_step_mono h1
            have a2 := ih _ _ _ _ _ _ _ _ h
            exact ⟨Nat.le_trans a1.1 a2.1, Nat.le_trans a1.2 a2.2⟩
          · cases h
/-- what a return instruction hands back -/
def am_rk (ret : Option FieldType) (r : Option Value) (ins : Instr) : Prop :=
  (ins = .return_ ∧ r = none ∧ ret = none) ∨ (ins = .ireturn ∧ ∃ x : Int32, r = some (.int x) ∧ (ret = some .int ∨ (ret = some .boolean ∧ (x = 0 ∨ x = 1)))) ∨
  (ins = .lreturn ∧ ∃ x : Int64, r = some (.long x) ∧ ret = some .long) ∨ (ins = .areturn ∧ (r = some .null ∨ ∃ q : Nat, r = some (.ref q)) ∧ ∃ Cn, ret = some (.object Cn))
theorem am_retE {own nm : String} {ret : Option FieldType} {co : List am_A} {pc : Nat} {ins : Instr} {aux : List Nat} {st : List Value} {r : Option Value} (hk : am_chkI own nm ret co pc ins aux = true) (h : am_ret ins aux st = some r) : am_rk ret r ins ∧ st = r.toList ∧ am_len ins aux = 1 := by
  unfold am_ret at h
  split at h
  · cases h
    exact ⟨Or.inl ⟨rfl, rfl, of_decide_eq_true hk⟩, rfl, rfl⟩
  · cases h
    exact ⟨Or.inr (Or.inl ⟨rfl, _, rfl, Or.inl (of_decide_eq_true hk)⟩), rfl, rfl⟩
  · split at h
    next hx =>
      cases h
      exact ⟨Or.inr (Or.inl ⟨rfl, _, rfl, Or.inr ⟨of_decide_eq_true hk, hx⟩⟩), rfl, rfl⟩
    · cases h
  · cases h
    exact ⟨Or.inr (Or.inr (Or.inl ⟨rfl, _, rfl, of_decide_eq_true hk⟩)), rfl, rfl⟩
  · cases h
    refine ⟨Or.inr (Or.inr (Or.inr ⟨rfl, Or.inr ⟨_, rfl⟩, ?_⟩)), rfl, rfl⟩
    simp only [am_chkI] at hk
    split at hk
    · exact ⟨_, rfl⟩
    · cases hk
  · cases h
    refine ⟨Or.inr (Or.inr (Or.inr ⟨rfl, Or.inl rfl, ?_⟩)), rfl, rfl⟩
    simp only [am_chkI] at hk
    split at hk
    · exact ⟨_, rfl⟩
    · cases hk
  · cases h
theorem am_callE {aux : List Nat} {st : List Value} {M : am_M} {mi : Nat} {as rest : List Value} (h : am_call aux st M = some (mi, as, rest)) :
    (∃ n t, aux = 1 :: mi :: n :: t ∧ as.length = n ∧ st = as.reverse ++ rest ∧ (rest.map fun v => v.category).sum ≤ 8) ∨
    ∃ kd n ci t q as', aux = kd :: mi :: n :: ci :: t ∧ kd < 4 ∧ kd ≠ 1 ∧ as = .ref q :: as' ∧ as'.length = n ∧ st = as'.reverse ++ .ref q :: rest ∧ (am_sh M q).1 = ci ∧ (rest.map fun v => v.category).sum ≤ 8 := by
  unfold am_call at h
  split at h
  · split at h
    next hn =>
      cases h
      exact Or.inl ⟨_, _, rfl, by rw [List.length_reverse, List.length_take]; omega, by rw [List.reverse_reverse, List.take_append_drop], hn.2⟩
    · cases h
  · rename_i hno
    split at h
    next hkd =>
      split at h
      next q rest' hdr =>
        split at h
        next hn =>
          cases h
          exact Or.inr ⟨_, _, _, _, q, _, rfl, hkd, (fun z => by subst z; exact hno rfl), rfl, by rw [List.length_reverse, List.length_take]; omega, by rw [List.reverse_reverse, ← hdr, List.take_append_drop], hn.2.1, hn.2.2⟩
        · cases h
      · cases h
    · cases h
  · cases h
end
section
theorem am_str7 {D : va_G} {ct : Nat → ClassId} {ro : Nat → Nat} {s0 : State} {L : Nat} {xs : Nat → Int32} {M : am_M} {H : Heap} (hG : am_G D ct ro s0 L xs M H) {q : Nat} (h : (am_sh M q).1 = 200) : 4 ≤ q ∧ q < 8 ∧ (am_sh M q).2 = (am_roL q).length ∧ (∀ k, M.1 q k = (am_roL q).getD k 0) ∧ am_ad s0 ro q = ro q := by
  obtain ⟨g1, g2, g3, g4, g5, g6⟩ := hG
  rcases Nat.lt_or_ge q am_R0 with z | z
  · obtain ⟨e1, e2⟩ := g5 q z
    rw [e1] at h
    have hq : 4 ≤ q ∧ q < 8 := by
      unfold am_roS at h
      split at h
      · exact absurd (show (100 : Nat) = 200 from h) (by decide)
      · split at h
        · exact ⟨by omega, by assumption⟩
        · exact absurd (show (100 : Nat) = 200 from h) (by decide)
    refine ⟨hq.1, hq.2, ?_, fun k => ?_, am_adR z⟩
    · rw [e1]
      unfold am_roS
      rw [if_neg (by omega), if_pos hq.2]
    · rw [e2 k]
      unfold am_roI
      rw [if_pos hq.2]
  · exfalso
    rcases Nat.lt_or_ge q (am_nx M) with y | y
    · rcases g4 q z y with w | w
      · exact absurd w.1 (by omega)
      · exact absurd w.2.1 (by omega)
    · rw [(g6 q y).1] at h
      exact absurd (show (1000 : Nat) = 200 from h) (by decide)
theorem am_G_copy {D : va_G} {ct : Nat → ClassId} {ro : Nat → Nat} {s0 : State} {L : Nat} {xs : Nat → Int32} {M M' : am_M} {H H' : Heap} (hG : am_G D ct ro s0 L xs M H) {q t : Nat} (h1 : am_R0 ≤ q) (hq : q < am_nx M) (ht : t ≤ 6) (hsq : (am_sh M q).1 = 100 + t) (hs : ∀ x, am_sh M' x = am_sh M x) (hnx : am_nx M' = am_nx M) (hr : ∀ x, x ≠ q → ∀ k, M'.1 x k = M.1 x k ∧ M'.2.1 x k = M.2.1 x k ∧ M'.2.2.1 x k = M.2.2.1 x k)
    (he : H'[am_ad s0 ro q]? = some (arrV (ct t) (am_sh M q).2 (fun j => am_rd (am_ad s0 ro) M' q j (am_tys t)))) (hz : H'.size = H.size) (ho : ∀ x : Nat, x ≠ am_ad s0 ro q → H'[x]? = H[x]?) : am_G D ct ro s0 L xs M' H' := by
  obtain ⟨g1, g2, g3, g4, g5, g6⟩ := hG
  refine ⟨by rw [hz, hnx]; exact g1, by rw [hnx]; exact g2, fun x hx => ?_, fun x x1 x2 => ?_, fun x hx => ?_, fun x hx => ?_⟩
  · rw [ho x (by rw [am_adW h1]; omega)]
    exact g3 x hx
  · rw [hnx] at x2
    by_cases e : x = q
    · subst e
      refine Or.inr ?_
      rw [hs, hsq, show 100 + t - 100 = t by omega]
      exact ⟨by omega, by omega, he⟩
    · refine am_cell_kept (g4 x x1 x2) (hs x) (fun j ty => ?_) (ho _ fun z => e (am_adI x1 h1 z))
      obtain ⟨r1, r2, r3⟩ := hr x e j
      cases ty <;> simp [am_rd, r1, r2, r3]
  · have e : x ≠ q := by omega
    rw [hs]
    exact ⟨(g5 x hx).1, fun j => by rw [(hr x e j).1]; exact (g5 x hx).2 j⟩
  · rw [hnx] at hx
    have e : x ≠ q := by omega
    rw [hs]
    exact ⟨(g6 x hx).1, fun j => by rw [(hr x e j).1, (hr x e j).2.1, (hr x e j).2.2]; exact (g6 x hx).2 j⟩
theorem am_chk1 {P : Nat → Option am_I} {own : String} {ins : Instr} {mi n : Nat} {tl : List Nat} {inf : am_I} (h : am_chkC P own ins (1 :: mi :: n :: tl) = true) (hP : P mi = some inf) : ∃ x w1 w2 w3 w4, ins = .invokestatic x ∧ am_w w1 (.methodLink own x inf.1) = true ∧ am_w w2 (.code inf.1 inf.2.1 inf.2.2.1 inf.2.2.2.1) = true ∧ am_w w3 (.static inf.1) = true ∧ am_w w4 (.initialized inf.1.cls) = true ∧ am_chkN inf n = true := by
  generalize hx : 1 :: mi :: n :: tl = aux at h
  unfold am_chkC at h
  split at h <;> first | (cases hx; done) | (cases h; done) | skip
  cases hx
  rw [hP] at h
  simp only [Bool.and_eq_true] at h
  exact ⟨_, _, _, _, _, rfl, h.1.1.1.1, h.1.1.1.2, h.1.1.2, h.1.2, h.2⟩
theorem am_chk4 {P : Nat → Option am_I} {own : String} {ins : Instr} {kd mi n ci : Nat} {tl : List Nat} {inf : am_I} (h : am_chkC P own ins (kd :: mi :: n :: ci :: tl) = true) (hkd : kd < 4) (hk1 : kd ≠ 1) (hP : P mi = some inf) :
    (∃ x w1 w2 w3 w4 w5, ins = .invokevirtual x ∧ ci < 8 ∧ inf.1.cls = am_cn ci ∧ am_w w1 (.methodLink own x inf.1) = true ∧ am_w w2 (.code inf.1 inf.2.1 inf.2.2.1 inf.2.2.2.1) = true ∧ am_w w3 (.instanceMethod inf.1) = true ∧ am_w w4 (.selects (am_cn ci) inf.1 inf.1) = true ∧ am_w w5 (.initialized inf.1.cls) = true ∧ am_chkN inf n = true) ∨
    (∃ x w1 w2 w3 w4, ins = .invokespecial x ∧ inf.1.name = "<init>" ∧ inf.2.2.2.1 = none ∧ am_w w1 (.methodLink own x inf.1) = true ∧ am_w w2 (.code inf.1 inf.2.1 inf.2.2.1 none) = true ∧ am_w w3 (.instanceMethod inf.1) = true ∧ am_w w4 (.initialized inf.1.cls) = true ∧ am_chkN inf n = true) ∨
    (∃ x w1 w2 w3 w4, ins = .invokespecial x ∧ inf.1.name = "<init>" ∧ inf.2.2.2.1 = none ∧ am_w w1 (.methodLinkNest own x inf.1 "AirByYard") = true ∧ am_w w2 (.code inf.1 inf.2.1 inf.2.2.1 none) = true ∧ am_w w3 (.instanceMethod inf.1) = true ∧ am_w w4 (.initialized inf.1.cls) = true ∧ am_chkN inf n = true) := by
  generalize hx : kd :: mi :: n :: ci :: tl = aux at h
  unfold am_chkC at h
  split at h
  · cases hx
    rw [hP] at h
    simp only [Bool.and_eq_true, decide_eq_true_eq] at h
    exact Or.inl ⟨_, _, _, _, _, _, rfl, h.1.1.1.1.1.1.1, h.1.1.1.1.1.1.2, h.1.1.1.1.1.2, h.1.1.1.1.2, h.1.1.1.2, h.1.1.2, h.1.2, h.2⟩
  · cases hx
    exact absurd rfl hk1
  · cases hx
    rw [hP] at h
    simp only [Bool.and_eq_true, decide_eq_true_eq] at h
    exact Or.inr (Or.inl ⟨_, _, _, _, _, rfl, h.1.1.1.1.1.1, h.1.1.1.1.1.2, h.1.1.1.1.2, h.1.1.1.2, h.1.1.2, h.1.2, h.2⟩)
  · cases hx
    rw [hP] at h
    simp only [Bool.and_eq_true, decide_eq_true_eq] at h
    exact Or.inr (Or.inr ⟨_, _, _, _, _, rfl, h.1.1.1.1.1.1, h.1.1.1.1.1.2, h.1.1.1.1.2, h.1.1.1.2, h.1.1.2, h.1.2, h.2⟩)
  · cases hx
    exact absurd hkd (by decide)
  · cases hx
    exact absurd hkd (by decide)
  · cases hx
    exact absurd hkd (by decide)
  · cases hx
    exact absurd hkd (by decide)
  · cases h
theorem am_chkP {P : Nat → Option am_I} {own : String} {ins : Instr} {kd : Nat} {tl : List Nat} (h : am_chkC P own ins (kd :: tl) = true) (hkd : 4 ≤ kd) :
    (∃ x w1 w2 w3, kd = 4 ∧ ins = .invokespecial x ∧ am_w w1 (.methodLink own x objectInit) = true ∧ am_w w2 (.instanceMethod objectInit) = true ∧ am_w w3 (.code objectInit ⟨#[0xb1]⟩ 1 none) = true) ∨
    (∃ x t w1 w2 w3 w4, kd = 5 ∧ ins = .invokestatic x ∧ tl = [t, w1, w2, w3, w4] ∧ am_w w1 (.methodLink own x arraycopyName) = true ∧ am_w w2 (.native arraycopyName) = true ∧ am_w w3 (.static arraycopyName) = true ∧ am_w w4 (.initialized "java/lang/System") = true) ∨
    (∃ x w1 w2 w3 w4 w5, kd = 6 ∧ ins = .invokevirtual x ∧ am_w w1 (.methodLink own x yJ0_charAt_5068e) = true ∧ am_w w2 (.code yJ0_charAt_5068e cJ0_charAt_5068e 2 (some .char)) = true ∧ am_w w3 (.instanceMethod yJ0_charAt_5068e) = true ∧ am_w w4 (.selects RJ0 yJ0_charAt_5068e yJ0_charAt_5068e) = true ∧ am_w w5 (.initialized RJ0) = true) ∨
    (∃ x w1 w2 w3 w4 w5, kd = 7 ∧ ins = .invokevirtual x ∧ am_w w1 (.methodLink own x yJ0_length_8abf5) = true ∧ am_w w2 (.code yJ0_length_8abf5 cJ0_length_8abf5 1 (some .int)) = true ∧ am_w w3 (.instanceMethod yJ0_length_8abf5) = true ∧ am_w w4 (.selects RJ0 yJ0_length_8abf5 yJ0_length_8abf5) = true ∧ am_w w5 (.initialized RJ0) = true) := by
  generalize hx : kd :: tl = au at h
  unfold am_chkC at h
  split at h
  · cases hx
    exact absurd hkd (by decide)
  · cases hx
    exact absurd hkd (by decide)
  · cases hx
    exact absurd hkd (by decide)
  · cases hx
    exact absurd hkd (by decide)
  · cases hx
    simp only [Bool.and_eq_true] at h
    exact Or.inl ⟨_, _, _, _, rfl, rfl, h.1.1, h.1.2, h.2⟩
  · cases hx
    simp only [Bool.and_eq_true] at h
    exact Or.inr (Or.inl ⟨_, _, _, _, _, _, rfl, rfl, rfl, h.1.1.1, h.1.1.2, h.1.2, h.2⟩)
  · cases hx
    simp only [Bool.and_eq_true] at h
    exact Or.inr (Or.inr (Or.inl ⟨_, _, _, _, _, _, rfl, rfl, h.1.1.1.1, h.1.1.1.2, h.1.1.2, h.1.2, h.2⟩))
  · cases hx
    simp only [Bool.and_eq_true] at h
    exact Or.inr (Or.inr (Or.inr ⟨_, _, _, _, _, _, rfl, rfl, h.1.1.1.1, h.1.1.1.2, h.1.1.2, h.1.2, h.2⟩))
  · cases h
theorem am_len2 (as : List Value) (ad : Nat → Nat) : (as.map (am_cv ad)).reverse = as.reverse.map (am_cv ad) := List.map_reverse.symm
/-- the walk of a method from any of its instructions on -/
def am_B (P : Nat → Option am_I) (D : va_G) (ct : Nat → ClassId) (ro : Nat → Nat) (b : Nat) (s0 : State) (L : Nat) (xs : Nat → Int32) (n : Nat) : Prop :=
  ∀ (d : Nat) (inf : am_I) (i : Nat) (ls st : List Value) (M : am_M) (r : Option Value) (M' : am_M), am_okM P inf → am_run P n d inf.2.2.2.2.2 i ls st M = some (r, M') →
  ∀ {p : Program} {l : Launch} {e : Env} {R : Room} {s : State} {m : MethodId} {args : Array Value} {below : List Frame} {meth : Method} {c : Code} {H : Heap} {locs : List Loc} {Q : State → Prop} {arr : Array Slot} {pc c0 u0 : Nat},
  p.tables.exec = Jvm.exec → c.code = inf.2.1 → c.maxLocals = inf.2.2.1 → s0.WarmedH s.vm → s.vm.findClass inf.2.2.2.2.1 = some m.cls → meth.name = inf.1.name → am_G D ct ro s0 L xs M H → am_lr (am_ad s0 ro) ls arr inf.2.2.1 → (∀ q ∈ locs, s0.heap.size ≤ q.base) →
  am_pc inf.2.2.2.2.2 i = some pc → c0 ≤ am_nx M → u0 ≤ am_us M → am_nx M' - c0 ≤ R.cells → am_us M' - u0 ≤ R.slots → d ≤ R.frames → 60 * d ≤ R.locals →
  (∀ (H' : Heap) (locs' : List Loc) (arr' : Array Slot) (pc' : Nat) (ins' : Instr), decode inf.2.1 pc' = .ok (ins', 1) → am_rk inf.2.2.2.1 r ins' → am_G D ct ro s0 L xs M' H' → (∀ q ∈ locs', s0.heap.size ≤ q.base) →
    W p l e R s m args below meth c H' locs' (am_nx M' - c0) (am_us M' - u0) Q (F0 m pc' arr' (r.toList.map (am_cv (am_ad s0 ro))))) →
  W p l e R s m args below meth c H locs (am_nx M - c0) (am_us M - u0) Q (F0 m pc arr (st.map (am_cv (am_ad s0 ro))))
set_option maxHeartbeats 4000000 in
/-- a method's contract out of its walk -/
theorem am_AB {P : Nat → Option am_I} {D : va_G} {ct : Nat → ClassId} {ro : Nat → Nat} {b : Nat} {s0 : State} {L : Nat} {xs : Nat → Int32} {n : Nat} (hB : am_B P D ct ro b s0 L xs n) {d : Nat} {inf : am_I} {as : List Value} {M : am_M} {r : Option Value} {M1 : am_M} (ok : am_okM P inf) (hlay : (am_lay as).length ≤ inf.2.2.1)
    (h : am_run P n d inf.2.2.2.2.2 0 (am_entry as inf.2.2.1) [] M = some (r, M1)) (l : Launch) : am_con D ct ro s0 L xs l d inf as M r M1 := by
  obtain ⟨k1, k2, k3, k4⟩ := id ok
  refine Met.ofW (cc := inf.2.1) (maxL := inf.2.2.1) (ret := inf.2.2.2.1) k1 rfl ?_
  intro p e s m args below meth c s₁ B hml hv
  obtain ⟨rfl, hW, hG⟩ := hv
  have hown : s.vm.findClass inf.2.2.2.2.1 = some m.cls := k2 ▸ findClass_of_methodNamed B.named
  have hnm := (name_of_methodNamed B.named B.method).1
  rw [lg_entry_eq]
  have hlr := am_entryL (am_ad s0 ro) as hlay
  have hmono := am_run_mono P _ _ _ _ _ _ _ _ _ h
  have key := hB d inf 0 (am_entry as inf.2.2.1) [] M r M1 ok h (p := p) (l := l) (e := e) (R := (headSpec [Cond.code inf.1 inf.2.1 inf.2.2.1 inf.2.2.2.1] { frames := d, cells := am_nx M1 - am_nx M, slots := am_us M1 - am_us M, locals := 60 * d }).room) (s := s) (m := m) (args := (as.map (am_cv (am_ad s0 ro))).toArray) (below := below) (meth := meth) (c := c) (H := s.heap) (locs := [])
    (Q := MQ below (am_Qc D ct ro s0 L xs M1 r) (as.map (am_cv (am_ad s0 ro))).toArray s (am_nx M1 - am_nx M) (am_us M1 - am_us M) (fun q => s0.heap.size ≤ q)) (c0 := am_nx M) (u0 := am_us M)
    B.exec B.bytes hml hW hown hnm hG hlr (fun q hq => absurd hq List.not_mem_nil) k3 (Nat.le_refl _) (Nat.le_refl _) (Nat.le_refl _) (Nat.le_refl _) (Nat.le_refl _) (Nat.le_refl _) ?_
  · rw [Nat.sub_self, Nat.sub_self] at key
    exact key
  · intro H' locs' arr' pc' ins' hd hrk hG' hlo'
    have hlocks := B.notSynchronized
    rcases hrk with ⟨rfl, rfl, hret⟩ | ⟨rfl, x, rfl, hret⟩ | ⟨rfl, x, rfl, hret⟩ | ⟨rfl, hr, Cn, hret⟩
    · exact W.vret B.exec B.bytes (B.returns.trans hret) (fun t ht _ => ⟨rfl, by rw [ht]; exact hG'⟩) hlo' hd
    · rcases hret with hret | ⟨hret, hx⟩
      · exact W.iret B.exec B.bytes (B.returns.trans hret) (fun t ht _ => ⟨rfl, by rw [ht]; exact hG'⟩) hlo' hd
      · exact W.zret B.exec B.bytes (B.returns.trans hret) (by rcases hx with rfl | rfl <;> decide) (fun t ht _ => ⟨rfl, by rw [ht]; exact hG'⟩) hlo' hd
    · exact W.lret B.exec B.bytes (B.returns.trans hret) (fun t ht _ => ⟨rfl, by rw [ht]; exact hG'⟩) hlo' hd
    · rcases hr with rfl | ⟨q, rfl⟩
      · exact W.aret B.exec B.bytes (B.returns.trans hret) (Or.inl ⟨_, rfl⟩) (Or.inl rfl) (fun t ht _ => ⟨rfl, by rw [ht]; exact hG'⟩) hlo' hd
      · exact W.aret B.exec B.bytes (B.returns.trans hret) (Or.inl ⟨_, rfl⟩) (Or.inr ⟨_, rfl⟩) (fun t ht _ => ⟨rfl, by rw [ht]; exact hG'⟩) hlo' hd
set_option maxHeartbeats 8000000 in
theorem am_main {P : Nat → Option am_I} {D : va_G} {ct : Nat → ClassId} {ro : Nat → Nat} {b : Nat} {s0 : State} {L : Nat} {xs : Nat → Int32} (hP : ∀ mi inf, P mi = some inf → am_okM P inf) (C : am_C0 D ct ro b s0 L xs) : ∀ n, am_B P D ct ro b s0 L xs n := by
  intro n
  induction n with
  | zero => intro d inf i ls st M r M' ok h; cases h
  | succ n ih =>
    intro d inf i ls st M r M' ok h p l e R s m args below meth c H locs Q arr pc c0 u0 hx hb hml hW hown hnm hG hlr hlo hpc hc0 hu0 hc hs hF hLc K
    have hmono := am_run_mono P _ _ _ _ _ _ _ _ _ h
    unfold am_run at h
    split at h
    · cases h
    next pc' ins aux hi =>
      have epc : pc' = pc := by
        unfold am_pc at hpc
        rw [hi] at hpc
        exact Option.some.inj hpc
      subst epc
      have hchk := ok.2.2.2 i (List.getElem?_eq_some_iff.mp hi).1
      unfold am_chk at hchk
      rw [hi] at hchk
      simp only [Bool.and_eq_true, Bool.or_eq_true, Bool.not_eq_true', decide_eq_true_eq] at hchk
      obtain ⟨⟨hd, hf⟩, hk⟩ := hchk
      have hf : am_falls ins = true → am_pc inf.2.2.2.2.2 (i + 1) = some (pc' + am_len ins aux) := fun z => by
        rcases hf with q | q
        · rw [z] at q; cases q
        · exact q
      split at h
      next hret =>
        have hinv : am_isInv ins = false := by cases ins <;> first | rfl | cases hret
        rw [hinv] at hk
        obtain ⟨r', h1, h2⟩ := Option.map_eq_some_iff.mp h
        cases h2
        obtain ⟨e1, e2, e3⟩ := am_retE hk h1
        rw [e2]
        rw [e3] at hd
        exact K H locs arr pc' ins hd e1 hG hlo
      next hret =>
        have hsz : c.maxLocals = arr.size := hml.trans hlr.1.symm
        split at h
        next hinv =>
          rw [if_pos hinv] at hk
          have hf3 : am_pc inf.2.2.2.2.2 (i + 1) = some (pc' + 3) := by
            have := hf (by cases ins <;> first | rfl | cases hinv)
            rw [this]
            cases ins <;> first | rfl | cases hinv
          have hd3 : decode inf.2.1 pc' = .ok (ins, 3) := by
            rw [hd]
            cases ins <;> first | rfl | cases hinv
          split at h
          next mi as rest hcall =>
            split at h
            next d' inf' hPm =>
              split at h
              next hlay =>
                split at h
                next v M1 hrun =>
                  have ok' := hP _ _ hPm
                  have hM := am_AB ih ok' hlay hrun l
                  have m1 := am_run_mono P _ _ _ _ _ _ _ _ _ hrun
                  have m2 := am_run_mono P _ _ _ _ _ _ _ _ _ h
                  have ec : am_nx M - c0 + (am_nx M1 - am_nx M) = am_nx M1 - c0 := by omega
                  have eu : am_us M - u0 + (am_us M1 - am_us M) = am_us M1 - u0 := by omega
                  have kk : ∀ (H' : Heap) (locs' : List Loc), am_G D ct ro s0 L xs M1 H' → (∀ q ∈ locs', s0.heap.size ≤ q.base) → W p l e R s m args below meth c H' locs' (am_nx M - c0 + (am_nx M1 - am_nx M)) (am_us M - u0 + (am_us M1 - am_us M)) Q (F0 m (pc' + 3) arr ((v.map (am_cv (am_ad s0 ro))).toList ++ rest.map (am_cv (am_ad s0 ro)))) := by
                    intro H' locs' hG' hlo'
                    rw [ec, eu]
                    have := ih (d' + 1) inf (i + 1) ls (v.toList ++ rest) M1 r M' ok h hx hb hml hW hown hnm hG' hlr hlo' hf3 (Nat.le_trans hc0 m1.1) (Nat.le_trans hu0 m1.2) hc hs hF hLc K
                    rw [List.map_append] at this
                    cases v with
                    | none => exact this
                    | some w => exact this
                  have hcc : am_nx M - c0 + (am_nx M1 - am_nx M) ≤ R.cells := by omega
                  have hss : am_us M - u0 + (am_us M1 - am_us M) ≤ R.slots := by omega
                  rcases am_callE hcall with ⟨na, tl, rfl, hlen, rfl, hsum⟩ | ⟨kd, na, ci, tl, q, as', rfl, hkd, hk1, rfl, hlen, rfl, hq, hsum⟩
                  · obtain ⟨x, w1, w2, w3, w4, rfl, a1, a2, a3, a4, a5⟩ := am_chk1 hk hPm
                    have := am_WcallS hx hb hsz C hW hown hG hlo hM a5 a1 a2 a3 a4 hF hLc hlen hsum hcc hss hd3 kk
                    rw [am_len2, ← List.map_append] at this
                    exact this
                  · rcases am_chk4 hk hkd hk1 hPm with ⟨x, w1, w2, w3, w4, w5, rfl, b1, b2, a1, a2, a3, a4, a5, a6⟩ | ⟨x, w1, w2, w3, w4, rfl, b1, b2, a1, a2, a3, a4, a6⟩ | ⟨x, w1, w2, w3, w4, rfl, b1, b2, a1, a2, a3, a4, a6⟩
                    · have := am_WcallV hx hb hsz C hW hown hG hlo hM b1 b2 hq a6 a1 a2 a3 a4 a5 hF hLc hlen hsum hcc hss hd3 kk
                      rw [am_len2] at this
                      rw [List.map_append]
                      exact this
                    · have := am_WcallI hx hb hsz C hW hown hG hlo hM b1 b2 a6 a1 (by rw [b2]; exact a2) a3 a4 hF hLc hlen hsum hcc hss hd3 kk
                      rw [am_len2] at this
                      rw [List.map_append]
                      exact this
                    · have := am_WcallN hx hb hsz C hW hown hG hlo hM b1 b2 a6 a1 (by rw [b2]; exact a2) a3 a4 hF hLc hlen hsum hcc hss hd3 kk
                      rw [am_len2] at this
                      rw [List.map_append]
                      exact this
                · cases h
              · cases h
            · cases h
          next hcall =>
            split at h
            next d' i' ls' st' M1 hpr =>
              have m1 := am_prim_mono hpr
              have m2 := am_run_mono P _ _ _ _ _ _ _ _ _ h
              have kk : ∀ (H' : Heap) (locs' : List Loc), i' = i + 1 → ls' = ls → am_G D ct ro s0 L xs M1 H' → (∀ q ∈ locs', s0.heap.size ≤ q.base) → W p l e R s m args below meth c H' locs' (am_nx M - c0) (am_us M - u0) Q (F0 m (pc' + 3) arr (st'.map (am_cv (am_ad s0 ro)))) := by
                intro H' locs' e1 e2 hG' hlo'
                subst e1
                subst e2
                rw [m1.1, m1.2]
                exact ih (d' + 7) inf (i + 1) ls' st' M1 r M' ok h hx hb hml hW hown hnm hG' hlr hlo' hf3 (by omega) (by omega) hc hs hF hLc K
              have hF7 : 7 ≤ R.frames := by omega
              have hL7 : 420 ≤ R.locals := by omega
              unfold am_prim at hpr
              split at hpr
              · obtain ⟨x, w1, w2, w3, -, rfl, a1, a2, a3⟩ | ⟨_, _, _, _, _, _, z, -⟩ | ⟨_, _, _, _, _, _, z, -⟩ | ⟨_, _, _, _, _, _, z, -⟩ := am_chkP hk (by decide)
                · split at hpr
                  next hsum =>
                    cases hpr
                    exact am_Wobj hx hb hsz C hW hown a1 a2 a3 (by omega) (by omega) (by rw [am_cats]; exact hsum) hd3 (kk _ _ rfl rfl hG hlo)
                  · cases hpr
                · cases z
                · cases z
                · cases z
              · obtain ⟨_, _, _, _, z, -⟩ | ⟨x, t', w1, w2, w3, w4, -, rfl, htl, a1, a2, a3, a4⟩ | ⟨_, _, _, _, _, _, z, -⟩ | ⟨_, _, _, _, _, _, z, -⟩ := am_chkP hk (by decide)
                · cases z
                · split at hpr
                  next hc9 =>
                    obtain ⟨t1, t2, r1, r2, n1, n2, n3, n4, n5, hsum⟩ := hc9
                    split at hpr
                    · cases hpr
                      obtain ⟨y1, y2⟩ := am_rowW (t := 0) hG r1 (by decide) t1
                      obtain ⟨z1, z2⟩ := am_rowW (t := 0) hG r2 (by decide) t2
                      refine am_Wcopy (α := Int32) (t := 0) (fun z => .int z) hx hb hsz C hW hown (by decide) y2 z2 (fun _ => rfl) (fun _ => rfl) a1 a2 a3 a4 n1 n2 n3 n4 n5 hF7 hL7 (by rw [am_cats]; exact hsum) hd3 fun H1 locs1 b1 b2 b3 b4 => ?_
                      refine kk H1 locs1 rfl rfl (am_G_copy (t := 0) hG r2 z1 (by decide) t2 (fun _ => rfl) rfl (fun x hx k => ⟨?_, rfl, rfl⟩) (by rw [b1]; congr 2; funext j; exact congrArg Value.int (if_pos rfl).symm) b2 b3) (fun q hq => ?_)
                      · exact if_neg hx
                      · rcases b4 q hq with h9 | h9
                        · exact hlo q h9
                        · rw [h9, am_adW r2]
                          omega
                    · cases hpr
                      obtain ⟨y1, y2⟩ := am_rowW (t := 1) hG r1 (by decide) t1
                      obtain ⟨z1, z2⟩ := am_rowW (t := 1) hG r2 (by decide) t2
                      refine am_Wcopy (α := Int64) (t := 1) (fun z => .long z) hx hb hsz C hW hown (by decide) y2 z2 (fun _ => rfl) (fun _ => rfl) a1 a2 a3 a4 n1 n2 n3 n4 n5 hF7 hL7 (by rw [am_cats]; exact hsum) hd3 fun H1 locs1 b1 b2 b3 b4 => ?_
                      refine kk H1 locs1 rfl rfl (am_G_copy (t := 1) hG r2 z1 (by decide) t2 (fun _ => rfl) rfl (fun x hx k => ⟨rfl, ?_, rfl⟩) (by rw [b1]; congr 2; funext j; exact congrArg Value.long (if_pos rfl).symm) b2 b3) (fun q hq => ?_)
                      · exact if_neg hx
                      · rcases b4 q hq with h9 | h9
                        · exact hlo q h9
                        · rw [h9, am_adW r2]
                          omega
                    · cases hpr
                  · cases hpr
                · cases z
                · cases z
              · obtain ⟨_, _, _, _, z, -⟩ | ⟨_, _, _, _, _, _, z, -⟩ | ⟨x, w1, w2, w3, w4, w5, -, rfl, a1, a2, a3, a4, a5⟩ | ⟨_, _, _, _, _, _, z, -⟩ := am_chkP hk (by decide)
                · cases z
                · cases z
                · split at hpr
                  next hc9 =>
                    split at hpr
                    · cases hpr
                    next hbad =>
                      cases hpr
                      obtain ⟨s1, s2, s3, s4, s5⟩ := am_str7 hG hc9.1
                      obtain ⟨y1, y2, y3⟩ := C.2.2.2.2.2.2 l _ s1 s2
                      obtain ⟨q1, q2⟩ := am_badE (by simpa using hbad)
                      rw [s3] at q2
                      have fin := kk _ _ rfl rfl hG hlo
                      rw [List.map_cons] at fin
                      rw [List.map_cons, List.map_cons]
                      show W p l e R s m args below meth c H locs _ _ Q (F0 m pc' arr (Value.int _ :: Value.ref (am_ad s0 ro _) :: _))
                      rw [s5]
                      refine am_Wstr (as := [.int _]) hx hb hsz C hW hown hG (y3 _ (fun w => w.elim q1 (fun w => absurd q2 (Nat.not_lt.mpr w)))) y1 (n := 1) (by decide +kernel) ⟨by decide, by decide⟩ (by decide) a1 a2 a3 a4 a5 hF7 hL7 rfl (by rw [am_cats]; exact hc9.2) (by omega) (by omega) hd3 ?_
                      rw [s4] at fin
                      exact fin
                  · cases hpr
                · cases z
              · obtain ⟨_, _, _, _, z, -⟩ | ⟨_, _, _, _, _, _, z, -⟩ | ⟨_, _, _, _, _, _, z, -⟩ | ⟨x, w1, w2, w3, w4, w5, -, rfl, a1, a2, a3, a4, a5⟩ := am_chkP hk (by decide)
                · cases z
                · cases z
                · cases z
                · split at hpr
                  next hc9 =>
                    cases hpr
                    obtain ⟨s1, s2, s3, s4, s5⟩ := am_str7 hG hc9.1
                    obtain ⟨y1, y2, y3⟩ := C.2.2.2.2.2.2 l _ s1 s2
                    have fin := kk _ _ rfl rfl hG hlo
                    rw [List.map_cons] at fin
                    rw [List.map_cons]
                    show W p l e R s m args below meth c H locs _ _ Q (F0 m pc' arr (Value.ref (am_ad s0 ro _) :: _))
                    rw [s5]
                    refine am_Wstr (as := []) hx hb hsz C hW hown hG y2 y1 (n := 0) (by decide +kernel) ⟨by decide, by decide⟩ (by decide) a1 a2 a3 a4 a5 hF7 hL7 rfl (by rw [am_cats]; exact hc9.2) (by omega) (by omega) hd3 ?_
                    rw [s3] at fin
                    exact fin
                  · cases hpr
              · cases hpr
            · cases h
        next hinv =>
          rw [if_neg hinv] at hk
          split at h
          next i' ls' st' M1 hst =>
            have m1 := am_step_mono hst
            have m2 := am_run_mono P _ _ _ _ _ _ _ _ _ h
            exact am_simple hx hb C hW hown hnm hG hlr hlo hd hf hk hst hc0 hu0 (by omega) (by omega) fun H' locs' arr' pc'' hp hG' hlr' hlo' =>
              ih d inf i' ls' st' M1 r M' ok h hx hb hml hW hown hnm hG' hlr' hlo' hp (Nat.le_trans hc0 m1.1) (Nat.le_trans hu0 m1.2) hc hs hF hLc K
          · cases h
end
