/-- a private method of a class that the tables say can be made, by its rows of tables_1 -/
def lw_okq (q : MethodName × Nat) : Prop := (q.1.cls ≠ "java/lang/invoke/MethodHandle" ∧ q.1.cls ≠ "java/lang/invoke/VarHandle") ∧ Cond.instantiable q.1.cls q.2 ∈ tables_1 ∧ Cond.privateMethod q.1 ∈ tables_1 ∧ Cond.instanceMethod q.1 ∈ tables_1
theorem lw_p0 : lw_okq (⟨"StreamCarrier", "isUntouched", "()Z"⟩, 14) := ⟨⟨by decide +kernel, by decide +kernel⟩, List.mem_of_getElem? (i := 9) (by decide +kernel), List.mem_of_getElem? (i := 251) (by decide +kernel), List.mem_of_getElem? (i := 252) (by decide +kernel)⟩
theorem lw_p1 : lw_okq (⟨"StreamCarrier", "streamAt", "(I)LStreamCarrier$Stream;"⟩, 14) := ⟨⟨by decide +kernel, by decide +kernel⟩, List.mem_of_getElem? (i := 9) (by decide +kernel), List.mem_of_getElem? (i := 263) (by decide +kernel), List.mem_of_getElem? (i := 264) (by decide +kernel)⟩
theorem lw_p2 : lw_okq (⟨"StreamCarrier", "readBy", "(LStreamCarrier$Side;)I"⟩, 14) := ⟨⟨by decide +kernel, by decide +kernel⟩, List.mem_of_getElem? (i := 9) (by decide +kernel), List.mem_of_getElem? (i := 282) (by decide +kernel), List.mem_of_getElem? (i := 283) (by decide +kernel)⟩
theorem lw_p3 : lw_okq (⟨"StreamCarrier", "sideAt", "(I)LStreamCarrier$Side;"⟩, 14) := ⟨⟨by decide +kernel, by decide +kernel⟩, List.mem_of_getElem? (i := 9) (by decide +kernel), List.mem_of_getElem? (i := 294) (by decide +kernel), List.mem_of_getElem? (i := 295) (by decide +kernel)⟩
theorem lw_p4 : lw_okq (⟨"StreamCarrier", "fill", "(LStreamCarrier$Side;LStreamCarrier$Packet;)V"⟩, 14) := ⟨⟨by decide +kernel, by decide +kernel⟩, List.mem_of_getElem? (i := 9) (by decide +kernel), List.mem_of_getElem? (i := 354) (by decide +kernel), List.mem_of_getElem? (i := 355) (by decide +kernel)⟩
theorem lw_p5 : lw_okq (⟨"StreamCarrier", "addTold", "(LStreamCarrier$Side;LStreamCarrier$Packet;)V"⟩, 14) := ⟨⟨by decide +kernel, by decide +kernel⟩, List.mem_of_getElem? (i := 9) (by decide +kernel), List.mem_of_getElem? (i := 358) (by decide +kernel), List.mem_of_getElem? (i := 359) (by decide +kernel)⟩
theorem lw_p6 : lw_okq (⟨"StreamCarrier", "addAnswerAndAsk", "(LStreamCarrier$Side;LStreamCarrier$Packet;)V"⟩, 14) := ⟨⟨by decide +kernel, by decide +kernel⟩, List.mem_of_getElem? (i := 9) (by decide +kernel), List.mem_of_getElem? (i := 381) (by decide +kernel), List.mem_of_getElem? (i := 382) (by decide +kernel)⟩
theorem lw_p7 : lw_okq (⟨"StreamCarrier", "addBounds", "(LStreamCarrier$Side;LStreamCarrier$Packet;)V"⟩, 14) := ⟨⟨by decide +kernel, by decide +kernel⟩, List.mem_of_getElem? (i := 9) (by decide +kernel), List.mem_of_getElem? (i := 385) (by decide +kernel), List.mem_of_getElem? (i := 386) (by decide +kernel)⟩
theorem lw_p8 : lw_okq (⟨"StreamCarrier", "addCutOffs", "(LStreamCarrier$Side;LStreamCarrier$Packet;)V"⟩, 14) := ⟨⟨by decide +kernel, by decide +kernel⟩, List.mem_of_getElem? (i := 9) (by decide +kernel), List.mem_of_getElem? (i := 389) (by decide +kernel), List.mem_of_getElem? (i := 390) (by decide +kernel)⟩
theorem lw_p9 : lw_okq (⟨"StreamCarrier", "addBytes", "(LStreamCarrier$Side;LStreamCarrier$Packet;)V"⟩, 14) := ⟨⟨by decide +kernel, by decide +kernel⟩, List.mem_of_getElem? (i := 9) (by decide +kernel), List.mem_of_getElem? (i := 393) (by decide +kernel), List.mem_of_getElem? (i := 394) (by decide +kernel)⟩
theorem lw_p10 : lw_okq (⟨"StreamCarrier", "addBytesOf", "(LStreamCarrier$Side;ILStreamCarrier$Packet;)Z"⟩, 14) := ⟨⟨by decide +kernel, by decide +kernel⟩, List.mem_of_getElem? (i := 9) (by decide +kernel), List.mem_of_getElem? (i := 397) (by decide +kernel), List.mem_of_getElem? (i := 398) (by decide +kernel)⟩
theorem lw_p11 : lw_okq (⟨"StreamCarrier", "newBytesOf", "(LStreamCarrier$Side;LStreamCarrier$Stream;)I"⟩, 14) := ⟨⟨by decide +kernel, by decide +kernel⟩, List.mem_of_getElem? (i := 9) (by decide +kernel), List.mem_of_getElem? (i := 413) (by decide +kernel), List.mem_of_getElem? (i := 414) (by decide +kernel)⟩
theorem lw_p12 : lw_okq (⟨"StreamCarrier", "countedOf", "(LStreamCarrier$Side;)I"⟩, 14) := ⟨⟨by decide +kernel, by decide +kernel⟩, List.mem_of_getElem? (i := 9) (by decide +kernel), List.mem_of_getElem? (i := 417) (by decide +kernel), List.mem_of_getElem? (i := 418) (by decide +kernel)⟩
theorem lw_p13 : lw_okq (⟨"StreamCarrier", "putUnderWay", "(LStreamCarrier$Side;LStreamCarrier$Packet;)V"⟩, 14) := ⟨⟨by decide +kernel, by decide +kernel⟩, List.mem_of_getElem? (i := 9) (by decide +kernel), List.mem_of_getElem? (i := 444) (by decide +kernel), List.mem_of_getElem? (i := 445) (by decide +kernel)⟩
theorem lw_p14 : lw_okq (⟨"StreamCarrier", "underWayAt", "(I)LStreamCarrier$Packet;"⟩, 14) := ⟨⟨by decide +kernel, by decide +kernel⟩, List.mem_of_getElem? (i := 9) (by decide +kernel), List.mem_of_getElem? (i := 452) (by decide +kernel), List.mem_of_getElem? (i := 453) (by decide +kernel)⟩
theorem lw_p15 : lw_okq (⟨"StreamCarrier", "takeOffNet", "(I)V"⟩, 14) := ⟨⟨by decide +kernel, by decide +kernel⟩, List.mem_of_getElem? (i := 9) (by decide +kernel), List.mem_of_getElem? (i := 456) (by decide +kernel), List.mem_of_getElem? (i := 457) (by decide +kernel)⟩
def lw_privs_1 : List (MethodName × Nat) := [(⟨"StreamCarrier", "isUntouched", "()Z"⟩, 14), (⟨"StreamCarrier", "streamAt", "(I)LStreamCarrier$Stream;"⟩, 14), (⟨"StreamCarrier", "readBy", "(LStreamCarrier$Side;)I"⟩, 14), (⟨"StreamCarrier", "sideAt", "(I)LStreamCarrier$Side;"⟩, 14), (⟨"StreamCarrier", "fill", "(LStreamCarrier$Side;LStreamCarrier$Packet;)V"⟩, 14), (⟨"StreamCarrier", "addTold", "(LStreamCarrier$Side;LStreamCarrier$Packet;)V"⟩, 14), (⟨"StreamCarrier", "addAnswerAndAsk", "(LStreamCarrier$Side;LStreamCarrier$Packet;)V"⟩, 14), (⟨"StreamCarrier", "addBounds", "(LStreamCarrier$Side;LStreamCarrier$Packet;)V"⟩, 14), (⟨"StreamCarrier", "addCutOffs", "(LStreamCarrier$Side;LStreamCarrier$Packet;)V"⟩, 14), (⟨"StreamCarrier", "addBytes", "(LStreamCarrier$Side;LStreamCarrier$Packet;)V"⟩, 14), (⟨"StreamCarrier", "addBytesOf", "(LStreamCarrier$Side;ILStreamCarrier$Packet;)Z"⟩, 14), (⟨"StreamCarrier", "newBytesOf", "(LStreamCarrier$Side;LStreamCarrier$Stream;)I"⟩, 14), (⟨"StreamCarrier", "countedOf", "(LStreamCarrier$Side;)I"⟩, 14), (⟨"StreamCarrier", "putUnderWay", "(LStreamCarrier$Side;LStreamCarrier$Packet;)V"⟩, 14), (⟨"StreamCarrier", "underWayAt", "(I)LStreamCarrier$Packet;"⟩, 14), (⟨"StreamCarrier", "takeOffNet", "(I)V"⟩, 14)]
theorem lw_r1 : ∀ q ∈ lw_privs_1, lw_okq q := List.forall_mem_cons.mpr ⟨lw_p0, List.forall_mem_cons.mpr ⟨lw_p1, List.forall_mem_cons.mpr ⟨lw_p2, List.forall_mem_cons.mpr ⟨lw_p3, List.forall_mem_cons.mpr ⟨lw_p4, List.forall_mem_cons.mpr ⟨lw_p5, List.forall_mem_cons.mpr ⟨lw_p6, List.forall_mem_cons.mpr ⟨lw_p7, List.forall_mem_cons.mpr ⟨lw_p8, List.forall_mem_cons.mpr ⟨lw_p9, List.forall_mem_cons.mpr ⟨lw_p10, List.forall_mem_cons.mpr ⟨lw_p11, List.forall_mem_cons.mpr ⟨lw_p12, List.forall_mem_cons.mpr ⟨lw_p13, List.forall_mem_cons.mpr ⟨lw_p14, List.forall_mem_cons.mpr ⟨lw_p15, fun _ h => absurd h List.not_mem_nil⟩⟩⟩⟩⟩⟩⟩⟩⟩⟩⟩⟩⟩⟩⟩⟩
theorem lw_p16 : lw_okq (⟨"StreamCarrier", "lookAtAddress", "(LStreamCarrier$Side;LStreamCarrier$Packet;)V"⟩, 14) := ⟨⟨by decide +kernel, by decide +kernel⟩, List.mem_of_getElem? (i := 9) (by decide +kernel), List.mem_of_getElem? (i := 460) (by decide +kernel), List.mem_of_getElem? (i := 461) (by decide +kernel)⟩
theorem lw_p17 : lw_okq (⟨"StreamCarrier", "takeParts", "(LStreamCarrier$Side;LStreamCarrier$Packet;)V"⟩, 14) := ⟨⟨by decide +kernel, by decide +kernel⟩, List.mem_of_getElem? (i := 9) (by decide +kernel), List.mem_of_getElem? (i := 465) (by decide +kernel), List.mem_of_getElem? (i := 466) (by decide +kernel)⟩
theorem lw_p18 : lw_okq (⟨"StreamCarrier", "takeTold", "(LStreamCarrier$Side;LStreamCarrier$Packet;)V"⟩, 14) := ⟨⟨by decide +kernel, by decide +kernel⟩, List.mem_of_getElem? (i := 9) (by decide +kernel), List.mem_of_getElem? (i := 473) (by decide +kernel), List.mem_of_getElem? (i := 474) (by decide +kernel)⟩
theorem lw_p19 : lw_okq (⟨"StreamCarrier", "settle", "(LStreamCarrier$Side;LStreamCarrier$Packet;)V"⟩, 14) := ⟨⟨by decide +kernel, by decide +kernel⟩, List.mem_of_getElem? (i := 9) (by decide +kernel), List.mem_of_getElem? (i := 477) (by decide +kernel), List.mem_of_getElem? (i := 478) (by decide +kernel)⟩
theorem lw_p20 : lw_okq (⟨"StreamCarrier", "lookForLost", "(LStreamCarrier$Side;)V"⟩, 14) := ⟨⟨by decide +kernel, by decide +kernel⟩, List.mem_of_getElem? (i := 9) (by decide +kernel), List.mem_of_getElem? (i := 500) (by decide +kernel), List.mem_of_getElem? (i := 501) (by decide +kernel)⟩
theorem lw_p21 : lw_okq (⟨"StreamCarrier", "lose", "(LStreamCarrier$Side;LStreamCarrier$Packet;)V"⟩, 14) := ⟨⟨by decide +kernel, by decide +kernel⟩, List.mem_of_getElem? (i := 9) (by decide +kernel), List.mem_of_getElem? (i := 509) (by decide +kernel), List.mem_of_getElem? (i := 510) (by decide +kernel)⟩
theorem lw_p22 : lw_okq (⟨"StreamCarrier", "packetOf", "(II)LStreamCarrier$Packet;"⟩, 14) := ⟨⟨by decide +kernel, by decide +kernel⟩, List.mem_of_getElem? (i := 9) (by decide +kernel), List.mem_of_getElem? (i := 565) (by decide +kernel), List.mem_of_getElem? (i := 566) (by decide +kernel)⟩
theorem lw_p23 : lw_okq (⟨"StreamCarrierModel", "begin", "()V"⟩, 65) := ⟨⟨by decide +kernel, by decide +kernel⟩, List.mem_of_getElem? (i := 581) (by decide +kernel), List.mem_of_getElem? (i := 588) (by decide +kernel), List.mem_of_getElem? (i := 589) (by decide +kernel)⟩
theorem lw_p24 : lw_okq (⟨"StreamCarrierModel", "allRead", "(I)I"⟩, 65) := ⟨⟨by decide +kernel, by decide +kernel⟩, List.mem_of_getElem? (i := 581) (by decide +kernel), List.mem_of_getElem? (i := 821) (by decide +kernel), List.mem_of_getElem? (i := 822) (by decide +kernel)⟩
theorem lw_p25 : lw_okq (⟨"StreamCarrierModel", "at", "(II)I"⟩, 65) := ⟨⟨by decide +kernel, by decide +kernel⟩, List.mem_of_getElem? (i := 581) (by decide +kernel), List.mem_of_getElem? (i := 836) (by decide +kernel), List.mem_of_getElem? (i := 837) (by decide +kernel)⟩
theorem lw_p26 : lw_okq (⟨"StreamCarrierModel", "putTold", "(I)V"⟩, 65) := ⟨⟨by decide +kernel, by decide +kernel⟩, List.mem_of_getElem? (i := 581) (by decide +kernel), List.mem_of_getElem? (i := 840) (by decide +kernel), List.mem_of_getElem? (i := 841) (by decide +kernel)⟩
theorem lw_p27 : lw_okq (⟨"StreamCarrierModel", "put", "(IIIII)Z"⟩, 65) := ⟨⟨by decide +kernel, by decide +kernel⟩, List.mem_of_getElem? (i := 581) (by decide +kernel), List.mem_of_getElem? (i := 844) (by decide +kernel), List.mem_of_getElem? (i := 845) (by decide +kernel)⟩
theorem lw_p28 : lw_okq (⟨"StreamCarrierModel", "putRest", "(I)V"⟩, 65) := ⟨⟨by decide +kernel, by decide +kernel⟩, List.mem_of_getElem? (i := 581) (by decide +kernel), List.mem_of_getElem? (i := 848) (by decide +kernel), List.mem_of_getElem? (i := 849) (by decide +kernel)⟩
theorem lw_p29 : lw_okq (⟨"StreamCarrierModel", "putBounds", "(I)V"⟩, 65) := ⟨⟨by decide +kernel, by decide +kernel⟩, List.mem_of_getElem? (i := 581) (by decide +kernel), List.mem_of_getElem? (i := 852) (by decide +kernel), List.mem_of_getElem? (i := 853) (by decide +kernel)⟩
theorem lw_p30 : lw_okq (⟨"StreamCarrierModel", "putBytes", "(II)V"⟩, 65) := ⟨⟨by decide +kernel, by decide +kernel⟩, List.mem_of_getElem? (i := 581) (by decide +kernel), List.mem_of_getElem? (i := 856) (by decide +kernel), List.mem_of_getElem? (i := 857) (by decide +kernel)⟩
theorem lw_p31 : lw_okq (⟨"StreamCarrierModel", "firstAgain", "(I)I"⟩, 65) := ⟨⟨by decide +kernel, by decide +kernel⟩, List.mem_of_getElem? (i := 581) (by decide +kernel), List.mem_of_getElem? (i := 860) (by decide +kernel), List.mem_of_getElem? (i := 861) (by decide +kernel)⟩
def lw_privs_2 : List (MethodName × Nat) := [(⟨"StreamCarrier", "lookAtAddress", "(LStreamCarrier$Side;LStreamCarrier$Packet;)V"⟩, 14), (⟨"StreamCarrier", "takeParts", "(LStreamCarrier$Side;LStreamCarrier$Packet;)V"⟩, 14), (⟨"StreamCarrier", "takeTold", "(LStreamCarrier$Side;LStreamCarrier$Packet;)V"⟩, 14), (⟨"StreamCarrier", "settle", "(LStreamCarrier$Side;LStreamCarrier$Packet;)V"⟩, 14), (⟨"StreamCarrier", "lookForLost", "(LStreamCarrier$Side;)V"⟩, 14), (⟨"StreamCarrier", "lose", "(LStreamCarrier$Side;LStreamCarrier$Packet;)V"⟩, 14), (⟨"StreamCarrier", "packetOf", "(II)LStreamCarrier$Packet;"⟩, 14), (⟨"StreamCarrierModel", "begin", "()V"⟩, 65), (⟨"StreamCarrierModel", "allRead", "(I)I"⟩, 65), (⟨"StreamCarrierModel", "at", "(II)I"⟩, 65), (⟨"StreamCarrierModel", "putTold", "(I)V"⟩, 65), (⟨"StreamCarrierModel", "put", "(IIIII)Z"⟩, 65), (⟨"StreamCarrierModel", "putRest", "(I)V"⟩, 65), (⟨"StreamCarrierModel", "putBounds", "(I)V"⟩, 65), (⟨"StreamCarrierModel", "putBytes", "(II)V"⟩, 65), (⟨"StreamCarrierModel", "firstAgain", "(I)I"⟩, 65)]
theorem lw_r2 : ∀ q ∈ lw_privs_2, lw_okq q := List.forall_mem_cons.mpr ⟨lw_p16, List.forall_mem_cons.mpr ⟨lw_p17, List.forall_mem_cons.mpr ⟨lw_p18, List.forall_mem_cons.mpr ⟨lw_p19, List.forall_mem_cons.mpr ⟨lw_p20, List.forall_mem_cons.mpr ⟨lw_p21, List.forall_mem_cons.mpr ⟨lw_p22, List.forall_mem_cons.mpr ⟨lw_p23, List.forall_mem_cons.mpr ⟨lw_p24, List.forall_mem_cons.mpr ⟨lw_p25, List.forall_mem_cons.mpr ⟨lw_p26, List.forall_mem_cons.mpr ⟨lw_p27, List.forall_mem_cons.mpr ⟨lw_p28, List.forall_mem_cons.mpr ⟨lw_p29, List.forall_mem_cons.mpr ⟨lw_p30, List.forall_mem_cons.mpr ⟨lw_p31, fun _ h => absurd h List.not_mem_nil⟩⟩⟩⟩⟩⟩⟩⟩⟩⟩⟩⟩⟩⟩⟩⟩
theorem lw_p32 : lw_okq (⟨"StreamCarrierModel", "counted", "(I)I"⟩, 65) := ⟨⟨by decide +kernel, by decide +kernel⟩, List.mem_of_getElem? (i := 581) (by decide +kernel), List.mem_of_getElem? (i := 864) (by decide +kernel), List.mem_of_getElem? (i := 865) (by decide +kernel)⟩
theorem lw_p33 : lw_okq (⟨"StreamCarrierModel", "takeOut", "(I)V"⟩, 65) := ⟨⟨by decide +kernel, by decide +kernel⟩, List.mem_of_getElem? (i := 581) (by decide +kernel), List.mem_of_getElem? (i := 872) (by decide +kernel), List.mem_of_getElem? (i := 873) (by decide +kernel)⟩
theorem lw_p34 : lw_okq (⟨"StreamCarrierModel", "lookAtPath", "(II)V"⟩, 65) := ⟨⟨by decide +kernel, by decide +kernel⟩, List.mem_of_getElem? (i := 581) (by decide +kernel), List.mem_of_getElem? (i := 876) (by decide +kernel), List.mem_of_getElem? (i := 877) (by decide +kernel)⟩
theorem lw_p35 : lw_okq (⟨"StreamCarrierModel", "partComes", "(IIIIII)V"⟩, 65) := ⟨⟨by decide +kernel, by decide +kernel⟩, List.mem_of_getElem? (i := 581) (by decide +kernel), List.mem_of_getElem? (i := 880) (by decide +kernel), List.mem_of_getElem? (i := 881) (by decide +kernel)⟩
theorem lw_p36 : lw_okq (⟨"StreamCarrierModel", "toldComes", "(III)V"⟩, 65) := ⟨⟨by decide +kernel, by decide +kernel⟩, List.mem_of_getElem? (i := 581) (by decide +kernel), List.mem_of_getElem? (i := 884) (by decide +kernel), List.mem_of_getElem? (i := 885) (by decide +kernel)⟩
theorem lw_p37 : lw_okq (⟨"StreamCarrierModel", "arrives", "(I)V"⟩, 65) := ⟨⟨by decide +kernel, by decide +kernel⟩, List.mem_of_getElem? (i := 581) (by decide +kernel), List.mem_of_getElem? (i := 888) (by decide +kernel), List.mem_of_getElem? (i := 889) (by decide +kernel)⟩
theorem lw_p38 : lw_okq (⟨"StreamCarrierModel", "measure", "(II)V"⟩, 65) := ⟨⟨by decide +kernel, by decide +kernel⟩, List.mem_of_getElem? (i := 581) (by decide +kernel), List.mem_of_getElem? (i := 892) (by decide +kernel), List.mem_of_getElem? (i := 893) (by decide +kernel)⟩
theorem lw_p39 : lw_okq (⟨"StreamCarrierModel", "lookForLost", "(I)V"⟩, 65) := ⟨⟨by decide +kernel, by decide +kernel⟩, List.mem_of_getElem? (i := 581) (by decide +kernel), List.mem_of_getElem? (i := 896) (by decide +kernel), List.mem_of_getElem? (i := 897) (by decide +kernel)⟩
theorem lw_p40 : lw_okq (⟨"StreamCarrierModel", "limit", "(I)I"⟩, 65) := ⟨⟨by decide +kernel, by decide +kernel⟩, List.mem_of_getElem? (i := 581) (by decide +kernel), List.mem_of_getElem? (i := 900) (by decide +kernel), List.mem_of_getElem? (i := 901) (by decide +kernel)⟩
theorem lw_p41 : lw_okq (⟨"StreamCarrierModel", "loses", "(IIIII)V"⟩, 65) := ⟨⟨by decide +kernel, by decide +kernel⟩, List.mem_of_getElem? (i := 581) (by decide +kernel), List.mem_of_getElem? (i := 904) (by decide +kernel), List.mem_of_getElem? (i := 905) (by decide +kernel)⟩
theorem lw_p42 : lw_okq (⟨"StreamCarrierModel", "bytesCome", "(IIIZ)V"⟩, 65) := ⟨⟨by decide +kernel, by decide +kernel⟩, List.mem_of_getElem? (i := 581) (by decide +kernel), List.mem_of_getElem? (i := 908) (by decide +kernel), List.mem_of_getElem? (i := 909) (by decide +kernel)⟩
theorem lw_p43 : lw_okq (⟨"StreamCarrierModel", "waitOf", "(I)I"⟩, 65) := ⟨⟨by decide +kernel, by decide +kernel⟩, List.mem_of_getElem? (i := 581) (by decide +kernel), List.mem_of_getElem? (i := 924) (by decide +kernel), List.mem_of_getElem? (i := 925) (by decide +kernel)⟩
theorem lw_p44 : lw_okq (⟨"StreamCarrierModel", "many", "(II)I"⟩, 65) := ⟨⟨by decide +kernel, by decide +kernel⟩, List.mem_of_getElem? (i := 581) (by decide +kernel), List.mem_of_getElem? (i := 935) (by decide +kernel), List.mem_of_getElem? (i := 936) (by decide +kernel)⟩
theorem lw_p45 : lw_okq (⟨"StreamCarrierModel", "cameMany", "(I)I"⟩, 65) := ⟨⟨by decide +kernel, by decide +kernel⟩, List.mem_of_getElem? (i := 581) (by decide +kernel), List.mem_of_getElem? (i := 939) (by decide +kernel), List.mem_of_getElem? (i := 940) (by decide +kernel)⟩
theorem lw_p46 : lw_okq (⟨"StreamCarrierModel", "isPacket", "(II)Z"⟩, 65) := ⟨⟨by decide +kernel, by decide +kernel⟩, List.mem_of_getElem? (i := 581) (by decide +kernel), List.mem_of_getElem? (i := 956) (by decide +kernel), List.mem_of_getElem? (i := 957) (by decide +kernel)⟩
def lw_privs_3 : List (MethodName × Nat) := [(⟨"StreamCarrierModel", "counted", "(I)I"⟩, 65), (⟨"StreamCarrierModel", "takeOut", "(I)V"⟩, 65), (⟨"StreamCarrierModel", "lookAtPath", "(II)V"⟩, 65), (⟨"StreamCarrierModel", "partComes", "(IIIIII)V"⟩, 65), (⟨"StreamCarrierModel", "toldComes", "(III)V"⟩, 65), (⟨"StreamCarrierModel", "arrives", "(I)V"⟩, 65), (⟨"StreamCarrierModel", "measure", "(II)V"⟩, 65), (⟨"StreamCarrierModel", "lookForLost", "(I)V"⟩, 65), (⟨"StreamCarrierModel", "limit", "(I)I"⟩, 65), (⟨"StreamCarrierModel", "loses", "(IIIII)V"⟩, 65), (⟨"StreamCarrierModel", "bytesCome", "(IIIZ)V"⟩, 65), (⟨"StreamCarrierModel", "waitOf", "(I)I"⟩, 65), (⟨"StreamCarrierModel", "many", "(II)I"⟩, 65), (⟨"StreamCarrierModel", "cameMany", "(I)I"⟩, 65), (⟨"StreamCarrierModel", "isPacket", "(II)Z"⟩, 65)]
theorem lw_r3 : ∀ q ∈ lw_privs_3, lw_okq q := List.forall_mem_cons.mpr ⟨lw_p32, List.forall_mem_cons.mpr ⟨lw_p33, List.forall_mem_cons.mpr ⟨lw_p34, List.forall_mem_cons.mpr ⟨lw_p35, List.forall_mem_cons.mpr ⟨lw_p36, List.forall_mem_cons.mpr ⟨lw_p37, List.forall_mem_cons.mpr ⟨lw_p38, List.forall_mem_cons.mpr ⟨lw_p39, List.forall_mem_cons.mpr ⟨lw_p40, List.forall_mem_cons.mpr ⟨lw_p41, List.forall_mem_cons.mpr ⟨lw_p42, List.forall_mem_cons.mpr ⟨lw_p43, List.forall_mem_cons.mpr ⟨lw_p44, List.forall_mem_cons.mpr ⟨lw_p45, List.forall_mem_cons.mpr ⟨lw_p46, fun _ h => absurd h List.not_mem_nil⟩⟩⟩⟩⟩⟩⟩⟩⟩⟩⟩⟩⟩⟩⟩
def lw_privs : List (MethodName × Nat) := lw_privs_1 ++ (lw_privs_2 ++ (lw_privs_3))
def lw_tbl : List Cond := k2_sels lw_privs ++ tables_1
theorem lw_privs_ok : ∀ q ∈ lw_privs, lw_okq q := by
  show ∀ q ∈ lw_privs_1 ++ (lw_privs_2 ++ (lw_privs_3)), lw_okq q
  exact List.forall_mem_append.mpr ⟨lw_r1, List.forall_mem_append.mpr ⟨lw_r2, lw_r3⟩⟩
/-! ===== BEGIN words of one list among another's, by their places ===== -/
theorem goodIn_r {big : List Cond} (ws : List Cond) (ps : List Nat) (hp : ws = ps.filterMap (fun i => big[i]?)) (h : ws.all goodWord = true) : GoodIn big ws := by
  intro w hw
  have h1 := List.all_eq_true.mp h w hw
  rw [hp] at hw
  obtain ⟨i, -, hi⟩ := List.mem_filterMap.mp hw
  have hm : w ∈ big := by first | exact List.mem_of_getElem? hi | exact List.getElem?_mem hi
  exact ⟨hm, good_of_word h1⟩
theorem goodIn_app {big a b : List Cond} (ha : GoodIn big a) (hb : GoodIn big b) : GoodIn big (a ++ b) := fun w h => (List.mem_append.mp h).elim (ha w) (hb w)
theorem goodIn_ca {big a b : List Cond} {c : Cond} (ha : GoodIn big (c :: a)) (hb : GoodIn big b) : GoodIn big (c :: (a ++ b)) := fun w h => (List.mem_cons.mp h).elim (fun e => ha w (List.mem_cons.mpr (Or.inl e))) (fun h => (List.mem_append.mp h).elim (fun h => ha w (List.mem_cons.mpr (Or.inr h))) (hb w))
theorem goodIn_sub {big ws : List Cond} (hm : ∀ w ∈ ws, w ∈ big) (h : ws.all goodWord = true) : GoodIn big ws := fun w hw => ⟨hm w hw, good_of_word (List.all_eq_true.mp h w hw)⟩
/-! ===== END ===== -/
def RX0 : String := "StreamCarrier$Pace"
def TX0 : u_T := fun k => match k with
  | 0 => ("StreamCarrier$Pace", "flight", "I", false)
  | 1 => ("StreamCarrier$Pace", "open", "I", false)
  | 2 => ("StreamCarrier$Pace", "brim", "I", false)
  | 3 => ("StreamCarrier$Pace", "fall", "I", false)
  | 4 => ("StreamCarrier$Pace", "latest", "I", false)
  | 5 => ("StreamCarrier$Pace", "smooth", "I", false)
  | 6 => ("StreamCarrier$Pace", "vary", "I", false)
  | 7 => ("StreamCarrier$Pace", "probes", "I", false)
  | 8 => ("StreamCarrier$Pace", "probeOwed", "Z", false)
  | _ => ("StreamCarrier$Pace", "lastHeavy", "I", false)
def tyX0 : Nat → FieldType := fun k => match k with
  | 0 => .int
  | 1 => .int
  | 2 => .int
  | 3 => .int
  | 4 => .int
  | 5 => .int
  | 6 => .int
  | 7 => .int
  | 8 => .boolean
  | _ => .int
abbrev wsX00 : List Cond := u_ws RX0 TX0 10
theorem nmX0 : ∀ a, a < 10 → ∀ b, b < 10 → a ≠ b → (TX0 a).2.1 ≠ (TX0 b).2.1 := by decide +kernel
theorem tyX0_ok : ∀ k, k < 10 → parseFieldDescriptor (TX0 k).2.2.1 = some (tyX0 k) := by decide +kernel
abbrev cX0_init : ByteArray := prog_2_method_1_code
def yX0_init : MethodName := ⟨RX0, "<init>", "(I)V"⟩
abbrev cX0_startOver : ByteArray := prog_2_method_2_code
def yX0_startOver : MethodName := ⟨RX0, "startOver", "(II)V"⟩
abbrev cX0_isShut : ByteArray := prog_2_method_3_code
def yX0_isShut : MethodName := ⟨RX0, "isShut", "(I)Z"⟩
abbrev cX0_measure : ByteArray := prog_2_method_4_code
def yX0_measure : MethodName := ⟨RX0, "measure", "(I)V"⟩
abbrev cX0_grow : ByteArray := prog_2_method_5_code
def yX0_grow : MethodName := ⟨RX0, "grow", "(II)V"⟩
abbrev cX0_fallBack : ByteArray := prog_2_method_6_code
def yX0_fallBack : MethodName := ⟨RX0, "fallBack", "(II)V"⟩
abbrev cX0_limit : ByteArray := prog_2_method_7_code
def yX0_limit : MethodName := ⟨RX0, "limit", "()I"⟩
abbrev cX0_waitTime : ByteArray := prog_2_method_8_code
def yX0_waitTime : MethodName := ⟨RX0, "waitTime", "()I"⟩
abbrev cX0_probeIfLate : ByteArray := prog_2_method_9_code
def yX0_probeIfLate : MethodName := ⟨RX0, "probeIfLate", "(I)V"⟩
def RX1 : String := "StreamCarrier$Packet"
def TX1 : u_T := fun k => match k with
  | 0 => ("StreamCarrier$Packet", "side", "I", true)
  | 1 => ("StreamCarrier$Packet", "number", "I", true)
  | 2 => ("StreamCarrier$Packet", "time", "I", true)
  | 3 => ("StreamCarrier$Packet", "address", "I", true)
  | 4 => ("StreamCarrier$Packet", "room", "I", true)
  | 5 => ("StreamCarrier$Packet", "parts", "[I", true)
  | 6 => ("StreamCarrier$Packet", "spans", "[I", true)
  | 7 => ("StreamCarrier$Packet", "count", "I", false)
  | 8 => ("StreamCarrier$Packet", "weight", "I", false)
  | 9 => ("StreamCarrier$Packet", "heavy", "Z", false)
  | 10 => ("StreamCarrier$Packet", "toldOf", "Z", false)
  | 11 => ("StreamCarrier$Packet", "lost", "Z", false)
  | _ => ("StreamCarrier$Packet", "came", "Z", false)
def tyX1 : Nat → FieldType := fun k => match k with
  | 0 => .int
  | 1 => .int
  | 2 => .int
  | 3 => .int
  | 4 => .int
  | 5 => .array .int
  | 6 => .array .int
  | 7 => .int
  | 8 => .int
  | 9 => .boolean
  | 10 => .boolean
  | 11 => .boolean
  | _ => .boolean
abbrev wsX10 : List Cond := u_ws RX1 TX1 13
theorem nmX1 : ∀ a, a < 13 → ∀ b, b < 13 → a ≠ b → (TX1 a).2.1 ≠ (TX1 b).2.1 := by decide +kernel
theorem tyX1_ok : ∀ k, k < 13 → parseFieldDescriptor (TX1 k).2.2.1 = some (tyX1 k) := by decide +kernel
abbrev cX1_init : ByteArray := prog_3_method_1_code
def yX1_init : MethodName := ⟨RX1, "<init>", "(IIIII)V"⟩
abbrev cX1_roomLeft : ByteArray := prog_3_method_2_code
def yX1_roomLeft : MethodName := ⟨RX1, "roomLeft", "()I"⟩
abbrev cX1_isInFlight : ByteArray := prog_3_method_3_code
def yX1_isInFlight : MethodName := ⟨RX1, "isInFlight", "()Z"⟩
abbrev cX1_partAt : ByteArray := prog_3_method_4_code
def yX1_partAt : MethodName := ⟨RX1, "partAt", "(II)I"⟩
abbrev cX1_add : ByteArray := prog_3_method_5_code
def yX1_add : MethodName := ⟨RX1, "add", "(IIII)Z"⟩
abbrev cX1_weightOf : ByteArray := prog_3_method_6_code
def yX1_weightOf : MethodName := ⟨RX1, "weightOf", "(II)I"⟩
def RX2 : String := "StreamCarrier$Side"
def TX2 : u_T := fun k => match k with
  | 0 => ("StreamCarrier$Side", "number", "I", true)
  | 1 => ("StreamCarrier$Side", "packets", "[LStreamCarrier$Packet;", true)
  | 2 => ("StreamCarrier$Side", "pace", "LStreamCarrier$Pace;", true)
  | 3 => ("StreamCarrier$Side", "sent", "I", false)
  | 4 => ("StreamCarrier$Side", "settled", "I", false)
  | 5 => ("StreamCarrier$Side", "highestTold", "I", false)
  | 6 => ("StreamCarrier$Side", "highestCame", "I", false)
  | 7 => ("StreamCarrier$Side", "toldOwed", "Z", false)
  | 8 => ("StreamCarrier$Side", "boundOfAll", "I", false)
  | 9 => ("StreamCarrier$Side", "allTold", "I", false)
  | 10 => ("StreamCarrier$Side", "allOwed", "Z", false)
  | 11 => ("StreamCarrier$Side", "askOwed", "Z", false)
  | 12 => ("StreamCarrier$Side", "answerOwed", "I", false)
  | _ => ("StreamCarrier$Side", "turn", "I", false)
def tyX2 : Nat → FieldType := fun k => match k with
  | 0 => .int
  | 1 => .array (.object "StreamCarrier$Packet")
  | 2 => .object "StreamCarrier$Pace"
  | 3 => .int
  | 4 => .int
  | 5 => .int
  | 6 => .int
  | 7 => .boolean
  | 8 => .int
  | 9 => .int
  | 10 => .boolean
  | 11 => .boolean
  | 12 => .int
  | _ => .int
abbrev wsX20 : List Cond := u_ws RX2 TX2 14
theorem nmX2 : ∀ a, a < 14 → ∀ b, b < 14 → a ≠ b → (TX2 a).2.1 ≠ (TX2 b).2.1 := by decide +kernel
theorem tyX2_ok : ∀ k, k < 14 → parseFieldDescriptor (TX2 k).2.2.1 = some (tyX2 k) := by decide +kernel
abbrev cX2_init : ByteArray := prog_4_method_1_code
def yX2_init : MethodName := ⟨RX2, "<init>", "(III)V"⟩
abbrev cX2_packetAt : ByteArray := prog_4_method_2_code
def yX2_packetAt : MethodName := ⟨RX2, "packetAt", "(I)LStreamCarrier$Packet;"⟩
def RX3 : String := "StreamCarrier$Stream"
def TX3 : u_T := fun k => match k with
  | 0 => ("StreamCarrier$Stream", "row", "[B", true)
  | 1 => ("StreamCarrier$Stream", "written", "I", false)
  | 2 => ("StreamCarrier$Stream", "ended", "Z", false)
  | 3 => ("StreamCarrier$Stream", "cut", "Z", false)
  | 4 => ("StreamCarrier$Stream", "cutOwed", "Z", false)
  | 5 => ("StreamCarrier$Stream", "next", "I", false)
  | 6 => ("StreamCarrier$Stream", "arrived", "I", false)
  | 7 => ("StreamCarrier$Stream", "again", "I", false)
  | 8 => ("StreamCarrier$Stream", "bound", "I", false)
  | 9 => ("StreamCarrier$Stream", "endState", "I", false)
  | 10 => ("StreamCarrier$Stream", "came", "I", false)
  | 11 => ("StreamCarrier$Stream", "prefix", "I", false)
  | 12 => ("StreamCarrier$Stream", "read", "I", false)
  | 13 => ("StreamCarrier$Stream", "boundTold", "I", false)
  | 14 => ("StreamCarrier$Stream", "boundOwed", "Z", false)
  | 15 => ("StreamCarrier$Stream", "length", "I", false)
  | _ => ("StreamCarrier$Stream", "cutCame", "Z", false)
def tyX3 : Nat → FieldType := fun k => match k with
  | 0 => .array .byte
  | 1 => .int
  | 2 => .boolean
  | 3 => .boolean
  | 4 => .boolean
  | 5 => .int
  | 6 => .int
  | 7 => .int
  | 8 => .int
  | 9 => .int
  | 10 => .int
  | 11 => .int
  | 12 => .int
  | 13 => .int
  | 14 => .boolean
  | 15 => .int
  | _ => .boolean
abbrev wsX30 : List Cond := u_ws RX3 TX3 17
theorem nmX3 : ∀ a, a < 17 → ∀ b, b < 17 → a ≠ b → (TX3 a).2.1 ≠ (TX3 b).2.1 := by decide +kernel
theorem tyX3_ok : ∀ k, k < 17 → parseFieldDescriptor (TX3 k).2.2.1 = some (tyX3 k) := by decide +kernel
abbrev cX3_init : ByteArray := prog_5_method_1_code
def yX3_init : MethodName := ⟨RX3, "<init>", "(I)V"⟩
abbrev cX3_isUntouched : ByteArray := prog_5_method_2_code
def yX3_isUntouched : MethodName := ⟨RX3, "isUntouched", "()Z"⟩
abbrev cX3_isEndDue : ByteArray := prog_5_method_3_code
def yX3_isEndDue : MethodName := ⟨RX3, "isEndDue", "()Z"⟩
abbrev cX3_senderKnows : ByteArray := prog_5_method_4_code
def yX3_senderKnows : MethodName := ⟨RX3, "senderKnows", "(I)I"⟩
abbrev cX3_setSenderKnows : ByteArray := prog_5_method_5_code
def yX3_setSenderKnows : MethodName := ⟨RX3, "setSenderKnows", "(II)V"⟩
abbrev cX3_stop : ByteArray := prog_5_method_6_code
def yX3_stop : MethodName := ⟨RX3, "stop", "(II)I"⟩
abbrev cX3_firstAgain : ByteArray := prog_5_method_7_code
def yX3_firstAgain : MethodName := ⟨RX3, "firstAgain", "()I"⟩
abbrev cX3_countAgainFrom : ByteArray := prog_5_method_8_code
def yX3_countAgainFrom : MethodName := ⟨RX3, "countAgainFrom", "(I)I"⟩
abbrev cX3_markSent : ByteArray := prog_5_method_9_code
def yX3_markSent : MethodName := ⟨RX3, "markSent", "(II)V"⟩
abbrev cX3_markArrived : ByteArray := prog_5_method_10_code
def yX3_markArrived : MethodName := ⟨RX3, "markArrived", "(II)V"⟩
abbrev cX3_markAgain : ByteArray := prog_5_method_11_code
def yX3_markAgain : MethodName := ⟨RX3, "markAgain", "(II)V"⟩
abbrev cX3_markCame : ByteArray := prog_5_method_12_code
def yX3_markCame : MethodName := ⟨RX3, "markCame", "(II)V"⟩
def RX4 : String := "StreamCarrier"
def TX4 : u_T := fun k => match k with
  | 0 => ("StreamCarrier", "streams", "[LStreamCarrier$Stream;", true)
  | 1 => ("StreamCarrier", "sides", "[LStreamCarrier$Side;", true)
  | 2 => ("StreamCarrier", "net", "[LStreamCarrier$Packet;", true)
  | 3 => ("StreamCarrier", "underWay", "I", false)
  | 4 => ("StreamCarrier", "time", "I", false)
  | 5 => ("StreamCarrier", "room", "I", false)
  | 6 => ("StreamCarrier", "window", "I", false)
  | 7 => ("StreamCarrier", "wide", "I", false)
  | 8 => ("StreamCarrier", "address", "I", false)
  | 9 => ("StreamCarrier", "path", "I", false)
  | 10 => ("StreamCarrier", "tried", "Z", false)
  | 11 => ("StreamCarrier", "got", "I", false)
  | 12 => ("StreamCarrier", "sentOnPath", "I", false)
  | _ => ("StreamCarrier", "strays", "I", false)
def tyX4 : Nat → FieldType := fun k => match k with
  | 0 => .array (.object "StreamCarrier$Stream")
  | 1 => .array (.object "StreamCarrier$Side")
  | 2 => .array (.object "StreamCarrier$Packet")
  | 3 => .int
  | 4 => .int
  | 5 => .int
  | 6 => .int
  | 7 => .int
  | 8 => .int
  | 9 => .int
  | 10 => .boolean
  | 11 => .int
  | 12 => .int
  | _ => .int
abbrev wsX40 : List Cond := u_ws RX4 TX4 14
theorem nmX4 : ∀ a, a < 14 → ∀ b, b < 14 → a ≠ b → (TX4 a).2.1 ≠ (TX4 b).2.1 := by decide +kernel
theorem tyX4_ok : ∀ k, k < 14 → parseFieldDescriptor (TX4 k).2.2.1 = some (tyX4 k) := by decide +kernel
abbrev cX4_init : ByteArray := prog_1_method_1_code
def yX4_init : MethodName := ⟨RX4, "<init>", "()V"⟩
abbrev cX4_shape : ByteArray := prog_1_method_2_code
def yX4_shape : MethodName := ⟨RX4, "shape", "(III)I"⟩
abbrev cX4_write : ByteArray := prog_1_method_3_code
def yX4_write : MethodName := ⟨RX4, "write", "(II)I"⟩
abbrev cX4_end : ByteArray := prog_1_method_4_code
def yX4_end : MethodName := ⟨RX4, "end", "(I)I"⟩
abbrev cX4_cut : ByteArray := prog_1_method_5_code
def yX4_cut : MethodName := ⟨RX4, "cut", "(I)I"⟩
abbrev cX4_read : ByteArray := prog_1_method_6_code
def yX4_read : MethodName := ⟨RX4, "read", "(II)I"⟩
abbrev cX4_move : ByteArray := prog_1_method_7_code
def yX4_move : MethodName := ⟨RX4, "move", "()I"⟩
abbrev cX4_send : ByteArray := prog_1_method_8_code
def yX4_send : MethodName := ⟨RX4, "send", "(I)I"⟩
abbrev cX4_come : ByteArray := prog_1_method_9_code
def yX4_come : MethodName := ⟨RX4, "come", "(I)I"⟩
abbrev cX4_drop : ByteArray := prog_1_method_10_code
def yX4_drop : MethodName := ⟨RX4, "drop", "(I)I"⟩
abbrev cX4_twice : ByteArray := prog_1_method_11_code
def yX4_twice : MethodName := ⟨RX4, "twice", "(I)I"⟩
abbrev cX4_tick : ByteArray := prog_1_method_12_code
def yX4_tick : MethodName := ⟨RX4, "tick", "(I)I"⟩
abbrev cX4_stream : ByteArray := prog_1_method_13_code
def yX4_stream : MethodName := ⟨RX4, "stream", "(II)I"⟩
abbrev cX4_state : ByteArray := prog_1_method_14_code
def yX4_state : MethodName := ⟨RX4, "state", "(II)I"⟩
abbrev cX4_side : ByteArray := prog_1_method_15_code
def yX4_side : MethodName := ⟨RX4, "side", "(II)I"⟩
abbrev cX4_packet : ByteArray := prog_1_method_16_code
def yX4_packet : MethodName := ⟨RX4, "packet", "(III)I"⟩
abbrev cX4_part : ByteArray := prog_1_method_17_code
def yX4_part : MethodName := ⟨RX4, "part", "(IIII)I"⟩
abbrev cX4_net : ByteArray := prog_1_method_18_code
def yX4_net : MethodName := ⟨RX4, "net", "(II)I"⟩
abbrev cX4_told : ByteArray := prog_1_method_19_code
def yX4_told : MethodName := ⟨RX4, "told", "(I)I"⟩
abbrev cX4_flag : ByteArray := prog_1_method_20_code
def yX4_flag : MethodName := ⟨RX4, "flag", "(Z)I"⟩
abbrev cX4_streamAt : ByteArray := prog_1_method_21_code
def yX4_streamAt : MethodName := ⟨RX4, "streamAt", "(I)LStreamCarrier$Stream;"⟩
abbrev cX4_sideAt : ByteArray := prog_1_method_22_code
def yX4_sideAt : MethodName := ⟨RX4, "sideAt", "(I)LStreamCarrier$Side;"⟩
abbrev cX4_packetOf : ByteArray := prog_1_method_23_code
def yX4_packetOf : MethodName := ⟨RX4, "packetOf", "(II)LStreamCarrier$Packet;"⟩
abbrev cX4_underWayAt : ByteArray := prog_1_method_24_code
def yX4_underWayAt : MethodName := ⟨RX4, "underWayAt", "(I)LStreamCarrier$Packet;"⟩
abbrev cX4_isUntouched : ByteArray := prog_1_method_25_code
def yX4_isUntouched : MethodName := ⟨RX4, "isUntouched", "()Z"⟩
abbrev cX4_readBy : ByteArray := prog_1_method_26_code
def yX4_readBy : MethodName := ⟨RX4, "readBy", "(LStreamCarrier$Side;)I"⟩
abbrev cX4_countedOf : ByteArray := prog_1_method_27_code
def yX4_countedOf : MethodName := ⟨RX4, "countedOf", "(LStreamCarrier$Side;)I"⟩
abbrev cX4_fill : ByteArray := prog_1_method_28_code
def yX4_fill : MethodName := ⟨RX4, "fill", "(LStreamCarrier$Side;LStreamCarrier$Packet;)V"⟩
abbrev cX4_addTold : ByteArray := prog_1_method_29_code
def yX4_addTold : MethodName := ⟨RX4, "addTold", "(LStreamCarrier$Side;LStreamCarrier$Packet;)V"⟩
abbrev cX4_addAnswerAndAsk : ByteArray := prog_1_method_30_code
def yX4_addAnswerAndAsk : MethodName := ⟨RX4, "addAnswerAndAsk", "(LStreamCarrier$Side;LStreamCarrier$Packet;)V"⟩
abbrev cX4_addBounds : ByteArray := prog_1_method_31_code
def yX4_addBounds : MethodName := ⟨RX4, "addBounds", "(LStreamCarrier$Side;LStreamCarrier$Packet;)V"⟩
abbrev cX4_addCutOffs : ByteArray := prog_1_method_32_code
def yX4_addCutOffs : MethodName := ⟨RX4, "addCutOffs", "(LStreamCarrier$Side;LStreamCarrier$Packet;)V"⟩
abbrev cX4_addBytes : ByteArray := prog_1_method_33_code
def yX4_addBytes : MethodName := ⟨RX4, "addBytes", "(LStreamCarrier$Side;LStreamCarrier$Packet;)V"⟩
abbrev cX4_addBytesOf : ByteArray := prog_1_method_34_code
def yX4_addBytesOf : MethodName := ⟨RX4, "addBytesOf", "(LStreamCarrier$Side;ILStreamCarrier$Packet;)Z"⟩
abbrev cX4_newBytesOf : ByteArray := prog_1_method_35_code
def yX4_newBytesOf : MethodName := ⟨RX4, "newBytesOf", "(LStreamCarrier$Side;LStreamCarrier$Stream;)I"⟩
abbrev cX4_putUnderWay : ByteArray := prog_1_method_36_code
def yX4_putUnderWay : MethodName := ⟨RX4, "putUnderWay", "(LStreamCarrier$Side;LStreamCarrier$Packet;)V"⟩
abbrev cX4_takeOffNet : ByteArray := prog_1_method_37_code
def yX4_takeOffNet : MethodName := ⟨RX4, "takeOffNet", "(I)V"⟩
abbrev cX4_lookAtAddress : ByteArray := prog_1_method_38_code
def yX4_lookAtAddress : MethodName := ⟨RX4, "lookAtAddress", "(LStreamCarrier$Side;LStreamCarrier$Packet;)V"⟩
abbrev cX4_takeParts : ByteArray := prog_1_method_39_code
def yX4_takeParts : MethodName := ⟨RX4, "takeParts", "(LStreamCarrier$Side;LStreamCarrier$Packet;)V"⟩
abbrev cX4_takeTold : ByteArray := prog_1_method_40_code
def yX4_takeTold : MethodName := ⟨RX4, "takeTold", "(LStreamCarrier$Side;LStreamCarrier$Packet;)V"⟩
abbrev cX4_settle : ByteArray := prog_1_method_41_code
def yX4_settle : MethodName := ⟨RX4, "settle", "(LStreamCarrier$Side;LStreamCarrier$Packet;)V"⟩
abbrev cX4_lookForLost : ByteArray := prog_1_method_42_code
def yX4_lookForLost : MethodName := ⟨RX4, "lookForLost", "(LStreamCarrier$Side;)V"⟩
abbrev cX4_lose : ByteArray := prog_1_method_43_code
def yX4_lose : MethodName := ⟨RX4, "lose", "(LStreamCarrier$Side;LStreamCarrier$Packet;)V"⟩
def RX5 : String := "StreamCarrierModel"
def TX5 : u_T := fun k => match k with
  | 0 => ("StreamCarrierModel", "room", "I", false)
  | 1 => ("StreamCarrierModel", "window", "I", false)
  | 2 => ("StreamCarrierModel", "wide", "I", false)
  | 3 => ("StreamCarrierModel", "time", "I", false)
  | 4 => ("StreamCarrierModel", "isUsed", "Z", false)
  | 5 => ("StreamCarrierModel", "written", "[I", true)
  | 6 => ("StreamCarrierModel", "ended", "[Z", true)
  | 7 => ("StreamCarrierModel", "cutOff", "[Z", true)
  | 8 => ("StreamCarrierModel", "cutOwed", "[Z", true)
  | 9 => ("StreamCarrierModel", "fresh", "[I", true)
  | 10 => ("StreamCarrierModel", "endSent", "[Z", true)
  | 11 => ("StreamCarrierModel", "endAgain", "[Z", true)
  | 12 => ("StreamCarrierModel", "endArrived", "[Z", true)
  | 13 => ("StreamCarrierModel", "boundKnown", "[I", true)
  | 14 => ("StreamCarrierModel", "bytes", "[B", true)
  | 15 => ("StreamCarrierModel", "came", "[Z", true)
  | 16 => ("StreamCarrierModel", "prefix", "[I", true)
  | 17 => ("StreamCarrierModel", "isRead", "[I", true)
  | 18 => ("StreamCarrierModel", "boundTold", "[I", true)
  | 19 => ("StreamCarrierModel", "boundOwed", "[Z", true)
  | 20 => ("StreamCarrierModel", "lengthTold", "[I", true)
  | 21 => ("StreamCarrierModel", "cutCame", "[Z", true)
  | 22 => ("StreamCarrierModel", "sent", "[I", true)
  | 23 => ("StreamCarrierModel", "flight", "[I", true)
  | 24 => ("StreamCarrierModel", "open", "[I", true)
  | 25 => ("StreamCarrierModel", "brim", "[I", true)
  | 26 => ("StreamCarrierModel", "fall", "[I", true)
  | 27 => ("StreamCarrierModel", "latest", "[I", true)
  | 28 => ("StreamCarrierModel", "smooth", "[I", true)
  | 29 => ("StreamCarrierModel", "vary", "[I", true)
  | 30 => ("StreamCarrierModel", "probes", "[I", true)
  | 31 => ("StreamCarrierModel", "probeOwed", "[Z", true)
  | 32 => ("StreamCarrierModel", "highestTold", "[I", true)
  | 33 => ("StreamCarrierModel", "highestCame", "[I", true)
  | 34 => ("StreamCarrierModel", "toldOwed", "[Z", true)
  | 35 => ("StreamCarrierModel", "allKnown", "[I", true)
  | 36 => ("StreamCarrierModel", "allOwed", "[Z", true)
  | 37 => ("StreamCarrierModel", "allTold", "[I", true)
  | 38 => ("StreamCarrierModel", "heavyAt", "[I", true)
  | 39 => ("StreamCarrierModel", "lastStream", "[I", true)
  | 40 => ("StreamCarrierModel", "askOwed", "[Z", true)
  | 41 => ("StreamCarrierModel", "askB", "[I", true)
  | 42 => ("StreamCarrierModel", "answerOwed", "[Z", true)
  | 43 => ("StreamCarrierModel", "answerB", "[I", true)
  | 44 => ("StreamCarrierModel", "address", "I", false)
  | 45 => ("StreamCarrierModel", "path", "I", false)
  | 46 => ("StreamCarrierModel", "isTried", "Z", false)
  | 47 => ("StreamCarrierModel", "got", "I", false)
  | 48 => ("StreamCarrierModel", "pathSent", "I", false)
  | 49 => ("StreamCarrierModel", "strays", "I", false)
  | 50 => ("StreamCarrierModel", "sentAt", "[I", true)
  | 51 => ("StreamCarrierModel", "addressOf", "[I", true)
  | 52 => ("StreamCarrierModel", "weight", "[I", true)
  | 53 => ("StreamCarrierModel", "partMany", "[I", true)
  | 54 => ("StreamCarrierModel", "heavy", "[Z", true)
  | 55 => ("StreamCarrierModel", "isTold", "[Z", true)
  | 56 => ("StreamCarrierModel", "isLost", "[Z", true)
  | 57 => ("StreamCarrierModel", "hasCome", "[Z", true)
  | 58 => ("StreamCarrierModel", "parts", "[I", true)
  | 59 => ("StreamCarrierModel", "spans", "[I", true)
  | 60 => ("StreamCarrierModel", "netSide", "[I", true)
  | 61 => ("StreamCarrierModel", "netNumber", "[I", true)
  | 62 => ("StreamCarrierModel", "netMany", "I", false)
  | 63 => ("StreamCarrierModel", "p", "I", false)
  | _ => ("StreamCarrierModel", "now", "[Z", true)
def tyX5 : Nat → FieldType := fun k => match k with
  | 0 => .int
  | 1 => .int
  | 2 => .int
  | 3 => .int
  | 4 => .boolean
  | 5 => .array .int
  | 6 => .array .boolean
  | 7 => .array .boolean
  | 8 => .array .boolean
  | 9 => .array .int
  | 10 => .array .boolean
  | 11 => .array .boolean
  | 12 => .array .boolean
  | 13 => .array .int
  | 14 => .array .byte
  | 15 => .array .boolean
  | 16 => .array .int
  | 17 => .array .int
  | 18 => .array .int
  | 19 => .array .boolean
  | 20 => .array .int
  | 21 => .array .boolean
  | 22 => .array .int
  | 23 => .array .int
  | 24 => .array .int
  | 25 => .array .int
  | 26 => .array .int
  | 27 => .array .int
  | 28 => .array .int
  | 29 => .array .int
  | 30 => .array .int
  | 31 => .array .boolean
  | 32 => .array .int
  | 33 => .array .int
  | 34 => .array .boolean
  | 35 => .array .int
  | 36 => .array .boolean
  | 37 => .array .int
  | 38 => .array .int
  | 39 => .array .int
  | 40 => .array .boolean
  | 41 => .array .int
  | 42 => .array .boolean
  | 43 => .array .int
  | 44 => .int
  | 45 => .int
  | 46 => .boolean
  | 47 => .int
  | 48 => .int
  | 49 => .int
  | 50 => .array .int
  | 51 => .array .int
  | 52 => .array .int
  | 53 => .array .int
  | 54 => .array .boolean
  | 55 => .array .boolean
  | 56 => .array .boolean
  | 57 => .array .boolean
  | 58 => .array .int
  | 59 => .array .int
  | 60 => .array .int
  | 61 => .array .int
  | 62 => .int
  | 63 => .int
  | _ => .array .boolean
abbrev wsX50 : List Cond := u_ws RX5 TX5 65
theorem nmX5 : ∀ a, a < 65 → ∀ b, b < 65 → a ≠ b → (TX5 a).2.1 ≠ (TX5 b).2.1 := by decide +kernel
theorem tyX5_ok : ∀ k, k < 65 → parseFieldDescriptor (TX5 k).2.2.1 = some (tyX5 k) := by decide +kernel
abbrev cX5_init : ByteArray := prog_7_method_1_code
def yX5_init : MethodName := ⟨RX5, "<init>", "()V"⟩
abbrev cX5_in : ByteArray := prog_7_method_3_code
def yX5_in : MethodName := ⟨RX5, "in", "(JJJ)Z"⟩
abbrev cX5_begin : ByteArray := prog_7_method_4_code
def yX5_begin : MethodName := ⟨RX5, "begin", "()V"⟩
abbrev cX5_isStream : ByteArray := prog_7_method_5_code
def yX5_isStream : MethodName := ⟨RX5, "isStream", "(I)Z"⟩
abbrev cX5_isSide : ByteArray := prog_7_method_6_code
def yX5_isSide : MethodName := ⟨RX5, "isSide", "(I)Z"⟩
abbrev cX5_shape : ByteArray := prog_7_method_7_code
def yX5_shape : MethodName := ⟨RX5, "shape", "(III)I"⟩
abbrev cX5_write : ByteArray := prog_7_method_8_code
def yX5_write : MethodName := ⟨RX5, "write", "(II)I"⟩
abbrev cX5_end : ByteArray := prog_7_method_9_code
def yX5_end : MethodName := ⟨RX5, "end", "(I)I"⟩
abbrev cX5_cut : ByteArray := prog_7_method_10_code
def yX5_cut : MethodName := ⟨RX5, "cut", "(I)I"⟩
abbrev cX5_allRead : ByteArray := prog_7_method_11_code
def yX5_allRead : MethodName := ⟨RX5, "allRead", "(I)I"⟩
abbrev cX5_read : ByteArray := prog_7_method_12_code
def yX5_read : MethodName := ⟨RX5, "read", "(II)I"⟩
abbrev cX5_move : ByteArray := prog_7_method_13_code
def yX5_move : MethodName := ⟨RX5, "move", "()I"⟩
abbrev cX5_at : ByteArray := prog_7_method_14_code
def yX5_at : MethodName := ⟨RX5, "at", "(II)I"⟩
abbrev cX5_put : ByteArray := prog_7_method_15_code
def yX5_put : MethodName := ⟨RX5, "put", "(IIIII)Z"⟩
abbrev cX5_putTold : ByteArray := prog_7_method_16_code
def yX5_putTold : MethodName := ⟨RX5, "putTold", "(I)V"⟩
abbrev cX5_putBounds : ByteArray := prog_7_method_17_code
def yX5_putBounds : MethodName := ⟨RX5, "putBounds", "(I)V"⟩
abbrev cX5_counted : ByteArray := prog_7_method_18_code
def yX5_counted : MethodName := ⟨RX5, "counted", "(I)I"⟩
abbrev cX5_firstAgain : ByteArray := prog_7_method_19_code
def yX5_firstAgain : MethodName := ⟨RX5, "firstAgain", "(I)I"⟩
abbrev cX5_putBytes : ByteArray := prog_7_method_20_code
def yX5_putBytes : MethodName := ⟨RX5, "putBytes", "(II)V"⟩
abbrev cX5_send : ByteArray := prog_7_method_21_code
def yX5_send : MethodName := ⟨RX5, "send", "(I)I"⟩
abbrev cX5_putRest : ByteArray := prog_7_method_22_code
def yX5_putRest : MethodName := ⟨RX5, "putRest", "(I)V"⟩
abbrev cX5_takeOut : ByteArray := prog_7_method_23_code
def yX5_takeOut : MethodName := ⟨RX5, "takeOut", "(I)V"⟩
abbrev cX5_come : ByteArray := prog_7_method_24_code
def yX5_come : MethodName := ⟨RX5, "come", "(I)I"⟩
abbrev cX5_lookAtPath : ByteArray := prog_7_method_25_code
def yX5_lookAtPath : MethodName := ⟨RX5, "lookAtPath", "(II)V"⟩
abbrev cX5_partComes : ByteArray := prog_7_method_26_code
def yX5_partComes : MethodName := ⟨RX5, "partComes", "(IIIIII)V"⟩
abbrev cX5_bytesCome : ByteArray := prog_7_method_27_code
def yX5_bytesCome : MethodName := ⟨RX5, "bytesCome", "(IIIZ)V"⟩
abbrev cX5_toldComes : ByteArray := prog_7_method_28_code
def yX5_toldComes : MethodName := ⟨RX5, "toldComes", "(III)V"⟩
abbrev cX5_measure : ByteArray := prog_7_method_29_code
def yX5_measure : MethodName := ⟨RX5, "measure", "(II)V"⟩
abbrev cX5_arrives : ByteArray := prog_7_method_30_code
def yX5_arrives : MethodName := ⟨RX5, "arrives", "(I)V"⟩
abbrev cX5_limit : ByteArray := prog_7_method_31_code
def yX5_limit : MethodName := ⟨RX5, "limit", "(I)I"⟩
abbrev cX5_lookForLost : ByteArray := prog_7_method_32_code
def yX5_lookForLost : MethodName := ⟨RX5, "lookForLost", "(I)V"⟩
abbrev cX5_loses : ByteArray := prog_7_method_33_code
def yX5_loses : MethodName := ⟨RX5, "loses", "(IIIII)V"⟩
abbrev cX5_drop : ByteArray := prog_7_method_34_code
def yX5_drop : MethodName := ⟨RX5, "drop", "(I)I"⟩
abbrev cX5_twice : ByteArray := prog_7_method_35_code
def yX5_twice : MethodName := ⟨RX5, "twice", "(I)I"⟩
abbrev cX5_waitOf : ByteArray := prog_7_method_36_code
def yX5_waitOf : MethodName := ⟨RX5, "waitOf", "(I)I"⟩
abbrev cX5_tick : ByteArray := prog_7_method_37_code
def yX5_tick : MethodName := ⟨RX5, "tick", "(I)I"⟩
abbrev cX5_asInt : ByteArray := prog_7_method_38_code
def yX5_asInt : MethodName := ⟨RX5, "asInt", "(Z)I"⟩
abbrev cX5_many : ByteArray := prog_7_method_39_code
def yX5_many : MethodName := ⟨RX5, "many", "(II)I"⟩
abbrev cX5_cameMany : ByteArray := prog_7_method_40_code
def yX5_cameMany : MethodName := ⟨RX5, "cameMany", "(I)I"⟩
abbrev cX5_stream : ByteArray := prog_7_method_41_code
def yX5_stream : MethodName := ⟨RX5, "stream", "(II)I"⟩
abbrev cX5_state : ByteArray := prog_7_method_42_code
def yX5_state : MethodName := ⟨RX5, "state", "(II)I"⟩
abbrev cX5_side : ByteArray := prog_7_method_43_code
def yX5_side : MethodName := ⟨RX5, "side", "(II)I"⟩
abbrev cX5_isPacket : ByteArray := prog_7_method_44_code
def yX5_isPacket : MethodName := ⟨RX5, "isPacket", "(II)Z"⟩
abbrev cX5_packet : ByteArray := prog_7_method_45_code
def yX5_packet : MethodName := ⟨RX5, "packet", "(III)I"⟩
abbrev cX5_part : ByteArray := prog_7_method_46_code
def yX5_part : MethodName := ⟨RX5, "part", "(IIII)I"⟩
abbrev cX5_net : ByteArray := prog_7_method_47_code
def yX5_net : MethodName := ⟨RX5, "net", "(II)I"⟩
abbrev cX5_told : ByteArray := prog_7_method_48_code
def yX5_told : MethodName := ⟨RX5, "told", "(I)I"⟩
def RJ9 : String := "java/lang/Math"
def TJ9 : u_T := fun k => match k with
  | _ => ("", "", "", false)
def tyJ9 : Nat → FieldType := fun k => match k with
  | _ => .int
abbrev wsJ90 : List Cond := u_ws RJ9 TJ9 0
theorem nmJ9 : ∀ a, a < 0 → ∀ b, b < 0 → a ≠ b → (TJ9 a).2.1 ≠ (TJ9 b).2.1 := by decide +kernel
theorem tyJ9_ok : ∀ k, k < 0 → parseFieldDescriptor (TJ9 k).2.2.1 = some (tyJ9 k) := by decide +kernel
abbrev cJ9_abs_0f7a4 : ByteArray := prog_8_method_59_code
def yJ9_abs_0f7a4 : MethodName := ⟨RJ9, "abs", "(I)I"⟩
abbrev cJ9_max_7cf53 : ByteArray := prog_8_method_65_code
def yJ9_max_7cf53 : MethodName := ⟨RJ9, "max", "(II)I"⟩
abbrev cJ9_min_7cf53 : ByteArray := prog_8_method_69_code
def yJ9_min_7cf53 : MethodName := ⟨RJ9, "min", "(II)I"⟩
def RL : String := "StreamCarrierLaw"
abbrev cL_law : ByteArray := code
def yL_law : MethodName := ⟨RL, "law", "([I)Z"⟩
abbrev vwCl : List vw_C := [(RX0, TX0, 10), (RX1, TX1, 13), (RX2, TX2, 14), (RX3, TX3, 17), (RX4, TX4, 14), (RX5, TX5, 65)]
