section
-- ===== PART A: goes FIRST, ahead of the names: the tables' words, and 'selects' of the private methods out of them =====
/-- a private method of a class that the tables say can be made, by its rows of tables_1 -/
def lw_okq (q : MethodName × Nat) : Prop := (q.1.cls ≠ "java/lang/invoke/MethodHandle" ∧ q.1.cls ≠ "java/lang/invoke/VarHandle") ∧ Cond.instantiable q.1.cls q.2 ∈ tables_1 ∧ Cond.privateMethod q.1 ∈ tables_1 ∧ Cond.instanceMethod q.1 ∈ tables_1
theorem lw_p0 : lw_okq (⟨"StreamTransport$End", "putFrames", "(LStreamTransport$Row;LStreamTransport$Sent;)V"⟩, 14) := ⟨⟨by decide +kernel, by decide +kernel⟩, List.mem_of_getElem? (i := 56) (by decide +kernel), List.mem_of_getElem? (i := 394) (by decide +kernel), List.mem_of_getElem? (i := 395) (by decide +kernel)⟩
theorem lw_p1 : lw_okq (⟨"StreamTransport$End", "putAck", "(LStreamTransport$Row;)V"⟩, 14) := ⟨⟨by decide +kernel, by decide +kernel⟩, List.mem_of_getElem? (i := 56) (by decide +kernel), List.mem_of_getElem? (i := 398) (by decide +kernel), List.mem_of_getElem? (i := 399) (by decide +kernel)⟩
theorem lw_p2 : lw_okq (⟨"StreamTransport$Intake", "putLimitAll", "(LStreamTransport$Row;LStreamTransport$Sent;)V"⟩, 5) := ⟨⟨by decide +kernel, by decide +kernel⟩, List.mem_of_getElem? (i := 107) (by decide +kernel), List.mem_of_getElem? (i := 432) (by decide +kernel), List.mem_of_getElem? (i := 433) (by decide +kernel)⟩
theorem lw_p3 : lw_okq (⟨"StreamTransport$Intake", "limitForAll", "()I"⟩, 5) := ⟨⟨by decide +kernel, by decide +kernel⟩, List.mem_of_getElem? (i := 107) (by decide +kernel), List.mem_of_getElem? (i := 436) (by decide +kernel), List.mem_of_getElem? (i := 437) (by decide +kernel)⟩
theorem lw_p4 : lw_okq (⟨"StreamTransport$Intake", "putLimit", "(LStreamTransport$Row;LStreamTransport$Sent;I)V"⟩, 5) := ⟨⟨by decide +kernel, by decide +kernel⟩, List.mem_of_getElem? (i := 107) (by decide +kernel), List.mem_of_getElem? (i := 458) (by decide +kernel), List.mem_of_getElem? (i := 459) (by decide +kernel)⟩
theorem lw_p5 : lw_okq (⟨"StreamTransport$Intake", "limitFor", "(LStreamTransport$Incoming;)I"⟩, 5) := ⟨⟨by decide +kernel, by decide +kernel⟩, List.mem_of_getElem? (i := 107) (by decide +kernel), List.mem_of_getElem? (i := 462) (by decide +kernel), List.mem_of_getElem? (i := 463) (by decide +kernel)⟩
theorem lw_p6 : lw_okq (⟨"StreamTransport$Outflow", "choosePart", "(ILStreamTransport$Sent;I)Z"⟩, 2) := ⟨⟨by decide +kernel, by decide +kernel⟩, List.mem_of_getElem? (i := 172) (by decide +kernel), List.mem_of_getElem? (i := 486) (by decide +kernel), List.mem_of_getElem? (i := 487) (by decide +kernel)⟩
theorem lw_p7 : lw_okq (⟨"StreamTransport$Outflow", "countAllowed", "(LStreamTransport$Outgoing;)I"⟩, 2) := ⟨⟨by decide +kernel, by decide +kernel⟩, List.mem_of_getElem? (i := 172) (by decide +kernel), List.mem_of_getElem? (i := 494) (by decide +kernel), List.mem_of_getElem? (i := 495) (by decide +kernel)⟩
theorem lw_p8 : lw_okq (⟨"StreamTransport$Outflow", "putPart", "(LStreamTransport$Row;LStreamTransport$Sent;I)V"⟩, 2) := ⟨⟨by decide +kernel, by decide +kernel⟩, List.mem_of_getElem? (i := 172) (by decide +kernel), List.mem_of_getElem? (i := 511) (by decide +kernel), List.mem_of_getElem? (i := 512) (by decide +kernel)⟩
theorem lw_p9 : lw_okq (⟨"StreamTransport$End", "putClose", "(LStreamTransport$Row;)V"⟩, 14) := ⟨⟨by decide +kernel, by decide +kernel⟩, List.mem_of_getElem? (i := 56) (by decide +kernel), List.mem_of_getElem? (i := 515) (by decide +kernel), List.mem_of_getElem? (i := 516) (by decide +kernel)⟩
theorem lw_p10 : lw_okq (⟨"StreamTransport$Row", "sealFor", "(II)I"⟩, 3) := ⟨⟨by decide +kernel, by decide +kernel⟩, List.mem_of_getElem? (i := 34) (by decide +kernel), List.mem_of_getElem? (i := 524) (by decide +kernel), List.mem_of_getElem? (i := 525) (by decide +kernel)⟩
theorem lw_p11 : lw_okq (⟨"StreamTransport", "isUnderWay", "(I)Z"⟩, 7) := ⟨⟨by decide +kernel, by decide +kernel⟩, List.mem_of_getElem? (i := 23) (by decide +kernel), List.mem_of_getElem? (i := 543) (by decide +kernel), List.mem_of_getElem? (i := 544) (by decide +kernel)⟩
theorem lw_p12 : lw_okq (⟨"StreamTransport", "takeOffWay", "(I)V"⟩, 7) := ⟨⟨by decide +kernel, by decide +kernel⟩, List.mem_of_getElem? (i := 23) (by decide +kernel), List.mem_of_getElem? (i := 547) (by decide +kernel), List.mem_of_getElem? (i := 548) (by decide +kernel)⟩
theorem lw_p13 : lw_okq (⟨"StreamTransport$Reader", "nextByte", "()I"⟩, 6) := ⟨⟨by decide +kernel, by decide +kernel⟩, List.mem_of_getElem? (i := 77) (by decide +kernel), List.mem_of_getElem? (i := 589) (by decide +kernel), List.mem_of_getElem? (i := 590) (by decide +kernel)⟩
theorem lw_p14 : lw_okq (⟨"StreamTransport$Reader", "stepAck", "()Z"⟩, 6) := ⟨⟨by decide +kernel, by decide +kernel⟩, List.mem_of_getElem? (i := 77) (by decide +kernel), List.mem_of_getElem? (i := 593) (by decide +kernel), List.mem_of_getElem? (i := 594) (by decide +kernel)⟩
theorem lw_p15 : lw_okq (⟨"StreamTransport$Reader", "stepNumbers", "(II)Z"⟩, 6) := ⟨⟨by decide +kernel, by decide +kernel⟩, List.mem_of_getElem? (i := 77) (by decide +kernel), List.mem_of_getElem? (i := 597) (by decide +kernel), List.mem_of_getElem? (i := 598) (by decide +kernel)⟩
def lw_privs_1 : List (MethodName × Nat) := [(⟨"StreamTransport$End", "putFrames", "(LStreamTransport$Row;LStreamTransport$Sent;)V"⟩, 14), (⟨"StreamTransport$End", "putAck", "(LStreamTransport$Row;)V"⟩, 14), (⟨"StreamTransport$Intake", "putLimitAll", "(LStreamTransport$Row;LStreamTransport$Sent;)V"⟩, 5), (⟨"StreamTransport$Intake", "limitForAll", "()I"⟩, 5), (⟨"StreamTransport$Intake", "putLimit", "(LStreamTransport$Row;LStreamTransport$Sent;I)V"⟩, 5), (⟨"StreamTransport$Intake", "limitFor", "(LStreamTransport$Incoming;)I"⟩, 5), (⟨"StreamTransport$Outflow", "choosePart", "(ILStreamTransport$Sent;I)Z"⟩, 2), (⟨"StreamTransport$Outflow", "countAllowed", "(LStreamTransport$Outgoing;)I"⟩, 2), (⟨"StreamTransport$Outflow", "putPart", "(LStreamTransport$Row;LStreamTransport$Sent;I)V"⟩, 2), (⟨"StreamTransport$End", "putClose", "(LStreamTransport$Row;)V"⟩, 14), (⟨"StreamTransport$Row", "sealFor", "(II)I"⟩, 3), (⟨"StreamTransport", "isUnderWay", "(I)Z"⟩, 7), (⟨"StreamTransport", "takeOffWay", "(I)V"⟩, 7), (⟨"StreamTransport$Reader", "nextByte", "()I"⟩, 6), (⟨"StreamTransport$Reader", "stepAck", "()Z"⟩, 6), (⟨"StreamTransport$Reader", "stepNumbers", "(II)Z"⟩, 6)]
theorem lw_r1 : ∀ q ∈ lw_privs_1, lw_okq q := List.forall_mem_cons.mpr ⟨lw_p0, List.forall_mem_cons.mpr ⟨lw_p1, List.forall_mem_cons.mpr ⟨lw_p2, List.forall_mem_cons.mpr ⟨lw_p3, List.forall_mem_cons.mpr ⟨lw_p4, List.forall_mem_cons.mpr ⟨lw_p5, List.forall_mem_cons.mpr ⟨lw_p6, List.forall_mem_cons.mpr ⟨lw_p7, List.forall_mem_cons.mpr ⟨lw_p8, List.forall_mem_cons.mpr ⟨lw_p9, List.forall_mem_cons.mpr ⟨lw_p10, List.forall_mem_cons.mpr ⟨lw_p11, List.forall_mem_cons.mpr ⟨lw_p12, List.forall_mem_cons.mpr ⟨lw_p13, List.forall_mem_cons.mpr ⟨lw_p14, List.forall_mem_cons.mpr ⟨lw_p15, fun _ h => absurd h List.not_mem_nil⟩⟩⟩⟩⟩⟩⟩⟩⟩⟩⟩⟩⟩⟩⟩⟩
theorem lw_p16 : lw_okq (⟨"StreamTransport$Reader", "nextNumber", "()I"⟩, 6) := ⟨⟨by decide +kernel, by decide +kernel⟩, List.mem_of_getElem? (i := 77) (by decide +kernel), List.mem_of_getElem? (i := 601) (by decide +kernel), List.mem_of_getElem? (i := 602) (by decide +kernel)⟩
theorem lw_p17 : lw_okq (⟨"StreamTransport$Reader", "stepStream", "()Z"⟩, 6) := ⟨⟨by decide +kernel, by decide +kernel⟩, List.mem_of_getElem? (i := 77) (by decide +kernel), List.mem_of_getElem? (i := 605) (by decide +kernel), List.mem_of_getElem? (i := 606) (by decide +kernel)⟩
theorem lw_p18 : lw_okq (⟨"StreamTransport$End", "takeFrame", "()I"⟩, 14) := ⟨⟨by decide +kernel, by decide +kernel⟩, List.mem_of_getElem? (i := 56) (by decide +kernel), List.mem_of_getElem? (i := 609) (by decide +kernel), List.mem_of_getElem? (i := 610) (by decide +kernel)⟩
theorem lw_p19 : lw_okq (⟨"StreamTransport$End", "takeAck", "([I)I"⟩, 14) := ⟨⟨by decide +kernel, by decide +kernel⟩, List.mem_of_getElem? (i := 56) (by decide +kernel), List.mem_of_getElem? (i := 613) (by decide +kernel), List.mem_of_getElem? (i := 614) (by decide +kernel)⟩
theorem lw_p20 : lw_okq (⟨"StreamTransport$End", "isAckRight", "([I)Z"⟩, 14) := ⟨⟨by decide +kernel, by decide +kernel⟩, List.mem_of_getElem? (i := 56) (by decide +kernel), List.mem_of_getElem? (i := 617) (by decide +kernel), List.mem_of_getElem? (i := 618) (by decide +kernel)⟩
theorem lw_p21 : lw_okq (⟨"StreamTransport$End", "ackRange", "(II)V"⟩, 14) := ⟨⟨by decide +kernel, by decide +kernel⟩, List.mem_of_getElem? (i := 56) (by decide +kernel), List.mem_of_getElem? (i := 621) (by decide +kernel), List.mem_of_getElem? (i := 622) (by decide +kernel)⟩
theorem lw_p22 : lw_okq (⟨"StreamTransport$End", "isOnWay", "(I)Z"⟩, 14) := ⟨⟨by decide +kernel, by decide +kernel⟩, List.mem_of_getElem? (i := 56) (by decide +kernel), List.mem_of_getElem? (i := 626) (by decide +kernel), List.mem_of_getElem? (i := 627) (by decide +kernel)⟩
theorem lw_p23 : lw_okq (⟨"StreamTransport$End", "loseOvertaken", "()V"⟩, 14) := ⟨⟨by decide +kernel, by decide +kernel⟩, List.mem_of_getElem? (i := 56) (by decide +kernel), List.mem_of_getElem? (i := 630) (by decide +kernel), List.mem_of_getElem? (i := 631) (by decide +kernel)⟩
theorem lw_p24 : lw_okq (⟨"StreamTransport$End", "losePacket", "(LStreamTransport$Sent;)V"⟩, 14) := ⟨⟨by decide +kernel, by decide +kernel⟩, List.mem_of_getElem? (i := 56) (by decide +kernel), List.mem_of_getElem? (i := 634) (by decide +kernel), List.mem_of_getElem? (i := 635) (by decide +kernel)⟩
theorem lw_p25 : lw_okq (⟨"StreamTransport$Intake", "findFault", "(IIZ)I"⟩, 5) := ⟨⟨by decide +kernel, by decide +kernel⟩, List.mem_of_getElem? (i := 107) (by decide +kernel), List.mem_of_getElem? (i := 647) (by decide +kernel), List.mem_of_getElem? (i := 648) (by decide +kernel)⟩
theorem lw_p26 : lw_okq (⟨"StreamTransport$Intake", "reachOfAll", "(II)I"⟩, 5) := ⟨⟨by decide +kernel, by decide +kernel⟩, List.mem_of_getElem? (i := 107) (by decide +kernel), List.mem_of_getElem? (i := 651) (by decide +kernel), List.mem_of_getElem? (i := 652) (by decide +kernel)⟩
theorem lw_p27 : lw_okq (⟨"StreamTransport$Intake", "lookAtLimitAll", "()V"⟩, 5) := ⟨⟨by decide +kernel, by decide +kernel⟩, List.mem_of_getElem? (i := 107) (by decide +kernel), List.mem_of_getElem? (i := 677) (by decide +kernel), List.mem_of_getElem? (i := 678) (by decide +kernel)⟩
theorem lw_p28 : lw_okq (⟨"StreamTransport$End", "isTimed", "(I)Z"⟩, 14) := ⟨⟨by decide +kernel, by decide +kernel⟩, List.mem_of_getElem? (i := 56) (by decide +kernel), List.mem_of_getElem? (i := 736) (by decide +kernel), List.mem_of_getElem? (i := 737) (by decide +kernel)⟩
theorem lw_p29 : lw_okq (⟨"java/lang/Throwable", "fillInStackTrace", "(I)Ljava/lang/Throwable;"⟩, 6) := ⟨⟨by decide +kernel, by decide +kernel⟩, List.mem_of_getElem? (i := 829) (by decide +kernel), List.mem_of_getElem? (i := 827) (by decide +kernel), List.mem_of_getElem? (i := 828) (by decide +kernel)⟩
theorem lw_p30 : lw_okq (⟨"StreamTransport$Intake", "lookAtLimit", "(LStreamTransport$Incoming;)V"⟩, 5) := ⟨⟨by decide +kernel, by decide +kernel⟩, List.mem_of_getElem? (i := 107) (by decide +kernel), List.mem_of_getElem? (i := 917) (by decide +kernel), List.mem_of_getElem? (i := 918) (by decide +kernel)⟩
theorem lw_p31 : lw_okq (⟨"StreamTransportModel", "fails", "(I)I"⟩, 52) := ⟨⟨by decide +kernel, by decide +kernel⟩, List.mem_of_getElem? (i := 921) (by decide +kernel), List.mem_of_getElem? (i := 1098) (by decide +kernel), List.mem_of_getElem? (i := 1099) (by decide +kernel)⟩
def lw_privs_2 : List (MethodName × Nat) := [(⟨"StreamTransport$Reader", "nextNumber", "()I"⟩, 6), (⟨"StreamTransport$Reader", "stepStream", "()Z"⟩, 6), (⟨"StreamTransport$End", "takeFrame", "()I"⟩, 14), (⟨"StreamTransport$End", "takeAck", "([I)I"⟩, 14), (⟨"StreamTransport$End", "isAckRight", "([I)Z"⟩, 14), (⟨"StreamTransport$End", "ackRange", "(II)V"⟩, 14), (⟨"StreamTransport$End", "isOnWay", "(I)Z"⟩, 14), (⟨"StreamTransport$End", "loseOvertaken", "()V"⟩, 14), (⟨"StreamTransport$End", "losePacket", "(LStreamTransport$Sent;)V"⟩, 14), (⟨"StreamTransport$Intake", "findFault", "(IIZ)I"⟩, 5), (⟨"StreamTransport$Intake", "reachOfAll", "(II)I"⟩, 5), (⟨"StreamTransport$Intake", "lookAtLimitAll", "()V"⟩, 5), (⟨"StreamTransport$End", "isTimed", "(I)Z"⟩, 14), (⟨"java/lang/Throwable", "fillInStackTrace", "(I)Ljava/lang/Throwable;"⟩, 6), (⟨"StreamTransport$Intake", "lookAtLimit", "(LStreamTransport$Incoming;)V"⟩, 5), (⟨"StreamTransportModel", "fails", "(I)I"⟩, 52)]
theorem lw_r2 : ∀ q ∈ lw_privs_2, lw_okq q := List.forall_mem_cons.mpr ⟨lw_p16, List.forall_mem_cons.mpr ⟨lw_p17, List.forall_mem_cons.mpr ⟨lw_p18, List.forall_mem_cons.mpr ⟨lw_p19, List.forall_mem_cons.mpr ⟨lw_p20, List.forall_mem_cons.mpr ⟨lw_p21, List.forall_mem_cons.mpr ⟨lw_p22, List.forall_mem_cons.mpr ⟨lw_p23, List.forall_mem_cons.mpr ⟨lw_p24, List.forall_mem_cons.mpr ⟨lw_p25, List.forall_mem_cons.mpr ⟨lw_p26, List.forall_mem_cons.mpr ⟨lw_p27, List.forall_mem_cons.mpr ⟨lw_p28, List.forall_mem_cons.mpr ⟨lw_p29, List.forall_mem_cons.mpr ⟨lw_p30, List.forall_mem_cons.mpr ⟨lw_p31, fun _ h => absurd h List.not_mem_nil⟩⟩⟩⟩⟩⟩⟩⟩⟩⟩⟩⟩⟩⟩⟩⟩
theorem lw_p32 : lw_okq (⟨"StreamTransportModel", "streamTarget", "(I)I"⟩, 52) := ⟨⟨by decide +kernel, by decide +kernel⟩, List.mem_of_getElem? (i := 921) (by decide +kernel), List.mem_of_getElem? (i := 1115) (by decide +kernel), List.mem_of_getElem? (i := 1116) (by decide +kernel)⟩
theorem lw_p33 : lw_okq (⟨"StreamTransportModel", "lookAll", "(I)V"⟩, 52) := ⟨⟨by decide +kernel, by decide +kernel⟩, List.mem_of_getElem? (i := 921) (by decide +kernel), List.mem_of_getElem? (i := 1119) (by decide +kernel), List.mem_of_getElem? (i := 1120) (by decide +kernel)⟩
theorem lw_p34 : lw_okq (⟨"StreamTransportModel", "allTarget", "(I)I"⟩, 52) := ⟨⟨by decide +kernel, by decide +kernel⟩, List.mem_of_getElem? (i := 921) (by decide +kernel), List.mem_of_getElem? (i := 1123) (by decide +kernel), List.mem_of_getElem? (i := 1124) (by decide +kernel)⟩
theorem lw_p35 : lw_okq (⟨"StreamTransportModel", "put", "(I)V"⟩, 52) := ⟨⟨by decide +kernel, by decide +kernel⟩, List.mem_of_getElem? (i := 921) (by decide +kernel), List.mem_of_getElem? (i := 1135) (by decide +kernel), List.mem_of_getElem? (i := 1136) (by decide +kernel)⟩
theorem lw_p36 : lw_okq (⟨"StreamTransportModel", "putNumber", "(I)V"⟩, 52) := ⟨⟨by decide +kernel, by decide +kernel⟩, List.mem_of_getElem? (i := 921) (by decide +kernel), List.mem_of_getElem? (i := 1139) (by decide +kernel), List.mem_of_getElem? (i := 1140) (by decide +kernel)⟩
theorem lw_p37 : lw_okq (⟨"StreamTransportModel", "putAck", "(I)V"⟩, 52) := ⟨⟨by decide +kernel, by decide +kernel⟩, List.mem_of_getElem? (i := 921) (by decide +kernel), List.mem_of_getElem? (i := 1146) (by decide +kernel), List.mem_of_getElem? (i := 1147) (by decide +kernel)⟩
theorem lw_p38 : lw_okq (⟨"StreamTransportModel", "isSeen", "(II)Z"⟩, 52) := ⟨⟨by decide +kernel, by decide +kernel⟩, List.mem_of_getElem? (i := 921) (by decide +kernel), List.mem_of_getElem? (i := 1150) (by decide +kernel), List.mem_of_getElem? (i := 1151) (by decide +kernel)⟩
theorem lw_p39 : lw_okq (⟨"StreamTransportModel", "putSmall", "(II)Z"⟩, 52) := ⟨⟨by decide +kernel, by decide +kernel⟩, List.mem_of_getElem? (i := 921) (by decide +kernel), List.mem_of_getElem? (i := 1154) (by decide +kernel), List.mem_of_getElem? (i := 1155) (by decide +kernel)⟩
theorem lw_p40 : lw_okq (⟨"StreamTransportModel", "fits", "(I)Z"⟩, 52) := ⟨⟨by decide +kernel, by decide +kernel⟩, List.mem_of_getElem? (i := 921) (by decide +kernel), List.mem_of_getElem? (i := 1158) (by decide +kernel), List.mem_of_getElem? (i := 1159) (by decide +kernel)⟩
theorem lw_p41 : lw_okq (⟨"StreamTransportModel", "plans", "(II)Z"⟩, 52) := ⟨⟨by decide +kernel, by decide +kernel⟩, List.mem_of_getElem? (i := 921) (by decide +kernel), List.mem_of_getElem? (i := 1162) (by decide +kernel), List.mem_of_getElem? (i := 1163) (by decide +kernel)⟩
theorem lw_p42 : lw_okq (⟨"StreamTransportModel", "mayBeNew", "(III)Z"⟩, 52) := ⟨⟨by decide +kernel, by decide +kernel⟩, List.mem_of_getElem? (i := 921) (by decide +kernel), List.mem_of_getElem? (i := 1166) (by decide +kernel), List.mem_of_getElem? (i := 1167) (by decide +kernel)⟩
theorem lw_p43 : lw_okq (⟨"StreamTransportModel", "putStream", "(III)V"⟩, 52) := ⟨⟨by decide +kernel, by decide +kernel⟩, List.mem_of_getElem? (i := 921) (by decide +kernel), List.mem_of_getElem? (i := 1170) (by decide +kernel), List.mem_of_getElem? (i := 1171) (by decide +kernel)⟩
theorem lw_p44 : lw_okq (⟨"StreamTransportModel", "seal", "(III)V"⟩, 52) := ⟨⟨by decide +kernel, by decide +kernel⟩, List.mem_of_getElem? (i := 921) (by decide +kernel), List.mem_of_getElem? (i := 1174) (by decide +kernel), List.mem_of_getElem? (i := 1175) (by decide +kernel)⟩
theorem lw_p45 : lw_okq (⟨"StreamTransportModel", "launch", "(II)V"⟩, 52) := ⟨⟨by decide +kernel, by decide +kernel⟩, List.mem_of_getElem? (i := 921) (by decide +kernel), List.mem_of_getElem? (i := 1181) (by decide +kernel), List.mem_of_getElem? (i := 1182) (by decide +kernel)⟩
theorem lw_p46 : lw_okq (⟨"StreamTransportModel", "flies", "(I)Z"⟩, 52) := ⟨⟨by decide +kernel, by decide +kernel⟩, List.mem_of_getElem? (i := 921) (by decide +kernel), List.mem_of_getElem? (i := 1189) (by decide +kernel), List.mem_of_getElem? (i := 1190) (by decide +kernel)⟩
theorem lw_p47 : lw_okq (⟨"StreamTransportModel", "outOf", "(I)V"⟩, 52) := ⟨⟨by decide +kernel, by decide +kernel⟩, List.mem_of_getElem? (i := 921) (by decide +kernel), List.mem_of_getElem? (i := 1193) (by decide +kernel), List.mem_of_getElem? (i := 1194) (by decide +kernel)⟩
def lw_privs_3 : List (MethodName × Nat) := [(⟨"StreamTransportModel", "streamTarget", "(I)I"⟩, 52), (⟨"StreamTransportModel", "lookAll", "(I)V"⟩, 52), (⟨"StreamTransportModel", "allTarget", "(I)I"⟩, 52), (⟨"StreamTransportModel", "put", "(I)V"⟩, 52), (⟨"StreamTransportModel", "putNumber", "(I)V"⟩, 52), (⟨"StreamTransportModel", "putAck", "(I)V"⟩, 52), (⟨"StreamTransportModel", "isSeen", "(II)Z"⟩, 52), (⟨"StreamTransportModel", "putSmall", "(II)Z"⟩, 52), (⟨"StreamTransportModel", "fits", "(I)Z"⟩, 52), (⟨"StreamTransportModel", "plans", "(II)Z"⟩, 52), (⟨"StreamTransportModel", "mayBeNew", "(III)Z"⟩, 52), (⟨"StreamTransportModel", "putStream", "(III)V"⟩, 52), (⟨"StreamTransportModel", "seal", "(III)V"⟩, 52), (⟨"StreamTransportModel", "launch", "(II)V"⟩, 52), (⟨"StreamTransportModel", "flies", "(I)Z"⟩, 52), (⟨"StreamTransportModel", "outOf", "(I)V"⟩, 52)]
theorem lw_r3 : ∀ q ∈ lw_privs_3, lw_okq q := List.forall_mem_cons.mpr ⟨lw_p32, List.forall_mem_cons.mpr ⟨lw_p33, List.forall_mem_cons.mpr ⟨lw_p34, List.forall_mem_cons.mpr ⟨lw_p35, List.forall_mem_cons.mpr ⟨lw_p36, List.forall_mem_cons.mpr ⟨lw_p37, List.forall_mem_cons.mpr ⟨lw_p38, List.forall_mem_cons.mpr ⟨lw_p39, List.forall_mem_cons.mpr ⟨lw_p40, List.forall_mem_cons.mpr ⟨lw_p41, List.forall_mem_cons.mpr ⟨lw_p42, List.forall_mem_cons.mpr ⟨lw_p43, List.forall_mem_cons.mpr ⟨lw_p44, List.forall_mem_cons.mpr ⟨lw_p45, List.forall_mem_cons.mpr ⟨lw_p46, List.forall_mem_cons.mpr ⟨lw_p47, fun _ h => absurd h List.not_mem_nil⟩⟩⟩⟩⟩⟩⟩⟩⟩⟩⟩⟩⟩⟩⟩⟩
theorem lw_p48 : lw_okq (⟨"StreamTransportModel", "receive", "(I)I"⟩, 52) := ⟨⟨by decide +kernel, by decide +kernel⟩, List.mem_of_getElem? (i := 921) (by decide +kernel), List.mem_of_getElem? (i := 1197) (by decide +kernel), List.mem_of_getElem? (i := 1198) (by decide +kernel)⟩
theorem lw_p49 : lw_okq (⟨"StreamTransportModel", "fullNumber", "(II)I"⟩, 52) := ⟨⟨by decide +kernel, by decide +kernel⟩, List.mem_of_getElem? (i := 921) (by decide +kernel), List.mem_of_getElem? (i := 1201) (by decide +kernel), List.mem_of_getElem? (i := 1202) (by decide +kernel)⟩
theorem lw_p50 : lw_okq (⟨"StreamTransportModel", "frame", "(II)I"⟩, 52) := ⟨⟨by decide +kernel, by decide +kernel⟩, List.mem_of_getElem? (i := 921) (by decide +kernel), List.mem_of_getElem? (i := 1206) (by decide +kernel), List.mem_of_getElem? (i := 1207) (by decide +kernel)⟩
theorem lw_p51 : lw_okq (⟨"StreamTransportModel", "ack", "(I)I"⟩, 52) := ⟨⟨by decide +kernel, by decide +kernel⟩, List.mem_of_getElem? (i := 921) (by decide +kernel), List.mem_of_getElem? (i := 1210) (by decide +kernel), List.mem_of_getElem? (i := 1211) (by decide +kernel)⟩
theorem lw_p52 : lw_okq (⟨"StreamTransportModel", "numberAt", "()I"⟩, 52) := ⟨⟨by decide +kernel, by decide +kernel⟩, List.mem_of_getElem? (i := 921) (by decide +kernel), List.mem_of_getElem? (i := 1214) (by decide +kernel), List.mem_of_getElem? (i := 1215) (by decide +kernel)⟩
theorem lw_p53 : lw_okq (⟨"StreamTransportModel", "acks", "(II)V"⟩, 52) := ⟨⟨by decide +kernel, by decide +kernel⟩, List.mem_of_getElem? (i := 921) (by decide +kernel), List.mem_of_getElem? (i := 1219) (by decide +kernel), List.mem_of_getElem? (i := 1220) (by decide +kernel)⟩
theorem lw_p54 : lw_okq (⟨"StreamTransportModel", "loses", "(II)V"⟩, 52) := ⟨⟨by decide +kernel, by decide +kernel⟩, List.mem_of_getElem? (i := 921) (by decide +kernel), List.mem_of_getElem? (i := 1223) (by decide +kernel), List.mem_of_getElem? (i := 1224) (by decide +kernel)⟩
theorem lw_p55 : lw_okq (⟨"StreamTransportModel", "segment", "(III)I"⟩, 52) := ⟨⟨by decide +kernel, by decide +kernel⟩, List.mem_of_getElem? (i := 921) (by decide +kernel), List.mem_of_getElem? (i := 1227) (by decide +kernel), List.mem_of_getElem? (i := 1228) (by decide +kernel)⟩
theorem lw_p56 : lw_okq (⟨"StreamTransportModel", "isBeyond", "(III)Z"⟩, 52) := ⟨⟨by decide +kernel, by decide +kernel⟩, List.mem_of_getElem? (i := 921) (by decide +kernel), List.mem_of_getElem? (i := 1231) (by decide +kernel), List.mem_of_getElem? (i := 1232) (by decide +kernel)⟩
theorem lw_p57 : lw_okq (⟨"StreamTransportModel", "resetBy", "(III)I"⟩, 52) := ⟨⟨by decide +kernel, by decide +kernel⟩, List.mem_of_getElem? (i := 921) (by decide +kernel), List.mem_of_getElem? (i := 1235) (by decide +kernel), List.mem_of_getElem? (i := 1236) (by decide +kernel)⟩
theorem lw_p58 : lw_okq (⟨"StreamTransportModel", "leastOpen", "(I)I"⟩, 52) := ⟨⟨by decide +kernel, by decide +kernel⟩, List.mem_of_getElem? (i := 921) (by decide +kernel), List.mem_of_getElem? (i := 1263) (by decide +kernel), List.mem_of_getElem? (i := 1264) (by decide +kernel)⟩
theorem lw_p59 : lw_okq (⟨"StreamTransportModel", "readable", "(I)I"⟩, 52) := ⟨⟨by decide +kernel, by decide +kernel⟩, List.mem_of_getElem? (i := 921) (by decide +kernel), List.mem_of_getElem? (i := 1287) (by decide +kernel), List.mem_of_getElem? (i := 1288) (by decide +kernel)⟩
def lw_privs_4 : List (MethodName × Nat) := [(⟨"StreamTransportModel", "receive", "(I)I"⟩, 52), (⟨"StreamTransportModel", "fullNumber", "(II)I"⟩, 52), (⟨"StreamTransportModel", "frame", "(II)I"⟩, 52), (⟨"StreamTransportModel", "ack", "(I)I"⟩, 52), (⟨"StreamTransportModel", "numberAt", "()I"⟩, 52), (⟨"StreamTransportModel", "acks", "(II)V"⟩, 52), (⟨"StreamTransportModel", "loses", "(II)V"⟩, 52), (⟨"StreamTransportModel", "segment", "(III)I"⟩, 52), (⟨"StreamTransportModel", "isBeyond", "(III)Z"⟩, 52), (⟨"StreamTransportModel", "resetBy", "(III)I"⟩, 52), (⟨"StreamTransportModel", "leastOpen", "(I)I"⟩, 52), (⟨"StreamTransportModel", "readable", "(I)I"⟩, 52)]
theorem lw_r4 : ∀ q ∈ lw_privs_4, lw_okq q := List.forall_mem_cons.mpr ⟨lw_p48, List.forall_mem_cons.mpr ⟨lw_p49, List.forall_mem_cons.mpr ⟨lw_p50, List.forall_mem_cons.mpr ⟨lw_p51, List.forall_mem_cons.mpr ⟨lw_p52, List.forall_mem_cons.mpr ⟨lw_p53, List.forall_mem_cons.mpr ⟨lw_p54, List.forall_mem_cons.mpr ⟨lw_p55, List.forall_mem_cons.mpr ⟨lw_p56, List.forall_mem_cons.mpr ⟨lw_p57, List.forall_mem_cons.mpr ⟨lw_p58, List.forall_mem_cons.mpr ⟨lw_p59, fun _ h => absurd h List.not_mem_nil⟩⟩⟩⟩⟩⟩⟩⟩⟩⟩⟩⟩
def lw_privs : List (MethodName × Nat) := lw_privs_1 ++ (lw_privs_2 ++ (lw_privs_3 ++ (lw_privs_4)))
def lw_tbl : List Cond := k2_sels lw_privs ++ tables_1
theorem lw_privs_ok : ∀ q ∈ lw_privs, lw_okq q := by
  show ∀ q ∈ lw_privs_1 ++ (lw_privs_2 ++ (lw_privs_3 ++ (lw_privs_4))), lw_okq q
  exact List.forall_mem_append.mpr ⟨lw_r1, List.forall_mem_append.mpr ⟨lw_r2, List.forall_mem_append.mpr ⟨lw_r3, lw_r4⟩⟩⟩
end
section
/-! The words that aren't kept by program: links between nest mates, arrays over classes. -/
section
def ab_gN : List (String × Nat × MethodName) := [("StreamTransport", 21, ⟨"StreamTransport$Row", "<init>", "()V"⟩), ("StreamTransport$End", 11, ⟨"StreamTransport$Numbers", "<init>", "()V"⟩), ("StreamTransport$End", 20, ⟨"StreamTransport$Reader", "<init>", "()V"⟩), ("StreamTransport$Row", 26, ⟨"StreamTransport", "sizeOf", "(I)I"⟩), ("StreamTransport$Intake", 128, ⟨"StreamTransport", "sizeOf", "(I)I"⟩), ("StreamTransport$Outflow", 44, ⟨"StreamTransport", "sizeOf", "(I)I"⟩), ("StreamTransport$Outgoing", 38, ⟨"StreamTransport", "byteOf", "(JI)I"⟩)]
def ab_gO : List String := ["StreamTransport$End", "StreamTransport$Row", "StreamTransport$Sent", "StreamTransport$Incoming", "StreamTransport$Outgoing"]
def ab_X (U : State) : Prop := (∀ q ∈ ab_gN, va_Nw (.methodLinkNest q.1 q.2.1 q.2.2 "StreamTransport") U) ∧ ∀ C ∈ ab_gO, va_AO C U
theorem ab_X.warm {s U : State} (hW : s.WarmedH U.vm) (h : ab_X s) : ab_X U := ⟨fun q hq => va_Nw.warmM hW (h.1 q hq), fun C hC => va_AO.moved hW.alike (h.2 C hC)⟩
theorem ab_X.same {u U : State} (e : u.vm = U.vm) (h : ab_X u) : ab_X U := ⟨fun q hq => va_Nw.same rfl e (h.1 q hq), fun C hC => va_AO.moved (by rw [e]; exact Vm.Alike.refl _) (h.2 C hC)⟩
/-- the words that a program keeps -/
def ab_gW : List Cond := lw_tbl.filter goodWord
theorem ab_gW_in {w : Cond} (i : Nat) (h : lw_tbl[i]? = some w) (hg : goodWord w = true) : w ∈ ab_gW := List.mem_filter.mpr ⟨List.mem_of_getElem? h, hg⟩
theorem ab_gW_good {y : MethodName} {cc : ByteArray} {maxL : Nat} {ret : Option FieldType} (h : Cond.code y cc maxL ret ∈ ab_gW) : GoodIn ab_gW (Cond.code y cc maxL ret :: ab_gW) := by
  intro w hw
  rcases List.mem_cons.mp hw with rfl | hw
  · exact ⟨h, good_of_word (List.mem_filter.mp h).2⟩
  · exact ⟨hw, good_of_word (List.mem_filter.mp hw).2⟩
end
end
section
/-! A small machine over typed memory: ints, longs and references by (register, position, place); positions have kinds. What it says of a run, the JVM's machine does: ab_sound. -/
section
abbrev AV : Type := Int32 ⊕ (Int64 ⊕ (Nat × Option Nat))
abbrev Mm : Type := (Nat → Nat → Nat → Int32) × (Nat → Nat → Nat → Int64) × (Nat → Nat → Nat → Option Nat) × List Nat × Nat × Nat
abbrev KS : Type := (Nat × List (Nat × Nat × Nat × Nat)) ⊕ (Nat × Nat × Nat × Nat × Nat × Nat)
abbrev Cf : Type := Nat × List (Option AV) × List AV × Mm
abbrev Rs : Type := (Option AV × Mm) ⊕ Cf
abbrev Ent : Type := Instr × Nat × Nat × Nat × Int32
def ab_uI (m : Mm) (r p j : Nat) (x : Int32) : Mm := (fun r' p' j' => if r' = r ∧ p' = p ∧ j' = j then x else m.1 r' p' j', m.2)
def ab_uJ (m : Mm) (r p j : Nat) (x : Int64) : Mm := (m.1, fun r' p' j' => if r' = r ∧ p' = p ∧ j' = j then x else m.2.1 r' p' j', m.2.2)
def ab_uR (m : Mm) (r p j : Nat) (x : Option Nat) : Mm := (m.1, m.2.1, fun r' p' j' => if r' = r ∧ p' = p ∧ j' = j then x else m.2.2.1 r' p' j', m.2.2.2)
def ab_ap (m : Mm) (k : Nat) : Mm := (m.1, m.2.1, m.2.2.1, m.2.2.2.1 ++ [k], m.2.2.2.2)
/-- an index in range -/
def ab_ix (i : Int32) (n : Nat) : Option Nat := if i < 0 ∨ n ≤ i.toNatClampNeg then none else some i.toNatClampNeg
/-- a boolean -/
def ab_bo (x : Int32) : Option Int32 := if x = 0 ∨ x = 1 then some x else none
def ab_kill (o : Option AV) : Option AV := match o with
  | some (.inr (.inl _)) => none
  | o => o
def ab_sl : List (Option AV) → Nat → AV → List (Option AV)
  | [], _, _ => []
  | _ :: L, 0, v => some v :: L
  | o :: L, 1, v => ab_kill o :: ab_sl L 0 v
  | o :: L, i + 2, v => o :: ab_sl L (i + 1) v
def ab_tn (L : List (Option AV)) : List (Option AV) := match L with
  | [] => []
  | _ :: L => none :: L
def ab_sl2 : List (Option AV) → Nat → AV → List (Option AV)
  | [], _, _ => []
  | _ :: L, 0, v => some v :: ab_tn L
  | o :: L, 1, v => ab_kill o :: ab_sl2 L 0 v
  | o :: L, i + 2, v => o :: ab_sl2 L (i + 1) v
def ab_mk : List Bool → List (Option AV) → List (Option AV)
  | true :: bs, o :: L => o :: ab_mk bs L
  | false :: bs, _ :: L => none :: ab_mk bs L
  | [], _ :: L => none :: ab_mk [] L
  | _, [] => []
def ab_sw (v : Int32) (d : Nat) (K : Nat → Option Rs) : List (Int32 × Nat) → Option Rs
  | [] => K d
  | (x, t) :: r => if v = x then K t else ab_sw v d K r
def ab_fs (KT : List KS) (ci f k : Nat) : Option (Nat × Nat × Nat × Nat) := match KT[k]? with
  | some (.inl (ci', fs)) => if ci' = ci then fs[f]? else none
  | _ => none
def ab_as (KT : List KS) (k : Nat) : Option (Nat × Nat × Nat × Nat × Nat × Nat) := match KT[k]? with
  | some (.inr q) => some q
  | _ => none
def ab_len (KT : List KS) (k : Nat) : Nat := match KT[k]? with
  | some (.inl (_, fs)) => fs.length
  | some (.inr (_, len, _)) => len
  | none => 0
def ab_gc (m : Mm) : Nat := m.2.2.2.1.length + m.2.2.2.2.1
def ab_gs (KT : List KS) (m : Mm) : Nat := (m.2.2.2.1.map (ab_len KT)).sum + m.2.2.2.2.2
def ab_i1 (S : List AV) (f : Int32 → List AV → Option Rs) : Option Rs := match S with
  | .inl v :: S' => f v S'
  | _ => none
def ab_i2 (S : List AV) (f : Int32 → Int32 → List AV → Option Rs) : Option Rs := match S with
  | .inl y :: .inl z :: S' => f y z S'
  | _ => none
def ab_l1 (S : List AV) (f : Int64 → List AV → Option Rs) : Option Rs := match S with
  | .inr (.inl v) :: S' => f v S'
  | _ => none
def ab_l2 (S : List AV) (f : Int64 → Int64 → List AV → Option Rs) : Option Rs := match S with
  | .inr (.inl y) :: .inr (.inl z) :: S' => f y z S'
  | _ => none
def ab_il (S : List AV) (f : Int32 → Int64 → List AV → Option Rs) : Option Rs := match S with
  | .inl y :: .inr (.inl z) :: S' => f y z S'
  | _ => none
def ab_r1 (S : List AV) (f : Nat → Option Nat → List AV → Option Rs) : Option Rs := match S with
  | .inr (.inr (k, o)) :: S' => f k o S'
  | _ => none
def ab_rr (S : List AV) (f : Nat → Option Nat → Nat → Option Nat → List AV → Option Rs) : Option Rs := match S with
  | .inr (.inr (k2, o2)) :: .inr (.inr (k, o)) :: S' => f k2 o2 k o S'
  | _ => none
def ab_ir (S : List AV) (f : Int32 → Nat → Option Nat → List AV → Option Rs) : Option Rs := match S with
  | .inl j :: .inr (.inr (k, o)) :: S' => f j k o S'
  | _ => none
def ab_iir (S : List AV) (f : Int32 → Int32 → Nat → Option Nat → List AV → Option Rs) : Option Rs := match S with
  | .inl v :: .inl j :: .inr (.inr (k, o)) :: S' => f v j k o S'
  | _ => none
def ab_lir (S : List AV) (f : Int64 → Int32 → Nat → Option Nat → List AV → Option Rs) : Option Rs := match S with
  | .inr (.inl v) :: .inl j :: .inr (.inr (k, o)) :: S' => f v j k o S'
  | _ => none
def ab_rir (S : List AV) (f : Nat → Option Nat → Int32 → Nat → Option Nat → List AV → Option Rs) : Option Rs := match S with
  | .inr (.inr (k2, o2)) :: .inl j :: .inr (.inr (k, o)) :: S' => f k2 o2 j k o S'
  | _ => none
def ab_Li (L : List (Option AV)) (a : Nat) (f : Int32 → Option Rs) : Option Rs := match L[a]? with
  | some (some (.inl v)) => f v
  | _ => none
def ab_Ll (L : List (Option AV)) (a : Nat) (f : Int64 → Option Rs) : Option Rs := match L[a]? with
  | some (some (.inr (.inl v))) => f v
  | _ => none
def ab_Lr (L : List (Option AV)) (a : Nat) (f : Nat → Option Nat → Option Rs) : Option Rs := match L[a]? with
  | some (some (.inr (.inr (k, o)))) => f k o
  | _ => none
/-- a field read, by its kind's table -/
def ab_gf (z : Option (Nat × Nat × Nat × Nat)) (m : Mm) (q : Nat) (f : AV → Option Rs) : Option Rs := match z with
  | some (0, r, _, _) => f (.inl (m.1 r q 0))
  | some (1, r, _, _) => f (.inl (m.1 r q 0))
  | some (2, r, k', _) => f (.inr (.inr (k', m.2.2.1 r q 0)))
  | some (3, _, k', d') => f (.inr (.inr (k', some (q + d'))))
  | _ => none
def ab_pf (z : Option (Nat × Nat × Nat × Nat)) (m : Mm) (q : Nat) (v : Int32) (f : Mm → Option Rs) : Option Rs := match z with
  | some (0, r, _, _) => f (ab_uI m r q 0 v)
  | some (1, r, _, _) => (ab_bo v).bind fun v' => f (ab_uI m r q 0 v')
  | _ => none
def ab_pr (z : Option (Nat × Nat × Nat × Nat)) (m : Mm) (q k2 q2 : Nat) (f : Mm → Option Rs) : Option Rs := match z with
  | some (2, r, k', _) => if k2 = k' then f (ab_uR m r q 0 (some q2)) else none
  | _ => none
/-- arrays: of ints (0), booleans (1), longs (2), references (3), fixed references (4) -/
def ab_ga (z : Option (Nat × Nat × Nat × Nat × Nat × Nat)) (t : Nat) (f : Nat → Nat → Option Rs) : Option Rs := match z with
  | some (r, len, t', _, _, _) => if t' = t then f r len else none
  | _ => none
def ab_gr (z : Option (Nat × Nat × Nat × Nat × Nat × Nat)) (m : Mm) (q : Nat) (j : Int32) (f : AV → Option Rs) : Option Rs := match z with
  | some (r, len, 3, k', _, _) => (ab_ix j len).bind fun i => f (.inr (.inr (k', m.2.2.1 r q i)))
  | some (_, len, 4, k', a', st) => (ab_ix j len).bind fun i => f (.inr (.inr (k', some (q + a' + st * i))))
  | _ => none
def ab_ga3 (z : Option (Nat × Nat × Nat × Nat × Nat × Nat)) (k2 : Nat) (f : Nat → Nat → Option Rs) : Option Rs := match z with
  | some (r, len, 3, k', _, _) => if k2 = k' then f r len else none
  | _ => none
/-- words on the stack -/
def ab_w1 (v : AV) : Nat := match v with
  | .inr (.inl _) => 2
  | _ => 1
def ab_wd (S : List AV) : Nat := (S.map ab_w1).sum
/-- one instruction -/
def ab_st (KT : List KS) (sc : Option (Nat × (Nat → Int32))) (sw : Nat → List (Int32 × Nat) × Nat) (eV : Nat → List AV → Mm → Option Mm) (eI : Nat → List AV → Mm → Option (Int32 × Mm)) (i : Instr) (a b d : Nat) (x : Int32) (pc : Nat) (L : List (Option AV)) (S : List AV) (m : Mm) (K : Nat → List (Option AV) → List AV → Mm → Option Rs) : Option Rs :=
  match i with
  | .iconst _ => K (pc + 1) L (.inl x :: S) m
  | .bipush _ => K (pc + 2) L (.inl x :: S) m
  | .sipush _ => K (pc + 3) L (.inl x :: S) m
  | .ldc _ => K (pc + 2) L (.inl x :: S) m
  | .lconst _ => K (pc + 1) L (.inr (.inl (Int64.ofNat a)) :: S) m
  | .ldc2_w _ => K (pc + 3) L (.inr (.inl (Int64.ofNat a)) :: S) m
  | .iload _ => ab_Li L a fun v => K (pc + 2) L (.inl v :: S) m
  | .iload_n _ => ab_Li L a fun v => K (pc + 1) L (.inl v :: S) m
  | .lload _ => ab_Ll L a fun v => K (pc + 2) L (.inr (.inl v) :: S) m
  | .lload_n _ => ab_Ll L a fun v => K (pc + 1) L (.inr (.inl v) :: S) m
  | .aload _ => ab_Lr L a fun k o => K (pc + 2) L (.inr (.inr (k, o)) :: S) m
  | .aload_n _ => ab_Lr L a fun k o => K (pc + 1) L (.inr (.inr (k, o)) :: S) m
  | .istore _ => ab_i1 S fun v S' => K (pc + 2) (ab_sl L a (.inl v)) S' m
  | .istore_n _ => ab_i1 S fun v S' => K (pc + 1) (ab_sl L a (.inl v)) S' m
  | .lstore _ => ab_l1 S fun v S' => K (pc + 2) (ab_sl2 L a (.inr (.inl v))) S' m
  | .lstore_n _ => ab_l1 S fun v S' => K (pc + 1) (ab_sl2 L a (.inr (.inl v))) S' m
  | .astore _ => ab_r1 S fun k o S' => o.bind fun q => K (pc + 2) (ab_sl L a (.inr (.inr (k, some q)))) S' m
  | .astore_n _ => ab_r1 S fun k o S' => o.bind fun q => K (pc + 1) (ab_sl L a (.inr (.inr (k, some q)))) S' m
  | .iinc _ _ => ab_Li L a fun v => K (pc + 3) (ab_sl L a (.inl (v + x))) S m
  | .iadd => ab_i2 S fun y z S' => K (pc + 1) L (.inl (z + y) :: S') m
  | .isub => ab_i2 S fun y z S' => K (pc + 1) L (.inl (z - y) :: S') m
  | .imul => ab_i2 S fun y z S' => K (pc + 1) L (.inl (z * y) :: S') m
  | .idiv => ab_i2 S fun y z S' => if y = 0 then none else K (pc + 1) L (.inl (z / y) :: S') m
  | .irem => ab_i2 S fun y z S' => if y = 0 then none else K (pc + 1) L (.inl (z - z / y * y) :: S') m
  | .iand => ab_i2 S fun y z S' => K (pc + 1) L (.inl (z &&& y) :: S') m
  | .ior => ab_i2 S fun y z S' => K (pc + 1) L (.inl (z ||| y) :: S') m
  | .ixor => ab_i2 S fun y z S' => K (pc + 1) L (.inl (z ^^^ y) :: S') m
  | .ishl => ab_i2 S fun y z S' => K (pc + 1) L (.inl (z <<< (y &&& 31)) :: S') m
  | .ishr => ab_i2 S fun y z S' => K (pc + 1) L (.inl (z >>> (y &&& 31)) :: S') m
  | .iushr => ab_i2 S fun y z S' => K (pc + 1) L (.inl ((z.toUInt32 >>> (y.toUInt32 &&& Int32.toUInt32 31)).toInt32) :: S') m
  | .ladd => ab_l2 S fun y z S' => K (pc + 1) L (.inr (.inl (z + y)) :: S') m
  | .lsub => ab_l2 S fun y z S' => K (pc + 1) L (.inr (.inl (z - y)) :: S') m
  | .land => ab_l2 S fun y z S' => K (pc + 1) L (.inr (.inl (z &&& y)) :: S') m
  | .lor => ab_l2 S fun y z S' => K (pc + 1) L (.inr (.inl (z ||| y)) :: S') m
  | .lshl => ab_il S fun y z S' => K (pc + 1) L (.inr (.inl (z <<< (y.toInt64 &&& 63))) :: S') m
  | .lshr => ab_il S fun y z S' => K (pc + 1) L (.inr (.inl (z >>> (y.toInt64 &&& 63))) :: S') m
  | .lushr => ab_il S fun y z S' => K (pc + 1) L (.inr (.inl ((z.toUInt64 >>> (y.toInt64.toUInt64 &&& Int64.toUInt64 63)).toInt64)) :: S') m
  | .i2l => ab_i1 S fun y S' => K (pc + 1) L (.inr (.inl y.toInt64) :: S') m
  | .l2i => ab_l1 S fun y S' => K (pc + 1) L (.inl y.toInt32 :: S') m
  | .lcmp => ab_l2 S fun y z S' => K (pc + 1) L (.inl (lg_cmp z y) :: S') m
  | .dup => if d = 0 then ab_i1 S fun y S' => K (pc + 1) L (.inl y :: .inl y :: S') m else ab_r1 S fun k o S' => K (pc + 1) L (.inr (.inr (k, o)) :: .inr (.inr (k, o)) :: S') m
  | .dup2 => ab_ir S fun j k o S' => K (pc + 1) L (.inl j :: .inr (.inr (k, o)) :: .inl j :: .inr (.inr (k, o)) :: S') m
  | .pop => ab_i1 S fun _ S' => K (pc + 1) L S' m
  | .goto _ => K a L S m
  | .ifCond .eq _ => ab_i1 S fun v S' => if v = 0 then K a L S' m else K (pc + 3) L S' m
  | .ifCond .ne _ => ab_i1 S fun v S' => if v = 0 then K (pc + 3) L S' m else K a L S' m
  | .ifCond .lt _ => ab_i1 S fun v S' => if v < 0 then K a L S' m else K (pc + 3) L S' m
  | .ifCond .ge _ => ab_i1 S fun v S' => if 0 ≤ v then K a L S' m else K (pc + 3) L S' m
  | .ifCond .gt _ => ab_i1 S fun v S' => if 0 < v then K a L S' m else K (pc + 3) L S' m
  | .ifCond .le _ => ab_i1 S fun v S' => if v ≤ 0 then K a L S' m else K (pc + 3) L S' m
  | .if_icmp .eq _ => ab_i2 S fun y z S' => if z = y then K a L S' m else K (pc + 3) L S' m
  | .if_icmp .ne _ => ab_i2 S fun y z S' => if z = y then K (pc + 3) L S' m else K a L S' m
  | .if_icmp .lt _ => ab_i2 S fun y z S' => if z < y then K a L S' m else K (pc + 3) L S' m
  | .if_icmp .ge _ => ab_i2 S fun y z S' => if y ≤ z then K a L S' m else K (pc + 3) L S' m
  | .if_icmp .gt _ => ab_i2 S fun y z S' => if y < z then K a L S' m else K (pc + 3) L S' m
  | .if_icmp .le _ => ab_i2 S fun y z S' => if z ≤ y then K a L S' m else K (pc + 3) L S' m
  | .ifnull _ => ab_r1 S fun _ o S' => o.elim (K a L S' m) fun _ => K (pc + 3) L S' m
  | .ifnonnull _ => ab_r1 S fun _ o S' => o.elim (K (pc + 3) L S' m) fun _ => K a L S' m
  | .tableswitch _ _ _ _ => ab_i1 S fun v S' => ab_sw v (sw pc).2 (fun t => K t L S' m) (sw pc).1
  | .getfield _ => ab_r1 S fun k o S' => o.bind fun q => ab_gf (ab_fs KT a b k) m q fun v => K (pc + 3) L (v :: S') m
  | .putfield _ => if d = 0 then ab_ir S fun v k o S' => o.bind fun q => ab_pf (ab_fs KT a b k) m q v fun m' => K (pc + 3) L S' m' else ab_rr S fun k2 o2 k o S' => o.bind fun q => o2.bind fun q2 => ab_pr (ab_fs KT a b k) m q k2 q2 fun m' => K (pc + 3) L S' m'
  | .iaload => ab_ir S fun j k o S' => if k = 0 then o.bind (fun _ => sc.bind (fun z => (ab_ix j z.1).bind fun i => K (pc + 1) L (.inl (z.2 i) :: S') m)) else o.bind fun q => ab_ga (ab_as KT k) 0 fun r len => (ab_ix j len).bind fun i => K (pc + 1) L (.inl (m.1 r q i) :: S') m
  | .baload => ab_ir S fun j k o S' => o.bind fun q => ab_ga (ab_as KT k) 1 fun r len => (ab_ix j len).bind fun i => K (pc + 1) L (.inl (m.1 r q i) :: S') m
  | .laload => ab_ir S fun j k o S' => o.bind fun q => ab_ga (ab_as KT k) 2 fun r len => (ab_ix j len).bind fun i => K (pc + 1) L (.inr (.inl (m.2.1 r q i)) :: S') m
  | .aaload => ab_ir S fun j k o S' => o.bind fun q => ab_gr (ab_as KT k) m q j fun v => K (pc + 1) L (v :: S') m
  | .iastore => ab_iir S fun v j k o S' => o.bind fun q => ab_ga (ab_as KT k) 0 fun r len => (ab_ix j len).bind fun i => K (pc + 1) L S' (ab_uI m r q i v)
  | .bastore => ab_iir S fun v j k o S' => o.bind fun q => ab_ga (ab_as KT k) 1 fun r len => (ab_ix j len).bind fun i => (ab_bo v).bind fun v' => K (pc + 1) L S' (ab_uI m r q i v')
  | .lastore => ab_lir S fun v j k o S' => o.bind fun q => ab_ga (ab_as KT k) 2 fun r len => (ab_ix j len).bind fun i => K (pc + 1) L S' (ab_uJ m r q i v)
  | .aastore => ab_rir S fun k2 o2 j k o S' => o.bind fun q => o2.bind fun q2 => ab_ga3 (ab_as KT k) k2 fun r len => (ab_ix j len).bind fun i => K (pc + 1) L S' (ab_uR m r q i (some q2))
  | .arraylength => ab_r1 S fun k o S' => if k = 0 then o.bind (fun _ => sc.bind (fun z => K (pc + 1) L (.inl (Int32.ofNat z.1) :: S') m)) else o.bind fun _ => (ab_as KT k).bind fun z => K (pc + 1) L (.inl (Int32.ofNat z.2.1) :: S') m
  | .new _ => K (pc + 3) L (.inr (.inr (a, some m.2.2.2.1.length)) :: S) (ab_ap m a)
  | .newarray _ => ab_i1 S fun v S' => (ab_as KT a).bind fun z => if v = Int32.ofNat z.2.1 then K (pc + 2) L (.inr (.inr (a, some m.2.2.2.1.length)) :: S') (ab_ap m a) else none
  | .anewarray _ => ab_i1 S fun v S' => (ab_as KT a).bind fun z => if v = Int32.ofNat z.2.1 then K (pc + 3) L (.inr (.inr (a, some m.2.2.2.1.length)) :: S') (ab_ap m a) else none
  | .invokevirtual _ => if Nat.ble (ab_wd (S.drop b)) 8 = true then (if d = 0 then (eV a (S.take b).reverse m).bind (fun m' => K (pc + 3) L (S.drop b) m') else (eI a (S.take b).reverse m).bind (fun q => K (pc + 3) L (.inl q.1 :: S.drop b) (q.2))) else none
  | .invokespecial _ => if Nat.ble (ab_wd (S.drop b)) 8 = true then (if d = 0 then (eV a (S.take b).reverse m).bind (fun m' => K (pc + 3) L (S.drop b) m') else (eI a (S.take b).reverse m).bind (fun q => K (pc + 3) L (.inl q.1 :: S.drop b) (q.2))) else none
  | .invokestatic _ => if Nat.ble (ab_wd (S.drop b)) 8 = true then (if d = 0 then (eV a (S.take b).reverse m).bind (fun m' => K (pc + 3) L (S.drop b) m') else (eI a (S.take b).reverse m).bind (fun q => K (pc + 3) L (.inl q.1 :: S.drop b) (q.2))) else none
  | .ireturn => ab_i1 S fun v S' => if S'.isEmpty = true then (if d = 0 then some (.inl (some (.inl v), m)) else (ab_bo v).bind fun v' => some (.inl (some (.inl v'), m))) else none
  | .return_ => if S.isEmpty = true then some (.inl (none, m)) else none
  | _ => none
def ab_seg (KT : List KS) (sc : Option (Nat × (Nat → Int32))) (sw : Nat → List (Int32 × Nat) × Nat) (eV : Nat → List AV → Mm → Option Mm) (eI : Nat → List AV → Mm → Option (Int32 × Mm)) (ins : Nat → Option Ent) (hd : Nat → Nat × List Bool) (go : Nat → List (Option AV) → List AV → Mm → Option Rs) : Nat → Nat → List (Option AV) → List AV → Mm → Option Rs
  | 0, _, _, _, _ => none
  | n + 1, pc, L, S, m => (ins pc).bind fun q => ab_st KT sc sw eV eI q.1 q.2.1 q.2.2.1 q.2.2.2.1 q.2.2.2.2 pc L S m fun pc' L' S' m' => match hd pc' with
    | (0, _) => ab_seg KT sc sw eV eI ins hd go n pc' L' S' m'
    | (1, msk) => go pc' (ab_mk msk L') S' m'
    | _ => some (.inr (pc', L', S', m'))
def ab_ex (KT : List KS) (sc : Option (Nat × (Nat → Int32))) (sw : Nat → List (Int32 × Nat) × Nat) (eV : Nat → List AV → Mm → Option Mm) (eI : Nat → List AV → Mm → Option (Int32 × Mm)) (ins : Nat → Option Ent) (hd : Nat → Nat × List Bool) : Nat → Nat → List (Option AV) → List AV → Mm → Option Rs
  | 0, _, _, _, _ => none
  | f + 1, pc, L, S, m => ab_seg KT sc sw eV eI ins hd (ab_ex KT sc sw eV eI ins hd f) 1000 pc L S m
end
end
section
/-! How the small machine's memory lies in the heap. -/
section
def ab_v (ad : Nat → Nat) (b : Nat) (v : AV) : Value := match v with
  | .inl x => .int x
  | .inr (.inl y) => .long y
  | .inr (.inr (_, none)) => .null
  | .inr (.inr (k, some q)) => .ref (if k = 0 then b else ad q)
def ab_vv (sc : Option (Nat × (Nat → Int32))) (ks : List Nat) (v : AV) : Prop := match v with
  | .inr (.inr (k, some q)) => if k = 0 then sc.isSome = true else ks[q]? = some k
  | _ => True
def ab_fv (ad : Nat → Nat) (m : Mm) (q : Nat) (f : Nat × Nat × Nat × Nat) : Value := match f with
  | (0, r, _, _) => .int (m.1 r q 0)
  | (1, r, _, _) => .int (m.1 r q 0)
  | (2, r, _, _) => va_rf ((m.2.2.1 r q 0).map ad)
  | (_, _, _, d) => .ref (ad (q + d))
def ab_av (ad : Nat → Nat) (m : Mm) (q r len t a st : Nat) : (Nat → Int32) ⊕ (Nat → Int64) ⊕ (Nat → UInt32) ⊕ (Nat → UInt64) ⊕ (Nat → Option Nat) := match t with
  | 0 => .inl (m.1 r q)
  | 1 => .inl (m.1 r q)
  | 2 => .inr (.inl (m.2.1 r q))
  | 3 => .inr (.inr (.inr (.inr fun j => (m.2.2.1 r q j).map ad)))
  | _ => .inr (.inr (.inr (.inr fun j => if j < len then some (ad (q + a + st * j)) else none)))
def ab_ce (KT : List KS) (ad ac : Nat → Nat) (m : Mm) (q k : Nat) : va_E := match KT[k]? with
  | some (.inl (ci, fs)) => .inr (ci, fs.map (ab_fv ad m q))
  | some (.inr (r, len, t, _, a, st)) => .inl (ac q, len, ab_av ad m q r len t a st)
  | none => .inr (0, [])
def ab_w (KT : List KS) (ad ac : Nat → Nat) (m : Mm) : va_W := m.2.2.2.1.mapIdx (fun q k => (ad q, ab_ce KT ad ac m q k))
def ab_cn (KT : List KS) (cl : List vw_C) (k : Nat) : String := match KT[k]? with
  | some (.inl (ci, _)) => match cl[ci]? with
    | some q => q.1
    | none => ""
  | _ => ""
def ab_ty (KT : List KS) (cl : List vw_C) (t k : Nat) : FieldType := match t with
  | 0 => .int
  | 1 => .boolean
  | 2 => .long
  | _ => .object (ab_cn KT cl k)
def ab_K (KT : List KS) (cl : List vw_C) (ac : Nat → Nat) (ks : List Nat) (U : State) : Prop := ∀ (q k r len t k' a st : Nat), ks[q]? = some k → KT[k]? = some (.inr (r, len, t, k', a, st)) → ArrOfT U (ac q) (ab_ty KT cl t k') ∧ va_RA U (ac q) (ab_ty KT cl t k')
def ab_ok (KT : List KS) (m : Mm) : Prop :=
  (∀ (q k ci f r k' d : Nat) (fs : List (Nat × Nat × Nat × Nat)), m.2.2.2.1[q]? = some k → KT[k]? = some (.inl (ci, fs)) → fs[f]? = some (3, r, k', d) → k' ≠ 0 ∧ m.2.2.2.1[q + d]? = some k') ∧
  (∀ (q k r len k' a st j : Nat), m.2.2.2.1[q]? = some k → KT[k]? = some (.inr (r, len, 4, k', a, st)) → j < len → k' ≠ 0 ∧ m.2.2.2.1[q + a + st * j]? = some k') ∧
  (∀ (q k ci f r k' d q' : Nat) (fs : List (Nat × Nat × Nat × Nat)), m.2.2.2.1[q]? = some k → KT[k]? = some (.inl (ci, fs)) → fs[f]? = some (2, r, k', d) → m.2.2.1 r q 0 = some q' → k' ≠ 0 ∧ m.2.2.2.1[q']? = some k') ∧
  (∀ (q k r len k' a st j q' : Nat), m.2.2.2.1[q]? = some k → KT[k]? = some (.inr (r, len, 3, k', a, st)) → m.2.2.1 r q j = some q' → k' ≠ 0 ∧ m.2.2.2.1[q']? = some k') ∧
  ∀ (r q j : Nat), m.2.2.2.1.length ≤ q → m.1 r q j = 0 ∧ m.2.1 r q j = 0 ∧ m.2.2.1 r q j = none
/-- within a kind, each field has a register of its own; and no other sorts of fields and arrays -/
def ab_nd (KT : List KS) : Prop := (∀ (k ci f f' r t k1 d1 t' k2 d2 : Nat) (fs : List (Nat × Nat × Nat × Nat)), KT[k]? = some (.inl (ci, fs)) → fs[f]? = some (t, r, k1, d1) → fs[f']? = some (t', r, k2, d2) → f = f') ∧
  (∀ (k ci f t r k1 d1 : Nat) (fs : List (Nat × Nat × Nat × Nat)), KT[k]? = some (.inl (ci, fs)) → fs[f]? = some (t, r, k1, d1) → t ≤ 3) ∧
  ∀ (k r len t k1 a st : Nat), KT[k]? = some (.inr (r, len, t, k1, a, st)) → t ≤ 4 ∨ len = 0
def ab_al (ad : Nat → Nat) (b : Nat) (L : List (Option AV)) : List (Nat × Value) := L.zipIdx.filterMap (fun q => q.1.map (fun v => (q.2, ab_v ad b v)))
def ab_I (KT : List KS) (cl : List vw_C) (D : va_G) (s : State) (A : Nat → Prop) (H0 : Heap) (ks0 : List Nat) (ad0 ac0 : Nat → Nat) (g0 h0 : Nat) (ad ac : Nat → Nat) (m : Mm) (H : Heap) (locs : List Loc) (cells slots : Nat) : Prop :=
  va_P D cl (ab_w KT ad ac m) H ∧ va_D A (ab_w KT ad ac m) ∧ va_S A H0 H locs ∧ ab_K KT cl ac m.2.2.2.1 s ∧ ab_ok KT m ∧ (∀ q, q < ks0.length → ad q = ad0 q ∧ ac q = ac0 q) ∧ (∀ (i k : Nat), ks0[i]? = some k → m.2.2.2.1[i]? = some k) ∧ cells + g0 = ab_gc m ∧ slots + h0 = ab_gs KT m
def ab_F (sc : Option (Nat × (Nat → Int32))) (b : Nat) (ad : Nat → Nat) (ks : List Nat) (nL : Nat) (ls : Array Slot) (L : List (Option AV)) (S : List AV) : Prop :=
  L.length = nL ∧ lv_has ls nL (ab_al ad b L) ∧ (∀ (i : Nat) (v : AV), L[i]? = some (some v) → ab_vv sc ks v) ∧ ∀ v ∈ S, ab_vv sc ks v
theorem ab_w_at {KT : List KS} {ad ac : Nat → Nat} {m : Mm} {q k : Nat} (h : m.2.2.2.1[q]? = some k) : (ab_w KT ad ac m)[q]? = some (ad q, ab_ce KT ad ac m q k) := by
  simp [ab_w, List.getElem?_mapIdx, h]
theorem ab_w_len {KT : List KS} {ad ac : Nat → Nat} {m : Mm} : (ab_w KT ad ac m).length = m.2.2.2.1.length := by simp [ab_w]
theorem ab_w_set {KT : List KS} {ad ac : Nat → Nat} {m m' : Mm} {q k : Nat} (h : m.2.2.2.1[q]? = some k) (hk : m'.2.2.2.1 = m.2.2.2.1) {e : va_E} (he : e = ab_ce KT ad ac m' q k)
    (ho : ∀ q' k', q' ≠ q → ab_ce KT ad ac m' q' k' = ab_ce KT ad ac m q' k') : (ab_w KT ad ac m).set q (ad q, e) = ab_w KT ad ac m' := by
  subst he
  apply List.ext_getElem?
  intro i
  by_cases hi : i = q
  · subst hi
    have hl : i < (ab_w KT ad ac m).length := by rw [ab_w_len]; exact (List.getElem?_eq_some_iff.mp h).1
    rw [List.getElem?_set_self hl, ab_w_at (m := m') (by rw [hk]; exact h)]
  · rw [List.getElem?_set_ne (Ne.symm hi)]
    simp only [ab_w, List.getElem?_mapIdx, hk]
    cases m.2.2.2.1[i]? with
    | none => rfl
    | some k' => simp [ho i k' hi]
theorem ab_ce_I {KT : List KS} {ad ac : Nat → Nat} {m : Mm} {r p j : Nat} {x : Int32} (q k : Nat) (h : q ≠ p) : ab_ce KT ad ac (ab_uI m r p j x) q k = ab_ce KT ad ac m q k := by
  have e1 : ∀ r' j', (ab_uI m r p j x).1 r' q j' = m.1 r' q j' := fun r' j' => by simp [ab_uI, h]
  have e2 : ∀ r', (ab_uI m r p j x).1 r' q = m.1 r' q := fun r' => funext fun j' => e1 r' j'
  have ef : ∀ f, ab_fv ad (ab_uI m r p j x) q f = ab_fv ad m q f := by
    intro f
    unfold ab_fv
    split <;> first | rw [e1] | rfl
  unfold ab_ce
  split
  · first | rfl | (congr 2; exact List.map_congr_left fun f _ => ef f)
  · congr 3
    unfold ab_av
    split <;> first | rw [e2] | rfl
  · rfl
theorem ab_ce_J {KT : List KS} {ad ac : Nat → Nat} {m : Mm} {r p j : Nat} {x : Int64} (q k : Nat) (h : q ≠ p) : ab_ce KT ad ac (ab_uJ m r p j x) q k = ab_ce KT ad ac m q k := by
  have e1 : ∀ r' j', (ab_uJ m r p j x).2.1 r' q j' = m.2.1 r' q j' := fun r' j' => by simp [ab_uJ, h]
  have e2 : ∀ r', (ab_uJ m r p j x).2.1 r' q = m.2.1 r' q := fun r' => funext fun j' => e1 r' j'
  have ef : ∀ f, ab_fv ad (ab_uJ m r p j x) q f = ab_fv ad m q f := by
    intro f
    unfold ab_fv
    split <;> rfl
  unfold ab_ce
  split
  · first | rfl | (congr 2; exact List.map_congr_left fun f _ => ef f)
  · congr 3
    unfold ab_av
    split <;> first | rw [e2] | rfl
  · rfl
theorem ab_ce_R {KT : List KS} {ad ac : Nat → Nat} {m : Mm} {r p j : Nat} {x : Option Nat} (q k : Nat) (h : q ≠ p) : ab_ce KT ad ac (ab_uR m r p j x) q k = ab_ce KT ad ac m q k := by
  have e1 : ∀ r' j', (ab_uR m r p j x).2.2.1 r' q j' = m.2.2.1 r' q j' := fun r' j' => by simp [ab_uR, h]
  have ef : ∀ f, ab_fv ad (ab_uR m r p j x) q f = ab_fv ad m q f := by
    intro f
    unfold ab_fv
    split <;> first | rw [e1] | rfl
  unfold ab_ce
  split
  · first | rfl | (congr 2; exact List.map_congr_left fun f _ => ef f)
  · congr 3
    unfold ab_av
    split <;> first | rfl | simp only [e1]
  · rfl
/-- a field's store -/
theorem ab_fset {ad : Nat → Nat} {m m' : Mm} {q f t r k' d : Nat} {fs : List (Nat × Nat × Nat × Nat)} {v : Value} (hf : fs[f]? = some (t, r, k', d)) (hv : ab_fv ad m' q (t, r, k', d) = v)
    (hn : ∀ f' t' k2 d2, fs[f']? = some (t', r, k2, d2) → f' = f) (ho : ∀ t' r' k2 d2, r' ≠ r → ab_fv ad m' q (t', r', k2, d2) = ab_fv ad m q (t', r', k2, d2)) :
    (fs.map (ab_fv ad m q)).set f v = fs.map (ab_fv ad m' q) := by
  apply List.ext_getElem?
  intro i
  have hl : f < fs.length := (List.getElem?_eq_some_iff.mp hf).1
  by_cases hi : i = f
  · subst hi
    rw [List.getElem?_set_self (by simpa using hl), List.getElem?_map, hf]
    simp [hv]
  · rw [List.getElem?_set_ne (Ne.symm hi), List.getElem?_map, List.getElem?_map]
    cases hx : fs[i]? with
    | none => rfl
    | some z =>
      obtain ⟨t', r', k2, d2⟩ := z
      have hr : r' ≠ r := fun e => hi (hn i t' k2 d2 (by rw [hx, e]))
      simp [ho t' r' k2 d2 hr]
theorem ab_mem_al {ad : Nat → Nat} {b : Nat} {L : List (Option AV)} {q : Nat × Value} : q ∈ ab_al ad b L ↔ ∃ v, L[q.1]? = some (some v) ∧ q.2 = ab_v ad b v := by
  unfold ab_al
  rw [List.mem_filterMap]
  constructor
  · rintro ⟨⟨o, i⟩, h1, h2⟩
    have h3 := List.mem_zipIdx_iff_getElem?.mp h1
    cases o with
    | none => simp at h2
    | some v =>
      simp at h2
      subst h2
      exact ⟨v, h3, rfl⟩
  · rintro ⟨v, h1, h2⟩
    refine ⟨(some v, q.1), List.mem_zipIdx_iff_getElem?.mpr h1, ?_⟩
    simp [← h2]
theorem ab_L_at {ad : Nat → Nat} {b nL i : Nat} {ls : Array Slot} {L : List (Option AV)} {v : AV} (h : lv_has ls nL (ab_al ad b L)) (hi : L[i]? = some (some v)) : ls[i]? = some (.val (ab_v ad b v)) :=
  h.2.2 (i, ab_v ad b v) (ab_mem_al.mpr ⟨v, hi, rfl⟩)
theorem ab_L_of {ad : Nat → Nat} {b nL : Nat} {ls : Array Slot} {L : List (Option AV)} {lv : List (Nat × Value)} (h : lv_has ls nL lv) (hs : ∀ i v, L[i]? = some (some v) → (i, ab_v ad b v) ∈ lv) : lv_has ls nL (ab_al ad b L) := by
  refine ⟨h.1, h.2.1, fun q hq => ?_⟩
  obtain ⟨v, h1, h2⟩ := ab_mem_al.mp hq
  have h3 := h.2.2 _ (hs _ _ h1)
  rw [h2]
  exact h3
theorem ab_cat {ad : Nat → Nat} {b : Nat} {v : AV} (h : ∀ y, v ≠ .inr (.inl y)) : (ab_v ad b v).category = 1 := by
  unfold ab_v
  split
  · rfl
  · rename_i y
    exact absurd rfl (h y)
  · rfl
  · rfl
theorem ab_kill_at {o : Option AV} {v : AV} (h : ab_kill o = some v) : o = some v ∧ ∀ y, v ≠ .inr (.inl y) := by
  unfold ab_kill at h
  split at h
  · cases h
  · rename_i hno
    exact ⟨h, fun y hy => hno y (by rw [h, hy])⟩
theorem ab_sl_len : ∀ (L : List (Option AV)) (i : Nat) (v : AV), (ab_sl L i v).length = L.length
  | [], _, _ => by simp [ab_sl]
  | _ :: L, 0, v => by simp [ab_sl]
  | o :: L, 1, v => by simp [ab_sl, ab_sl_len L 0 v]
  | o :: L, i + 2, v => by simp [ab_sl, ab_sl_len L (i + 1) v]
theorem ab_tn_len (L : List (Option AV)) : (ab_tn L).length = L.length := by cases L <;> simp [ab_tn]
theorem ab_sl2_len : ∀ (L : List (Option AV)) (i : Nat) (v : AV), (ab_sl2 L i v).length = L.length
  | [], _, _ => by simp [ab_sl2]
  | _ :: L, 0, v => by simp [ab_sl2, ab_tn_len]
  | o :: L, 1, v => by simp [ab_sl2, ab_sl2_len L 0 v]
  | o :: L, i + 2, v => by simp [ab_sl2, ab_sl2_len L (i + 1) v]
theorem ab_sl_at : ∀ {L : List (Option AV)} {i j : Nat} {v w : AV}, (ab_sl L i v)[j]? = some (some w) → (j = i ∧ w = v) ∨ (j ≠ i ∧ L[j]? = some (some w) ∧ (j + 1 = i → ∀ y, w ≠ .inr (.inl y)))
  | [], _, j, v, w, h => by simp [ab_sl] at h
  | _ :: L, 0, 0, v, w, h => by simp [ab_sl] at h; exact Or.inl ⟨rfl, h.symm⟩
  | _ :: L, 0, j + 1, v, w, h => by
    have h' : L[j]? = some (some w) := by simpa [ab_sl] using h
    exact Or.inr ⟨by omega, by simpa using h', fun e => by omega⟩
  | o :: L, 1, 0, v, w, h => by
    have h' : ab_kill o = some w := by simpa [ab_sl] using h
    exact Or.inr ⟨by omega, by simpa using (ab_kill_at h').1, fun _ => (ab_kill_at h').2⟩
  | o :: L, 1, j + 1, v, w, h => by
    have h' : (ab_sl L 0 v)[j]? = some (some w) := by simpa [ab_sl] using h
    rcases ab_sl_at h' with ⟨h1, h2⟩ | ⟨h1, h2, h3⟩
    · exact Or.inl ⟨by omega, h2⟩
    · exact Or.inr ⟨by omega, by simpa using h2, fun e => h3 (by omega)⟩
  | o :: L, i + 2, 0, v, w, h => by
    have h' : o = some w := by simpa [ab_sl] using h
    exact Or.inr ⟨by omega, by simpa using h', fun e => by omega⟩
  | o :: L, i + 2, j + 1, v, w, h => by
    have h' : (ab_sl L (i + 1) v)[j]? = some (some w) := by simpa [ab_sl] using h
    rcases ab_sl_at h' with ⟨h1, h2⟩ | ⟨h1, h2, h3⟩
    · exact Or.inl ⟨by omega, h2⟩
    · exact Or.inr ⟨by omega, by simpa using h2, fun e => h3 (by omega)⟩
theorem ab_sl2_at : ∀ {L : List (Option AV)} {i j : Nat} {v w : AV}, (ab_sl2 L i v)[j]? = some (some w) → (j = i ∧ w = v) ∨ (j ≠ i ∧ j ≠ i + 1 ∧ L[j]? = some (some w) ∧ (j + 1 = i → ∀ y, w ≠ .inr (.inl y)))
  | [], _, j, v, w, h => by simp [ab_sl2] at h
  | _ :: L, 0, 0, v, w, h => by simp [ab_sl2] at h; exact Or.inl ⟨rfl, h.symm⟩
  | _ :: L, 0, j + 1, v, w, h => by
    have h' : (ab_tn L)[j]? = some (some w) := by simpa [ab_sl2] using h
    cases L with
    | nil => simp [ab_tn] at h'
    | cons o L =>
      cases j with
      | zero => simp [ab_tn] at h'
      | succ j =>
        have h2 : L[j]? = some (some w) := by simpa [ab_tn] using h'
        exact Or.inr ⟨by omega, by omega, by simpa using h2, fun e => by omega⟩
  | o :: L, 1, 0, v, w, h => by
    have h' : ab_kill o = some w := by simpa [ab_sl2] using h
    exact Or.inr ⟨by omega, by omega, by simpa using (ab_kill_at h').1, fun _ => (ab_kill_at h').2⟩
  | o :: L, 1, j + 1, v, w, h => by
    have h' : (ab_sl2 L 0 v)[j]? = some (some w) := by simpa [ab_sl2] using h
    rcases ab_sl2_at h' with ⟨h1, h2⟩ | ⟨h1, h0, h2, h3⟩
    · exact Or.inl ⟨by omega, h2⟩
    · exact Or.inr ⟨by omega, by omega, by simpa using h2, fun e => h3 (by omega)⟩
  | o :: L, i + 2, 0, v, w, h => by
    have h' : o = some w := by simpa [ab_sl2] using h
    exact Or.inr ⟨by omega, by omega, by simpa using h', fun e => by omega⟩
  | o :: L, i + 2, j + 1, v, w, h => by
    have h' : (ab_sl2 L (i + 1) v)[j]? = some (some w) := by simpa [ab_sl2] using h
    rcases ab_sl2_at h' with ⟨h1, h2⟩ | ⟨h1, h0, h2, h3⟩
    · exact Or.inl ⟨by omega, h2⟩
    · exact Or.inr ⟨by omega, by omega, by simpa using h2, fun e => h3 (by omega)⟩
theorem ab_mk_at : ∀ (mk : List Bool) (L : List (Option AV)) (i : Nat) (v : AV), (ab_mk mk L)[i]? = some (some v) → L[i]? = some (some v)
  | true :: bs, o :: L, 0, v, h => by simpa [ab_mk] using h
  | true :: bs, o :: L, i + 1, v, h => by
    have := ab_mk_at bs L i v (by simpa [ab_mk] using h)
    simpa using this
  | false :: bs, o :: L, 0, v, h => by simp [ab_mk] at h
  | false :: bs, o :: L, i + 1, v, h => by
    have := ab_mk_at bs L i v (by simpa [ab_mk] using h)
    simpa using this
  | [], o :: L, 0, v, h => by simp [ab_mk] at h
  | [], o :: L, i + 1, v, h => by
    have := ab_mk_at [] L i v (by simpa [ab_mk] using h)
    simpa using this
  | [], [], i, v, h => by simp [ab_mk] at h
  | true :: bs, [], i, v, h => by simp [ab_mk] at h
  | false :: bs, [], i, v, h => by simp [ab_mk] at h
theorem ab_mk_len : ∀ (mk : List Bool) (L : List (Option AV)), (ab_mk mk L).length = L.length
  | true :: bs, o :: L => by simp [ab_mk, ab_mk_len bs L]
  | false :: bs, o :: L => by simp [ab_mk, ab_mk_len bs L]
  | [], o :: L => by simp [ab_mk, ab_mk_len [] L]
  | [], [] => by simp [ab_mk]
  | true :: bs, [] => by simp [ab_mk]
  | false :: bs, [] => by simp [ab_mk]
theorem ab_F_mk {sc : Option (Nat × (Nat → Int32))} {b : Nat} {ad : Nat → Nat} {ks : List Nat} {nL : Nat} {ls : Array Slot} {L : List (Option AV)} {S : List AV} (mk : List Bool) (h : ab_F sc b ad ks nL ls L S) : ab_F sc b ad ks nL ls (ab_mk mk L) S :=
  ⟨by rw [ab_mk_len]; exact h.1, ab_L_of h.2.1 (fun i v hi => ab_mem_al.mpr ⟨v, ab_mk_at _ _ _ _ hi, rfl⟩), fun i v hi => h.2.2.1 i v (ab_mk_at _ _ _ _ hi), h.2.2.2⟩
theorem ab_ix_in {j : Int32} {n i : Nat} (h : ab_ix j n = some i) : vp_in j n ∧ j.toNatClampNeg = i := by
  unfold ab_ix at h
  split at h
  · cases h
  · rename_i hn
    cases h
    exact ⟨hn, rfl⟩
theorem ab_bo_of {x y : Int32} (h : ab_bo x = some y) : y = x ∧ (x = 0 ∨ x = 1) := by
  unfold ab_bo at h
  split at h
  · rename_i hx
    cases h
    exact ⟨rfl, hx⟩
  · cases h
end
end
section
/-! The small machine is sound: what ab_exec answers, the machine does. -/
section
theorem ab_i1_inv {S : List AV} {f : Int32 → List AV → Option Rs} {ρ : Rs} (h : ab_i1 S f = some ρ) : ∃ (v : Int32) (S' : List AV), S = .inl v :: S' ∧ f v S' = some ρ := by
  unfold ab_i1 at h
  split at h
  · exact ⟨_, _, rfl, h⟩
  · cases h
theorem ab_i2_inv {S : List AV} {f : Int32 → Int32 → List AV → Option Rs} {ρ : Rs} (h : ab_i2 S f = some ρ) : ∃ (y : Int32) (z : Int32) (S' : List AV), S = .inl y :: .inl z :: S' ∧ f y z S' = some ρ := by
  unfold ab_i2 at h
  split at h
  · exact ⟨_, _, _, rfl, h⟩
  · cases h
theorem ab_l1_inv {S : List AV} {f : Int64 → List AV → Option Rs} {ρ : Rs} (h : ab_l1 S f = some ρ) : ∃ (v : Int64) (S' : List AV), S = .inr (.inl v) :: S' ∧ f v S' = some ρ := by
  unfold ab_l1 at h
  split at h
  · exact ⟨_, _, rfl, h⟩
  · cases h
theorem ab_l2_inv {S : List AV} {f : Int64 → Int64 → List AV → Option Rs} {ρ : Rs} (h : ab_l2 S f = some ρ) : ∃ (y : Int64) (z : Int64) (S' : List AV), S = .inr (.inl y) :: .inr (.inl z) :: S' ∧ f y z S' = some ρ := by
  unfold ab_l2 at h
  split at h
  · exact ⟨_, _, _, rfl, h⟩
  · cases h
theorem ab_il_inv {S : List AV} {f : Int32 → Int64 → List AV → Option Rs} {ρ : Rs} (h : ab_il S f = some ρ) : ∃ (y : Int32) (z : Int64) (S' : List AV), S = .inl y :: .inr (.inl z) :: S' ∧ f y z S' = some ρ := by
  unfold ab_il at h
  split at h
  · exact ⟨_, _, _, rfl, h⟩
  · cases h
theorem ab_r1_inv {S : List AV} {f : Nat → Option Nat → List AV → Option Rs} {ρ : Rs} (h : ab_r1 S f = some ρ) : ∃ (k : Nat) (o : Option Nat) (S' : List AV), S = .inr (.inr (k, o)) :: S' ∧ f k o S' = some ρ := by
  unfold ab_r1 at h
  split at h
  · exact ⟨_, _, _, rfl, h⟩
  · cases h
theorem ab_rr_inv {S : List AV} {f : Nat → Option Nat → Nat → Option Nat → List AV → Option Rs} {ρ : Rs} (h : ab_rr S f = some ρ) : ∃ (k2 : Nat) (o2 : Option Nat) (k : Nat) (o : Option Nat) (S' : List AV), S = .inr (.inr (k2, o2)) :: .inr (.inr (k, o)) :: S' ∧ f k2 o2 k o S' = some ρ := by
  unfold ab_rr at h
  split at h
  · exact ⟨_, _, _, _, _, rfl, h⟩
  · cases h
theorem ab_ir_inv {S : List AV} {f : Int32 → Nat → Option Nat → List AV → Option Rs} {ρ : Rs} (h : ab_ir S f = some ρ) : ∃ (j : Int32) (k : Nat) (o : Option Nat) (S' : List AV), S = .inl j :: .inr (.inr (k, o)) :: S' ∧ f j k o S' = some ρ := by
  unfold ab_ir at h
  split at h
  · exact ⟨_, _, _, _, rfl, h⟩
  · cases h
theorem ab_iir_inv {S : List AV} {f : Int32 → Int32 → Nat → Option Nat → List AV → Option Rs} {ρ : Rs} (h : ab_iir S f = some ρ) : ∃ (v : Int32) (j : Int32) (k : Nat) (o : Option Nat) (S' : List AV), S = .inl v :: .inl j :: .inr (.inr (k, o)) :: S' ∧ f v j k o S' = some ρ := by
  unfold ab_iir at h
  split at h
  · exact ⟨_, _, _, _, _, rfl, h⟩
  · cases h
theorem ab_lir_inv {S : List AV} {f : Int64 → Int32 → Nat → Option Nat → List AV → Option Rs} {ρ : Rs} (h : ab_lir S f = some ρ) : ∃ (v : Int64) (j : Int32) (k : Nat) (o : Option Nat) (S' : List AV), S = .inr (.inl v) :: .inl j :: .inr (.inr (k, o)) :: S' ∧ f v j k o S' = some ρ := by
  unfold ab_lir at h
  split at h
  · exact ⟨_, _, _, _, _, rfl, h⟩
  · cases h
theorem ab_rir_inv {S : List AV} {f : Nat → Option Nat → Int32 → Nat → Option Nat → List AV → Option Rs} {ρ : Rs} (h : ab_rir S f = some ρ) : ∃ (k2 : Nat) (o2 : Option Nat) (j : Int32) (k : Nat) (o : Option Nat) (S' : List AV), S = .inr (.inr (k2, o2)) :: .inl j :: .inr (.inr (k, o)) :: S' ∧ f k2 o2 j k o S' = some ρ := by
  unfold ab_rir at h
  split at h
  · exact ⟨_, _, _, _, _, _, rfl, h⟩
  · cases h
theorem ab_Li_inv {L : List (Option AV)} {a : Nat} {f : Int32 → Option Rs} {ρ : Rs} (h : ab_Li L a f = some ρ) : ∃ (v : Int32), L[a]? = some (some (.inl v)) ∧ f v = some ρ := by
  unfold ab_Li at h
  split at h
  · rename_i hL
    exact ⟨_, hL, h⟩
  · cases h
theorem ab_Ll_inv {L : List (Option AV)} {a : Nat} {f : Int64 → Option Rs} {ρ : Rs} (h : ab_Ll L a f = some ρ) : ∃ (v : Int64), L[a]? = some (some (.inr (.inl v))) ∧ f v = some ρ := by
  unfold ab_Ll at h
  split at h
  · rename_i hL
    exact ⟨_, hL, h⟩
  · cases h
theorem ab_Lr_inv {L : List (Option AV)} {a : Nat} {f : Nat → Option Nat → Option Rs} {ρ : Rs} (h : ab_Lr L a f = some ρ) : ∃ (k : Nat) (o : Option Nat), L[a]? = some (some (.inr (.inr (k, o)))) ∧ f k o = some ρ := by
  unfold ab_Lr at h
  split at h
  · rename_i hL
    exact ⟨_, _, hL, h⟩
  · cases h
theorem ab_fs_inv {KT : List KS} {ci f k : Nat} {z : Nat × Nat × Nat × Nat} (h : ab_fs KT ci f k = some z) : ∃ fs, KT[k]? = some (.inl (ci, fs)) ∧ fs[f]? = some z := by
  unfold ab_fs at h
  split at h
  · rename_i ci' fs hk
    split at h
    · rename_i e
      subst e
      exact ⟨fs, hk, h⟩
    · cases h
  · cases h
theorem ab_as_inv {KT : List KS} {k : Nat} {z : Nat × Nat × Nat × Nat × Nat × Nat} (h : ab_as KT k = some z) : KT[k]? = some (.inr z) := by
  unfold ab_as at h
  split at h
  · rename_i q hk
    cases h
    exact hk
  · cases h
theorem ab_gf_inv {o : Option (Nat × Nat × Nat × Nat)} {m : Mm} {q : Nat} {f : AV → Option Rs} {ρ : Rs} (h : ab_gf o m q f = some ρ) :
    ∃ t r k' d v, o = some (t, r, k', d) ∧ f v = some ρ ∧ (((t = 0 ∨ t = 1) ∧ v = .inl (m.1 r q 0)) ∨ (t = 2 ∧ v = .inr (.inr (k', m.2.2.1 r q 0))) ∨ (t = 3 ∧ v = .inr (.inr (k', some (q + d))))) := by
  unfold ab_gf at h
  split at h
  · exact ⟨_, _, _, _, _, rfl, h, Or.inl ⟨Or.inl rfl, rfl⟩⟩
  · exact ⟨_, _, _, _, _, rfl, h, Or.inl ⟨Or.inr rfl, rfl⟩⟩
  · exact ⟨_, _, _, _, _, rfl, h, Or.inr (Or.inl ⟨rfl, rfl⟩)⟩
  · exact ⟨_, _, _, _, _, rfl, h, Or.inr (Or.inr ⟨rfl, rfl⟩)⟩
  · cases h
theorem ab_pf_inv {o : Option (Nat × Nat × Nat × Nat)} {m : Mm} {q : Nat} {v : Int32} {f : Mm → Option Rs} {ρ : Rs} (h : ab_pf o m q v f = some ρ) :
    ∃ t r k' d, o = some (t, r, k', d) ∧ f (ab_uI m r q 0 v) = some ρ ∧ (t = 0 ∨ (t = 1 ∧ (v = 0 ∨ v = 1))) := by
  unfold ab_pf at h
  split at h
  · exact ⟨_, _, _, _, rfl, h, Or.inl rfl⟩
  · obtain ⟨y, h1, h2⟩ := Option.bind_eq_some_iff.mp h
    obtain ⟨rfl, hv⟩ := ab_bo_of h1
    exact ⟨_, _, _, _, rfl, h2, Or.inr ⟨rfl, hv⟩⟩
  · cases h
theorem ab_pr_inv {o : Option (Nat × Nat × Nat × Nat)} {m : Mm} {q k2 q2 : Nat} {f : Mm → Option Rs} {ρ : Rs} (h : ab_pr o m q k2 q2 f = some ρ) :
    ∃ r d, o = some (2, r, k2, d) ∧ f (ab_uR m r q 0 (some q2)) = some ρ := by
  unfold ab_pr at h
  split at h
  · split at h
    · rename_i e
      subst e
      exact ⟨_, _, rfl, h⟩
    · cases h
  · cases h
theorem ab_ga_inv {o : Option (Nat × Nat × Nat × Nat × Nat × Nat)} {t : Nat} {f : Nat → Nat → Option Rs} {ρ : Rs} (h : ab_ga o t f = some ρ) : ∃ r len k' a st, o = some (r, len, t, k', a, st) ∧ f r len = some ρ := by
  unfold ab_ga at h
  split at h
  · split at h
    · rename_i e
      subst e
      exact ⟨_, _, _, _, _, rfl, h⟩
    · cases h
  · cases h
theorem ab_ga3_inv {o : Option (Nat × Nat × Nat × Nat × Nat × Nat)} {k2 : Nat} {f : Nat → Nat → Option Rs} {ρ : Rs} (h : ab_ga3 o k2 f = some ρ) : ∃ r len a st, o = some (r, len, 3, k2, a, st) ∧ f r len = some ρ := by
  unfold ab_ga3 at h
  split at h
  · split at h
    · rename_i e
      subst e
      exact ⟨_, _, _, _, rfl, h⟩
    · cases h
  · cases h
theorem ab_gr_inv {o : Option (Nat × Nat × Nat × Nat × Nat × Nat)} {m : Mm} {q : Nat} {j : Int32} {f : AV → Option Rs} {ρ : Rs} (h : ab_gr o m q j f = some ρ) :
    ∃ r len t k' a st i v, o = some (r, len, t, k', a, st) ∧ ab_ix j len = some i ∧ f v = some ρ ∧ ((t = 3 ∧ v = .inr (.inr (k', m.2.2.1 r q i))) ∨ (t = 4 ∧ v = .inr (.inr (k', some (q + a + st * i))))) := by
  unfold ab_gr at h
  split at h
  · obtain ⟨i, h1, h2⟩ := Option.bind_eq_some_iff.mp h
    exact ⟨_, _, _, _, _, _, i, _, rfl, h1, h2, Or.inl ⟨rfl, rfl⟩⟩
  · obtain ⟨i, h1, h2⟩ := Option.bind_eq_some_iff.mp h
    exact ⟨_, _, _, _, _, _, i, _, rfl, h1, h2, Or.inr ⟨rfl, rfl⟩⟩
  · cases h
end
end
section
/-! One instruction of the small machine, and its row of the kit. -/
section
variable {p : Program} {l : Launch} {e : Env} {R : Room} {s : State} {m0 : MethodId} {args : Array Value} {below : List Frame} {meth : Method} {cd : Code} {Q : State → Prop} {cc : ByteArray}
variable {KT : List KS} {cl : List vw_C} {D : va_G} {sc : Option (Nat × (Nat → Int32))} {b : Nat} {A : Nat → Prop} {H0 : Heap} {ks0 : List Nat} {g0 h0 nL G Hs : Nat} {ad0 ac0 : Nat → Nat} {Ts : List Cond} {own : String}
def ab_W (p : Program) (l : Launch) (e : Env) (R : Room) (s : State) (m0 : MethodId) (args : Array Value) (below : List Frame) (meth : Method) (cd : Code) (Q : State → Prop) (KT : List KS) (cl : List vw_C) (D : va_G) (sc : Option (Nat × (Nat → Int32))) (b : Nat) (A : Nat → Prop) (H0 : Heap) (ks0 : List Nat) (g0 h0 nL G Hs : Nat) (ad0 ac0 : Nat → Nat) (c : Cf) : Prop :=
  ab_gc c.2.2.2 ≤ G ∧ ab_gs KT c.2.2.2 ≤ Hs ∧ ∀ (ad ac : Nat → Nat) (ls : Array Slot) (H : Heap) (locs : List Loc) (cells slots : Nat), ab_I KT cl D s A H0 ks0 ad0 ac0 g0 h0 ad ac c.2.2.2 H locs cells slots → ab_F sc b ad c.2.2.2.2.2.2.1 nL ls c.2.1 c.2.2.1 →
    W p l e R s m0 args below meth cd H locs cells slots Q (F0 m0 c.1 ls (c.2.2.1.map (ab_v ad b)))
theorem ab_t1 {P : AV → Prop} {x : AV} {S : List AV} (h : ∀ v ∈ x :: S, P v) : ∀ v ∈ S, P v := fun v hv => h v (List.mem_cons_of_mem _ hv)
theorem ab_h1 {P : AV → Prop} {x : AV} {S : List AV} (h : ∀ v ∈ x :: S, P v) : P x := h x List.mem_cons_self
theorem ab_c1 {P : AV → Prop} {x : AV} {S : List AV} (hx : P x) (h : ∀ v ∈ S, P v) : ∀ v ∈ x :: S, P v := List.forall_mem_cons.mpr ⟨hx, h⟩
theorem ab_vvi {ks : List Nat} {x : Int32} : ab_vv sc ks (.inl x) := trivial
theorem ab_vvl {ks : List Nat} {x : Int64} : ab_vv sc ks (.inr (.inl x)) := trivial
theorem ab_pure {pc pc' : Nat} {L : List (Option AV)} {S S' : List AV} {m : Mm} (w : ab_W p l e R s m0 args below meth cd Q KT cl D sc b A H0 ks0 g0 h0 nL G Hs ad0 ac0 (pc', L, S', m))
    (hv : (∀ (i : Nat) (v : AV), L[i]? = some (some v) → ab_vv sc m.2.2.2.1 v) → (∀ v ∈ S, ab_vv sc m.2.2.2.1 v) → ∀ v ∈ S', ab_vv sc m.2.2.2.1 v)
    (row : ∀ (ad : Nat → Nat) (ls : Array Slot) (H : Heap) (locs : List Loc) (cells slots : Nat), (∀ (i : Nat) (v : AV), L[i]? = some (some v) → ls[i]? = some (.val (ab_v ad b v))) →
      W p l e R s m0 args below meth cd H locs cells slots Q (F0 m0 pc' ls (S'.map (ab_v ad b))) → W p l e R s m0 args below meth cd H locs cells slots Q (F0 m0 pc ls (S.map (ab_v ad b)))) :
    ab_W p l e R s m0 args below meth cd Q KT cl D sc b A H0 ks0 g0 h0 nL G Hs ad0 ac0 (pc, L, S, m) :=
  ⟨w.1, w.2.1, fun ad ac ls H locs cells slots hI hF => row ad ls H locs cells slots (fun i v hi => ab_L_at hF.2.1 hi) (w.2.2 ad ac ls H locs cells slots hI ⟨hF.1, hF.2.1, hF.2.2.1, hv hF.2.2.1 hF.2.2.2⟩)⟩
theorem ab_sto {pc pc' a : Nat} {v : AV} {L : List (Option AV)} {S S' : List AV} {m : Mm} (w : ab_W p l e R s m0 args below meth cd Q KT cl D sc b A H0 ks0 g0 h0 nL G Hs ad0 ac0 (pc', ab_sl L a v, S', m))
    (hv : (∀ (i : Nat) (v : AV), L[i]? = some (some v) → ab_vv sc m.2.2.2.1 v) → (∀ v ∈ S, ab_vv sc m.2.2.2.1 v) → ab_vv sc m.2.2.2.1 v ∧ ∀ v ∈ S', ab_vv sc m.2.2.2.1 v)
    (row : ∀ (ad : Nat → Nat) (ls : Array Slot) (H : Heap) (locs : List Loc) (cells slots : Nat), lv_has ls nL (ab_al ad b L) → (∀ v ∈ S, ab_vv sc m.2.2.2.1 v) →
      (∀ ls' : Array Slot, lv_has ls' nL ((a, ab_v ad b v) :: (ab_al ad b L).filter (fun q => !(q.1 == a) && !(q.1 + 1 == a && q.2.category == 2))) → W p l e R s m0 args below meth cd H locs cells slots Q (F0 m0 pc' ls' (S'.map (ab_v ad b)))) →
      W p l e R s m0 args below meth cd H locs cells slots Q (F0 m0 pc ls (S.map (ab_v ad b)))) :
    ab_W p l e R s m0 args below meth cd Q KT cl D sc b A H0 ks0 g0 h0 nL G Hs ad0 ac0 (pc, L, S, m) := by
  refine ⟨w.1, w.2.1, fun ad ac ls H locs cells slots hI hF => row ad ls H locs cells slots hF.2.1 hF.2.2.2 fun ls' h' => w.2.2 ad ac ls' H locs cells slots hI ⟨?_, ab_L_of h' ?_, ?_, (hv hF.2.2.1 hF.2.2.2).2⟩⟩
  · show (ab_sl L a v).length = nL
    rw [ab_sl_len]
    exact hF.1
  · intro i w hw
    rcases ab_sl_at hw with ⟨rfl, rfl⟩ | ⟨h1, h2, h3⟩
    · exact List.mem_cons_self
    · refine List.mem_cons_of_mem _ (List.mem_filter.mpr ⟨ab_mem_al.mpr ⟨w, h2, rfl⟩, ?_⟩)
      by_cases h4 : i + 1 = a
      · have h5 : (ab_v ad b w).category = 1 := ab_cat (h3 h4)
        simp [h1, h5]
      · simp [h1, h4]
  · intro i w hw
    rcases ab_sl_at hw with ⟨rfl, rfl⟩ | ⟨h1, h2, h3⟩
    · exact (hv hF.2.2.1 hF.2.2.2).1
    · exact hF.2.2.1 i w h2
theorem ab_sto2 {pc pc' a : Nat} {v : AV} {L : List (Option AV)} {S S' : List AV} {m : Mm} (w : ab_W p l e R s m0 args below meth cd Q KT cl D sc b A H0 ks0 g0 h0 nL G Hs ad0 ac0 (pc', ab_sl2 L a v, S', m))
    (hv : (∀ v ∈ S, ab_vv sc m.2.2.2.1 v) → ab_vv sc m.2.2.2.1 v ∧ ∀ v ∈ S', ab_vv sc m.2.2.2.1 v)
    (row : ∀ (ad : Nat → Nat) (ls : Array Slot) (H : Heap) (locs : List Loc) (cells slots : Nat), lv_has ls nL (ab_al ad b L) →
      (∀ ls' : Array Slot, lv_has ls' nL ((a, ab_v ad b v) :: (ab_al ad b L).filter (fun q => !(q.1 == a) && (!(q.1 == a + 1) && !(q.1 + 1 == a && q.2.category == 2)))) → W p l e R s m0 args below meth cd H locs cells slots Q (F0 m0 pc' ls' (S'.map (ab_v ad b)))) →
      W p l e R s m0 args below meth cd H locs cells slots Q (F0 m0 pc ls (S.map (ab_v ad b)))) :
    ab_W p l e R s m0 args below meth cd Q KT cl D sc b A H0 ks0 g0 h0 nL G Hs ad0 ac0 (pc, L, S, m) := by
  refine ⟨w.1, w.2.1, fun ad ac ls H locs cells slots hI hF => row ad ls H locs cells slots hF.2.1 fun ls' h' => w.2.2 ad ac ls' H locs cells slots hI ⟨?_, ab_L_of h' ?_, ?_, (hv hF.2.2.2).2⟩⟩
  · show (ab_sl2 L a v).length = nL
    rw [ab_sl2_len]
    exact hF.1
  · intro i w hw
    rcases ab_sl2_at hw with ⟨rfl, rfl⟩ | ⟨h1, h0, h2, h3⟩
    · exact List.mem_cons_self
    · refine List.mem_cons_of_mem _ (List.mem_filter.mpr ⟨ab_mem_al.mpr ⟨w, h2, rfl⟩, ?_⟩)
      by_cases h4 : i + 1 = a
      · have h5 : (ab_v ad b w).category = 1 := ab_cat (h3 h4)
        simp [h1, h0, h5]
      · simp [h1, h0, h4]
  · intro i w hw
    rcases ab_sl2_at hw with ⟨rfl, rfl⟩ | ⟨h1, h0, h2, h3⟩
    · exact (hv hF.2.2.2).1
    · exact hF.2.2.1 i w h2
theorem ab_ok_I {m : Mm} {r q j : Nat} {x : Int32} (h : ab_ok KT m) (hq : q < m.2.2.2.1.length) : ab_ok KT (ab_uI m r q j x) := by
  refine ⟨h.1, h.2.1, h.2.2.1, h.2.2.2.1, fun r' q' j' hl => ?_⟩
  have h1 := h.2.2.2.2 r' q' j' hl
  have hne : q' ≠ q := by
    have : m.2.2.2.1.length ≤ q' := hl
    omega
  refine ⟨?_, h1.2⟩
  show (if r' = r ∧ q' = q ∧ j' = j then x else m.1 r' q' j') = 0
  rw [if_neg (fun z => hne z.2.1)]
  exact h1.1
theorem ab_ok_J {m : Mm} {r q j : Nat} {x : Int64} (h : ab_ok KT m) (hq : q < m.2.2.2.1.length) : ab_ok KT (ab_uJ m r q j x) := by
  refine ⟨h.1, h.2.1, h.2.2.1, h.2.2.2.1, fun r' q' j' hl => ?_⟩
  have h1 := h.2.2.2.2 r' q' j' hl
  have hne : q' ≠ q := by
    have : m.2.2.2.1.length ≤ q' := hl
    omega
  refine ⟨h1.1, ?_, h1.2.2⟩
  show (if r' = r ∧ q' = q ∧ j' = j then x else m.2.1 r' q' j') = 0
  rw [if_neg (fun z => hne z.2.1)]
  exact h1.2.1
theorem ab_ok_R {m : Mm} {r q j k k2 q2 : Nat} (h : ab_ok KT m) (hk : m.2.2.2.1[q]? = some k) (hnd : ab_nd KT) (hk2 : k2 ≠ 0) (hq2 : m.2.2.2.1[q2]? = some k2)
    (hs : (∃ (ci : Nat) (fs : List (Nat × Nat × Nat × Nat)) (f d : Nat), KT[k]? = some (.inl (ci, fs)) ∧ fs[f]? = some (2, r, k2, d)) ∨ ∃ (len a st : Nat), KT[k]? = some (.inr (r, len, 3, k2, a, st))) : ab_ok KT (ab_uR m r q j (some q2)) := by
  have hq : q < m.2.2.2.1.length := (List.getElem?_eq_some_iff.mp hk).1
  have rd : ∀ r' q' j', (ab_uR m r q j (some q2)).2.2.1 r' q' j' = if r' = r ∧ q' = q ∧ j' = j then some q2 else m.2.2.1 r' q' j' := fun _ _ _ => rfl
  refine ⟨h.1, h.2.1, ?_, ?_, ?_⟩
  · intro q0 k0 ci f r0 k' d q' fs h1 h2 h3 h4
    rw [rd] at h4
    by_cases hc : r0 = r ∧ q0 = q ∧ 0 = j
    · rw [if_pos hc] at h4
      obtain ⟨rfl, rfl, -⟩ := hc
      cases h4
      have hkk : k0 = k := Option.some.inj (h1.symm.trans hk)
      subst hkk
      rcases hs with ⟨ci2, fs2, f2, d2, g1, g2⟩ | ⟨len, a, st, g1⟩
      · have e1 := Option.some.inj (h2.symm.trans g1)
        simp only [Sum.inl.injEq, Prod.mk.injEq] at e1
        obtain ⟨rfl, rfl⟩ := e1
        have e2 := hnd.1 _ _ _ _ _ _ _ _ _ _ _ _ h2 h3 g2
        subst e2
        have e3 := Option.some.inj (h3.symm.trans g2)
        simp only [Prod.mk.injEq] at e3
        obtain ⟨-, -, rfl, -⟩ := e3
        exact ⟨hk2, hq2⟩
      · have e1 := Option.some.inj (h2.symm.trans g1)
        cases e1
    · rw [if_neg hc] at h4
      exact h.2.2.1 q0 k0 ci f r0 k' d q' fs h1 h2 h3 h4
  · intro q0 k0 r0 len k' a st j0 q' h1 h2 h4
    rw [rd] at h4
    by_cases hc : r0 = r ∧ q0 = q ∧ j0 = j
    · rw [if_pos hc] at h4
      obtain ⟨rfl, rfl, -⟩ := hc
      cases h4
      have hkk : k0 = k := Option.some.inj (h1.symm.trans hk)
      subst hkk
      rcases hs with ⟨ci2, fs2, f2, d2, g1, g2⟩ | ⟨len2, a2, st2, g1⟩
      · have e1 := Option.some.inj (h2.symm.trans g1)
        cases e1
      · have e1 := Option.some.inj (h2.symm.trans g1)
        simp only [Sum.inr.injEq, Prod.mk.injEq] at e1
        obtain ⟨-, -, -, rfl, -, -⟩ := e1
        exact ⟨hk2, hq2⟩
    · rw [if_neg hc] at h4
      exact h.2.2.2.1 q0 k0 r0 len k' a st j0 q' h1 h2 h4
  · intro r' q' j' hl
    have h1 := h.2.2.2.2 r' q' j' hl
    have hne : q' ≠ q := by
      have : m.2.2.2.1.length ≤ q' := hl
      omega
    refine ⟨h1.1, h1.2.1, ?_⟩
    rw [rd, if_neg (fun z => hne z.2.1)]
    exact h1.2.2
theorem ab_K1 {ac : Nat → Nat} {ks : List Nat} {q k r len t k' a st : Nat} (hK0 : va_K D cl [] s) (h : ab_K KT cl ac ks s) (hk : ks[q]? = some k) (hKT : KT[k]? = some (.inr (r, len, t, k', a, st))) : va_K D cl [(ac q, ab_ty KT cl t k')] s := by
  refine ⟨hK0.1, fun i z hz => ?_⟩
  have hi : i < 1 := (List.getElem?_eq_some_iff.mp hz).1
  have : i = 0 := by omega
  subst this
  cases hz
  exact h q k r len t k' a st hk hKT
theorem ab_ref {ks : List Nat} {k q : Nat} (h : ab_vv sc ks (.inr (.inr (k, some q)))) (hk : k ≠ 0) : ks[q]? = some k := by
  have h1 : (if k = 0 then sc.isSome = true else ks[q]? = some k) := h
  rw [if_neg hk] at h1
  exact h1
theorem ab_vr {ad : Nat → Nat} {k q : Nat} (hk : k ≠ 0) : ab_v ad b (.inr (.inr (k, some q))) = .ref (ad q) := by
  show Value.ref (if k = 0 then b else ad q) = _
  rw [if_neg hk]
theorem ab_vrf {ad : Nat → Nat} {k : Nat} {o : Option Nat} (h : ∀ q, o = some q → k ≠ 0) : va_rf (o.map ad) = ab_v ad b (.inr (.inr (k, o))) := by
  cases o with
  | none => rfl
  | some q => rw [ab_vr (h q rfl)]; rfl
theorem ab_vvo {ks : List Nat} {k : Nat} {o : Option Nat} (h : ∀ q, o = some q → k ≠ 0 ∧ ks[q]? = some k) : ab_vv sc ks (.inr (.inr (k, o))) := by
  cases o with
  | none => trivial
  | some q =>
    obtain ⟨h1, h2⟩ := h q rfl
    show if k = 0 then sc.isSome = true else ks[q]? = some k
    rw [if_neg h1]
    exact h2
end
end
section
/-! The small machine's heap instructions. -/
section
variable {p : Program} {l : Launch} {e : Env} {R : Room} {s : State} {m0 : MethodId} {args : Array Value} {below : List Frame} {meth : Method} {cd : Code} {Q : State → Prop} {cc : ByteArray}
variable {KT : List KS} {cl : List vw_C} {D : va_G} {sc : Option (Nat × (Nat → Int32))} {b : Nat} {A : Nat → Prop} {H0 : Heap} {ks0 : List Nat} {g0 h0 nL G Hs : Nat} {ad0 ac0 : Nat → Nat} {Ts : List Cond} {own : String}
/-- what the words say of a field that an instruction names -/
def ab_fld (cl : List vw_C) (Ts : List Cond) (own : String) (idx ci f : Nat) : Prop := ∃ (C : String) (T : u_T) (N : Nat), cl[ci]? = some (C, T, N) ∧ f < N ∧ (∀ w ∈ u_ws C T N, w ∈ Ts) ∧ Cond.fieldLink own idx (T f).1 (T f).2.1 (T f).2.2.1 ∈ Ts
theorem ab_wobj {ad ac : Nat → Nat} {m : Mm} {q k ci : Nat} {fs : List (Nat × Nat × Nat × Nat)} (hk : m.2.2.2.1[q]? = some k) (hKT : KT[k]? = some (.inl (ci, fs))) : (ab_w KT ad ac m)[q]? = some (ad q, .inr (ci, fs.map (ab_fv ad m q))) := by
  rw [ab_w_at hk]
  simp [ab_ce, hKT]
theorem ab_warr {ad ac : Nat → Nat} {m : Mm} {q k r len t k' a st : Nat} (hk : m.2.2.2.1[q]? = some k) (hKT : KT[k]? = some (.inr (r, len, t, k', a, st))) : (ab_w KT ad ac m)[q]? = some (ad q, .inl (ac q, len, ab_av ad m q r len t a st)) := by
  rw [ab_w_at hk]
  simp [ab_ce, hKT]
theorem ab_getf (hx : p.tables.exec = Jvm.exec) (hb : cd.code = cc) (hts : ∀ w ∈ Ts, w.before args s = true) (hown : s.vm.findClass own = some m0.cls) (hK0 : va_K D cl [] s) (h00 : KT[0]? = some (.inr (0, 0, 9, 0, 0, 0)))
    {pc idx a f k q t r k' d : Nat} {v : AV} {L : List (Option AV)} {S : List AV} {m : Mm} (hdg : decode cc pc = .ok (.getfield idx, 3)) (hfl : ab_fld cl Ts own idx a f) (hfs : ab_fs KT a f k = some (t, r, k', d))
    (hv : ((t = 0 ∨ t = 1) ∧ v = .inl (m.1 r q 0)) ∨ (t = 2 ∧ v = .inr (.inr (k', m.2.2.1 r q 0))) ∨ (t = 3 ∧ v = .inr (.inr (k', some (q + d)))))
    (w : ab_W p l e R s m0 args below meth cd Q KT cl D sc b A H0 ks0 g0 h0 nL G Hs ad0 ac0 (pc + 3, L, v :: S, m)) :
    ab_W p l e R s m0 args below meth cd Q KT cl D sc b A H0 ks0 g0 h0 nL G Hs ad0 ac0 (pc, L, .inr (.inr (k, some q)) :: S, m) := by
  obtain ⟨fs, hKT, hf⟩ := ab_fs_inv hfs
  obtain ⟨C, T, N, hc, hlt, hin, hlink⟩ := hfl
  have hk0 : k ≠ 0 := fun z => by subst z; rw [h00] at hKT; cases hKT
  refine ⟨w.1, w.2.1, fun ad ac ls H locs cells slots hI hF => ?_⟩
  have hk : m.2.2.2.1[q]? = some k := ab_ref (ab_h1 hF.2.2.2) hk0
  have hok := hI.2.2.2.2.1
  show W p l e R s m0 args below meth cd H locs cells slots Q (F0 m0 pc ls (ab_v ad b (.inr (.inr (k, some q))) :: S.map (ab_v ad b)))
  rw [ab_vr hk0]
  have hvv : ab_vv sc m.2.2.2.1 v ∧ ab_fv ad m q (t, r, k', d) = ab_v ad b v := by
    rcases hv with ⟨h1 | h1, rfl⟩ | ⟨rfl, rfl⟩ | ⟨rfl, rfl⟩
    · subst h1; exact ⟨trivial, rfl⟩
    · subst h1; exact ⟨trivial, rfl⟩
    · exact ⟨ab_vvo fun q' hq' => hok.2.2.1 q k a f r k' d q' fs hk hKT hf hq', ab_vrf fun q' hq' => (hok.2.2.1 q k a f r k' d q' fs hk hKT hf hq').1⟩
    · have h2 := hok.1 q k a f r k' d fs hk hKT hf
      exact ⟨ab_vvo fun q' hq' => by cases hq'; exact h2, (ab_vr h2.1).symm⟩
  refine va_get (D := D) (cl := cl) (tys := []) hx hb hts hin hown hK0 hI.1 q (ab_wobj hk hKT) hc f hlt (hts _ hlink) (fun _ h => h) (v := ab_v ad b v) ?_ hdg ?_
  · rw [List.getElem?_map, hf, ← hvv.2]; rfl
  · exact w.2.2 ad ac ls H locs cells slots hI ⟨hF.1, hF.2.1, hF.2.2.1, ab_c1 hvv.1 (ab_t1 hF.2.2.2)⟩
/-- what the words say of a field that is written -/
def ab_fldp (cl : List vw_C) (Ts : List Cond) (own : String) (nm : String) (idx ci f : Nat) (ty : FieldType) : Prop := ∃ (C : String) (T : u_T) (N : Nat) (ty0 : Nat → FieldType), cl[ci]? = some (C, T, N) ∧ f < N ∧ (∀ w ∈ u_ws C T N, w ∈ Ts) ∧ Cond.fieldLink own idx (T f).1 (T f).2.1 (T f).2.2.1 ∈ Ts ∧
  (∀ k, k < N → parseFieldDescriptor (T k).2.2.1 = some (ty0 k)) ∧ (∀ a, a < N → ∀ b, b < N → a ≠ b → (T a).2.1 ≠ (T b).2.1) ∧ ty0 f = ty ∧ ((T f).2.2.2 = false ∨ ((T f).2.2.2 = true ∧ nm = "<init>" ∧ (T f).1 = own))
theorem ab_put0 (hx : p.tables.exec = Jvm.exec) (hb : cd.code = cc) (hts : ∀ w ∈ Ts, w.before args s = true) (hown : s.vm.findClass own = some m0.cls) (hK0 : va_K D cl [] s) (h00 : KT[0]? = some (.inr (0, 0, 9, 0, 0, 0)))
    {pc idx a f k q t r k' d : Nat} {v : AV} {ty : FieldType} {L : List (Option AV)} {S : List AV} {m m' : Mm} (hdg : decode cc pc = .ok (.putfield idx, 3)) (hfl : ab_fldp cl Ts own meth.name idx a f ty) (hfs : ab_fs KT a f k = some (t, r, k', d)) (hnd : ab_nd KT)
    (hv : ∀ ad : Nat → Nat, ab_vv sc m.2.2.2.1 v → narrow ty (ab_v ad b v) = ab_v ad b v ∧ fits ty (ab_v ad b v) = true ∧ ab_fv ad m' q (t, r, k', d) = ab_v ad b v)
    (ho : ∀ (ad : Nat → Nat) (t' r' k2 d2 : Nat), r' ≠ r → ab_fv ad m' q (t', r', k2, d2) = ab_fv ad m q (t', r', k2, d2)) (hks : m'.2.2.2 = m.2.2.2)
    (hce : ∀ (ad ac : Nat → Nat) (q' k' : Nat), q' ≠ q → ab_ce KT ad ac m' q' k' = ab_ce KT ad ac m q' k') (hok' : ab_ok KT m → m.2.2.2.1[q]? = some k → ab_vv sc m.2.2.2.1 v → ab_ok KT m')
    (w : ab_W p l e R s m0 args below meth cd Q KT cl D sc b A H0 ks0 g0 h0 nL G Hs ad0 ac0 (pc + 3, L, S, m')) :
    ab_W p l e R s m0 args below meth cd Q KT cl D sc b A H0 ks0 g0 h0 nL G Hs ad0 ac0 (pc, L, v :: .inr (.inr (k, some q)) :: S, m) := by
  obtain ⟨fs, hKT, hf⟩ := ab_fs_inv hfs
  obtain ⟨C, T, N, ty0, hc, hlt, hin, hlink, hty, hnm, hty1, hfin⟩ := hfl
  have hk0 : k ≠ 0 := fun z => by subst z; rw [h00] at hKT; cases hKT
  have egc : ab_gc m' = ab_gc m := by unfold ab_gc; rw [hks]
  have egs : ab_gs KT m' = ab_gs KT m := by unfold ab_gs; rw [hks]
  refine ⟨by rw [show ((pc, L, v :: .inr (.inr (k, some q)) :: S, m) : Cf).2.2.2 = m from rfl, ← egc]; exact w.1, by rw [show ((pc, L, v :: .inr (.inr (k, some q)) :: S, m) : Cf).2.2.2 = m from rfl, ← egs]; exact w.2.1, fun ad ac ls H locs cells slots hI hF => ?_⟩
  have hk : m.2.2.2.1[q]? = some k := ab_ref (ab_h1 (ab_t1 hF.2.2.2)) hk0
  have hvv := ab_h1 hF.2.2.2
  obtain ⟨hP, hD, hS, hKA, hok, hext, hn0, hce1, hcs1⟩ := hI
  obtain ⟨hn, hfit, hfv⟩ := hv ad hvv
  show W p l e R s m0 args below meth cd H locs cells slots Q (F0 m0 pc ls (ab_v ad b v :: ab_v ad b (.inr (.inr (k, some q))) :: S.map (ab_v ad b)))
  rw [ab_vr hk0]
  have hset : (ab_w KT ad ac m).set q (ad q, .inr (a, (fs.map (ab_fv ad m q)).set f (ab_v ad b v))) = ab_w KT ad ac m' := by
    refine ab_w_set hk (by rw [hks]) ?_ (fun q' k' h => hce ad ac q' k' h)
    rw [ab_fset hf hfv (fun f' t' k2 d2 h => hnd.1 _ _ _ _ _ _ _ _ _ _ _ _ hKT h hf) (fun t' r' k2 d2 h => ho ad t' r' k2 d2 h)]
    simp [ab_ce, hKT]
  have hl : f < (fs.map (ab_fv ad m q)).length := by rw [List.length_map]; exact (List.getElem?_eq_some_iff.mp hf).1
  have kk : ∀ (H1 : Heap) (locs1 : List Loc), va_P D cl ((ab_w KT ad ac m).set q (ad q, .inr (a, (fs.map (ab_fv ad m q)).set f (ab_v ad b v)))) H1 → va_D A ((ab_w KT ad ac m).set q (ad q, .inr (a, (fs.map (ab_fv ad m q)).set f (ab_v ad b v)))) → va_S A H0 H1 locs1 → W p l e R s m0 args below meth cd H1 locs1 cells slots Q (F0 m0 (pc + 3) ls (S.map (ab_v ad b))) := by
    intro H1 locs1 hP1 hD1 hS1
    rw [hset] at hP1 hD1
    refine w.2.2 ad ac ls H1 locs1 cells slots ⟨hP1, hD1, hS1, ?_, hok' hok hk hvv, hext, ?_, ?_, ?_⟩ ⟨hF.1, hF.2.1, ?_, ?_⟩
    · show ab_K KT cl ac m'.2.2.2.1 s
      rw [hks]; exact hKA
    · show ∀ (i k : Nat), ks0[i]? = some k → m'.2.2.2.1[i]? = some k
      rw [hks]; exact hn0
    · exact hce1.trans egc.symm
    · exact hcs1.trans egs.symm
    · show ∀ (i : Nat) (v : AV), L[i]? = some (some v) → ab_vv sc m'.2.2.2.1 v
      rw [hks]; exact hF.2.2.1
    · show ∀ v ∈ S, ab_vv sc m'.2.2.2.1 v
      rw [hks]; exact ab_t1 (ab_t1 hF.2.2.2)
  rcases hfin with hfin | ⟨hfin, hin2, hdecl⟩
  · exact va_put (D := D) (cl := cl) (tys := []) hx hb hts hin ty0 hty hnm hown hK0 hP hD hS q (ab_wobj hk hKT) hc f hlt (hts _ hlink) (fun _ h => h) hfin (by rw [hty f hlt, hty1]) hn hfit hl hdg kk
  · exact va_putF (D := D) (cl := cl) (tys := []) hx hb hts hin ty0 hty hnm hown hK0 hP hD hS q (ab_wobj hk hKT) hc f hlt (hts _ hlink) (fun _ h => h) hfin hin2 hdecl (by rw [hty f hlt, hty1]) hn hfit hl hdg kk
theorem ab_putI (hx : p.tables.exec = Jvm.exec) (hb : cd.code = cc) (hts : ∀ w ∈ Ts, w.before args s = true) (hown : s.vm.findClass own = some m0.cls) (hK0 : va_K D cl [] s) (h00 : KT[0]? = some (.inr (0, 0, 9, 0, 0, 0))) (hnd : ab_nd KT)
    {pc idx a f k q t r k' d : Nat} {v : Int32} {ty : FieldType} {L : List (Option AV)} {S : List AV} {m : Mm} (hdg : decode cc pc = .ok (.putfield idx, 3)) (hfl : ab_fldp cl Ts own meth.name idx a f ty) (hfs : ab_fs KT a f k = some (t, r, k', d))
    (hty : (t = 0 → ty = .int) ∧ (t = 1 → ty = .boolean)) (hv : t = 0 ∨ (t = 1 ∧ (v = 0 ∨ v = 1)))
    (w : ab_W p l e R s m0 args below meth cd Q KT cl D sc b A H0 ks0 g0 h0 nL G Hs ad0 ac0 (pc + 3, L, S, ab_uI m r q 0 v)) :
    ab_W p l e R s m0 args below meth cd Q KT cl D sc b A H0 ks0 g0 h0 nL G Hs ad0 ac0 (pc, L, .inl v :: .inr (.inr (k, some q)) :: S, m) := by
  have hrd : (ab_uI m r q 0 v).1 r q 0 = v := by simp [ab_uI]
  refine ab_put0 (m' := ab_uI m r q 0 v) hx hb hts hown hK0 h00 hdg hfl hfs hnd ?_ ?_ rfl (fun ad ac q' k' h => ab_ce_I q' k' h) (fun h hk _ => ab_ok_I h (List.getElem?_eq_some_iff.mp hk).1) w
  · intro ad _
    rcases hv with rfl | ⟨rfl, hv⟩
    · have := hty.1 rfl
      subst this
      refine ⟨rfl, rfl, ?_⟩
      show Value.int ((ab_uI m r q 0 v).1 r q 0) = .int v
      rw [hrd]
    · have := hty.2 rfl
      subst this
      have h2 : Value.int ((ab_uI m r q 0 v).1 r q 0) = .int v := by rw [hrd]
      rcases hv with rfl | rfl
      · exact ⟨show narrow .boolean (.int 0) = .int 0 by decide +kernel, show fits .boolean (.int 0) = true by decide +kernel, h2⟩
      · exact ⟨show narrow .boolean (.int 1) = .int 1 by decide +kernel, show fits .boolean (.int 1) = true by decide +kernel, h2⟩
  · intro ad t' r' k2 d2 h
    have e1 : (ab_uI m r q 0 v).1 r' q 0 = m.1 r' q 0 := by simp [ab_uI, h]
    unfold ab_fv
    split <;> first | rfl | (rename_i heq; simp only [Prod.mk.injEq] at heq; obtain ⟨-, rfl, -, -⟩ := heq; rw [e1]) | (rename_i heq; simp only [Prod.mk.injEq] at heq; obtain ⟨-, rfl, -, -⟩ := heq; rfl)
theorem ab_putR (hx : p.tables.exec = Jvm.exec) (hb : cd.code = cc) (hts : ∀ w ∈ Ts, w.before args s = true) (hown : s.vm.findClass own = some m0.cls) (hK0 : va_K D cl [] s) (h00 : KT[0]? = some (.inr (0, 0, 9, 0, 0, 0))) (hnd : ab_nd KT)
    {pc idx a f k q r k2 q2 d : Nat} {ty : FieldType} {L : List (Option AV)} {S : List AV} {m : Mm} (hdg : decode cc pc = .ok (.putfield idx, 3)) (hfl : ab_fldp cl Ts own meth.name idx a f ty) (hfs : ab_fs KT a f k = some (2, r, k2, d))
    (hty : (∃ n, ty = .object n) ∨ ∃ t, ty = .array t) (hk2 : k2 ≠ 0)
    (w : ab_W p l e R s m0 args below meth cd Q KT cl D sc b A H0 ks0 g0 h0 nL G Hs ad0 ac0 (pc + 3, L, S, ab_uR m r q 0 (some q2))) :
    ab_W p l e R s m0 args below meth cd Q KT cl D sc b A H0 ks0 g0 h0 nL G Hs ad0 ac0 (pc, L, .inr (.inr (k2, some q2)) :: .inr (.inr (k, some q)) :: S, m) := by
  obtain ⟨fs, hKT, hf⟩ := ab_fs_inv hfs
  have hrd : (ab_uR m r q 0 (some q2)).2.2.1 r q 0 = some q2 := by simp [ab_uR]
  refine ab_put0 (m' := ab_uR m r q 0 (some q2)) hx hb hts hown hK0 h00 hdg hfl hfs hnd ?_ ?_ rfl (fun ad ac q' k' h => ab_ce_R q' k' h) (fun h hk hvv => ab_ok_R h hk hnd hk2 (ab_ref hvv hk2) (Or.inl ⟨a, fs, f, d, hKT, hf⟩)) w
  · intro ad _
    rw [ab_vr hk2]
    refine ⟨?_, ?_, ?_⟩
    · rcases hty with ⟨n, rfl⟩ | ⟨t, rfl⟩ <;> rfl
    · rcases hty with ⟨n, rfl⟩ | ⟨t, rfl⟩ <;> rfl
    · show va_rf (((ab_uR m r q 0 (some q2)).2.2.1 r q 0).map ad) = _
      rw [hrd]
      rfl
  · intro ad t' r' k2' d2 h
    have e1 : (ab_uR m r q 0 (some q2)).2.2.1 r' q 0 = m.2.2.1 r' q 0 := by simp [ab_uR, h]
    unfold ab_fv
    split <;> first | rfl | (rename_i heq; simp only [Prod.mk.injEq] at heq; obtain ⟨-, rfl, -, -⟩ := heq; rw [e1]) | (rename_i heq; simp only [Prod.mk.injEq] at heq; obtain ⟨-, rfl, -, -⟩ := heq; rfl)
theorem ab_iald (hx : p.tables.exec = Jvm.exec) (hb : cd.code = cc) (hK0 : va_K D cl [] s)
    {pc k q r len k' a st i : Nat} {j : Int32} {L : List (Option AV)} {S : List AV} {m : Mm} (hdg : decode cc pc = .ok (.iaload, 1)) (hk0 : k ≠ 0) (has : KT[k]? = some (.inr (r, len, 0, k', a, st))) (hi : ab_ix j len = some i)
    (w : ab_W p l e R s m0 args below meth cd Q KT cl D sc b A H0 ks0 g0 h0 nL G Hs ad0 ac0 (pc + 1, L, .inl (m.1 r q i) :: S, m)) :
    ab_W p l e R s m0 args below meth cd Q KT cl D sc b A H0 ks0 g0 h0 nL G Hs ad0 ac0 (pc, L, .inl j :: .inr (.inr (k, some q)) :: S, m) := by
  obtain ⟨hin, rfl⟩ := ab_ix_in hi
  refine ⟨w.1, w.2.1, fun ad ac ls H locs cells slots hI hF => ?_⟩
  have hk : m.2.2.2.1[q]? = some k := ab_ref (ab_h1 (ab_t1 hF.2.2.2)) hk0
  show W p l e R s m0 args below meth cd H locs cells slots Q (F0 m0 pc ls (.int j :: ab_v ad b (.inr (.inr (k, some q))) :: S.map (ab_v ad b)))
  rw [ab_vr hk0]
  exact va_iald (D := D) hx hb (ab_K1 hK0 hI.2.2.2.1 hk has) hI.1 q 0 (ab_warr hk has) rfl hin hdg (w.2.2 ad ac ls H locs cells slots hI ⟨hF.1, hF.2.1, hF.2.2.1, ab_c1 trivial (ab_t1 (ab_t1 hF.2.2.2))⟩)
theorem ab_zald (hx : p.tables.exec = Jvm.exec) (hb : cd.code = cc) (hK0 : va_K D cl [] s)
    {pc k q r len k' a st i : Nat} {j : Int32} {L : List (Option AV)} {S : List AV} {m : Mm} (hdg : decode cc pc = .ok (.baload, 1)) (hk0 : k ≠ 0) (has : KT[k]? = some (.inr (r, len, 1, k', a, st))) (hi : ab_ix j len = some i)
    (w : ab_W p l e R s m0 args below meth cd Q KT cl D sc b A H0 ks0 g0 h0 nL G Hs ad0 ac0 (pc + 1, L, .inl (m.1 r q i) :: S, m)) :
    ab_W p l e R s m0 args below meth cd Q KT cl D sc b A H0 ks0 g0 h0 nL G Hs ad0 ac0 (pc, L, .inl j :: .inr (.inr (k, some q)) :: S, m) := by
  obtain ⟨hin, rfl⟩ := ab_ix_in hi
  refine ⟨w.1, w.2.1, fun ad ac ls H locs cells slots hI hF => ?_⟩
  have hk : m.2.2.2.1[q]? = some k := ab_ref (ab_h1 (ab_t1 hF.2.2.2)) hk0
  show W p l e R s m0 args below meth cd H locs cells slots Q (F0 m0 pc ls (.int j :: ab_v ad b (.inr (.inr (k, some q))) :: S.map (ab_v ad b)))
  rw [ab_vr hk0]
  exact va_zald (D := D) hx hb (ab_K1 hK0 hI.2.2.2.1 hk has) hI.1 q 0 (ab_warr hk has) rfl hin hdg (w.2.2 ad ac ls H locs cells slots hI ⟨hF.1, hF.2.1, hF.2.2.1, ab_c1 trivial (ab_t1 (ab_t1 hF.2.2.2))⟩)
theorem ab_lald (hx : p.tables.exec = Jvm.exec) (hb : cd.code = cc) (hK0 : va_K D cl [] s)
    {pc k q r len k' a st i : Nat} {j : Int32} {L : List (Option AV)} {S : List AV} {m : Mm} (hdg : decode cc pc = .ok (.laload, 1)) (hk0 : k ≠ 0) (has : KT[k]? = some (.inr (r, len, 2, k', a, st))) (hi : ab_ix j len = some i)
    (w : ab_W p l e R s m0 args below meth cd Q KT cl D sc b A H0 ks0 g0 h0 nL G Hs ad0 ac0 (pc + 1, L, .inr (.inl (m.2.1 r q i)) :: S, m)) :
    ab_W p l e R s m0 args below meth cd Q KT cl D sc b A H0 ks0 g0 h0 nL G Hs ad0 ac0 (pc, L, .inl j :: .inr (.inr (k, some q)) :: S, m) := by
  obtain ⟨hin, rfl⟩ := ab_ix_in hi
  refine ⟨w.1, w.2.1, fun ad ac ls H locs cells slots hI hF => ?_⟩
  have hk : m.2.2.2.1[q]? = some k := ab_ref (ab_h1 (ab_t1 hF.2.2.2)) hk0
  show W p l e R s m0 args below meth cd H locs cells slots Q (F0 m0 pc ls (.int j :: ab_v ad b (.inr (.inr (k, some q))) :: S.map (ab_v ad b)))
  rw [ab_vr hk0]
  exact va_lald (D := D) hx hb (ab_K1 hK0 hI.2.2.2.1 hk has) hI.1 q 0 (ab_warr hk has) rfl hin hdg (w.2.2 ad ac ls H locs cells slots hI ⟨hF.1, hF.2.1, hF.2.2.1, ab_c1 trivial (ab_t1 (ab_t1 hF.2.2.2))⟩)
theorem ab_aald (hx : p.tables.exec = Jvm.exec) (hb : cd.code = cc) (hK0 : va_K D cl [] s)
    {pc k q r len t k' a st i : Nat} {j : Int32} {v : AV} {L : List (Option AV)} {S : List AV} {m : Mm} (hdg : decode cc pc = .ok (.aaload, 1)) (hk0 : k ≠ 0) (has : KT[k]? = some (.inr (r, len, t, k', a, st))) (hi : ab_ix j len = some i)
    (hv : (t = 3 ∧ v = .inr (.inr (k', m.2.2.1 r q i))) ∨ (t = 4 ∧ v = .inr (.inr (k', some (q + a + st * i)))))
    (w : ab_W p l e R s m0 args below meth cd Q KT cl D sc b A H0 ks0 g0 h0 nL G Hs ad0 ac0 (pc + 1, L, v :: S, m)) :
    ab_W p l e R s m0 args below meth cd Q KT cl D sc b A H0 ks0 g0 h0 nL G Hs ad0 ac0 (pc, L, .inl j :: .inr (.inr (k, some q)) :: S, m) := by
  obtain ⟨hin, rfl⟩ := ab_ix_in hi
  have hlt : j.toNatClampNeg < len := Nat.not_le.mp fun q => hin (Or.inr q)
  refine ⟨w.1, w.2.1, fun ad ac ls H locs cells slots hI hF => ?_⟩
  have hk : m.2.2.2.1[q]? = some k := ab_ref (ab_h1 (ab_t1 hF.2.2.2)) hk0
  have hok := hI.2.2.2.2.1
  show W p l e R s m0 args below meth cd H locs cells slots Q (F0 m0 pc ls (.int j :: ab_v ad b (.inr (.inr (k, some q))) :: S.map (ab_v ad b)))
  rw [ab_vr hk0]
  rcases hv with ⟨rfl, rfl⟩ | ⟨rfl, rfl⟩
  · have h4 := fun q' hq' => hok.2.2.2.1 q k r len k' a st j.toNatClampNeg q' hk has hq'
    refine va_aldq (D := D) (C := ab_cn KT cl k') hx hb (ab_K1 hK0 hI.2.2.2.1 hk has) hI.1 q 0 (ab_warr hk has) rfl hin hdg ?_
    show W p l e R s m0 args below meth cd H locs cells slots _ (F0 m0 (pc + 1) ls (va_rf ((m.2.2.1 r q j.toNatClampNeg).map ad) :: S.map (ab_v ad b)))
    rw [ab_vrf (b := b) (k := k') (fun q' hq' => (h4 q' hq').1)]
    exact w.2.2 ad ac ls H locs cells slots hI ⟨hF.1, hF.2.1, hF.2.2.1, ab_c1 (ab_vvo h4) (ab_t1 (ab_t1 hF.2.2.2))⟩
  · have h4 := hok.2.1 q k r len k' a st j.toNatClampNeg hk has hlt
    refine va_aldq (D := D) (C := ab_cn KT cl k') hx hb (ab_K1 hK0 hI.2.2.2.1 hk has) hI.1 q 0 (ab_warr hk has) rfl hin hdg ?_
    show W p l e R s m0 args below meth cd H locs cells slots _ (F0 m0 (pc + 1) ls (va_rf (if j.toNatClampNeg < len then some (ad (q + a + st * j.toNatClampNeg)) else none) :: S.map (ab_v ad b)))
    rw [if_pos hlt]
    have := w.2.2 ad ac ls H locs cells slots hI ⟨hF.1, hF.2.1, hF.2.2.1, ab_c1 (ab_vvo fun q' hq' => by cases hq'; exact h4) (ab_t1 (ab_t1 hF.2.2.2))⟩
    rw [show List.map (ab_v ad b) (pc + 1, L, Sum.inr (Sum.inr (k', some (q + a + st * j.toNatClampNeg))) :: S, m).2.2.1 = ab_v ad b (.inr (.inr (k', some (q + a + st * j.toNatClampNeg)))) :: S.map (ab_v ad b) from rfl, ab_vr h4.1] at this
    exact this
theorem ab_sld (hx : p.tables.exec = Jvm.exec) (hb : cd.code = cc) {z : Nat × (Nat → Int32)} (hsc : va_X b z.1 z.2 s H0 ∧ b < H0.size ∧ ¬ A b)
    {pc i : Nat} {o : Option Nat} {j : Int32} {L : List (Option AV)} {S : List AV} {m : Mm} (hdg : decode cc pc = .ok (.iaload, 1)) (hi : ab_ix j z.1 = some i) (ho : o ≠ none)
    (w : ab_W p l e R s m0 args below meth cd Q KT cl D sc b A H0 ks0 g0 h0 nL G Hs ad0 ac0 (pc + 1, L, .inl (z.2 i) :: S, m)) :
    ab_W p l e R s m0 args below meth cd Q KT cl D sc b A H0 ks0 g0 h0 nL G Hs ad0 ac0 (pc, L, .inl j :: .inr (.inr (0, o)) :: S, m) := by
  obtain ⟨hin, rfl⟩ := ab_ix_in hi
  refine ⟨w.1, w.2.1, fun ad ac ls H locs cells slots hI hF => ?_⟩
  cases o with
  | none => exact absurd rfl ho
  | some q =>
    show W p l e R s m0 args below meth cd H locs cells slots Q (F0 m0 pc ls (.int j :: .ref b :: S.map (ab_v ad b)))
    exact va_sld hx hb hsc.1 hsc.2.1 hsc.2.2 hI.2.2.1 hin hdg (w.2.2 ad ac ls H locs cells slots hI ⟨hF.1, hF.2.1, hF.2.2.1, ab_c1 trivial (ab_t1 (ab_t1 hF.2.2.2))⟩)
theorem ab_slen (hx : p.tables.exec = Jvm.exec) (hb : cd.code = cc) {z : Nat × (Nat → Int32)} (hsc : va_X b z.1 z.2 s H0 ∧ b < H0.size ∧ ¬ A b)
    {pc : Nat} {o : Option Nat} {L : List (Option AV)} {S : List AV} {m : Mm} (hdg : decode cc pc = .ok (.arraylength, 1)) (ho : o ≠ none)
    (w : ab_W p l e R s m0 args below meth cd Q KT cl D sc b A H0 ks0 g0 h0 nL G Hs ad0 ac0 (pc + 1, L, .inl (Int32.ofNat z.1) :: S, m)) :
    ab_W p l e R s m0 args below meth cd Q KT cl D sc b A H0 ks0 g0 h0 nL G Hs ad0 ac0 (pc, L, .inr (.inr (0, o)) :: S, m) := by
  refine ⟨w.1, w.2.1, fun ad ac ls H locs cells slots hI hF => ?_⟩
  cases o with
  | none => exact absurd rfl ho
  | some q =>
    show W p l e R s m0 args below meth cd H locs cells slots Q (F0 m0 pc ls (.ref b :: S.map (ab_v ad b)))
    exact va_slen hx hb hsc.1 hsc.2.1 hsc.2.2 hI.2.2.1 hdg (w.2.2 ad ac ls H locs cells slots hI ⟨hF.1, hF.2.1, hF.2.2.1, ab_c1 trivial (ab_t1 hF.2.2.2)⟩)
theorem ab_alen (hx : p.tables.exec = Jvm.exec) (hb : cd.code = cc) (hK0 : va_K D cl [] s)
    {pc k q : Nat} {z : Nat × Nat × Nat × Nat × Nat × Nat} {L : List (Option AV)} {S : List AV} {m : Mm} (hdg : decode cc pc = .ok (.arraylength, 1)) (hk0 : k ≠ 0) (has : KT[k]? = some (.inr z))
    (w : ab_W p l e R s m0 args below meth cd Q KT cl D sc b A H0 ks0 g0 h0 nL G Hs ad0 ac0 (pc + 1, L, .inl (Int32.ofNat z.2.1) :: S, m)) :
    ab_W p l e R s m0 args below meth cd Q KT cl D sc b A H0 ks0 g0 h0 nL G Hs ad0 ac0 (pc, L, .inr (.inr (k, some q)) :: S, m) := by
  obtain ⟨r, len, t, k', a, st⟩ := z
  refine ⟨w.1, w.2.1, fun ad ac ls H locs cells slots hI hF => ?_⟩
  have hk : m.2.2.2.1[q]? = some k := ab_ref (ab_h1 hF.2.2.2) hk0
  show W p l e R s m0 args below meth cd H locs cells slots Q (F0 m0 pc ls (ab_v ad b (.inr (.inr (k, some q))) :: S.map (ab_v ad b)))
  rw [ab_vr hk0]
  exact va_alen (D := D) hx hb (ab_K1 hK0 hI.2.2.2.1 hk has) hI.1 q 0 (ab_warr hk has) rfl rfl hdg (w.2.2 ad ac ls H locs cells slots hI ⟨hF.1, hF.2.1, hF.2.2.1, ab_c1 trivial (ab_t1 hF.2.2.2)⟩)
end
end
section
/-! The small machine's stores in arrays, new cells, ends. -/
section
variable {p : Program} {l : Launch} {e : Env} {R : Room} {s : State} {m0 : MethodId} {args : Array Value} {below : List Frame} {meth : Method} {cd : Code} {Q : State → Prop} {cc : ByteArray}
variable {KT : List KS} {cl : List vw_C} {D : va_G} {sc : Option (Nat × (Nat → Int32))} {b : Nat} {A : Nat → Prop} {H0 : Heap} {ks0 : List Nat} {g0 h0 nL G Hs : Nat} {ad0 ac0 : Nat → Nat} {Ts : List Cond} {own : String}
theorem ab_after {pc' : Nat} {ad ac : Nat → Nat} {ls : Array Slot} {H H1 : Heap} {locs locs1 : List Loc} {cells slots : Nat} {L : List (Option AV)} {S S' : List AV} {m m' : Mm} (hks : m'.2.2.2 = m.2.2.2) (hok' : ab_ok KT m')
    (hI : ab_I KT cl D s A H0 ks0 ad0 ac0 g0 h0 ad ac m H locs cells slots) (hF : ab_F sc b ad m.2.2.2.1 nL ls L S) (w : ab_W p l e R s m0 args below meth cd Q KT cl D sc b A H0 ks0 g0 h0 nL G Hs ad0 ac0 (pc', L, S', m')) (hS' : ∀ v ∈ S', v ∈ S)
    (hP1 : va_P D cl (ab_w KT ad ac m') H1) (hD1 : va_D A (ab_w KT ad ac m')) (hS1 : va_S A H0 H1 locs1) : W p l e R s m0 args below meth cd H1 locs1 cells slots Q (F0 m0 pc' ls (S'.map (ab_v ad b))) := by
  obtain ⟨hP, hD, hS, hKA, hok, hext, hn0, hce1, hcs1⟩ := hI
  have egc : ab_gc m' = ab_gc m := by unfold ab_gc; rw [hks]
  have egs : ab_gs KT m' = ab_gs KT m := by unfold ab_gs; rw [hks]
  refine w.2.2 ad ac ls H1 locs1 cells slots ⟨hP1, hD1, hS1, ?_, hok', hext, ?_, ?_, ?_⟩ ⟨hF.1, hF.2.1, ?_, ?_⟩
  · show ab_K KT cl ac m'.2.2.2.1 s
    rw [hks]; exact hKA
  · show ∀ (i k : Nat), ks0[i]? = some k → m'.2.2.2.1[i]? = some k
    rw [hks]; exact hn0
  · exact hce1.trans egc.symm
  · exact hcs1.trans egs.symm
  · show ∀ (i : Nat) (v : AV), L[i]? = some (some v) → ab_vv sc m'.2.2.2.1 v
    rw [hks]; exact hF.2.2.1
  · show ∀ v ∈ S', ab_vv sc m'.2.2.2.1 v
    rw [hks]; exact fun v hv => hF.2.2.2 v (hS' v hv)
theorem ab_iast (hx : p.tables.exec = Jvm.exec) (hb : cd.code = cc) (hK0 : va_K D cl [] s)
    {pc k q r len k' a st i : Nat} {j v : Int32} {L : List (Option AV)} {S : List AV} {m : Mm} (hdg : decode cc pc = .ok (.iastore, 1)) (hk0 : k ≠ 0) (has : KT[k]? = some (.inr (r, len, 0, k', a, st))) (hi : ab_ix j len = some i)
    (w : ab_W p l e R s m0 args below meth cd Q KT cl D sc b A H0 ks0 g0 h0 nL G Hs ad0 ac0 (pc + 1, L, S, ab_uI m r q i v)) :
    ab_W p l e R s m0 args below meth cd Q KT cl D sc b A H0 ks0 g0 h0 nL G Hs ad0 ac0 (pc, L, .inl v :: .inl j :: .inr (.inr (k, some q)) :: S, m) := by
  obtain ⟨hin, rfl⟩ := ab_ix_in hi
  refine ⟨w.1, w.2.1, fun ad ac ls H locs cells slots hI hF => ?_⟩
  have hk : m.2.2.2.1[q]? = some k := ab_ref (ab_h1 (ab_t1 (ab_t1 hF.2.2.2))) hk0
  show W p l e R s m0 args below meth cd H locs cells slots Q (F0 m0 pc ls (.int v :: .int j :: ab_v ad b (.inr (.inr (k, some q))) :: S.map (ab_v ad b)))
  rw [ab_vr hk0]
  have hset : (ab_w KT ad ac m).set q (ad q, .inl (ac q, len, .inl (upd (m.1 r q) j.toNatClampNeg v))) = ab_w KT ad ac (ab_uI m r q j.toNatClampNeg v) := by
    refine ab_w_set (m := m) (m' := ab_uI m r q j.toNatClampNeg v) hk rfl ?_ (fun q' k' h => ab_ce_I q' k' h)
    have e1 : upd (m.1 r q) j.toNatClampNeg v = (ab_uI m r q j.toNatClampNeg v).1 r q := by
      funext j'
      simp [upd, ab_uI]
    rw [e1]
    simp [ab_ce, has, ab_av]
  refine va_iast (D := D) hx hb (ab_K1 hK0 hI.2.2.2.1 hk has) hI.1 hI.2.1 hI.2.2.1 q 0 (ab_warr hk has) rfl hin hdg fun H1 locs1 hP1 hD1 hS1 => ?_
  rw [hset] at hP1 hD1
  exact ab_after (m := m) (m' := ab_uI m r q j.toNatClampNeg v) rfl (ab_ok_I hI.2.2.2.2.1 (List.getElem?_eq_some_iff.mp hk).1) hI hF w (fun v hv => by simp [hv]) hP1 hD1 hS1
theorem ab_zast (hx : p.tables.exec = Jvm.exec) (hb : cd.code = cc) (hK0 : va_K D cl [] s)
    {pc k q r len k' a st i : Nat} {j v : Int32} {L : List (Option AV)} {S : List AV} {m : Mm} (hdg : decode cc pc = .ok (.bastore, 1)) (hk0 : k ≠ 0) (has : KT[k]? = some (.inr (r, len, 1, k', a, st))) (hi : ab_ix j len = some i) (hv : v = 0 ∨ v = 1)
    (w : ab_W p l e R s m0 args below meth cd Q KT cl D sc b A H0 ks0 g0 h0 nL G Hs ad0 ac0 (pc + 1, L, S, ab_uI m r q i v)) :
    ab_W p l e R s m0 args below meth cd Q KT cl D sc b A H0 ks0 g0 h0 nL G Hs ad0 ac0 (pc, L, .inl v :: .inl j :: .inr (.inr (k, some q)) :: S, m) := by
  obtain ⟨hin, rfl⟩ := ab_ix_in hi
  refine ⟨w.1, w.2.1, fun ad ac ls H locs cells slots hI hF => ?_⟩
  have hk : m.2.2.2.1[q]? = some k := ab_ref (ab_h1 (ab_t1 (ab_t1 hF.2.2.2))) hk0
  show W p l e R s m0 args below meth cd H locs cells slots Q (F0 m0 pc ls (.int v :: .int j :: ab_v ad b (.inr (.inr (k, some q))) :: S.map (ab_v ad b)))
  rw [ab_vr hk0]
  have hnv : vp_nar .boolean v = v := by rcases hv with rfl | rfl <;> decide +kernel
  have hset : (ab_w KT ad ac m).set q (ad q, .inl (ac q, len, .inl (upd (m.1 r q) j.toNatClampNeg (vp_nar .boolean v)))) = ab_w KT ad ac (ab_uI m r q j.toNatClampNeg v) := by
    refine ab_w_set (m := m) (m' := ab_uI m r q j.toNatClampNeg v) hk rfl ?_ (fun q' k' h => ab_ce_I q' k' h)
    have e1 : upd (m.1 r q) j.toNatClampNeg (vp_nar .boolean v) = (ab_uI m r q j.toNatClampNeg v).1 r q := by
      funext j'
      rw [hnv]
      simp [upd, ab_uI]
    rw [e1]
    simp [ab_ce, has, ab_av]
  refine va_zast (D := D) hx hb (ab_K1 hK0 hI.2.2.2.1 hk has) hI.1 hI.2.1 hI.2.2.1 q 0 (ab_warr hk has) rfl hin hdg fun H1 locs1 hP1 hD1 hS1 => ?_
  rw [hset] at hP1 hD1
  exact ab_after (m := m) (m' := ab_uI m r q j.toNatClampNeg v) rfl (ab_ok_I hI.2.2.2.2.1 (List.getElem?_eq_some_iff.mp hk).1) hI hF w (fun v hv => by simp [hv]) hP1 hD1 hS1
theorem ab_last (hx : p.tables.exec = Jvm.exec) (hb : cd.code = cc) (hK0 : va_K D cl [] s)
    {pc k q r len k' a st i : Nat} {j : Int32} {v : Int64} {L : List (Option AV)} {S : List AV} {m : Mm} (hdg : decode cc pc = .ok (.lastore, 1)) (hk0 : k ≠ 0) (has : KT[k]? = some (.inr (r, len, 2, k', a, st))) (hi : ab_ix j len = some i)
    (w : ab_W p l e R s m0 args below meth cd Q KT cl D sc b A H0 ks0 g0 h0 nL G Hs ad0 ac0 (pc + 1, L, S, ab_uJ m r q i v)) :
    ab_W p l e R s m0 args below meth cd Q KT cl D sc b A H0 ks0 g0 h0 nL G Hs ad0 ac0 (pc, L, .inr (.inl v) :: .inl j :: .inr (.inr (k, some q)) :: S, m) := by
  obtain ⟨hin, rfl⟩ := ab_ix_in hi
  refine ⟨w.1, w.2.1, fun ad ac ls H locs cells slots hI hF => ?_⟩
  have hk : m.2.2.2.1[q]? = some k := ab_ref (ab_h1 (ab_t1 (ab_t1 hF.2.2.2))) hk0
  show W p l e R s m0 args below meth cd H locs cells slots Q (F0 m0 pc ls (.long v :: .int j :: ab_v ad b (.inr (.inr (k, some q))) :: S.map (ab_v ad b)))
  rw [ab_vr hk0]
  have hset : (ab_w KT ad ac m).set q (ad q, .inl (ac q, len, .inr (.inl (vp_updL (m.2.1 r q) j.toNatClampNeg v)))) = ab_w KT ad ac (ab_uJ m r q j.toNatClampNeg v) := by
    refine ab_w_set (m := m) (m' := ab_uJ m r q j.toNatClampNeg v) hk rfl ?_ (fun q' k' h => ab_ce_J q' k' h)
    have e1 : vp_updL (m.2.1 r q) j.toNatClampNeg v = (ab_uJ m r q j.toNatClampNeg v).2.1 r q := by
      funext j'
      simp [vp_updL, ab_uJ]
    rw [e1]
    simp [ab_ce, has, ab_av]
  refine va_last (D := D) hx hb (ab_K1 hK0 hI.2.2.2.1 hk has) hI.1 hI.2.1 hI.2.2.1 q 0 (ab_warr hk has) rfl hin hdg fun H1 locs1 hP1 hD1 hS1 => ?_
  rw [hset] at hP1 hD1
  exact ab_after (m := m) (m' := ab_uJ m r q j.toNatClampNeg v) rfl (ab_ok_J hI.2.2.2.2.1 (List.getElem?_eq_some_iff.mp hk).1) hI hF w (fun v hv => by simp [hv]) hP1 hD1 hS1
theorem ab_aast (hx : p.tables.exec = Jvm.exec) (hb : cd.code = cc) (hK0 : va_K D cl [] s) (hnd : ab_nd KT)
    {pc k q r len k2 q2 a st i ci : Nat} {fs2 : List (Nat × Nat × Nat × Nat)} {j : Int32} {z : vw_C} {L : List (Option AV)} {S : List AV} {m : Mm} (hdg : decode cc pc = .ok (.aastore, 1)) (hk0 : k ≠ 0) (hk20 : k2 ≠ 0) (has : KT[k]? = some (.inr (r, len, 3, k2, a, st))) (hi : ab_ix j len = some i)
    (hK2 : KT[k2]? = some (.inl (ci, fs2))) (hcl : cl[ci]? = some z)
    (w : ab_W p l e R s m0 args below meth cd Q KT cl D sc b A H0 ks0 g0 h0 nL G Hs ad0 ac0 (pc + 1, L, S, ab_uR m r q i (some q2))) :
    ab_W p l e R s m0 args below meth cd Q KT cl D sc b A H0 ks0 g0 h0 nL G Hs ad0 ac0 (pc, L, .inr (.inr (k2, some q2)) :: .inl j :: .inr (.inr (k, some q)) :: S, m) := by
  obtain ⟨hin, rfl⟩ := ab_ix_in hi
  refine ⟨w.1, w.2.1, fun ad ac ls H locs cells slots hI hF => ?_⟩
  have hk : m.2.2.2.1[q]? = some k := ab_ref (ab_h1 (ab_t1 (ab_t1 hF.2.2.2))) hk0
  have hk2 : m.2.2.2.1[q2]? = some k2 := ab_ref (ab_h1 hF.2.2.2) hk20
  show W p l e R s m0 args below meth cd H locs cells slots Q (F0 m0 pc ls (ab_v ad b (.inr (.inr (k2, some q2))) :: .int j :: ab_v ad b (.inr (.inr (k, some q))) :: S.map (ab_v ad b)))
  rw [ab_vr hk0, ab_vr hk20]
  have hcn : ab_cn KT cl k2 = z.1 := by simp [ab_cn, hK2, hcl]
  have hset : (ab_w KT ad ac m).set q (ad q, .inl (ac q, len, .inr (.inr (.inr (.inr (va_up (fun j => (m.2.2.1 r q j).map ad) j.toNatClampNeg (some (ad q2)))))))) = ab_w KT ad ac (ab_uR m r q j.toNatClampNeg (some q2)) := by
    refine ab_w_set (m := m) (m' := ab_uR m r q j.toNatClampNeg (some q2)) hk rfl ?_ (fun q' k' h => ab_ce_R q' k' h)
    have e1 : va_up (fun j => (m.2.2.1 r q j).map ad) j.toNatClampNeg (some (ad q2)) = fun j' => ((ab_uR m r q j.toNatClampNeg (some q2)).2.2.1 r q j').map ad := by
      funext j'
      by_cases hj : j' = j.toNatClampNeg
      · simp [va_up, ab_uR, hj]
      · simp [va_up, ab_uR, hj]
    rw [e1]
    simp [ab_ce, has, ab_av]
  have hty := ab_K1 (D := D) hK0 hI.2.2.2.1 hk has
  rw [show ab_ty KT cl 3 k2 = .object (ab_cn KT cl k2) from rfl, hcn] at hty
  refine va_astq (D := D) hx hb hty hI.1 hI.2.1 hI.2.2.1 q 0 q2 ci (ab_warr hk has) rfl (ab_wobj hk2 hK2) hcl hin hdg fun H1 locs1 hP1 hD1 hS1 => ?_
  rw [hset] at hP1 hD1
  exact ab_after (m := m) (m' := ab_uR m r q j.toNatClampNeg (some q2)) rfl (ab_ok_R hI.2.2.2.2.1 hk hnd hk20 hk2 (Or.inr ⟨len, a, st, has⟩)) hI hF w (fun v hv => by simp [hv]) hP1 hD1 hS1
theorem ab_ce_ad {ad ad' ac ac' : Nat → Nat} {m : Mm} {q k : Nat} (hnd : ab_nd KT) (hok : ab_ok KT m) (hk : m.2.2.2.1[q]? = some k) (had : ∀ i, i < m.2.2.2.1.length → ad' i = ad i ∧ ac' i = ac i) : ab_ce KT ad' ac' m q k = ab_ce KT ad ac m q k := by
  have lt : ∀ {q' k' : Nat}, m.2.2.2.1[q']? = some k' → q' < m.2.2.2.1.length := fun h => (List.getElem?_eq_some_iff.mp h).1
  unfold ab_ce
  split
  · rename_i ci fs hKT
    congr 2
    apply List.map_congr_left
    intro f hf
    obtain ⟨i, hi⟩ := List.getElem?_of_mem hf
    obtain ⟨t, r, k', d⟩ := f
    have ht := hnd.2.1 k ci i t r k' d fs hKT hi
    match t, ht with
    | 0, _ => rfl
    | 1, _ => rfl
    | 2, _ =>
      show va_rf ((m.2.2.1 r q 0).map ad') = va_rf ((m.2.2.1 r q 0).map ad)
      cases hR : m.2.2.1 r q 0 with
      | none => rfl
      | some q' =>
        have := (had q' (lt (hok.2.2.1 q k ci i r k' d q' fs hk hKT hi hR).2)).1
        simp [this]
    | 3, _ =>
      show Value.ref (ad' (q + d)) = .ref (ad (q + d))
      rw [(had _ (lt (hok.1 q k ci i r k' d fs hk hKT hi).2)).1]
  · rename_i r len t k' a st hKT
    rw [(had q (lt hk)).2]
    congr 3
    have ht := hnd.2.2 k r len t k' a st hKT
    match t, ht with
    | 0, _ => rfl
    | 1, _ => rfl
    | 2, _ => rfl
    | 3, _ =>
      show Sum.inr (Sum.inr (Sum.inr (Sum.inr fun j => (m.2.2.1 r q j).map ad'))) = Sum.inr (Sum.inr (Sum.inr (Sum.inr fun j => (m.2.2.1 r q j).map ad)))
      congr 4
      funext j
      cases hR : m.2.2.1 r q j with
      | none => rfl
      | some q' =>
        have := (had q' (lt (hok.2.2.2.1 q k r len k' a st j q' hk hKT hR).2)).1
        simp [this]
    | 4, _ =>
      show Sum.inr (Sum.inr (Sum.inr (Sum.inr fun j => if j < len then some (ad' (q + a + st * j)) else none))) = Sum.inr (Sum.inr (Sum.inr (Sum.inr fun j => if j < len then some (ad (q + a + st * j)) else none)))
      congr 4
      funext j
      by_cases hj : j < len
      · rw [if_pos hj, if_pos hj, (had _ (lt (hok.2.1 q k r len k' a st j hk hKT hj).2)).1]
      · rw [if_neg hj, if_neg hj]
    | t + 5, ht =>
      have hl : len = 0 := by rcases ht with h | h <;> omega
      show Sum.inr (Sum.inr (Sum.inr (Sum.inr fun j => if j < len then some (ad' (q + a + st * j)) else none))) = Sum.inr (Sum.inr (Sum.inr (Sum.inr fun j => if j < len then some (ad (q + a + st * j)) else none)))
      congr 4
      funext j
      rw [if_neg (by omega), if_neg (by omega)]
  · rfl
theorem ab_w_ad {ad ad' ac ac' : Nat → Nat} {m : Mm} (hnd : ab_nd KT) (hok : ab_ok KT m) (had : ∀ i, i < m.2.2.2.1.length → ad' i = ad i ∧ ac' i = ac i) : ab_w KT ad' ac' m = ab_w KT ad ac m := by
  apply List.ext_getElem?
  intro i
  simp only [ab_w, List.getElem?_mapIdx]
  cases hk : m.2.2.2.1[i]? with
  | none => rfl
  | some k =>
    have h1 := had i (List.getElem?_eq_some_iff.mp hk).1
    simp [h1.1, ab_ce_ad hnd hok hk had]
theorem ab_w_push {ad ad' ac ac' : Nat → Nat} {m : Mm} {a : Nat} (hnd : ab_nd KT) (hok : ab_ok KT m) (had : ∀ i, i < m.2.2.2.1.length → ad' i = ad i ∧ ac' i = ac i) :
    ab_w KT ad' ac' (ab_ap m a) = ab_w KT ad ac m ++ [(ad' m.2.2.2.1.length, ab_ce KT ad' ac' m m.2.2.2.1.length a)] := by
  have h1 : ab_w KT ad' ac' (ab_ap m a) = ab_w KT ad' ac' m ++ [(ad' m.2.2.2.1.length, ab_ce KT ad' ac' m m.2.2.2.1.length a)] := by
    show (m.2.2.2.1 ++ [a]).mapIdx (fun q k => (ad' q, ab_ce KT ad' ac' (ab_ap m a) q k)) = _
    rw [List.mapIdx_append]
    congr 1
    rw [List.mapIdx_cons, List.mapIdx_nil, Nat.zero_add]
    rfl
  rw [h1, ab_w_ad hnd hok had]
theorem ab_v_ad {ad ad' : Nat → Nat} {ks : List Nat} {v : AV} (hv : ab_vv sc ks v) (had : ∀ i, i < ks.length → ad' i = ad i) : ab_v ad' b v = ab_v ad b v := by
  match v, hv with
  | .inl x, _ => rfl
  | .inr (.inl x), _ => rfl
  | .inr (.inr (k, none)), _ => rfl
  | .inr (.inr (k, some q)), hv =>
    show Value.ref (if k = 0 then b else ad' q) = .ref (if k = 0 then b else ad q)
    by_cases hk : k = 0
    · rw [if_pos hk, if_pos hk]
    · rw [if_neg hk, if_neg hk, had q (List.getElem?_eq_some_iff.mp (ab_ref hv hk)).1]
theorem ab_vv_app {ks ks' : List Nat} {v : AV} (hv : ab_vv sc ks v) (hp : ∀ (i k : Nat), ks[i]? = some k → ks'[i]? = some k) : ab_vv sc ks' v := by
  match v, hv with
  | .inl x, _ => trivial
  | .inr (.inl x), _ => trivial
  | .inr (.inr (k, none)), _ => trivial
  | .inr (.inr (k, some q)), hv =>
    have h1 : (if k = 0 then sc.isSome = true else ks[q]? = some k) := hv
    show if k = 0 then sc.isSome = true else ks'[q]? = some k
    by_cases hk : k = 0
    · rw [if_pos hk] at h1 ⊢; exact h1
    · rw [if_neg hk] at h1 ⊢; exact hp _ _ h1
/-- a frame, when cells have come -/
theorem ab_F_ad {ad ad' : Nat → Nat} {ks ks' : List Nat} {ls : Array Slot} {L : List (Option AV)} {S : List AV} (hF : ab_F sc b ad ks nL ls L S) (had : ∀ i, i < ks.length → ad' i = ad i) (hp : ∀ (i k : Nat), ks[i]? = some k → ks'[i]? = some k) :
    ab_F sc b ad' ks' nL ls L S ∧ S.map (ab_v ad' b) = S.map (ab_v ad b) := by
  refine ⟨⟨hF.1, ab_L_of hF.2.1 (fun i v hi => ?_), fun i v hi => ab_vv_app (hF.2.2.1 i v hi) hp, fun v hv => ab_vv_app (hF.2.2.2 v hv) hp⟩, List.map_congr_left fun v hv => ab_v_ad (hF.2.2.2 v hv) had⟩
  rw [ab_v_ad (hF.2.2.1 i v hi) had]
  exact ab_mem_al.mpr ⟨v, hi, rfl⟩
theorem ab_ok_ap {m : Mm} {a : Nat} (hok : ab_ok KT m) (hno : (∀ (ci f r k' d : Nat) (fs : List (Nat × Nat × Nat × Nat)), KT[a]? = some (.inl (ci, fs)) → fs[f]? ≠ some (3, r, k', d)) ∧ ∀ (r len k' a' st : Nat), KT[a]? ≠ some (.inr (r, len, 4, k', a', st))) : ab_ok KT (ab_ap m a) := by
  have up : ∀ (i k : Nat), m.2.2.2.1[i]? = some k → (m.2.2.2.1 ++ [a])[i]? = some k := fun i k h => by
    rw [List.getElem?_append_left (List.getElem?_eq_some_iff.mp h).1]; exact h
  have dn : ∀ (i k : Nat), (m.2.2.2.1 ++ [a])[i]? = some k → m.2.2.2.1[i]? = some k ∨ (i = m.2.2.2.1.length ∧ k = a) := fun i k h => by
    by_cases hl : i < m.2.2.2.1.length
    · rw [List.getElem?_append_left hl] at h; exact Or.inl h
    · rw [List.getElem?_append_right (by omega)] at h
      have h1 : i - m.2.2.2.1.length < 1 := (List.getElem?_eq_some_iff.mp h).1
      have h2 : i = m.2.2.2.1.length := by omega
      subst h2
      simp at h
      exact Or.inr ⟨rfl, h.symm⟩
  refine ⟨?_, ?_, ?_, ?_, ?_⟩
  · intro q k ci f r k' d fs h1 h2 h3
    rcases dn q k h1 with h1 | ⟨-, rfl⟩
    · have := hok.1 q k ci f r k' d fs h1 h2 h3
      exact ⟨this.1, up _ _ this.2⟩
    · exact absurd h3 (hno.1 ci f r k' d fs h2)
  · intro q k r len k' a' st j h1 h2 h3
    rcases dn q k h1 with h1 | ⟨-, rfl⟩
    · have := hok.2.1 q k r len k' a' st j h1 h2 h3
      exact ⟨this.1, up _ _ this.2⟩
    · exact absurd h2 (hno.2 r len k' a' st)
  · intro q k ci f r k' d q' fs h1 h2 h3 h4
    rcases dn q k h1 with h1 | ⟨rfl, rfl⟩
    · have := hok.2.2.1 q k ci f r k' d q' fs h1 h2 h3 h4
      exact ⟨this.1, up _ _ this.2⟩
    · have := (hok.2.2.2.2 r m.2.2.2.1.length 0 (Nat.le_refl _)).2.2
      have h4' : m.2.2.1 r m.2.2.2.1.length 0 = some q' := h4
      rw [this] at h4'
      cases h4'
  · intro q k r len k' a' st j q' h1 h2 h4
    rcases dn q k h1 with h1 | ⟨rfl, rfl⟩
    · have := hok.2.2.2.1 q k r len k' a' st j q' h1 h2 h4
      exact ⟨this.1, up _ _ this.2⟩
    · have := (hok.2.2.2.2 r m.2.2.2.1.length j (Nat.le_refl _)).2.2
      have h4' : m.2.2.1 r m.2.2.2.1.length j = some q' := h4
      rw [this] at h4'
      cases h4'
  · intro r q j hl
    have hl' : (m.2.2.2.1 ++ [a]).length ≤ q := hl
    rw [List.length_append] at hl'
    exact hok.2.2.2.2 r q j (by omega)
theorem ab_gc_ap {m : Mm} {a : Nat} : ab_gc (ab_ap m a) = ab_gc m + 1 := by
  show (m.2.2.2.1 ++ [a]).length + m.2.2.2.2.1 = m.2.2.2.1.length + m.2.2.2.2.1 + 1
  rw [List.length_append]
  simp
  omega
theorem ab_gs_ap {m : Mm} {a : Nat} : ab_gs KT (ab_ap m a) = ab_gs KT m + ab_len KT a := by
  show ((m.2.2.2.1 ++ [a]).map (ab_len KT)).sum + m.2.2.2.2.2 = (m.2.2.2.1.map (ab_len KT)).sum + m.2.2.2.2.2 + ab_len KT a
  rw [List.map_append, List.sum_append]
  simp
  omega
/-- behind a new cell -/
theorem ab_grown {pc' a : Nat} {ad ac ad' ac' : Nat → Nat} {ls : Array Slot} {H H1 : Heap} {locs locs1 : List Loc} {cells slots : Nat} {L : List (Option AV)} {S S' : List AV} {m : Mm} (hnd : ab_nd KT) (ha : a ≠ 0)
    (hno : (∀ (ci f r k' d : Nat) (fs : List (Nat × Nat × Nat × Nat)), KT[a]? = some (.inl (ci, fs)) → fs[f]? ≠ some (3, r, k', d)) ∧ ∀ (r len k' a' st : Nat), KT[a]? ≠ some (.inr (r, len, 4, k', a', st)))
    (hI : ab_I KT cl D s A H0 ks0 ad0 ac0 g0 h0 ad ac m H locs cells slots) (hF : ab_F sc b ad m.2.2.2.1 nL ls L S) (hS' : ∀ v ∈ S', v ∈ S) (had : ∀ i, i < m.2.2.2.1.length → ad' i = ad i ∧ ac' i = ac i)
    (hKn : ∀ (r len t k' a' st : Nat), KT[a]? = some (.inr (r, len, t, k', a', st)) → ArrOfT s (ac' m.2.2.2.1.length) (ab_ty KT cl t k') ∧ va_RA s (ac' m.2.2.2.1.length) (ab_ty KT cl t k'))
    (w : ab_W p l e R s m0 args below meth cd Q KT cl D sc b A H0 ks0 g0 h0 nL G Hs ad0 ac0 (pc', L, .inr (.inr (a, some m.2.2.2.1.length)) :: S', ab_ap m a))
    (hP1 : va_P D cl (ab_w KT ad ac m ++ [(ad' m.2.2.2.1.length, ab_ce KT ad' ac' m m.2.2.2.1.length a)]) H1) (hD1 : va_D A (ab_w KT ad ac m ++ [(ad' m.2.2.2.1.length, ab_ce KT ad' ac' m m.2.2.2.1.length a)])) (hS1 : va_S A H0 H1 locs1) :
    W p l e R s m0 args below meth cd H1 locs1 (cells + 1) (slots + ab_len KT a) Q (F0 m0 pc' ls (.ref (ad' m.2.2.2.1.length) :: S'.map (ab_v ad b))) := by
  obtain ⟨hP, hD, hS, hKA, hok, hext, hn0, hce1, hcs1⟩ := hI
  rw [← ab_w_push hnd hok had] at hP1 hD1
  have up : ∀ (i k : Nat), m.2.2.2.1[i]? = some k → (m.2.2.2.1 ++ [a])[i]? = some k := fun i k h => by
    rw [List.getElem?_append_left (List.getElem?_eq_some_iff.mp h).1]; exact h
  obtain ⟨hF2, hmap⟩ := ab_F_ad (sc := sc) (b := b) (nL := nL) (ks' := m.2.2.2.1 ++ [a]) (⟨hF.1, hF.2.1, hF.2.2.1, fun v hv => hF.2.2.2 v (hS' v hv)⟩ : ab_F sc b ad m.2.2.2.1 nL ls L S') (fun i hi => (had i hi).1) up
  have hlast : (m.2.2.2.1 ++ [a])[m.2.2.2.1.length]? = some a := by simp
  have k := w.2.2 ad' ac' ls H1 locs1 (cells + 1) (slots + ab_len KT a) ⟨hP1, hD1, hS1, ?_, ab_ok_ap hok hno, fun q hq => ?_, ?_, ?_, ?_⟩ ⟨hF2.1, hF2.2.1, hF2.2.2.1, ab_c1 ?_ hF2.2.2.2⟩
  · have e : List.map (ab_v ad' b) ((pc', L, Sum.inr (Sum.inr (a, some m.2.2.2.1.length)) :: S', ab_ap m a) : Cf).2.2.1 = .ref (ad' m.2.2.2.1.length) :: S'.map (ab_v ad b) := by
      show ab_v ad' b (.inr (.inr (a, some m.2.2.2.1.length))) :: S'.map (ab_v ad' b) = _
      rw [ab_vr ha, hmap]
    rw [e] at k
    exact k
  · intro q k r len t k' a' st h1 h2
    have h1' : (m.2.2.2.1 ++ [a])[q]? = some k := h1
    by_cases hl : q < m.2.2.2.1.length
    · rw [List.getElem?_append_left hl] at h1'
      rw [(had q hl).2]
      exact hKA q k r len t k' a' st h1' h2
    · rw [List.getElem?_append_right (by omega)] at h1'
      have h3 : q - m.2.2.2.1.length < 1 := (List.getElem?_eq_some_iff.mp h1').1
      have h4 : q = m.2.2.2.1.length := by omega
      subst h4
      simp at h1'
      subst h1'
      exact hKn r len t k' a' st h2
  · have hq' : q < m.2.2.2.1.length := (List.getElem?_eq_some_iff.mp (hn0 q _ (List.getElem?_eq_getElem hq))).1
    rw [(had q hq').1, (had q hq').2]
    exact hext q hq
  · exact fun i k h => up i k (hn0 i k h)
  · show cells + 1 + g0 = ab_gc (ab_ap m a)
    rw [ab_gc_ap]
    omega
  · show slots + ab_len KT a + h0 = ab_gs KT (ab_ap m a)
    rw [ab_gs_ap]
    omega
  · show if a = 0 then sc.isSome = true else (m.2.2.2.1 ++ [a])[m.2.2.2.1.length]? = some a
    rw [if_neg ha]
    exact hlast
end
end
section
/-! The small machine's new cells and ends. -/
section
variable {p : Program} {l : Launch} {e : Env} {R : Room} {s : State} {m0 : MethodId} {args : Array Value} {below : List Frame} {meth : Method} {cd : Code} {Q : State → Prop} {cc : ByteArray}
variable {KT : List KS} {cl : List vw_C} {D : va_G} {sc : Option (Nat × (Nat → Int32))} {b : Nat} {A : Nat → Prop} {H0 : Heap} {ks0 : List Nat} {g0 h0 nL G Hs : Nat} {ad0 ac0 : Nat → Nat} {Ts : List Cond} {own : String}
/-- what the words say of a class of which an instruction makes an object of kind a -/
def ab_newok (KT : List KS) (cl : List vw_C) (Ts : List Cond) (own : String) (idx a : Nat) : Prop := ∃ (C : String) (T : u_T) (ty : Nat → FieldType) (ci : Nat) (fs : List (Nat × Nat × Nat × Nat)), cl[ci]? = some (C, T, fs.length) ∧ KT[a]? = some (.inl (ci, fs)) ∧ a ≠ 0 ∧ (∀ w ∈ u_ws C T fs.length, w ∈ Ts) ∧
  (∀ k, k < fs.length → parseFieldDescriptor (T k).2.2.1 = some (ty k)) ∧ Cond.classLink own idx C ∈ Ts ∧ Cond.instantiable C fs.length ∈ Ts ∧ Cond.initialized C ∈ Ts ∧
  ∀ (f t r k' d : Nat), fs[f]? = some (t, r, k', d) → (t ≤ 1 ∧ defaultValue (ty f) = .int 0) ∨ (t = 2 ∧ defaultValue (ty f) = .null)
theorem ab_newo (hx : p.tables.exec = Jvm.exec) (hb : cd.code = cc) (hts : ∀ w ∈ Ts, w.before args s = true) (hown : s.vm.findClass own = some m0.cls) (hK0 : va_K D cl [] s) (hnd : ab_nd KT) (hA : ∀ q, H0.size ≤ q → A q) (hG : G ≤ g0 + R.cells) (hHs : Hs ≤ h0 + R.slots)
    {pc idx a : Nat} {L : List (Option AV)} {S : List AV} {m : Mm} (hdg : decode cc pc = .ok (.new idx, 3)) (hn : ab_newok KT cl Ts own idx a)
    (w : ab_W p l e R s m0 args below meth cd Q KT cl D sc b A H0 ks0 g0 h0 nL G Hs ad0 ac0 (pc + 3, L, .inr (.inr (a, some m.2.2.2.1.length)) :: S, ab_ap m a)) :
    ab_W p l e R s m0 args below meth cd Q KT cl D sc b A H0 ks0 g0 h0 nL G Hs ad0 ac0 (pc, L, S, m) := by
  obtain ⟨C, T, ty, ci, fs, hc, hKT, ha, hin, hty, hcl, hins, hini, hdf⟩ := hn
  have w1 : ab_gc m + 1 ≤ G := by have := w.1; rw [show ((pc + 3, L, Sum.inr (Sum.inr (a, some m.2.2.2.1.length)) :: S, ab_ap m a) : Cf).2.2.2 = ab_ap m a from rfl, ab_gc_ap] at this; exact this
  have hlen : ab_len KT a = fs.length := by simp [ab_len, hKT]
  have w2 : ab_gs KT m + fs.length ≤ Hs := by have := w.2.1; rw [show ((pc + 3, L, Sum.inr (Sum.inr (a, some m.2.2.2.1.length)) :: S, ab_ap m a) : Cf).2.2.2 = ab_ap m a from rfl, ab_gs_ap, hlen] at this; exact this
  refine ⟨Nat.le_trans (Nat.le_succ _) w1, Nat.le_trans (Nat.le_add_right _ _) w2, fun ad ac ls H locs cells slots hI hF => ?_⟩
  have hok := hI.2.2.2.2.1
  have hc1 : cells + g0 = ab_gc m := hI.2.2.2.2.2.2.2.1
  have hc2 : slots + h0 = ab_gs KT m := hI.2.2.2.2.2.2.2.2
  refine va_new (D := D) (cl := cl) (tys := []) (ci := ci) (fs := fs.map (ab_fv ad m m.2.2.2.1.length)) hx hb hts hin ty hty hown (hts _ hcl) (hts _ hins) (hts _ hini) hK0 hI.1 hI.2.1 hI.2.2.1 hA hc ?_ (by omega) (by omega) hdg fun q H1 hP1 hD1 hS1 => ?_
  · intro j hj
    have hfj : fs[j]? = some fs[j] := List.getElem?_eq_getElem hj
    have hz := hok.2.2.2.2
    have hv : vp_V (fs.map (ab_fv ad m m.2.2.2.1.length)) j = ab_fv ad m m.2.2.2.1.length fs[j] := by
      simp [vp_V, List.getD, List.getElem?_map, hfj]
    rw [hv]
    generalize fs[j] = z at hfj
    obtain ⟨t, r, k', d⟩ := z
    rcases hdf j t r k' d hfj with ⟨h1, h2⟩ | ⟨rfl, h2⟩
    · rw [h2]
      match t, h1 with
      | 0, _ =>
        show Value.int 0 = .int (m.1 r m.2.2.2.1.length 0)
        rw [(hz r _ 0 (Nat.le_refl _)).1]
      | 1, _ =>
        show Value.int 0 = .int (m.1 r m.2.2.2.1.length 0)
        rw [(hz r _ 0 (Nat.le_refl _)).1]
    · rw [h2]
      show Value.null = va_rf ((m.2.2.1 r m.2.2.2.1.length 0).map ad)
      rw [(hz r _ 0 (Nat.le_refl _)).2.2]
      rfl
  · obtain ⟨ad', had1, hself⟩ : ∃ ad' : Nat → Nat, (∀ i, i < m.2.2.2.1.length → ad' i = ad i) ∧ ad' m.2.2.2.1.length = q := ⟨fun i => if i = m.2.2.2.1.length then q else ad i, fun i hi => if_neg (by omega), if_pos rfl⟩
    have had : ∀ i, i < m.2.2.2.1.length → ad' i = ad i ∧ ac i = ac i := fun i hi => ⟨had1 i hi, rfl⟩
    have hcell : ab_ce KT ad' ac m m.2.2.2.1.length a = .inr (ci, fs.map (ab_fv ad m m.2.2.2.1.length)) := by
      unfold ab_ce
      rw [hKT]
      dsimp only
      congr 2
      apply List.map_congr_left
      intro f hf
      obtain ⟨i, hi⟩ := List.getElem?_of_mem hf
      obtain ⟨t, r, k', d⟩ := f
      rcases hdf i t r k' d hi with ⟨h1, h2⟩ | ⟨rfl, h2⟩
      · match t, h1 with
        | 0, _ => rfl
        | 1, _ => rfl
      · show va_rf ((m.2.2.1 r m.2.2.2.1.length 0).map _) = va_rf ((m.2.2.1 r m.2.2.2.1.length 0).map ad)
        rw [(hok.2.2.2.2 r _ 0 (Nat.le_refl _)).2.2]
        rfl
    have hno : (∀ (ci f r k' d : Nat) (fs : List (Nat × Nat × Nat × Nat)), KT[a]? = some (.inl (ci, fs)) → fs[f]? ≠ some (3, r, k', d)) ∧ ∀ (r len k' a' st : Nat), KT[a]? ≠ some (.inr (r, len, 4, k', a', st)) := by
      refine ⟨fun ci2 f r k' d fs2 h1 h2 => ?_, fun r len k' a' st h1 => ?_⟩
      · rw [hKT] at h1
        simp only [Option.some.injEq, Sum.inl.injEq, Prod.mk.injEq] at h1
        obtain ⟨-, rfl⟩ := h1
        rcases hdf f 3 r k' d h2 with ⟨h3, -⟩ | ⟨h3, -⟩ <;> omega
      · rw [hKT] at h1
        cases h1
    have := ab_grown (p := p) (l := l) (e := e) (R := R) (args := args) (below := below) (meth := meth) (cd := cd) (m := m) (ad' := ad') (ac' := ac) (H1 := H1) (locs1 := locs) hnd ha hno hI hF (fun v hv => hv) had (fun r len t k' a' st h1 => by rw [hKT] at h1; cases h1) w (by rw [hself, hcell]; exact hP1) (by rw [hself, hcell]; exact hD1) hS1
    rw [hself, hlen] at this
    exact this
/-- what the words say of an array that an instruction makes -/
def ab_naok (KT : List KS) (cl : List vw_C) (Ts : List Cond) (at' : ArrayType) (a : Nat) : Prop := ∃ (r len t k' a' st : Nat), KT[a]? = some (.inr (r, len, t, k', a', st)) ∧ a ≠ 0 ∧ t ≤ 2 ∧ newarray.typeOf at' = ab_ty KT cl t k' ∧ Cond.arrayClass (newarray.typeOf at') ∈ Ts ∧ len < 65536
theorem ab_ofNat {n : Nat} (h : n < 65536) : ¬ Int32.ofNat n < 0 ∧ (Int32.ofNat n).toNatClampNeg = n := ⟨nI_pos (by omega), nI_clamp (by omega)⟩
theorem ab_newa (hx : p.tables.exec = Jvm.exec) (hb : cd.code = cc) (hts : ∀ w ∈ Ts, w.before args s = true) (hK0 : va_K D cl [] s) (hnd : ab_nd KT) (hA : ∀ q, H0.size ≤ q → A q) (hG : G ≤ g0 + R.cells) (hHs : Hs ≤ h0 + R.slots)
    {pc a : Nat} {at' : ArrayType} {z : Nat × Nat × Nat × Nat × Nat × Nat} {L : List (Option AV)} {S : List AV} {m : Mm} (hdg : decode cc pc = .ok (.newarray at', 2)) (hn : ab_naok KT cl Ts at' a) (hz : KT[a]? = some (.inr z))
    (w : ab_W p l e R s m0 args below meth cd Q KT cl D sc b A H0 ks0 g0 h0 nL G Hs ad0 ac0 (pc + 2, L, .inr (.inr (a, some m.2.2.2.1.length)) :: S, ab_ap m a)) :
    ab_W p l e R s m0 args below meth cd Q KT cl D sc b A H0 ks0 g0 h0 nL G Hs ad0 ac0 (pc, L, .inl (Int32.ofNat z.2.1) :: S, m) := by
  obtain ⟨r, len, t, k', a', st, hKT, ha, ht, hty, harr, hl⟩ := hn
  have hz' : z = (r, len, t, k', a', st) := by
    have h1 := hz.symm.trans hKT
    simp only [Option.some.injEq, Sum.inr.injEq] at h1
    exact h1
  subst hz'
  have w1 : ab_gc m + 1 ≤ G := by have := w.1; rw [show ((pc + 2, L, Sum.inr (Sum.inr (a, some m.2.2.2.1.length)) :: S, ab_ap m a) : Cf).2.2.2 = ab_ap m a from rfl, ab_gc_ap] at this; exact this
  have hlen : ab_len KT a = len := by simp [ab_len, hKT]
  have w2 : ab_gs KT m + len ≤ Hs := by have := w.2.1; rw [show ((pc + 2, L, Sum.inr (Sum.inr (a, some m.2.2.2.1.length)) :: S, ab_ap m a) : Cf).2.2.2 = ab_ap m a from rfl, ab_gs_ap, hlen] at this; exact this
  refine ⟨Nat.le_trans (Nat.le_succ _) w1, Nat.le_trans (Nat.le_add_right _ _) w2, fun ad ac ls H locs cells slots hI hF => ?_⟩
  have hok := hI.2.2.2.2.1
  have hc1 : cells + g0 = ab_gc m := hI.2.2.2.2.2.2.2.1
  have hc2 : slots + h0 = ab_gs KT m := hI.2.2.2.2.2.2.2.2
  obtain ⟨hl1, hl2⟩ := ab_ofNat hl
  show W p l e R s m0 args below meth cd H locs cells slots Q (F0 m0 pc ls (.int (Int32.ofNat len) :: S.map (ab_v ad b)))
  have hb4 : len * componentBytes (ab_ty KT cl t k') ≤ 536870912 := by
    have : componentBytes (ab_ty KT cl t k') ≤ 8 := by
      match t, ht with
      | 0, _ => exact (show componentBytes .int ≤ 8 by decide)
      | 1, _ => exact (show componentBytes .boolean ≤ 8 by decide)
      | 2, _ => exact (show componentBytes .long ≤ 8 by decide)
    have := Nat.mul_le_mul_left len this
    omega
  refine va_newa (D := D) (cl := cl) (tys := []) (a0 := (len, ab_av ad m m.2.2.2.1.length r len t a' st)) hx hb (hts _ harr) hty hK0 hI.1 hI.2.1 hI.2.2.1 hA ?_ hl1 hl2 hb4 (by omega) (by omega) hdg fun q cA H1 hK1 hP1 hD1 hS1 => ?_
  · intro cA
    have hzr := hok.2.2.2.2
    match t, ht with
    | 0, _ =>
      show arrV cA len (fun j => .int (m.1 r m.2.2.2.1.length j)) = arrV cA len (fun _ => .int 0)
      congr 1
      funext j
      rw [(hzr r _ j (Nat.le_refl _)).1]
    | 1, _ =>
      show arrV cA len (fun j => .int (m.1 r m.2.2.2.1.length j)) = arrV cA len (fun _ => .int 0)
      congr 1
      funext j
      rw [(hzr r _ j (Nat.le_refl _)).1]
    | 2, _ =>
      show arrV cA len (fun j => .long (m.2.1 r m.2.2.2.1.length j)) = arrV cA len (fun _ => .long 0)
      congr 1
      funext j
      rw [(hzr r _ j (Nat.le_refl _)).2.1]
  · obtain ⟨ad', had1, hself⟩ : ∃ ad' : Nat → Nat, (∀ i, i < m.2.2.2.1.length → ad' i = ad i) ∧ ad' m.2.2.2.1.length = q := ⟨fun i => if i = m.2.2.2.1.length then q else ad i, fun i hi => if_neg (by omega), if_pos rfl⟩
    obtain ⟨ac', hac1, hself2⟩ : ∃ ac' : Nat → Nat, (∀ i, i < m.2.2.2.1.length → ac' i = ac i) ∧ ac' m.2.2.2.1.length = cA := ⟨fun i => if i = m.2.2.2.1.length then cA else ac i, fun i hi => if_neg (by omega), if_pos rfl⟩
    have had : ∀ i, i < m.2.2.2.1.length → ad' i = ad i ∧ ac' i = ac i := fun i hi => ⟨had1 i hi, hac1 i hi⟩
    have hcell : ab_ce KT ad' ac' m m.2.2.2.1.length a = .inl (cA, len, ab_av ad m m.2.2.2.1.length r len t a' st) := by
      unfold ab_ce
      rw [hKT]
      dsimp only
      rw [hself2]
      congr 3
      match t, ht with
      | 0, _ => rfl
      | 1, _ => rfl
      | 2, _ => rfl
    have hno : (∀ (ci f r k' d : Nat) (fs : List (Nat × Nat × Nat × Nat)), KT[a]? = some (.inl (ci, fs)) → fs[f]? ≠ some (3, r, k', d)) ∧ ∀ (r len k' a' st : Nat), KT[a]? ≠ some (.inr (r, len, 4, k', a', st)) := by
      refine ⟨fun ci2 f r k' d fs2 h1 h2 => ?_, fun r len k' a' st h1 => ?_⟩
      · rw [hKT] at h1
        cases h1
      · rw [hKT] at h1
        simp only [Option.some.injEq, Sum.inr.injEq, Prod.mk.injEq] at h1
        omega
    have := ab_grown (p := p) (l := l) (e := e) (R := R) (args := args) (below := below) (meth := meth) (cd := cd) (m := m) (ad' := ad') (ac' := ac') (H1 := H1) (locs1 := locs) (S' := S) hnd ha hno hI hF (fun v hv => List.mem_cons_of_mem _ hv) had (fun r2 len2 t2 k2 a2 st2 h1 => by
        rw [hKT] at h1
        simp only [Option.some.injEq, Sum.inr.injEq, Prod.mk.injEq] at h1
        obtain ⟨rfl, rfl, rfl, rfl, rfl, rfl⟩ := h1
        rw [hself2]
        exact hK1.2 0 (cA, ab_ty KT cl t k') rfl) w (by rw [hself, hcell]; exact hP1) (by rw [hself, hcell]; exact hD1) hS1
    rw [hself, hlen] at this
    exact this
/-- what the words say of an array of references that an instruction makes -/
def ab_nqok (KT : List KS) (cl : List vw_C) (Ts : List Cond) (own : String) (idx a : Nat) : Prop := ∃ (r len k' a' st : Nat), KT[a]? = some (.inr (r, len, 3, k', a', st)) ∧ a ≠ 0 ∧ Cond.classLink own idx (ab_cn KT cl k') ∈ Ts ∧ ab_cn KT cl k' ∈ ab_gO ∧ len < 65536
theorem ab_newq (hX : ab_X s) (hx : p.tables.exec = Jvm.exec) (hb : cd.code = cc) (hts : ∀ w ∈ Ts, w.before args s = true) (hown : s.vm.findClass own = some m0.cls) (hK0 : va_K D cl [] s) (hnd : ab_nd KT) (hA : ∀ q, H0.size ≤ q → A q) (hG : G ≤ g0 + R.cells) (hHs : Hs ≤ h0 + R.slots)
    {pc idx a : Nat} {z : Nat × Nat × Nat × Nat × Nat × Nat} {L : List (Option AV)} {S : List AV} {m : Mm} (hdg : decode cc pc = .ok (.anewarray idx, 3)) (hn : ab_nqok KT cl Ts own idx a) (hz : KT[a]? = some (.inr z))
    (w : ab_W p l e R s m0 args below meth cd Q KT cl D sc b A H0 ks0 g0 h0 nL G Hs ad0 ac0 (pc + 3, L, .inr (.inr (a, some m.2.2.2.1.length)) :: S, ab_ap m a)) :
    ab_W p l e R s m0 args below meth cd Q KT cl D sc b A H0 ks0 g0 h0 nL G Hs ad0 ac0 (pc, L, .inl (Int32.ofNat z.2.1) :: S, m) := by
  obtain ⟨r, len, k', a', st, hKT, ha, hcl, hao, hl⟩ := hn
  have hz' : z = (r, len, 3, k', a', st) := by
    have h1 := hz.symm.trans hKT
    simp only [Option.some.injEq, Sum.inr.injEq] at h1
    exact h1
  subst hz'
  have w1 : ab_gc m + 1 ≤ G := by have := w.1; rw [show ((pc + 3, L, Sum.inr (Sum.inr (a, some m.2.2.2.1.length)) :: S, ab_ap m a) : Cf).2.2.2 = ab_ap m a from rfl, ab_gc_ap] at this; exact this
  have hlen : ab_len KT a = len := by simp [ab_len, hKT]
  have w2 : ab_gs KT m + len ≤ Hs := by have := w.2.1; rw [show ((pc + 3, L, Sum.inr (Sum.inr (a, some m.2.2.2.1.length)) :: S, ab_ap m a) : Cf).2.2.2 = ab_ap m a from rfl, ab_gs_ap, hlen] at this; exact this
  refine ⟨Nat.le_trans (Nat.le_succ _) w1, Nat.le_trans (Nat.le_add_right _ _) w2, fun ad ac ls H locs cells slots hI hF => ?_⟩
  have hok := hI.2.2.2.2.1
  have hc1 : cells + g0 = ab_gc m := hI.2.2.2.2.2.2.2.1
  have hc2 : slots + h0 = ab_gs KT m := hI.2.2.2.2.2.2.2.2
  obtain ⟨hl1, hl2⟩ := ab_ofNat hl
  show W p l e R s m0 args below meth cd H locs cells slots Q (F0 m0 pc ls (.int (Int32.ofNat len) :: S.map (ab_v ad b)))
  refine va_newq (D := D) (cl := cl) (tys := []) (C := ab_cn KT cl k') hx hb hown (hts _ hcl) (hX.2 _ hao) hK0 hI.1 hI.2.1 hI.2.2.1 hA hl1 hl2 (by omega) (by omega) (by omega) hdg fun q cA H1 hK1 hP1 hD1 hS1 => ?_
  obtain ⟨ad', had1, hself⟩ : ∃ ad' : Nat → Nat, (∀ i, i < m.2.2.2.1.length → ad' i = ad i) ∧ ad' m.2.2.2.1.length = q := ⟨fun i => if i = m.2.2.2.1.length then q else ad i, fun i hi => if_neg (by omega), if_pos rfl⟩
  obtain ⟨ac', hac1, hself2⟩ : ∃ ac' : Nat → Nat, (∀ i, i < m.2.2.2.1.length → ac' i = ac i) ∧ ac' m.2.2.2.1.length = cA := ⟨fun i => if i = m.2.2.2.1.length then cA else ac i, fun i hi => if_neg (by omega), if_pos rfl⟩
  have had : ∀ i, i < m.2.2.2.1.length → ad' i = ad i ∧ ac' i = ac i := fun i hi => ⟨had1 i hi, hac1 i hi⟩
  have hcell : ab_ce KT ad' ac' m m.2.2.2.1.length a = .inl (cA, len, .inr (.inr (.inr (.inr (fun _ => none))))) := by
    unfold ab_ce
    rw [hKT]
    dsimp only
    rw [hself2]
    congr 3
    show Sum.inr (Sum.inr (Sum.inr (Sum.inr fun j => (m.2.2.1 r m.2.2.2.1.length j).map _))) = _
    congr 4
    funext j
    rw [(hok.2.2.2.2 r _ j (Nat.le_refl _)).2.2]
    rfl
  have hno : (∀ (ci f r k' d : Nat) (fs : List (Nat × Nat × Nat × Nat)), KT[a]? = some (.inl (ci, fs)) → fs[f]? ≠ some (3, r, k', d)) ∧ ∀ (r len k' a' st : Nat), KT[a]? ≠ some (.inr (r, len, 4, k', a', st)) := by
    refine ⟨fun ci2 f r k' d fs2 h1 h2 => ?_, fun r len k' a' st h1 => ?_⟩
    · rw [hKT] at h1
      cases h1
    · rw [hKT] at h1
      simp only [Option.some.injEq, Sum.inr.injEq, Prod.mk.injEq] at h1
      omega
  have := ab_grown (p := p) (l := l) (e := e) (R := R) (args := args) (below := below) (meth := meth) (cd := cd) (m := m) (ad' := ad') (ac' := ac') (H1 := H1) (locs1 := locs) (S' := S) hnd ha hno hI hF (fun v hv => List.mem_cons_of_mem _ hv) had (fun r2 len2 t2 k2 a2 st2 h1 => by
      rw [hKT] at h1
      simp only [Option.some.injEq, Sum.inr.injEq, Prod.mk.injEq] at h1
      obtain ⟨rfl, rfl, rfl, rfl, rfl, rfl⟩ := h1
      rw [hself2]
      exact hK1.2 0 (cA, .object (ab_cn KT cl k')) rfl) w (by rw [hself, hcell]; exact hP1) (by rw [hself, hcell]; exact hD1) hS1
  rw [hself, hlen] at this
  exact this
end
end
section
/-! Every instruction of the small machine. -/
section
variable {p : Program} {l : Launch} {e : Env} {R : Room} {s : State} {m0 : MethodId} {args : Array Value} {below : List Frame} {meth : Method} {cd : Code} {Q : State → Prop} {cc : ByteArray}
variable {KT : List KS} {cl : List vw_C} {D : va_G} {sc : Option (Nat × (Nat → Int32))} {b : Nat} {A : Nat → Prop} {H0 : Heap} {ks0 : List Nat} {g0 h0 nL G Hs : Nat} {ad0 ac0 : Nat → Nat} {Ts : List Cond} {own : String}
def ab_swok (pc : Nat) (dflt lo hi : Int) (offs : Array Int) (q : List (Int32 × Nat) × Nat) : Prop :=
  (∀ z ∈ q.1, ¬ z.1.toInt < lo ∧ ¬ hi < z.1.toInt ∧ ∃ off, offs[(z.1.toInt - lo).toNat]? = some off ∧ (pc : Int) + off = (z.2 : Int)) ∧ (∀ k : Nat, k < (hi - lo + 1).toNat → ∃ z ∈ q.1, z.1.toInt = lo + k) ∧ (pc : Int) + dflt = (q.2 : Int)
def ab_inv (i : Instr) : Bool := match i with
  | .invokevirtual _ | .invokespecial _ | .invokestatic _ => true
  | _ => false
/-- an entry of a method's table is what the code and the words say -/
def ab_E (KT : List KS) (cl : List vw_C) (Ts : List Cond) (own nm : String) (ret : Option FieldType) (cc : ByteArray) (sw : Nat → List (Int32 × Nat) × Nat) (nL pc : Nat) (i : Instr) (a b' d : Nat) (x : Int32) : Prop := match i with
  | .iconst n => decode cc pc = .ok (.iconst n, 1) ∧ Int32.ofInt n = x
  | .bipush n => decode cc pc = .ok (.bipush n, 2) ∧ (Int8.ofInt n).toInt32 = x
  | .sipush n => decode cc pc = .ok (.sipush n, 3) ∧ (Int16.ofInt n).toInt32 = x
  | .ldc idx => decode cc pc = .ok (.ldc idx, 2) ∧ Cond.constant own idx x ∈ Ts
  | .lconst n => decode cc pc = .ok (.lconst n, 1) ∧ Int64.ofNat (n : Nat) = Int64.ofNat a
  | .ldc2_w idx => decode cc pc = .ok (.ldc2_w idx, 3) ∧ Cond.constantLong own idx (Int64.ofNat a) ∈ Ts
  | .iload j => decode cc pc = .ok (.iload j, 2) ∧ j = a
  | .iload_n j => decode cc pc = .ok (.iload_n j, 1) ∧ (j : Nat) = a
  | .lload j => decode cc pc = .ok (.lload j, 2) ∧ j = a
  | .lload_n j => decode cc pc = .ok (.lload_n j, 1) ∧ (j : Nat) = a
  | .aload j => decode cc pc = .ok (.aload j, 2) ∧ j = a
  | .aload_n j => decode cc pc = .ok (.aload_n j, 1) ∧ (j : Nat) = a
  | .istore j => decode cc pc = .ok (.istore j, 2) ∧ j = a ∧ a < nL
  | .istore_n j => decode cc pc = .ok (.istore_n j, 1) ∧ (j : Nat) = a ∧ a < nL
  | .lstore j => decode cc pc = .ok (.lstore j, 2) ∧ j = a ∧ a + 1 < nL
  | .lstore_n j => decode cc pc = .ok (.lstore_n j, 1) ∧ (j : Nat) = a ∧ a + 1 < nL
  | .astore j => decode cc pc = .ok (.astore j, 2) ∧ j = a ∧ a < nL
  | .astore_n j => decode cc pc = .ok (.astore_n j, 1) ∧ (j : Nat) = a ∧ a < nL
  | .iinc j n => decode cc pc = .ok (.iinc j n, 3) ∧ j = a ∧ Int32.ofInt n = x ∧ a < nL
  | .goto off => decode cc pc = .ok (.goto off, 3) ∧ (pc : Int) + off = (a : Int)
  | .ifCond c off => decode cc pc = .ok (.ifCond c off, 3) ∧ (pc : Int) + off = (a : Int)
  | .if_icmp c off => decode cc pc = .ok (.if_icmp c off, 3) ∧ (pc : Int) + off = (a : Int)
  | .ifnull off => decode cc pc = .ok (.ifnull off, 3) ∧ (pc : Int) + off = (a : Int)
  | .ifnonnull off => decode cc pc = .ok (.ifnonnull off, 3) ∧ (pc : Int) + off = (a : Int)
  | .tableswitch dflt lo hi offs => (∃ len, decode cc pc = .ok (.tableswitch dflt lo hi offs, len)) ∧ ab_swok pc dflt lo hi offs (sw pc)
  | .getfield idx => decode cc pc = .ok (.getfield idx, 3) ∧ ab_fld cl Ts own idx a b'
  | .putfield idx => decode cc pc = .ok (.putfield idx, 3) ∧ ∃ ty, ab_fldp cl Ts own nm idx a b' ty ∧ ∀ (k t r k' d' : Nat), ab_fs KT a b' k = some (t, r, k', d') → (t = 0 → ty = .int) ∧ (t = 1 → ty = .boolean) ∧ (t = 2 → ((∃ n, ty = .object n) ∨ ∃ t, ty = .array t) ∧ k' ≠ 0)
  | .new idx => decode cc pc = .ok (.new idx, 3) ∧ ab_newok KT cl Ts own idx a
  | .newarray at' => decode cc pc = .ok (.newarray at', 2) ∧ ab_naok KT cl Ts at' a
  | .anewarray idx => decode cc pc = .ok (.anewarray idx, 3) ∧ ab_nqok KT cl Ts own idx a
  | .ireturn => decode cc pc = .ok (.ireturn, 1) ∧ (d = 0 → ret = some .int) ∧ (d ≠ 0 → ret = some .boolean)
  | .return_ => decode cc pc = .ok (.return_, 1) ∧ ret = none
  | .invokevirtual _ => True
  | .invokespecial _ => True
  | .invokestatic _ => True
  | i => decode cc pc = .ok (i, 1)
theorem ab_swk {K : Nat → Option Rs} {v : Int32} {d : Nat} {ρ : Rs} : ∀ (q : List (Int32 × Nat)), ab_sw v d K q = some ρ → (∃ t, (v, t) ∈ q ∧ K t = some ρ) ∨ ((∀ z ∈ q, v ≠ z.1) ∧ K d = some ρ)
  | [], h => Or.inr ⟨fun z hz => (by cases hz), h⟩
  | (x, t) :: r, h => by
    unfold ab_sw at h
    by_cases hv : v = x
    · rw [if_pos hv] at h
      subst hv
      exact Or.inl ⟨t, List.mem_cons_self, h⟩
    · rw [if_neg hv] at h
      rcases ab_swk r h with ⟨t', h1, h2⟩ | ⟨h1, h2⟩
      · exact Or.inl ⟨t', List.mem_cons_of_mem _ h1, h2⟩
      · refine Or.inr ⟨fun z hz => ?_, h2⟩
        rcases List.mem_cons.mp hz with rfl | hz
        · exact hv
        · exact h1 z hz
/-- arrays of references hold objects of known classes -/
def ab_k3 (KT : List KS) (cl : List vw_C) : Prop := ∀ (k r len k2 a st : Nat), KT[k]? = some (.inr (r, len, 3, k2, a, st)) → k2 ≠ 0 ∧ ∃ (ci : Nat) (fs : List (Nat × Nat × Nat × Nat)) (z : vw_C), KT[k2]? = some (.inl (ci, fs)) ∧ cl[ci]? = some z
set_option maxHeartbeats 4000000 in
theorem ab_step (hX : ab_X s) (hx : p.tables.exec = Jvm.exec) (hb : cd.code = cc) (hts : ∀ w ∈ Ts, w.before args s = true) (hown : s.vm.findClass own = some m0.cls) (hK0 : va_K D cl [] s) (h00 : KT[0]? = some (.inr (0, 0, 9, 0, 0, 0))) (hnd : ab_nd KT) (hk3 : ab_k3 KT cl) (hA : ∀ q, H0.size ≤ q → A q) (hG : G ≤ g0 + R.cells) (hHs : Hs ≤ h0 + R.slots)
    (hsc : ∀ z, sc = some z → va_X b z.1 z.2 s H0 ∧ b < H0.size ∧ ¬ A b) (hlocks : meth.locks = false)
    {Qc : Array Value → State → Outcome → State → Prop} {free : Addr → Prop} {mc ms : Nat} (hfree : ∀ q, A q → free q) {sw : Nat → List (Int32 × Nat) × Nat} {eV : Nat → List AV → Mm → Option Mm} {eI : Nat → List AV → Mm → Option (Int32 × Mm)} {ρ : Rs} {K : Nat → List (Option AV) → List AV → Mm → Option Rs}
    (hK : ∀ (pc' : Nat) (L' : List (Option AV)) (S' : List AV) (m' : Mm), K pc' L' S' m' = some ρ → ab_W p l e R s m0 args below meth cd (MQ below Qc args s mc ms free) KT cl D sc b A H0 ks0 g0 h0 nL G Hs ad0 ac0 (pc', L', S', m'))
    (hret : ∀ (r : Option AV) (m' : Mm), ρ = .inl (r, m') → mc + g0 = ab_gc m' ∧ ms + h0 = ab_gs KT m' ∧ ab_gc m' ≤ G ∧ ab_gs KT m' ≤ Hs ∧ ∀ (ad ac : Nat → Nat) (H : Heap) (locs : List Loc) (cells slots : Nat) (t : State), ab_I KT cl D s A H0 ks0 ad0 ac0 g0 h0 ad ac m' H locs cells slots → (∀ v, r = some v → ab_vv sc m'.2.2.2.1 v) → t.heap = H → s.WarmedH t.vm → Qc args s (.returned (r.map (ab_v ad b))) t)
    {i : Instr} {a b' d pc : Nat} {x : Int32} {L : List (Option AV)} {S : List AV} {m : Mm}
    (hcl : ab_inv i = true → (∀ (L : List (Option AV)) (S : List AV) (m m' : Mm), ab_wd (S.drop b') ≤ 8 → eV a (S.take b').reverse m = some m' → ab_W p l e R s m0 args below meth cd (MQ below Qc args s mc ms free) KT cl D sc b A H0 ks0 g0 h0 nL G Hs ad0 ac0 (pc + 3, L, S.drop b', m') → ab_W p l e R s m0 args below meth cd (MQ below Qc args s mc ms free) KT cl D sc b A H0 ks0 g0 h0 nL G Hs ad0 ac0 (pc, L, S, m)) ∧
      (∀ (L : List (Option AV)) (S : List AV) (m : Mm) (q : Int32 × Mm), ab_wd (S.drop b') ≤ 8 → eI a (S.take b').reverse m = some q → ab_W p l e R s m0 args below meth cd (MQ below Qc args s mc ms free) KT cl D sc b A H0 ks0 g0 h0 nL G Hs ad0 ac0 (pc + 3, L, .inl q.1 :: S.drop b', q.2) → ab_W p l e R s m0 args below meth cd (MQ below Qc args s mc ms free) KT cl D sc b A H0 ks0 g0 h0 nL G Hs ad0 ac0 (pc, L, S, m)))
    (hE : ab_E KT cl Ts own meth.name meth.sig.returnType cc sw nL pc i a b' d x) (h : ab_st KT sc sw eV eI i a b' d x pc L S m K = some ρ) :
    ab_W p l e R s m0 args below meth cd (MQ below Qc args s mc ms free) KT cl D sc b A H0 ks0 g0 h0 nL G Hs ad0 ac0 (pc, L, S, m) := by
  have ne0 : ∀ {k : Nat} {z : Nat × Nat × Nat × Nat × Nat × Nat}, KT[k]? = some (.inr z) → z.2.2.1 ≠ 9 → k ≠ 0 := by
    intro k z h1 h2 h3
    subst h3
    rw [h00] at h1
    simp only [Option.some.injEq, Sum.inr.injEq] at h1
    subst h1
    exact h2 rfl
  cases i with
  | iconst n =>
    exact ab_pure (hK _ _ _ _ h) (fun _ h => ab_c1 trivial h) (fun ad ls H locs cells slots hL k => lv_iconst hx hb hE.1 hE.2 k)
  | bipush n =>
    exact ab_pure (hK _ _ _ _ h) (fun _ h => ab_c1 trivial h) (fun ad ls H locs cells slots hL k => lv_bipush hx hb hE.1 hE.2 k)
  | sipush n =>
    exact ab_pure (hK _ _ _ _ h) (fun _ h => ab_c1 trivial h) (fun ad ls H locs cells slots hL k => lv_sipush hx hb hE.1 hE.2 k)
  | ldc idx =>
    exact ab_pure (hK _ _ _ _ h) (fun _ h => ab_c1 trivial h) (fun ad ls H locs cells slots hL k => lv_ldc hx hb hown (hts _ hE.2) hE.1 k)
  | lconst n =>
    exact ab_pure (hK _ _ _ _ h) (fun _ h => ab_c1 trivial h) (fun ad ls H locs cells slots hL k => lv_lconst hx hb hE.1 hE.2 k)
  | ldc2_w idx =>
    exact ab_pure (hK _ _ _ _ h) (fun _ h => ab_c1 trivial h) (fun ad ls H locs cells slots hL k => lv_ldc2 hx hb hown (hts _ hE.2) hE.1 k)
  | iload j =>
    obtain ⟨v, hv, h⟩ := ab_Li_inv h
    exact ab_pure (hK _ _ _ _ h) (fun _ h => ab_c1 trivial h) (fun ad ls H locs cells slots hL k => lv_iload hx hb hE.1 (by rw [hE.2]; exact hL a _ hv) k)
  | iload_n j =>
    obtain ⟨v, hv, h⟩ := ab_Li_inv h
    exact ab_pure (hK _ _ _ _ h) (fun _ h => ab_c1 trivial h) (fun ad ls H locs cells slots hL k => lv_iload_n hx hb hE.1 hE.2 (hL a _ hv) k)
  | lload j =>
    obtain ⟨v, hv, h⟩ := ab_Ll_inv h
    exact ab_pure (hK _ _ _ _ h) (fun _ h => ab_c1 trivial h) (fun ad ls H locs cells slots hL k => lv_lload hx hb hE.1 (by rw [hE.2]; exact hL a _ hv) k)
  | lload_n j =>
    obtain ⟨v, hv, h⟩ := ab_Ll_inv h
    exact ab_pure (hK _ _ _ _ h) (fun _ h => ab_c1 trivial h) (fun ad ls H locs cells slots hL k => lv_lload_n hx hb hE.1 hE.2 (hL a _ hv) k)
  | aload j =>
    obtain ⟨k, o, hv, h⟩ := ab_Lr_inv h
    cases o with
    | none => exact ab_pure (hK _ _ _ _ h) (fun hl h => ab_c1 (hl a _ hv) h) (fun ad ls H locs cells slots hL k => lv_aloadN hx hb hE.1 (by rw [hE.2]; exact hL a _ hv) k)
    | some q => exact ab_pure (hK _ _ _ _ h) (fun hl h => ab_c1 (hl a _ hv) h) (fun ad ls H locs cells slots hL k => lv_aload hx hb hE.1 (by rw [hE.2]; exact hL a _ hv) k)
  | aload_n j =>
    obtain ⟨k, o, hv, h⟩ := ab_Lr_inv h
    cases o with
    | none => exact ab_pure (hK _ _ _ _ h) (fun hl h => ab_c1 (hl a _ hv) h) (fun ad ls H locs cells slots hL k => lv_aload_nN hx hb hE.1 hE.2 (hL a _ hv) k)
    | some q => exact ab_pure (hK _ _ _ _ h) (fun hl h => ab_c1 (hl a _ hv) h) (fun ad ls H locs cells slots hL k => lv_aload_n hx hb hE.1 hE.2 (hL a _ hv) k)
  | istore j =>
    obtain ⟨v, S', hSe, h1⟩ := ab_i1_inv h
    clear h
    subst hSe
    have h := h1
    clear h1
    obtain ⟨hd, rfl, hn⟩ := hE
    exact ab_sto (hK _ _ _ _ h) (fun _ h => ⟨trivial, ab_t1 h⟩) (fun ad ls H locs cells slots hL _ k => lv_istore hx hb hd hL hn rfl k)
  | istore_n j =>
    obtain ⟨v, S', hSe, h1⟩ := ab_i1_inv h
    clear h
    subst hSe
    have h := h1
    clear h1
    obtain ⟨hd, hj, hn⟩ := hE
    exact ab_sto (hK _ _ _ _ h) (fun _ h => ⟨trivial, ab_t1 h⟩) (fun ad ls H locs cells slots hL _ k => lv_istore_n hx hb hd hj hL hn rfl k)
  | lstore j =>
    obtain ⟨v, S', hSe, h1⟩ := ab_l1_inv h
    clear h
    subst hSe
    have h := h1
    clear h1
    obtain ⟨hd, rfl, hn⟩ := hE
    exact ab_sto2 (hK _ _ _ _ h) (fun h => ⟨trivial, ab_t1 h⟩) (fun ad ls H locs cells slots hL k => lv_lstore hx hb hd hL hn rfl k)
  | lstore_n j =>
    obtain ⟨v, S', hSe, h1⟩ := ab_l1_inv h
    clear h
    subst hSe
    have h := h1
    clear h1
    obtain ⟨hd, hj, hn⟩ := hE
    exact ab_sto2 (hK _ _ _ _ h) (fun h => ⟨trivial, ab_t1 h⟩) (fun ad ls H locs cells slots hL k => lv_lstore_n hx hb hd hj hL hn rfl k)
  | astore j =>
    obtain ⟨k, o, S', hSe, h1⟩ := ab_r1_inv h
    clear h
    subst hSe
    have h := h1
    clear h1
    obtain ⟨q, hSe, h1⟩ := Option.bind_eq_some_iff.mp h
    clear h
    subst hSe
    have h := h1
    clear h1
    obtain ⟨hd, rfl, hn⟩ := hE
    exact ab_sto (hK _ _ _ _ h) (fun _ h => ⟨ab_h1 h, ab_t1 h⟩) (fun ad ls H locs cells slots hL _ k => lv_astore hx hb hd hL hn rfl k)
  | astore_n j =>
    obtain ⟨k, o, S', hSe, h1⟩ := ab_r1_inv h
    clear h
    subst hSe
    have h := h1
    clear h1
    obtain ⟨q, hSe, h1⟩ := Option.bind_eq_some_iff.mp h
    clear h
    subst hSe
    have h := h1
    clear h1
    obtain ⟨hd, hj, hn⟩ := hE
    exact ab_sto (hK _ _ _ _ h) (fun _ h => ⟨ab_h1 h, ab_t1 h⟩) (fun ad ls H locs cells slots hL _ k => lv_astore_n hx hb hd hj hL hn rfl k)
  | iinc j n =>
    obtain ⟨v, hv, h⟩ := ab_Li_inv h
    obtain ⟨hd, rfl, hxn, hn⟩ := hE
    exact ab_sto (hK _ _ _ _ h) (fun _ h => ⟨trivial, h⟩) (fun ad ls H locs cells slots hL _ k => by
      obtain ⟨n', hn'⟩ := List.getElem?_of_mem (ab_mem_al (ad := ad) (b := b) (q := (j, Value.int v)).mpr ⟨.inl v, hv, rfl⟩)
      exact lv_iinc hx hb hd hL hn' (by rw [hxn]) hn rfl k)
  | iadd =>
    obtain ⟨y, z, S', hSe, h1⟩ := ab_i2_inv h
    clear h
    subst hSe
    have h := h1
    clear h1
    exact ab_pure (hK _ _ _ _ h) (fun _ h => ab_c1 trivial (ab_t1 (ab_t1 h))) (fun ad ls H locs cells slots hL k => lv_iadd hx hb hE k)
  | isub =>
    obtain ⟨y, z, S', hSe, h1⟩ := ab_i2_inv h
    clear h
    subst hSe
    have h := h1
    clear h1
    exact ab_pure (hK _ _ _ _ h) (fun _ h => ab_c1 trivial (ab_t1 (ab_t1 h))) (fun ad ls H locs cells slots hL k => lv_isub hx hb hE k)
  | imul =>
    obtain ⟨y, z, S', hSe, h1⟩ := ab_i2_inv h
    clear h
    subst hSe
    have h := h1
    clear h1
    exact ab_pure (hK _ _ _ _ h) (fun _ h => ab_c1 trivial (ab_t1 (ab_t1 h))) (fun ad ls H locs cells slots hL k => lv_imul hx hb hE k)
  | iand =>
    obtain ⟨y, z, S', hSe, h1⟩ := ab_i2_inv h
    clear h
    subst hSe
    have h := h1
    clear h1
    exact ab_pure (hK _ _ _ _ h) (fun _ h => ab_c1 trivial (ab_t1 (ab_t1 h))) (fun ad ls H locs cells slots hL k => lv_iand hx hb hE k)
  | ior =>
    obtain ⟨y, z, S', hSe, h1⟩ := ab_i2_inv h
    clear h
    subst hSe
    have h := h1
    clear h1
    exact ab_pure (hK _ _ _ _ h) (fun _ h => ab_c1 trivial (ab_t1 (ab_t1 h))) (fun ad ls H locs cells slots hL k => lv_ior hx hb hE k)
  | ixor =>
    obtain ⟨y, z, S', hSe, h1⟩ := ab_i2_inv h
    clear h
    subst hSe
    have h := h1
    clear h1
    exact ab_pure (hK _ _ _ _ h) (fun _ h => ab_c1 trivial (ab_t1 (ab_t1 h))) (fun ad ls H locs cells slots hL k => lv_ixor hx hb hE k)
  | ishl =>
    obtain ⟨y, z, S', hSe, h1⟩ := ab_i2_inv h
    clear h
    subst hSe
    have h := h1
    clear h1
    exact ab_pure (hK _ _ _ _ h) (fun _ h => ab_c1 trivial (ab_t1 (ab_t1 h))) (fun ad ls H locs cells slots hL k => lv_ishl hx hb hE k)
  | ishr =>
    obtain ⟨y, z, S', hSe, h1⟩ := ab_i2_inv h
    clear h
    subst hSe
    have h := h1
    clear h1
    exact ab_pure (hK _ _ _ _ h) (fun _ h => ab_c1 trivial (ab_t1 (ab_t1 h))) (fun ad ls H locs cells slots hL k => lv_ishr hx hb hE k)
  | iushr =>
    obtain ⟨y, z, S', hSe, h1⟩ := ab_i2_inv h
    clear h
    subst hSe
    have h := h1
    clear h1
    exact ab_pure (hK _ _ _ _ h) (fun _ h => ab_c1 trivial (ab_t1 (ab_t1 h))) (fun ad ls H locs cells slots hL k => lv_iushr hx hb hE rfl k)
  | idiv =>
    obtain ⟨y, z, S', hSe, h1⟩ := ab_i2_inv h
    clear h
    subst hSe
    have h := h1
    clear h1
    by_cases hy : y = 0
    · rw [if_pos hy] at h
      cases h
    · rw [if_neg hy] at h
      exact ab_pure (hK _ _ _ _ h) (fun _ h => ab_c1 trivial (ab_t1 (ab_t1 h))) (fun ad ls H locs cells slots hL k => lv_idiv hx hb hE hy k)
  | irem =>
    obtain ⟨y, z, S', hSe, h1⟩ := ab_i2_inv h
    clear h
    subst hSe
    have h := h1
    clear h1
    by_cases hy : y = 0
    · rw [if_pos hy] at h
      cases h
    · rw [if_neg hy] at h
      exact ab_pure (hK _ _ _ _ h) (fun _ h => ab_c1 trivial (ab_t1 (ab_t1 h))) (fun ad ls H locs cells slots hL k => lv_irem hx hb hE hy k)
  | ladd =>
    obtain ⟨y, z, S', hSe, h1⟩ := ab_l2_inv h
    clear h
    subst hSe
    have h := h1
    clear h1
    exact ab_pure (hK _ _ _ _ h) (fun _ h => ab_c1 trivial (ab_t1 (ab_t1 h))) (fun ad ls H locs cells slots hL k => lv_ladd hx hb hE k)
  | lsub =>
    obtain ⟨y, z, S', hSe, h1⟩ := ab_l2_inv h
    clear h
    subst hSe
    have h := h1
    clear h1
    exact ab_pure (hK _ _ _ _ h) (fun _ h => ab_c1 trivial (ab_t1 (ab_t1 h))) (fun ad ls H locs cells slots hL k => lv_lsub hx hb hE k)
  | land =>
    obtain ⟨y, z, S', hSe, h1⟩ := ab_l2_inv h
    clear h
    subst hSe
    have h := h1
    clear h1
    exact ab_pure (hK _ _ _ _ h) (fun _ h => ab_c1 trivial (ab_t1 (ab_t1 h))) (fun ad ls H locs cells slots hL k => lv_land hx hb hE k)
  | lor =>
    obtain ⟨y, z, S', hSe, h1⟩ := ab_l2_inv h
    clear h
    subst hSe
    have h := h1
    clear h1
    exact ab_pure (hK _ _ _ _ h) (fun _ h => ab_c1 trivial (ab_t1 (ab_t1 h))) (fun ad ls H locs cells slots hL k => lv_lor hx hb hE k)
  | lcmp =>
    obtain ⟨y, z, S', hSe, h1⟩ := ab_l2_inv h
    clear h
    subst hSe
    have h := h1
    clear h1
    exact ab_pure (hK _ _ _ _ h) (fun _ h => ab_c1 trivial (ab_t1 (ab_t1 h))) (fun ad ls H locs cells slots hL k => W.lcmp hx hb hE k)
  | lshl =>
    obtain ⟨y, z, S', hSe, h1⟩ := ab_il_inv h
    clear h
    subst hSe
    have h := h1
    clear h1
    exact ab_pure (hK _ _ _ _ h) (fun _ h => ab_c1 trivial (ab_t1 (ab_t1 h))) (fun ad ls H locs cells slots hL k => lv_lshl hx hb hE rfl k)
  | lshr =>
    obtain ⟨y, z, S', hSe, h1⟩ := ab_il_inv h
    clear h
    subst hSe
    have h := h1
    clear h1
    exact ab_pure (hK _ _ _ _ h) (fun _ h => ab_c1 trivial (ab_t1 (ab_t1 h))) (fun ad ls H locs cells slots hL k => lv_lshr hx hb hE rfl k)
  | lushr =>
    obtain ⟨y, z, S', hSe, h1⟩ := ab_il_inv h
    clear h
    subst hSe
    have h := h1
    clear h1
    exact ab_pure (hK _ _ _ _ h) (fun _ h => ab_c1 trivial (ab_t1 (ab_t1 h))) (fun ad ls H locs cells slots hL k => lv_lushr hx hb hE rfl k)
  | i2l =>
    obtain ⟨y, S', hSe, h1⟩ := ab_i1_inv h
    clear h
    subst hSe
    have h := h1
    clear h1
    exact ab_pure (hK _ _ _ _ h) (fun _ h => ab_c1 trivial (ab_t1 h)) (fun ad ls H locs cells slots hL k => lv_i2l hx hb hE rfl k)
  | l2i =>
    obtain ⟨y, S', hSe, h1⟩ := ab_l1_inv h
    clear h
    subst hSe
    have h := h1
    clear h1
    exact ab_pure (hK _ _ _ _ h) (fun _ h => ab_c1 trivial (ab_t1 h)) (fun ad ls H locs cells slots hL k => lv_l2i hx hb hE rfl k)
  | dup =>
    by_cases hd : d = 0
    · have h : (if d = 0 then ab_i1 S (fun y S' => K (pc + 1) L (.inl y :: .inl y :: S') m) else ab_r1 S (fun k o S' => K (pc + 1) L (.inr (.inr (k, o)) :: .inr (.inr (k, o)) :: S') m)) = some ρ := h
      rw [if_pos hd] at h
      obtain ⟨y, S', hSe, h1⟩ := ab_i1_inv h
      clear h
      subst hSe
      have h := h1
      clear h1
      exact ab_pure (hK _ _ _ _ h) (fun _ h => ab_c1 trivial h) (fun ad ls H locs cells slots hL k => lv_dup hx hb hE rfl k)
    · have h : (if d = 0 then ab_i1 S (fun y S' => K (pc + 1) L (.inl y :: .inl y :: S') m) else ab_r1 S (fun k o S' => K (pc + 1) L (.inr (.inr (k, o)) :: .inr (.inr (k, o)) :: S') m)) = some ρ := h
      rw [if_neg hd] at h
      obtain ⟨k, o, S', hSe, h1⟩ := ab_r1_inv h
      clear h
      subst hSe
      have h := h1
      clear h1
      exact ab_pure (hK _ _ _ _ h) (fun _ h => ab_c1 (ab_h1 h) h) (fun ad ls H locs cells slots hL k' => lv_dup hx hb hE (ab_cat (fun y hy => by cases hy)) k')
  | dup2 =>
    obtain ⟨j, k, o, S', hSe, h1⟩ := ab_ir_inv h
    clear h
    subst hSe
    have h := h1
    clear h1
    exact ab_pure (hK _ _ _ _ h) (fun _ h => ab_c1 trivial (ab_c1 (ab_h1 (ab_t1 h)) h)) (fun ad ls H locs cells slots hL k' => lv_dup2_11 hx hb hE rfl (ab_cat (fun y hy => by cases hy)) k')
  | pop =>
    obtain ⟨y, S', hSe, h1⟩ := ab_i1_inv h
    clear h
    subst hSe
    have h := h1
    clear h1
    exact ab_pure (hK _ _ _ _ h) (fun _ h => ab_t1 h) (fun ad ls H locs cells slots hL k => lv_pop hx hb hE rfl k)
  | goto off =>
    exact ab_pure (hK _ _ _ _ h) (fun _ h => h) (fun ad ls H locs cells slots hL k => lv_goto hx hb hE.1 hE.2 k)
  | ifCond c off =>
    cases c with
    | eq =>
      obtain ⟨v, S', hSe, h1⟩ := ab_i1_inv h
      clear h
      subst hSe
      have h := h1
      clear h1
      by_cases hc : v = 0
      · rw [if_pos hc] at h
        exact ab_pure (hK _ _ _ _ h) (fun _ h => ab_t1 h) (fun ad ls H locs cells slots hL k => lv_if_eq hx hb hE.1 hE.2 (fun _ => k) (fun z => absurd hc z))
      · rw [if_neg hc] at h
        exact ab_pure (hK _ _ _ _ h) (fun _ h => ab_t1 h) (fun ad ls H locs cells slots hL k => lv_if_eq hx hb hE.1 hE.2 (fun z => absurd z hc) (fun _ => k))
    | ne =>
      obtain ⟨v, S', hSe, h1⟩ := ab_i1_inv h
      clear h
      subst hSe
      have h := h1
      clear h1
      by_cases hc : v = 0
      · rw [if_pos hc] at h
        exact ab_pure (hK _ _ _ _ h) (fun _ h => ab_t1 h) (fun ad ls H locs cells slots hL k => lv_if_ne hx hb hE.1 hE.2 (fun z => absurd hc z) (fun _ => k))
      · rw [if_neg hc] at h
        exact ab_pure (hK _ _ _ _ h) (fun _ h => ab_t1 h) (fun ad ls H locs cells slots hL k => lv_if_ne hx hb hE.1 hE.2 (fun _ => k) (fun z => absurd z hc))
    | lt =>
      obtain ⟨v, S', hSe, h1⟩ := ab_i1_inv h
      clear h
      subst hSe
      have h := h1
      clear h1
      by_cases hc : v < 0
      · rw [if_pos hc] at h
        exact ab_pure (hK _ _ _ _ h) (fun _ h => ab_t1 h) (fun ad ls H locs cells slots hL k => lv_if_lt hx hb hE.1 hE.2 (fun _ => k) (fun z => absurd hc z))
      · rw [if_neg hc] at h
        exact ab_pure (hK _ _ _ _ h) (fun _ h => ab_t1 h) (fun ad ls H locs cells slots hL k => lv_if_lt hx hb hE.1 hE.2 (fun z => absurd z hc) (fun _ => k))
    | ge =>
      obtain ⟨v, S', hSe, h1⟩ := ab_i1_inv h
      clear h
      subst hSe
      have h := h1
      clear h1
      by_cases hc : 0 ≤ v
      · rw [if_pos hc] at h
        exact ab_pure (hK _ _ _ _ h) (fun _ h => ab_t1 h) (fun ad ls H locs cells slots hL k => lv_if_ge hx hb hE.1 hE.2 (fun _ => k) (fun z => absurd hc z))
      · rw [if_neg hc] at h
        exact ab_pure (hK _ _ _ _ h) (fun _ h => ab_t1 h) (fun ad ls H locs cells slots hL k => lv_if_ge hx hb hE.1 hE.2 (fun z => absurd z hc) (fun _ => k))
    | gt =>
      obtain ⟨v, S', hSe, h1⟩ := ab_i1_inv h
      clear h
      subst hSe
      have h := h1
      clear h1
      by_cases hc : 0 < v
      · rw [if_pos hc] at h
        exact ab_pure (hK _ _ _ _ h) (fun _ h => ab_t1 h) (fun ad ls H locs cells slots hL k => lv_if_gt hx hb hE.1 hE.2 (fun _ => k) (fun z => absurd hc z))
      · rw [if_neg hc] at h
        exact ab_pure (hK _ _ _ _ h) (fun _ h => ab_t1 h) (fun ad ls H locs cells slots hL k => lv_if_gt hx hb hE.1 hE.2 (fun z => absurd z hc) (fun _ => k))
    | le =>
      obtain ⟨v, S', hSe, h1⟩ := ab_i1_inv h
      clear h
      subst hSe
      have h := h1
      clear h1
      by_cases hc : v ≤ 0
      · rw [if_pos hc] at h
        exact ab_pure (hK _ _ _ _ h) (fun _ h => ab_t1 h) (fun ad ls H locs cells slots hL k => lv_if_le hx hb hE.1 hE.2 (fun _ => k) (fun z => absurd hc z))
      · rw [if_neg hc] at h
        exact ab_pure (hK _ _ _ _ h) (fun _ h => ab_t1 h) (fun ad ls H locs cells slots hL k => lv_if_le hx hb hE.1 hE.2 (fun z => absurd z hc) (fun _ => k))
  | if_icmp c off =>
    cases c with
    | eq =>
      obtain ⟨y, z, S', hSe, h1⟩ := ab_i2_inv h
      clear h
      subst hSe
      have h := h1
      clear h1
      by_cases hc : z = y
      · rw [if_pos hc] at h
        exact ab_pure (hK _ _ _ _ h) (fun _ h => ab_t1 (ab_t1 h)) (fun ad ls H locs cells slots hL k => lv_icmp_eq hx hb hE.1 hE.2 (fun _ => k) (fun z => absurd hc z))
      · rw [if_neg hc] at h
        exact ab_pure (hK _ _ _ _ h) (fun _ h => ab_t1 (ab_t1 h)) (fun ad ls H locs cells slots hL k => lv_icmp_eq hx hb hE.1 hE.2 (fun z => absurd z hc) (fun _ => k))
    | ne =>
      obtain ⟨y, z, S', hSe, h1⟩ := ab_i2_inv h
      clear h
      subst hSe
      have h := h1
      clear h1
      by_cases hc : z = y
      · rw [if_pos hc] at h
        exact ab_pure (hK _ _ _ _ h) (fun _ h => ab_t1 (ab_t1 h)) (fun ad ls H locs cells slots hL k => lv_icmp_ne hx hb hE.1 hE.2 (fun z => absurd hc z) (fun _ => k))
      · rw [if_neg hc] at h
        exact ab_pure (hK _ _ _ _ h) (fun _ h => ab_t1 (ab_t1 h)) (fun ad ls H locs cells slots hL k => lv_icmp_ne hx hb hE.1 hE.2 (fun _ => k) (fun z => absurd z hc))
    | lt =>
      obtain ⟨y, z, S', hSe, h1⟩ := ab_i2_inv h
      clear h
      subst hSe
      have h := h1
      clear h1
      by_cases hc : z < y
      · rw [if_pos hc] at h
        exact ab_pure (hK _ _ _ _ h) (fun _ h => ab_t1 (ab_t1 h)) (fun ad ls H locs cells slots hL k => lv_icmp_lt hx hb hE.1 hE.2 (fun _ => k) (fun z => absurd hc z))
      · rw [if_neg hc] at h
        exact ab_pure (hK _ _ _ _ h) (fun _ h => ab_t1 (ab_t1 h)) (fun ad ls H locs cells slots hL k => lv_icmp_lt hx hb hE.1 hE.2 (fun z => absurd z hc) (fun _ => k))
    | ge =>
      obtain ⟨y, z, S', hSe, h1⟩ := ab_i2_inv h
      clear h
      subst hSe
      have h := h1
      clear h1
      by_cases hc : y ≤ z
      · rw [if_pos hc] at h
        exact ab_pure (hK _ _ _ _ h) (fun _ h => ab_t1 (ab_t1 h)) (fun ad ls H locs cells slots hL k => lv_icmp_ge hx hb hE.1 hE.2 (fun _ => k) (fun z => absurd hc z))
      · rw [if_neg hc] at h
        exact ab_pure (hK _ _ _ _ h) (fun _ h => ab_t1 (ab_t1 h)) (fun ad ls H locs cells slots hL k => lv_icmp_ge hx hb hE.1 hE.2 (fun z => absurd z hc) (fun _ => k))
    | gt =>
      obtain ⟨y, z, S', hSe, h1⟩ := ab_i2_inv h
      clear h
      subst hSe
      have h := h1
      clear h1
      by_cases hc : y < z
      · rw [if_pos hc] at h
        exact ab_pure (hK _ _ _ _ h) (fun _ h => ab_t1 (ab_t1 h)) (fun ad ls H locs cells slots hL k => lv_icmp_gt hx hb hE.1 hE.2 (fun _ => k) (fun z => absurd hc z))
      · rw [if_neg hc] at h
        exact ab_pure (hK _ _ _ _ h) (fun _ h => ab_t1 (ab_t1 h)) (fun ad ls H locs cells slots hL k => lv_icmp_gt hx hb hE.1 hE.2 (fun z => absurd z hc) (fun _ => k))
    | le =>
      obtain ⟨y, z, S', hSe, h1⟩ := ab_i2_inv h
      clear h
      subst hSe
      have h := h1
      clear h1
      by_cases hc : z ≤ y
      · rw [if_pos hc] at h
        exact ab_pure (hK _ _ _ _ h) (fun _ h => ab_t1 (ab_t1 h)) (fun ad ls H locs cells slots hL k => lv_icmp_le hx hb hE.1 hE.2 (fun _ => k) (fun z => absurd hc z))
      · rw [if_neg hc] at h
        exact ab_pure (hK _ _ _ _ h) (fun _ h => ab_t1 (ab_t1 h)) (fun ad ls H locs cells slots hL k => lv_icmp_le hx hb hE.1 hE.2 (fun z => absurd z hc) (fun _ => k))
  | ifnull off =>
    obtain ⟨k, o, S', hSe, h1⟩ := ab_r1_inv h
    clear h
    subst hSe
    have h := h1
    clear h1
    cases o with
    | none => exact ab_pure (hK _ _ _ _ h) (fun _ h => ab_t1 h) (fun ad ls H locs cells slots hL k => lv_ifnullN hx hb hE.1 hE.2 k)
    | some q => exact ab_pure (hK _ _ _ _ h) (fun _ h => ab_t1 h) (fun ad ls H locs cells slots hL k => lv_ifnull hx hb hE.1 k)
  | ifnonnull off =>
    obtain ⟨k, o, S', hSe, h1⟩ := ab_r1_inv h
    clear h
    subst hSe
    have h := h1
    clear h1
    cases o with
    | none => exact ab_pure (hK _ _ _ _ h) (fun _ h => ab_t1 h) (fun ad ls H locs cells slots hL k => lv_ifnonnullN hx hb hE.1 k)
    | some q => exact ab_pure (hK _ _ _ _ h) (fun _ h => ab_t1 h) (fun ad ls H locs cells slots hL k => lv_ifnonnull hx hb hE.1 hE.2 k)
  | tableswitch dflt lo hi offs =>
    obtain ⟨v, S', hSe, h1⟩ := ab_i1_inv h
    clear h
    subst hSe
    have h := h1
    clear h1
    obtain ⟨⟨len, hd⟩, h1, h2, h3⟩ := hE
    rcases ab_swk _ h with ⟨t, ht, h⟩ | ⟨hno, h⟩
    · obtain ⟨g1, g2, off, g3, g4⟩ := h1 (v, t) ht
      exact ab_pure (hK _ _ _ _ h) (fun _ h => ab_t1 h) (fun ad ls H locs cells slots hL k => lv_tableIn hx hb hd g1 g2 g3 g4 k)
    · have hout : v.toInt < lo ∨ hi < v.toInt := by
        by_cases g1 : v.toInt < lo
        · exact Or.inl g1
        · by_cases g2 : hi < v.toInt
          · exact Or.inr g2
          · obtain ⟨z, hz, hzv⟩ := h2 (v.toInt - lo).toNat (by omega)
            exact absurd (Int32.toInt_inj.mp (by rw [hzv]; omega)) (hno z hz)
      exact ab_pure (hK _ _ _ _ h) (fun _ h => ab_t1 h) (fun ad ls H locs cells slots hL k => lv_tableOut hx hb hd hout h3 k)
  | getfield idx =>
    obtain ⟨k, o, S', hSe, h1⟩ := ab_r1_inv h
    clear h
    subst hSe
    have h := h1
    clear h1
    obtain ⟨q, hSe, h1⟩ := Option.bind_eq_some_iff.mp h
    clear h
    subst hSe
    have h := h1
    clear h1
    obtain ⟨t, r, k', d', v, hfs, h, hv⟩ := ab_gf_inv h
    exact ab_getf hx hb hts hown hK0 h00 hE.1 hE.2 hfs hv (hK _ _ _ _ h)
  | putfield idx =>
    obtain ⟨hdg, ty, hfl, hty⟩ := hE
    by_cases hd : d = 0
    · have h : (if d = 0 then ab_ir S (fun v k o S' => o.bind fun q => ab_pf (ab_fs KT a b' k) m q v fun m' => K (pc + 3) L S' m') else ab_rr S (fun k2 o2 k o S' => o.bind fun q => o2.bind fun q2 => ab_pr (ab_fs KT a b' k) m q k2 q2 fun m' => K (pc + 3) L S' m')) = some ρ := h
      rw [if_pos hd] at h
      obtain ⟨v, k, o, S', hSe, h1⟩ := ab_ir_inv h
      clear h
      subst hSe
      have h := h1
      clear h1
      obtain ⟨q, hSe, h1⟩ := Option.bind_eq_some_iff.mp h
      clear h
      subst hSe
      have h := h1
      clear h1
      obtain ⟨t, r, k', d', hfs, h, hv⟩ := ab_pf_inv h
      have ht := hty k t r k' d' hfs
      exact ab_putI hx hb hts hown hK0 h00 hnd hdg hfl hfs ⟨ht.1, ht.2.1⟩ hv (hK _ _ _ _ h)
    · have h : (if d = 0 then ab_ir S (fun v k o S' => o.bind fun q => ab_pf (ab_fs KT a b' k) m q v fun m' => K (pc + 3) L S' m') else ab_rr S (fun k2 o2 k o S' => o.bind fun q => o2.bind fun q2 => ab_pr (ab_fs KT a b' k) m q k2 q2 fun m' => K (pc + 3) L S' m')) = some ρ := h
      rw [if_neg hd] at h
      obtain ⟨k2, o2, k, o, S', hSe, h1⟩ := ab_rr_inv h
      clear h
      subst hSe
      have h := h1
      clear h1
      obtain ⟨q, hSe, h1⟩ := Option.bind_eq_some_iff.mp h
      clear h
      subst hSe
      have h := h1
      clear h1
      obtain ⟨q2, hSe, h1⟩ := Option.bind_eq_some_iff.mp h
      clear h
      subst hSe
      have h := h1
      clear h1
      obtain ⟨r, d', hfs, h⟩ := ab_pr_inv h
      have ht := hty k 2 r k2 d' hfs
      exact ab_putR hx hb hts hown hK0 h00 hnd hdg hfl hfs (ht.2.2 rfl).1 (ht.2.2 rfl).2 (hK _ _ _ _ h)
  | iaload =>
    obtain ⟨j, k, o, S', hSe, h1⟩ := ab_ir_inv h
    clear h
    subst hSe
    have h := h1
    clear h1
    by_cases hk0 : k = 0
    · rw [if_pos hk0] at h
      subst hk0
      obtain ⟨q, hSe, h1⟩ := Option.bind_eq_some_iff.mp h
      clear h
      subst hSe
      have h := h1
      clear h1
      obtain ⟨z, hz, h1⟩ := Option.bind_eq_some_iff.mp h
      clear h
      have h := h1
      clear h1
      obtain ⟨i, hi, h1⟩ := Option.bind_eq_some_iff.mp h
      clear h
      have h := h1
      clear h1
      exact ab_sld hx hb (hsc z hz) hE hi (fun z => by cases z) (hK _ _ _ _ h)
    · rw [if_neg hk0] at h
      obtain ⟨q, hSe, h1⟩ := Option.bind_eq_some_iff.mp h
      clear h
      subst hSe
      have h := h1
      clear h1
      obtain ⟨r, len, k', a', st, has, h⟩ := ab_ga_inv h
      have has := ab_as_inv has
      obtain ⟨i, hi, h1⟩ := Option.bind_eq_some_iff.mp h
      clear h
      have h := h1
      clear h1
      exact ab_iald hx hb hK0 hE hk0 has hi (hK _ _ _ _ h)
  | baload =>
    obtain ⟨j, k, o, S', hSe, h1⟩ := ab_ir_inv h
    clear h
    subst hSe
    have h := h1
    clear h1
    obtain ⟨q, hSe, h1⟩ := Option.bind_eq_some_iff.mp h
    clear h
    subst hSe
    have h := h1
    clear h1
    obtain ⟨r, len, k', a', st, has, h⟩ := ab_ga_inv h
    have has := ab_as_inv has
    obtain ⟨i, hi, h1⟩ := Option.bind_eq_some_iff.mp h
    clear h
    have h := h1
    clear h1
    exact ab_zald hx hb hK0 hE (ne0 has (fun z => by cases z)) has hi (hK _ _ _ _ h)
  | laload =>
    obtain ⟨j, k, o, S', hSe, h1⟩ := ab_ir_inv h
    clear h
    subst hSe
    have h := h1
    clear h1
    obtain ⟨q, hSe, h1⟩ := Option.bind_eq_some_iff.mp h
    clear h
    subst hSe
    have h := h1
    clear h1
    obtain ⟨r, len, k', a', st, has, h⟩ := ab_ga_inv h
    have has := ab_as_inv has
    obtain ⟨i, hi, h1⟩ := Option.bind_eq_some_iff.mp h
    clear h
    have h := h1
    clear h1
    exact ab_lald hx hb hK0 hE (ne0 has (fun z => by cases z)) has hi (hK _ _ _ _ h)
  | aaload =>
    obtain ⟨j, k, o, S', hSe, h1⟩ := ab_ir_inv h
    clear h
    subst hSe
    have h := h1
    clear h1
    obtain ⟨q, hSe, h1⟩ := Option.bind_eq_some_iff.mp h
    clear h
    subst hSe
    have h := h1
    clear h1
    obtain ⟨r, len, t, k', a', st, i, v, has, hi, h, hv⟩ := ab_gr_inv h
    have has := ab_as_inv has
    exact ab_aald hx hb hK0 hE (ne0 has (fun z => by rcases hv with ⟨rfl, -⟩ | ⟨rfl, -⟩ <;> cases z)) has hi hv (hK _ _ _ _ h)
  | iastore =>
    obtain ⟨v, j, k, o, S', hSe, h1⟩ := ab_iir_inv h
    clear h
    subst hSe
    have h := h1
    clear h1
    obtain ⟨q, hSe, h1⟩ := Option.bind_eq_some_iff.mp h
    clear h
    subst hSe
    have h := h1
    clear h1
    obtain ⟨r, len, k', a', st, has, h⟩ := ab_ga_inv h
    have has := ab_as_inv has
    obtain ⟨i, hi, h1⟩ := Option.bind_eq_some_iff.mp h
    clear h
    have h := h1
    clear h1
    exact ab_iast hx hb hK0 hE (ne0 has (fun z => by cases z)) has hi (hK _ _ _ _ h)
  | bastore =>
    obtain ⟨v, j, k, o, S', hSe, h1⟩ := ab_iir_inv h
    clear h
    subst hSe
    have h := h1
    clear h1
    obtain ⟨q, hSe, h1⟩ := Option.bind_eq_some_iff.mp h
    clear h
    subst hSe
    have h := h1
    clear h1
    obtain ⟨r, len, k', a', st, has, h1⟩ := ab_ga_inv h
    clear h
    have h := h1
    clear h1
    have has := ab_as_inv has
    obtain ⟨i, hi, h1⟩ := Option.bind_eq_some_iff.mp h
    clear h
    have h := h1
    clear h1
    obtain ⟨v', hv', h1⟩ := Option.bind_eq_some_iff.mp h
    clear h
    have h := h1
    clear h1
    obtain ⟨rfl, hv⟩ := ab_bo_of hv'
    exact ab_zast hx hb hK0 hE (ne0 has (fun z => by cases z)) has hi hv (hK _ _ _ _ h)
  | lastore =>
    obtain ⟨v, j, k, o, S', hSe, h1⟩ := ab_lir_inv h
    clear h
    subst hSe
    have h := h1
    clear h1
    obtain ⟨q, hSe, h1⟩ := Option.bind_eq_some_iff.mp h
    clear h
    subst hSe
    have h := h1
    clear h1
    obtain ⟨r, len, k', a', st, has, h⟩ := ab_ga_inv h
    have has := ab_as_inv has
    obtain ⟨i, hi, h1⟩ := Option.bind_eq_some_iff.mp h
    clear h
    have h := h1
    clear h1
    exact ab_last hx hb hK0 hE (ne0 has (fun z => by cases z)) has hi (hK _ _ _ _ h)
  | aastore =>
    obtain ⟨k2, o2, j, k, o, S', hSe, h1⟩ := ab_rir_inv h
    clear h
    subst hSe
    have h := h1
    clear h1
    obtain ⟨q, hSe, h1⟩ := Option.bind_eq_some_iff.mp h
    clear h
    subst hSe
    have h := h1
    clear h1
    obtain ⟨q2, hSe, h1⟩ := Option.bind_eq_some_iff.mp h
    clear h
    subst hSe
    have h := h1
    clear h1
    obtain ⟨r, len, a', st, has, h⟩ := ab_ga3_inv h
    have has := ab_as_inv has
    obtain ⟨i, hi, h1⟩ := Option.bind_eq_some_iff.mp h
    clear h
    have h := h1
    clear h1
    obtain ⟨hk20, ci, fs, z, g1, g2⟩ := hk3 _ _ _ _ _ _ has
    exact ab_aast hx hb hK0 hnd hE (ne0 has (fun z => by cases z)) hk20 has hi g1 g2 (hK _ _ _ _ h)
  | arraylength =>
    obtain ⟨k, o, S', hSe, h1⟩ := ab_r1_inv h
    clear h
    subst hSe
    have h := h1
    clear h1
    by_cases hk0 : k = 0
    · rw [if_pos hk0] at h
      subst hk0
      obtain ⟨q, hSe, h1⟩ := Option.bind_eq_some_iff.mp h
      clear h
      subst hSe
      have h := h1
      clear h1
      obtain ⟨z, hz, h1⟩ := Option.bind_eq_some_iff.mp h
      clear h
      have h := h1
      clear h1
      exact ab_slen hx hb (hsc z hz) hE (fun z => by cases z) (hK _ _ _ _ h)
    · rw [if_neg hk0] at h
      obtain ⟨q, hSe, h1⟩ := Option.bind_eq_some_iff.mp h
      clear h
      subst hSe
      have h := h1
      clear h1
      obtain ⟨z, hz, h1⟩ := Option.bind_eq_some_iff.mp h
      clear h
      have h := h1
      clear h1
      exact ab_alen hx hb hK0 hE hk0 (ab_as_inv hz) (hK _ _ _ _ h)
  | new idx =>
    exact ab_newo hx hb hts hown hK0 hnd hA hG hHs hE.1 hE.2 (hK _ _ _ _ h)
  | newarray at' =>
    obtain ⟨v, S', hSe, h1⟩ := ab_i1_inv h
    clear h
    subst hSe
    have h := h1
    clear h1
    obtain ⟨z, hz, h1⟩ := Option.bind_eq_some_iff.mp h
    clear h
    have h := h1
    clear h1
    by_cases hv : v = Int32.ofNat z.2.1
    · rw [if_pos hv] at h
      subst hv
      exact ab_newa hx hb hts hK0 hnd hA hG hHs hE.1 hE.2 (ab_as_inv hz) (hK _ _ _ _ h)
    · rw [if_neg hv] at h
      cases h
  | anewarray idx =>
    obtain ⟨v, S', hSe, h1⟩ := ab_i1_inv h
    clear h
    subst hSe
    have h := h1
    clear h1
    obtain ⟨z, hz, h1⟩ := Option.bind_eq_some_iff.mp h
    clear h
    have h := h1
    clear h1
    by_cases hv : v = Int32.ofNat z.2.1
    · rw [if_pos hv] at h
      subst hv
      exact ab_newq hX hx hb hts hown hK0 hnd hA hG hHs hE.1 hE.2 (ab_as_inv hz) (hK _ _ _ _ h)
    · rw [if_neg hv] at h
      cases h
  | invokevirtual idx =>
    have hcl := hcl rfl
    have h : (if Nat.ble (ab_wd (S.drop b')) 8 = true then (if d = 0 then (eV a (S.take b').reverse m).bind (fun m' => K (pc + 3) L (S.drop b') m') else (eI a (S.take b').reverse m).bind (fun q => K (pc + 3) L (.inl q.1 :: S.drop b') (q.2))) else none) = some ρ := h
    by_cases hwd : Nat.ble (ab_wd (S.drop b')) 8 = true
    · rw [if_pos hwd] at h
      by_cases hd : d = 0
      · rw [if_pos hd] at h
        obtain ⟨m', hm', h1⟩ := Option.bind_eq_some_iff.mp h
        clear h
        have h := h1
        clear h1
        exact hcl.1 L S m m' (Nat.le_of_ble_eq_true hwd) hm' (hK _ _ _ _ h)
      · rw [if_neg hd] at h
        obtain ⟨q, hq, h1⟩ := Option.bind_eq_some_iff.mp h
        clear h
        have h := h1
        clear h1
        exact hcl.2 L S m q (Nat.le_of_ble_eq_true hwd) hq (hK _ _ _ _ h)
    · rw [if_neg hwd] at h
      cases h
  | invokespecial idx =>
    have hcl := hcl rfl
    have h : (if Nat.ble (ab_wd (S.drop b')) 8 = true then (if d = 0 then (eV a (S.take b').reverse m).bind (fun m' => K (pc + 3) L (S.drop b') m') else (eI a (S.take b').reverse m).bind (fun q => K (pc + 3) L (.inl q.1 :: S.drop b') (q.2))) else none) = some ρ := h
    by_cases hwd : Nat.ble (ab_wd (S.drop b')) 8 = true
    · rw [if_pos hwd] at h
      by_cases hd : d = 0
      · rw [if_pos hd] at h
        obtain ⟨m', hm', h1⟩ := Option.bind_eq_some_iff.mp h
        clear h
        have h := h1
        clear h1
        exact hcl.1 L S m m' (Nat.le_of_ble_eq_true hwd) hm' (hK _ _ _ _ h)
      · rw [if_neg hd] at h
        obtain ⟨q, hq, h1⟩ := Option.bind_eq_some_iff.mp h
        clear h
        have h := h1
        clear h1
        exact hcl.2 L S m q (Nat.le_of_ble_eq_true hwd) hq (hK _ _ _ _ h)
    · rw [if_neg hwd] at h
      cases h
  | invokestatic idx =>
    have hcl := hcl rfl
    have h : (if Nat.ble (ab_wd (S.drop b')) 8 = true then (if d = 0 then (eV a (S.take b').reverse m).bind (fun m' => K (pc + 3) L (S.drop b') m') else (eI a (S.take b').reverse m).bind (fun q => K (pc + 3) L (.inl q.1 :: S.drop b') (q.2))) else none) = some ρ := h
    by_cases hwd : Nat.ble (ab_wd (S.drop b')) 8 = true
    · rw [if_pos hwd] at h
      by_cases hd : d = 0
      · rw [if_pos hd] at h
        obtain ⟨m', hm', h1⟩ := Option.bind_eq_some_iff.mp h
        clear h
        have h := h1
        clear h1
        exact hcl.1 L S m m' (Nat.le_of_ble_eq_true hwd) hm' (hK _ _ _ _ h)
      · rw [if_neg hd] at h
        obtain ⟨q, hq, h1⟩ := Option.bind_eq_some_iff.mp h
        clear h
        have h := h1
        clear h1
        exact hcl.2 L S m q (Nat.le_of_ble_eq_true hwd) hq (hK _ _ _ _ h)
    · rw [if_neg hwd] at h
      cases h
  | ireturn =>
    obtain ⟨v, S', hSe, h1⟩ := ab_i1_inv h
    clear h
    subst hSe
    have h := h1
    clear h1
    by_cases hS : S'.isEmpty = true
    · rw [if_pos hS] at h
      have hS' : S' = [] := List.isEmpty_iff.mp hS
      subst hS'
      by_cases hd : d = 0
      · rw [if_pos hd] at h
        obtain ⟨h1, h2, h3, h4, h5⟩ := hret _ _ (Option.some.inj h).symm
        refine ⟨h3, h4, fun ad ac ls H locs cells slots hI hF => ?_⟩
        have e1 : cells + g0 = ab_gc m := hI.2.2.2.2.2.2.2.1
        have e2 : slots + h0 = ab_gs KT m := hI.2.2.2.2.2.2.2.2
        have f1 : cells = mc := by omega
        have f2 : slots = ms := by omega
        subst f1
        subst f2
        exact W.iret (v := v) hx hb (hE.2.1 hd) (fun t ht hW => h5 ad ac H locs cells slots t hI (fun v' hv' => by cases hv'; trivial) ht hW) (fun q hq => hfree _ (hI.2.2.1.2.2 q hq)) hE.1
      · rw [if_neg hd] at h
        obtain ⟨v', hv', h1⟩ := Option.bind_eq_some_iff.mp h
        clear h
        have h := h1
        clear h1
        obtain ⟨rfl, hv⟩ := ab_bo_of hv'
        obtain ⟨h1, h2, h3, h4, h5⟩ := hret _ _ (Option.some.inj h).symm
        refine ⟨h3, h4, fun ad ac ls H locs cells slots hI hF => ?_⟩
        have e1 : cells + g0 = ab_gc m := hI.2.2.2.2.2.2.2.1
        have e2 : slots + h0 = ab_gs KT m := hI.2.2.2.2.2.2.2.2
        have f1 : cells = mc := by omega
        have f2 : slots = ms := by omega
        subst f1
        subst f2
        exact W.zret (ty := .boolean) hx hb (hE.2.2 hd) (by rcases hv with rfl | rfl <;> decide +kernel) (fun t ht hW => h5 ad ac H locs cells slots t hI (fun v' hv' => by cases hv'; trivial) ht hW) (fun q hq => hfree _ (hI.2.2.1.2.2 q hq)) hE.1
    · rw [if_neg hS] at h
      cases h
  | return_ =>
    have h : (if S.isEmpty = true then some (Sum.inl (none, m)) else none) = some ρ := h
    by_cases hS : S.isEmpty = true
    · rw [if_pos hS] at h
      have hS' : S = [] := List.isEmpty_iff.mp hS
      subst hS'
      obtain ⟨h1, h2, h3, h4, h5⟩ := hret _ _ (Option.some.inj h).symm
      refine ⟨h3, h4, fun ad ac ls H locs cells slots hI hF => ?_⟩
      have e1 : cells + g0 = ab_gc m := hI.2.2.2.2.2.2.2.1
      have e2 : slots + h0 = ab_gs KT m := hI.2.2.2.2.2.2.2.2
      have f1 : cells = mc := by omega
      have f2 : slots = ms := by omega
      subst f1
      subst f2
      exact W.vret hx hb hE.2 (fun t ht hW => h5 ad ac H locs cells slots t hI (fun v' hv' => by cases hv') ht hW) (fun q hq => hfree _ (hI.2.2.1.2.2 q hq)) hE.1
    · rw [if_neg hS] at h
      cases h
  | _ => cases h
end
end
section
/-! Runs of the small machine, and contracts of methods by them. -/
section
variable {p : Program} {l : Launch} {e : Env} {R : Room} {s : State} {m0 : MethodId} {args : Array Value} {below : List Frame} {meth : Method} {cd : Code} {Q : State → Prop} {cc : ByteArray}
variable {KT : List KS} {cl : List vw_C} {D : va_G} {sc : Option (Nat × (Nat → Int32))} {b : Nat} {A : Nat → Prop} {H0 : Heap} {ks0 : List Nat} {g0 h0 nL G Hs : Nat} {ad0 ac0 : Nat → Nat} {Ts : List Cond} {own : String}
theorem ab_W_mk {pc : Nat} {L : List (Option AV)} {Sm : List AV × Mm} (mk : List Bool) (w : ab_W p l e R s m0 args below meth cd Q KT cl D sc b A H0 ks0 g0 h0 nL G Hs ad0 ac0 (pc, ab_mk mk L, Sm)) : ab_W p l e R s m0 args below meth cd Q KT cl D sc b A H0 ks0 g0 h0 nL G Hs ad0 ac0 (pc, L, Sm) :=
  ⟨w.1, w.2.1, fun ad ac ls H locs cells slots hI hF => w.2.2 ad ac ls H locs cells slots hI (ab_F_mk mk hF)⟩
/-- what a method's table must be, beside its code: every entry right, every call by a rule -/
theorem ab_sound (hX : ab_X s) (hx : p.tables.exec = Jvm.exec) (hb : cd.code = cc) (hts : ∀ w ∈ Ts, w.before args s = true) (hown : s.vm.findClass own = some m0.cls) (hK0 : va_K D cl [] s) (h00 : KT[0]? = some (.inr (0, 0, 9, 0, 0, 0))) (hnd : ab_nd KT) (hk3 : ab_k3 KT cl) (hA : ∀ q, H0.size ≤ q → A q) (hG : G ≤ g0 + R.cells) (hHs : Hs ≤ h0 + R.slots)
    (hsc : ∀ z, sc = some z → va_X b z.1 z.2 s H0 ∧ b < H0.size ∧ ¬ A b) (hlocks : meth.locks = false)
    {Qc : Array Value → State → Outcome → State → Prop} {free : Addr → Prop} {mc ms : Nat} (hfree : ∀ q, A q → free q) {sw : Nat → List (Int32 × Nat) × Nat} {eV : Nat → List AV → Mm → Option Mm} {eI : Nat → List AV → Mm → Option (Int32 × Mm)} {ρ : Rs} {ins : Nat → Option Ent} {hd : Nat → Nat × List Bool}
    (hret : ∀ (r : Option AV) (m' : Mm), ρ = .inl (r, m') → mc + g0 = ab_gc m' ∧ ms + h0 = ab_gs KT m' ∧ ab_gc m' ≤ G ∧ ab_gs KT m' ≤ Hs ∧ ∀ (ad ac : Nat → Nat) (H : Heap) (locs : List Loc) (cells slots : Nat) (t : State), ab_I KT cl D s A H0 ks0 ad0 ac0 g0 h0 ad ac m' H locs cells slots → (∀ v, r = some v → ab_vv sc m'.2.2.2.1 v) → t.heap = H → s.WarmedH t.vm → Qc args s (.returned (r.map (ab_v ad b))) t)
    (hstop : ∀ c', ρ = .inr c' → ab_W p l e R s m0 args below meth cd (MQ below Qc args s mc ms free) KT cl D sc b A H0 ks0 g0 h0 nL G Hs ad0 ac0 c')
    (hE : ∀ (pc : Nat) (q : Ent), ins pc = some q → ab_E KT cl Ts own meth.name meth.sig.returnType cc sw nL pc q.1 q.2.1 q.2.2.1 q.2.2.2.1 q.2.2.2.2)
    (hcl : ∀ (pc : Nat) (q : Ent), ins pc = some q → ab_inv q.1 = true → (∀ (L : List (Option AV)) (S : List AV) (m m' : Mm), ab_wd (S.drop q.2.2.1) ≤ 8 → eV q.2.1 (S.take q.2.2.1).reverse m = some m' → ab_W p l e R s m0 args below meth cd (MQ below Qc args s mc ms free) KT cl D sc b A H0 ks0 g0 h0 nL G Hs ad0 ac0 (pc + 3, L, S.drop q.2.2.1, m') → ab_W p l e R s m0 args below meth cd (MQ below Qc args s mc ms free) KT cl D sc b A H0 ks0 g0 h0 nL G Hs ad0 ac0 (pc, L, S, m)) ∧
      (∀ (L : List (Option AV)) (S : List AV) (m : Mm) (z : Int32 × Mm), ab_wd (S.drop q.2.2.1) ≤ 8 → eI q.2.1 (S.take q.2.2.1).reverse m = some z → ab_W p l e R s m0 args below meth cd (MQ below Qc args s mc ms free) KT cl D sc b A H0 ks0 g0 h0 nL G Hs ad0 ac0 (pc + 3, L, .inl z.1 :: S.drop q.2.2.1, z.2) → ab_W p l e R s m0 args below meth cd (MQ below Qc args s mc ms free) KT cl D sc b A H0 ks0 g0 h0 nL G Hs ad0 ac0 (pc, L, S, m))) :
    ∀ (f pc : Nat) (L : List (Option AV)) (S : List AV) (m : Mm), ab_ex KT sc sw eV eI ins hd f pc L S m = some ρ → ab_W p l e R s m0 args below meth cd (MQ below Qc args s mc ms free) KT cl D sc b A H0 ks0 g0 h0 nL G Hs ad0 ac0 (pc, L, S, m) := by
  intro f
  induction f with
  | zero => intro pc L S m h; cases h
  | succ f ih =>
    have key : ∀ (n pc : Nat) (L : List (Option AV)) (S : List AV) (m : Mm), ab_seg KT sc sw eV eI ins hd (ab_ex KT sc sw eV eI ins hd f) n pc L S m = some ρ → ab_W p l e R s m0 args below meth cd (MQ below Qc args s mc ms free) KT cl D sc b A H0 ks0 g0 h0 nL G Hs ad0 ac0 (pc, L, S, m) := by
      intro n
      induction n with
      | zero => intro pc L S m h; cases h
      | succ n ihn =>
        intro pc L S m h
        obtain ⟨q, hq, h⟩ := Option.bind_eq_some_iff.mp h
        refine ab_step hX hx hb hts hown hK0 h00 hnd hk3 hA hG hHs hsc hlocks hfree (K := fun pc' L' S' m' => match hd pc' with
          | (0, _) => ab_seg KT sc sw eV eI ins hd (ab_ex KT sc sw eV eI ins hd f) n pc' L' S' m'
          | (1, msk) => ab_ex KT sc sw eV eI ins hd f pc' (ab_mk msk L') S' m'
          | _ => some (.inr (pc', L', S', m'))) ?_ hret (hcl pc q hq) (hE pc q hq) h
        intro pc' L' S' m' hc'
        split at hc'
        · exact ihn _ _ _ _ hc'
        · rename_i msk _
          exact ab_W_mk msk (ih _ _ _ _ hc')
        · exact hstop _ (Option.some.inj hc').symm
    intro pc L S m h
    exact key 1000 _ _ _ _ h
end
end
section
/-! Contracts by runs of the small machine; calls by contracts. -/
section
def ab_Pc (KT : List KS) (cl : List vw_C) (D : va_G) (sc : Option (Nat × (Nat → Int32))) (b : Nat) (ad ac : Nat → Nat) (m : Mm) (sz : Nat) (av : List AV) : Array Value → State → Prop :=
  va_Pc (av.map (ab_v ad b)) (fun U => U.heap.size = sz ∧ va_P D cl (ab_w KT ad ac m) U.heap ∧ va_D (fun _ => True) (ab_w KT ad ac m) ∧ va_K D cl [] U ∧ ab_K KT cl ac m.2.2.2.1 U ∧ ab_ok KT m ∧ (∀ v ∈ av, ab_vv sc m.2.2.2.1 v) ∧ ab_X U ∧ ∀ z, sc = some z → va_X b z.1 z.2 U U.heap ∧ b < U.heap.size ∧ ¬ va_A (ab_w KT ad ac m) U.heap.size b)
def ab_Qc (KT : List KS) (cl : List vw_C) (D : va_G) (sc : Option (Nat × (Nat → Int32))) (b : Nat) (ad ac : Nat → Nat) (m : Mm) (sz : Nat) (r : Option AV) (m' : Mm) : Array Value → State → Outcome → State → Prop := fun _ st o t =>
  ∃ ad' ac' : Nat → Nat, (∀ q, q < m.2.2.2.1.length → ad' q = ad q ∧ ac' q = ac q) ∧ o = .returned (r.map (ab_v ad' b)) ∧ va_P D cl (ab_w KT ad' ac' m') t.heap ∧ va_D (va_A (ab_w KT ad ac m) sz) (ab_w KT ad' ac' m') ∧ ab_K KT cl ac' m'.2.2.2.1 t ∧ ab_ok KT m' ∧
    (∀ (i k : Nat), m.2.2.2.1[i]? = some k → m'.2.2.2.1[i]? = some k) ∧ (∀ v, r = some v → ab_vv sc m'.2.2.2.1 v) ∧ va_F (va_A (ab_w KT ad ac m) sz) st t
def ab_Met (l : Launch) (KT : List KS) (cl : List vw_C) (y : MethodName) (ws : List Cond) (fr lo : Nat) (sc : Option (Nat × (Nat → Int32))) (av : List AV) (m : Mm) (r : Option AV) (m' : Mm) : Prop :=
  ab_gc m ≤ ab_gc m' ∧ ab_gs KT m ≤ ab_gs KT m' ∧ ∀ (D : va_G) (ad ac : Nat → Nat) (b sz : Nat), Met l y ws { frames := fr, cells := ab_gc m' - ab_gc m, slots := ab_gs KT m' - ab_gs KT m, locals := lo } (ab_Pc KT cl D sc b ad ac m sz av) (ab_Qc KT cl D sc b ad ac m sz r m') (ab_gc m' - ab_gc m) (ab_gs KT m' - ab_gs KT m) (va_A (ab_w KT ad ac m) sz)
theorem ab_K_moved {KT : List KS} {cl : List vw_C} {ac : Nat → Nat} {ks : List Nat} {u U : State} (hvm : u.vm.Alike U.vm) (h : ab_K KT cl ac ks u) : ab_K KT cl ac ks U := fun q k r len t k' a st h1 h2 =>
  ⟨arrOfT_moved hvm (h q k r len t k' a st h1 h2).1, (h q k r len t k' a st h1 h2).2.moved hvm⟩
theorem ab_blind {KT : List KS} {cl : List vw_C} {D : va_G} {sc : Option (Nat × (Nat → Int32))} {b : Nat} {ad ac : Nat → Nat} {m : Mm} {sz : Nat} {av : List AV} : FrameBlind (ab_Pc KT cl D sc b ad ac m sz av) := by
  intro a U g mk h
  obtain ⟨q0, q1, qP, qD, qK, qA, qo, qv, qx, qs⟩ := h
  exact ⟨q0, q1, qP, qD, va_K.moved (u := U) (U := U.calling g mk a) (Vm.Alike.refl U.vm) qK, ab_K_moved (u := U) (U := U.calling g mk a) (Vm.Alike.refl U.vm) qA, qo, qv, ab_X.same (u := U) (U := U.calling g mk a) rfl qx, fun z hz => ⟨va_X.moved (u := U) (U := U.calling g mk a) (Vm.Alike.refl U.vm) (qs z hz).1, (qs z hz).2⟩⟩
section
variable {p : Program} {l : Launch} {e : Env} {R : Room} {s : State} {m0 : MethodId} {args : Array Value} {below : List Frame} {meth : Method} {cd : Code} {Q : State → Prop} {cc : ByteArray}
variable {KT : List KS} {cl : List vw_C} {D : va_G} {sc : Option (Nat × (Nat → Int32))} {b : Nat} {A : Nat → Prop} {H0 : Heap} {ks0 : List Nat} {g0 h0 nL G Hs : Nat} {ad0 ac0 : Nat → Nat} {Ts : List Cond} {own : String}
/-- behind a call -/
theorem ab_go {sc' : Option (Nat × (Nat → Int32))} {pc : Nat} {ad ac : Nat → Nat} {ls : Array Slot} {H : Heap} {locs : List Loc} {cells slots : Nat} {L : List (Option AV)} {S Sr : List AV} {m m' : Mm} {r : Option AV} {arr : Array Value} (hnd : ab_nd KT) (hA : ∀ q, H0.size ≤ q → A q)
    (hr : va_Run p l e R s m0 args below meth cd H locs cells slots (ab_gc m' - ab_gc m) (ab_gs KT m' - ab_gs KT m) (F0 m0 pc ls (S.map (ab_v ad b))) (Sr.map (ab_v ad b)) (ab_Qc KT cl D sc' b ad ac m H.size r m' arr) (va_A (ab_w KT ad ac m) H.size))
    (hgc : ab_gc m ≤ ab_gc m') (hgs : ab_gs KT m ≤ ab_gs KT m') (hI : ab_I KT cl D s A H0 ks0 ad0 ac0 g0 h0 ad ac m H locs cells slots) (hF : ab_F sc b ad m.2.2.2.1 nL ls L S) (hSr : ∀ v ∈ Sr, v ∈ S) (hrv : ∀ v, r = some v → ∃ x, v = .inl x)
    (w : ab_W p l e R s m0 args below meth cd Q KT cl D sc b A H0 ks0 g0 h0 nL G Hs ad0 ac0 (pc + 3, L, r.toList ++ Sr, m')) : W p l e R s m0 args below meth cd H locs cells slots Q (F0 m0 pc ls (S.map (ab_v ad b))) := by
  obtain ⟨hP, hD, hS, hKA, hok, hext, hn0, hce1, hcs1⟩ := hI
  intro T hT X
  obtain ⟨v, st₀, t, T', L', e0, X', hL', e1, e2, ⟨ad', ac', had, hv, hP', hD', hK', hok', hpre, hrvv, hz, hk⟩, st⟩ := hr T hT X
  have hv2 : v = r.map (ab_v ad' b) := by
    simp only [Outcome.returned.injEq] at hv
    exact hv
  subst hv2
  rw [e0] at hz hk
  have hAA : ∀ q, va_A (ab_w KT ad ac m) H.size q → A q := by
    rintro q (⟨k, z, hk⟩ | hq)
    · exact hD.2 k _ hk
    · exact hA q (Nat.le_trans hS.1 hq)
  have hlen : ∀ {q : Nat}, q < ks0.length → q < m.2.2.2.1.length := fun {q} hq => (List.getElem?_eq_some_iff.mp (hn0 q _ (List.getElem?_eq_getElem hq))).1
  obtain ⟨hF2, hmap⟩ := ab_F_ad (sc := sc) (b := b) (nL := nL) (ks' := m'.2.2.2.1) (⟨hF.1, hF.2.1, hF.2.2.1, fun v hv => hF.2.2.2 v (hSr v hv)⟩ : ab_F sc b ad m.2.2.2.1 nL ls L Sr) (fun i hi => (had i hi).1) hpre
  have k := w.2.2 ad' ac' ls T'.heap (locs ++ L') (cells + (ab_gc m' - ab_gc m)) (slots + (ab_gs KT m' - ab_gs KT m)) ⟨?_, hD'.weaken (fun _ _ _ h => hAA _ h), ?_, ?_, hok', ?_, ?_, ?_, ?_⟩ ⟨hF2.1, hF2.2.1, hF2.2.2.1, ?_⟩
  · obtain ⟨t2, a1, b1⟩ := k T' rfl X'
    refine ⟨t2, st t2 ?_, b1⟩
    have e : List.map (ab_v ad' b) ((pc + 3, L, r.toList ++ Sr, m') : Cf).2.2.1 = (r.map (ab_v ad' b)).toList ++ Sr.map (ab_v ad b) := by
      show List.map (ab_v ad' b) (r.toList ++ Sr) = _
      rw [List.map_append, hmap]
      cases r <;> rfl
    rw [e] at a1
    exact a1
  · rw [e1]; exact hP'
  · refine ⟨Nat.le_trans hS.1 (by rw [e1]; exact hz), fun q h1 h2 => ?_, fun q hq => ?_⟩
    · rw [e1, hk q (Nat.lt_of_lt_of_le h1 hS.1) (fun z => h2 (hAA q z))]
      exact hS.2.1 q h1 h2
    · rcases List.mem_append.mp hq with h | h
      · exact hS.2.2 q h
      · exact hAA _ (hL' q h)
  · exact ab_K_moved (by have := X'.warmed.alike.symm; rw [e2] at this; exact this) hK'
  · intro q hq
    rw [(had q (hlen hq)).1, (had q (hlen hq)).2]
    exact hext q hq
  · exact fun i k h => hpre i k (hn0 i k h)
  · show cells + (ab_gc m' - ab_gc m) + g0 = ab_gc m'
    omega
  · show slots + (ab_gs KT m' - ab_gs KT m) + h0 = ab_gs KT m'
    omega
  · intro v hv
    rcases List.mem_append.mp hv with h | h
    · rw [Option.mem_toList] at h
      obtain ⟨x, rfl⟩ := hrv v h
      trivial
    · exact hF2.2.2.2 v h
/-- the start of a callee -/
theorem ab_start {sc' : Option (Nat × (Nat → Int32))} {ad ac : Nat → Nat} {H : Heap} {locs : List Loc} {cells slots : Nat} {m : Mm} {av : List AV} (hX : ab_X s) (hK0 : va_K D cl [] s) (hsc : sc' = none ∨ (sc' = sc ∧ ∀ z, sc = some z → va_X b z.1 z.2 s H0 ∧ b < H0.size ∧ ¬ A b)) (hA : ∀ q, H0.size ≤ q → A q) (hI : ab_I KT cl D s A H0 ks0 ad0 ac0 g0 h0 ad ac m H locs cells slots) (hvv : ∀ v ∈ av, ab_vv sc' m.2.2.2.1 v) :
    ∀ U : State, U.heap = H → s.WarmedH U.vm → ab_Pc KT cl D sc' b ad ac m H.size av (av.map (ab_v ad b)).toArray U := by
  intro U hU hW
  obtain ⟨hP, hD, hS, hKA, hok, hext, hn0, hce1, hcs1⟩ := hI
  refine ⟨rfl, by rw [hU], by rw [hU]; exact hP, hD.weaken (fun _ _ _ _ => trivial), va_K.moved hW.alike hK0, ab_K_moved hW.alike hKA, hok, hvv, hX.warm hW, fun z hz => ?_⟩
  rcases hsc with h1 | ⟨h1, h2⟩
  · rw [h1] at hz; cases hz
  · subst h1
    obtain ⟨g1, g2, g3⟩ := h2 z hz
    rw [hU]
    refine ⟨?_, Nat.lt_of_lt_of_le g2 hS.1, ?_⟩
    · exact va_X.moved hW.alike (g1.kept (hS.2.1 b g2 g3))
    · rintro (⟨k, z, hk⟩ | hq)
      · exact g3 (hD.2 k _ hk)
      · exact absurd (Nat.lt_of_lt_of_le g2 hS.1) (Nat.not_lt.mpr hq)
theorem ab_room {S : List AV} {pc : Nat} {ad : Nat → Nat} {ls : Array Slot} {st : List Value} (h : ab_wd S ≤ 8) : 2 * (F0 m0 pc ls st).monitorRoom + ((S.map (ab_v ad b)).map fun v => v.category).sum ≤ 8 := by
  have e : (S.map (ab_v ad b)).map (fun v => v.category) = S.map ab_w1 := by
    rw [List.map_map]
    apply List.map_congr_left
    intro v _
    match v with
    | .inl x => rfl
    | .inr (.inl x) => rfl
    | .inr (.inr (k, none)) => rfl
    | .inr (.inr (k, some q)) => rfl
  show 2 * 0 + _ ≤ 8
  rw [e]
  unfold ab_wd at h
  omega
theorem ab_args {S : List AV} {b' : Nat} {av : List AV} (h : (S.take b').reverse = av) : S = av.reverse ++ S.drop b' := by
  rw [← h, List.reverse_reverse, List.take_append_drop]
theorem ab_argsm {S : List AV} {b' : Nat} {av : List AV} {v : AV} (h : (S.take b').reverse = av) (hv : v ∈ av) : v ∈ S := by
  rw [← h, List.mem_reverse] at hv
  exact List.mem_of_mem_take hv
theorem ab_cV {sc' : Option (Nat × (Nat → Int32))} {y : MethodName} {wsy wsy' : List Cond} {bytes : ByteArray} {ret : Option FieldType} {maxL fr lo idx b' pc k q ci n : Nat} {fs : List (Nat × Nat × Nat × Nat)} {z : vw_C} {L : List (Option AV)} {S av : List AV} {m m' : Mm} {r : Option AV}
    (hX : ab_X s) (hx : p.tables.exec = Jvm.exec) (hb : cd.code = cc) (hml : cd.maxLocals = nL) (hts : ∀ w ∈ Ts, w.before args s = true) (hown : s.vm.findClass own = some m0.cls) (hK0 : va_K D cl [] s) (hnd : ab_nd KT) (hA : ∀ q, H0.size ≤ q → A q) (hG : G ≤ g0 + R.cells) (hHs : Hs ≤ h0 + R.slots)
    (hsc : sc' = none ∨ (sc' = sc ∧ ∀ z, sc = some z → va_X b z.1 z.2 s H0 ∧ b < H0.size ∧ ¬ A b))
    (hav : (S.take b').reverse = .inr (.inr (k, some q)) :: av) (hk0 : k ≠ 0) (hKT : KT[k]? = some (.inl (ci, fs))) (hcl : cl[ci]? = some z) (hn : av.length = n) (hwd : ab_wd (S.drop b') ≤ 8)
    (hM : ab_Met l KT cl y wsy fr lo sc' (.inr (.inr (k, some q)) :: av) m r m') (hvs : ∀ v, ab_vv sc m.2.2.2.1 v → v ∈ av → ab_vv sc' m.2.2.2.1 v)
    (hw : wsy = Cond.code y bytes maxL ret :: wsy') (hGI : GoodIn Ts wsy) (hini : Cond.initialized y.cls ∈ Ts) (hlk : Cond.methodLink own idx y ∈ Ts) (hins : Cond.instanceMethod y ∈ Ts) (hsel : Cond.selects z.1 y y ∈ Ts)
    (hd : y.cls ≠ "java/lang/invoke/MethodHandle" ∧ y.cls ≠ "java/lang/invoke/VarHandle" ∧ (parseMethodDescriptor y.desc).map (fun d => d.parameters.length) = some n) (hR : fr + 1 ≤ R.frames ∧ 8 + (maxL + 11) + lo ≤ R.locals)
    (hdg : decode cc pc = .ok (.invokevirtual idx, 3)) (hrv : ∀ v, r = some v → ∃ x, v = .inl x)
    (w : ab_W p l e R s m0 args below meth cd Q KT cl D sc b A H0 ks0 g0 h0 nL G Hs ad0 ac0 (pc + 3, L, r.toList ++ S.drop b', m')) : ab_W p l e R s m0 args below meth cd Q KT cl D sc b A H0 ks0 g0 h0 nL G Hs ad0 ac0 (pc, L, S, m) := by
  have hS := ab_args hav
  have hmem : ∀ v ∈ Sum.inr (Sum.inr (k, some q)) :: av, v ∈ S := fun v hv => ab_argsm hav hv
  refine ⟨Nat.le_trans hM.1 w.1, Nat.le_trans hM.2.1 w.2.1, fun ad ac ls H locs cells slots hI hF => ?_⟩
  have w1 : ab_gc m' ≤ G := w.1
  have w2 : ab_gs KT m' ≤ Hs := w.2.1
  have c1 : cells + g0 = ab_gc m := hI.2.2.2.2.2.2.2.1
  have c2 : slots + h0 = ab_gs KT m := hI.2.2.2.2.2.2.2.2
  have g1 := hM.1
  have g2 := hM.2.1
  have hq : m.2.2.2.1[q]? = some k := ab_ref (hF.2.2.2 _ (hmem _ List.mem_cons_self)) hk0
  have hvv : ∀ v ∈ Sum.inr (Sum.inr (k, some q)) :: av, ab_vv sc' m.2.2.2.1 v := ab_c1 (ab_vvo fun q' hq' => by cases hq'; exact ⟨hk0, hq⟩) (fun v hv => hvs v (hF.2.2.2 v (hmem v (List.mem_cons_of_mem _ hv))) hv)
  have hpre := ab_start (sc' := sc') hX hK0 hsc hA hI hvv
  have hmap : List.map (ab_v ad b) (Sum.inr (Sum.inr (k, some q)) :: av) = .ref (ad q) :: av.map (ab_v ad b) := by
    show ab_v ad b (.inr (.inr (k, some q))) :: _ = _
    rw [ab_vr hk0]
  rw [hmap] at hpre
  have hrun := va_runV (p := p) (e := e) (R := R) (below := below) (meth := meth) (locs := locs) (cells := cells) (slots := slots) (rest := (S.drop b').map (ab_v ad b)) (g := F0 m0 pc ls (S.map (ab_v ad b))) ⟨hx, hb, hml, hown, hts⟩ (hM.2.2 D ad ac b H.size)
    ⟨callB_of (R := R) (bytes := bytes) (maxL := maxL) (ret := ret) (rm := { frames := fr, cells := ab_gc m' - ab_gc m, slots := ab_gs KT m' - ab_gs KT m, locals := lo }) (mc := ab_gc m' - ab_gc m) (ms := ab_gs KT m' - ab_gs KT m) n hts hGI hw rfl rfl (hts _ hini) (hts _ hlk) hd hR, hts _ hins, hts _ hsel⟩
    ⟨ab_blind, va_recv hK0 hI.1 hcl (ab_wobj hq hKT), hpre⟩ rfl (by rw [List.length_map]; exact hn) hF.2.1.1 (by
      show S.map (ab_v ad b) = _
      conv => lhs; rw [hS]
      rw [List.reverse_cons, List.map_append, List.map_append, List.map_reverse]
      show _ ++ [ab_v ad b (.inr (.inr (k, some q)))] ++ _ = _
      rw [ab_vr hk0]
      simp) (ab_room hwd) hdg ⟨by omega, by omega⟩
  exact ab_go hnd hA hrun hM.1 hM.2.1 hI hF (fun v hv => List.mem_of_mem_drop hv) hrv w
theorem ab_cI {sc' : Option (Nat × (Nat → Int32))} {y : MethodName} {wsy wsy' : List Cond} {bytes : ByteArray} {maxL fr lo idx b' pc k q n : Nat} {L : List (Option AV)} {S av : List AV} {m m' : Mm}
    (hX : ab_X s) (hx : p.tables.exec = Jvm.exec) (hb : cd.code = cc) (hml : cd.maxLocals = nL) (hts : ∀ w ∈ Ts, w.before args s = true) (hown : s.vm.findClass own = some m0.cls) (hK0 : va_K D cl [] s) (hnd : ab_nd KT) (hA : ∀ q, H0.size ≤ q → A q) (hG : G ≤ g0 + R.cells) (hHs : Hs ≤ h0 + R.slots)
    (hsc : sc' = none ∨ (sc' = sc ∧ ∀ z, sc = some z → va_X b z.1 z.2 s H0 ∧ b < H0.size ∧ ¬ A b))
    (hav : (S.take b').reverse = .inr (.inr (k, some q)) :: av) (hk0 : k ≠ 0) (hn : av.length = n) (hwd : ab_wd (S.drop b') ≤ 8)
    (hM : ab_Met l KT cl y wsy fr lo sc' (.inr (.inr (k, some q)) :: av) m none m') (hvs : ∀ v, ab_vv sc m.2.2.2.1 v → v ∈ av → ab_vv sc' m.2.2.2.1 v)
    (hw : wsy = Cond.code y bytes maxL none :: wsy') (hGI : GoodIn Ts wsy) (hini : Cond.initialized y.cls ∈ Ts) (hlk : Cond.methodLink own idx y ∈ Ts) (hins : Cond.instanceMethod y ∈ Ts) (hy : y.name = "<init>")
    (hd : y.cls ≠ "java/lang/invoke/MethodHandle" ∧ y.cls ≠ "java/lang/invoke/VarHandle" ∧ (parseMethodDescriptor y.desc).map (fun d => d.parameters.length) = some n) (hR : fr + 1 ≤ R.frames ∧ 8 + (maxL + 11) + lo ≤ R.locals)
    (hdg : decode cc pc = .ok (.invokespecial idx, 3))
    (w : ab_W p l e R s m0 args below meth cd Q KT cl D sc b A H0 ks0 g0 h0 nL G Hs ad0 ac0 (pc + 3, L, S.drop b', m')) : ab_W p l e R s m0 args below meth cd Q KT cl D sc b A H0 ks0 g0 h0 nL G Hs ad0 ac0 (pc, L, S, m) := by
  have hS := ab_args hav
  have hmem : ∀ v ∈ Sum.inr (Sum.inr (k, some q)) :: av, v ∈ S := fun v hv => ab_argsm hav hv
  refine ⟨Nat.le_trans hM.1 w.1, Nat.le_trans hM.2.1 w.2.1, fun ad ac ls H locs cells slots hI hF => ?_⟩
  have w1 : ab_gc m' ≤ G := w.1
  have w2 : ab_gs KT m' ≤ Hs := w.2.1
  have c1 : cells + g0 = ab_gc m := hI.2.2.2.2.2.2.2.1
  have c2 : slots + h0 = ab_gs KT m := hI.2.2.2.2.2.2.2.2
  have g1 := hM.1
  have g2 := hM.2.1
  have hq : m.2.2.2.1[q]? = some k := ab_ref (hF.2.2.2 _ (hmem _ List.mem_cons_self)) hk0
  have hvv : ∀ v ∈ Sum.inr (Sum.inr (k, some q)) :: av, ab_vv sc' m.2.2.2.1 v := ab_c1 (ab_vvo fun q' hq' => by cases hq'; exact ⟨hk0, hq⟩) (fun v hv => hvs v (hF.2.2.2 v (hmem v (List.mem_cons_of_mem _ hv))) hv)
  have hpre := ab_start (sc' := sc') hX hK0 hsc hA hI hvv
  have hmap : List.map (ab_v ad b) (Sum.inr (Sum.inr (k, some q)) :: av) = .ref (ad q) :: av.map (ab_v ad b) := by
    show ab_v ad b (.inr (.inr (k, some q))) :: _ = _
    rw [ab_vr hk0]
  rw [hmap] at hpre
  have hrun := va_runI (p := p) (e := e) (R := R) (below := below) (meth := meth) (locs := locs) (cells := cells) (slots := slots) (rest := (S.drop b').map (ab_v ad b)) (g := F0 m0 pc ls (S.map (ab_v ad b))) ⟨hx, hb, hml, hown, hts⟩ (hM.2.2 D ad ac b H.size)
    ⟨callB_of (R := R) (bytes := bytes) (maxL := maxL) (ret := none) (rm := { frames := fr, cells := ab_gc m' - ab_gc m, slots := ab_gs KT m' - ab_gs KT m, locals := lo }) (mc := ab_gc m' - ab_gc m) (ms := ab_gs KT m' - ab_gs KT m) n hts hGI hw rfl rfl (hts _ hini) (hts _ hlk) hd hR, hy, hts _ hins⟩
    ⟨ab_blind, hpre⟩ rfl (by rw [List.length_map]; exact hn) hF.2.1.1 (by
      show S.map (ab_v ad b) = _
      conv => lhs; rw [hS]
      rw [List.reverse_cons, List.map_append, List.map_append, List.map_reverse]
      show _ ++ [ab_v ad b (.inr (.inr (k, some q)))] ++ _ = _
      rw [ab_vr hk0]
      simp) (ab_room hwd) hdg ⟨by omega, by omega⟩
  exact ab_go (r := none) hnd hA hrun hM.1 hM.2.1 hI hF (fun v hv => List.mem_of_mem_drop hv) (fun v hv => by cases hv) w
theorem ab_cS {sc' : Option (Nat × (Nat → Int32))} {y : MethodName} {wsy wsy' : List Cond} {bytes : ByteArray} {ret : Option FieldType} {maxL fr lo idx b' pc n : Nat} {L : List (Option AV)} {S av : List AV} {m m' : Mm} {r : Option AV}
    (hX : ab_X s) (hx : p.tables.exec = Jvm.exec) (hb : cd.code = cc) (hml : cd.maxLocals = nL) (hts : ∀ w ∈ Ts, w.before args s = true) (hown : s.vm.findClass own = some m0.cls) (hK0 : va_K D cl [] s) (hnd : ab_nd KT) (hA : ∀ q, H0.size ≤ q → A q) (hG : G ≤ g0 + R.cells) (hHs : Hs ≤ h0 + R.slots)
    (hsc : sc' = none ∨ (sc' = sc ∧ ∀ z, sc = some z → va_X b z.1 z.2 s H0 ∧ b < H0.size ∧ ¬ A b))
    (hav : (S.take b').reverse = av) (hn : av.length = n) (hwd : ab_wd (S.drop b') ≤ 8)
    (hM : ab_Met l KT cl y wsy fr lo sc' av m r m') (hvs : ∀ v, ab_vv sc m.2.2.2.1 v → v ∈ av → ab_vv sc' m.2.2.2.1 v)
    (hw : wsy = Cond.code y bytes maxL ret :: wsy') (hGI : GoodIn Ts wsy) (hini : Cond.initialized y.cls ∈ Ts) (hlk : Cond.methodLink own idx y ∈ Ts) (hst : Cond.static y ∈ Ts)
    (hd : y.cls ≠ "java/lang/invoke/MethodHandle" ∧ y.cls ≠ "java/lang/invoke/VarHandle" ∧ (parseMethodDescriptor y.desc).map (fun d => d.parameters.length) = some n) (hR : fr + 1 ≤ R.frames ∧ 8 + (maxL + 11) + lo ≤ R.locals)
    (hdg : decode cc pc = .ok (.invokestatic idx, 3)) (hrv : ∀ v, r = some v → ∃ x, v = .inl x)
    (w : ab_W p l e R s m0 args below meth cd Q KT cl D sc b A H0 ks0 g0 h0 nL G Hs ad0 ac0 (pc + 3, L, r.toList ++ S.drop b', m')) : ab_W p l e R s m0 args below meth cd Q KT cl D sc b A H0 ks0 g0 h0 nL G Hs ad0 ac0 (pc, L, S, m) := by
  have hS := ab_args hav
  have hmem : ∀ v ∈ av, v ∈ S := fun v hv => ab_argsm hav hv
  refine ⟨Nat.le_trans hM.1 w.1, Nat.le_trans hM.2.1 w.2.1, fun ad ac ls H locs cells slots hI hF => ?_⟩
  have w1 : ab_gc m' ≤ G := w.1
  have w2 : ab_gs KT m' ≤ Hs := w.2.1
  have c1 : cells + g0 = ab_gc m := hI.2.2.2.2.2.2.2.1
  have c2 : slots + h0 = ab_gs KT m := hI.2.2.2.2.2.2.2.2
  have g1 := hM.1
  have g2 := hM.2.1
  have hvv : ∀ v ∈ av, ab_vv sc' m.2.2.2.1 v := fun v hv => hvs v (hF.2.2.2 v (hmem v hv)) hv
  have hpre := ab_start (sc' := sc') hX hK0 hsc hA hI hvv
  have hrun := va_runS (p := p) (e := e) (R := R) (below := below) (meth := meth) (locs := locs) (cells := cells) (slots := slots) (rest := (S.drop b').map (ab_v ad b)) (g := F0 m0 pc ls (S.map (ab_v ad b))) ⟨hx, hb, hml, hown, hts⟩ (hM.2.2 D ad ac b H.size)
    ⟨callB_of (R := R) (bytes := bytes) (maxL := maxL) (ret := ret) (rm := { frames := fr, cells := ab_gc m' - ab_gc m, slots := ab_gs KT m' - ab_gs KT m, locals := lo }) (mc := ab_gc m' - ab_gc m) (ms := ab_gs KT m' - ab_gs KT m) n hts hGI hw rfl rfl (hts _ hini) (hts _ hlk) hd hR, hts _ hst⟩
    ⟨ab_blind, hpre⟩ rfl (by rw [List.length_map]; exact hn) hF.2.1.1 (by
      show S.map (ab_v ad b) = _
      conv => lhs; rw [hS]
      rw [List.map_append, List.map_reverse]) (ab_room hwd) hdg ⟨by omega, by omega⟩
  exact ab_go hnd hA hrun hM.1 hM.2.1 hI hF (fun v hv => List.mem_of_mem_drop hv) hrv w
theorem ab_cIN {sc' : Option (Nat × (Nat → Int32))} {y : MethodName} {wsy wsy' : List Cond} {bytes : ByteArray} {maxL fr lo idx b' pc k q n : Nat} {L : List (Option AV)} {S av : List AV} {m m' : Mm}
    (hX : ab_X s) (hx : p.tables.exec = Jvm.exec) (hb : cd.code = cc) (hml : cd.maxLocals = nL) (hts : ∀ w ∈ Ts, w.before args s = true) (hown : s.vm.findClass own = some m0.cls) (hK0 : va_K D cl [] s) (hnd : ab_nd KT) (hA : ∀ q, H0.size ≤ q → A q) (hG : G ≤ g0 + R.cells) (hHs : Hs ≤ h0 + R.slots)
    (hsc : sc' = none ∨ (sc' = sc ∧ ∀ z, sc = some z → va_X b z.1 z.2 s H0 ∧ b < H0.size ∧ ¬ A b))
    (hav : (S.take b').reverse = .inr (.inr (k, some q)) :: av) (hk0 : k ≠ 0) (hn : av.length = n) (hwd : ab_wd (S.drop b') ≤ 8)
    (hM : ab_Met l KT cl y wsy fr lo sc' (.inr (.inr (k, some q)) :: av) m none m') (hvs : ∀ v, ab_vv sc m.2.2.2.1 v → v ∈ av → ab_vv sc' m.2.2.2.1 v)
    (hw : wsy = Cond.code y bytes maxL none :: wsy') (hGI : GoodIn Ts wsy) (hini : Cond.initialized y.cls ∈ Ts) (hlk : (own, idx, y) ∈ ab_gN) (hins : Cond.instanceMethod y ∈ Ts) (hy : y.name = "<init>")
    (hd : y.cls ≠ "java/lang/invoke/MethodHandle" ∧ y.cls ≠ "java/lang/invoke/VarHandle" ∧ (parseMethodDescriptor y.desc).map (fun d => d.parameters.length) = some n) (hR : fr + 1 ≤ R.frames ∧ 8 + (maxL + 11) + lo ≤ R.locals)
    (hdg : decode cc pc = .ok (.invokespecial idx, 3))
    (w : ab_W p l e R s m0 args below meth cd Q KT cl D sc b A H0 ks0 g0 h0 nL G Hs ad0 ac0 (pc + 3, L, S.drop b', m')) : ab_W p l e R s m0 args below meth cd Q KT cl D sc b A H0 ks0 g0 h0 nL G Hs ad0 ac0 (pc, L, S, m) := by
  have hS := ab_args hav
  have hmem : ∀ v ∈ Sum.inr (Sum.inr (k, some q)) :: av, v ∈ S := fun v hv => ab_argsm hav hv
  refine ⟨Nat.le_trans hM.1 w.1, Nat.le_trans hM.2.1 w.2.1, fun ad ac ls H locs cells slots hI hF => ?_⟩
  have w1 : ab_gc m' ≤ G := w.1
  have w2 : ab_gs KT m' ≤ Hs := w.2.1
  have c1 : cells + g0 = ab_gc m := hI.2.2.2.2.2.2.2.1
  have c2 : slots + h0 = ab_gs KT m := hI.2.2.2.2.2.2.2.2
  have g1 := hM.1
  have g2 := hM.2.1
  have hq : m.2.2.2.1[q]? = some k := ab_ref (hF.2.2.2 _ (hmem _ List.mem_cons_self)) hk0
  have hvv : ∀ v ∈ Sum.inr (Sum.inr (k, some q)) :: av, ab_vv sc' m.2.2.2.1 v := ab_c1 (ab_vvo fun q' hq' => by cases hq'; exact ⟨hk0, hq⟩) (fun v hv => hvs v (hF.2.2.2 v (hmem v (List.mem_cons_of_mem _ hv))) hv)
  have hpre := ab_start (sc' := sc') hX hK0 hsc hA hI hvv
  have hmap : List.map (ab_v ad b) (Sum.inr (Sum.inr (k, some q)) :: av) = .ref (ad q) :: av.map (ab_v ad b) := by
    show ab_v ad b (.inr (.inr (k, some q))) :: _ = _
    rw [ab_vr hk0]
  rw [hmap] at hpre
  have hrun := va_runIN (host := "StreamTransport") (index := idx) (maxL := maxL) (bytes := bytes) (p := p) (e := e) (R := R) (below := below) (meth := meth) (locs := locs) (cells := cells) (slots := slots) (rest := (S.drop b').map (ab_v ad b)) (g := F0 m0 pc ls (S.map (ab_v ad b))) ⟨hx, hb, hml, hown, hts⟩ (hM.2.2 D ad ac b H.size)
    ⟨va_cnB (R := R) (host := "StreamTransport") (bytes := bytes) (maxL := maxL) (ret := none) (rm := { frames := fr, cells := ab_gc m' - ab_gc m, slots := ab_gs KT m' - ab_gs KT m, locals := lo }) (mc := ab_gc m' - ab_gc m) (ms := ab_gs KT m' - ab_gs KT m) n hts hGI hw rfl rfl (hX.1 _ hlk) (hts _ hini) hd hR, hy, hts _ hins⟩
    ⟨ab_blind, hpre⟩ rfl (by rw [List.length_map]; exact hn) hF.2.1.1 (by
      show S.map (ab_v ad b) = _
      conv => lhs; rw [hS]
      rw [List.reverse_cons, List.map_append, List.map_append, List.map_reverse]
      show _ ++ [ab_v ad b (.inr (.inr (k, some q)))] ++ _ = _
      rw [ab_vr hk0]
      simp) (ab_room hwd) hdg ⟨by omega, by omega⟩
  exact ab_go (r := none) hnd hA hrun hM.1 hM.2.1 hI hF (fun v hv => List.mem_of_mem_drop hv) (fun v hv => by cases hv) w
theorem ab_cSN {sc' : Option (Nat × (Nat → Int32))} {y : MethodName} {wsy wsy' : List Cond} {bytes : ByteArray} {ret : Option FieldType} {maxL fr lo idx b' pc n : Nat} {L : List (Option AV)} {S av : List AV} {m m' : Mm} {r : Option AV}
    (hX : ab_X s) (hx : p.tables.exec = Jvm.exec) (hb : cd.code = cc) (hml : cd.maxLocals = nL) (hts : ∀ w ∈ Ts, w.before args s = true) (hown : s.vm.findClass own = some m0.cls) (hK0 : va_K D cl [] s) (hnd : ab_nd KT) (hA : ∀ q, H0.size ≤ q → A q) (hG : G ≤ g0 + R.cells) (hHs : Hs ≤ h0 + R.slots)
    (hsc : sc' = none ∨ (sc' = sc ∧ ∀ z, sc = some z → va_X b z.1 z.2 s H0 ∧ b < H0.size ∧ ¬ A b))
    (hav : (S.take b').reverse = av) (hn : av.length = n) (hwd : ab_wd (S.drop b') ≤ 8)
    (hM : ab_Met l KT cl y wsy fr lo sc' av m r m') (hvs : ∀ v, ab_vv sc m.2.2.2.1 v → v ∈ av → ab_vv sc' m.2.2.2.1 v)
    (hw : wsy = Cond.code y bytes maxL ret :: wsy') (hGI : GoodIn Ts wsy) (hini : Cond.initialized y.cls ∈ Ts) (hlk : (own, idx, y) ∈ ab_gN) (hst : Cond.static y ∈ Ts)
    (hd : y.cls ≠ "java/lang/invoke/MethodHandle" ∧ y.cls ≠ "java/lang/invoke/VarHandle" ∧ (parseMethodDescriptor y.desc).map (fun d => d.parameters.length) = some n) (hR : fr + 1 ≤ R.frames ∧ 8 + (maxL + 11) + lo ≤ R.locals)
    (hdg : decode cc pc = .ok (.invokestatic idx, 3)) (hrv : ∀ v, r = some v → ∃ x, v = .inl x)
    (w : ab_W p l e R s m0 args below meth cd Q KT cl D sc b A H0 ks0 g0 h0 nL G Hs ad0 ac0 (pc + 3, L, r.toList ++ S.drop b', m')) : ab_W p l e R s m0 args below meth cd Q KT cl D sc b A H0 ks0 g0 h0 nL G Hs ad0 ac0 (pc, L, S, m) := by
  have hS := ab_args hav
  have hmem : ∀ v ∈ av, v ∈ S := fun v hv => ab_argsm hav hv
  refine ⟨Nat.le_trans hM.1 w.1, Nat.le_trans hM.2.1 w.2.1, fun ad ac ls H locs cells slots hI hF => ?_⟩
  have w1 : ab_gc m' ≤ G := w.1
  have w2 : ab_gs KT m' ≤ Hs := w.2.1
  have c1 : cells + g0 = ab_gc m := hI.2.2.2.2.2.2.2.1
  have c2 : slots + h0 = ab_gs KT m := hI.2.2.2.2.2.2.2.2
  have g1 := hM.1
  have g2 := hM.2.1
  have hvv : ∀ v ∈ av, ab_vv sc' m.2.2.2.1 v := fun v hv => hvs v (hF.2.2.2 v (hmem v hv)) hv
  have hpre := ab_start (sc' := sc') hX hK0 hsc hA hI hvv
  have hrun := va_runSN (host := "StreamTransport") (index := idx) (maxL := maxL) (bytes := bytes) (ret := ret) (p := p) (e := e) (R := R) (below := below) (meth := meth) (locs := locs) (cells := cells) (slots := slots) (rest := (S.drop b').map (ab_v ad b)) (g := F0 m0 pc ls (S.map (ab_v ad b))) ⟨hx, hb, hml, hown, hts⟩ (hM.2.2 D ad ac b H.size)
    ⟨va_cnB (R := R) (host := "StreamTransport") (bytes := bytes) (maxL := maxL) (ret := ret) (rm := { frames := fr, cells := ab_gc m' - ab_gc m, slots := ab_gs KT m' - ab_gs KT m, locals := lo }) (mc := ab_gc m' - ab_gc m) (ms := ab_gs KT m' - ab_gs KT m) n hts hGI hw rfl rfl (hX.1 _ hlk) (hts _ hini) hd hR, hts _ hst, trivial⟩
    ⟨ab_blind, hpre⟩ rfl (by rw [List.length_map]; exact hn) hF.2.1.1 (by
      show S.map (ab_v ad b) = _
      conv => lhs; rw [hS]
      rw [List.map_append, List.map_reverse]) (ab_room hwd) hdg ⟨by omega, by omega⟩
  exact ab_go hnd hA hrun hM.1 hM.2.1 hI hF (fun v hv => List.mem_of_mem_drop hv) hrv w
end
end
end
section
/-! What every run keeps: a relation between memories that each store keeps. -/
section
def ab_rm (ρ : Rs) : Mm := match ρ with
  | .inl (_, m) => m
  | .inr c => c.2.2.2
def ab_isn (i : Instr) : Bool := match i with
  | .new _ | .newarray _ | .anewarray _ => true
  | _ => false
variable {KT : List KS} {sc : Option (Nat × (Nat → Int32))}
set_option maxHeartbeats 4000000 in
theorem ab_rst {Rl : Mm → Mm → Prop} (hr : ∀ m, Rl m m) (ht : ∀ a b c, Rl a b → Rl b c → Rl a c) (hI : ∀ m r p j x, Rl m (ab_uI m r p j x)) (hJ : ∀ m r p j x, Rl m (ab_uJ m r p j x)) (hR : ∀ m r p j x, Rl m (ab_uR m r p j x))
    {sw : Nat → List (Int32 × Nat) × Nat} {eV : Nat → List AV → Mm → Option Mm} {eI : Nat → List AV → Mm → Option (Int32 × Mm)} {ρ : Rs} {K : Nat → List (Option AV) → List AV → Mm → Option Rs} {i : Instr} {a b' d pc : Nat} {x : Int32} {L : List (Option AV)} {S : List AV} {m : Mm}
    (hN : ab_isn i = true → ∀ m, Rl m (ab_ap m a)) (hV : ab_inv i = true → ∀ av m m', eV a av m = some m' → Rl m m') (hIv : ab_inv i = true → ∀ av m q, eI a av m = some q → Rl m q.2)
    (hK : ∀ (pc' : Nat) (L' : List (Option AV)) (S' : List AV) (m' : Mm), K pc' L' S' m' = some ρ → Rl m' (ab_rm ρ)) (h : ab_st KT sc sw eV eI i a b' d x pc L S m K = some ρ) : Rl m (ab_rm ρ) := by
  cases i with
  | iconst n =>
    exact hK _ _ _ _ h
  | bipush n =>
    exact hK _ _ _ _ h
  | sipush n =>
    exact hK _ _ _ _ h
  | ldc idx =>
    exact hK _ _ _ _ h
  | lconst n =>
    exact hK _ _ _ _ h
  | ldc2_w idx =>
    exact hK _ _ _ _ h
  | goto off =>
    exact hK _ _ _ _ h
  | iload j =>
    obtain ⟨v, hv, h⟩ := ab_Li_inv h
    exact hK _ _ _ _ h
  | iload_n j =>
    obtain ⟨v, hv, h⟩ := ab_Li_inv h
    exact hK _ _ _ _ h
  | iinc j n =>
    obtain ⟨v, hv, h⟩ := ab_Li_inv h
    exact hK _ _ _ _ h
  | lload j =>
    obtain ⟨v, hv, h⟩ := ab_Ll_inv h
    exact hK _ _ _ _ h
  | lload_n j =>
    obtain ⟨v, hv, h⟩ := ab_Ll_inv h
    exact hK _ _ _ _ h
  | aload j =>
    obtain ⟨k, o, hv, h⟩ := ab_Lr_inv h
    exact hK _ _ _ _ h
  | aload_n j =>
    obtain ⟨k, o, hv, h⟩ := ab_Lr_inv h
    exact hK _ _ _ _ h
  | istore j =>
    obtain ⟨v, S', hSe, h⟩ := ab_i1_inv h
    exact hK _ _ _ _ h
  | istore_n j =>
    obtain ⟨v, S', hSe, h⟩ := ab_i1_inv h
    exact hK _ _ _ _ h
  | i2l =>
    obtain ⟨v, S', hSe, h⟩ := ab_i1_inv h
    exact hK _ _ _ _ h
  | pop =>
    obtain ⟨v, S', hSe, h⟩ := ab_i1_inv h
    exact hK _ _ _ _ h
  | lstore j =>
    obtain ⟨v, S', hSe, h⟩ := ab_l1_inv h
    exact hK _ _ _ _ h
  | lstore_n j =>
    obtain ⟨v, S', hSe, h⟩ := ab_l1_inv h
    exact hK _ _ _ _ h
  | l2i =>
    obtain ⟨v, S', hSe, h⟩ := ab_l1_inv h
    exact hK _ _ _ _ h
  | astore j =>
    obtain ⟨k, o, S', hSe, h⟩ := ab_r1_inv h
    obtain ⟨q, hq, h⟩ := Option.bind_eq_some_iff.mp h
    exact hK _ _ _ _ h
  | astore_n j =>
    obtain ⟨k, o, S', hSe, h⟩ := ab_r1_inv h
    obtain ⟨q, hq, h⟩ := Option.bind_eq_some_iff.mp h
    exact hK _ _ _ _ h
  | iadd =>
    obtain ⟨y, z, S', hSe, h⟩ := ab_i2_inv h
    exact hK _ _ _ _ h
  | isub =>
    obtain ⟨y, z, S', hSe, h⟩ := ab_i2_inv h
    exact hK _ _ _ _ h
  | imul =>
    obtain ⟨y, z, S', hSe, h⟩ := ab_i2_inv h
    exact hK _ _ _ _ h
  | iand =>
    obtain ⟨y, z, S', hSe, h⟩ := ab_i2_inv h
    exact hK _ _ _ _ h
  | ior =>
    obtain ⟨y, z, S', hSe, h⟩ := ab_i2_inv h
    exact hK _ _ _ _ h
  | ixor =>
    obtain ⟨y, z, S', hSe, h⟩ := ab_i2_inv h
    exact hK _ _ _ _ h
  | ishl =>
    obtain ⟨y, z, S', hSe, h⟩ := ab_i2_inv h
    exact hK _ _ _ _ h
  | ishr =>
    obtain ⟨y, z, S', hSe, h⟩ := ab_i2_inv h
    exact hK _ _ _ _ h
  | iushr =>
    obtain ⟨y, z, S', hSe, h⟩ := ab_i2_inv h
    exact hK _ _ _ _ h
  | idiv =>
    obtain ⟨y, z, S', hSe, h⟩ := ab_i2_inv h
    by_cases hc : y = 0
    · rw [if_pos hc] at h
      cases h
    · rw [if_neg hc] at h
      exact hK _ _ _ _ h
  | irem =>
    obtain ⟨y, z, S', hSe, h⟩ := ab_i2_inv h
    by_cases hc : y = 0
    · rw [if_pos hc] at h
      cases h
    · rw [if_neg hc] at h
      exact hK _ _ _ _ h
  | ladd =>
    obtain ⟨y, z, S', hSe, h⟩ := ab_l2_inv h
    exact hK _ _ _ _ h
  | lsub =>
    obtain ⟨y, z, S', hSe, h⟩ := ab_l2_inv h
    exact hK _ _ _ _ h
  | land =>
    obtain ⟨y, z, S', hSe, h⟩ := ab_l2_inv h
    exact hK _ _ _ _ h
  | lor =>
    obtain ⟨y, z, S', hSe, h⟩ := ab_l2_inv h
    exact hK _ _ _ _ h
  | lcmp =>
    obtain ⟨y, z, S', hSe, h⟩ := ab_l2_inv h
    exact hK _ _ _ _ h
  | lshl =>
    obtain ⟨y, z, S', hSe, h⟩ := ab_il_inv h
    exact hK _ _ _ _ h
  | lshr =>
    obtain ⟨y, z, S', hSe, h⟩ := ab_il_inv h
    exact hK _ _ _ _ h
  | lushr =>
    obtain ⟨y, z, S', hSe, h⟩ := ab_il_inv h
    exact hK _ _ _ _ h
  | dup =>
    have h : (if d = 0 then ab_i1 S (fun y S' => K (pc + 1) L (.inl y :: .inl y :: S') m) else ab_r1 S (fun k o S' => K (pc + 1) L (.inr (.inr (k, o)) :: .inr (.inr (k, o)) :: S') m)) = some ρ := h
    by_cases hd : d = 0
    · rw [if_pos hd] at h
      obtain ⟨y, S', hSe, h⟩ := ab_i1_inv h
      exact hK _ _ _ _ h
    · rw [if_neg hd] at h
      obtain ⟨k, o, S', hSe, h⟩ := ab_r1_inv h
      exact hK _ _ _ _ h
  | dup2 =>
    obtain ⟨j, k, o, S', hSe, h⟩ := ab_ir_inv h
    exact hK _ _ _ _ h
  | ifCond c off =>
    cases c with
    | eq =>
      obtain ⟨v, S', hSe, h⟩ := ab_i1_inv h
      by_cases hc : v = 0
      · rw [if_pos hc] at h
        exact hK _ _ _ _ h
      · rw [if_neg hc] at h
        exact hK _ _ _ _ h
    | ne =>
      obtain ⟨v, S', hSe, h⟩ := ab_i1_inv h
      by_cases hc : v = 0
      · rw [if_pos hc] at h
        exact hK _ _ _ _ h
      · rw [if_neg hc] at h
        exact hK _ _ _ _ h
    | lt =>
      obtain ⟨v, S', hSe, h⟩ := ab_i1_inv h
      by_cases hc : v < 0
      · rw [if_pos hc] at h
        exact hK _ _ _ _ h
      · rw [if_neg hc] at h
        exact hK _ _ _ _ h
    | ge =>
      obtain ⟨v, S', hSe, h⟩ := ab_i1_inv h
      by_cases hc : 0 ≤ v
      · rw [if_pos hc] at h
        exact hK _ _ _ _ h
      · rw [if_neg hc] at h
        exact hK _ _ _ _ h
    | gt =>
      obtain ⟨v, S', hSe, h⟩ := ab_i1_inv h
      by_cases hc : 0 < v
      · rw [if_pos hc] at h
        exact hK _ _ _ _ h
      · rw [if_neg hc] at h
        exact hK _ _ _ _ h
    | le =>
      obtain ⟨v, S', hSe, h⟩ := ab_i1_inv h
      by_cases hc : v ≤ 0
      · rw [if_pos hc] at h
        exact hK _ _ _ _ h
      · rw [if_neg hc] at h
        exact hK _ _ _ _ h
  | if_icmp c off =>
    cases c with
    | eq =>
      obtain ⟨y, z, S', hSe, h⟩ := ab_i2_inv h
      by_cases hc : z = y
      · rw [if_pos hc] at h
        exact hK _ _ _ _ h
      · rw [if_neg hc] at h
        exact hK _ _ _ _ h
    | ne =>
      obtain ⟨y, z, S', hSe, h⟩ := ab_i2_inv h
      by_cases hc : z = y
      · rw [if_pos hc] at h
        exact hK _ _ _ _ h
      · rw [if_neg hc] at h
        exact hK _ _ _ _ h
    | lt =>
      obtain ⟨y, z, S', hSe, h⟩ := ab_i2_inv h
      by_cases hc : z < y
      · rw [if_pos hc] at h
        exact hK _ _ _ _ h
      · rw [if_neg hc] at h
        exact hK _ _ _ _ h
    | ge =>
      obtain ⟨y, z, S', hSe, h⟩ := ab_i2_inv h
      by_cases hc : y ≤ z
      · rw [if_pos hc] at h
        exact hK _ _ _ _ h
      · rw [if_neg hc] at h
        exact hK _ _ _ _ h
    | gt =>
      obtain ⟨y, z, S', hSe, h⟩ := ab_i2_inv h
      by_cases hc : y < z
      · rw [if_pos hc] at h
        exact hK _ _ _ _ h
      · rw [if_neg hc] at h
        exact hK _ _ _ _ h
    | le =>
      obtain ⟨y, z, S', hSe, h⟩ := ab_i2_inv h
      by_cases hc : z ≤ y
      · rw [if_pos hc] at h
        exact hK _ _ _ _ h
      · rw [if_neg hc] at h
        exact hK _ _ _ _ h
  | ifnull off =>
    obtain ⟨k, o, S', hSe, h⟩ := ab_r1_inv h
    cases o with
    | none => exact hK _ _ _ _ h
    | some q => exact hK _ _ _ _ h
  | ifnonnull off =>
    obtain ⟨k, o, S', hSe, h⟩ := ab_r1_inv h
    cases o with
    | none => exact hK _ _ _ _ h
    | some q => exact hK _ _ _ _ h
  | tableswitch dflt lo hi offs =>
    obtain ⟨v, S', hSe, h⟩ := ab_i1_inv h
    rcases ab_swk _ h with ⟨t, _, h⟩ | ⟨_, h⟩
    · exact hK _ _ _ _ h
    · exact hK _ _ _ _ h
  | getfield idx =>
    obtain ⟨k, o, S', hSe, h⟩ := ab_r1_inv h
    obtain ⟨q, hq, h⟩ := Option.bind_eq_some_iff.mp h
    obtain ⟨t, r, k', d', v, hfs, h, hv⟩ := ab_gf_inv h
    exact hK _ _ _ _ h
  | putfield idx =>
    have h : (if d = 0 then ab_ir S (fun v k o S' => o.bind fun q => ab_pf (ab_fs KT a b' k) m q v fun m' => K (pc + 3) L S' m') else ab_rr S (fun k2 o2 k o S' => o.bind fun q => o2.bind fun q2 => ab_pr (ab_fs KT a b' k) m q k2 q2 fun m' => K (pc + 3) L S' m')) = some ρ := h
    by_cases hd : d = 0
    · rw [if_pos hd] at h
      obtain ⟨v, k, o, S', hSe, h⟩ := ab_ir_inv h
      obtain ⟨q, hq, h⟩ := Option.bind_eq_some_iff.mp h
      obtain ⟨t, r, k', d', hfs, h, hv⟩ := ab_pf_inv h
      exact ht _ _ _ (hI _ _ _ _ _) (hK _ _ _ _ h)
    · rw [if_neg hd] at h
      obtain ⟨k2, o2, k, o, S', hSe, h⟩ := ab_rr_inv h
      obtain ⟨q, hq, h⟩ := Option.bind_eq_some_iff.mp h
      obtain ⟨q2, hq2, h⟩ := Option.bind_eq_some_iff.mp h
      obtain ⟨r, d', hfs, h⟩ := ab_pr_inv h
      exact ht _ _ _ (hR _ _ _ _ _) (hK _ _ _ _ h)
  | iaload =>
    obtain ⟨j, k, o, S', hSe, h⟩ := ab_ir_inv h
    by_cases hk0 : k = 0
    · rw [if_pos hk0] at h
      obtain ⟨q, hq, h⟩ := Option.bind_eq_some_iff.mp h
      obtain ⟨z, hz, h⟩ := Option.bind_eq_some_iff.mp h
      obtain ⟨i, hi, h⟩ := Option.bind_eq_some_iff.mp h
      exact hK _ _ _ _ h
    · rw [if_neg hk0] at h
      obtain ⟨q, hq, h⟩ := Option.bind_eq_some_iff.mp h
      obtain ⟨r, len, k', a', st, has, h⟩ := ab_ga_inv h
      obtain ⟨i, hi, h⟩ := Option.bind_eq_some_iff.mp h
      exact hK _ _ _ _ h
  | baload =>
    obtain ⟨j, k, o, S', hSe, h⟩ := ab_ir_inv h
    obtain ⟨q, hq, h⟩ := Option.bind_eq_some_iff.mp h
    obtain ⟨r, len, k', a', st, has, h⟩ := ab_ga_inv h
    obtain ⟨i, hi, h⟩ := Option.bind_eq_some_iff.mp h
    exact hK _ _ _ _ h
  | laload =>
    obtain ⟨j, k, o, S', hSe, h⟩ := ab_ir_inv h
    obtain ⟨q, hq, h⟩ := Option.bind_eq_some_iff.mp h
    obtain ⟨r, len, k', a', st, has, h⟩ := ab_ga_inv h
    obtain ⟨i, hi, h⟩ := Option.bind_eq_some_iff.mp h
    exact hK _ _ _ _ h
  | aaload =>
    obtain ⟨j, k, o, S', hSe, h⟩ := ab_ir_inv h
    obtain ⟨q, hq, h⟩ := Option.bind_eq_some_iff.mp h
    obtain ⟨r, len, t, k', a', st, i, v, has, hi, h, hv⟩ := ab_gr_inv h
    exact hK _ _ _ _ h
  | iastore =>
    obtain ⟨v, j, k, o, S', hSe, h⟩ := ab_iir_inv h
    obtain ⟨q, hq, h⟩ := Option.bind_eq_some_iff.mp h
    obtain ⟨r, len, k', a', st, has, h⟩ := ab_ga_inv h
    obtain ⟨i, hi, h⟩ := Option.bind_eq_some_iff.mp h
    exact ht _ _ _ (hI _ _ _ _ _) (hK _ _ _ _ h)
  | bastore =>
    obtain ⟨v, j, k, o, S', hSe, h⟩ := ab_iir_inv h
    obtain ⟨q, hq, h⟩ := Option.bind_eq_some_iff.mp h
    obtain ⟨r, len, k', a', st, has, h⟩ := ab_ga_inv h
    obtain ⟨i, hi, h⟩ := Option.bind_eq_some_iff.mp h
    obtain ⟨v', hv', h⟩ := Option.bind_eq_some_iff.mp h
    exact ht _ _ _ (hI _ _ _ _ _) (hK _ _ _ _ h)
  | lastore =>
    obtain ⟨v, j, k, o, S', hSe, h⟩ := ab_lir_inv h
    obtain ⟨q, hq, h⟩ := Option.bind_eq_some_iff.mp h
    obtain ⟨r, len, k', a', st, has, h⟩ := ab_ga_inv h
    obtain ⟨i, hi, h⟩ := Option.bind_eq_some_iff.mp h
    exact ht _ _ _ (hJ _ _ _ _ _) (hK _ _ _ _ h)
  | aastore =>
    obtain ⟨k2, o2, j, k, o, S', hSe, h⟩ := ab_rir_inv h
    obtain ⟨q, hq, h⟩ := Option.bind_eq_some_iff.mp h
    obtain ⟨q2, hq2, h⟩ := Option.bind_eq_some_iff.mp h
    obtain ⟨r, len, a', st, has, h⟩ := ab_ga3_inv h
    obtain ⟨i, hi, h⟩ := Option.bind_eq_some_iff.mp h
    exact ht _ _ _ (hR _ _ _ _ _) (hK _ _ _ _ h)
  | arraylength =>
    obtain ⟨k, o, S', hSe, h⟩ := ab_r1_inv h
    by_cases hk0 : k = 0
    · rw [if_pos hk0] at h
      obtain ⟨q, hq, h⟩ := Option.bind_eq_some_iff.mp h
      obtain ⟨z, hz, h⟩ := Option.bind_eq_some_iff.mp h
      exact hK _ _ _ _ h
    · rw [if_neg hk0] at h
      obtain ⟨q, hq, h⟩ := Option.bind_eq_some_iff.mp h
      obtain ⟨z, hz, h⟩ := Option.bind_eq_some_iff.mp h
      exact hK _ _ _ _ h
  | new idx =>
    exact ht _ _ _ (hN rfl m) (hK _ _ _ _ h)
  | newarray at' =>
    obtain ⟨v, S', hSe, h⟩ := ab_i1_inv h
    obtain ⟨z, hz, h⟩ := Option.bind_eq_some_iff.mp h
    by_cases hv : v = Int32.ofNat z.2.1
    · rw [if_pos hv] at h
      exact ht _ _ _ (hN rfl m) (hK _ _ _ _ h)
    · rw [if_neg hv] at h
      cases h
  | anewarray idx =>
    obtain ⟨v, S', hSe, h⟩ := ab_i1_inv h
    obtain ⟨z, hz, h⟩ := Option.bind_eq_some_iff.mp h
    by_cases hv : v = Int32.ofNat z.2.1
    · rw [if_pos hv] at h
      exact ht _ _ _ (hN rfl m) (hK _ _ _ _ h)
    · rw [if_neg hv] at h
      cases h
  | invokevirtual idx =>
    have h : (if Nat.ble (ab_wd (S.drop b')) 8 = true then (if d = 0 then (eV a (S.take b').reverse m).bind (fun m' => K (pc + 3) L (S.drop b') m') else (eI a (S.take b').reverse m).bind (fun q => K (pc + 3) L (.inl q.1 :: S.drop b') (q.2))) else none) = some ρ := h
    by_cases hwd : Nat.ble (ab_wd (S.drop b')) 8 = true
    · rw [if_pos hwd] at h
      by_cases hd : d = 0
      · rw [if_pos hd] at h
        obtain ⟨m', hm', h⟩ := Option.bind_eq_some_iff.mp h
        exact ht _ _ _ (hV rfl _ _ _ hm') (hK _ _ _ _ h)
      · rw [if_neg hd] at h
        obtain ⟨q, hq, h⟩ := Option.bind_eq_some_iff.mp h
        exact ht _ _ _ (hIv rfl _ _ _ hq) (hK _ _ _ _ h)
    · rw [if_neg hwd] at h
      cases h
  | invokespecial idx =>
    have h : (if Nat.ble (ab_wd (S.drop b')) 8 = true then (if d = 0 then (eV a (S.take b').reverse m).bind (fun m' => K (pc + 3) L (S.drop b') m') else (eI a (S.take b').reverse m).bind (fun q => K (pc + 3) L (.inl q.1 :: S.drop b') (q.2))) else none) = some ρ := h
    by_cases hwd : Nat.ble (ab_wd (S.drop b')) 8 = true
    · rw [if_pos hwd] at h
      by_cases hd : d = 0
      · rw [if_pos hd] at h
        obtain ⟨m', hm', h⟩ := Option.bind_eq_some_iff.mp h
        exact ht _ _ _ (hV rfl _ _ _ hm') (hK _ _ _ _ h)
      · rw [if_neg hd] at h
        obtain ⟨q, hq, h⟩ := Option.bind_eq_some_iff.mp h
        exact ht _ _ _ (hIv rfl _ _ _ hq) (hK _ _ _ _ h)
    · rw [if_neg hwd] at h
      cases h
  | invokestatic idx =>
    have h : (if Nat.ble (ab_wd (S.drop b')) 8 = true then (if d = 0 then (eV a (S.take b').reverse m).bind (fun m' => K (pc + 3) L (S.drop b') m') else (eI a (S.take b').reverse m).bind (fun q => K (pc + 3) L (.inl q.1 :: S.drop b') (q.2))) else none) = some ρ := h
    by_cases hwd : Nat.ble (ab_wd (S.drop b')) 8 = true
    · rw [if_pos hwd] at h
      by_cases hd : d = 0
      · rw [if_pos hd] at h
        obtain ⟨m', hm', h⟩ := Option.bind_eq_some_iff.mp h
        exact ht _ _ _ (hV rfl _ _ _ hm') (hK _ _ _ _ h)
      · rw [if_neg hd] at h
        obtain ⟨q, hq, h⟩ := Option.bind_eq_some_iff.mp h
        exact ht _ _ _ (hIv rfl _ _ _ hq) (hK _ _ _ _ h)
    · rw [if_neg hwd] at h
      cases h
  | ireturn =>
    obtain ⟨v, S', hSe, h⟩ := ab_i1_inv h
    by_cases hS : S'.isEmpty = true
    · rw [if_pos hS] at h
      by_cases hd : d = 0
      · rw [if_pos hd] at h
        have e := Option.some.inj h
        rw [← e]
        exact hr m
      · rw [if_neg hd] at h
        obtain ⟨v', hv', h⟩ := Option.bind_eq_some_iff.mp h
        have e := Option.some.inj h
        rw [← e]
        exact hr m
    · rw [if_neg hS] at h
      cases h
  | return_ =>
    have h : (if S.isEmpty = true then some (Sum.inl (none, m)) else none) = some ρ := h
    by_cases hS : S.isEmpty = true
    · rw [if_pos hS] at h
      have e := Option.some.inj h
      rw [← e]
      exact hr m
    · rw [if_neg hS] at h
      cases h
  | _ => cases h
theorem ab_rel {Rl : Mm → Mm → Prop} (hr : ∀ m, Rl m m) (ht : ∀ a b c, Rl a b → Rl b c → Rl a c) (hI : ∀ m r p j x, Rl m (ab_uI m r p j x)) (hJ : ∀ m r p j x, Rl m (ab_uJ m r p j x)) (hR : ∀ m r p j x, Rl m (ab_uR m r p j x))
    {sw : Nat → List (Int32 × Nat) × Nat} {eV : Nat → List AV → Mm → Option Mm} {eI : Nat → List AV → Mm → Option (Int32 × Mm)} {ρ : Rs} {ins : Nat → Option Ent} {hd : Nat → Nat × List Bool}
    (hN : ∀ pc q, ins pc = some q → ab_isn q.1 = true → ∀ m, Rl m (ab_ap m q.2.1)) (hV : ∀ a av m m', eV a av m = some m' → Rl m m') (hIv : ∀ a av m q, eI a av m = some q → Rl m q.2) :
    ∀ (f pc : Nat) (L : List (Option AV)) (S : List AV) (m : Mm), ab_ex KT sc sw eV eI ins hd f pc L S m = some ρ → Rl m (ab_rm ρ) := by
  intro f
  induction f with
  | zero => intro pc L S m h; cases h
  | succ f ih =>
    have key : ∀ (n pc : Nat) (L : List (Option AV)) (S : List AV) (m : Mm), ab_seg KT sc sw eV eI ins hd (ab_ex KT sc sw eV eI ins hd f) n pc L S m = some ρ → Rl m (ab_rm ρ) := by
      intro n
      induction n with
      | zero => intro pc L S m h; cases h
      | succ n ihn =>
        intro pc L S m h
        obtain ⟨q, hq, h⟩ := Option.bind_eq_some_iff.mp h
        refine ab_rst hr ht hI hJ hR (K := fun pc' L' S' m' => match hd pc' with
          | (0, _) => ab_seg KT sc sw eV eI ins hd (ab_ex KT sc sw eV eI ins hd f) n pc' L' S' m'
          | (1, msk) => ab_ex KT sc sw eV eI ins hd f pc' (ab_mk msk L') S' m'
          | _ => some (.inr (pc', L', S', m'))) (hN pc q hq) (fun _ => hV _) (fun _ => hIv _) ?_ h
        intro pc' L' S' m' hc'
        split at hc'
        · exact ihn _ _ _ _ hc'
        · exact ih _ _ _ _ hc'
        · have e := Option.some.inj hc'
          rw [← e]
          exact hr _
    intro pc L S m h
    exact key 1000 _ _ _ _ h
end
end
section
/-! A method's contract out of a run. -/
section
/-- a call site's rule: behind the call the walk goes on with what the callee's table says -/
def ab_CR (l : Launch) (KT : List KS) (cl : List vw_C) (sc : Option (Nat × (Nat → Int32))) (gW : List Cond) (own : String) (cc : ByteArray) (nL fr lo : Nat) (eV : Nat → List AV → Mm → Option Mm) (eI : Nat → List AV → Mm → Option (Int32 × Mm)) (pc : Nat) (q : Ent) : Prop :=
  ∀ (p : Program) (e : Env) (R : Room) (s : State) (m0 : MethodId) (args : Array Value) (below : List Frame) (meth : Method) (cd : Code) (Q : State → Prop) (D : va_G) (b : Nat) (A : Nat → Prop) (H0 : Heap) (ks0 : List Nat) (g0 h0 G Hs : Nat) (ad0 ac0 : Nat → Nat),
    ab_X s → p.tables.exec = Jvm.exec → cd.code = cc → cd.maxLocals = nL → (∀ w ∈ gW, w.before args s = true) → s.vm.findClass own = some m0.cls → va_K D cl [] s → (∀ q, H0.size ≤ q → A q) → G ≤ g0 + R.cells → Hs ≤ h0 + R.slots → R.frames = fr → R.locals = lo →
    (∀ z, sc = some z → va_X b z.1 z.2 s H0 ∧ b < H0.size ∧ ¬ A b) →
    (∀ (L : List (Option AV)) (S : List AV) (m m' : Mm), ab_wd (S.drop q.2.2.1) ≤ 8 → eV q.2.1 (S.take q.2.2.1).reverse m = some m' → ab_W p l e R s m0 args below meth cd Q KT cl D sc b A H0 ks0 g0 h0 nL G Hs ad0 ac0 (pc + 3, L, S.drop q.2.2.1, m') → ab_W p l e R s m0 args below meth cd Q KT cl D sc b A H0 ks0 g0 h0 nL G Hs ad0 ac0 (pc, L, S, m)) ∧
    (∀ (L : List (Option AV)) (S : List AV) (m : Mm) (z : Int32 × Mm), ab_wd (S.drop q.2.2.1) ≤ 8 → eI q.2.1 (S.take q.2.2.1).reverse m = some z → ab_W p l e R s m0 args below meth cd Q KT cl D sc b A H0 ks0 g0 h0 nL G Hs ad0 ac0 (pc + 3, L, .inl z.1 :: S.drop q.2.2.1, z.2) → ab_W p l e R s m0 args below meth cd Q KT cl D sc b A H0 ks0 g0 h0 nL G Hs ad0 ac0 (pc, L, S, m))
/-- the locals that a method begins with -/
def ab_ent : List AV → List (Option AV)
  | [] => []
  | .inr (.inl x) :: r => some (.inr (.inl x)) :: none :: ab_ent r
  | v :: r => some v :: ab_ent r
def ab_L0 (maxL : Nat) (av : List AV) : List (Option AV) := ab_ent av ++ List.replicate (maxL - (ab_ent av).length) none
theorem ab_ent_sl (ad : Nat → Nat) (b : Nat) : ∀ av : List AV, (ab_ent av).length = (lg_sl (av.map (ab_v ad b))).length ∧ ∀ (i : Nat) (v : AV), (ab_ent av)[i]? = some (some v) → v ∈ av ∧ (lg_sl (av.map (ab_v ad b)))[i]? = some (.val (ab_v ad b v))
  | [] => ⟨rfl, fun i v h => by simp [ab_ent] at h⟩
  | .inl x :: r => by
    have ih := ab_ent_sl ad b r
    have e : lg_sl (List.map (ab_v ad b) (Sum.inl x :: r)) = .val (.int x) :: lg_sl (r.map (ab_v ad b)) := by simp [lg_sl, ab_v, Value.category]
    rw [e]
    refine ⟨by simp [ab_ent, ih.1], fun i v h => ?_⟩
    cases i with
    | zero => simp [ab_ent] at h; subst h; exact ⟨List.mem_cons_self, rfl⟩
    | succ i =>
      have h' : (ab_ent r)[i]? = some (some v) := by simpa [ab_ent] using h
      exact ⟨List.mem_cons_of_mem _ (ih.2 i v h').1, by simpa using (ih.2 i v h').2⟩
  | .inr (.inl x) :: r => by
    have ih := ab_ent_sl ad b r
    have e : lg_sl (List.map (ab_v ad b) (Sum.inr (Sum.inl x) :: r)) = .val (.long x) :: .second :: lg_sl (r.map (ab_v ad b)) := by simp [lg_sl, ab_v, Value.category]
    rw [e]
    refine ⟨by simp [ab_ent, ih.1], fun i v h => ?_⟩
    match i with
    | 0 => simp [ab_ent] at h; subst h; exact ⟨List.mem_cons_self, rfl⟩
    | 1 => simp [ab_ent] at h
    | i + 2 =>
      have h' : (ab_ent r)[i]? = some (some v) := by simpa [ab_ent] using h
      exact ⟨List.mem_cons_of_mem _ (ih.2 i v h').1, by simpa using (ih.2 i v h').2⟩
  | .inr (.inr z) :: r => by
    have ih := ab_ent_sl ad b r
    have e : lg_sl (List.map (ab_v ad b) (Sum.inr (Sum.inr z) :: r)) = .val (ab_v ad b (.inr (.inr z))) :: lg_sl (r.map (ab_v ad b)) := by
      have hc : (ab_v ad b (.inr (.inr z))).category ≠ 2 := by rw [ab_cat (fun y hy => by cases hy)]; decide
      simp [lg_sl, hc]
    rw [e]
    refine ⟨by simp [ab_ent, ih.1], fun i v h => ?_⟩
    cases i with
    | zero => simp [ab_ent] at h; subst h; exact ⟨List.mem_cons_self, rfl⟩
    | succ i =>
      have h' : (ab_ent r)[i]? = some (some v) := by simpa [ab_ent] using h
      exact ⟨List.mem_cons_of_mem _ (ih.2 i v h').1, by simpa using (ih.2 i v h').2⟩
theorem ab_L0_at {ad : Nat → Nat} {b maxL i : Nat} {av : List AV} {v : AV} (h : (ab_L0 maxL av)[i]? = some (some v)) : v ∈ av ∧ (lg_sl (av.map (ab_v ad b)) ++ List.replicate (maxL - (lg_sl (av.map (ab_v ad b))).length) Slot.unset)[i]? = some (.val (ab_v ad b v)) := by
  have ih := ab_ent_sl ad b av
  unfold ab_L0 at h
  by_cases hi : i < (ab_ent av).length
  · rw [List.getElem?_append_left hi] at h
    have h2 := ih.2 i v h
    refine ⟨h2.1, ?_⟩
    rw [List.getElem?_append_left (by rw [← ih.1]; exact hi)]
    exact h2.2
  · rw [List.getElem?_append_right (by omega)] at h
    have h3 := List.mem_of_getElem? h
    rw [List.mem_replicate] at h3
    cases h3.2
theorem ab_met {l : Launch} {KT : List KS} {cl : List vw_C} {y : MethodName} {cc : ByteArray} {maxL fr lo f : Nat} {ret : Option FieldType} {gW : List Cond} {sc : Option (Nat × (Nat → Int32))} {av : List AV} {m m' : Mm} {r : Option AV}
    {sw : Nat → List (Int32 × Nat) × Nat} {eV : Nat → List AV → Mm → Option Mm} {eI : Nat → List AV → Mm → Option (Int32 × Mm)} {ins : Nat → Option Ent} {hd : Nat → Nat × List Bool}
    (hy : plainFor y = true) (h00 : KT[0]? = some (.inr (0, 0, 9, 0, 0, 0))) (hnd : ab_nd KT) (hk3 : ab_k3 KT cl)
    (hE : ∀ (pc : Nat) (q : Ent), ins pc = some q → ab_E KT cl gW y.cls y.name ret cc sw maxL pc q.1 q.2.1 q.2.2.1 q.2.2.2.1 q.2.2.2.2)
    (hcl : ∀ (pc : Nat) (q : Ent), ins pc = some q → ab_inv q.1 = true → ab_CR l KT cl sc gW y.cls cc maxL fr lo eV eI pc q)
    (hmono : ab_gc m ≤ ab_gc m' ∧ ab_gs KT m ≤ ab_gs KT m') (hlen : (ab_ent av).length ≤ maxL)
    (hrun : ab_ex KT sc sw eV eI ins hd f 0 (ab_L0 maxL av) [] m = some (.inl (r, m'))) (hrv : ∀ v, r = some v → ∃ x, v = .inl x) :
    ab_Met l KT cl y (Cond.code y cc maxL ret :: gW) fr lo sc av m r m' := by
  refine ⟨hmono.1, hmono.2, fun D ad ac b sz => ?_⟩
  refine va_MetF (cc := cc) (maxL := maxL) (ret := ret) hy rfl ?_
  intro p e s m0 args below meth c s₁ B hml hv
  obtain ⟨rfl, hsz, hP, hD0, hK0, hKA, hok, hvv, hX, hsc⟩ := hv
  have hts := atoms_spec (ws := Cond.code y cc maxL ret :: gW) B.pre
  have hown : s.vm.findClass y.cls = some m0.cls := findClass_of_methodNamed B.named
  have hnm : meth.name = y.name := (name_of_methodNamed B.named B.method).1
  have hret := B.returns
  subst hsz
  have hD := hD0.self (sz := s.heap.size)
  have hA : ∀ q : Nat, s.heap.size ≤ q → va_A (ab_w KT ad ac m) s.heap.size q := fun q h => Or.inr h
  have hl := lv_entry (av.map (ab_v ad b)) (n := maxL) (by rw [← (ab_ent_sl ad b av).1]; exact hlen)
  rw [lg_entry_eq]
  have hw := ab_sound (p := p) (l := l) (e := e) (R := (headSpec (Cond.code y cc maxL ret :: gW) { frames := fr, cells := ab_gc m' - ab_gc m, slots := ab_gs KT m' - ab_gs KT m, locals := lo }).room) (below := below) (meth := meth) (cd := c) (KT := KT) (cl := cl) (D := D) (sc := sc) (b := b) (A := va_A (ab_w KT ad ac m) s.heap.size) (H0 := s.heap) (ks0 := m.2.2.2.1) (g0 := ab_gc m) (h0 := ab_gs KT m) (nL := maxL) (G := ab_gc m') (Hs := ab_gs KT m') (ad0 := ad) (ac0 := ac) (Ts := gW) (own := y.cls)
    hX B.exec B.bytes (fun w h => hts w (List.mem_cons_of_mem _ h)) hown hK0 h00 hnd hk3 hA (by show ab_gc m' ≤ ab_gc m + (ab_gc m' - ab_gc m); omega) (by show ab_gs KT m' ≤ ab_gs KT m + (ab_gs KT m' - ab_gs KT m); omega) hsc B.notSynchronized
    (Qc := ab_Qc KT cl D sc b ad ac m s.heap.size r m') (free := va_A (ab_w KT ad ac m) s.heap.size) (mc := ab_gc m' - ab_gc m) (ms := ab_gs KT m' - ab_gs KT m) (fun q h => h) (ρ := .inl (r, m')) ?_ (fun c' h => by cases h) (fun pc q hq => ?_) (fun pc q hq hi => ?_) f _ _ _ _ hrun
  · refine hw.2.2 ad ac _ s.heap [] 0 0 ⟨hP, hD, va_S.rf, hKA, hok, fun _ _ => ⟨rfl, rfl⟩, fun _ _ h => h, Nat.zero_add _, Nat.zero_add _⟩ ⟨?_, ?_, ?_, fun v hv => by cases hv⟩
    · show (ab_L0 maxL av).length = maxL
      unfold ab_L0
      rw [List.length_append, List.length_replicate]
      omega
    · refine ⟨hl.1, hl.2.1, fun q hq => ?_⟩
      obtain ⟨v, h1, h2⟩ := ab_mem_al.mp hq
      rw [h2, List.getElem?_toArray]
      exact (ab_L0_at h1).2
    · intro i v hv
      exact hvv v (ab_L0_at (ad := ad) (b := b) hv).1
  · intro r' m2 hρ
    simp only [Sum.inl.injEq, Prod.mk.injEq] at hρ
    obtain ⟨rfl, rfl⟩ := hρ
    refine ⟨by omega, by omega, Nat.le_refl _, Nat.le_refl _, fun ad' ac' H locs cells slots t hI hvv' ht hW => ?_⟩
    obtain ⟨hP', hD', hS', hKA', hok', hext', hn0', -, -⟩ := hI
    refine ⟨ad', ac', hext', rfl, by rw [ht]; exact hP', hD', ab_K_moved hW.alike hKA', hok', hn0', hvv', hS'.F ht⟩
  · have h := hE pc q hq
    rw [hnm, hret]
    exact h
  · exact hcl pc q hq hi p e _ s m0 _ below meth c _ D b _ _ _ _ _ _ _ ad ac hX B.exec B.bytes hml (fun w h => hts w (List.mem_cons_of_mem _ h)) hown hK0 hA (by show ab_gc m' ≤ ab_gc m + (ab_gc m' - ab_gc m); omega) (by show ab_gs KT m' ≤ ab_gs KT m + (ab_gs KT m' - ab_gs KT m); omega) rfl rfl hsc
end
end
section
/-! A method's table, checked by program; call sites by their callees. -/
section
def ab_dk (cc : ByteArray) (pc : Nat) (i : Instr) (n : Nat) : Bool := match decode cc pc with
  | .ok q => decide (q = (i, n))
  | _ => false
theorem ab_dk_ok {cc : ByteArray} {pc : Nat} {i : Instr} {n : Nat} (h : ab_dk cc pc i n = true) : decode cc pc = .ok (i, n) := by
  unfold ab_dk at h
  split at h
  · rename_i q hq
    rw [hq, of_decide_eq_true h]
  · cases h
def ab_dsw (cc : ByteArray) (pc : Nat) (i : Instr) : Bool := match decode cc pc with
  | .ok q => decide (q.1 = i)
  | _ => false
theorem ab_dsw_ok {cc : ByteArray} {pc : Nat} {i : Instr} (h : ab_dsw cc pc i = true) : ∃ n, decode cc pc = .ok (i, n) := by
  unfold ab_dsw at h
  split at h
  · rename_i q hq
    exact ⟨q.2, by rw [hq, ← of_decide_eq_true h]⟩
  · cases h
def ab_swb (pc : Nat) (dflt lo hi : Int) (offs : Array Int) (q : List (Int32 × Nat) × Nat) : Bool :=
  q.1.all (fun z => decide (¬ z.1.toInt < lo) && decide (¬ hi < z.1.toInt) && (match offs[(z.1.toInt - lo).toNat]? with | some off => decide ((pc : Int) + off = (z.2 : Int)) | none => false)) &&
  (List.range (hi - lo + 1).toNat).all (fun k => q.1.any fun z => decide (z.1.toInt = lo + k)) && decide ((pc : Int) + dflt = (q.2 : Int))
theorem ab_swb_ok {pc : Nat} {dflt lo hi : Int} {offs : Array Int} {q : List (Int32 × Nat) × Nat} (h : ab_swb pc dflt lo hi offs q = true) : ab_swok pc dflt lo hi offs q := by
  unfold ab_swb at h
  simp only [Bool.and_eq_true] at h
  obtain ⟨⟨h1, h2⟩, h3⟩ := h
  refine ⟨fun z hz => ?_, fun k hk => ?_, of_decide_eq_true h3⟩
  · have h4 := List.all_eq_true.mp h1 z hz
    simp only [Bool.and_eq_true] at h4
    obtain ⟨⟨h5, h6⟩, h7⟩ := h4
    refine ⟨of_decide_eq_true h5, of_decide_eq_true h6, ?_⟩
    split at h7
    · rename_i off ho
      exact ⟨off, ho, of_decide_eq_true h7⟩
    · cases h7
  · have h4 := List.all_eq_true.mp h2 k (List.mem_range.mpr hk)
    obtain ⟨z, hz, h5⟩ := List.any_eq_true.mp h4
    exact ⟨z, hz, of_decide_eq_true h5⟩
/-- the check of an entry. LC, LJ: constants; FL, FP: fields read, written; NW, NA, NQ: what is made -/
def ab_Eb (ret : Option FieldType) (cc : ByteArray) (sw : Nat → List (Int32 × Nat) × Nat) (nL : Nat) (LC : List (Nat × Int32)) (LJ : List (Nat × Nat)) (FL FP : List (Nat × Nat × Nat)) (NW : List (Nat × Nat)) (NA : List (Nat × Nat)) (NQ : List (Nat × Nat)) (pc : Nat) (i : Instr) (a b' d : Nat) (x : Int32) : Bool := match i with
  | .iconst n => ab_dk cc pc (.iconst n) 1 && decide (Int32.ofInt n = x)
  | .bipush n => ab_dk cc pc (.bipush n) 2 && decide ((Int8.ofInt n).toInt32 = x)
  | .sipush n => ab_dk cc pc (.sipush n) 3 && decide ((Int16.ofInt n).toInt32 = x)
  | .ldc idx => ab_dk cc pc (.ldc idx) 2 && decide ((idx, x) ∈ LC)
  | .lconst n => ab_dk cc pc (.lconst n) 1 && decide (Int64.ofNat (n : Nat) = Int64.ofNat a)
  | .ldc2_w idx => ab_dk cc pc (.ldc2_w idx) 3 && decide ((idx, a) ∈ LJ)
  | .iload j => ab_dk cc pc (.iload j) 2 && decide (j = a)
  | .iload_n j => ab_dk cc pc (.iload_n j) 1 && decide ((j : Nat) = a)
  | .lload j => ab_dk cc pc (.lload j) 2 && decide (j = a)
  | .lload_n j => ab_dk cc pc (.lload_n j) 1 && decide ((j : Nat) = a)
  | .aload j => ab_dk cc pc (.aload j) 2 && decide (j = a)
  | .aload_n j => ab_dk cc pc (.aload_n j) 1 && decide ((j : Nat) = a)
  | .istore j => ab_dk cc pc (.istore j) 2 && (decide (j = a) && decide (a < nL))
  | .istore_n j => ab_dk cc pc (.istore_n j) 1 && (decide ((j : Nat) = a) && decide (a < nL))
  | .lstore j => ab_dk cc pc (.lstore j) 2 && (decide (j = a) && decide (a + 1 < nL))
  | .lstore_n j => ab_dk cc pc (.lstore_n j) 1 && (decide ((j : Nat) = a) && decide (a + 1 < nL))
  | .astore j => ab_dk cc pc (.astore j) 2 && (decide (j = a) && decide (a < nL))
  | .astore_n j => ab_dk cc pc (.astore_n j) 1 && (decide ((j : Nat) = a) && decide (a < nL))
  | .iinc j n => ab_dk cc pc (.iinc j n) 3 && (decide (j = a) && (decide (Int32.ofInt n = x) && decide (a < nL)))
  | .goto off => ab_dk cc pc (.goto off) 3 && decide ((pc : Int) + off = (a : Int))
  | .ifCond c off => ab_dk cc pc (.ifCond c off) 3 && decide ((pc : Int) + off = (a : Int))
  | .if_icmp c off => ab_dk cc pc (.if_icmp c off) 3 && decide ((pc : Int) + off = (a : Int))
  | .ifnull off => ab_dk cc pc (.ifnull off) 3 && decide ((pc : Int) + off = (a : Int))
  | .ifnonnull off => ab_dk cc pc (.ifnonnull off) 3 && decide ((pc : Int) + off = (a : Int))
  | .tableswitch dflt lo hi offs => ab_dsw cc pc (.tableswitch dflt lo hi offs) && ab_swb pc dflt lo hi offs (sw pc)
  | .getfield idx => ab_dk cc pc (.getfield idx) 3 && decide ((idx, a, b') ∈ FL)
  | .putfield idx => ab_dk cc pc (.putfield idx) 3 && decide ((idx, a, b') ∈ FP)
  | .new idx => ab_dk cc pc (.new idx) 3 && decide ((idx, a) ∈ NW)
  | .newarray .int => ab_dk cc pc (.newarray .int) 2 && decide ((0, a) ∈ NA)
  | .newarray .boolean => ab_dk cc pc (.newarray .boolean) 2 && decide ((1, a) ∈ NA)
  | .newarray .long => ab_dk cc pc (.newarray .long) 2 && decide ((2, a) ∈ NA)
  | .newarray _ => false
  | .anewarray idx => ab_dk cc pc (.anewarray idx) 3 && decide ((idx, a) ∈ NQ)
  | .ireturn => ab_dk cc pc .ireturn 1 && (if d = 0 then decide (ret = some .int) else decide (ret = some .boolean))
  | .return_ => ab_dk cc pc .return_ 1 && decide (ret = none)
  | .invokevirtual idx => ab_dk cc pc (.invokevirtual idx) 3
  | .invokespecial idx => ab_dk cc pc (.invokespecial idx) 3
  | .invokestatic idx => ab_dk cc pc (.invokestatic idx) 3
  | i => ab_dk cc pc i 1
set_option maxHeartbeats 1000000 in
theorem ab_Eb_ok {KT : List KS} {cl : List vw_C} {gW : List Cond} {own nm : String} {ret : Option FieldType} {cc : ByteArray} {sw : Nat → List (Int32 × Nat) × Nat} {nL : Nat} {LC : List (Nat × Int32)} {LJ : List (Nat × Nat)} {FL FP : List (Nat × Nat × Nat)} {NW : List (Nat × Nat)} {NA : List (Nat × Nat)} {NQ : List (Nat × Nat)}
    (hLC : ∀ q ∈ LC, Cond.constant own q.1 q.2 ∈ gW) (hLJ : ∀ q ∈ LJ, Cond.constantLong own q.1 (Int64.ofNat q.2) ∈ gW) (hFL : ∀ q ∈ FL, ab_fld cl gW own q.1 q.2.1 q.2.2)
    (hFP : ∀ q ∈ FP, ∃ ty, ab_fldp cl gW own nm q.1 q.2.1 q.2.2 ty ∧ ∀ (k t r k' d' : Nat), ab_fs KT q.2.1 q.2.2 k = some (t, r, k', d') → (t = 0 → ty = .int) ∧ (t = 1 → ty = .boolean) ∧ (t = 2 → ((∃ n, ty = .object n) ∨ ∃ t, ty = .array t) ∧ k' ≠ 0))
    (hNW : ∀ q ∈ NW, ab_newok KT cl gW own q.1 q.2) (hNA : ∀ q ∈ NA, (q.1 = 0 → ab_naok KT cl gW .int q.2) ∧ (q.1 = 1 → ab_naok KT cl gW .boolean q.2) ∧ (q.1 = 2 → ab_naok KT cl gW .long q.2)) (hNQ : ∀ q ∈ NQ, ab_nqok KT cl gW own q.1 q.2)
    {pc : Nat} {i : Instr} {a b' d : Nat} {x : Int32} (h : ab_Eb ret cc sw nL LC LJ FL FP NW NA NQ pc i a b' d x = true) : ab_E KT cl gW own nm ret cc sw nL pc i a b' d x := by
  cases i with
  | ldc idx =>
    have h := Bool.and_eq_true_iff.mp h
    exact ⟨ab_dk_ok h.1, hLC _ (of_decide_eq_true h.2)⟩
  | ldc2_w idx =>
    have h := Bool.and_eq_true_iff.mp h
    exact ⟨ab_dk_ok h.1, hLJ _ (of_decide_eq_true h.2)⟩
  | tableswitch dflt lo hi offs =>
    have h := Bool.and_eq_true_iff.mp h
    exact ⟨ab_dsw_ok h.1, ab_swb_ok h.2⟩
  | getfield idx =>
    have h := Bool.and_eq_true_iff.mp h
    exact ⟨ab_dk_ok h.1, hFL _ (of_decide_eq_true h.2)⟩
  | putfield idx =>
    have h := Bool.and_eq_true_iff.mp h
    exact ⟨ab_dk_ok h.1, hFP _ (of_decide_eq_true h.2)⟩
  | new idx =>
    have h := Bool.and_eq_true_iff.mp h
    exact ⟨ab_dk_ok h.1, hNW _ (of_decide_eq_true h.2)⟩
  | newarray at' =>
    cases at' with
    | int =>
      have h := Bool.and_eq_true_iff.mp h
      exact ⟨ab_dk_ok h.1, (hNA _ (of_decide_eq_true h.2)).1 rfl⟩
    | boolean =>
      have h := Bool.and_eq_true_iff.mp h
      exact ⟨ab_dk_ok h.1, (hNA _ (of_decide_eq_true h.2)).2.1 rfl⟩
    | long =>
      have h := Bool.and_eq_true_iff.mp h
      exact ⟨ab_dk_ok h.1, (hNA _ (of_decide_eq_true h.2)).2.2 rfl⟩
    | _ => cases h
  | anewarray idx =>
    have h := Bool.and_eq_true_iff.mp h
    exact ⟨ab_dk_ok h.1, hNQ _ (of_decide_eq_true h.2)⟩
  | ireturn =>
    have h := Bool.and_eq_true_iff.mp h
    refine ⟨ab_dk_ok h.1, fun hd => ?_, fun hd => ?_⟩
    · have h2 := h.2
      rw [if_pos hd] at h2
      exact of_decide_eq_true h2
    · have h2 := h.2
      rw [if_neg hd] at h2
      exact of_decide_eq_true h2
  | return_ =>
    have h := Bool.and_eq_true_iff.mp h
    exact ⟨ab_dk_ok h.1, of_decide_eq_true h.2⟩
  | iconst n =>
    have h := Bool.and_eq_true_iff.mp h
    exact ⟨ab_dk_ok h.1, of_decide_eq_true h.2⟩
  | bipush n =>
    have h := Bool.and_eq_true_iff.mp h
    exact ⟨ab_dk_ok h.1, of_decide_eq_true h.2⟩
  | sipush n =>
    have h := Bool.and_eq_true_iff.mp h
    exact ⟨ab_dk_ok h.1, of_decide_eq_true h.2⟩
  | lconst n =>
    have h := Bool.and_eq_true_iff.mp h
    exact ⟨ab_dk_ok h.1, of_decide_eq_true h.2⟩
  | iload j =>
    have h := Bool.and_eq_true_iff.mp h
    exact ⟨ab_dk_ok h.1, of_decide_eq_true h.2⟩
  | iload_n j =>
    have h := Bool.and_eq_true_iff.mp h
    exact ⟨ab_dk_ok h.1, of_decide_eq_true h.2⟩
  | lload j =>
    have h := Bool.and_eq_true_iff.mp h
    exact ⟨ab_dk_ok h.1, of_decide_eq_true h.2⟩
  | lload_n j =>
    have h := Bool.and_eq_true_iff.mp h
    exact ⟨ab_dk_ok h.1, of_decide_eq_true h.2⟩
  | aload j =>
    have h := Bool.and_eq_true_iff.mp h
    exact ⟨ab_dk_ok h.1, of_decide_eq_true h.2⟩
  | aload_n j =>
    have h := Bool.and_eq_true_iff.mp h
    exact ⟨ab_dk_ok h.1, of_decide_eq_true h.2⟩
  | istore j =>
    have h := Bool.and_eq_true_iff.mp h
    have h2 := Bool.and_eq_true_iff.mp h.2
    exact ⟨ab_dk_ok h.1, of_decide_eq_true h2.1, of_decide_eq_true h2.2⟩
  | istore_n j =>
    have h := Bool.and_eq_true_iff.mp h
    have h2 := Bool.and_eq_true_iff.mp h.2
    exact ⟨ab_dk_ok h.1, of_decide_eq_true h2.1, of_decide_eq_true h2.2⟩
  | lstore j =>
    have h := Bool.and_eq_true_iff.mp h
    have h2 := Bool.and_eq_true_iff.mp h.2
    exact ⟨ab_dk_ok h.1, of_decide_eq_true h2.1, of_decide_eq_true h2.2⟩
  | lstore_n j =>
    have h := Bool.and_eq_true_iff.mp h
    have h2 := Bool.and_eq_true_iff.mp h.2
    exact ⟨ab_dk_ok h.1, of_decide_eq_true h2.1, of_decide_eq_true h2.2⟩
  | astore j =>
    have h := Bool.and_eq_true_iff.mp h
    have h2 := Bool.and_eq_true_iff.mp h.2
    exact ⟨ab_dk_ok h.1, of_decide_eq_true h2.1, of_decide_eq_true h2.2⟩
  | astore_n j =>
    have h := Bool.and_eq_true_iff.mp h
    have h2 := Bool.and_eq_true_iff.mp h.2
    exact ⟨ab_dk_ok h.1, of_decide_eq_true h2.1, of_decide_eq_true h2.2⟩
  | iinc j n =>
    have h := Bool.and_eq_true_iff.mp h
    have h2 := Bool.and_eq_true_iff.mp h.2
    have h3 := Bool.and_eq_true_iff.mp h2.2
    exact ⟨ab_dk_ok h.1, of_decide_eq_true h2.1, of_decide_eq_true h3.1, of_decide_eq_true h3.2⟩
  | goto off =>
    have h := Bool.and_eq_true_iff.mp h
    exact ⟨ab_dk_ok h.1, of_decide_eq_true h.2⟩
  | ifCond c off =>
    have h := Bool.and_eq_true_iff.mp h
    exact ⟨ab_dk_ok h.1, of_decide_eq_true h.2⟩
  | if_icmp c off =>
    have h := Bool.and_eq_true_iff.mp h
    exact ⟨ab_dk_ok h.1, of_decide_eq_true h.2⟩
  | ifnull off =>
    have h := Bool.and_eq_true_iff.mp h
    exact ⟨ab_dk_ok h.1, of_decide_eq_true h.2⟩
  | ifnonnull off =>
    have h := Bool.and_eq_true_iff.mp h
    exact ⟨ab_dk_ok h.1, of_decide_eq_true h.2⟩
  | invokevirtual idx => trivial
  | invokespecial idx => trivial
  | invokestatic idx => trivial
  | _ => exact ab_dk_ok h
def ab_tab (N : Nat) (t : Nat → Option Ent) (pc : Nat) : Option Ent := bif Nat.blt pc N then t pc else none
theorem ab_tab_all {N : Nat} {t : Nat → Option Ent} {chk : Nat → Ent → Bool} (h : (List.range N).all (fun pc => match t pc with | some q => chk pc q | none => true) = true) {pc : Nat} {q : Ent} (hq : ab_tab N t pc = some q) : chk pc q = true := by
  unfold ab_tab at hq
  cases hb : Nat.blt pc N with
  | false => rw [hb] at hq; cases hq
  | true =>
    rw [hb] at hq
    have hq : t pc = some q := hq
    have h1 := List.all_eq_true.mp h pc (List.mem_range.mpr (by
      have : Nat.ble (pc + 1) N = true := hb
      exact Nat.le_of_ble_eq_true this))
    rw [hq] at h1
    exact h1
/-- a row of a table that is decided: what it says of the words, by their places -/
def ab_wi (i : Nat) (w : Cond) : Bool := decide (lw_tbl[i]? = some w) && goodWord w
theorem ab_wi_in {i : Nat} {w : Cond} (h : ab_wi i w = true) : w ∈ ab_gW := by
  have h := Bool.and_eq_true_iff.mp h
  exact ab_gW_in i (of_decide_eq_true h.1) h.2
theorem ab_uws {C : String} {T : u_T} {N : Nat} (ix : List Nat) (h : (List.range N).all (fun k => ab_wi (ix.getD k 0) (u_lay C T k)) = true) : ∀ w ∈ u_ws C T N, w ∈ ab_gW := by
  intro w hw
  obtain ⟨k, hk, rfl⟩ := List.mem_map.mp hw
  exact ab_wi_in (List.all_eq_true.mp h k hk)
end
end
section
/-! Rules of call sites by their callees' contracts. -/
section
variable {l : Launch} {KT : List KS} {cl : List vw_C} {sc : Option (Nat × (Nat → Int32))} {own : String} {cc : ByteArray} {nL fr lo : Nat} {eV : Nat → List AV → Mm → Option Mm} {eI : Nat → List AV → Mm → Option (Int32 × Mm)} {pc idx a b' d n : Nat} {x : Int32} {y : MethodName} {bytes : ByteArray} {maxL fr' lo' : Nat} {ret : Option FieldType}
/-- no script among the arguments -/
def ab_nos (av : List AV) : Prop := ∀ v ∈ av, ∀ q, v ≠ .inr (.inr (0, some q))
theorem ab_nos_vv {ks : List Nat} {av : List AV} (h : ab_nos av) (v : AV) (hv : ab_vv sc ks v) (hm : v ∈ av) : ab_vv none ks v := by
  match v, hv, hm with
  | .inl x, _, _ => trivial
  | .inr (.inl x), _, _ => trivial
  | .inr (.inr (k, none)), _, _ => trivial
  | .inr (.inr (k, some q)), hv, hm =>
    have hk : k ≠ 0 := fun z => h _ hm q (by rw [z])
    exact ab_vvo fun q' hq' => by cases hq'; exact ⟨hk, ab_ref hv hk⟩
/-- what is known of a callee: its words -/
def ab_cw (y : MethodName) (bytes : ByteArray) (maxL n : Nat) (ret : Option FieldType) : Prop := Cond.code y bytes maxL ret ∈ ab_gW ∧ Cond.initialized y.cls ∈ ab_gW ∧ (y.cls ≠ "java/lang/invoke/MethodHandle" ∧ y.cls ≠ "java/lang/invoke/VarHandle" ∧ (parseMethodDescriptor y.desc).map (fun d => d.parameters.length) = some n)

theorem ab_crV {C : String} (hdg : decode cc pc = .ok (.invokevirtual idx, 3)) (hw : ab_cw y bytes maxL n ret) (hlk : Cond.methodLink own idx y ∈ ab_gW) (hins : Cond.instanceMethod y ∈ ab_gW) (hsel : Cond.selects C y y ∈ ab_gW) (hR : fr' + 1 ≤ fr ∧ 8 + (maxL + 11) + lo' ≤ lo)
    (hMV : ∀ av m m', eV a av m = some m' → ∃ (k q : Nat) (av' : List AV) (ci : Nat) (fs : List (Nat × Nat × Nat × Nat)) (z : vw_C), av = .inr (.inr (k, some q)) :: av' ∧ av'.length = n ∧ k ≠ 0 ∧ KT[k]? = some (.inl (ci, fs)) ∧ cl[ci]? = some z ∧ z.1 = C ∧ ab_nos av' ∧ ab_Met l KT cl y (Cond.code y bytes maxL ret :: ab_gW) fr' lo' none av m none m')
    (hMI : ∀ av m r, eI a av m = some r → ∃ (k q : Nat) (av' : List AV) (ci : Nat) (fs : List (Nat × Nat × Nat × Nat)) (z : vw_C), av = .inr (.inr (k, some q)) :: av' ∧ av'.length = n ∧ k ≠ 0 ∧ KT[k]? = some (.inl (ci, fs)) ∧ cl[ci]? = some z ∧ z.1 = C ∧ ab_nos av' ∧ ab_Met l KT cl y (Cond.code y bytes maxL ret :: ab_gW) fr' lo' none av m (some (.inl r.1)) r.2)
    (hnd : ab_nd KT) : ab_CR l KT cl sc ab_gW own cc nL fr lo eV eI pc (.invokevirtual idx, a, b', d, x) := by
  intro p e R s m0 args below meth cd Q D b A H0 ks0 g0 h0 G Hs ad0 ac0 hX hx hb hml hts hown hK0 hA hG hHs hfr hlo hsc
  subst hfr
  subst hlo
  refine ⟨fun L S m m' hwd he w => ?_, fun L S m r hwd he w => ?_⟩
  · obtain ⟨k, q, av', ci, fs, z, h1, h2, h3, h4, h5, h6, h7, hM⟩ := hMV _ _ _ he
    subst h6
    rw [h1] at hM
    exact ab_cV (r := none) (sc' := none) hX hx hb hml hts hown hK0 hnd hA hG hHs (Or.inl rfl) h1 h3 h4 h5 h2 hwd hM (fun v hv hm => ab_nos_vv h7 v hv hm) rfl (ab_gW_good hw.1) hw.2.1 hlk hins hsel hw.2.2 hR hdg (fun v hv => by cases hv) w
  · obtain ⟨k, q, av', ci, fs, z, h1, h2, h3, h4, h5, h6, h7, hM⟩ := hMI _ _ _ he
    subst h6
    rw [h1] at hM
    exact ab_cV (r := some (.inl r.1)) (sc' := none) hX hx hb hml hts hown hK0 hnd hA hG hHs (Or.inl rfl) h1 h3 h4 h5 h2 hwd hM (fun v hv hm => ab_nos_vv h7 v hv hm) rfl (ab_gW_good hw.1) hw.2.1 hlk hins hsel hw.2.2 hR hdg (fun v hv => by cases hv; exact ⟨_, rfl⟩) w
theorem ab_crI (hdg : decode cc pc = .ok (.invokespecial idx, 3)) (hw : ab_cw y bytes maxL n ret) (hlk : Cond.methodLink own idx y ∈ ab_gW) (hins : Cond.instanceMethod y ∈ ab_gW) (hyn : y.name = "<init>") (hret : ret = none) (hR : fr' + 1 ≤ fr ∧ 8 + (maxL + 11) + lo' ≤ lo)
    (hMV : ∀ av m m', eV a av m = some m' → ∃ (k q : Nat) (av' : List AV), av = .inr (.inr (k, some q)) :: av' ∧ av'.length = n ∧ k ≠ 0 ∧ ab_nos av' ∧ ab_Met l KT cl y (Cond.code y bytes maxL ret :: ab_gW) fr' lo' none av m none m')
    (hMI : ∀ av m, eI a av m = none)
    (hnd : ab_nd KT) : ab_CR l KT cl sc ab_gW own cc nL fr lo eV eI pc (.invokespecial idx, a, b', d, x) := by
  intro p e R s m0 args below meth cd Q D b A H0 ks0 g0 h0 G Hs ad0 ac0 hX hx hb hml hts hown hK0 hA hG hHs hfr hlo hsc
  subst hfr
  subst hlo
  subst hret
  refine ⟨fun L S m m' hwd he w => ?_, fun L S m r hwd he w => ?_⟩
  · obtain ⟨k, q, av', h1, h2, h3, h7, hM⟩ := hMV _ _ _ he
    rw [h1] at hM
    exact ab_cI (sc' := none) hX hx hb hml hts hown hK0 hnd hA hG hHs (Or.inl rfl) h1 h3 h2 hwd hM (fun v hv hm => ab_nos_vv h7 v hv hm) rfl (ab_gW_good hw.1) hw.2.1 hlk hins hyn hw.2.2 hR hdg w
  · have h9 := hMI (S.take b').reverse m
    have he : eI a (S.take b').reverse m = some r := he
    rw [h9] at he
    cases he
theorem ab_crIN (hdg : decode cc pc = .ok (.invokespecial idx, 3)) (hw : ab_cw y bytes maxL n ret) (hlk : (own, idx, y) ∈ ab_gN) (hins : Cond.instanceMethod y ∈ ab_gW) (hyn : y.name = "<init>") (hret : ret = none) (hR : fr' + 1 ≤ fr ∧ 8 + (maxL + 11) + lo' ≤ lo)
    (hMV : ∀ av m m', eV a av m = some m' → ∃ (k q : Nat) (av' : List AV), av = .inr (.inr (k, some q)) :: av' ∧ av'.length = n ∧ k ≠ 0 ∧ ab_nos av' ∧ ab_Met l KT cl y (Cond.code y bytes maxL ret :: ab_gW) fr' lo' none av m none m')
    (hMI : ∀ av m, eI a av m = none)
    (hnd : ab_nd KT) : ab_CR l KT cl sc ab_gW own cc nL fr lo eV eI pc (.invokespecial idx, a, b', d, x) := by
  intro p e R s m0 args below meth cd Q D b A H0 ks0 g0 h0 G Hs ad0 ac0 hX hx hb hml hts hown hK0 hA hG hHs hfr hlo hsc
  subst hfr
  subst hlo
  subst hret
  refine ⟨fun L S m m' hwd he w => ?_, fun L S m r hwd he w => ?_⟩
  · obtain ⟨k, q, av', h1, h2, h3, h7, hM⟩ := hMV _ _ _ he
    rw [h1] at hM
    exact ab_cIN (sc' := none) hX hx hb hml hts hown hK0 hnd hA hG hHs (Or.inl rfl) h1 h3 h2 hwd hM (fun v hv hm => ab_nos_vv h7 v hv hm) rfl (ab_gW_good hw.1) hw.2.1 hlk hins hyn hw.2.2 hR hdg w
  · have h9 := hMI (S.take b').reverse m
    have he : eI a (S.take b').reverse m = some r := he
    rw [h9] at he
    cases he
theorem ab_crS (hdg : decode cc pc = .ok (.invokestatic idx, 3)) (hw : ab_cw y bytes maxL n ret) (hlk : Cond.methodLink own idx y ∈ ab_gW) (hst : Cond.static y ∈ ab_gW) (hR : fr' + 1 ≤ fr ∧ 8 + (maxL + 11) + lo' ≤ lo)
    (hMV : ∀ av m m', eV a av m = some m' → av.length = n ∧ ab_nos av ∧ ab_Met l KT cl y (Cond.code y bytes maxL ret :: ab_gW) fr' lo' none av m none m')
    (hMI : ∀ av m r, eI a av m = some r → av.length = n ∧ ab_nos av ∧ ab_Met l KT cl y (Cond.code y bytes maxL ret :: ab_gW) fr' lo' none av m (some (.inl r.1)) r.2)
    (hnd : ab_nd KT) : ab_CR l KT cl sc ab_gW own cc nL fr lo eV eI pc (.invokestatic idx, a, b', d, x) := by
  intro p e R s m0 args below meth cd Q D b A H0 ks0 g0 h0 G Hs ad0 ac0 hX hx hb hml hts hown hK0 hA hG hHs hfr hlo hsc
  subst hfr
  subst hlo
  refine ⟨fun L S m m' hwd he w => ?_, fun L S m r hwd he w => ?_⟩
  · obtain ⟨h2, h7, hM⟩ := hMV _ _ _ he
    exact ab_cS (r := none) (sc' := none) hX hx hb hml hts hown hK0 hnd hA hG hHs (Or.inl rfl) rfl h2 hwd hM (fun v hv hm => ab_nos_vv h7 v hv hm) rfl (ab_gW_good hw.1) hw.2.1 hlk hst hw.2.2 hR hdg (fun v hv => by cases hv) w
  · obtain ⟨h2, h7, hM⟩ := hMI _ _ _ he
    exact ab_cS (r := some (.inl r.1)) (sc' := none) hX hx hb hml hts hown hK0 hnd hA hG hHs (Or.inl rfl) rfl h2 hwd hM (fun v hv hm => ab_nos_vv h7 v hv hm) rfl (ab_gW_good hw.1) hw.2.1 hlk hst hw.2.2 hR hdg (fun v hv => by cases hv; exact ⟨_, rfl⟩) w
theorem ab_crSN (hdg : decode cc pc = .ok (.invokestatic idx, 3)) (hw : ab_cw y bytes maxL n ret) (hlk : (own, idx, y) ∈ ab_gN) (hst : Cond.static y ∈ ab_gW) (hR : fr' + 1 ≤ fr ∧ 8 + (maxL + 11) + lo' ≤ lo)
    (hMV : ∀ av m m', eV a av m = some m' → av.length = n ∧ ab_nos av ∧ ab_Met l KT cl y (Cond.code y bytes maxL ret :: ab_gW) fr' lo' none av m none m')
    (hMI : ∀ av m r, eI a av m = some r → av.length = n ∧ ab_nos av ∧ ab_Met l KT cl y (Cond.code y bytes maxL ret :: ab_gW) fr' lo' none av m (some (.inl r.1)) r.2)
    (hnd : ab_nd KT) : ab_CR l KT cl sc ab_gW own cc nL fr lo eV eI pc (.invokestatic idx, a, b', d, x) := by
  intro p e R s m0 args below meth cd Q D b A H0 ks0 g0 h0 G Hs ad0 ac0 hX hx hb hml hts hown hK0 hA hG hHs hfr hlo hsc
  subst hfr
  subst hlo
  refine ⟨fun L S m m' hwd he w => ?_, fun L S m r hwd he w => ?_⟩
  · obtain ⟨h2, h7, hM⟩ := hMV _ _ _ he
    exact ab_cSN (r := none) (sc' := none) hX hx hb hml hts hown hK0 hnd hA hG hHs (Or.inl rfl) rfl h2 hwd hM (fun v hv hm => ab_nos_vv h7 v hv hm) rfl (ab_gW_good hw.1) hw.2.1 hlk hst hw.2.2 hR hdg (fun v hv => by cases hv) w
  · obtain ⟨h2, h7, hM⟩ := hMI _ _ _ he
    exact ab_cSN (r := some (.inl r.1)) (sc' := none) hX hx hb hml hts hown hK0 hnd hA hG hHs (Or.inl rfl) rfl h2 hwd hM (fun v hv hm => ab_nos_vv h7 v hv hm) rfl (ab_gW_good hw.1) hw.2.1 hlk hst hw.2.2 hR hdg (fun v hv => by cases hv; exact ⟨_, rfl⟩) w
/-- Object's constructor -/
theorem ab_crO (hdg : decode cc pc = .ok (.invokespecial idx, 3)) (hlk : Cond.methodLink own idx objectInit ∈ ab_gW) (hins : Cond.instanceMethod objectInit ∈ ab_gW) (hcode : Cond.code objectInit ⟨#[0xb1]⟩ 1 none ∈ ab_gW) (hfr : 1 ≤ fr) (hlo : 20 ≤ lo)
    (hMV : ∀ av m m', eV a av m = some m' → m' = m ∧ ∃ k q : Nat, av = [.inr (.inr (k, some q))]) (hMI : ∀ av m, eI a av m = none) : ab_CR l KT cl sc ab_gW own cc nL fr lo eV eI pc (.invokespecial idx, a, b', d, x) := by
  intro p e R s m0 args below meth cd Q D b A H0 ks0 g0 h0 G Hs ad0 ac0 hX hx hb hml hts hown hK0 hA hG hHs hfr2 hlo2 hsc
  refine ⟨fun L S m m' hwd he w => ?_, fun L S m r hwd he w => ?_⟩
  · obtain ⟨rfl, k, q, h1⟩ := hMV _ _ _ he
    have hS : S = .inr (.inr (k, some q)) :: S.drop b' := by
      have h2 : (S.take b').reverse = [.inr (.inr (k, some q))] := h1
      have := ab_args h2
      simpa using this
    refine ⟨w.1, w.2.1, fun ad ac ls H locs cells slots hI hF => ?_⟩
    have hroom := ab_room (m0 := m0) (b := b) (S := S.drop b') (pc := pc) (ad := ad) (ls := ls) (st := S.map (ab_v ad b)) hwd
    have hmr : (F0 m0 pc ls (S.map (ab_v ad b))).monitorRoom = 0 := rfl
    refine W.objInit (g := F0 m0 pc ls (S.map (ab_v ad b))) (a := if k = 0 then b else ad q) (rest := (S.drop b').map (ab_v ad b)) hx hb hown (hts _ hlk) (hts _ hins) (hts _ hcode) rfl (by rw [hml]; exact hF.2.1.1) (by
      show S.map (ab_v ad b) = _
      conv => lhs; rw [hS]
      rfl) hdg (by omega) (by rw [hlo2]; omega) ?_
    refine w.2.2 ad ac ls H locs cells slots hI ⟨hF.1, hF.2.1, hF.2.2.1, fun v hv => hF.2.2.2 v (List.mem_of_mem_drop hv)⟩
  · have h9 := hMI (S.take b').reverse m
    have he : eI a (S.take b').reverse m = some r := he
    rw [h9] at he
    cases he
end
end
section
section
/-! The tables of this system: kinds, classes, fields, links. Written by a program out of the Statement. -/
def KT : List KS := [
  .inr (0, 0, 9, 0, 0, 0),
  .inl (9, [(3, 1, 2, 1), (3, 2, 3, 2), (3, 3, 4, 3), (3, 4, 6, 5), (0, 5, 0, 0), (0, 6, 0, 0), (0, 7, 0, 0)]),
  .inr (8, 2, 4, 7, 5, 30),
  .inr (9, 16, 3, 4, 0, 0),
  .inl (7, [(3, 10, 5, 1), (0, 11, 0, 0), (0, 12, 0, 0)]),
  .inr (13, 40, 0, 0, 0, 0),
  .inr (14, 37, 0, 0, 0, 0),
  .inl (0, [(0, 15, 0, 0), (3, 16, 13, 6), (3, 17, 17, 16), (3, 18, 8, 1), (3, 19, 10, 3), (3, 20, 12, 5), (0, 21, 0, 0), (0, 22, 0, 0), (0, 23, 0, 0), (0, 24, 0, 0), (0, 25, 0, 0), (1, 26, 0, 0), (1, 27, 0, 0), (1, 28, 0, 0)]),
  .inl (3, [(3, 29, 9, 1), (0, 30, 0, 0)]),
  .inr (31, 320, 0, 0, 0, 0),
  .inl (6, [(3, 32, 11, 1), (0, 33, 0, 0), (2, 34, 4, 0), (0, 35, 0, 0), (0, 36, 0, 0), (0, 37, 0, 0)]),
  .inr (38, 7, 0, 0, 0, 0),
  .inr (39, 512, 3, 22, 0, 0),
  .inl (2, [(3, 40, 14, 1), (0, 41, 0, 0), (0, 42, 0, 0), (0, 43, 0, 0), (1, 44, 0, 0)]),
  .inr (45, 4, 4, 15, 1, 2),
  .inl (1, [(3, 46, 16, 1), (0, 47, 0, 0), (0, 48, 0, 0), (0, 49, 0, 0), (0, 50, 0, 0), (1, 51, 0, 0), (1, 52, 0, 0)]),
  .inr (53, 64, 0, 0, 0, 0),
  .inl (4, [(3, 54, 18, 1), (0, 55, 0, 0)]),
  .inr (56, 4, 4, 19, 1, 3),
  .inl (5, [(3, 57, 20, 1), (3, 58, 21, 2), (0, 59, 0, 0), (0, 60, 0, 0), (0, 61, 0, 0), (1, 62, 0, 0), (1, 63, 0, 0), (0, 64, 0, 0), (0, 65, 0, 0)]),
  .inr (66, 64, 0, 0, 0, 0),
  .inr (67, 64, 0, 0, 0, 0),
  .inl (8, [(0, 68, 0, 0), (1, 69, 0, 0), (0, 70, 0, 0), (3, 71, 23, 1), (3, 72, 24, 2), (3, 73, 25, 3), (3, 74, 26, 4), (3, 75, 27, 5)]),
  .inr (76, 4, 0, 0, 0, 0),
  .inr (77, 4, 0, 0, 0, 0),
  .inr (78, 4, 0, 0, 0, 0),
  .inr (79, 4, 1, 0, 0, 0),
  .inr (80, 4, 1, 0, 0, 0),
  .inl (10, [(0, 81, 0, 0), (0, 82, 0, 0), (0, 83, 0, 0), (0, 84, 0, 0), (3, 85, 29, 1), (3, 86, 30, 2), (3, 87, 31, 3), (3, 88, 32, 4), (3, 89, 33, 5), (3, 90, 34, 6), (3, 91, 35, 7), (3, 92, 36, 8), (3, 93, 37, 9), (3, 94, 38, 10), (3, 95, 39, 11), (3, 96, 40, 12), (3, 97, 41, 13), (3, 98, 42, 14), (3, 99, 43, 15), (3, 100, 44, 16), (3, 101, 45, 17), (3, 102, 46, 18), (3, 103, 47, 19), (3, 104, 48, 20), (3, 105, 49, 21), (3, 106, 50, 22), (3, 107, 51, 23), (3, 108, 52, 24), (3, 109, 53, 25), (3, 110, 54, 26), (3, 111, 55, 27), (3, 112, 56, 28), (3, 113, 57, 29), (3, 114, 58, 30), (3, 115, 59, 31), (3, 116, 60, 32), (3, 117, 61, 33), (0, 118, 0, 0), (3, 119, 62, 34), (3, 120, 63, 35), (3, 121, 64, 36), (3, 122, 65, 37), (0, 123, 0, 0), (0, 124, 0, 0), (0, 125, 0, 0), (0, 126, 0, 0), (1, 127, 0, 0), (3, 128, 66, 38), (3, 129, 67, 39), (0, 130, 0, 0), (0, 131, 0, 0), (1, 132, 0, 0)]),
  .inr (133, 512, 0, 0, 0, 0),
  .inr (134, 512, 0, 0, 0, 0),
  .inr (135, 8, 0, 0, 0, 0),
  .inr (136, 8, 0, 0, 0, 0),
  .inr (137, 8, 0, 0, 0, 0),
  .inr (138, 8, 0, 0, 0, 0),
  .inr (139, 8, 0, 0, 0, 0),
  .inr (140, 8, 1, 0, 0, 0),
  .inr (141, 8, 1, 0, 0, 0),
  .inr (142, 512, 0, 0, 0, 0),
  .inr (143, 8, 0, 0, 0, 0),
  .inr (144, 8, 0, 0, 0, 0),
  .inr (145, 8, 0, 0, 0, 0),
  .inr (146, 8, 0, 0, 0, 0),
  .inr (147, 8, 1, 0, 0, 0),
  .inr (148, 8, 1, 0, 0, 0),
  .inr (149, 2, 0, 0, 0, 0),
  .inr (150, 2, 0, 0, 0, 0),
  .inr (151, 2, 0, 0, 0, 0),
  .inr (152, 2, 0, 0, 0, 0),
  .inr (153, 2, 0, 0, 0, 0),
  .inr (154, 2, 0, 0, 0, 0),
  .inr (155, 2, 0, 0, 0, 0),
  .inr (156, 2, 0, 0, 0, 0),
  .inr (157, 2, 1, 0, 0, 0),
  .inr (158, 2, 1, 0, 0, 0),
  .inr (159, 2, 1, 0, 0, 0),
  .inr (160, 2, 1, 0, 0, 0),
  .inr (161, 640, 0, 0, 0, 0),
  .inr (162, 1120, 0, 0, 0, 0),
  .inr (163, 1120, 0, 0, 0, 0),
  .inr (164, 1120, 0, 0, 0, 0),
  .inr (165, 4480, 0, 0, 0, 0),
  .inr (166, 672, 0, 0, 0, 0),
  .inr (167, 48, 0, 0, 0, 0),
  .inr (168, 48, 0, 0, 0, 0),
  .inr (169, 37, 0, 0, 0, 0),
  .inr (170, 3, 0, 0, 0, 0),
  .inr (171, 3, 0, 0, 0, 0),
  .inr (172, 1, 2, 0, 0, 0),
  .inl (9, [(2, 1, 70, 0), (2, 2, 71, 0), (2, 3, 72, 0), (2, 4, 6, 0), (0, 5, 0, 0), (0, 6, 0, 0), (0, 7, 0, 0)]),
  .inr (8, 2, 3, 73, 0, 0),
  .inr (9, 16, 3, 72, 0, 0),
  .inl (7, [(2, 10, 5, 0), (0, 11, 0, 0), (0, 12, 0, 0)]),
  .inl (0, [(0, 15, 0, 0), (2, 16, 76, 0), (2, 17, 79, 0), (2, 18, 74, 0), (2, 19, 75, 0), (2, 20, 12, 0), (0, 21, 0, 0), (0, 22, 0, 0), (0, 23, 0, 0), (0, 24, 0, 0), (0, 25, 0, 0), (1, 26, 0, 0), (1, 27, 0, 0), (1, 28, 0, 0)]),
  .inl (3, [(2, 29, 9, 0), (0, 30, 0, 0)]),
  .inl (6, [(2, 32, 11, 0), (0, 33, 0, 0), (2, 34, 4, 0), (0, 35, 0, 0), (0, 36, 0, 0), (0, 37, 0, 0)]),
  .inl (2, [(2, 40, 77, 0), (0, 41, 0, 0), (0, 42, 0, 0), (0, 43, 0, 0), (1, 44, 0, 0)]),
  .inr (45, 4, 3, 78, 0, 0),
  .inl (1, [(2, 46, 16, 0), (0, 47, 0, 0), (0, 48, 0, 0), (0, 49, 0, 0), (0, 50, 0, 0), (1, 51, 0, 0), (1, 52, 0, 0)]),
  .inl (4, [(2, 54, 80, 0), (0, 55, 0, 0)]),
  .inr (56, 4, 3, 81, 0, 0),
  .inl (5, [(2, 57, 20, 0), (2, 58, 21, 0), (0, 59, 0, 0), (0, 60, 0, 0), (0, 61, 0, 0), (1, 62, 0, 0), (1, 63, 0, 0), (0, 64, 0, 0), (0, 65, 0, 0)]),
  .inl (8, [(0, 68, 0, 0), (1, 69, 0, 0), (0, 70, 0, 0), (2, 71, 23, 0), (2, 72, 24, 0), (2, 73, 25, 0), (2, 74, 26, 0), (2, 75, 27, 0)]),
  .inl (10, [(0, 81, 0, 0), (0, 82, 0, 0), (0, 83, 0, 0), (0, 84, 0, 0), (2, 85, 29, 0), (2, 86, 30, 0), (2, 87, 31, 0), (2, 88, 32, 0), (2, 89, 33, 0), (2, 90, 34, 0), (2, 91, 35, 0), (2, 92, 36, 0), (2, 93, 37, 0), (2, 94, 38, 0), (2, 95, 39, 0), (2, 96, 40, 0), (2, 97, 41, 0), (2, 98, 42, 0), (2, 99, 43, 0), (2, 100, 44, 0), (2, 101, 45, 0), (2, 102, 46, 0), (2, 103, 47, 0), (2, 104, 48, 0), (2, 105, 49, 0), (2, 106, 50, 0), (2, 107, 51, 0), (2, 108, 52, 0), (2, 109, 53, 0), (2, 110, 54, 0), (2, 111, 55, 0), (2, 112, 56, 0), (2, 113, 57, 0), (2, 114, 58, 0), (2, 115, 59, 0), (2, 116, 60, 0), (2, 117, 61, 0), (0, 118, 0, 0), (2, 119, 62, 0), (2, 120, 63, 0), (2, 121, 64, 0), (2, 122, 65, 0), (0, 123, 0, 0), (0, 124, 0, 0), (0, 125, 0, 0), (0, 126, 0, 0), (1, 127, 0, 0), (2, 128, 66, 0), (2, 129, 67, 0), (0, 130, 0, 0), (0, 131, 0, 0), (1, 132, 0, 0)])]
theorem KT_0 : KT[0]? = some (.inr (0, 0, 9, 0, 0, 0)) := rfl
def T_End : u_T := fun k => match k with
  | 0 => ("StreamTransport$End", "side", "I", true)
  | 1 => ("StreamTransport$End", "intake", "LStreamTransport$Intake;", true)
  | 2 => ("StreamTransport$End", "outflow", "LStreamTransport$Outflow;", true)
  | 3 => ("StreamTransport$End", "processed", "LStreamTransport$Numbers;", true)
  | 4 => ("StreamTransport$End", "reader", "LStreamTransport$Reader;", true)
  | 5 => ("StreamTransport$End", "sent", "[LStreamTransport$Sent;", true)
  | 6 => ("StreamTransport$End", "next", "I", false)
  | 7 => ("StreamTransport$End", "code", "I", false)
  | 8 => ("StreamTransport$End", "backoff", "I", false)
  | 9 => ("StreamTransport$End", "greatestAcked", "I", false)
  | 10 => ("StreamTransport$End", "timerStart", "I", false)
  | 11 => ("StreamTransport$End", "isAckDue", "Z", false)
  | 12 => ("StreamTransport$End", "isProbeDue", "Z", false)
  | _ => ("StreamTransport$End", "isCloseDue", "Z", false)
def ty_End : Nat → FieldType := fun k => match k with
  | 0 => .int
  | 1 => .object "StreamTransport$Intake"
  | 2 => .object "StreamTransport$Outflow"
  | 3 => .object "StreamTransport$Numbers"
  | 4 => .object "StreamTransport$Reader"
  | 5 => .array (.object "StreamTransport$Sent")
  | 6 => .int
  | 7 => .int
  | 8 => .int
  | 9 => .int
  | 10 => .int
  | 11 => .boolean
  | 12 => .boolean
  | _ => .boolean
theorem nm_End : ∀ a, a < 14 → ∀ b, b < 14 → a ≠ b → (T_End a).2.1 ≠ (T_End b).2.1 := by decide +kernel
theorem tyok_End : ∀ k, k < 14 → parseFieldDescriptor (T_End k).2.2.1 = some (ty_End k) := by decide +kernel
theorem uw_End : ∀ w ∈ u_ws "StreamTransport$End" T_End 14, w ∈ ab_gW := ab_uws [312, 314, 316, 318, 320, 322, 324, 326, 328, 330, 332, 334, 336, 338] (by decide +kernel)
def T_Inc : u_T := fun k => match k with
  | 0 => ("StreamTransport$Incoming", "bytes", "[I", true)
  | 1 => ("StreamTransport$Incoming", "taken", "I", false)
  | 2 => ("StreamTransport$Incoming", "reach", "I", false)
  | 3 => ("StreamTransport$Incoming", "size", "I", false)
  | 4 => ("StreamTransport$Incoming", "given", "I", false)
  | 5 => ("StreamTransport$Incoming", "isReset", "Z", false)
  | _ => ("StreamTransport$Incoming", "isLimitDue", "Z", false)
def ty_Inc : Nat → FieldType := fun k => match k with
  | 0 => .array .int
  | 1 => .int
  | 2 => .int
  | 3 => .int
  | 4 => .int
  | 5 => .boolean
  | _ => .boolean
theorem nm_Inc : ∀ a, a < 7 → ∀ b, b < 7 → a ≠ b → (T_Inc a).2.1 ≠ (T_Inc b).2.1 := by decide +kernel
theorem tyok_Inc : ∀ k, k < 7 → parseFieldDescriptor (T_Inc k).2.2.1 = some (ty_Inc k) := by decide +kernel
theorem uw_Inc : ∀ w ∈ u_ws "StreamTransport$Incoming" T_Inc 7, w ∈ ab_gW := ab_uws [198, 200, 202, 204, 206, 208, 210] (by decide +kernel)
def T_Int : u_T := fun k => match k with
  | 0 => ("StreamTransport$Intake", "streams", "[LStreamTransport$Incoming;", true)
  | 1 => ("StreamTransport$Intake", "streamWindow", "I", true)
  | 2 => ("StreamTransport$Intake", "window", "I", true)
  | 3 => ("StreamTransport$Intake", "givenAll", "I", false)
  | _ => ("StreamTransport$Intake", "isAllDue", "Z", false)
def ty_Int : Nat → FieldType := fun k => match k with
  | 0 => .array (.object "StreamTransport$Incoming")
  | 1 => .int
  | 2 => .int
  | 3 => .int
  | _ => .boolean
theorem nm_Int : ∀ a, a < 5 → ∀ b, b < 5 → a ≠ b → (T_Int a).2.1 ≠ (T_Int b).2.1 := by decide +kernel
theorem tyok_Int : ∀ k, k < 5 → parseFieldDescriptor (T_Int k).2.2.1 = some (ty_Int k) := by decide +kernel
theorem uw_Int : ∀ w ∈ u_ws "StreamTransport$Intake" T_Int 5, w ∈ ab_gW := ab_uws [220, 222, 224, 226, 228] (by decide +kernel)
def T_Num : u_T := fun k => match k with
  | 0 => ("StreamTransport$Numbers", "bits", "[I", true)
  | _ => ("StreamTransport$Numbers", "greatest", "I", false)
def ty_Num : Nat → FieldType := fun k => match k with
  | 0 => .array .int
  | _ => .int
theorem nm_Num : ∀ a, a < 2 → ∀ b, b < 2 → a ≠ b → (T_Num a).2.1 ≠ (T_Num b).2.1 := by decide +kernel
theorem tyok_Num : ∀ k, k < 2 → parseFieldDescriptor (T_Num k).2.2.1 = some (ty_Num k) := by decide +kernel
theorem uw_Num : ∀ w ∈ u_ws "StreamTransport$Numbers" T_Num 2, w ∈ ab_gW := ab_uws [131, 133] (by decide +kernel)
def T_Otf : u_T := fun k => match k with
  | 0 => ("StreamTransport$Outflow", "streams", "[LStreamTransport$Outgoing;", true)
  | _ => ("StreamTransport$Outflow", "limitAll", "I", false)
def ty_Otf : Nat → FieldType := fun k => match k with
  | 0 => .array (.object "StreamTransport$Outgoing")
  | _ => .int
theorem nm_Otf : ∀ a, a < 2 → ∀ b, b < 2 → a ≠ b → (T_Otf a).2.1 ≠ (T_Otf b).2.1 := by decide +kernel
theorem tyok_Otf : ∀ k, k < 2 → parseFieldDescriptor (T_Otf k).2.2.1 = some (ty_Otf k) := by decide +kernel
theorem uw_Otf : ∀ w ∈ u_ws "StreamTransport$Outflow" T_Otf 2, w ∈ ab_gW := ab_uws [287, 289] (by decide +kernel)
def T_Out : u_T := fun k => match k with
  | 0 => ("StreamTransport$Outgoing", "bytes", "[I", true)
  | 1 => ("StreamTransport$Outgoing", "fates", "[I", true)
  | 2 => ("StreamTransport$Outgoing", "written", "I", false)
  | 3 => ("StreamTransport$Outgoing", "sent", "I", false)
  | 4 => ("StreamTransport$Outgoing", "limit", "I", false)
  | 5 => ("StreamTransport$Outgoing", "finished", "Z", false)
  | 6 => ("StreamTransport$Outgoing", "isReset", "Z", false)
  | 7 => ("StreamTransport$Outgoing", "endFate", "I", false)
  | _ => ("StreamTransport$Outgoing", "resetFate", "I", false)
def ty_Out : Nat → FieldType := fun k => match k with
  | 0 => .array .int
  | 1 => .array .int
  | 2 => .int
  | 3 => .int
  | 4 => .int
  | 5 => .boolean
  | 6 => .boolean
  | 7 => .int
  | _ => .int
theorem nm_Out : ∀ a, a < 9 → ∀ b, b < 9 → a ≠ b → (T_Out a).2.1 ≠ (T_Out b).2.1 := by decide +kernel
theorem tyok_Out : ∀ k, k < 9 → parseFieldDescriptor (T_Out k).2.2.1 = some (ty_Out k) := by decide +kernel
theorem uw_Out : ∀ w ∈ u_ws "StreamTransport$Outgoing" T_Out 9, w ∈ ab_gW := ab_uws [264, 266, 268, 270, 272, 274, 276, 278, 280] (by decide +kernel)
def T_Rdr : u_T := fun k => match k with
  | 0 => ("StreamTransport$Reader", "numbers", "[I", true)
  | 1 => ("StreamTransport$Reader", "kind", "I", false)
  | 2 => ("StreamTransport$Reader", "row", "LStreamTransport$Row;", false)
  | 3 => ("StreamTransport$Reader", "data", "I", false)
  | 4 => ("StreamTransport$Reader", "at", "I", false)
  | _ => ("StreamTransport$Reader", "stop", "I", false)
def ty_Rdr : Nat → FieldType := fun k => match k with
  | 0 => .array .int
  | 1 => .int
  | 2 => .object "StreamTransport$Row"
  | 3 => .int
  | 4 => .int
  | _ => .int
theorem nm_Rdr : ∀ a, a < 6 → ∀ b, b < 6 → a ≠ b → (T_Rdr a).2.1 ≠ (T_Rdr b).2.1 := by decide +kernel
theorem tyok_Rdr : ∀ k, k < 6 → parseFieldDescriptor (T_Rdr k).2.2.1 = some (ty_Rdr k) := by decide +kernel
theorem uw_Rdr : ∀ w ∈ u_ws "StreamTransport$Reader" T_Rdr 6, w ∈ ab_gW := ab_uws [151, 153, 155, 157, 159, 161] (by decide +kernel)
def T_Row : u_T := fun k => match k with
  | 0 => ("StreamTransport$Row", "bytes", "[I", true)
  | 1 => ("StreamTransport$Row", "size", "I", false)
  | _ => ("StreamTransport$Row", "sender", "I", false)
def ty_Row : Nat → FieldType := fun k => match k with
  | 0 => .array .int
  | 1 => .int
  | _ => .int
theorem nm_Row : ∀ a, a < 3 → ∀ b, b < 3 → a ≠ b → (T_Row a).2.1 ≠ (T_Row b).2.1 := by decide +kernel
theorem tyok_Row : ∀ k, k < 3 → parseFieldDescriptor (T_Row k).2.2.1 = some (ty_Row k) := by decide +kernel
theorem uw_Row : ∀ w ∈ u_ws "StreamTransport$Row" T_Row 3, w ∈ ab_gW := ab_uws [108, 110, 112] (by decide +kernel)
def T_Snt : u_T := fun k => match k with
  | 0 => ("StreamTransport$Sent", "fate", "I", false)
  | 1 => ("StreamTransport$Sent", "hasMoreThanAck", "Z", false)
  | 2 => ("StreamTransport$Sent", "limitAll", "I", false)
  | 3 => ("StreamTransport$Sent", "limit", "[I", true)
  | 4 => ("StreamTransport$Sent", "from", "[I", true)
  | 5 => ("StreamTransport$Sent", "count", "[I", true)
  | 6 => ("StreamTransport$Sent", "end", "[Z", true)
  | _ => ("StreamTransport$Sent", "reset", "[Z", true)
def ty_Snt : Nat → FieldType := fun k => match k with
  | 0 => .int
  | 1 => .boolean
  | 2 => .int
  | 3 => .array .int
  | 4 => .array .int
  | 5 => .array .int
  | 6 => .array .boolean
  | _ => .array .boolean
theorem nm_Snt : ∀ a, a < 8 → ∀ b, b < 8 → a ≠ b → (T_Snt a).2.1 ≠ (T_Snt b).2.1 := by decide +kernel
theorem tyok_Snt : ∀ k, k < 8 → parseFieldDescriptor (T_Snt k).2.2.1 = some (ty_Snt k) := by decide +kernel
theorem uw_Snt : ∀ w ∈ u_ws "StreamTransport$Sent" T_Snt 8, w ∈ ab_gW := ab_uws [427, 429, 431, 433, 435, 437, 439, 441] (by decide +kernel)
def T_X : u_T := fun k => match k with
  | 0 => ("StreamTransport", "ends", "[LStreamTransport$End;", true)
  | 1 => ("StreamTransport", "way", "[LStreamTransport$Row;", true)
  | 2 => ("StreamTransport", "spare", "LStreamTransport$Row;", true)
  | 3 => ("StreamTransport", "rawBytes", "[I", true)
  | 4 => ("StreamTransport", "wayCount", "I", false)
  | 5 => ("StreamTransport", "rawCount", "I", false)
  | _ => ("StreamTransport", "time", "I", false)
def ty_X : Nat → FieldType := fun k => match k with
  | 0 => .array (.object "StreamTransport$End")
  | 1 => .array (.object "StreamTransport$Row")
  | 2 => .object "StreamTransport$Row"
  | 3 => .array .int
  | 4 => .int
  | 5 => .int
  | _ => .int
theorem nm_X : ∀ a, a < 7 → ∀ b, b < 7 → a ≠ b → (T_X a).2.1 ≠ (T_X b).2.1 := by decide +kernel
theorem tyok_X : ∀ k, k < 7 → parseFieldDescriptor (T_X k).2.2.1 = some (ty_X k) := by decide +kernel
theorem uw_X : ∀ w ∈ u_ws "StreamTransport" T_X 7, w ∈ ab_gW := ab_uws [348, 350, 352, 354, 356, 358, 360] (by decide +kernel)
def T_M : u_T := fun k => match k with
  | 0 => ("StreamTransportModel", "streamWindow", "I", true)
  | 1 => ("StreamTransportModel", "window", "I", true)
  | 2 => ("StreamTransportModel", "time", "I", false)
  | 3 => ("StreamTransportModel", "fault", "I", false)
  | 4 => ("StreamTransportModel", "content", "[I", true)
  | 5 => ("StreamTransportModel", "fate", "[I", true)
  | 6 => ("StreamTransportModel", "written", "[I", true)
  | 7 => ("StreamTransportModel", "sentTo", "[I", true)
  | 8 => ("StreamTransportModel", "endFate", "[I", true)
  | 9 => ("StreamTransportModel", "resetFate", "[I", true)
  | 10 => ("StreamTransportModel", "limit", "[I", true)
  | 11 => ("StreamTransportModel", "finished", "[Z", true)
  | 12 => ("StreamTransportModel", "stopped", "[Z", true)
  | 13 => ("StreamTransportModel", "came", "[I", true)
  | 14 => ("StreamTransportModel", "high", "[I", true)
  | 15 => ("StreamTransportModel", "size", "[I", true)
  | 16 => ("StreamTransportModel", "taken", "[I", true)
  | 17 => ("StreamTransportModel", "given", "[I", true)
  | 18 => ("StreamTransportModel", "gone", "[Z", true)
  | 19 => ("StreamTransportModel", "due", "[Z", true)
  | 20 => ("StreamTransportModel", "limitAll", "[I", true)
  | 21 => ("StreamTransportModel", "givenAll", "[I", true)
  | 22 => ("StreamTransportModel", "next", "[I", true)
  | 23 => ("StreamTransportModel", "top", "[I", true)
  | 24 => ("StreamTransportModel", "acked", "[I", true)
  | 25 => ("StreamTransportModel", "closed", "[I", true)
  | 26 => ("StreamTransportModel", "over", "[I", true)
  | 27 => ("StreamTransportModel", "backoff", "[I", true)
  | 28 => ("StreamTransportModel", "dueAll", "[Z", true)
  | 29 => ("StreamTransportModel", "ackDue", "[Z", true)
  | 30 => ("StreamTransportModel", "closeDue", "[Z", true)
  | 31 => ("StreamTransportModel", "probe", "[Z", true)
  | 32 => ("StreamTransportModel", "seen", "[I", true)
  | 33 => ("StreamTransportModel", "state", "[I", true)
  | 34 => ("StreamTransportModel", "bears", "[I", true)
  | 35 => ("StreamTransportModel", "allAt", "[I", true)
  | 36 => ("StreamTransportModel", "bore", "[I", true)
  | 37 => ("StreamTransportModel", "flying", "I", false)
  | 38 => ("StreamTransportModel", "row", "[I", true)
  | 39 => ("StreamTransportModel", "cur", "[I", true)
  | 40 => ("StreamTransportModel", "out", "[I", true)
  | 41 => ("StreamTransportModel", "raw", "[I", true)
  | 42 => ("StreamTransportModel", "curSize", "I", false)
  | 43 => ("StreamTransportModel", "pos", "I", false)
  | 44 => ("StreamTransportModel", "used", "I", false)
  | 45 => ("StreamTransportModel", "raws", "I", false)
  | 46 => ("StreamTransportModel", "missing", "Z", false)
  | 47 => ("StreamTransportModel", "high0", "[I", true)
  | 48 => ("StreamTransportModel", "low0", "[I", true)
  | 49 => ("StreamTransportModel", "planFrom", "I", false)
  | 50 => ("StreamTransportModel", "planMany", "I", false)
  | _ => ("StreamTransportModel", "planEnd", "Z", false)
def ty_M : Nat → FieldType := fun k => match k with
  | 0 => .int
  | 1 => .int
  | 2 => .int
  | 3 => .int
  | 4 => .array .int
  | 5 => .array .int
  | 6 => .array .int
  | 7 => .array .int
  | 8 => .array .int
  | 9 => .array .int
  | 10 => .array .int
  | 11 => .array .boolean
  | 12 => .array .boolean
  | 13 => .array .int
  | 14 => .array .int
  | 15 => .array .int
  | 16 => .array .int
  | 17 => .array .int
  | 18 => .array .boolean
  | 19 => .array .boolean
  | 20 => .array .int
  | 21 => .array .int
  | 22 => .array .int
  | 23 => .array .int
  | 24 => .array .int
  | 25 => .array .int
  | 26 => .array .int
  | 27 => .array .int
  | 28 => .array .boolean
  | 29 => .array .boolean
  | 30 => .array .boolean
  | 31 => .array .boolean
  | 32 => .array .int
  | 33 => .array .int
  | 34 => .array .int
  | 35 => .array .int
  | 36 => .array .int
  | 37 => .int
  | 38 => .array .int
  | 39 => .array .int
  | 40 => .array .int
  | 41 => .array .int
  | 42 => .int
  | 43 => .int
  | 44 => .int
  | 45 => .int
  | 46 => .boolean
  | 47 => .array .int
  | 48 => .array .int
  | 49 => .int
  | 50 => .int
  | _ => .boolean
theorem nm_M : ∀ a, a < 52 → ∀ b, b < 52 → a ≠ b → (T_M a).2.1 ≠ (T_M b).2.1 := by decide +kernel
theorem tyok_M : ∀ k, k < 52 → parseFieldDescriptor (T_M k).2.2.1 = some (ty_M k) := by decide +kernel
theorem uw_M : ∀ w ∈ u_ws "StreamTransportModel" T_M 52, w ∈ ab_gW := ab_uws [1038, 1040, 1042, 1044, 1046, 1048, 1050, 1052, 1054, 1056, 1058, 1060, 1062, 1064, 1066, 1068, 1070, 1072, 1074, 1076, 1078, 1080, 1082, 1084, 1086, 1088, 1090, 1092, 1094, 1096, 1098, 1100, 1102, 1104, 1106, 1108, 1110, 1112, 1114, 1116, 1118, 1120, 1122, 1124, 1126, 1128, 1130, 1132, 1134, 1136, 1138, 1140] (by decide +kernel)
def CL : List vw_C := [("StreamTransport$End", T_End, 14), ("StreamTransport$Incoming", T_Inc, 7), ("StreamTransport$Intake", T_Int, 5), ("StreamTransport$Numbers", T_Num, 2), ("StreamTransport$Outflow", T_Otf, 2), ("StreamTransport$Outgoing", T_Out, 9), ("StreamTransport$Reader", T_Rdr, 6), ("StreamTransport$Row", T_Row, 3), ("StreamTransport$Sent", T_Snt, 8), ("StreamTransport", T_X, 7), ("StreamTransportModel", T_M, 52)]
def TY (ci : Nat) : Nat → FieldType := match ci with
  | 0 => ty_End
  | 1 => ty_Inc
  | 2 => ty_Int
  | 3 => ty_Num
  | 4 => ty_Otf
  | 5 => ty_Out
  | 6 => ty_Rdr
  | 7 => ty_Row
  | 8 => ty_Snt
  | 9 => ty_X
  | _ => ty_M
theorem CL_uw : ∀ (ci : Nat) (C : String) (T : u_T) (N : Nat), CL[ci]? = some (C, T, N) → ∀ w ∈ u_ws C T N, w ∈ ab_gW
  | 0, C, T, N, h => by cases h; exact uw_End
  | 1, C, T, N, h => by cases h; exact uw_Inc
  | 2, C, T, N, h => by cases h; exact uw_Int
  | 3, C, T, N, h => by cases h; exact uw_Num
  | 4, C, T, N, h => by cases h; exact uw_Otf
  | 5, C, T, N, h => by cases h; exact uw_Out
  | 6, C, T, N, h => by cases h; exact uw_Rdr
  | 7, C, T, N, h => by cases h; exact uw_Row
  | 8, C, T, N, h => by cases h; exact uw_Snt
  | 9, C, T, N, h => by cases h; exact uw_X
  | 10, C, T, N, h => by cases h; exact uw_M
  | n + 11, C, T, N, h => by cases h
theorem CL_ty : ∀ (ci : Nat) (C : String) (T : u_T) (N : Nat), CL[ci]? = some (C, T, N) → ∀ k, k < N → parseFieldDescriptor (T k).2.2.1 = some (TY ci k)
  | 0, C, T, N, h => by cases h; exact tyok_End
  | 1, C, T, N, h => by cases h; exact tyok_Inc
  | 2, C, T, N, h => by cases h; exact tyok_Int
  | 3, C, T, N, h => by cases h; exact tyok_Num
  | 4, C, T, N, h => by cases h; exact tyok_Otf
  | 5, C, T, N, h => by cases h; exact tyok_Out
  | 6, C, T, N, h => by cases h; exact tyok_Rdr
  | 7, C, T, N, h => by cases h; exact tyok_Row
  | 8, C, T, N, h => by cases h; exact tyok_Snt
  | 9, C, T, N, h => by cases h; exact tyok_X
  | 10, C, T, N, h => by cases h; exact tyok_M
  | n + 11, C, T, N, h => by cases h
theorem CL_nm : ∀ (ci : Nat) (C : String) (T : u_T) (N : Nat), CL[ci]? = some (C, T, N) → ∀ a, a < N → ∀ b, b < N → a ≠ b → (T a).2.1 ≠ (T b).2.1
  | 0, C, T, N, h => by cases h; exact nm_End
  | 1, C, T, N, h => by cases h; exact nm_Inc
  | 2, C, T, N, h => by cases h; exact nm_Int
  | 3, C, T, N, h => by cases h; exact nm_Num
  | 4, C, T, N, h => by cases h; exact nm_Otf
  | 5, C, T, N, h => by cases h; exact nm_Out
  | 6, C, T, N, h => by cases h; exact nm_Rdr
  | 7, C, T, N, h => by cases h; exact nm_Row
  | 8, C, T, N, h => by cases h; exact nm_Snt
  | 9, C, T, N, h => by cases h; exact nm_X
  | 10, C, T, N, h => by cases h; exact nm_M
  | n + 11, C, T, N, h => by cases h
def ab_ndb (KT : List KS) : Bool := KT.all fun z => match z with
  | .inl (_, fs) => decide ((fs.map fun f => f.2.1).Nodup) && fs.all (fun f => decide (f.1 ≤ 3))
  | .inr (_, len, t, _, _, _) => decide (t ≤ 4 ∨ len = 0)
theorem ab_ndb_ok {KT : List KS} (h : ab_ndb KT = true) : ab_nd KT := by
  have h := List.all_eq_true.mp h
  refine ⟨?_, ?_, ?_⟩
  · intro k ci f f' r t k1 d1 t' k2 d2 fs h1 h2 h3
    have h4 := h _ (List.mem_of_getElem? h1)
    simp only [Bool.and_eq_true, decide_eq_true_eq] at h4
    obtain ⟨l1, e1⟩ := List.getElem?_eq_some_iff.mp h2
    obtain ⟨l2, e2⟩ := List.getElem?_eq_some_iff.mp h3
    have g1 : (fs.map fun f => f.2.1)[f]? = (fs.map fun f => f.2.1)[f']? := by
      rw [List.getElem?_map, List.getElem?_map, h2, h3]; rfl
    exact (List.getElem?_inj (by rw [List.length_map]; exact l1) h4.1).mp g1
  · intro k ci f t r k1 d1 fs h1 h2
    have h4 := h _ (List.mem_of_getElem? h1)
    simp only [Bool.and_eq_true] at h4
    exact of_decide_eq_true (List.all_eq_true.mp h4.2 _ (List.mem_of_getElem? h2))
  · intro k r len t k1 a st h1
    exact of_decide_eq_true (h _ (List.mem_of_getElem? h1))
theorem KT_nd : ab_nd KT := ab_ndb_ok (by decide +kernel)
def ab_k3b (KT : List KS) (cl : List vw_C) : Bool := KT.all fun z => match z with
  | .inr (_, _, 3, k2, _, _) => decide (k2 ≠ 0) && (match KT[k2]? with | some (.inl (ci, _)) => decide (ci < cl.length) | _ => false)
  | _ => true
theorem ab_k3b_ok {KT : List KS} {cl : List vw_C} (h : ab_k3b KT cl = true) : ab_k3 KT cl := by
  intro k r len k2 a st h1
  have h2 := List.all_eq_true.mp h _ (List.mem_of_getElem? h1)
  simp only [Bool.and_eq_true, decide_eq_true_eq] at h2
  refine ⟨h2.1, ?_⟩
  have h3 := h2.2
  split at h3
  · rename_i ci fs hk
    exact ⟨ci, fs, cl[ci]'(of_decide_eq_true h3), hk, List.getElem?_eq_getElem _⟩
  · cases h3
theorem KT_k3 : ab_k3 KT CL := ab_k3b_ok (by decide +kernel)
def ab_flb (own : String) (q : (Nat × Nat × Nat) × Nat) : Bool := match CL[q.1.2.1]? with
  | some (_, T, N) => decide (q.1.2.2 < N) && ab_wi q.2 (.fieldLink own q.1.1 (T q.1.2.2).1 (T q.1.2.2).2.1 (T q.1.2.2).2.2.1)
  | none => false
theorem ab_flb_ok {own : String} {l : List ((Nat × Nat × Nat) × Nat)} (h : l.all (ab_flb own) = true) : ∀ q ∈ l.map (fun z => z.1), ab_fld CL ab_gW own q.1 q.2.1 q.2.2 := by
  intro q hq
  obtain ⟨z, hz, rfl⟩ := List.mem_map.mp hq
  have h1 := List.all_eq_true.mp h z hz
  unfold ab_flb at h1
  split at h1
  · rename_i C T N hc
    have h2 := Bool.and_eq_true_iff.mp h1
    exact ⟨C, T, N, hc, of_decide_eq_true h2.1, CL_uw _ _ _ _ hc, ab_wi_in h2.2⟩
  · cases h1
def ab_fpk (ci f : Nat) : Bool := (List.range KT.length).all fun k => match ab_fs KT ci f k with
  | some (0, _, _, _) => decide (TY ci f = .int)
  | some (1, _, _, _) => decide (TY ci f = .boolean)
  | some (2, _, k', _) => (match TY ci f with | .object _ => true | .array _ => true | _ => false) && decide (k' ≠ 0)
  | _ => true
def ab_fpb (own nm : String) (q : (Nat × Nat × Nat) × Nat) : Bool := match CL[q.1.2.1]? with
  | some (_, T, N) => decide (q.1.2.2 < N) && (ab_wi q.2 (.fieldLink own q.1.1 (T q.1.2.2).1 (T q.1.2.2).2.1 (T q.1.2.2).2.2.1) && ((decide ((T q.1.2.2).2.2.2 = false) || (decide ((T q.1.2.2).2.2.2 = true) && (decide (nm = "<init>") && decide ((T q.1.2.2).1 = own)))) && ab_fpk q.1.2.1 q.1.2.2))
  | none => false
theorem ab_fpb_ok {own nm : String} {l : List ((Nat × Nat × Nat) × Nat)} (h : l.all (ab_fpb own nm) = true) : ∀ q ∈ l.map (fun z => z.1), ∃ ty, ab_fldp CL ab_gW own nm q.1 q.2.1 q.2.2 ty ∧ ∀ (k t r k' d' : Nat), ab_fs KT q.2.1 q.2.2 k = some (t, r, k', d') → (t = 0 → ty = .int) ∧ (t = 1 → ty = .boolean) ∧ (t = 2 → ((∃ n, ty = .object n) ∨ ∃ t, ty = .array t) ∧ k' ≠ 0) := by
  intro q hq
  obtain ⟨z, hz, rfl⟩ := List.mem_map.mp hq
  have h1 := List.all_eq_true.mp h z hz
  unfold ab_fpb at h1
  split at h1
  · rename_i C T N hc
    have h2 := Bool.and_eq_true_iff.mp h1
    have h3 := Bool.and_eq_true_iff.mp h2.2
    have h4 := Bool.and_eq_true_iff.mp h3.2
    refine ⟨TY z.1.2.1 z.1.2.2, ⟨C, T, N, TY z.1.2.1, hc, of_decide_eq_true h2.1, CL_uw _ _ _ _ hc, ab_wi_in h3.1, CL_ty _ _ _ _ hc, CL_nm _ _ _ _ hc, rfl, ?_⟩, ?_⟩
    · rcases Bool.or_eq_true_iff.mp h4.1 with g | g
      · exact Or.inl (of_decide_eq_true g)
      · have g1 := Bool.and_eq_true_iff.mp g
        have g2 := Bool.and_eq_true_iff.mp g1.2
        exact Or.inr ⟨of_decide_eq_true g1.1, of_decide_eq_true g2.1, of_decide_eq_true g2.2⟩
    · intro k t r k' d' hf
      have hk : k < KT.length := by
        obtain ⟨fs, g1, -⟩ := ab_fs_inv hf
        exact (List.getElem?_eq_some_iff.mp g1).1
      have h5 := List.all_eq_true.mp h4.2 k (List.mem_range.mpr hk)
      rw [hf] at h5
      refine ⟨fun e => ?_, fun e => ?_, fun e => ?_⟩
      · subst e; exact of_decide_eq_true h5
      · subst e; exact of_decide_eq_true h5
      · subst e
        have h6 := Bool.and_eq_true_iff.mp h5
        refine ⟨?_, of_decide_eq_true h6.2⟩
        have h7 := h6.1
        split at h7
        · rename_i n e; exact Or.inl ⟨n, e⟩
        · rename_i t e; exact Or.inr ⟨t, e⟩
        · cases h7
  · cases h1
def ab_nwb (own : String) (q : (Nat × Nat) × Nat × Nat × Nat) : Bool := match KT[q.1.2]? with
  | some (.inl (ci, fs)) => match CL[ci]? with
    | some (C, _, N) => decide (fs.length = N) && (decide (q.1.2 ≠ 0) && (ab_wi q.2.1 (.classLink own q.1.1 C) && (ab_wi q.2.2.1 (.instantiable C fs.length) && (ab_wi q.2.2.2 (.initialized C) && (List.range N).all (fun j => match fs[j]? with
        | some (t, _, _, _) => (decide (t ≤ 1) && decide (defaultValue (TY ci j) = .int 0)) || (decide (t = 2) && decide (defaultValue (TY ci j) = .null))
        | none => true)))))
    | none => false
  | _ => false
theorem ab_nwb_ok {own : String} {l : List ((Nat × Nat) × Nat × Nat × Nat)} (h : l.all (ab_nwb own) = true) : ∀ q ∈ l.map (fun z => z.1), ab_newok KT CL ab_gW own q.1 q.2 := by
  intro q hq
  obtain ⟨z, hz, rfl⟩ := List.mem_map.mp hq
  have h1 := List.all_eq_true.mp h z hz
  unfold ab_nwb at h1
  split at h1
  · rename_i ci fs hk
    split at h1
    · rename_i C T N hc
      have h2 := Bool.and_eq_true_iff.mp h1
      have hN := of_decide_eq_true h2.1
      have h3 := Bool.and_eq_true_iff.mp h2.2
      have h4 := Bool.and_eq_true_iff.mp h3.2
      have h5 := Bool.and_eq_true_iff.mp h4.2
      have h6 := Bool.and_eq_true_iff.mp h5.2
      subst hN
      refine ⟨C, T, TY ci, ci, fs, hc, hk, of_decide_eq_true h3.1, CL_uw _ _ _ _ hc, CL_ty _ _ _ _ hc, ab_wi_in h4.1, ab_wi_in h5.1, ab_wi_in h6.1, ?_⟩
      intro f t r k' d hf
      have h7 := List.all_eq_true.mp h6.2 f (List.mem_range.mpr (List.getElem?_eq_some_iff.mp hf).1)
      rw [hf] at h7
      rcases Bool.or_eq_true_iff.mp h7 with g | g
      · have g1 := Bool.and_eq_true_iff.mp g
        exact Or.inl ⟨of_decide_eq_true g1.1, of_decide_eq_true g1.2⟩
      · have g1 := Bool.and_eq_true_iff.mp g
        exact Or.inr ⟨of_decide_eq_true g1.1, of_decide_eq_true g1.2⟩
    · cases h1
  · cases h1
def ab_nqb (own : String) (q : (Nat × Nat) × Nat) : Bool := match KT[q.1.2]? with
  | some (.inr (_, len, 3, k', _, _)) => decide (q.1.2 ≠ 0) && (ab_wi q.2 (.classLink own q.1.1 (ab_cn KT CL k')) && (decide (ab_cn KT CL k' ∈ ab_gO) && decide (len < 65536)))
  | _ => false
theorem ab_nqb_ok {own : String} {l : List ((Nat × Nat) × Nat)} (h : l.all (ab_nqb own) = true) : ∀ q ∈ l.map (fun z => z.1), ab_nqok KT CL ab_gW own q.1 q.2 := by
  intro q hq
  obtain ⟨z, hz, rfl⟩ := List.mem_map.mp hq
  have h1 := List.all_eq_true.mp h z hz
  unfold ab_nqb at h1
  split at h1
  · rename_i r len k' a st hk
    have h3 := Bool.and_eq_true_iff.mp h1
    have h4 := Bool.and_eq_true_iff.mp h3.2
    have h5 := Bool.and_eq_true_iff.mp h4.2
    exact ⟨r, len, k', a, st, hk, of_decide_eq_true h3.1, ab_wi_in h4.1, of_decide_eq_true h5.1, of_decide_eq_true h5.2⟩
  · cases h1
def ab_nab (q : Nat × Nat) : Bool := match KT[q.2]? with
  | some (.inr (_, len, t, _, _, _)) => decide (q.2 ≠ 0) && (decide (q.1 = t) && (decide (t ≤ 2) && decide (len < 65536)))
  | _ => false
theorem ab_ai : Cond.arrayClass .int ∈ ab_gW := ab_gW_in 115 (by decide +kernel) rfl
theorem ab_az : Cond.arrayClass .boolean ∈ ab_gW := ab_gW_in 444 (by decide +kernel) rfl
theorem ab_aj : Cond.arrayClass .long ∈ ab_gW := ab_gW_in 1351 (by decide +kernel) rfl
theorem ab_nab_ok {l : List (Nat × Nat)} (h : l.all ab_nab = true) : ∀ q ∈ l, (q.1 = 0 → ab_naok KT CL ab_gW .int q.2) ∧ (q.1 = 1 → ab_naok KT CL ab_gW .boolean q.2) ∧ (q.1 = 2 → ab_naok KT CL ab_gW .long q.2) := by
  intro q hq
  have h1 := List.all_eq_true.mp h q hq
  unfold ab_nab at h1
  split at h1
  · rename_i r len t k' a st hk
    have h3 := Bool.and_eq_true_iff.mp h1
    have h4 := Bool.and_eq_true_iff.mp h3.2
    have h5 := Bool.and_eq_true_iff.mp h4.2
    have e := of_decide_eq_true h4.1
    refine ⟨fun z => ?_, fun z => ?_, fun z => ?_⟩
    · have ht : t = 0 := by omega
      subst ht
      exact ⟨r, len, 0, k', a, st, hk, of_decide_eq_true h3.1, by omega, rfl, ab_ai, of_decide_eq_true h5.2⟩
    · have ht : t = 1 := by omega
      subst ht
      exact ⟨r, len, 1, k', a, st, hk, of_decide_eq_true h3.1, by omega, rfl, ab_az, of_decide_eq_true h5.2⟩
    · have ht : t = 2 := by omega
      subst ht
      exact ⟨r, len, 2, k', a, st, hk, of_decide_eq_true h3.1, by omega, rfl, ab_aj, of_decide_eq_true h5.2⟩
  · cases h1
/-- a value that has a name -/
def ab_let {α β : Type} (x : α) (f : α → β) : β := f x
def ab_rV (o : Option Rs) : Option Mm := match o with
  | some (.inl (none, m)) => some m
  | _ => none
def ab_rI (o : Option Rs) : Option (Int32 × Mm) := match o with
  | some (.inl (some (.inl v), m)) => some (v, m)
  | _ => none
theorem ab_rV_inv {o : Option Rs} {m : Mm} (h : ab_rV o = some m) : o = some (.inl (none, m)) := by
  unfold ab_rV at h
  split at h
  · cases h; rfl
  · cases h
theorem ab_rI_inv {o : Option Rs} {z : Int32 × Mm} (h : ab_rI o = some z) : o = some (.inl (some (.inl z.1), z.2)) := by
  unfold ab_rI at h
  split at h
  · cases h; rfl
  · cases h
/-- nothing is made -/
def ab_kp (m m' : Mm) : Prop := m'.2.2.2 = m.2.2.2
theorem ab_kp_mono {m m' : Mm} (h : ab_kp m m') : ab_gc m ≤ ab_gc m' ∧ ab_gs KT m ≤ ab_gs KT m' := by
  unfold ab_kp at h
  unfold ab_gc ab_gs
  rw [h]
  exact ⟨Nat.le_refl _, Nat.le_refl _⟩
theorem ab_kprel {sc : Option (Nat × (Nat → Int32))} {sw : Nat → List (Int32 × Nat) × Nat} {eV : Nat → List AV → Mm → Option Mm} {eI : Nat → List AV → Mm → Option (Int32 × Mm)} {ρ : Rs} {ins : Nat → Option Ent} {hd : Nat → Nat × List Bool}
    (hN : ∀ pc q, ins pc = some q → ab_isn q.1 = false) (hV : ∀ a av m m', eV a av m = some m' → ab_kp m m') (hIv : ∀ a av m q, eI a av m = some q → ab_kp m q.2) {f pc : Nat} {L : List (Option AV)} {S : List AV} {m : Mm} (h : ab_ex KT sc sw eV eI ins hd f pc L S m = some ρ) : ab_kp m (ab_rm ρ) :=
  ab_rel (Rl := ab_kp) (fun _ => rfl) (fun _ _ _ h1 h2 => h2.trans h1) (fun _ _ _ _ _ => rfl) (fun _ _ _ _ _ => rfl) (fun _ _ _ _ _ => rfl) (fun pc q hq hn => by rw [hN pc q hq] at hn; cases hn) hV hIv _ _ _ _ _ h
def ab_mo (m m' : Mm) : Prop := ab_gc m ≤ ab_gc m' ∧ ab_gs KT m ≤ ab_gs KT m'
theorem ab_kp_mo {m m' : Mm} (h : ab_kp m m') : ab_mo m m' := ab_kp_mono h
theorem ab_morel {sc : Option (Nat × (Nat → Int32))} {sw : Nat → List (Int32 × Nat) × Nat} {eV : Nat → List AV → Mm → Option Mm} {eI : Nat → List AV → Mm → Option (Int32 × Mm)} {ρ : Rs} {ins : Nat → Option Ent} {hd : Nat → Nat × List Bool}
    (hV : ∀ a av m m', eV a av m = some m' → ab_mo m m') (hIv : ∀ a av m q, eI a av m = some q → ab_mo m q.2) {f pc : Nat} {L : List (Option AV)} {S : List AV} {m : Mm} (h : ab_ex KT sc sw eV eI ins hd f pc L S m = some ρ) : ab_mo m (ab_rm ρ) :=
  ab_rel (Rl := ab_mo) (fun _ => ⟨Nat.le_refl _, Nat.le_refl _⟩) (fun _ _ _ h1 h2 => ⟨Nat.le_trans h1.1 h2.1, Nat.le_trans h1.2 h2.2⟩) (fun _ _ _ _ _ => ⟨Nat.le_refl _, Nat.le_refl _⟩) (fun _ _ _ _ _ => ⟨Nat.le_refl _, Nat.le_refl _⟩) (fun _ _ _ _ _ => ⟨Nat.le_refl _, Nat.le_refl _⟩)
    (fun pc q hq hn m => ⟨by rw [ab_gc_ap]; exact Nat.le_succ _, by rw [ab_gs_ap]; exact Nat.le_add_right _ _⟩) hV hIv _ _ _ _ _ h
theorem ab_oI : Cond.instanceMethod objectInit ∈ ab_gW := ab_gW_in 88 (by decide +kernel) rfl
theorem ab_oC : Cond.code objectInit ⟨#[0xb1]⟩ 1 none ∈ ab_gW := ab_gW_in 89 (by decide +kernel) rfl
end
end
section
/-! Callees by their numbers; written fields that aren't final. -/
section
def ab_ev {α : Type} (l : List (Nat × (List AV → Mm → Option α))) (a : Nat) : List AV → Mm → Option α := match l with
  | [] => fun _ _ => none
  | (k, c) :: r => bif Nat.beq a k then c else ab_ev r a
theorem ab_ev_all {α : Type} {P : List AV → Mm → α → Prop} : ∀ (l : List (Nat × (List AV → Mm → Option α))), (∀ q ∈ l, ∀ av m r, q.2 av m = some r → P av m r) → ∀ a av m r, ab_ev l a av m = some r → P av m r
  | [], _, a, av, m, r, h => by cases h
  | (k, c) :: l, hl, a, av, m, r, h => by
    unfold ab_ev at h
    cases hb : Nat.beq a k with
    | true => rw [hb] at h; exact hl _ List.mem_cons_self av m r h
    | false => rw [hb] at h; exact ab_ev_all l (fun q hq => hl q (List.mem_cons_of_mem _ hq)) a av m r h
/-- a name that doesn't unfold -/
noncomputable def ab_seal {α : Type} (x : α) : α := Classical.choose (⟨x, rfl⟩ : ∃ y, y = x)
theorem ab_seal_eq {α : Type} (x : α) : ab_seal x = x := Classical.choose_spec (⟨x, rfl⟩ : ∃ y, y = x)
def c_O : List AV → Mm → Option Mm := fun av m => match av with
  | [.inr (.inr (_, o))] => o.bind fun _ => some m
  | _ => none
theorem c_O_inv {av : List AV} {m m' : Mm} (h : c_O av m = some m') : m' = m ∧ ∃ k q : Nat, av = [.inr (.inr (k, some q))] := by
  unfold c_O at h
  split at h
  · obtain ⟨q, rfl, h⟩ := Option.bind_eq_some_iff.mp h
    cases h
    exact ⟨rfl, _, q, rfl⟩
  · cases h
theorem kp_O {av : List AV} {m m' : Mm} (h : c_O av m = some m') : ab_kp m m' := by
  obtain ⟨rfl, -⟩ := c_O_inv h
  rfl
def ab_fpn (own : String) (q : (Nat × Nat × Nat) × Nat) : Bool := match CL[q.1.2.1]? with
  | some (_, T, N) => decide (q.1.2.2 < N) && (ab_wi q.2 (.fieldLink own q.1.1 (T q.1.2.2).1 (T q.1.2.2).2.1 (T q.1.2.2).2.2.1) && (decide ((T q.1.2.2).2.2.2 = false) && ab_fpk q.1.2.1 q.1.2.2))
  | none => false
theorem ab_fpn_b {own nm : String} {q : (Nat × Nat × Nat) × Nat} (h : ab_fpn own q = true) : ab_fpb own nm q = true := by
  unfold ab_fpn at h
  unfold ab_fpb
  split at h
  · rename_i C T N hc
    have h2 := Bool.and_eq_true_iff.mp h
    have h3 := Bool.and_eq_true_iff.mp h2.2
    have h4 := Bool.and_eq_true_iff.mp h3.2
    rw [hc]
    dsimp only
    rw [h2.1, h3.1, h4.1, h4.2]
    rfl
  · cases h
theorem ab_fpn_ok {own nm : String} {l : List ((Nat × Nat × Nat) × Nat)} (h : l.all (ab_fpn own) = true) : l.all (ab_fpb own nm) = true := List.all_eq_true.mpr fun q hq => ab_fpn_b (List.all_eq_true.mp h q hq)
theorem ab_lcb {own : String} {l : List ((Nat × Int32) × Nat)} (h : l.all (fun q => ab_wi q.2 (.constant own q.1.1 q.1.2)) = true) : ∀ q ∈ l.map (fun z => z.1), Cond.constant own q.1 q.2 ∈ ab_gW := by
  intro q hq
  obtain ⟨z, hz, rfl⟩ := List.mem_map.mp hq
  exact ab_wi_in (List.all_eq_true.mp h z hz)
theorem ab_ljb {own : String} {l : List ((Nat × Nat) × Nat)} (h : l.all (fun q => ab_wi q.2 (.constantLong own q.1.1 (Int64.ofNat q.1.2))) = true) : ∀ q ∈ l.map (fun z => z.1), Cond.constantLong own q.1 (Int64.ofNat q.2) ∈ ab_gW := by
  intro q hq
  obtain ⟨z, hz, rfl⟩ := List.mem_map.mp hq
  exact ab_wi_in (List.all_eq_true.mp h z hz)
theorem ab_tab_isn {N : Nat} {t : Nat → Option Ent} (h : (List.range N).all (fun pc => match t pc with | some q => !ab_isn q.1 | none => true) = true) : ∀ pc q, ab_tab N t pc = some q → ab_isn q.1 = false := by
  intro pc q hq
  have h1 := ab_tab_all (chk := fun _ q => !ab_isn q.1) h hq
  simpa using h1
theorem ab_tab_cs {N : Nat} {t : Nat → Option Ent} {cs : List Nat} (h : (List.range N).all (fun pc => match t pc with | some q => !ab_inv q.1 || decide (pc ∈ cs) | none => true) = true) {pc : Nat} {q : Ent} (hq : ab_tab N t pc = some q) (hi : ab_inv q.1 = true) : pc ∈ cs := by
  have h1 := ab_tab_all (chk := fun pc q => !ab_inv q.1 || decide (pc ∈ cs)) h hq
  rw [hi] at h1
  exact of_decide_eq_true (by simpa using h1)
end
end
section
section
/-! java/lang/Math.max(II)I -/
def y_Math_max : MethodName := ⟨"java/lang/Math", "max", "(II)I"⟩
def t_Math_max (pc : Nat) : Option Ent :=
  bif Nat.blt pc 5 then
    (bif Nat.blt pc 1 then
      (bif Nat.beq pc 0 then some (.iload_n 0, 0, 0, 0, 0) else none)
    else
      bif Nat.blt pc 2 then
        (bif Nat.beq pc 1 then some (.iload_n 1, 1, 0, 0, 0) else none)
      else
        bif Nat.beq pc 2 then some (.if_icmp .lt (7), 9, 0, 0, 0) else none)
  else
    bif Nat.blt pc 9 then
      (bif Nat.blt pc 6 then
        (bif Nat.beq pc 5 then some (.iload_n 0, 0, 0, 0, 0) else none)
      else
        bif Nat.beq pc 6 then some (.goto 4, 10, 0, 0, 0) else none)
    else
      bif Nat.blt pc 10 then
        (bif Nat.beq pc 9 then some (.iload_n 1, 1, 0, 0, 0) else none)
      else
        bif Nat.beq pc 10 then some (.ireturn, 0, 0, 0, 0) else none
def i_Math_max : Nat → Option Ent := ab_tab 11 t_Math_max
def h_Math_max (pc : Nat) : Nat × List Bool := (0, [])
def s_Math_max (pc : Nat) : List (Int32 × Nat) × Nat := ([], 0)
noncomputable def eV_Math_max : Nat → List AV → Mm → Option Mm := ab_ev []
noncomputable def eI_Math_max : Nat → List AV → Mm → Option (Int32 × Mm) := ab_ev []
noncomputable def b_Math_max_0 (f : Nat) (v0 : Int32) (v1 : Int32) (m : Mm) : Option Rs := ab_ex KT none s_Math_max eV_Math_max eI_Math_max i_Math_max h_Math_max f 0 [some (.inl v0), some (.inl v1)] [] m
set_option maxRecDepth 100000 in
set_option maxHeartbeats 4000000 in
theorem b_Math_max_0_eq (f : Nat) (v0 : Int32) (v1 : Int32) (m : Mm) : b_Math_max_0 (f + 1) v0 v1 m =
    if v0 < v1 then
      some (.inl (some (.inl v1), m))
    else
      some (.inl (some (.inl v0), m)) := rfl
noncomputable def r_Math_max : Int32 → Int32 → Mm → Option (Int32 × Mm) := ab_seal fun v0 v1 m => ab_rI (b_Math_max_0 50000 v0 v1 m)
theorem r_Math_max_eq (v0 : Int32) (v1 : Int32) (m : Mm) : r_Math_max v0 v1 m = ab_rI (b_Math_max_0 50000 v0 v1 m) := by
  unfold r_Math_max
  rw [ab_seal_eq]
noncomputable def c_Math_max : List AV → Mm → Option (Int32 × Mm) := fun av m => match av with
  | [.inl v0, .inl v1] => r_Math_max v0 v1 m
  | _ => none
theorem c_Math_max_inv {av : List AV} {m : Mm} {r : Int32 × Mm} (h : c_Math_max av m = some r) : ∃ (v0 : Int32) (v1 : Int32), av = [.inl v0, .inl v1] ∧ r_Math_max v0 v1 m = some r := by
  unfold c_Math_max at h
  split at h
  · rename_i v0 v1
    exact ⟨v0, v1, rfl, h⟩
  · cases h
def cs_Math_max : List Nat := []
set_option maxRecDepth 100000 in
theorem E_Math_max : ∀ (pc : Nat) (q : Ent), i_Math_max pc = some q → ab_E KT CL ab_gW "java/lang/Math" "max" (some .int) prog_16_method_65_code s_Math_max 2 pc q.1 q.2.1 q.2.2.1 q.2.2.2.1 q.2.2.2.2 := fun pc q hq =>
  ab_Eb_ok (fun q h => by cases h) (fun q h => by cases h) (fun q h => by cases h) (fun q h => by cases h) (fun q h => by cases h) (fun q h => by cases h) (fun q h => by cases h) (ab_tab_all (t := t_Math_max) (chk := fun pc q => ab_Eb (some .int) prog_16_method_65_code s_Math_max 2 [] [] [] [] [] [] [] pc q.1 q.2.1 q.2.2.1 q.2.2.2.1 q.2.2.2.2) (by decide +kernel) hq)
set_option maxRecDepth 100000 in
theorem kp_Math_max {av : List AV} {m : Mm} {r : Int32 × Mm} (h : c_Math_max av m = some r) : ab_kp m r.2 := by
  obtain ⟨v0, v1, -, h⟩ := c_Math_max_inv h
  rw [r_Math_max_eq] at h
  have hV : ∀ a av m m', eV_Math_max a av m = some m' → ab_kp m m' := ab_ev_all (P := fun _ m r => ab_kp m r) [] (fun q hq => by cases hq)
  have hI : ∀ a av m q, eI_Math_max a av m = some q → ab_kp m q.2 := ab_ev_all (P := fun _ (m : Mm) (r : Int32 × Mm) => ab_kp m r.2) [] (fun q hq => by cases hq)
  exact ab_kprel (ρ := .inl (some (.inl r.1), r.2)) (ab_tab_isn (t := t_Math_max) (by decide +kernel)) hV hI (ab_rI_inv h)
set_option maxRecDepth 100000 in
theorem cl_Math_max (l : Launch) : ∀ (pc : Nat) (q : Ent), i_Math_max pc = some q → ab_inv q.1 = true → ab_CR l KT CL none ab_gW "java/lang/Math" prog_16_method_65_code 2 0 0 eV_Math_max eI_Math_max pc q := by
  intro pc q hq hi
  have hm : pc ∈ cs_Math_max := ab_tab_cs (t := t_Math_max) (by decide +kernel) hq hi
  cases hm
theorem cw_Math_max : ab_cw y_Math_max prog_16_method_65_code 2 2 (some .int) := ⟨ab_gW_in 560 (by decide +kernel) rfl, ab_gW_in 79 (by decide +kernel) rfl, by decide +kernel, by decide +kernel, by decide +kernel⟩
theorem st_Math_max : Cond.static y_Math_max ∈ ab_gW := ab_gW_in 559 (by decide +kernel) rfl
set_option maxRecDepth 100000 in
theorem cm_Math_max (l : Launch) {av : List AV} {m : Mm} {r : Int32 × Mm} (h0 : c_Math_max av m = some r) : av.length = 2 ∧ ab_nos av ∧ ab_Met l KT CL y_Math_max (Cond.code y_Math_max prog_16_method_65_code 2 (some .int) :: ab_gW) 0 0 none av m (some (.inl r.1)) r.2 := by
  obtain ⟨v0, v1, hav, h⟩ := c_Math_max_inv h0
  rw [r_Math_max_eq] at h
  have hmo : ab_mo m r.2 := ab_kp_mo (kp_Math_max h0)
  subst hav
  exact ⟨rfl, (by intro v hv q e; subst e; simp at hv), ab_met (by decide +kernel) KT_0 KT_nd KT_k3 E_Math_max (cl_Math_max l) hmo (Nat.le_of_ble_eq_true rfl) (ab_rI_inv h) (fun v hv => by cases hv; exact ⟨_, rfl⟩)⟩
/-! java/lang/Math.min(II)I -/
def y_Math_min : MethodName := ⟨"java/lang/Math", "min", "(II)I"⟩
def t_Math_min (pc : Nat) : Option Ent :=
  bif Nat.blt pc 5 then
    (bif Nat.blt pc 1 then
      (bif Nat.beq pc 0 then some (.iload_n 0, 0, 0, 0, 0) else none)
    else
      bif Nat.blt pc 2 then
        (bif Nat.beq pc 1 then some (.iload_n 1, 1, 0, 0, 0) else none)
      else
        bif Nat.beq pc 2 then some (.if_icmp .gt (7), 9, 0, 0, 0) else none)
  else
    bif Nat.blt pc 9 then
      (bif Nat.blt pc 6 then
        (bif Nat.beq pc 5 then some (.iload_n 0, 0, 0, 0, 0) else none)
      else
        bif Nat.beq pc 6 then some (.goto 4, 10, 0, 0, 0) else none)
    else
      bif Nat.blt pc 10 then
        (bif Nat.beq pc 9 then some (.iload_n 1, 1, 0, 0, 0) else none)
      else
        bif Nat.beq pc 10 then some (.ireturn, 0, 0, 0, 0) else none
def i_Math_min : Nat → Option Ent := ab_tab 11 t_Math_min
def h_Math_min (pc : Nat) : Nat × List Bool := (0, [])
def s_Math_min (pc : Nat) : List (Int32 × Nat) × Nat := ([], 0)
noncomputable def eV_Math_min : Nat → List AV → Mm → Option Mm := ab_ev []
noncomputable def eI_Math_min : Nat → List AV → Mm → Option (Int32 × Mm) := ab_ev []
noncomputable def b_Math_min_0 (f : Nat) (v0 : Int32) (v1 : Int32) (m : Mm) : Option Rs := ab_ex KT none s_Math_min eV_Math_min eI_Math_min i_Math_min h_Math_min f 0 [some (.inl v0), some (.inl v1)] [] m
set_option maxRecDepth 100000 in
set_option maxHeartbeats 4000000 in
theorem b_Math_min_0_eq (f : Nat) (v0 : Int32) (v1 : Int32) (m : Mm) : b_Math_min_0 (f + 1) v0 v1 m =
    if v1 < v0 then
      some (.inl (some (.inl v1), m))
    else
      some (.inl (some (.inl v0), m)) := rfl
noncomputable def r_Math_min : Int32 → Int32 → Mm → Option (Int32 × Mm) := ab_seal fun v0 v1 m => ab_rI (b_Math_min_0 50000 v0 v1 m)
theorem r_Math_min_eq (v0 : Int32) (v1 : Int32) (m : Mm) : r_Math_min v0 v1 m = ab_rI (b_Math_min_0 50000 v0 v1 m) := by
  unfold r_Math_min
  rw [ab_seal_eq]
noncomputable def c_Math_min : List AV → Mm → Option (Int32 × Mm) := fun av m => match av with
  | [.inl v0, .inl v1] => r_Math_min v0 v1 m
  | _ => none
theorem c_Math_min_inv {av : List AV} {m : Mm} {r : Int32 × Mm} (h : c_Math_min av m = some r) : ∃ (v0 : Int32) (v1 : Int32), av = [.inl v0, .inl v1] ∧ r_Math_min v0 v1 m = some r := by
  unfold c_Math_min at h
  split at h
  · rename_i v0 v1
    exact ⟨v0, v1, rfl, h⟩
  · cases h
def cs_Math_min : List Nat := []
set_option maxRecDepth 100000 in
theorem E_Math_min : ∀ (pc : Nat) (q : Ent), i_Math_min pc = some q → ab_E KT CL ab_gW "java/lang/Math" "min" (some .int) prog_16_method_69_code s_Math_min 2 pc q.1 q.2.1 q.2.2.1 q.2.2.2.1 q.2.2.2.2 := fun pc q hq =>
  ab_Eb_ok (fun q h => by cases h) (fun q h => by cases h) (fun q h => by cases h) (fun q h => by cases h) (fun q h => by cases h) (fun q h => by cases h) (fun q h => by cases h) (ab_tab_all (t := t_Math_min) (chk := fun pc q => ab_Eb (some .int) prog_16_method_69_code s_Math_min 2 [] [] [] [] [] [] [] pc q.1 q.2.1 q.2.2.1 q.2.2.2.1 q.2.2.2.2) (by decide +kernel) hq)
set_option maxRecDepth 100000 in
theorem kp_Math_min {av : List AV} {m : Mm} {r : Int32 × Mm} (h : c_Math_min av m = some r) : ab_kp m r.2 := by
  obtain ⟨v0, v1, -, h⟩ := c_Math_min_inv h
  rw [r_Math_min_eq] at h
  have hV : ∀ a av m m', eV_Math_min a av m = some m' → ab_kp m m' := ab_ev_all (P := fun _ m r => ab_kp m r) [] (fun q hq => by cases hq)
  have hI : ∀ a av m q, eI_Math_min a av m = some q → ab_kp m q.2 := ab_ev_all (P := fun _ (m : Mm) (r : Int32 × Mm) => ab_kp m r.2) [] (fun q hq => by cases hq)
  exact ab_kprel (ρ := .inl (some (.inl r.1), r.2)) (ab_tab_isn (t := t_Math_min) (by decide +kernel)) hV hI (ab_rI_inv h)
set_option maxRecDepth 100000 in
theorem cl_Math_min (l : Launch) : ∀ (pc : Nat) (q : Ent), i_Math_min pc = some q → ab_inv q.1 = true → ab_CR l KT CL none ab_gW "java/lang/Math" prog_16_method_69_code 2 0 0 eV_Math_min eI_Math_min pc q := by
  intro pc q hq hi
  have hm : pc ∈ cs_Math_min := ab_tab_cs (t := t_Math_min) (by decide +kernel) hq hi
  cases hm
theorem cw_Math_min : ab_cw y_Math_min prog_16_method_69_code 2 2 (some .int) := ⟨ab_gW_in 505 (by decide +kernel) rfl, ab_gW_in 79 (by decide +kernel) rfl, by decide +kernel, by decide +kernel, by decide +kernel⟩
theorem st_Math_min : Cond.static y_Math_min ∈ ab_gW := ab_gW_in 504 (by decide +kernel) rfl
set_option maxRecDepth 100000 in
theorem cm_Math_min (l : Launch) {av : List AV} {m : Mm} {r : Int32 × Mm} (h0 : c_Math_min av m = some r) : av.length = 2 ∧ ab_nos av ∧ ab_Met l KT CL y_Math_min (Cond.code y_Math_min prog_16_method_69_code 2 (some .int) :: ab_gW) 0 0 none av m (some (.inl r.1)) r.2 := by
  obtain ⟨v0, v1, hav, h⟩ := c_Math_min_inv h0
  rw [r_Math_min_eq] at h
  have hmo : ab_mo m r.2 := ab_kp_mo (kp_Math_min h0)
  subst hav
  exact ⟨rfl, (by intro v hv q e; subst e; simp at hv), ab_met (by decide +kernel) KT_0 KT_nd KT_k3 E_Math_min (cl_Math_min l) hmo (Nat.le_of_ble_eq_true rfl) (ab_rI_inv h) (fun v hv => by cases hv; exact ⟨_, rfl⟩)⟩
/-! java/lang/Math.floorMod(II)I -/
def y_Math_floorMod : MethodName := ⟨"java/lang/Math", "floorMod", "(II)I"⟩
def t_Math_floorMod (pc : Nat) : Option Ent :=
  bif Nat.blt pc 10 then
    (bif Nat.blt pc 4 then
      (bif Nat.blt pc 2 then
        (bif Nat.blt pc 1 then
          (bif Nat.beq pc 0 then some (.iload_n 0, 0, 0, 0, 0) else none)
        else
          bif Nat.beq pc 1 then some (.iload_n 1, 1, 0, 0, 0) else none)
      else
        bif Nat.blt pc 3 then
          (bif Nat.beq pc 2 then some (.irem, 0, 0, 0, 0) else none)
        else
          bif Nat.beq pc 3 then some (.istore_n 2, 2, 0, 0, 0) else none)
    else
      bif Nat.blt pc 6 then
        (bif Nat.blt pc 5 then
          (bif Nat.beq pc 4 then some (.iload_n 0, 0, 0, 0, 0) else none)
        else
          bif Nat.beq pc 5 then some (.iload_n 1, 1, 0, 0, 0) else none)
      else
        bif Nat.blt pc 7 then
          (bif Nat.beq pc 6 then some (.ixor, 0, 0, 0, 0) else none)
        else
          bif Nat.beq pc 7 then some (.ifCond .ge (11), 18, 0, 0, 0) else none)
  else
    bif Nat.blt pc 16 then
      (bif Nat.blt pc 14 then
        (bif Nat.blt pc 11 then
          (bif Nat.beq pc 10 then some (.iload_n 2, 2, 0, 0, 0) else none)
        else
          bif Nat.beq pc 11 then some (.ifCond .eq (7), 18, 0, 0, 0) else none)
      else
        bif Nat.blt pc 15 then
          (bif Nat.beq pc 14 then some (.iload_n 2, 2, 0, 0, 0) else none)
        else
          bif Nat.beq pc 15 then some (.iload_n 1, 1, 0, 0, 0) else none)
    else
      bif Nat.blt pc 18 then
        (bif Nat.blt pc 17 then
          (bif Nat.beq pc 16 then some (.iadd, 0, 0, 0, 0) else none)
        else
          bif Nat.beq pc 17 then some (.ireturn, 0, 0, 0, 0) else none)
      else
        bif Nat.blt pc 19 then
          (bif Nat.beq pc 18 then some (.iload_n 2, 2, 0, 0, 0) else none)
        else
          bif Nat.beq pc 19 then some (.ireturn, 0, 0, 0, 0) else none
def i_Math_floorMod : Nat → Option Ent := ab_tab 20 t_Math_floorMod
def h_Math_floorMod (pc : Nat) : Nat × List Bool := (0, [])
def s_Math_floorMod (pc : Nat) : List (Int32 × Nat) × Nat := ([], 0)
noncomputable def eV_Math_floorMod : Nat → List AV → Mm → Option Mm := ab_ev []
noncomputable def eI_Math_floorMod : Nat → List AV → Mm → Option (Int32 × Mm) := ab_ev []
noncomputable def b_Math_floorMod_0 (f : Nat) (v0 : Int32) (v1 : Int32) (m : Mm) : Option Rs := ab_ex KT none s_Math_floorMod eV_Math_floorMod eI_Math_floorMod i_Math_floorMod h_Math_floorMod f 0 [some (.inl v0), some (.inl v1), none] [] m
set_option maxRecDepth 100000 in
set_option maxHeartbeats 4000000 in
theorem b_Math_floorMod_0_eq (f : Nat) (v0 : Int32) (v1 : Int32) (m : Mm) : b_Math_floorMod_0 (f + 1) v0 v1 m =
    if v1 = 0 then none else
    ab_let ((v0 - v0 / v1 * v1)) fun x1 =>
    if 0 ≤ (v0 ^^^ v1) then
      some (.inl (some (.inl x1), m))
    else
      if x1 = 0 then
        some (.inl (some (.inl x1), m))
      else
        some (.inl (some (.inl (x1 + v1)), m)) := rfl
noncomputable def r_Math_floorMod : Int32 → Int32 → Mm → Option (Int32 × Mm) := ab_seal fun v0 v1 m => ab_rI (b_Math_floorMod_0 50000 v0 v1 m)
theorem r_Math_floorMod_eq (v0 : Int32) (v1 : Int32) (m : Mm) : r_Math_floorMod v0 v1 m = ab_rI (b_Math_floorMod_0 50000 v0 v1 m) := by
  unfold r_Math_floorMod
  rw [ab_seal_eq]
noncomputable def c_Math_floorMod : List AV → Mm → Option (Int32 × Mm) := fun av m => match av with
  | [.inl v0, .inl v1] => r_Math_floorMod v0 v1 m
  | _ => none
theorem c_Math_floorMod_inv {av : List AV} {m : Mm} {r : Int32 × Mm} (h : c_Math_floorMod av m = some r) : ∃ (v0 : Int32) (v1 : Int32), av = [.inl v0, .inl v1] ∧ r_Math_floorMod v0 v1 m = some r := by
  unfold c_Math_floorMod at h
  split at h
  · rename_i v0 v1
    exact ⟨v0, v1, rfl, h⟩
  · cases h
def cs_Math_floorMod : List Nat := []
set_option maxRecDepth 100000 in
theorem E_Math_floorMod : ∀ (pc : Nat) (q : Ent), i_Math_floorMod pc = some q → ab_E KT CL ab_gW "java/lang/Math" "floorMod" (some .int) prog_16_method_50_code s_Math_floorMod 3 pc q.1 q.2.1 q.2.2.1 q.2.2.2.1 q.2.2.2.2 := fun pc q hq =>
  ab_Eb_ok (fun q h => by cases h) (fun q h => by cases h) (fun q h => by cases h) (fun q h => by cases h) (fun q h => by cases h) (fun q h => by cases h) (fun q h => by cases h) (ab_tab_all (t := t_Math_floorMod) (chk := fun pc q => ab_Eb (some .int) prog_16_method_50_code s_Math_floorMod 3 [] [] [] [] [] [] [] pc q.1 q.2.1 q.2.2.1 q.2.2.2.1 q.2.2.2.2) (by decide +kernel) hq)
set_option maxRecDepth 100000 in
theorem kp_Math_floorMod {av : List AV} {m : Mm} {r : Int32 × Mm} (h : c_Math_floorMod av m = some r) : ab_kp m r.2 := by
  obtain ⟨v0, v1, -, h⟩ := c_Math_floorMod_inv h
  rw [r_Math_floorMod_eq] at h
  have hV : ∀ a av m m', eV_Math_floorMod a av m = some m' → ab_kp m m' := ab_ev_all (P := fun _ m r => ab_kp m r) [] (fun q hq => by cases hq)
  have hI : ∀ a av m q, eI_Math_floorMod a av m = some q → ab_kp m q.2 := ab_ev_all (P := fun _ (m : Mm) (r : Int32 × Mm) => ab_kp m r.2) [] (fun q hq => by cases hq)
  exact ab_kprel (ρ := .inl (some (.inl r.1), r.2)) (ab_tab_isn (t := t_Math_floorMod) (by decide +kernel)) hV hI (ab_rI_inv h)
set_option maxRecDepth 100000 in
theorem cl_Math_floorMod (l : Launch) : ∀ (pc : Nat) (q : Ent), i_Math_floorMod pc = some q → ab_inv q.1 = true → ab_CR l KT CL none ab_gW "java/lang/Math" prog_16_method_50_code 3 0 0 eV_Math_floorMod eI_Math_floorMod pc q := by
  intro pc q hq hi
  have hm : pc ∈ cs_Math_floorMod := ab_tab_cs (t := t_Math_floorMod) (by decide +kernel) hq hi
  cases hm
theorem cw_Math_floorMod : ab_cw y_Math_floorMod prog_16_method_50_code 3 2 (some .int) := ⟨ab_gW_in 620 (by decide +kernel) rfl, ab_gW_in 79 (by decide +kernel) rfl, by decide +kernel, by decide +kernel, by decide +kernel⟩
theorem st_Math_floorMod : Cond.static y_Math_floorMod ∈ ab_gW := ab_gW_in 619 (by decide +kernel) rfl
set_option maxRecDepth 100000 in
theorem cm_Math_floorMod (l : Launch) {av : List AV} {m : Mm} {r : Int32 × Mm} (h0 : c_Math_floorMod av m = some r) : av.length = 2 ∧ ab_nos av ∧ ab_Met l KT CL y_Math_floorMod (Cond.code y_Math_floorMod prog_16_method_50_code 3 (some .int) :: ab_gW) 0 0 none av m (some (.inl r.1)) r.2 := by
  obtain ⟨v0, v1, hav, h⟩ := c_Math_floorMod_inv h0
  rw [r_Math_floorMod_eq] at h
  have hmo : ab_mo m r.2 := ab_kp_mo (kp_Math_floorMod h0)
  subst hav
  exact ⟨rfl, (by intro v hv q e; subst e; simp at hv), ab_met (by decide +kernel) KT_0 KT_nd KT_k3 E_Math_floorMod (cl_Math_floorMod l) hmo (Nat.le_of_ble_eq_true rfl) (ab_rI_inv h) (fun v hv => by cases hv; exact ⟨_, rfl⟩)⟩
end
end
section
section
def FLp_X : List ((Nat × Nat × Nat) × Nat) := [((11, 9, 0), 341), ((17, 9, 1), 342), ((22, 9, 2), 343), ((26, 9, 3), 344), ((44, 0, 2), 296), ((48, 4, 0), 284), ((63, 5, 2), 247), ((74, 5, 5), 257), ((78, 5, 6), 260), ((81, 0, 1), 294), ((85, 2, 0), 214), ((90, 1, 5), 196), ((93, 1, 1), 186), ((96, 1, 3), 190), ((120, 9, 4), 345), ((123, 9, 6), 347), ((137, 7, 2), 107), ((148, 7, 1), 104), ((149, 7, 0), 101), ((152, 9, 5), 346), ((172, 0, 7), 304), ((175, 0, 6), 302), ((181, 4, 1), 286), ((184, 2, 3), 218), ((187, 0, 3), 298), ((191, 3, 1), 130), ((196, 0, 8), 306), ((199, 5, 3), 252), ((205, 5, 4), 255), ((211, 1, 4), 193)]
def FL_X : List (Nat × Nat × Nat) := [(11, 9, 0), (17, 9, 1), (22, 9, 2), (26, 9, 3), (44, 0, 2), (48, 4, 0), (63, 5, 2), (74, 5, 5), (78, 5, 6), (81, 0, 1), (85, 2, 0), (90, 1, 5), (93, 1, 1), (96, 1, 3), (120, 9, 4), (123, 9, 6), (137, 7, 2), (148, 7, 1), (149, 7, 0), (152, 9, 5), (172, 0, 7), (175, 0, 6), (181, 4, 1), (184, 2, 3), (187, 0, 3), (191, 3, 1), (196, 0, 8), (199, 5, 3), (205, 5, 4), (211, 1, 4)]
theorem fl_X : ∀ q ∈ FL_X, ab_fld CL ab_gW "StreamTransport" q.1 q.2.1 q.2.2 := ab_flb_ok (own := "StreamTransport") (l := FLp_X) (by decide +kernel)
def FPnp_X : List ((Nat × Nat × Nat) × Nat) := [((63, 5, 2), 247), ((74, 5, 5), 257), ((78, 5, 6), 260), ((90, 1, 5), 196), ((93, 1, 1), 186), ((96, 1, 3), 190), ((120, 9, 4), 345), ((123, 9, 6), 347), ((137, 7, 2), 107), ((148, 7, 1), 104), ((152, 9, 5), 346), ((172, 0, 7), 304), ((175, 0, 6), 302), ((181, 4, 1), 286), ((184, 2, 3), 218), ((191, 3, 1), 130), ((196, 0, 8), 306), ((199, 5, 3), 252), ((205, 5, 4), 255), ((211, 1, 4), 193)]
def FPn_X : List (Nat × Nat × Nat) := [(63, 5, 2), (74, 5, 5), (78, 5, 6), (90, 1, 5), (93, 1, 1), (96, 1, 3), (120, 9, 4), (123, 9, 6), (137, 7, 2), (148, 7, 1), (152, 9, 5), (172, 0, 7), (175, 0, 6), (181, 4, 1), (184, 2, 3), (191, 3, 1), (196, 0, 8), (199, 5, 3), (205, 5, 4), (211, 1, 4)]
theorem fpn_X (nm : String) : ∀ q ∈ FPn_X, ∃ ty, ab_fldp CL ab_gW "StreamTransport" nm q.1 q.2.1 q.2.2 ty ∧ ∀ (k t r k' d' : Nat), ab_fs KT q.2.1 q.2.2 k = some (t, r, k', d') → (t = 0 → ty = .int) ∧ (t = 1 → ty = .boolean) ∧ (t = 2 → ((∃ n, ty = .object n) ∨ ∃ t, ty = .array t) ∧ k' ≠ 0) := ab_fpb_ok (own := "StreamTransport") (nm := nm) (l := FPnp_X) (ab_fpn_ok (by decide +kernel))
def FPip_X : List ((Nat × Nat × Nat) × Nat) := [((11, 9, 0), 341), ((17, 9, 1), 342), ((22, 9, 2), 343), ((26, 9, 3), 344), ((63, 5, 2), 247), ((74, 5, 5), 257), ((78, 5, 6), 260), ((90, 1, 5), 196), ((93, 1, 1), 186), ((96, 1, 3), 190), ((120, 9, 4), 345), ((123, 9, 6), 347), ((137, 7, 2), 107), ((148, 7, 1), 104), ((152, 9, 5), 346), ((172, 0, 7), 304), ((175, 0, 6), 302), ((181, 4, 1), 286), ((184, 2, 3), 218), ((191, 3, 1), 130), ((196, 0, 8), 306), ((199, 5, 3), 252), ((205, 5, 4), 255), ((211, 1, 4), 193)]
def FPi_X : List (Nat × Nat × Nat) := [(11, 9, 0), (17, 9, 1), (22, 9, 2), (26, 9, 3), (63, 5, 2), (74, 5, 5), (78, 5, 6), (90, 1, 5), (93, 1, 1), (96, 1, 3), (120, 9, 4), (123, 9, 6), (137, 7, 2), (148, 7, 1), (152, 9, 5), (172, 0, 7), (175, 0, 6), (181, 4, 1), (184, 2, 3), (191, 3, 1), (196, 0, 8), (199, 5, 3), (205, 5, 4), (211, 1, 4)]
theorem fpi_X : ∀ q ∈ FPi_X, ∃ ty, ab_fldp CL ab_gW "StreamTransport" "<init>" q.1 q.2.1 q.2.2 ty ∧ ∀ (k t r k' d' : Nat), ab_fs KT q.2.1 q.2.2 k = some (t, r, k', d') → (t = 0 → ty = .int) ∧ (t = 1 → ty = .boolean) ∧ (t = 2 → ((∃ n, ty = .object n) ∨ ∃ t, ty = .array t) ∧ k' ≠ 0) := ab_fpb_ok (own := "StreamTransport") (nm := "<init>") (l := FPip_X) (by decide +kernel)
def LCp_X : List ((Nat × Int32) × Nat) := []
def LC_X : List (Nat × Int32) := []
theorem lc_X : ∀ q ∈ LC_X, Cond.constant "StreamTransport" q.1 q.2 ∈ ab_gW := ab_lcb (own := "StreamTransport") (l := LCp_X) (by decide +kernel)
def LJp_X : List ((Nat × Nat) × Nat) := []
def LJ_X : List (Nat × Nat) := []
theorem lj_X : ∀ q ∈ LJ_X, Cond.constantLong "StreamTransport" q.1 (Int64.ofNat q.2) ∈ ab_gW := ab_ljb (own := "StreamTransport") (l := LJp_X) (by decide +kernel)
def NWp_X : List ((Nat × Nat) × Nat × Nat × Nat) := [((15, 72), 92, 94, 62), ((9, 73), 90, 116, 63)]
def NW_X : List (Nat × Nat) := [(15, 72), (9, 73)]
theorem nw_X : ∀ q ∈ NW_X, ab_newok KT CL ab_gW "StreamTransport" q.1 q.2 := ab_nwb_ok (own := "StreamTransport") (l := NWp_X) (by decide +kernel)
def NQp_X : List ((Nat × Nat) × Nat) := [((9, 70), 90), ((15, 71), 92)]
def NQ_X : List (Nat × Nat) := [(9, 70), (15, 71)]
theorem nq_X : ∀ q ∈ NQ_X, ab_nqok KT CL ab_gW "StreamTransport" q.1 q.2 := ab_nqb_ok (own := "StreamTransport") (l := NQp_X) (by decide +kernel)
def NA_X : List (Nat × Nat) := [(0, 6)]
theorem na_X : ∀ q ∈ NA_X, (q.1 = 0 → ab_naok KT CL ab_gW .int q.2) ∧ (q.1 = 1 → ab_naok KT CL ab_gW .boolean q.2) ∧ (q.1 = 2 → ab_naok KT CL ab_gW .long q.2) := ab_nab_ok (by decide +kernel)
/-! StreamTransport.sizeOf(I)I -/
def y_X_sizeOf : MethodName := ⟨"StreamTransport", "sizeOf", "(I)I"⟩
def t_X_sizeOf (pc : Nat) : Option Ent :=
  bif Nat.blt pc 9 then
    (bif Nat.blt pc 6 then
      (bif Nat.blt pc 1 then
        (bif Nat.beq pc 0 then some (.iload_n 0, 0, 0, 0, 0) else none)
      else
        bif Nat.blt pc 3 then
          (bif Nat.beq pc 1 then some (.bipush 64, 0, 0, 0, 64) else none)
        else
          bif Nat.beq pc 3 then some (.if_icmp .ge (5), 8, 0, 0, 0) else none)
    else
      bif Nat.blt pc 7 then
        (bif Nat.beq pc 6 then some (.iconst 1, 0, 0, 0, 1) else none)
      else
        bif Nat.blt pc 8 then
          (bif Nat.beq pc 7 then some (.ireturn, 0, 0, 0, 0) else none)
        else
          bif Nat.beq pc 8 then some (.iload_n 0, 0, 0, 0, 0) else none)
  else
    bif Nat.blt pc 16 then
      (bif Nat.blt pc 12 then
        (bif Nat.beq pc 9 then some (.sipush 16384, 0, 0, 0, 16384) else none)
      else
        bif Nat.blt pc 15 then
          (bif Nat.beq pc 12 then some (.if_icmp .ge (7), 19, 0, 0, 0) else none)
        else
          bif Nat.beq pc 15 then some (.iconst 2, 0, 0, 0, 2) else none)
    else
      bif Nat.blt pc 19 then
        (bif Nat.beq pc 16 then some (.goto 4, 20, 0, 0, 0) else none)
      else
        bif Nat.blt pc 20 then
          (bif Nat.beq pc 19 then some (.iconst 4, 0, 0, 0, 4) else none)
        else
          bif Nat.beq pc 20 then some (.ireturn, 0, 0, 0, 0) else none
def i_X_sizeOf : Nat → Option Ent := ab_tab 21 t_X_sizeOf
def h_X_sizeOf (pc : Nat) : Nat × List Bool := (0, [])
def s_X_sizeOf (pc : Nat) : List (Int32 × Nat) × Nat := ([], 0)
noncomputable def eV_X_sizeOf : Nat → List AV → Mm → Option Mm := ab_ev []
noncomputable def eI_X_sizeOf : Nat → List AV → Mm → Option (Int32 × Mm) := ab_ev []
noncomputable def b_X_sizeOf_0 (f : Nat) (v0 : Int32) (m : Mm) : Option Rs := ab_ex KT none s_X_sizeOf eV_X_sizeOf eI_X_sizeOf i_X_sizeOf h_X_sizeOf f 0 [some (.inl v0)] [] m
set_option maxRecDepth 100000 in
set_option maxHeartbeats 4000000 in
theorem b_X_sizeOf_0_eq (f : Nat) (v0 : Int32) (m : Mm) : b_X_sizeOf_0 (f + 1) v0 m =
    if (64 : Int32) ≤ v0 then
      if (16384 : Int32) ≤ v0 then
        some (.inl (some (.inl (4 : Int32)), m))
      else
        some (.inl (some (.inl (2 : Int32)), m))
    else
      some (.inl (some (.inl (1 : Int32)), m)) := rfl
noncomputable def r_X_sizeOf : Int32 → Mm → Option (Int32 × Mm) := ab_seal fun v0 m => ab_rI (b_X_sizeOf_0 50000 v0 m)
theorem r_X_sizeOf_eq (v0 : Int32) (m : Mm) : r_X_sizeOf v0 m = ab_rI (b_X_sizeOf_0 50000 v0 m) := by
  unfold r_X_sizeOf
  rw [ab_seal_eq]
noncomputable def c_X_sizeOf : List AV → Mm → Option (Int32 × Mm) := fun av m => match av with
  | [.inl v0] => r_X_sizeOf v0 m
  | _ => none
theorem c_X_sizeOf_inv {av : List AV} {m : Mm} {r : Int32 × Mm} (h : c_X_sizeOf av m = some r) : ∃ (v0 : Int32), av = [.inl v0] ∧ r_X_sizeOf v0 m = some r := by
  unfold c_X_sizeOf at h
  split at h
  · rename_i v0
    exact ⟨v0, rfl, h⟩
  · cases h
def cs_X_sizeOf : List Nat := []
set_option maxRecDepth 100000 in
theorem E_X_sizeOf : ∀ (pc : Nat) (q : Ent), i_X_sizeOf pc = some q → ab_E KT CL ab_gW "StreamTransport" "sizeOf" (some .int) prog_1_method_26_code s_X_sizeOf 1 pc q.1 q.2.1 q.2.2.1 q.2.2.2.1 q.2.2.2.2 := fun pc q hq =>
  ab_Eb_ok lc_X lj_X fl_X (fpn_X "sizeOf") nw_X na_X nq_X (ab_tab_all (t := t_X_sizeOf) (chk := fun pc q => ab_Eb (some .int) prog_1_method_26_code s_X_sizeOf 1 LC_X LJ_X FL_X FPn_X NW_X NA_X NQ_X pc q.1 q.2.1 q.2.2.1 q.2.2.2.1 q.2.2.2.2) (by decide +kernel) hq)
set_option maxRecDepth 100000 in
theorem kp_X_sizeOf {av : List AV} {m : Mm} {r : Int32 × Mm} (h : c_X_sizeOf av m = some r) : ab_kp m r.2 := by
  obtain ⟨v0, -, h⟩ := c_X_sizeOf_inv h
  rw [r_X_sizeOf_eq] at h
  have hV : ∀ a av m m', eV_X_sizeOf a av m = some m' → ab_kp m m' := ab_ev_all (P := fun _ m r => ab_kp m r) [] (fun q hq => by cases hq)
  have hI : ∀ a av m q, eI_X_sizeOf a av m = some q → ab_kp m q.2 := ab_ev_all (P := fun _ (m : Mm) (r : Int32 × Mm) => ab_kp m r.2) [] (fun q hq => by cases hq)
  exact ab_kprel (ρ := .inl (some (.inl r.1), r.2)) (ab_tab_isn (t := t_X_sizeOf) (by decide +kernel)) hV hI (ab_rI_inv h)
set_option maxRecDepth 100000 in
theorem cl_X_sizeOf (l : Launch) : ∀ (pc : Nat) (q : Ent), i_X_sizeOf pc = some q → ab_inv q.1 = true → ab_CR l KT CL none ab_gW "StreamTransport" prog_1_method_26_code 1 0 0 eV_X_sizeOf eI_X_sizeOf pc q := by
  intro pc q hq hi
  have hm : pc ∈ cs_X_sizeOf := ab_tab_cs (t := t_X_sizeOf) (by decide +kernel) hq hi
  cases hm
theorem cw_X_sizeOf : ab_cw y_X_sizeOf prog_1_method_26_code 1 1 (some .int) := ⟨ab_gW_in 485 (by decide +kernel) rfl, ab_gW_in 61 (by decide +kernel) rfl, by decide +kernel, by decide +kernel, by decide +kernel⟩
theorem st_X_sizeOf : Cond.static y_X_sizeOf ∈ ab_gW := ab_gW_in 484 (by decide +kernel) rfl
set_option maxRecDepth 100000 in
theorem cm_X_sizeOf (l : Launch) {av : List AV} {m : Mm} {r : Int32 × Mm} (h0 : c_X_sizeOf av m = some r) : av.length = 1 ∧ ab_nos av ∧ ab_Met l KT CL y_X_sizeOf (Cond.code y_X_sizeOf prog_1_method_26_code 1 (some .int) :: ab_gW) 0 0 none av m (some (.inl r.1)) r.2 := by
  obtain ⟨v0, hav, h⟩ := c_X_sizeOf_inv h0
  rw [r_X_sizeOf_eq] at h
  have hmo : ab_mo m r.2 := ab_kp_mo (kp_X_sizeOf h0)
  subst hav
  exact ⟨rfl, (by intro v hv q e; subst e; simp at hv), ab_met (by decide +kernel) KT_0 KT_nd KT_k3 E_X_sizeOf (cl_X_sizeOf l) hmo (Nat.le_of_ble_eq_true rfl) (ab_rI_inv h) (fun v hv => by cases hv; exact ⟨_, rfl⟩)⟩
/-! StreamTransport.byteOf(JI)I -/
def y_X_byteOf : MethodName := ⟨"StreamTransport", "byteOf", "(JI)I"⟩
def t_X_byteOf (pc : Nat) : Option Ent :=
  bif Nat.blt pc 5 then
    (bif Nat.blt pc 3 then
      (bif Nat.blt pc 1 then
        (bif Nat.beq pc 0 then some (.lload_n 0, 0, 0, 0, 0) else none)
      else
        bif Nat.beq pc 1 then some (.bipush 8, 0, 0, 0, 8) else none)
    else
      bif Nat.blt pc 4 then
        (bif Nat.beq pc 3 then some (.iload_n 2, 2, 0, 0, 0) else none)
      else
        bif Nat.beq pc 4 then some (.imul, 0, 0, 0, 0) else none)
  else
    bif Nat.blt pc 7 then
      (bif Nat.blt pc 6 then
        (bif Nat.beq pc 5 then some (.lushr, 0, 0, 0, 0) else none)
      else
        bif Nat.beq pc 6 then some (.l2i, 0, 0, 0, 0) else none)
    else
      bif Nat.blt pc 10 then
        (bif Nat.beq pc 7 then some (.sipush 255, 0, 0, 0, 255) else none)
      else
        bif Nat.blt pc 11 then
          (bif Nat.beq pc 10 then some (.iand, 0, 0, 0, 0) else none)
        else
          bif Nat.beq pc 11 then some (.ireturn, 0, 0, 0, 0) else none
def i_X_byteOf : Nat → Option Ent := ab_tab 12 t_X_byteOf
def h_X_byteOf (pc : Nat) : Nat × List Bool := (0, [])
def s_X_byteOf (pc : Nat) : List (Int32 × Nat) × Nat := ([], 0)
noncomputable def eV_X_byteOf : Nat → List AV → Mm → Option Mm := ab_ev []
noncomputable def eI_X_byteOf : Nat → List AV → Mm → Option (Int32 × Mm) := ab_ev []
noncomputable def b_X_byteOf_0 (f : Nat) (v0 : Int64) (v2 : Int32) (m : Mm) : Option Rs := ab_ex KT none s_X_byteOf eV_X_byteOf eI_X_byteOf i_X_byteOf h_X_byteOf f 0 [some (.inr (.inl v0)), none, some (.inl v2)] [] m
set_option maxRecDepth 100000 in
set_option maxHeartbeats 4000000 in
theorem b_X_byteOf_0_eq (f : Nat) (v0 : Int64) (v2 : Int32) (m : Mm) : b_X_byteOf_0 (f + 1) v0 v2 m =
    some (.inl (some (.inl ((((v0).toUInt64 >>> ((((8 : Int32) * v2)).toInt64.toUInt64 &&& Int64.toUInt64 63)).toInt64).toInt32 &&& (255 : Int32))), m)) := rfl
noncomputable def r_X_byteOf : Int64 → Int32 → Mm → Option (Int32 × Mm) := ab_seal fun v0 v2 m => ab_rI (b_X_byteOf_0 50000 v0 v2 m)
theorem r_X_byteOf_eq (v0 : Int64) (v2 : Int32) (m : Mm) : r_X_byteOf v0 v2 m = ab_rI (b_X_byteOf_0 50000 v0 v2 m) := by
  unfold r_X_byteOf
  rw [ab_seal_eq]
noncomputable def c_X_byteOf : List AV → Mm → Option (Int32 × Mm) := fun av m => match av with
  | [.inr (.inl v0), .inl v2] => r_X_byteOf v0 v2 m
  | _ => none
theorem c_X_byteOf_inv {av : List AV} {m : Mm} {r : Int32 × Mm} (h : c_X_byteOf av m = some r) : ∃ (v0 : Int64) (v2 : Int32), av = [.inr (.inl v0), .inl v2] ∧ r_X_byteOf v0 v2 m = some r := by
  unfold c_X_byteOf at h
  split at h
  · rename_i v0 v2
    exact ⟨v0, v2, rfl, h⟩
  · cases h
def cs_X_byteOf : List Nat := []
set_option maxRecDepth 100000 in
theorem E_X_byteOf : ∀ (pc : Nat) (q : Ent), i_X_byteOf pc = some q → ab_E KT CL ab_gW "StreamTransport" "byteOf" (some .int) prog_1_method_25_code s_X_byteOf 3 pc q.1 q.2.1 q.2.2.1 q.2.2.2.1 q.2.2.2.2 := fun pc q hq =>
  ab_Eb_ok lc_X lj_X fl_X (fpn_X "byteOf") nw_X na_X nq_X (ab_tab_all (t := t_X_byteOf) (chk := fun pc q => ab_Eb (some .int) prog_1_method_25_code s_X_byteOf 3 LC_X LJ_X FL_X FPn_X NW_X NA_X NQ_X pc q.1 q.2.1 q.2.2.1 q.2.2.2.1 q.2.2.2.2) (by decide +kernel) hq)
set_option maxRecDepth 100000 in
theorem kp_X_byteOf {av : List AV} {m : Mm} {r : Int32 × Mm} (h : c_X_byteOf av m = some r) : ab_kp m r.2 := by
  obtain ⟨v0, v2, -, h⟩ := c_X_byteOf_inv h
  rw [r_X_byteOf_eq] at h
  have hV : ∀ a av m m', eV_X_byteOf a av m = some m' → ab_kp m m' := ab_ev_all (P := fun _ m r => ab_kp m r) [] (fun q hq => by cases hq)
  have hI : ∀ a av m q, eI_X_byteOf a av m = some q → ab_kp m q.2 := ab_ev_all (P := fun _ (m : Mm) (r : Int32 × Mm) => ab_kp m r.2) [] (fun q hq => by cases hq)
  exact ab_kprel (ρ := .inl (some (.inl r.1), r.2)) (ab_tab_isn (t := t_X_byteOf) (by decide +kernel)) hV hI (ab_rI_inv h)
set_option maxRecDepth 100000 in
theorem cl_X_byteOf (l : Launch) : ∀ (pc : Nat) (q : Ent), i_X_byteOf pc = some q → ab_inv q.1 = true → ab_CR l KT CL none ab_gW "StreamTransport" prog_1_method_25_code 3 0 0 eV_X_byteOf eI_X_byteOf pc q := by
  intro pc q hq hi
  have hm : pc ∈ cs_X_byteOf := ab_tab_cs (t := t_X_byteOf) (by decide +kernel) hq hi
  cases hm
theorem cw_X_byteOf : ab_cw y_X_byteOf prog_1_method_25_code 3 2 (some .int) := ⟨ab_gW_in 779 (by decide +kernel) rfl, ab_gW_in 61 (by decide +kernel) rfl, by decide +kernel, by decide +kernel, by decide +kernel⟩
theorem st_X_byteOf : Cond.static y_X_byteOf ∈ ab_gW := ab_gW_in 778 (by decide +kernel) rfl
set_option maxRecDepth 100000 in
theorem cm_X_byteOf (l : Launch) {av : List AV} {m : Mm} {r : Int32 × Mm} (h0 : c_X_byteOf av m = some r) : av.length = 2 ∧ ab_nos av ∧ ab_Met l KT CL y_X_byteOf (Cond.code y_X_byteOf prog_1_method_25_code 3 (some .int) :: ab_gW) 0 0 none av m (some (.inl r.1)) r.2 := by
  obtain ⟨v0, v2, hav, h⟩ := c_X_byteOf_inv h0
  rw [r_X_byteOf_eq] at h
  have hmo : ab_mo m r.2 := ab_kp_mo (kp_X_byteOf h0)
  subst hav
  exact ⟨rfl, (by intro v hv q e; subst e; simp at hv), ab_met (by decide +kernel) KT_0 KT_nd KT_k3 E_X_byteOf (cl_X_byteOf l) hmo (Nat.le_of_ble_eq_true rfl) (ab_rI_inv h) (fun v hv => by cases hv; exact ⟨_, rfl⟩)⟩
end
end
section
section
def FLp_Row : List ((Nat × Nat × Nat) × Nat) := [((9, 7, 0), 99), ((15, 7, 2), 106), ((19, 7, 1), 102)]
def FL_Row : List (Nat × Nat × Nat) := [(9, 7, 0), (15, 7, 2), (19, 7, 1)]
theorem fl_Row : ∀ q ∈ FL_Row, ab_fld CL ab_gW "StreamTransport$Row" q.1 q.2.1 q.2.2 := ab_flb_ok (own := "StreamTransport$Row") (l := FLp_Row) (by decide +kernel)
def FPnp_Row : List ((Nat × Nat × Nat) × Nat) := [((15, 7, 2), 106), ((19, 7, 1), 102)]
def FPn_Row : List (Nat × Nat × Nat) := [(15, 7, 2), (19, 7, 1)]
theorem fpn_Row (nm : String) : ∀ q ∈ FPn_Row, ∃ ty, ab_fldp CL ab_gW "StreamTransport$Row" nm q.1 q.2.1 q.2.2 ty ∧ ∀ (k t r k' d' : Nat), ab_fs KT q.2.1 q.2.2 k = some (t, r, k', d') → (t = 0 → ty = .int) ∧ (t = 1 → ty = .boolean) ∧ (t = 2 → ((∃ n, ty = .object n) ∨ ∃ t, ty = .array t) ∧ k' ≠ 0) := ab_fpb_ok (own := "StreamTransport$Row") (nm := nm) (l := FPnp_Row) (ab_fpn_ok (by decide +kernel))
def FPip_Row : List ((Nat × Nat × Nat) × Nat) := [((9, 7, 0), 99), ((15, 7, 2), 106), ((19, 7, 1), 102)]
def FPi_Row : List (Nat × Nat × Nat) := [(9, 7, 0), (15, 7, 2), (19, 7, 1)]
theorem fpi_Row : ∀ q ∈ FPi_Row, ∃ ty, ab_fldp CL ab_gW "StreamTransport$Row" "<init>" q.1 q.2.1 q.2.2 ty ∧ ∀ (k t r k' d' : Nat), ab_fs KT q.2.1 q.2.2 k = some (t, r, k', d') → (t = 0 → ty = .int) ∧ (t = 1 → ty = .boolean) ∧ (t = 2 → ((∃ n, ty = .object n) ∨ ∃ t, ty = .array t) ∧ k' ≠ 0) := ab_fpb_ok (own := "StreamTransport$Row") (nm := "<init>") (l := FPip_Row) (by decide +kernel)
def LCp_Row : List ((Nat × Int32) × Nat) := [((38, 40503), 587), ((39, 16777619), 588), ((40, 65535), 589)]
def LC_Row : List (Nat × Int32) := [(38, 40503), (39, 16777619), (40, 65535)]
theorem lc_Row : ∀ q ∈ LC_Row, Cond.constant "StreamTransport$Row" q.1 q.2 ∈ ab_gW := ab_lcb (own := "StreamTransport$Row") (l := LCp_Row) (by decide +kernel)
def LJp_Row : List ((Nat × Nat) × Nat) := []
def LJ_Row : List (Nat × Nat) := []
theorem lj_Row : ∀ q ∈ LJ_Row, Cond.constantLong "StreamTransport$Row" q.1 (Int64.ofNat q.2) ∈ ab_gW := ab_ljb (own := "StreamTransport$Row") (l := LJp_Row) (by decide +kernel)
def NWp_Row : List ((Nat × Nat) × Nat × Nat × Nat) := []
def NW_Row : List (Nat × Nat) := []
theorem nw_Row : ∀ q ∈ NW_Row, ab_newok KT CL ab_gW "StreamTransport$Row" q.1 q.2 := ab_nwb_ok (own := "StreamTransport$Row") (l := NWp_Row) (by decide +kernel)
def NQp_Row : List ((Nat × Nat) × Nat) := []
def NQ_Row : List (Nat × Nat) := []
theorem nq_Row : ∀ q ∈ NQ_Row, ab_nqok KT CL ab_gW "StreamTransport$Row" q.1 q.2 := ab_nqb_ok (own := "StreamTransport$Row") (l := NQp_Row) (by decide +kernel)
def NA_Row : List (Nat × Nat) := [(0, 5)]
theorem na_Row : ∀ q ∈ NA_Row, (q.1 = 0 → ab_naok KT CL ab_gW .int q.2) ∧ (q.1 = 1 → ab_naok KT CL ab_gW .boolean q.2) ∧ (q.1 = 2 → ab_naok KT CL ab_gW .long q.2) := ab_nab_ok (by decide +kernel)
/-! StreamTransport$Row.roomLeft()I -/
def y_Row_roomLeft : MethodName := ⟨"StreamTransport$Row", "roomLeft", "()I"⟩
def t_Row_roomLeft (pc : Nat) : Option Ent :=
  bif Nat.blt pc 3 then
    (bif Nat.blt pc 2 then
      (bif Nat.beq pc 0 then some (.bipush 38, 0, 0, 0, 38) else none)
    else
      bif Nat.beq pc 2 then some (.aload_n 0, 0, 0, 0, 0) else none)
  else
    bif Nat.blt pc 6 then
      (bif Nat.beq pc 3 then some (.getfield 19, 7, 1, 0, 0) else none)
    else
      bif Nat.blt pc 7 then
        (bif Nat.beq pc 6 then some (.isub, 0, 0, 0, 0) else none)
      else
        bif Nat.beq pc 7 then some (.ireturn, 0, 0, 0, 0) else none
def i_Row_roomLeft : Nat → Option Ent := ab_tab 8 t_Row_roomLeft
def h_Row_roomLeft (pc : Nat) : Nat × List Bool := (0, [])
def s_Row_roomLeft (pc : Nat) : List (Int32 × Nat) × Nat := ([], 0)
noncomputable def eV_Row_roomLeft : Nat → List AV → Mm → Option Mm := ab_ev []
noncomputable def eI_Row_roomLeft : Nat → List AV → Mm → Option (Int32 × Mm) := ab_ev []
noncomputable def b_Row_roomLeft_0 (f : Nat) (v0 : Nat) (m : Mm) : Option Rs := ab_ex KT none s_Row_roomLeft eV_Row_roomLeft eI_Row_roomLeft i_Row_roomLeft h_Row_roomLeft f 0 [some (.inr (.inr (4, some v0)))] [] m
set_option maxRecDepth 100000 in
set_option maxHeartbeats 4000000 in
theorem b_Row_roomLeft_0_eq (f : Nat) (v0 : Nat) (m : Mm) : b_Row_roomLeft_0 (f + 1) v0 m =
    some (.inl (some (.inl ((38 : Int32) - (m.1 11 v0 0))), m)) := rfl
noncomputable def r_Row_roomLeft : Nat → Mm → Option (Int32 × Mm) := ab_seal fun v0 m => ab_rI (b_Row_roomLeft_0 50000 v0 m)
theorem r_Row_roomLeft_eq (v0 : Nat) (m : Mm) : r_Row_roomLeft v0 m = ab_rI (b_Row_roomLeft_0 50000 v0 m) := by
  unfold r_Row_roomLeft
  rw [ab_seal_eq]
noncomputable def c_Row_roomLeft : List AV → Mm → Option (Int32 × Mm) := fun av m => match av with
  | [.inr (.inr (kv0, ov0))] => if kv0 = 4 then (ov0.bind fun v0 => r_Row_roomLeft v0 m) else none
  | _ => none
theorem c_Row_roomLeft_inv {av : List AV} {m : Mm} {r : Int32 × Mm} (h : c_Row_roomLeft av m = some r) : ∃ (v0 : Nat), av = [.inr (.inr (4, some v0))] ∧ r_Row_roomLeft v0 m = some r := by
  unfold c_Row_roomLeft at h
  split at h
  · rename_i kv0 ov0
    by_cases hkv0 : kv0 = 4
    case neg => rw [if_neg hkv0] at h; cases h
    rw [if_pos hkv0] at h
    subst hkv0
    obtain ⟨v0, hev0, h⟩ := Option.bind_eq_some_iff.mp h
    subst hev0
    exact ⟨v0, rfl, h⟩
  · cases h
def cs_Row_roomLeft : List Nat := []
set_option maxRecDepth 100000 in
theorem E_Row_roomLeft : ∀ (pc : Nat) (q : Ent), i_Row_roomLeft pc = some q → ab_E KT CL ab_gW "StreamTransport$Row" "roomLeft" (some .int) prog_9_method_6_code s_Row_roomLeft 1 pc q.1 q.2.1 q.2.2.1 q.2.2.2.1 q.2.2.2.2 := fun pc q hq =>
  ab_Eb_ok lc_Row lj_Row fl_Row (fpn_Row "roomLeft") nw_Row na_Row nq_Row (ab_tab_all (t := t_Row_roomLeft) (chk := fun pc q => ab_Eb (some .int) prog_9_method_6_code s_Row_roomLeft 1 LC_Row LJ_Row FL_Row FPn_Row NW_Row NA_Row NQ_Row pc q.1 q.2.1 q.2.2.1 q.2.2.2.1 q.2.2.2.2) (by decide +kernel) hq)
set_option maxRecDepth 100000 in
theorem kp_Row_roomLeft {av : List AV} {m : Mm} {r : Int32 × Mm} (h : c_Row_roomLeft av m = some r) : ab_kp m r.2 := by
  obtain ⟨v0, -, h⟩ := c_Row_roomLeft_inv h
  rw [r_Row_roomLeft_eq] at h
  have hV : ∀ a av m m', eV_Row_roomLeft a av m = some m' → ab_kp m m' := ab_ev_all (P := fun _ m r => ab_kp m r) [] (fun q hq => by cases hq)
  have hI : ∀ a av m q, eI_Row_roomLeft a av m = some q → ab_kp m q.2 := ab_ev_all (P := fun _ (m : Mm) (r : Int32 × Mm) => ab_kp m r.2) [] (fun q hq => by cases hq)
  exact ab_kprel (ρ := .inl (some (.inl r.1), r.2)) (ab_tab_isn (t := t_Row_roomLeft) (by decide +kernel)) hV hI (ab_rI_inv h)
set_option maxRecDepth 100000 in
theorem cl_Row_roomLeft (l : Launch) : ∀ (pc : Nat) (q : Ent), i_Row_roomLeft pc = some q → ab_inv q.1 = true → ab_CR l KT CL none ab_gW "StreamTransport$Row" prog_9_method_6_code 1 0 0 eV_Row_roomLeft eI_Row_roomLeft pc q := by
  intro pc q hq hi
  have hm : pc ∈ cs_Row_roomLeft := ab_tab_cs (t := t_Row_roomLeft) (by decide +kernel) hq hi
  cases hm
theorem cw_Row_roomLeft : ab_cw y_Row_roomLeft prog_9_method_6_code 1 0 (some .int) := ⟨ab_gW_in 514 (by decide +kernel) rfl, ab_gW_in 62 (by decide +kernel) rfl, by decide +kernel, by decide +kernel, by decide +kernel⟩
theorem is_Row_roomLeft : Cond.instanceMethod y_Row_roomLeft ∈ ab_gW := ab_gW_in 512 (by decide +kernel) rfl
theorem sl_Row_roomLeft : Cond.selects "StreamTransport$Row" y_Row_roomLeft y_Row_roomLeft ∈ ab_gW := ab_gW_in 513 (by decide +kernel) rfl
set_option maxRecDepth 100000 in
theorem cm_Row_roomLeft (l : Launch) {av : List AV} {m : Mm} {r : Int32 × Mm} (h0 : c_Row_roomLeft av m = some r) : ∃ (k q : Nat) (av' : List AV) (ci : Nat) (fs : List (Nat × Nat × Nat × Nat)) (z : vw_C), av = .inr (.inr (k, some q)) :: av' ∧ av'.length = 0 ∧ k ≠ 0 ∧ KT[k]? = some (.inl (ci, fs)) ∧ CL[ci]? = some z ∧ z.1 = "StreamTransport$Row" ∧ ab_nos av' ∧ ab_Met l KT CL y_Row_roomLeft (Cond.code y_Row_roomLeft prog_9_method_6_code 1 (some .int) :: ab_gW) 0 0 none av m (some (.inl r.1)) r.2 := by
  obtain ⟨v0, hav, h⟩ := c_Row_roomLeft_inv h0
  rw [r_Row_roomLeft_eq] at h
  have hmo : ab_mo m r.2 := ab_kp_mo (kp_Row_roomLeft h0)
  subst hav
  exact ⟨_, _, _, _, _, _, rfl, rfl, by decide, rfl, rfl, rfl, (by intro v hv q e; subst e; simp at hv), ab_met (by decide +kernel) KT_0 KT_nd KT_k3 E_Row_roomLeft (cl_Row_roomLeft l) hmo (Nat.le_of_ble_eq_true rfl) (ab_rI_inv h) (fun v hv => by cases hv; exact ⟨_, rfl⟩)⟩
/-! StreamTransport$Row.hasRoomFor(I)Z -/
def y_Row_hasRoomFor : MethodName := ⟨"StreamTransport$Row", "hasRoomFor", "(I)Z"⟩
def t_Row_hasRoomFor (pc : Nat) : Option Ent :=
  bif Nat.blt pc 8 then
    (bif Nat.blt pc 2 then
      (bif Nat.blt pc 1 then
        (bif Nat.beq pc 0 then some (.iload_n 1, 1, 0, 0, 0) else none)
      else
        bif Nat.beq pc 1 then some (.aload_n 0, 0, 0, 0, 0) else none)
    else
      bif Nat.blt pc 5 then
        (bif Nat.beq pc 2 then some (.invokevirtual 30, 6, 1, 1, 0) else none)
      else
        bif Nat.beq pc 5 then some (.if_icmp .gt (7), 12, 0, 0, 0) else none)
  else
    bif Nat.blt pc 12 then
      (bif Nat.blt pc 9 then
        (bif Nat.beq pc 8 then some (.iconst 1, 0, 0, 0, 1) else none)
      else
        bif Nat.beq pc 9 then some (.goto 4, 13, 0, 0, 0) else none)
    else
      bif Nat.blt pc 13 then
        (bif Nat.beq pc 12 then some (.iconst 0, 0, 0, 0, 0) else none)
      else
        bif Nat.beq pc 13 then some (.ireturn, 0, 0, 1, 0) else none
def i_Row_hasRoomFor : Nat → Option Ent := ab_tab 14 t_Row_hasRoomFor
def h_Row_hasRoomFor (pc : Nat) : Nat × List Bool := (0, [])
def s_Row_hasRoomFor (pc : Nat) : List (Int32 × Nat) × Nat := ([], 0)
noncomputable def eV_Row_hasRoomFor : Nat → List AV → Mm → Option Mm := ab_ev []
noncomputable def eI_Row_hasRoomFor : Nat → List AV → Mm → Option (Int32 × Mm) := ab_ev [(6, c_Row_roomLeft)]
noncomputable def b_Row_hasRoomFor_0 (f : Nat) (v0 : Nat) (v1 : Int32) (m : Mm) : Option Rs := ab_ex KT none s_Row_hasRoomFor eV_Row_hasRoomFor eI_Row_hasRoomFor i_Row_hasRoomFor h_Row_hasRoomFor f 0 [some (.inr (.inr (4, some v0))), some (.inl v1)] [] m
set_option maxRecDepth 100000 in
set_option maxHeartbeats 4000000 in
theorem b_Row_hasRoomFor_0_eq (f : Nat) (v0 : Nat) (v1 : Int32) (m : Mm) : b_Row_hasRoomFor_0 (f + 1) v0 v1 m =
    (r_Row_roomLeft v0 m).bind fun z1 =>
    if z1.1 < v1 then
      (ab_bo (0 : Int32)).bind fun y2 => some (.inl (some (.inl y2), z1.2))
    else
      (ab_bo (1 : Int32)).bind fun y3 => some (.inl (some (.inl y3), z1.2)) := rfl
noncomputable def r_Row_hasRoomFor : Nat → Int32 → Mm → Option (Int32 × Mm) := ab_seal fun v0 v1 m => ab_rI (b_Row_hasRoomFor_0 50000 v0 v1 m)
theorem r_Row_hasRoomFor_eq (v0 : Nat) (v1 : Int32) (m : Mm) : r_Row_hasRoomFor v0 v1 m = ab_rI (b_Row_hasRoomFor_0 50000 v0 v1 m) := by
  unfold r_Row_hasRoomFor
  rw [ab_seal_eq]
noncomputable def c_Row_hasRoomFor : List AV → Mm → Option (Int32 × Mm) := fun av m => match av with
  | [.inr (.inr (kv0, ov0)), .inl v1] => if kv0 = 4 then (ov0.bind fun v0 => r_Row_hasRoomFor v0 v1 m) else none
  | _ => none
theorem c_Row_hasRoomFor_inv {av : List AV} {m : Mm} {r : Int32 × Mm} (h : c_Row_hasRoomFor av m = some r) : ∃ (v0 : Nat) (v1 : Int32), av = [.inr (.inr (4, some v0)), .inl v1] ∧ r_Row_hasRoomFor v0 v1 m = some r := by
  unfold c_Row_hasRoomFor at h
  split at h
  · rename_i kv0 ov0 v1
    by_cases hkv0 : kv0 = 4
    case neg => rw [if_neg hkv0] at h; cases h
    rw [if_pos hkv0] at h
    subst hkv0
    obtain ⟨v0, hev0, h⟩ := Option.bind_eq_some_iff.mp h
    subst hev0
    exact ⟨v0, v1, rfl, h⟩
  · cases h
def cs_Row_hasRoomFor : List Nat := [2]
set_option maxRecDepth 100000 in
theorem E_Row_hasRoomFor : ∀ (pc : Nat) (q : Ent), i_Row_hasRoomFor pc = some q → ab_E KT CL ab_gW "StreamTransport$Row" "hasRoomFor" (some .boolean) prog_9_method_5_code s_Row_hasRoomFor 2 pc q.1 q.2.1 q.2.2.1 q.2.2.2.1 q.2.2.2.2 := fun pc q hq =>
  ab_Eb_ok lc_Row lj_Row fl_Row (fpn_Row "hasRoomFor") nw_Row na_Row nq_Row (ab_tab_all (t := t_Row_hasRoomFor) (chk := fun pc q => ab_Eb (some .boolean) prog_9_method_5_code s_Row_hasRoomFor 2 LC_Row LJ_Row FL_Row FPn_Row NW_Row NA_Row NQ_Row pc q.1 q.2.1 q.2.2.1 q.2.2.2.1 q.2.2.2.2) (by decide +kernel) hq)
set_option maxRecDepth 100000 in
theorem kp_Row_hasRoomFor {av : List AV} {m : Mm} {r : Int32 × Mm} (h : c_Row_hasRoomFor av m = some r) : ab_kp m r.2 := by
  obtain ⟨v0, v1, -, h⟩ := c_Row_hasRoomFor_inv h
  rw [r_Row_hasRoomFor_eq] at h
  have hV : ∀ a av m m', eV_Row_hasRoomFor a av m = some m' → ab_kp m m' := ab_ev_all (P := fun _ m r => ab_kp m r) [] (fun q hq => by cases hq)
  have hI : ∀ a av m q, eI_Row_hasRoomFor a av m = some q → ab_kp m q.2 := ab_ev_all (P := fun _ (m : Mm) (r : Int32 × Mm) => ab_kp m r.2) [(6, c_Row_roomLeft)] (List.forall_mem_cons.mpr ⟨fun av m r h => kp_Row_roomLeft h, fun q hq => by cases hq⟩)
  exact ab_kprel (ρ := .inl (some (.inl r.1), r.2)) (ab_tab_isn (t := t_Row_hasRoomFor) (by decide +kernel)) hV hI (ab_rI_inv h)
set_option maxRecDepth 100000 in
theorem cl_Row_hasRoomFor (l : Launch) : ∀ (pc : Nat) (q : Ent), i_Row_hasRoomFor pc = some q → ab_inv q.1 = true → ab_CR l KT CL none ab_gW "StreamTransport$Row" prog_9_method_5_code 2 1 20 eV_Row_hasRoomFor eI_Row_hasRoomFor pc q := by
  intro pc q hq hi
  have hm : pc ∈ cs_Row_hasRoomFor := ab_tab_cs (t := t_Row_hasRoomFor) (by decide +kernel) hq hi
  simp only [cs_Row_hasRoomFor, List.mem_cons, List.not_mem_nil, or_false] at hm
  rcases hm with rfl
  · cases (Option.some.inj hq : ((.invokevirtual 30, 6, 1, 1, 0) : Ent) = q)
    exact ab_crV (C := "StreamTransport$Row") (by decide +kernel) cw_Row_roomLeft (ab_gW_in 511 (by decide +kernel) rfl) is_Row_roomLeft sl_Row_roomLeft (by decide) (fun av m m' h => by cases h) (fun av m r h => cm_Row_roomLeft l h) KT_nd
theorem cw_Row_hasRoomFor : ab_cw y_Row_hasRoomFor prog_9_method_5_code 2 1 (some .boolean) := ⟨ab_gW_in 510 (by decide +kernel) rfl, ab_gW_in 62 (by decide +kernel) rfl, by decide +kernel, by decide +kernel, by decide +kernel⟩
theorem is_Row_hasRoomFor : Cond.instanceMethod y_Row_hasRoomFor ∈ ab_gW := ab_gW_in 508 (by decide +kernel) rfl
theorem sl_Row_hasRoomFor : Cond.selects "StreamTransport$Row" y_Row_hasRoomFor y_Row_hasRoomFor ∈ ab_gW := ab_gW_in 509 (by decide +kernel) rfl
set_option maxRecDepth 100000 in
theorem cm_Row_hasRoomFor (l : Launch) {av : List AV} {m : Mm} {r : Int32 × Mm} (h0 : c_Row_hasRoomFor av m = some r) : ∃ (k q : Nat) (av' : List AV) (ci : Nat) (fs : List (Nat × Nat × Nat × Nat)) (z : vw_C), av = .inr (.inr (k, some q)) :: av' ∧ av'.length = 1 ∧ k ≠ 0 ∧ KT[k]? = some (.inl (ci, fs)) ∧ CL[ci]? = some z ∧ z.1 = "StreamTransport$Row" ∧ ab_nos av' ∧ ab_Met l KT CL y_Row_hasRoomFor (Cond.code y_Row_hasRoomFor prog_9_method_5_code 2 (some .boolean) :: ab_gW) 1 20 none av m (some (.inl r.1)) r.2 := by
  obtain ⟨v0, v1, hav, h⟩ := c_Row_hasRoomFor_inv h0
  rw [r_Row_hasRoomFor_eq] at h
  have hmo : ab_mo m r.2 := ab_kp_mo (kp_Row_hasRoomFor h0)
  subst hav
  exact ⟨_, _, _, _, _, _, rfl, rfl, by decide, rfl, rfl, rfl, (by intro v hv q e; subst e; simp at hv), ab_met (by decide +kernel) KT_0 KT_nd KT_k3 E_Row_hasRoomFor (cl_Row_hasRoomFor l) hmo (Nat.le_of_ble_eq_true rfl) (ab_rI_inv h) (fun v hv => by cases hv; exact ⟨_, rfl⟩)⟩
/-! StreamTransport$Row.put(I)V -/
def y_Row_put : MethodName := ⟨"StreamTransport$Row", "put", "(I)V"⟩
def t_Row_put (pc : Nat) : Option Ent :=
  bif Nat.blt pc 18 then
    (bif Nat.blt pc 9 then
      (bif Nat.blt pc 4 then
        (bif Nat.blt pc 1 then
          (bif Nat.beq pc 0 then some (.aload_n 0, 0, 0, 0, 0) else none)
        else
          bif Nat.beq pc 1 then some (.getfield 19, 7, 1, 0, 0) else none)
      else
        bif Nat.blt pc 6 then
          (bif Nat.beq pc 4 then some (.bipush 40, 0, 0, 0, 40) else none)
        else
          bif Nat.beq pc 6 then some (.if_icmp .ge (27), 33, 0, 0, 0) else none)
    else
      bif Nat.blt pc 13 then
        (bif Nat.blt pc 10 then
          (bif Nat.beq pc 9 then some (.aload_n 0, 0, 0, 0, 0) else none)
        else
          bif Nat.beq pc 10 then some (.getfield 9, 7, 0, 1, 0) else none)
      else
        bif Nat.blt pc 14 then
          (bif Nat.beq pc 13 then some (.aload_n 0, 0, 0, 0, 0) else none)
        else
          bif Nat.blt pc 17 then
            (bif Nat.beq pc 14 then some (.getfield 19, 7, 1, 0, 0) else none)
          else
            bif Nat.beq pc 17 then some (.iload_n 1, 1, 0, 0, 0) else none)
  else
    bif Nat.blt pc 25 then
      (bif Nat.blt pc 22 then
        (bif Nat.blt pc 21 then
          (bif Nat.beq pc 18 then some (.sipush 255, 0, 0, 0, 255) else none)
        else
          bif Nat.beq pc 21 then some (.iand, 0, 0, 0, 0) else none)
      else
        bif Nat.blt pc 23 then
          (bif Nat.beq pc 22 then some (.iastore, 0, 0, 0, 0) else none)
        else
          bif Nat.blt pc 24 then
            (bif Nat.beq pc 23 then some (.aload_n 0, 0, 0, 0, 0) else none)
          else
            bif Nat.beq pc 24 then some (.dup, 0, 0, 1, 0) else none)
    else
      bif Nat.blt pc 29 then
        (bif Nat.blt pc 28 then
          (bif Nat.beq pc 25 then some (.getfield 19, 7, 1, 0, 0) else none)
        else
          bif Nat.beq pc 28 then some (.iconst 1, 0, 0, 0, 1) else none)
      else
        bif Nat.blt pc 30 then
          (bif Nat.beq pc 29 then some (.iadd, 0, 0, 0, 0) else none)
        else
          bif Nat.blt pc 33 then
            (bif Nat.beq pc 30 then some (.putfield 19, 7, 1, 0, 0) else none)
          else
            bif Nat.beq pc 33 then some (.return_, 0, 0, 0, 0) else none
def i_Row_put : Nat → Option Ent := ab_tab 34 t_Row_put
def h_Row_put (pc : Nat) : Nat × List Bool := (0, [])
def s_Row_put (pc : Nat) : List (Int32 × Nat) × Nat := ([], 0)
noncomputable def eV_Row_put : Nat → List AV → Mm → Option Mm := ab_ev []
noncomputable def eI_Row_put : Nat → List AV → Mm → Option (Int32 × Mm) := ab_ev []
noncomputable def b_Row_put_0 (f : Nat) (v0 : Nat) (v1 : Int32) (m : Mm) : Option Rs := ab_ex KT none s_Row_put eV_Row_put eI_Row_put i_Row_put h_Row_put f 0 [some (.inr (.inr (4, some v0))), some (.inl v1)] [] m
set_option maxRecDepth 100000 in
set_option maxHeartbeats 4000000 in
theorem b_Row_put_0_eq (f : Nat) (v0 : Nat) (v1 : Int32) (m : Mm) : b_Row_put_0 (f + 1) v0 v1 m =
    if (40 : Int32) ≤ (m.1 11 v0 0) then
      some (.inl (none, m))
    else
      (ab_ix (m.1 11 v0 0) 40).bind fun i1 =>
      ab_let (ab_uI m 13 (v0 + 1) i1 (v1 &&& (255 : Int32))) fun m2 =>
      ab_let (ab_uI m2 11 v0 0 ((m2.1 11 v0 0) + (1 : Int32))) fun m3 =>
      some (.inl (none, m3)) := rfl
noncomputable def r_Row_put : Nat → Int32 → Mm → Option Mm := ab_seal fun v0 v1 m => ab_rV (b_Row_put_0 50000 v0 v1 m)
theorem r_Row_put_eq (v0 : Nat) (v1 : Int32) (m : Mm) : r_Row_put v0 v1 m = ab_rV (b_Row_put_0 50000 v0 v1 m) := by
  unfold r_Row_put
  rw [ab_seal_eq]
noncomputable def c_Row_put : List AV → Mm → Option Mm := fun av m => match av with
  | [.inr (.inr (kv0, ov0)), .inl v1] => if kv0 = 4 then (ov0.bind fun v0 => r_Row_put v0 v1 m) else none
  | _ => none
theorem c_Row_put_inv {av : List AV} {m : Mm} {r : Mm} (h : c_Row_put av m = some r) : ∃ (v0 : Nat) (v1 : Int32), av = [.inr (.inr (4, some v0)), .inl v1] ∧ r_Row_put v0 v1 m = some r := by
  unfold c_Row_put at h
  split at h
  · rename_i kv0 ov0 v1
    by_cases hkv0 : kv0 = 4
    case neg => rw [if_neg hkv0] at h; cases h
    rw [if_pos hkv0] at h
    subst hkv0
    obtain ⟨v0, hev0, h⟩ := Option.bind_eq_some_iff.mp h
    subst hev0
    exact ⟨v0, v1, rfl, h⟩
  · cases h
def cs_Row_put : List Nat := []
set_option maxRecDepth 100000 in
theorem E_Row_put : ∀ (pc : Nat) (q : Ent), i_Row_put pc = some q → ab_E KT CL ab_gW "StreamTransport$Row" "put" none prog_9_method_3_code s_Row_put 2 pc q.1 q.2.1 q.2.2.1 q.2.2.2.1 q.2.2.2.2 := fun pc q hq =>
  ab_Eb_ok lc_Row lj_Row fl_Row (fpn_Row "put") nw_Row na_Row nq_Row (ab_tab_all (t := t_Row_put) (chk := fun pc q => ab_Eb none prog_9_method_3_code s_Row_put 2 LC_Row LJ_Row FL_Row FPn_Row NW_Row NA_Row NQ_Row pc q.1 q.2.1 q.2.2.1 q.2.2.2.1 q.2.2.2.2) (by decide +kernel) hq)
set_option maxRecDepth 100000 in
theorem kp_Row_put {av : List AV} {m : Mm} {r : Mm} (h : c_Row_put av m = some r) : ab_kp m r := by
  obtain ⟨v0, v1, -, h⟩ := c_Row_put_inv h
  rw [r_Row_put_eq] at h
  have hV : ∀ a av m m', eV_Row_put a av m = some m' → ab_kp m m' := ab_ev_all (P := fun _ m r => ab_kp m r) [] (fun q hq => by cases hq)
  have hI : ∀ a av m q, eI_Row_put a av m = some q → ab_kp m q.2 := ab_ev_all (P := fun _ (m : Mm) (r : Int32 × Mm) => ab_kp m r.2) [] (fun q hq => by cases hq)
  exact ab_kprel (ρ := .inl (none, r)) (ab_tab_isn (t := t_Row_put) (by decide +kernel)) hV hI (ab_rV_inv h)
set_option maxRecDepth 100000 in
theorem cl_Row_put (l : Launch) : ∀ (pc : Nat) (q : Ent), i_Row_put pc = some q → ab_inv q.1 = true → ab_CR l KT CL none ab_gW "StreamTransport$Row" prog_9_method_3_code 2 0 0 eV_Row_put eI_Row_put pc q := by
  intro pc q hq hi
  have hm : pc ∈ cs_Row_put := ab_tab_cs (t := t_Row_put) (by decide +kernel) hq hi
  cases hm
theorem cw_Row_put : ab_cw y_Row_put prog_9_method_3_code 2 1 none := ⟨ab_gW_in 452 (by decide +kernel) rfl, ab_gW_in 62 (by decide +kernel) rfl, by decide +kernel, by decide +kernel, by decide +kernel⟩
theorem is_Row_put : Cond.instanceMethod y_Row_put ∈ ab_gW := ab_gW_in 450 (by decide +kernel) rfl
theorem sl_Row_put : Cond.selects "StreamTransport$Row" y_Row_put y_Row_put ∈ ab_gW := ab_gW_in 451 (by decide +kernel) rfl
set_option maxRecDepth 100000 in
theorem cm_Row_put (l : Launch) {av : List AV} {m : Mm} {r : Mm} (h0 : c_Row_put av m = some r) : ∃ (k q : Nat) (av' : List AV) (ci : Nat) (fs : List (Nat × Nat × Nat × Nat)) (z : vw_C), av = .inr (.inr (k, some q)) :: av' ∧ av'.length = 1 ∧ k ≠ 0 ∧ KT[k]? = some (.inl (ci, fs)) ∧ CL[ci]? = some z ∧ z.1 = "StreamTransport$Row" ∧ ab_nos av' ∧ ab_Met l KT CL y_Row_put (Cond.code y_Row_put prog_9_method_3_code 2 none :: ab_gW) 0 0 none av m none r := by
  obtain ⟨v0, v1, hav, h⟩ := c_Row_put_inv h0
  rw [r_Row_put_eq] at h
  have hmo : ab_mo m r := ab_kp_mo (kp_Row_put h0)
  subst hav
  exact ⟨_, _, _, _, _, _, rfl, rfl, by decide, rfl, rfl, rfl, (by intro v hv q e; subst e; simp at hv), ab_met (by decide +kernel) KT_0 KT_nd KT_k3 E_Row_put (cl_Row_put l) hmo (Nat.le_of_ble_eq_true rfl) (ab_rV_inv h) (fun v hv => by cases hv)⟩
/-! StreamTransport$Row.begin(II)V -/
def y_Row_begin : MethodName := ⟨"StreamTransport$Row", "begin", "(II)V"⟩
def t_Row_begin (pc : Nat) : Option Ent :=
  bif Nat.blt pc 10 then
    (bif Nat.blt pc 5 then
      (bif Nat.blt pc 1 then
        (bif Nat.beq pc 0 then some (.aload_n 0, 0, 0, 0, 0) else none)
      else
        bif Nat.blt pc 2 then
          (bif Nat.beq pc 1 then some (.iload_n 1, 1, 0, 0, 0) else none)
        else
          bif Nat.beq pc 2 then some (.putfield 15, 7, 2, 0, 0) else none)
    else
      bif Nat.blt pc 6 then
        (bif Nat.beq pc 5 then some (.aload_n 0, 0, 0, 0, 0) else none)
      else
        bif Nat.blt pc 7 then
          (bif Nat.beq pc 6 then some (.iconst 0, 0, 0, 0, 0) else none)
        else
          bif Nat.beq pc 7 then some (.putfield 19, 7, 1, 0, 0) else none)
  else
    bif Nat.blt pc 14 then
      (bif Nat.blt pc 11 then
        (bif Nat.beq pc 10 then some (.aload_n 0, 0, 0, 0, 0) else none)
      else
        bif Nat.blt pc 12 then
          (bif Nat.beq pc 11 then some (.iload_n 2, 2, 0, 0, 0) else none)
        else
          bif Nat.beq pc 12 then some (.bipush 16, 0, 0, 0, 16) else none)
    else
      bif Nat.blt pc 15 then
        (bif Nat.beq pc 14 then some (.irem, 0, 0, 0, 0) else none)
      else
        bif Nat.blt pc 18 then
          (bif Nat.beq pc 15 then some (.invokevirtual 22, 8, 2, 0, 0) else none)
        else
          bif Nat.beq pc 18 then some (.return_, 0, 0, 0, 0) else none
def i_Row_begin : Nat → Option Ent := ab_tab 19 t_Row_begin
def h_Row_begin (pc : Nat) : Nat × List Bool := (0, [])
def s_Row_begin (pc : Nat) : List (Int32 × Nat) × Nat := ([], 0)
noncomputable def eV_Row_begin : Nat → List AV → Mm → Option Mm := ab_ev [(8, c_Row_put)]
noncomputable def eI_Row_begin : Nat → List AV → Mm → Option (Int32 × Mm) := ab_ev []
noncomputable def b_Row_begin_0 (f : Nat) (v0 : Nat) (v1 : Int32) (v2 : Int32) (m : Mm) : Option Rs := ab_ex KT none s_Row_begin eV_Row_begin eI_Row_begin i_Row_begin h_Row_begin f 0 [some (.inr (.inr (4, some v0))), some (.inl v1), some (.inl v2)] [] m
set_option maxRecDepth 100000 in
set_option maxHeartbeats 4000000 in
theorem b_Row_begin_0_eq (f : Nat) (v0 : Nat) (v1 : Int32) (v2 : Int32) (m : Mm) : b_Row_begin_0 (f + 1) v0 v1 v2 m =
    ab_let (ab_uI m 12 v0 0 v1) fun m1 =>
    ab_let (ab_uI m1 11 v0 0 (0 : Int32)) fun m2 =>
    if (16 : Int32) = 0 then none else
    (r_Row_put v0 (v2 - v2 / (16 : Int32) * (16 : Int32)) m2).bind fun m3 =>
    some (.inl (none, m3)) := rfl
noncomputable def r_Row_begin : Nat → Int32 → Int32 → Mm → Option Mm := ab_seal fun v0 v1 v2 m => ab_rV (b_Row_begin_0 50000 v0 v1 v2 m)
theorem r_Row_begin_eq (v0 : Nat) (v1 : Int32) (v2 : Int32) (m : Mm) : r_Row_begin v0 v1 v2 m = ab_rV (b_Row_begin_0 50000 v0 v1 v2 m) := by
  unfold r_Row_begin
  rw [ab_seal_eq]
noncomputable def c_Row_begin : List AV → Mm → Option Mm := fun av m => match av with
  | [.inr (.inr (kv0, ov0)), .inl v1, .inl v2] => if kv0 = 4 then (ov0.bind fun v0 => r_Row_begin v0 v1 v2 m) else none
  | _ => none
theorem c_Row_begin_inv {av : List AV} {m : Mm} {r : Mm} (h : c_Row_begin av m = some r) : ∃ (v0 : Nat) (v1 : Int32) (v2 : Int32), av = [.inr (.inr (4, some v0)), .inl v1, .inl v2] ∧ r_Row_begin v0 v1 v2 m = some r := by
  unfold c_Row_begin at h
  split at h
  · rename_i kv0 ov0 v1 v2
    by_cases hkv0 : kv0 = 4
    case neg => rw [if_neg hkv0] at h; cases h
    rw [if_pos hkv0] at h
    subst hkv0
    obtain ⟨v0, hev0, h⟩ := Option.bind_eq_some_iff.mp h
    subst hev0
    exact ⟨v0, v1, v2, rfl, h⟩
  · cases h
def cs_Row_begin : List Nat := [15]
set_option maxRecDepth 100000 in
theorem E_Row_begin : ∀ (pc : Nat) (q : Ent), i_Row_begin pc = some q → ab_E KT CL ab_gW "StreamTransport$Row" "begin" none prog_9_method_2_code s_Row_begin 3 pc q.1 q.2.1 q.2.2.1 q.2.2.2.1 q.2.2.2.2 := fun pc q hq =>
  ab_Eb_ok lc_Row lj_Row fl_Row (fpn_Row "begin") nw_Row na_Row nq_Row (ab_tab_all (t := t_Row_begin) (chk := fun pc q => ab_Eb none prog_9_method_2_code s_Row_begin 3 LC_Row LJ_Row FL_Row FPn_Row NW_Row NA_Row NQ_Row pc q.1 q.2.1 q.2.2.1 q.2.2.2.1 q.2.2.2.2) (by decide +kernel) hq)
set_option maxRecDepth 100000 in
theorem kp_Row_begin {av : List AV} {m : Mm} {r : Mm} (h : c_Row_begin av m = some r) : ab_kp m r := by
  obtain ⟨v0, v1, v2, -, h⟩ := c_Row_begin_inv h
  rw [r_Row_begin_eq] at h
  have hV : ∀ a av m m', eV_Row_begin a av m = some m' → ab_kp m m' := ab_ev_all (P := fun _ m r => ab_kp m r) [(8, c_Row_put)] (List.forall_mem_cons.mpr ⟨fun av m r h => kp_Row_put h, fun q hq => by cases hq⟩)
  have hI : ∀ a av m q, eI_Row_begin a av m = some q → ab_kp m q.2 := ab_ev_all (P := fun _ (m : Mm) (r : Int32 × Mm) => ab_kp m r.2) [] (fun q hq => by cases hq)
  exact ab_kprel (ρ := .inl (none, r)) (ab_tab_isn (t := t_Row_begin) (by decide +kernel)) hV hI (ab_rV_inv h)
set_option maxRecDepth 100000 in
theorem cl_Row_begin (l : Launch) : ∀ (pc : Nat) (q : Ent), i_Row_begin pc = some q → ab_inv q.1 = true → ab_CR l KT CL none ab_gW "StreamTransport$Row" prog_9_method_2_code 3 1 21 eV_Row_begin eI_Row_begin pc q := by
  intro pc q hq hi
  have hm : pc ∈ cs_Row_begin := ab_tab_cs (t := t_Row_begin) (by decide +kernel) hq hi
  simp only [cs_Row_begin, List.mem_cons, List.not_mem_nil, or_false] at hm
  rcases hm with rfl
  · cases (Option.some.inj hq : ((.invokevirtual 22, 8, 2, 0, 0) : Ent) = q)
    exact ab_crV (C := "StreamTransport$Row") (by decide +kernel) cw_Row_put (ab_gW_in 449 (by decide +kernel) rfl) is_Row_put sl_Row_put (by decide) (fun av m m' h => cm_Row_put l h) (fun av m r h => by cases h) KT_nd
theorem cw_Row_begin : ab_cw y_Row_begin prog_9_method_2_code 3 2 none := ⟨ab_gW_in 448 (by decide +kernel) rfl, ab_gW_in 62 (by decide +kernel) rfl, by decide +kernel, by decide +kernel, by decide +kernel⟩
theorem is_Row_begin : Cond.instanceMethod y_Row_begin ∈ ab_gW := ab_gW_in 446 (by decide +kernel) rfl
theorem sl_Row_begin : Cond.selects "StreamTransport$Row" y_Row_begin y_Row_begin ∈ ab_gW := ab_gW_in 447 (by decide +kernel) rfl
set_option maxRecDepth 100000 in
theorem cm_Row_begin (l : Launch) {av : List AV} {m : Mm} {r : Mm} (h0 : c_Row_begin av m = some r) : ∃ (k q : Nat) (av' : List AV) (ci : Nat) (fs : List (Nat × Nat × Nat × Nat)) (z : vw_C), av = .inr (.inr (k, some q)) :: av' ∧ av'.length = 2 ∧ k ≠ 0 ∧ KT[k]? = some (.inl (ci, fs)) ∧ CL[ci]? = some z ∧ z.1 = "StreamTransport$Row" ∧ ab_nos av' ∧ ab_Met l KT CL y_Row_begin (Cond.code y_Row_begin prog_9_method_2_code 3 none :: ab_gW) 1 21 none av m none r := by
  obtain ⟨v0, v1, v2, hav, h⟩ := c_Row_begin_inv h0
  rw [r_Row_begin_eq] at h
  have hmo : ab_mo m r := ab_kp_mo (kp_Row_begin h0)
  subst hav
  exact ⟨_, _, _, _, _, _, rfl, rfl, by decide, rfl, rfl, rfl, (by intro v hv q e; subst e; simp at hv), ab_met (by decide +kernel) KT_0 KT_nd KT_k3 E_Row_begin (cl_Row_begin l) hmo (Nat.le_of_ble_eq_true rfl) (ab_rV_inv h) (fun v hv => by cases hv)⟩
/-! StreamTransport$Row.putNumber(I)V -/
def y_Row_putNumber : MethodName := ⟨"StreamTransport$Row", "putNumber", "(I)V"⟩
def t_Row_putNumber (pc : Nat) : Option Ent :=
  bif Nat.blt pc 34 then
    (bif Nat.blt pc 16 then
      (bif Nat.blt pc 7 then
        (bif Nat.blt pc 4 then
          (bif Nat.blt pc 1 then
            (bif Nat.beq pc 0 then some (.iload_n 1, 1, 0, 0, 0) else none)
          else
            bif Nat.beq pc 1 then some (.invokestatic 26, 4, 1, 1, 0) else none)
        else
          bif Nat.blt pc 5 then
            (bif Nat.beq pc 4 then some (.iconst 1, 0, 0, 0, 1) else none)
          else
            bif Nat.blt pc 6 then
              (bif Nat.beq pc 5 then some (.isub, 0, 0, 0, 0) else none)
            else
              bif Nat.beq pc 6 then some (.istore_n 2, 2, 0, 0, 0) else none)
      else
        bif Nat.blt pc 11 then
          (bif Nat.blt pc 8 then
            (bif Nat.beq pc 7 then some (.iload_n 2, 2, 0, 0, 0) else none)
          else
            bif Nat.beq pc 8 then some (.ifCond .ne (7), 15, 0, 0, 0) else none)
        else
          bif Nat.blt pc 12 then
            (bif Nat.beq pc 11 then some (.iconst 0, 0, 0, 0, 0) else none)
          else
            bif Nat.blt pc 15 then
              (bif Nat.beq pc 12 then some (.goto 16, 28, 0, 0, 0) else none)
            else
              bif Nat.beq pc 15 then some (.iload_n 2, 2, 0, 0, 0) else none)
    else
      bif Nat.blt pc 28 then
        (bif Nat.blt pc 20 then
          (bif Nat.blt pc 17 then
            (bif Nat.beq pc 16 then some (.iconst 1, 0, 0, 0, 1) else none)
          else
            bif Nat.beq pc 17 then some (.if_icmp .ne (8), 25, 0, 0, 0) else none)
        else
          bif Nat.blt pc 22 then
            (bif Nat.beq pc 20 then some (.bipush 64, 0, 0, 0, 64) else none)
          else
            bif Nat.blt pc 25 then
              (bif Nat.beq pc 22 then some (.goto 6, 28, 0, 0, 0) else none)
            else
              bif Nat.beq pc 25 then some (.sipush 128, 0, 0, 0, 128) else none)
      else
        bif Nat.blt pc 30 then
          (bif Nat.blt pc 29 then
            (bif Nat.beq pc 28 then some (.istore_n 3, 3, 0, 0, 0) else none)
          else
            bif Nat.beq pc 29 then some (.aload_n 0, 0, 0, 0, 0) else none)
        else
          bif Nat.blt pc 31 then
            (bif Nat.beq pc 30 then some (.iload_n 3, 3, 0, 0, 0) else none)
          else
            bif Nat.blt pc 32 then
              (bif Nat.beq pc 31 then some (.iload_n 1, 1, 0, 0, 0) else none)
            else
              bif Nat.beq pc 32 then some (.bipush 8, 0, 0, 0, 8) else none)
  else
    bif Nat.blt pc 48 then
      (bif Nat.blt pc 41 then
        (bif Nat.blt pc 36 then
          (bif Nat.blt pc 35 then
            (bif Nat.beq pc 34 then some (.iload_n 2, 2, 0, 0, 0) else none)
          else
            bif Nat.beq pc 35 then some (.imul, 0, 0, 0, 0) else none)
        else
          bif Nat.blt pc 37 then
            (bif Nat.beq pc 36 then some (.iushr, 0, 0, 0, 0) else none)
          else
            bif Nat.blt pc 38 then
              (bif Nat.beq pc 37 then some (.iadd, 0, 0, 0, 0) else none)
            else
              bif Nat.beq pc 38 then some (.invokevirtual 22, 8, 2, 0, 0) else none)
      else
        bif Nat.blt pc 43 then
          (bif Nat.blt pc 42 then
            (bif Nat.beq pc 41 then some (.iload_n 2, 2, 0, 0, 0) else none)
          else
            bif Nat.beq pc 42 then some (.iconst 1, 0, 0, 0, 1) else none)
        else
          bif Nat.blt pc 44 then
            (bif Nat.beq pc 43 then some (.isub, 0, 0, 0, 0) else none)
          else
            bif Nat.blt pc 46 then
              (bif Nat.beq pc 44 then some (.istore 4, 4, 0, 0, 0) else none)
            else
              bif Nat.beq pc 46 then some (.iload 4, 4, 0, 0, 0) else none)
    else
      bif Nat.blt pc 57 then
        (bif Nat.blt pc 52 then
          (bif Nat.blt pc 51 then
            (bif Nat.beq pc 48 then some (.ifCond .lt (20), 68, 0, 0, 0) else none)
          else
            bif Nat.beq pc 51 then some (.aload_n 0, 0, 0, 0, 0) else none)
        else
          bif Nat.blt pc 53 then
            (bif Nat.beq pc 52 then some (.iload_n 1, 1, 0, 0, 0) else none)
          else
            bif Nat.blt pc 55 then
              (bif Nat.beq pc 53 then some (.bipush 8, 0, 0, 0, 8) else none)
            else
              bif Nat.beq pc 55 then some (.iload 4, 4, 0, 0, 0) else none)
      else
        bif Nat.blt pc 62 then
          (bif Nat.blt pc 58 then
            (bif Nat.beq pc 57 then some (.imul, 0, 0, 0, 0) else none)
          else
            bif Nat.blt pc 59 then
              (bif Nat.beq pc 58 then some (.iushr, 0, 0, 0, 0) else none)
            else
              bif Nat.beq pc 59 then some (.invokevirtual 22, 8, 2, 0, 0) else none)
        else
          bif Nat.blt pc 65 then
            (bif Nat.beq pc 62 then some (.iinc 4 (-1), 4, 0, 0, -1) else none)
          else
            bif Nat.blt pc 68 then
              (bif Nat.beq pc 65 then some (.goto (-19), 46, 0, 0, 0) else none)
            else
              bif Nat.beq pc 68 then some (.return_, 0, 0, 0, 0) else none
def i_Row_putNumber : Nat → Option Ent := ab_tab 69 t_Row_putNumber
def h_Row_putNumber (pc : Nat) : Nat × List Bool := bif Nat.beq pc 28 then (1, [true, true, true, false, false]) else bif Nat.beq pc 46 then (1, [true, true, false, false, true]) else (0, [])
def s_Row_putNumber (pc : Nat) : List (Int32 × Nat) × Nat := ([], 0)
noncomputable def eV_Row_putNumber : Nat → List AV → Mm → Option Mm := ab_ev [(8, c_Row_put)]
noncomputable def eI_Row_putNumber : Nat → List AV → Mm → Option (Int32 × Mm) := ab_ev [(4, c_X_sizeOf)]
noncomputable def b_Row_putNumber_0 (f : Nat) (v0 : Nat) (v1 : Int32) (m : Mm) : Option Rs := ab_ex KT none s_Row_putNumber eV_Row_putNumber eI_Row_putNumber i_Row_putNumber h_Row_putNumber f 0 [some (.inr (.inr (4, some v0))), some (.inl v1), none, none, none] [] m
noncomputable def b_Row_putNumber_28 (f : Nat) (v0 : Nat) (v1 : Int32) (v2 : Int32) (u0 : Int32) (m : Mm) : Option Rs := ab_ex KT none s_Row_putNumber eV_Row_putNumber eI_Row_putNumber i_Row_putNumber h_Row_putNumber f 28 [some (.inr (.inr (4, some v0))), some (.inl v1), some (.inl v2), none, none] [.inl u0] m
noncomputable def b_Row_putNumber_46 (f : Nat) (v0 : Nat) (v1 : Int32) (v4 : Int32) (m : Mm) : Option Rs := ab_ex KT none s_Row_putNumber eV_Row_putNumber eI_Row_putNumber i_Row_putNumber h_Row_putNumber f 46 [some (.inr (.inr (4, some v0))), some (.inl v1), none, none, some (.inl v4)] [] m
set_option maxRecDepth 100000 in
set_option maxHeartbeats 4000000 in
theorem b_Row_putNumber_0_eq (f : Nat) (v0 : Nat) (v1 : Int32) (m : Mm) : b_Row_putNumber_0 (f + 1) v0 v1 m =
    (r_X_sizeOf v1 m).bind fun z1 =>
    ab_let ((z1.1 - (1 : Int32))) fun x2 =>
    if x2 = 0 then
      b_Row_putNumber_28 f v0 v1 x2 (0 : Int32) z1.2
    else
      if x2 = (1 : Int32) then
        b_Row_putNumber_28 f v0 v1 x2 (64 : Int32) z1.2
      else
        b_Row_putNumber_28 f v0 v1 x2 (128 : Int32) z1.2 := rfl
set_option maxRecDepth 100000 in
set_option maxHeartbeats 4000000 in
theorem b_Row_putNumber_28_eq (f : Nat) (v0 : Nat) (v1 : Int32) (v2 : Int32) (u0 : Int32) (m : Mm) : b_Row_putNumber_28 (f + 1) v0 v1 v2 u0 m =
    (r_Row_put v0 (u0 + ((v1).toUInt32 >>> ((((8 : Int32) * v2)).toUInt32 &&& Int32.toUInt32 31)).toInt32) m).bind fun m1 =>
    ab_let ((v2 - (1 : Int32))) fun x2 =>
    b_Row_putNumber_46 f v0 v1 x2 m1 := rfl
set_option maxRecDepth 100000 in
set_option maxHeartbeats 4000000 in
theorem b_Row_putNumber_46_eq (f : Nat) (v0 : Nat) (v1 : Int32) (v4 : Int32) (m : Mm) : b_Row_putNumber_46 (f + 1) v0 v1 v4 m =
    if v4 < 0 then
      some (.inl (none, m))
    else
      (r_Row_put v0 (((v1).toUInt32 >>> ((((8 : Int32) * v4)).toUInt32 &&& Int32.toUInt32 31)).toInt32) m).bind fun m1 =>
      ab_let (v4 + (-1 : Int32)) fun x2 =>
      b_Row_putNumber_46 f v0 v1 x2 m1 := rfl
noncomputable def r_Row_putNumber : Nat → Int32 → Mm → Option Mm := ab_seal fun v0 v1 m => ab_rV (b_Row_putNumber_0 50000 v0 v1 m)
theorem r_Row_putNumber_eq (v0 : Nat) (v1 : Int32) (m : Mm) : r_Row_putNumber v0 v1 m = ab_rV (b_Row_putNumber_0 50000 v0 v1 m) := by
  unfold r_Row_putNumber
  rw [ab_seal_eq]
noncomputable def c_Row_putNumber : List AV → Mm → Option Mm := fun av m => match av with
  | [.inr (.inr (kv0, ov0)), .inl v1] => if kv0 = 4 then (ov0.bind fun v0 => r_Row_putNumber v0 v1 m) else none
  | _ => none
theorem c_Row_putNumber_inv {av : List AV} {m : Mm} {r : Mm} (h : c_Row_putNumber av m = some r) : ∃ (v0 : Nat) (v1 : Int32), av = [.inr (.inr (4, some v0)), .inl v1] ∧ r_Row_putNumber v0 v1 m = some r := by
  unfold c_Row_putNumber at h
  split at h
  · rename_i kv0 ov0 v1
    by_cases hkv0 : kv0 = 4
    case neg => rw [if_neg hkv0] at h; cases h
    rw [if_pos hkv0] at h
    subst hkv0
    obtain ⟨v0, hev0, h⟩ := Option.bind_eq_some_iff.mp h
    subst hev0
    exact ⟨v0, v1, rfl, h⟩
  · cases h
def cs_Row_putNumber : List Nat := [1, 38, 59]
set_option maxRecDepth 100000 in
theorem E_Row_putNumber : ∀ (pc : Nat) (q : Ent), i_Row_putNumber pc = some q → ab_E KT CL ab_gW "StreamTransport$Row" "putNumber" none prog_9_method_4_code s_Row_putNumber 5 pc q.1 q.2.1 q.2.2.1 q.2.2.2.1 q.2.2.2.2 := fun pc q hq =>
  ab_Eb_ok lc_Row lj_Row fl_Row (fpn_Row "putNumber") nw_Row na_Row nq_Row (ab_tab_all (t := t_Row_putNumber) (chk := fun pc q => ab_Eb none prog_9_method_4_code s_Row_putNumber 5 LC_Row LJ_Row FL_Row FPn_Row NW_Row NA_Row NQ_Row pc q.1 q.2.1 q.2.2.1 q.2.2.2.1 q.2.2.2.2) (by decide +kernel) hq)
set_option maxRecDepth 100000 in
theorem kp_Row_putNumber {av : List AV} {m : Mm} {r : Mm} (h : c_Row_putNumber av m = some r) : ab_kp m r := by
  obtain ⟨v0, v1, -, h⟩ := c_Row_putNumber_inv h
  rw [r_Row_putNumber_eq] at h
  have hV : ∀ a av m m', eV_Row_putNumber a av m = some m' → ab_kp m m' := ab_ev_all (P := fun _ m r => ab_kp m r) [(8, c_Row_put)] (List.forall_mem_cons.mpr ⟨fun av m r h => kp_Row_put h, fun q hq => by cases hq⟩)
  have hI : ∀ a av m q, eI_Row_putNumber a av m = some q → ab_kp m q.2 := ab_ev_all (P := fun _ (m : Mm) (r : Int32 × Mm) => ab_kp m r.2) [(4, c_X_sizeOf)] (List.forall_mem_cons.mpr ⟨fun av m r h => kp_X_sizeOf h, fun q hq => by cases hq⟩)
  exact ab_kprel (ρ := .inl (none, r)) (ab_tab_isn (t := t_Row_putNumber) (by decide +kernel)) hV hI (ab_rV_inv h)
set_option maxRecDepth 100000 in
theorem cl_Row_putNumber (l : Launch) : ∀ (pc : Nat) (q : Ent), i_Row_putNumber pc = some q → ab_inv q.1 = true → ab_CR l KT CL none ab_gW "StreamTransport$Row" prog_9_method_4_code 5 1 21 eV_Row_putNumber eI_Row_putNumber pc q := by
  intro pc q hq hi
  have hm : pc ∈ cs_Row_putNumber := ab_tab_cs (t := t_Row_putNumber) (by decide +kernel) hq hi
  simp only [cs_Row_putNumber, List.mem_cons, List.not_mem_nil, or_false] at hm
  rcases hm with rfl | rfl | rfl
  · cases (Option.some.inj hq : ((.invokestatic 26, 4, 1, 1, 0) : Ent) = q)
    exact ab_crSN (by decide +kernel) cw_X_sizeOf (by decide +kernel) st_X_sizeOf (by decide) (fun av m m' h => by cases h) (fun av m r h => cm_X_sizeOf l h) KT_nd
  · cases (Option.some.inj hq : ((.invokevirtual 22, 8, 2, 0, 0) : Ent) = q)
    exact ab_crV (C := "StreamTransport$Row") (by decide +kernel) cw_Row_put (ab_gW_in 449 (by decide +kernel) rfl) is_Row_put sl_Row_put (by decide) (fun av m m' h => cm_Row_put l h) (fun av m r h => by cases h) KT_nd
  · cases (Option.some.inj hq : ((.invokevirtual 22, 8, 2, 0, 0) : Ent) = q)
    exact ab_crV (C := "StreamTransport$Row") (by decide +kernel) cw_Row_put (ab_gW_in 449 (by decide +kernel) rfl) is_Row_put sl_Row_put (by decide) (fun av m m' h => cm_Row_put l h) (fun av m r h => by cases h) KT_nd
theorem cw_Row_putNumber : ab_cw y_Row_putNumber prog_9_method_4_code 5 1 none := ⟨ab_gW_in 482 (by decide +kernel) rfl, ab_gW_in 62 (by decide +kernel) rfl, by decide +kernel, by decide +kernel, by decide +kernel⟩
theorem is_Row_putNumber : Cond.instanceMethod y_Row_putNumber ∈ ab_gW := ab_gW_in 480 (by decide +kernel) rfl
theorem sl_Row_putNumber : Cond.selects "StreamTransport$Row" y_Row_putNumber y_Row_putNumber ∈ ab_gW := ab_gW_in 481 (by decide +kernel) rfl
set_option maxRecDepth 100000 in
theorem cm_Row_putNumber (l : Launch) {av : List AV} {m : Mm} {r : Mm} (h0 : c_Row_putNumber av m = some r) : ∃ (k q : Nat) (av' : List AV) (ci : Nat) (fs : List (Nat × Nat × Nat × Nat)) (z : vw_C), av = .inr (.inr (k, some q)) :: av' ∧ av'.length = 1 ∧ k ≠ 0 ∧ KT[k]? = some (.inl (ci, fs)) ∧ CL[ci]? = some z ∧ z.1 = "StreamTransport$Row" ∧ ab_nos av' ∧ ab_Met l KT CL y_Row_putNumber (Cond.code y_Row_putNumber prog_9_method_4_code 5 none :: ab_gW) 1 21 none av m none r := by
  obtain ⟨v0, v1, hav, h⟩ := c_Row_putNumber_inv h0
  rw [r_Row_putNumber_eq] at h
  have hmo : ab_mo m r := ab_kp_mo (kp_Row_putNumber h0)
  subst hav
  exact ⟨_, _, _, _, _, _, rfl, rfl, by decide, rfl, rfl, rfl, (by intro v hv q e; subst e; simp at hv), ab_met (by decide +kernel) KT_0 KT_nd KT_k3 E_Row_putNumber (cl_Row_putNumber l) hmo (Nat.le_of_ble_eq_true rfl) (ab_rV_inv h) (fun v hv => by cases hv)⟩
/-! StreamTransport$Row.sealFor(II)I -/
def y_Row_sealFor : MethodName := ⟨"StreamTransport$Row", "sealFor", "(II)I"⟩
def t_Row_sealFor (pc : Nat) : Option Ent :=
  bif Nat.blt pc 24 then
    (bif Nat.blt pc 11 then
      (bif Nat.blt pc 6 then
        (bif Nat.blt pc 2 then
          (bif Nat.beq pc 0 then some (.ldc 38, 0, 0, 0, 40503) else none)
        else
          bif Nat.blt pc 3 then
            (bif Nat.beq pc 2 then some (.aload_n 0, 0, 0, 0, 0) else none)
          else
            bif Nat.beq pc 3 then some (.getfield 15, 7, 2, 0, 0) else none)
      else
        bif Nat.blt pc 8 then
          (bif Nat.blt pc 7 then
            (bif Nat.beq pc 6 then some (.iadd, 0, 0, 0, 0) else none)
          else
            bif Nat.beq pc 7 then some (.istore_n 3, 3, 0, 0, 0) else none)
        else
          bif Nat.blt pc 9 then
            (bif Nat.beq pc 8 then some (.iconst 0, 0, 0, 0, 0) else none)
          else
            bif Nat.beq pc 9 then some (.istore 4, 4, 0, 0, 0) else none)
    else
      bif Nat.blt pc 17 then
        (bif Nat.blt pc 13 then
          (bif Nat.beq pc 11 then some (.iload 4, 4, 0, 0, 0) else none)
        else
          bif Nat.blt pc 14 then
            (bif Nat.beq pc 13 then some (.iload_n 1, 1, 0, 0, 0) else none)
          else
            bif Nat.beq pc 14 then some (.if_icmp .ge (22), 36, 0, 0, 0) else none)
      else
        bif Nat.blt pc 19 then
          (bif Nat.blt pc 18 then
            (bif Nat.beq pc 17 then some (.iload_n 3, 3, 0, 0, 0) else none)
          else
            bif Nat.beq pc 18 then some (.aload_n 0, 0, 0, 0, 0) else none)
        else
          bif Nat.blt pc 22 then
            (bif Nat.beq pc 19 then some (.getfield 9, 7, 0, 1, 0) else none)
          else
            bif Nat.beq pc 22 then some (.iload 4, 4, 0, 0, 0) else none)
  else
    bif Nat.blt pc 36 then
      (bif Nat.blt pc 28 then
        (bif Nat.blt pc 25 then
          (bif Nat.beq pc 24 then some (.iaload, 0, 0, 0, 0) else none)
        else
          bif Nat.blt pc 26 then
            (bif Nat.beq pc 25 then some (.ixor, 0, 0, 0, 0) else none)
          else
            bif Nat.beq pc 26 then some (.ldc 39, 0, 0, 0, 16777619) else none)
      else
        bif Nat.blt pc 30 then
          (bif Nat.blt pc 29 then
            (bif Nat.beq pc 28 then some (.imul, 0, 0, 0, 0) else none)
          else
            bif Nat.beq pc 29 then some (.istore_n 3, 3, 0, 0, 0) else none)
        else
          bif Nat.blt pc 33 then
            (bif Nat.beq pc 30 then some (.iinc 4 1, 4, 0, 0, 1) else none)
          else
            bif Nat.beq pc 33 then some (.goto (-22), 11, 0, 0, 0) else none)
    else
      bif Nat.blt pc 41 then
        (bif Nat.blt pc 39 then
          (bif Nat.blt pc 37 then
            (bif Nat.beq pc 36 then some (.iload_n 3, 3, 0, 0, 0) else none)
          else
            bif Nat.beq pc 37 then some (.bipush 16, 0, 0, 0, 16) else none)
        else
          bif Nat.blt pc 40 then
            (bif Nat.beq pc 39 then some (.iushr, 0, 0, 0, 0) else none)
          else
            bif Nat.beq pc 40 then some (.iload_n 2, 2, 0, 0, 0) else none)
      else
        bif Nat.blt pc 44 then
          (bif Nat.blt pc 43 then
            (bif Nat.beq pc 41 then some (.ldc 40, 0, 0, 0, 65535) else none)
          else
            bif Nat.beq pc 43 then some (.iand, 0, 0, 0, 0) else none)
        else
          bif Nat.blt pc 45 then
            (bif Nat.beq pc 44 then some (.ixor, 0, 0, 0, 0) else none)
          else
            bif Nat.beq pc 45 then some (.ireturn, 0, 0, 0, 0) else none
def i_Row_sealFor : Nat → Option Ent := ab_tab 46 t_Row_sealFor
def h_Row_sealFor (pc : Nat) : Nat × List Bool := bif Nat.beq pc 11 then (1, [true, true, true, true, true]) else (0, [])
def s_Row_sealFor (pc : Nat) : List (Int32 × Nat) × Nat := ([], 0)
noncomputable def eV_Row_sealFor : Nat → List AV → Mm → Option Mm := ab_ev []
noncomputable def eI_Row_sealFor : Nat → List AV → Mm → Option (Int32 × Mm) := ab_ev []
noncomputable def b_Row_sealFor_0 (f : Nat) (v0 : Nat) (v1 : Int32) (v2 : Int32) (m : Mm) : Option Rs := ab_ex KT none s_Row_sealFor eV_Row_sealFor eI_Row_sealFor i_Row_sealFor h_Row_sealFor f 0 [some (.inr (.inr (4, some v0))), some (.inl v1), some (.inl v2), none, none] [] m
noncomputable def b_Row_sealFor_11 (f : Nat) (v0 : Nat) (v1 : Int32) (v2 : Int32) (v3 : Int32) (v4 : Int32) (m : Mm) : Option Rs := ab_ex KT none s_Row_sealFor eV_Row_sealFor eI_Row_sealFor i_Row_sealFor h_Row_sealFor f 11 [some (.inr (.inr (4, some v0))), some (.inl v1), some (.inl v2), some (.inl v3), some (.inl v4)] [] m
set_option maxRecDepth 100000 in
set_option maxHeartbeats 4000000 in
theorem b_Row_sealFor_0_eq (f : Nat) (v0 : Nat) (v1 : Int32) (v2 : Int32) (m : Mm) : b_Row_sealFor_0 (f + 1) v0 v1 v2 m =
    ab_let (((40503 : Int32) + (m.1 12 v0 0))) fun x1 =>
    b_Row_sealFor_11 f v0 v1 v2 x1 (0 : Int32) m := rfl
set_option maxRecDepth 100000 in
set_option maxHeartbeats 4000000 in
theorem b_Row_sealFor_11_eq (f : Nat) (v0 : Nat) (v1 : Int32) (v2 : Int32) (v3 : Int32) (v4 : Int32) (m : Mm) : b_Row_sealFor_11 (f + 1) v0 v1 v2 v3 v4 m =
    if v1 ≤ v4 then
      some (.inl (some (.inl (((v3).toUInt32 >>> (((16 : Int32)).toUInt32 &&& Int32.toUInt32 31)).toInt32 ^^^ (v2 &&& (65535 : Int32)))), m))
    else
      (ab_ix v4 40).bind fun i1 =>
      ab_let (((v3 ^^^ (m.1 13 (v0 + 1) i1)) * (16777619 : Int32))) fun x2 =>
      ab_let (v4 + (1 : Int32)) fun x3 =>
      b_Row_sealFor_11 f v0 v1 v2 x2 x3 m := rfl
noncomputable def r_Row_sealFor : Nat → Int32 → Int32 → Mm → Option (Int32 × Mm) := ab_seal fun v0 v1 v2 m => ab_rI (b_Row_sealFor_0 50000 v0 v1 v2 m)
theorem r_Row_sealFor_eq (v0 : Nat) (v1 : Int32) (v2 : Int32) (m : Mm) : r_Row_sealFor v0 v1 v2 m = ab_rI (b_Row_sealFor_0 50000 v0 v1 v2 m) := by
  unfold r_Row_sealFor
  rw [ab_seal_eq]
noncomputable def c_Row_sealFor : List AV → Mm → Option (Int32 × Mm) := fun av m => match av with
  | [.inr (.inr (kv0, ov0)), .inl v1, .inl v2] => if kv0 = 4 then (ov0.bind fun v0 => r_Row_sealFor v0 v1 v2 m) else none
  | _ => none
theorem c_Row_sealFor_inv {av : List AV} {m : Mm} {r : Int32 × Mm} (h : c_Row_sealFor av m = some r) : ∃ (v0 : Nat) (v1 : Int32) (v2 : Int32), av = [.inr (.inr (4, some v0)), .inl v1, .inl v2] ∧ r_Row_sealFor v0 v1 v2 m = some r := by
  unfold c_Row_sealFor at h
  split at h
  · rename_i kv0 ov0 v1 v2
    by_cases hkv0 : kv0 = 4
    case neg => rw [if_neg hkv0] at h; cases h
    rw [if_pos hkv0] at h
    subst hkv0
    obtain ⟨v0, hev0, h⟩ := Option.bind_eq_some_iff.mp h
    subst hev0
    exact ⟨v0, v1, v2, rfl, h⟩
  · cases h
def cs_Row_sealFor : List Nat := []
set_option maxRecDepth 100000 in
theorem E_Row_sealFor : ∀ (pc : Nat) (q : Ent), i_Row_sealFor pc = some q → ab_E KT CL ab_gW "StreamTransport$Row" "sealFor" (some .int) prog_9_method_9_code s_Row_sealFor 5 pc q.1 q.2.1 q.2.2.1 q.2.2.2.1 q.2.2.2.2 := fun pc q hq =>
  ab_Eb_ok lc_Row lj_Row fl_Row (fpn_Row "sealFor") nw_Row na_Row nq_Row (ab_tab_all (t := t_Row_sealFor) (chk := fun pc q => ab_Eb (some .int) prog_9_method_9_code s_Row_sealFor 5 LC_Row LJ_Row FL_Row FPn_Row NW_Row NA_Row NQ_Row pc q.1 q.2.1 q.2.2.1 q.2.2.2.1 q.2.2.2.2) (by decide +kernel) hq)
set_option maxRecDepth 100000 in
theorem kp_Row_sealFor {av : List AV} {m : Mm} {r : Int32 × Mm} (h : c_Row_sealFor av m = some r) : ab_kp m r.2 := by
  obtain ⟨v0, v1, v2, -, h⟩ := c_Row_sealFor_inv h
  rw [r_Row_sealFor_eq] at h
  have hV : ∀ a av m m', eV_Row_sealFor a av m = some m' → ab_kp m m' := ab_ev_all (P := fun _ m r => ab_kp m r) [] (fun q hq => by cases hq)
  have hI : ∀ a av m q, eI_Row_sealFor a av m = some q → ab_kp m q.2 := ab_ev_all (P := fun _ (m : Mm) (r : Int32 × Mm) => ab_kp m r.2) [] (fun q hq => by cases hq)
  exact ab_kprel (ρ := .inl (some (.inl r.1), r.2)) (ab_tab_isn (t := t_Row_sealFor) (by decide +kernel)) hV hI (ab_rI_inv h)
set_option maxRecDepth 100000 in
theorem cl_Row_sealFor (l : Launch) : ∀ (pc : Nat) (q : Ent), i_Row_sealFor pc = some q → ab_inv q.1 = true → ab_CR l KT CL none ab_gW "StreamTransport$Row" prog_9_method_9_code 5 0 0 eV_Row_sealFor eI_Row_sealFor pc q := by
  intro pc q hq hi
  have hm : pc ∈ cs_Row_sealFor := ab_tab_cs (t := t_Row_sealFor) (by decide +kernel) hq hi
  cases hm
theorem cw_Row_sealFor : ab_cw y_Row_sealFor prog_9_method_9_code 5 2 (some .int) := ⟨ab_gW_in 586 (by decide +kernel) rfl, ab_gW_in 62 (by decide +kernel) rfl, by decide +kernel, by decide +kernel, by decide +kernel⟩
theorem is_Row_sealFor : Cond.instanceMethod y_Row_sealFor ∈ ab_gW := ab_gW_in 585 (by decide +kernel) rfl
theorem sl_Row_sealFor : Cond.selects "StreamTransport$Row" y_Row_sealFor y_Row_sealFor ∈ ab_gW := ab_gW_in 10 (by decide +kernel) rfl
set_option maxRecDepth 100000 in
theorem cm_Row_sealFor (l : Launch) {av : List AV} {m : Mm} {r : Int32 × Mm} (h0 : c_Row_sealFor av m = some r) : ∃ (k q : Nat) (av' : List AV) (ci : Nat) (fs : List (Nat × Nat × Nat × Nat)) (z : vw_C), av = .inr (.inr (k, some q)) :: av' ∧ av'.length = 2 ∧ k ≠ 0 ∧ KT[k]? = some (.inl (ci, fs)) ∧ CL[ci]? = some z ∧ z.1 = "StreamTransport$Row" ∧ ab_nos av' ∧ ab_Met l KT CL y_Row_sealFor (Cond.code y_Row_sealFor prog_9_method_9_code 5 (some .int) :: ab_gW) 0 0 none av m (some (.inl r.1)) r.2 := by
  obtain ⟨v0, v1, v2, hav, h⟩ := c_Row_sealFor_inv h0
  rw [r_Row_sealFor_eq] at h
  have hmo : ab_mo m r.2 := ab_kp_mo (kp_Row_sealFor h0)
  subst hav
  exact ⟨_, _, _, _, _, _, rfl, rfl, by decide, rfl, rfl, rfl, (by intro v hv q e; subst e; simp at hv), ab_met (by decide +kernel) KT_0 KT_nd KT_k3 E_Row_sealFor (cl_Row_sealFor l) hmo (Nat.le_of_ble_eq_true rfl) (ab_rI_inv h) (fun v hv => by cases hv; exact ⟨_, rfl⟩)⟩
/-! StreamTransport$Row.seal(I)V -/
def y_Row_seal : MethodName := ⟨"StreamTransport$Row", "seal", "(I)V"⟩
def t_Row_seal (pc : Nat) : Option Ent :=
  bif Nat.blt pc 11 then
    (bif Nat.blt pc 5 then
      (bif Nat.blt pc 1 then
        (bif Nat.beq pc 0 then some (.aload_n 0, 0, 0, 0, 0) else none)
      else
        bif Nat.blt pc 2 then
          (bif Nat.beq pc 1 then some (.aload_n 0, 0, 0, 0, 0) else none)
        else
          bif Nat.beq pc 2 then some (.getfield 19, 7, 1, 0, 0) else none)
    else
      bif Nat.blt pc 9 then
        (bif Nat.blt pc 6 then
          (bif Nat.beq pc 5 then some (.iload_n 1, 1, 0, 0, 0) else none)
        else
          bif Nat.beq pc 6 then some (.invokevirtual 34, 11, 3, 1, 0) else none)
      else
        bif Nat.blt pc 10 then
          (bif Nat.beq pc 9 then some (.istore_n 2, 2, 0, 0, 0) else none)
        else
          bif Nat.beq pc 10 then some (.aload_n 0, 0, 0, 0, 0) else none)
  else
    bif Nat.blt pc 18 then
      (bif Nat.blt pc 14 then
        (bif Nat.blt pc 12 then
          (bif Nat.beq pc 11 then some (.iload_n 2, 2, 0, 0, 0) else none)
        else
          bif Nat.beq pc 12 then some (.bipush 8, 0, 0, 0, 8) else none)
      else
        bif Nat.blt pc 15 then
          (bif Nat.beq pc 14 then some (.iushr, 0, 0, 0, 0) else none)
        else
          bif Nat.beq pc 15 then some (.invokevirtual 22, 8, 2, 0, 0) else none)
    else
      bif Nat.blt pc 20 then
        (bif Nat.blt pc 19 then
          (bif Nat.beq pc 18 then some (.aload_n 0, 0, 0, 0, 0) else none)
        else
          bif Nat.beq pc 19 then some (.iload_n 2, 2, 0, 0, 0) else none)
      else
        bif Nat.blt pc 23 then
          (bif Nat.beq pc 20 then some (.invokevirtual 22, 8, 2, 0, 0) else none)
        else
          bif Nat.beq pc 23 then some (.return_, 0, 0, 0, 0) else none
def i_Row_seal : Nat → Option Ent := ab_tab 24 t_Row_seal
def h_Row_seal (pc : Nat) : Nat × List Bool := (0, [])
def s_Row_seal (pc : Nat) : List (Int32 × Nat) × Nat := ([], 0)
noncomputable def eV_Row_seal : Nat → List AV → Mm → Option Mm := ab_ev [(8, c_Row_put)]
noncomputable def eI_Row_seal : Nat → List AV → Mm → Option (Int32 × Mm) := ab_ev [(11, c_Row_sealFor)]
noncomputable def b_Row_seal_0 (f : Nat) (v0 : Nat) (v1 : Int32) (m : Mm) : Option Rs := ab_ex KT none s_Row_seal eV_Row_seal eI_Row_seal i_Row_seal h_Row_seal f 0 [some (.inr (.inr (4, some v0))), some (.inl v1), none] [] m
set_option maxRecDepth 100000 in
set_option maxHeartbeats 4000000 in
theorem b_Row_seal_0_eq (f : Nat) (v0 : Nat) (v1 : Int32) (m : Mm) : b_Row_seal_0 (f + 1) v0 v1 m =
    (r_Row_sealFor v0 (m.1 11 v0 0) v1 m).bind fun z1 =>
    (r_Row_put v0 (((z1.1).toUInt32 >>> (((8 : Int32)).toUInt32 &&& Int32.toUInt32 31)).toInt32) z1.2).bind fun m2 =>
    (r_Row_put v0 z1.1 m2).bind fun m3 =>
    some (.inl (none, m3)) := rfl
noncomputable def r_Row_seal : Nat → Int32 → Mm → Option Mm := ab_seal fun v0 v1 m => ab_rV (b_Row_seal_0 50000 v0 v1 m)
theorem r_Row_seal_eq (v0 : Nat) (v1 : Int32) (m : Mm) : r_Row_seal v0 v1 m = ab_rV (b_Row_seal_0 50000 v0 v1 m) := by
  unfold r_Row_seal
  rw [ab_seal_eq]
noncomputable def c_Row_seal : List AV → Mm → Option Mm := fun av m => match av with
  | [.inr (.inr (kv0, ov0)), .inl v1] => if kv0 = 4 then (ov0.bind fun v0 => r_Row_seal v0 v1 m) else none
  | _ => none
theorem c_Row_seal_inv {av : List AV} {m : Mm} {r : Mm} (h : c_Row_seal av m = some r) : ∃ (v0 : Nat) (v1 : Int32), av = [.inr (.inr (4, some v0)), .inl v1] ∧ r_Row_seal v0 v1 m = some r := by
  unfold c_Row_seal at h
  split at h
  · rename_i kv0 ov0 v1
    by_cases hkv0 : kv0 = 4
    case neg => rw [if_neg hkv0] at h; cases h
    rw [if_pos hkv0] at h
    subst hkv0
    obtain ⟨v0, hev0, h⟩ := Option.bind_eq_some_iff.mp h
    subst hev0
    exact ⟨v0, v1, rfl, h⟩
  · cases h
def cs_Row_seal : List Nat := [6, 15, 20]
set_option maxRecDepth 100000 in
theorem E_Row_seal : ∀ (pc : Nat) (q : Ent), i_Row_seal pc = some q → ab_E KT CL ab_gW "StreamTransport$Row" "seal" none prog_9_method_7_code s_Row_seal 3 pc q.1 q.2.1 q.2.2.1 q.2.2.2.1 q.2.2.2.2 := fun pc q hq =>
  ab_Eb_ok lc_Row lj_Row fl_Row (fpn_Row "seal") nw_Row na_Row nq_Row (ab_tab_all (t := t_Row_seal) (chk := fun pc q => ab_Eb none prog_9_method_7_code s_Row_seal 3 LC_Row LJ_Row FL_Row FPn_Row NW_Row NA_Row NQ_Row pc q.1 q.2.1 q.2.2.1 q.2.2.2.1 q.2.2.2.2) (by decide +kernel) hq)
set_option maxRecDepth 100000 in
theorem kp_Row_seal {av : List AV} {m : Mm} {r : Mm} (h : c_Row_seal av m = some r) : ab_kp m r := by
  obtain ⟨v0, v1, -, h⟩ := c_Row_seal_inv h
  rw [r_Row_seal_eq] at h
  have hV : ∀ a av m m', eV_Row_seal a av m = some m' → ab_kp m m' := ab_ev_all (P := fun _ m r => ab_kp m r) [(8, c_Row_put)] (List.forall_mem_cons.mpr ⟨fun av m r h => kp_Row_put h, fun q hq => by cases hq⟩)
  have hI : ∀ a av m q, eI_Row_seal a av m = some q → ab_kp m q.2 := ab_ev_all (P := fun _ (m : Mm) (r : Int32 × Mm) => ab_kp m r.2) [(11, c_Row_sealFor)] (List.forall_mem_cons.mpr ⟨fun av m r h => kp_Row_sealFor h, fun q hq => by cases hq⟩)
  exact ab_kprel (ρ := .inl (none, r)) (ab_tab_isn (t := t_Row_seal) (by decide +kernel)) hV hI (ab_rV_inv h)
set_option maxRecDepth 100000 in
theorem cl_Row_seal (l : Launch) : ∀ (pc : Nat) (q : Ent), i_Row_seal pc = some q → ab_inv q.1 = true → ab_CR l KT CL none ab_gW "StreamTransport$Row" prog_9_method_7_code 3 1 24 eV_Row_seal eI_Row_seal pc q := by
  intro pc q hq hi
  have hm : pc ∈ cs_Row_seal := ab_tab_cs (t := t_Row_seal) (by decide +kernel) hq hi
  simp only [cs_Row_seal, List.mem_cons, List.not_mem_nil, or_false] at hm
  rcases hm with rfl | rfl | rfl
  · cases (Option.some.inj hq : ((.invokevirtual 34, 11, 3, 1, 0) : Ent) = q)
    exact ab_crV (C := "StreamTransport$Row") (by decide +kernel) cw_Row_sealFor (ab_gW_in 583 (by decide +kernel) rfl) is_Row_sealFor sl_Row_sealFor (by decide) (fun av m m' h => by cases h) (fun av m r h => cm_Row_sealFor l h) KT_nd
  · cases (Option.some.inj hq : ((.invokevirtual 22, 8, 2, 0, 0) : Ent) = q)
    exact ab_crV (C := "StreamTransport$Row") (by decide +kernel) cw_Row_put (ab_gW_in 449 (by decide +kernel) rfl) is_Row_put sl_Row_put (by decide) (fun av m m' h => cm_Row_put l h) (fun av m r h => by cases h) KT_nd
  · cases (Option.some.inj hq : ((.invokevirtual 22, 8, 2, 0, 0) : Ent) = q)
    exact ab_crV (C := "StreamTransport$Row") (by decide +kernel) cw_Row_put (ab_gW_in 449 (by decide +kernel) rfl) is_Row_put sl_Row_put (by decide) (fun av m m' h => cm_Row_put l h) (fun av m r h => by cases h) KT_nd
theorem cw_Row_seal : ab_cw y_Row_seal prog_9_method_7_code 3 1 none := ⟨ab_gW_in 582 (by decide +kernel) rfl, ab_gW_in 62 (by decide +kernel) rfl, by decide +kernel, by decide +kernel, by decide +kernel⟩
theorem is_Row_seal : Cond.instanceMethod y_Row_seal ∈ ab_gW := ab_gW_in 580 (by decide +kernel) rfl
theorem sl_Row_seal : Cond.selects "StreamTransport$Row" y_Row_seal y_Row_seal ∈ ab_gW := ab_gW_in 581 (by decide +kernel) rfl
set_option maxRecDepth 100000 in
theorem cm_Row_seal (l : Launch) {av : List AV} {m : Mm} {r : Mm} (h0 : c_Row_seal av m = some r) : ∃ (k q : Nat) (av' : List AV) (ci : Nat) (fs : List (Nat × Nat × Nat × Nat)) (z : vw_C), av = .inr (.inr (k, some q)) :: av' ∧ av'.length = 1 ∧ k ≠ 0 ∧ KT[k]? = some (.inl (ci, fs)) ∧ CL[ci]? = some z ∧ z.1 = "StreamTransport$Row" ∧ ab_nos av' ∧ ab_Met l KT CL y_Row_seal (Cond.code y_Row_seal prog_9_method_7_code 3 none :: ab_gW) 1 24 none av m none r := by
  obtain ⟨v0, v1, hav, h⟩ := c_Row_seal_inv h0
  rw [r_Row_seal_eq] at h
  have hmo : ab_mo m r := ab_kp_mo (kp_Row_seal h0)
  subst hav
  exact ⟨_, _, _, _, _, _, rfl, rfl, by decide, rfl, rfl, rfl, (by intro v hv q e; subst e; simp at hv), ab_met (by decide +kernel) KT_0 KT_nd KT_k3 E_Row_seal (cl_Row_seal l) hmo (Nat.le_of_ble_eq_true rfl) (ab_rV_inv h) (fun v hv => by cases hv)⟩
/-! StreamTransport$Row.isSealedFor(I)Z -/
def y_Row_isSealedFor : MethodName := ⟨"StreamTransport$Row", "isSealedFor", "(I)Z"⟩
def t_Row_isSealedFor (pc : Nat) : Option Ent :=
  bif Nat.blt pc 26 then
    (bif Nat.blt pc 13 then
      (bif Nat.blt pc 6 then
        (bif Nat.blt pc 4 then
          (bif Nat.blt pc 1 then
            (bif Nat.beq pc 0 then some (.aload_n 0, 0, 0, 0, 0) else none)
          else
            bif Nat.beq pc 1 then some (.getfield 19, 7, 1, 0, 0) else none)
        else
          bif Nat.blt pc 5 then
            (bif Nat.beq pc 4 then some (.iconst 2, 0, 0, 0, 2) else none)
          else
            bif Nat.beq pc 5 then some (.isub, 0, 0, 0, 0) else none)
      else
        bif Nat.blt pc 8 then
          (bif Nat.blt pc 7 then
            (bif Nat.beq pc 6 then some (.istore_n 2, 2, 0, 0, 0) else none)
          else
            bif Nat.beq pc 7 then some (.iload_n 2, 2, 0, 0, 0) else none)
        else
          bif Nat.blt pc 11 then
            (bif Nat.beq pc 8 then some (.ifCond .ge (5), 13, 0, 0, 0) else none)
          else
            bif Nat.blt pc 12 then
              (bif Nat.beq pc 11 then some (.iconst 0, 0, 0, 0, 0) else none)
            else
              bif Nat.beq pc 12 then some (.ireturn, 0, 0, 1, 0) else none)
    else
      bif Nat.blt pc 19 then
        (bif Nat.blt pc 15 then
          (bif Nat.blt pc 14 then
            (bif Nat.beq pc 13 then some (.aload_n 0, 0, 0, 0, 0) else none)
          else
            bif Nat.beq pc 14 then some (.iload_n 2, 2, 0, 0, 0) else none)
        else
          bif Nat.blt pc 16 then
            (bif Nat.beq pc 15 then some (.iload_n 1, 1, 0, 0, 0) else none)
          else
            bif Nat.beq pc 16 then some (.invokevirtual 34, 11, 3, 1, 0) else none)
      else
        bif Nat.blt pc 21 then
          (bif Nat.blt pc 20 then
            (bif Nat.beq pc 19 then some (.istore_n 3, 3, 0, 0, 0) else none)
          else
            bif Nat.beq pc 20 then some (.aload_n 0, 0, 0, 0, 0) else none)
        else
          bif Nat.blt pc 24 then
            (bif Nat.beq pc 21 then some (.getfield 9, 7, 0, 1, 0) else none)
          else
            bif Nat.blt pc 25 then
              (bif Nat.beq pc 24 then some (.iload_n 2, 2, 0, 0, 0) else none)
            else
              bif Nat.beq pc 25 then some (.iaload, 0, 0, 0, 0) else none)
  else
    bif Nat.blt pc 40 then
      (bif Nat.blt pc 33 then
        (bif Nat.blt pc 29 then
          (bif Nat.blt pc 27 then
            (bif Nat.beq pc 26 then some (.iload_n 3, 3, 0, 0, 0) else none)
          else
            bif Nat.beq pc 27 then some (.bipush 8, 0, 0, 0, 8) else none)
        else
          bif Nat.blt pc 30 then
            (bif Nat.beq pc 29 then some (.iushr, 0, 0, 0, 0) else none)
          else
            bif Nat.beq pc 30 then some (.if_icmp .ne (23), 53, 0, 0, 0) else none)
      else
        bif Nat.blt pc 37 then
          (bif Nat.blt pc 34 then
            (bif Nat.beq pc 33 then some (.aload_n 0, 0, 0, 0, 0) else none)
          else
            bif Nat.beq pc 34 then some (.getfield 9, 7, 0, 1, 0) else none)
        else
          bif Nat.blt pc 38 then
            (bif Nat.beq pc 37 then some (.iload_n 2, 2, 0, 0, 0) else none)
          else
            bif Nat.blt pc 39 then
              (bif Nat.beq pc 38 then some (.iconst 1, 0, 0, 0, 1) else none)
            else
              bif Nat.beq pc 39 then some (.iadd, 0, 0, 0, 0) else none)
    else
      bif Nat.blt pc 46 then
        (bif Nat.blt pc 42 then
          (bif Nat.blt pc 41 then
            (bif Nat.beq pc 40 then some (.iaload, 0, 0, 0, 0) else none)
          else
            bif Nat.beq pc 41 then some (.iload_n 3, 3, 0, 0, 0) else none)
        else
          bif Nat.blt pc 45 then
            (bif Nat.beq pc 42 then some (.sipush 255, 0, 0, 0, 255) else none)
          else
            bif Nat.beq pc 45 then some (.iand, 0, 0, 0, 0) else none)
      else
        bif Nat.blt pc 50 then
          (bif Nat.blt pc 49 then
            (bif Nat.beq pc 46 then some (.if_icmp .ne (7), 53, 0, 0, 0) else none)
          else
            bif Nat.beq pc 49 then some (.iconst 1, 0, 0, 0, 1) else none)
        else
          bif Nat.blt pc 53 then
            (bif Nat.beq pc 50 then some (.goto 4, 54, 0, 0, 0) else none)
          else
            bif Nat.blt pc 54 then
              (bif Nat.beq pc 53 then some (.iconst 0, 0, 0, 0, 0) else none)
            else
              bif Nat.beq pc 54 then some (.ireturn, 0, 0, 1, 0) else none
def i_Row_isSealedFor : Nat → Option Ent := ab_tab 55 t_Row_isSealedFor
def h_Row_isSealedFor (pc : Nat) : Nat × List Bool := (0, [])
def s_Row_isSealedFor (pc : Nat) : List (Int32 × Nat) × Nat := ([], 0)
noncomputable def eV_Row_isSealedFor : Nat → List AV → Mm → Option Mm := ab_ev []
noncomputable def eI_Row_isSealedFor : Nat → List AV → Mm → Option (Int32 × Mm) := ab_ev [(11, c_Row_sealFor)]
noncomputable def b_Row_isSealedFor_0 (f : Nat) (v0 : Nat) (v1 : Int32) (m : Mm) : Option Rs := ab_ex KT none s_Row_isSealedFor eV_Row_isSealedFor eI_Row_isSealedFor i_Row_isSealedFor h_Row_isSealedFor f 0 [some (.inr (.inr (4, some v0))), some (.inl v1), none, none] [] m
set_option maxRecDepth 100000 in
set_option maxHeartbeats 4000000 in
theorem b_Row_isSealedFor_0_eq (f : Nat) (v0 : Nat) (v1 : Int32) (m : Mm) : b_Row_isSealedFor_0 (f + 1) v0 v1 m =
    ab_let (((m.1 11 v0 0) - (2 : Int32))) fun x1 =>
    if 0 ≤ x1 then
      (r_Row_sealFor v0 x1 v1 m).bind fun z2 =>
      (ab_ix x1 40).bind fun i3 =>
      if (z2.2.1 13 (v0 + 1) i3) = ((z2.1).toUInt32 >>> (((8 : Int32)).toUInt32 &&& Int32.toUInt32 31)).toInt32 then
        (ab_ix (x1 + (1 : Int32)) 40).bind fun i5 =>
        if (z2.2.1 13 (v0 + 1) i5) = (z2.1 &&& (255 : Int32)) then
          (ab_bo (1 : Int32)).bind fun y7 => some (.inl (some (.inl y7), z2.2))
        else
          (ab_bo (0 : Int32)).bind fun y6 => some (.inl (some (.inl y6), z2.2))
      else
        (ab_bo (0 : Int32)).bind fun y4 => some (.inl (some (.inl y4), z2.2))
    else
      (ab_bo (0 : Int32)).bind fun y8 => some (.inl (some (.inl y8), m)) := rfl
noncomputable def r_Row_isSealedFor : Nat → Int32 → Mm → Option (Int32 × Mm) := ab_seal fun v0 v1 m => ab_rI (b_Row_isSealedFor_0 50000 v0 v1 m)
theorem r_Row_isSealedFor_eq (v0 : Nat) (v1 : Int32) (m : Mm) : r_Row_isSealedFor v0 v1 m = ab_rI (b_Row_isSealedFor_0 50000 v0 v1 m) := by
  unfold r_Row_isSealedFor
  rw [ab_seal_eq]
noncomputable def c_Row_isSealedFor : List AV → Mm → Option (Int32 × Mm) := fun av m => match av with
  | [.inr (.inr (kv0, ov0)), .inl v1] => if kv0 = 4 then (ov0.bind fun v0 => r_Row_isSealedFor v0 v1 m) else none
  | _ => none
theorem c_Row_isSealedFor_inv {av : List AV} {m : Mm} {r : Int32 × Mm} (h : c_Row_isSealedFor av m = some r) : ∃ (v0 : Nat) (v1 : Int32), av = [.inr (.inr (4, some v0)), .inl v1] ∧ r_Row_isSealedFor v0 v1 m = some r := by
  unfold c_Row_isSealedFor at h
  split at h
  · rename_i kv0 ov0 v1
    by_cases hkv0 : kv0 = 4
    case neg => rw [if_neg hkv0] at h; cases h
    rw [if_pos hkv0] at h
    subst hkv0
    obtain ⟨v0, hev0, h⟩ := Option.bind_eq_some_iff.mp h
    subst hev0
    exact ⟨v0, v1, rfl, h⟩
  · cases h
def cs_Row_isSealedFor : List Nat := [16]
set_option maxRecDepth 100000 in
theorem E_Row_isSealedFor : ∀ (pc : Nat) (q : Ent), i_Row_isSealedFor pc = some q → ab_E KT CL ab_gW "StreamTransport$Row" "isSealedFor" (some .boolean) prog_9_method_8_code s_Row_isSealedFor 4 pc q.1 q.2.1 q.2.2.1 q.2.2.2.1 q.2.2.2.2 := fun pc q hq =>
  ab_Eb_ok lc_Row lj_Row fl_Row (fpn_Row "isSealedFor") nw_Row na_Row nq_Row (ab_tab_all (t := t_Row_isSealedFor) (chk := fun pc q => ab_Eb (some .boolean) prog_9_method_8_code s_Row_isSealedFor 4 LC_Row LJ_Row FL_Row FPn_Row NW_Row NA_Row NQ_Row pc q.1 q.2.1 q.2.2.1 q.2.2.2.1 q.2.2.2.2) (by decide +kernel) hq)
set_option maxRecDepth 100000 in
theorem kp_Row_isSealedFor {av : List AV} {m : Mm} {r : Int32 × Mm} (h : c_Row_isSealedFor av m = some r) : ab_kp m r.2 := by
  obtain ⟨v0, v1, -, h⟩ := c_Row_isSealedFor_inv h
  rw [r_Row_isSealedFor_eq] at h
  have hV : ∀ a av m m', eV_Row_isSealedFor a av m = some m' → ab_kp m m' := ab_ev_all (P := fun _ m r => ab_kp m r) [] (fun q hq => by cases hq)
  have hI : ∀ a av m q, eI_Row_isSealedFor a av m = some q → ab_kp m q.2 := ab_ev_all (P := fun _ (m : Mm) (r : Int32 × Mm) => ab_kp m r.2) [(11, c_Row_sealFor)] (List.forall_mem_cons.mpr ⟨fun av m r h => kp_Row_sealFor h, fun q hq => by cases hq⟩)
  exact ab_kprel (ρ := .inl (some (.inl r.1), r.2)) (ab_tab_isn (t := t_Row_isSealedFor) (by decide +kernel)) hV hI (ab_rI_inv h)
set_option maxRecDepth 100000 in
theorem cl_Row_isSealedFor (l : Launch) : ∀ (pc : Nat) (q : Ent), i_Row_isSealedFor pc = some q → ab_inv q.1 = true → ab_CR l KT CL none ab_gW "StreamTransport$Row" prog_9_method_8_code 4 1 24 eV_Row_isSealedFor eI_Row_isSealedFor pc q := by
  intro pc q hq hi
  have hm : pc ∈ cs_Row_isSealedFor := ab_tab_cs (t := t_Row_isSealedFor) (by decide +kernel) hq hi
  simp only [cs_Row_isSealedFor, List.mem_cons, List.not_mem_nil, or_false] at hm
  rcases hm with rfl
  · cases (Option.some.inj hq : ((.invokevirtual 34, 11, 3, 1, 0) : Ent) = q)
    exact ab_crV (C := "StreamTransport$Row") (by decide +kernel) cw_Row_sealFor (ab_gW_in 583 (by decide +kernel) rfl) is_Row_sealFor sl_Row_sealFor (by decide) (fun av m m' h => by cases h) (fun av m r h => cm_Row_sealFor l h) KT_nd
theorem cw_Row_isSealedFor : ab_cw y_Row_isSealedFor prog_9_method_8_code 4 1 (some .boolean) := ⟨ab_gW_in 629 (by decide +kernel) rfl, ab_gW_in 62 (by decide +kernel) rfl, by decide +kernel, by decide +kernel, by decide +kernel⟩
theorem is_Row_isSealedFor : Cond.instanceMethod y_Row_isSealedFor ∈ ab_gW := ab_gW_in 627 (by decide +kernel) rfl
theorem sl_Row_isSealedFor : Cond.selects "StreamTransport$Row" y_Row_isSealedFor y_Row_isSealedFor ∈ ab_gW := ab_gW_in 628 (by decide +kernel) rfl
set_option maxRecDepth 100000 in
theorem cm_Row_isSealedFor (l : Launch) {av : List AV} {m : Mm} {r : Int32 × Mm} (h0 : c_Row_isSealedFor av m = some r) : ∃ (k q : Nat) (av' : List AV) (ci : Nat) (fs : List (Nat × Nat × Nat × Nat)) (z : vw_C), av = .inr (.inr (k, some q)) :: av' ∧ av'.length = 1 ∧ k ≠ 0 ∧ KT[k]? = some (.inl (ci, fs)) ∧ CL[ci]? = some z ∧ z.1 = "StreamTransport$Row" ∧ ab_nos av' ∧ ab_Met l KT CL y_Row_isSealedFor (Cond.code y_Row_isSealedFor prog_9_method_8_code 4 (some .boolean) :: ab_gW) 1 24 none av m (some (.inl r.1)) r.2 := by
  obtain ⟨v0, v1, hav, h⟩ := c_Row_isSealedFor_inv h0
  rw [r_Row_isSealedFor_eq] at h
  have hmo : ab_mo m r.2 := ab_kp_mo (kp_Row_isSealedFor h0)
  subst hav
  exact ⟨_, _, _, _, _, _, rfl, rfl, by decide, rfl, rfl, rfl, (by intro v hv q e; subst e; simp at hv), ab_met (by decide +kernel) KT_0 KT_nd KT_k3 E_Row_isSealedFor (cl_Row_isSealedFor l) hmo (Nat.le_of_ble_eq_true rfl) (ab_rI_inv h) (fun v hv => by cases hv; exact ⟨_, rfl⟩)⟩
/-! StreamTransport$Row.fullNumber(I)I -/
def y_Row_fullNumber : MethodName := ⟨"StreamTransport$Row", "fullNumber", "(I)I"⟩
def t_Row_fullNumber (pc : Nat) : Option Ent :=
  bif Nat.blt pc 35 then
    (bif Nat.blt pc 19 then
      (bif Nat.blt pc 9 then
        (bif Nat.blt pc 4 then
          (bif Nat.blt pc 1 then
            (bif Nat.beq pc 0 then some (.aload_n 0, 0, 0, 0, 0) else none)
          else
            bif Nat.beq pc 1 then some (.getfield 19, 7, 1, 0, 0) else none)
        else
          bif Nat.blt pc 5 then
            (bif Nat.beq pc 4 then some (.iconst 3, 0, 0, 0, 3) else none)
          else
            bif Nat.blt pc 8 then
              (bif Nat.beq pc 5 then some (.if_icmp .lt (14), 19, 0, 0, 0) else none)
            else
              bif Nat.beq pc 8 then some (.aload_n 0, 0, 0, 0, 0) else none)
      else
        bif Nat.blt pc 13 then
          (bif Nat.blt pc 12 then
            (bif Nat.beq pc 9 then some (.getfield 9, 7, 0, 1, 0) else none)
          else
            bif Nat.beq pc 12 then some (.iconst 0, 0, 0, 0, 0) else none)
        else
          bif Nat.blt pc 14 then
            (bif Nat.beq pc 13 then some (.iaload, 0, 0, 0, 0) else none)
          else
            bif Nat.blt pc 16 then
              (bif Nat.beq pc 14 then some (.bipush 16, 0, 0, 0, 16) else none)
            else
              bif Nat.beq pc 16 then some (.if_icmp .lt (5), 21, 0, 0, 0) else none)
    else
      bif Nat.blt pc 26 then
        (bif Nat.blt pc 21 then
          (bif Nat.blt pc 20 then
            (bif Nat.beq pc 19 then some (.iconst (-1), 0, 0, 0, -1) else none)
          else
            bif Nat.beq pc 20 then some (.ireturn, 0, 0, 0, 0) else none)
        else
          bif Nat.blt pc 22 then
            (bif Nat.beq pc 21 then some (.iload_n 1, 1, 0, 0, 0) else none)
          else
            bif Nat.blt pc 23 then
              (bif Nat.beq pc 22 then some (.aload_n 0, 0, 0, 0, 0) else none)
            else
              bif Nat.beq pc 23 then some (.getfield 9, 7, 0, 1, 0) else none)
      else
        bif Nat.blt pc 29 then
          (bif Nat.blt pc 27 then
            (bif Nat.beq pc 26 then some (.iconst 0, 0, 0, 0, 0) else none)
          else
            bif Nat.blt pc 28 then
              (bif Nat.beq pc 27 then some (.iaload, 0, 0, 0, 0) else none)
            else
              bif Nat.beq pc 28 then some (.isub, 0, 0, 0, 0) else none)
        else
          bif Nat.blt pc 31 then
            (bif Nat.beq pc 29 then some (.bipush 16, 0, 0, 0, 16) else none)
          else
            bif Nat.blt pc 34 then
              (bif Nat.beq pc 31 then some (.invokestatic 41, 3, 2, 1, 0) else none)
            else
              bif Nat.beq pc 34 then some (.istore_n 2, 2, 0, 0, 0) else none)
  else
    bif Nat.blt pc 50 then
      (bif Nat.blt pc 40 then
        (bif Nat.blt pc 37 then
          (bif Nat.blt pc 36 then
            (bif Nat.beq pc 35 then some (.iload_n 1, 1, 0, 0, 0) else none)
          else
            bif Nat.beq pc 36 then some (.iload_n 2, 2, 0, 0, 0) else none)
        else
          bif Nat.blt pc 38 then
            (bif Nat.beq pc 37 then some (.isub, 0, 0, 0, 0) else none)
          else
            bif Nat.blt pc 39 then
              (bif Nat.beq pc 38 then some (.istore_n 3, 3, 0, 0, 0) else none)
            else
              bif Nat.beq pc 39 then some (.iload_n 2, 2, 0, 0, 0) else none)
      else
        bif Nat.blt pc 45 then
          (bif Nat.blt pc 42 then
            (bif Nat.beq pc 40 then some (.bipush 8, 0, 0, 0, 8) else none)
          else
            bif Nat.beq pc 42 then some (.if_icmp .lt (7), 49, 0, 0, 0) else none)
        else
          bif Nat.blt pc 46 then
            (bif Nat.beq pc 45 then some (.iconst 1, 0, 0, 0, 1) else none)
          else
            bif Nat.blt pc 49 then
              (bif Nat.beq pc 46 then some (.goto 4, 50, 0, 0, 0) else none)
            else
              bif Nat.beq pc 49 then some (.iconst 0, 0, 0, 0, 0) else none)
    else
      bif Nat.blt pc 61 then
        (bif Nat.blt pc 54 then
          (bif Nat.blt pc 52 then
            (bif Nat.beq pc 50 then some (.istore 4, 4, 0, 0, 0) else none)
          else
            bif Nat.beq pc 52 then some (.iload 4, 4, 0, 0, 0) else none)
        else
          bif Nat.blt pc 57 then
            (bif Nat.beq pc 54 then some (.ifCond .ne (7), 61, 0, 0, 0) else none)
          else
            bif Nat.blt pc 58 then
              (bif Nat.beq pc 57 then some (.iload_n 3, 3, 0, 0, 0) else none)
            else
              bif Nat.beq pc 58 then some (.ifCond .ge (10), 68, 0, 0, 0) else none)
      else
        bif Nat.blt pc 65 then
          (bif Nat.blt pc 62 then
            (bif Nat.beq pc 61 then some (.iload_n 3, 3, 0, 0, 0) else none)
          else
            bif Nat.blt pc 64 then
              (bif Nat.beq pc 62 then some (.bipush 16, 0, 0, 0, 16) else none)
            else
              bif Nat.beq pc 64 then some (.iadd, 0, 0, 0, 0) else none)
        else
          bif Nat.blt pc 68 then
            (bif Nat.beq pc 65 then some (.goto 4, 69, 0, 0, 0) else none)
          else
            bif Nat.blt pc 69 then
              (bif Nat.beq pc 68 then some (.iload_n 3, 3, 0, 0, 0) else none)
            else
              bif Nat.beq pc 69 then some (.ireturn, 0, 0, 0, 0) else none
def i_Row_fullNumber : Nat → Option Ent := ab_tab 70 t_Row_fullNumber
def h_Row_fullNumber (pc : Nat) : Nat × List Bool := bif Nat.beq pc 50 then (1, [false, false, false, true, false]) else bif Nat.beq pc 61 then (1, [false, false, false, true, false]) else (0, [])
def s_Row_fullNumber (pc : Nat) : List (Int32 × Nat) × Nat := ([], 0)
noncomputable def eV_Row_fullNumber : Nat → List AV → Mm → Option Mm := ab_ev []
noncomputable def eI_Row_fullNumber : Nat → List AV → Mm → Option (Int32 × Mm) := ab_ev [(3, c_Math_floorMod)]
noncomputable def b_Row_fullNumber_0 (f : Nat) (v0 : Nat) (v1 : Int32) (m : Mm) : Option Rs := ab_ex KT none s_Row_fullNumber eV_Row_fullNumber eI_Row_fullNumber i_Row_fullNumber h_Row_fullNumber f 0 [some (.inr (.inr (4, some v0))), some (.inl v1), none, none, none] [] m
noncomputable def b_Row_fullNumber_50 (f : Nat) (v3 : Int32) (u0 : Int32) (m : Mm) : Option Rs := ab_ex KT none s_Row_fullNumber eV_Row_fullNumber eI_Row_fullNumber i_Row_fullNumber h_Row_fullNumber f 50 [none, none, none, some (.inl v3), none] [.inl u0] m
noncomputable def b_Row_fullNumber_61 (f : Nat) (v3 : Int32) (m : Mm) : Option Rs := ab_ex KT none s_Row_fullNumber eV_Row_fullNumber eI_Row_fullNumber i_Row_fullNumber h_Row_fullNumber f 61 [none, none, none, some (.inl v3), none] [] m
set_option maxRecDepth 100000 in
set_option maxHeartbeats 4000000 in
theorem b_Row_fullNumber_0_eq (f : Nat) (v0 : Nat) (v1 : Int32) (m : Mm) : b_Row_fullNumber_0 (f + 1) v0 v1 m =
    if (m.1 11 v0 0) < (3 : Int32) then
      some (.inl (some (.inl (-1 : Int32)), m))
    else
      (ab_ix (0 : Int32) 40).bind fun i1 =>
      if (m.1 13 (v0 + 1) i1) < (16 : Int32) then
        (ab_ix (0 : Int32) 40).bind fun i2 =>
        (r_Math_floorMod (v1 - (m.1 13 (v0 + 1) i2)) (16 : Int32) m).bind fun z3 =>
        ab_let ((v1 - z3.1)) fun x4 =>
        if z3.1 < (8 : Int32) then
          b_Row_fullNumber_50 f x4 (0 : Int32) z3.2
        else
          b_Row_fullNumber_50 f x4 (1 : Int32) z3.2
      else
        some (.inl (some (.inl (-1 : Int32)), m)) := rfl
set_option maxRecDepth 100000 in
set_option maxHeartbeats 4000000 in
theorem b_Row_fullNumber_50_eq (f : Nat) (v3 : Int32) (u0 : Int32) (m : Mm) : b_Row_fullNumber_50 (f + 1) v3 u0 m =
    if u0 = 0 then
      if 0 ≤ v3 then
        some (.inl (some (.inl v3), m))
      else
        b_Row_fullNumber_61 f v3 m
    else
      b_Row_fullNumber_61 f v3 m := rfl
set_option maxRecDepth 100000 in
set_option maxHeartbeats 4000000 in
theorem b_Row_fullNumber_61_eq (f : Nat) (v3 : Int32) (m : Mm) : b_Row_fullNumber_61 (f + 1) v3 m =
    some (.inl (some (.inl (v3 + (16 : Int32))), m)) := rfl
noncomputable def r_Row_fullNumber : Nat → Int32 → Mm → Option (Int32 × Mm) := ab_seal fun v0 v1 m => ab_rI (b_Row_fullNumber_0 50000 v0 v1 m)
theorem r_Row_fullNumber_eq (v0 : Nat) (v1 : Int32) (m : Mm) : r_Row_fullNumber v0 v1 m = ab_rI (b_Row_fullNumber_0 50000 v0 v1 m) := by
  unfold r_Row_fullNumber
  rw [ab_seal_eq]
noncomputable def c_Row_fullNumber : List AV → Mm → Option (Int32 × Mm) := fun av m => match av with
  | [.inr (.inr (kv0, ov0)), .inl v1] => if kv0 = 4 then (ov0.bind fun v0 => r_Row_fullNumber v0 v1 m) else none
  | _ => none
theorem c_Row_fullNumber_inv {av : List AV} {m : Mm} {r : Int32 × Mm} (h : c_Row_fullNumber av m = some r) : ∃ (v0 : Nat) (v1 : Int32), av = [.inr (.inr (4, some v0)), .inl v1] ∧ r_Row_fullNumber v0 v1 m = some r := by
  unfold c_Row_fullNumber at h
  split at h
  · rename_i kv0 ov0 v1
    by_cases hkv0 : kv0 = 4
    case neg => rw [if_neg hkv0] at h; cases h
    rw [if_pos hkv0] at h
    subst hkv0
    obtain ⟨v0, hev0, h⟩ := Option.bind_eq_some_iff.mp h
    subst hev0
    exact ⟨v0, v1, rfl, h⟩
  · cases h
def cs_Row_fullNumber : List Nat := [31]
set_option maxRecDepth 100000 in
theorem E_Row_fullNumber : ∀ (pc : Nat) (q : Ent), i_Row_fullNumber pc = some q → ab_E KT CL ab_gW "StreamTransport$Row" "fullNumber" (some .int) prog_9_method_10_code s_Row_fullNumber 5 pc q.1 q.2.1 q.2.2.1 q.2.2.2.1 q.2.2.2.2 := fun pc q hq =>
  ab_Eb_ok lc_Row lj_Row fl_Row (fpn_Row "fullNumber") nw_Row na_Row nq_Row (ab_tab_all (t := t_Row_fullNumber) (chk := fun pc q => ab_Eb (some .int) prog_9_method_10_code s_Row_fullNumber 5 LC_Row LJ_Row FL_Row FPn_Row NW_Row NA_Row NQ_Row pc q.1 q.2.1 q.2.2.1 q.2.2.2.1 q.2.2.2.2) (by decide +kernel) hq)
set_option maxRecDepth 100000 in
theorem kp_Row_fullNumber {av : List AV} {m : Mm} {r : Int32 × Mm} (h : c_Row_fullNumber av m = some r) : ab_kp m r.2 := by
  obtain ⟨v0, v1, -, h⟩ := c_Row_fullNumber_inv h
  rw [r_Row_fullNumber_eq] at h
  have hV : ∀ a av m m', eV_Row_fullNumber a av m = some m' → ab_kp m m' := ab_ev_all (P := fun _ m r => ab_kp m r) [] (fun q hq => by cases hq)
  have hI : ∀ a av m q, eI_Row_fullNumber a av m = some q → ab_kp m q.2 := ab_ev_all (P := fun _ (m : Mm) (r : Int32 × Mm) => ab_kp m r.2) [(3, c_Math_floorMod)] (List.forall_mem_cons.mpr ⟨fun av m r h => kp_Math_floorMod h, fun q hq => by cases hq⟩)
  exact ab_kprel (ρ := .inl (some (.inl r.1), r.2)) (ab_tab_isn (t := t_Row_fullNumber) (by decide +kernel)) hV hI (ab_rI_inv h)
set_option maxRecDepth 100000 in
theorem cl_Row_fullNumber (l : Launch) : ∀ (pc : Nat) (q : Ent), i_Row_fullNumber pc = some q → ab_inv q.1 = true → ab_CR l KT CL none ab_gW "StreamTransport$Row" prog_9_method_10_code 5 1 22 eV_Row_fullNumber eI_Row_fullNumber pc q := by
  intro pc q hq hi
  have hm : pc ∈ cs_Row_fullNumber := ab_tab_cs (t := t_Row_fullNumber) (by decide +kernel) hq hi
  simp only [cs_Row_fullNumber, List.mem_cons, List.not_mem_nil, or_false] at hm
  rcases hm with rfl
  · cases (Option.some.inj hq : ((.invokestatic 41, 3, 2, 1, 0) : Ent) = q)
    exact ab_crS (by decide +kernel) cw_Math_floorMod (ab_gW_in 618 (by decide +kernel) rfl) st_Math_floorMod (by decide) (fun av m m' h => by cases h) (fun av m r h => cm_Math_floorMod l h) KT_nd
theorem cw_Row_fullNumber : ab_cw y_Row_fullNumber prog_9_method_10_code 5 1 (some .int) := ⟨ab_gW_in 617 (by decide +kernel) rfl, ab_gW_in 62 (by decide +kernel) rfl, by decide +kernel, by decide +kernel, by decide +kernel⟩
theorem is_Row_fullNumber : Cond.instanceMethod y_Row_fullNumber ∈ ab_gW := ab_gW_in 615 (by decide +kernel) rfl
theorem sl_Row_fullNumber : Cond.selects "StreamTransport$Row" y_Row_fullNumber y_Row_fullNumber ∈ ab_gW := ab_gW_in 616 (by decide +kernel) rfl
set_option maxRecDepth 100000 in
theorem cm_Row_fullNumber (l : Launch) {av : List AV} {m : Mm} {r : Int32 × Mm} (h0 : c_Row_fullNumber av m = some r) : ∃ (k q : Nat) (av' : List AV) (ci : Nat) (fs : List (Nat × Nat × Nat × Nat)) (z : vw_C), av = .inr (.inr (k, some q)) :: av' ∧ av'.length = 1 ∧ k ≠ 0 ∧ KT[k]? = some (.inl (ci, fs)) ∧ CL[ci]? = some z ∧ z.1 = "StreamTransport$Row" ∧ ab_nos av' ∧ ab_Met l KT CL y_Row_fullNumber (Cond.code y_Row_fullNumber prog_9_method_10_code 5 (some .int) :: ab_gW) 1 22 none av m (some (.inl r.1)) r.2 := by
  obtain ⟨v0, v1, hav, h⟩ := c_Row_fullNumber_inv h0
  rw [r_Row_fullNumber_eq] at h
  have hmo : ab_mo m r.2 := ab_kp_mo (kp_Row_fullNumber h0)
  subst hav
  exact ⟨_, _, _, _, _, _, rfl, rfl, by decide, rfl, rfl, rfl, (by intro v hv q e; subst e; simp at hv), ab_met (by decide +kernel) KT_0 KT_nd KT_k3 E_Row_fullNumber (cl_Row_fullNumber l) hmo (Nat.le_of_ble_eq_true rfl) (ab_rI_inv h) (fun v hv => by cases hv; exact ⟨_, rfl⟩)⟩
end
end
section
section
def FLp_Num : List ((Nat × Nat × Nat) × Nat) := [((9, 3, 0), 127), ((15, 3, 1), 128)]
def FL_Num : List (Nat × Nat × Nat) := [(9, 3, 0), (15, 3, 1)]
theorem fl_Num : ∀ q ∈ FL_Num, ab_fld CL ab_gW "StreamTransport$Numbers" q.1 q.2.1 q.2.2 := ab_flb_ok (own := "StreamTransport$Numbers") (l := FLp_Num) (by decide +kernel)
def FPnp_Num : List ((Nat × Nat × Nat) × Nat) := [((15, 3, 1), 128)]
def FPn_Num : List (Nat × Nat × Nat) := [(15, 3, 1)]
theorem fpn_Num (nm : String) : ∀ q ∈ FPn_Num, ∃ ty, ab_fldp CL ab_gW "StreamTransport$Numbers" nm q.1 q.2.1 q.2.2 ty ∧ ∀ (k t r k' d' : Nat), ab_fs KT q.2.1 q.2.2 k = some (t, r, k', d') → (t = 0 → ty = .int) ∧ (t = 1 → ty = .boolean) ∧ (t = 2 → ((∃ n, ty = .object n) ∨ ∃ t, ty = .array t) ∧ k' ≠ 0) := ab_fpb_ok (own := "StreamTransport$Numbers") (nm := nm) (l := FPnp_Num) (ab_fpn_ok (by decide +kernel))
def FPip_Num : List ((Nat × Nat × Nat) × Nat) := [((9, 3, 0), 127), ((15, 3, 1), 128)]
def FPi_Num : List (Nat × Nat × Nat) := [(9, 3, 0), (15, 3, 1)]
theorem fpi_Num : ∀ q ∈ FPi_Num, ∃ ty, ab_fldp CL ab_gW "StreamTransport$Numbers" "<init>" q.1 q.2.1 q.2.2 ty ∧ ∀ (k t r k' d' : Nat), ab_fs KT q.2.1 q.2.2 k = some (t, r, k', d') → (t = 0 → ty = .int) ∧ (t = 1 → ty = .boolean) ∧ (t = 2 → ((∃ n, ty = .object n) ∨ ∃ t, ty = .array t) ∧ k' ≠ 0) := ab_fpb_ok (own := "StreamTransport$Numbers") (nm := "<init>") (l := FPip_Num) (by decide +kernel)
def LCp_Num : List ((Nat × Int32) × Nat) := []
def LC_Num : List (Nat × Int32) := []
theorem lc_Num : ∀ q ∈ LC_Num, Cond.constant "StreamTransport$Numbers" q.1 q.2 ∈ ab_gW := ab_lcb (own := "StreamTransport$Numbers") (l := LCp_Num) (by decide +kernel)
def LJp_Num : List ((Nat × Nat) × Nat) := []
def LJ_Num : List (Nat × Nat) := []
theorem lj_Num : ∀ q ∈ LJ_Num, Cond.constantLong "StreamTransport$Numbers" q.1 (Int64.ofNat q.2) ∈ ab_gW := ab_ljb (own := "StreamTransport$Numbers") (l := LJp_Num) (by decide +kernel)
def NWp_Num : List ((Nat × Nat) × Nat × Nat × Nat) := []
def NW_Num : List (Nat × Nat) := []
theorem nw_Num : ∀ q ∈ NW_Num, ab_newok KT CL ab_gW "StreamTransport$Numbers" q.1 q.2 := ab_nwb_ok (own := "StreamTransport$Numbers") (l := NWp_Num) (by decide +kernel)
def NQp_Num : List ((Nat × Nat) × Nat) := []
def NQ_Num : List (Nat × Nat) := []
theorem nq_Num : ∀ q ∈ NQ_Num, ab_nqok KT CL ab_gW "StreamTransport$Numbers" q.1 q.2 := ab_nqb_ok (own := "StreamTransport$Numbers") (l := NQp_Num) (by decide +kernel)
def NA_Num : List (Nat × Nat) := [(0, 9)]
theorem na_Num : ∀ q ∈ NA_Num, (q.1 = 0 → ab_naok KT CL ab_gW .int q.2) ∧ (q.1 = 1 → ab_naok KT CL ab_gW .boolean q.2) ∧ (q.1 = 2 → ab_naok KT CL ab_gW .long q.2) := ab_nab_ok (by decide +kernel)
/-! StreamTransport$Numbers.has(I)Z -/
def y_Num_has : MethodName := ⟨"StreamTransport$Numbers", "has", "(I)Z"⟩
def t_Num_has (pc : Nat) : Option Ent :=
  bif Nat.blt pc 20 then
    (bif Nat.blt pc 11 then
      (bif Nat.blt pc 4 then
        (bif Nat.blt pc 1 then
          (bif Nat.beq pc 0 then some (.iload_n 1, 1, 0, 0, 0) else none)
        else
          bif Nat.beq pc 1 then some (.ifCond .lt (34), 35, 0, 0, 0) else none)
      else
        bif Nat.blt pc 5 then
          (bif Nat.beq pc 4 then some (.iload_n 1, 1, 0, 0, 0) else none)
        else
          bif Nat.blt pc 8 then
            (bif Nat.beq pc 5 then some (.sipush 10240, 0, 0, 0, 10240) else none)
          else
            bif Nat.beq pc 8 then some (.if_icmp .ge (27), 35, 0, 0, 0) else none)
    else
      bif Nat.blt pc 16 then
        (bif Nat.blt pc 12 then
          (bif Nat.beq pc 11 then some (.aload_n 0, 0, 0, 0, 0) else none)
        else
          bif Nat.blt pc 15 then
            (bif Nat.beq pc 12 then some (.getfield 9, 3, 0, 1, 0) else none)
          else
            bif Nat.beq pc 15 then some (.iload_n 1, 1, 0, 0, 0) else none)
      else
        bif Nat.blt pc 18 then
          (bif Nat.beq pc 16 then some (.bipush 32, 0, 0, 0, 32) else none)
        else
          bif Nat.blt pc 19 then
            (bif Nat.beq pc 18 then some (.idiv, 0, 0, 0, 0) else none)
          else
            bif Nat.beq pc 19 then some (.iaload, 0, 0, 0, 0) else none)
  else
    bif Nat.blt pc 27 then
      (bif Nat.blt pc 24 then
        (bif Nat.blt pc 21 then
          (bif Nat.beq pc 20 then some (.iload_n 1, 1, 0, 0, 0) else none)
        else
          bif Nat.blt pc 23 then
            (bif Nat.beq pc 21 then some (.bipush 32, 0, 0, 0, 32) else none)
          else
            bif Nat.beq pc 23 then some (.irem, 0, 0, 0, 0) else none)
      else
        bif Nat.blt pc 25 then
          (bif Nat.beq pc 24 then some (.iushr, 0, 0, 0, 0) else none)
        else
          bif Nat.blt pc 26 then
            (bif Nat.beq pc 25 then some (.iconst 1, 0, 0, 0, 1) else none)
          else
            bif Nat.beq pc 26 then some (.iand, 0, 0, 0, 0) else none)
    else
      bif Nat.blt pc 32 then
        (bif Nat.blt pc 28 then
          (bif Nat.beq pc 27 then some (.iconst 1, 0, 0, 0, 1) else none)
        else
          bif Nat.blt pc 31 then
            (bif Nat.beq pc 28 then some (.if_icmp .ne (7), 35, 0, 0, 0) else none)
          else
            bif Nat.beq pc 31 then some (.iconst 1, 0, 0, 0, 1) else none)
      else
        bif Nat.blt pc 35 then
          (bif Nat.beq pc 32 then some (.goto 4, 36, 0, 0, 0) else none)
        else
          bif Nat.blt pc 36 then
            (bif Nat.beq pc 35 then some (.iconst 0, 0, 0, 0, 0) else none)
          else
            bif Nat.beq pc 36 then some (.ireturn, 0, 0, 1, 0) else none
def i_Num_has : Nat → Option Ent := ab_tab 37 t_Num_has
def h_Num_has (pc : Nat) : Nat × List Bool := (0, [])
def s_Num_has (pc : Nat) : List (Int32 × Nat) × Nat := ([], 0)
noncomputable def eV_Num_has : Nat → List AV → Mm → Option Mm := ab_ev []
noncomputable def eI_Num_has : Nat → List AV → Mm → Option (Int32 × Mm) := ab_ev []
noncomputable def b_Num_has_0 (f : Nat) (v0 : Nat) (v1 : Int32) (m : Mm) : Option Rs := ab_ex KT none s_Num_has eV_Num_has eI_Num_has i_Num_has h_Num_has f 0 [some (.inr (.inr (8, some v0))), some (.inl v1)] [] m
set_option maxRecDepth 100000 in
set_option maxHeartbeats 4000000 in
theorem b_Num_has_0_eq (f : Nat) (v0 : Nat) (v1 : Int32) (m : Mm) : b_Num_has_0 (f + 1) v0 v1 m =
    if v1 < 0 then
      (ab_bo (0 : Int32)).bind fun y1 => some (.inl (some (.inl y1), m))
    else
      if (10240 : Int32) ≤ v1 then
        (ab_bo (0 : Int32)).bind fun y2 => some (.inl (some (.inl y2), m))
      else
        if (32 : Int32) = 0 then none else
        (ab_ix (v1 / (32 : Int32)) 320).bind fun i3 =>
        if (32 : Int32) = 0 then none else
        if ((((m.1 31 (v0 + 1) i3)).toUInt32 >>> (((v1 - v1 / (32 : Int32) * (32 : Int32))).toUInt32 &&& Int32.toUInt32 31)).toInt32 &&& (1 : Int32)) = (1 : Int32) then
          (ab_bo (1 : Int32)).bind fun y5 => some (.inl (some (.inl y5), m))
        else
          (ab_bo (0 : Int32)).bind fun y4 => some (.inl (some (.inl y4), m)) := rfl
noncomputable def r_Num_has : Nat → Int32 → Mm → Option (Int32 × Mm) := ab_seal fun v0 v1 m => ab_rI (b_Num_has_0 50000 v0 v1 m)
theorem r_Num_has_eq (v0 : Nat) (v1 : Int32) (m : Mm) : r_Num_has v0 v1 m = ab_rI (b_Num_has_0 50000 v0 v1 m) := by
  unfold r_Num_has
  rw [ab_seal_eq]
noncomputable def c_Num_has : List AV → Mm → Option (Int32 × Mm) := fun av m => match av with
  | [.inr (.inr (kv0, ov0)), .inl v1] => if kv0 = 8 then (ov0.bind fun v0 => r_Num_has v0 v1 m) else none
  | _ => none
theorem c_Num_has_inv {av : List AV} {m : Mm} {r : Int32 × Mm} (h : c_Num_has av m = some r) : ∃ (v0 : Nat) (v1 : Int32), av = [.inr (.inr (8, some v0)), .inl v1] ∧ r_Num_has v0 v1 m = some r := by
  unfold c_Num_has at h
  split at h
  · rename_i kv0 ov0 v1
    by_cases hkv0 : kv0 = 8
    case neg => rw [if_neg hkv0] at h; cases h
    rw [if_pos hkv0] at h
    subst hkv0
    obtain ⟨v0, hev0, h⟩ := Option.bind_eq_some_iff.mp h
    subst hev0
    exact ⟨v0, v1, rfl, h⟩
  · cases h
def cs_Num_has : List Nat := []
set_option maxRecDepth 100000 in
theorem E_Num_has : ∀ (pc : Nat) (q : Ent), i_Num_has pc = some q → ab_E KT CL ab_gW "StreamTransport$Numbers" "has" (some .boolean) prog_5_method_2_code s_Num_has 2 pc q.1 q.2.1 q.2.2.1 q.2.2.2.1 q.2.2.2.2 := fun pc q hq =>
  ab_Eb_ok lc_Num lj_Num fl_Num (fpn_Num "has") nw_Num na_Num nq_Num (ab_tab_all (t := t_Num_has) (chk := fun pc q => ab_Eb (some .boolean) prog_5_method_2_code s_Num_has 2 LC_Num LJ_Num FL_Num FPn_Num NW_Num NA_Num NQ_Num pc q.1 q.2.1 q.2.2.1 q.2.2.2.1 q.2.2.2.2) (by decide +kernel) hq)
set_option maxRecDepth 100000 in
theorem kp_Num_has {av : List AV} {m : Mm} {r : Int32 × Mm} (h : c_Num_has av m = some r) : ab_kp m r.2 := by
  obtain ⟨v0, v1, -, h⟩ := c_Num_has_inv h
  rw [r_Num_has_eq] at h
  have hV : ∀ a av m m', eV_Num_has a av m = some m' → ab_kp m m' := ab_ev_all (P := fun _ m r => ab_kp m r) [] (fun q hq => by cases hq)
  have hI : ∀ a av m q, eI_Num_has a av m = some q → ab_kp m q.2 := ab_ev_all (P := fun _ (m : Mm) (r : Int32 × Mm) => ab_kp m r.2) [] (fun q hq => by cases hq)
  exact ab_kprel (ρ := .inl (some (.inl r.1), r.2)) (ab_tab_isn (t := t_Num_has) (by decide +kernel)) hV hI (ab_rI_inv h)
set_option maxRecDepth 100000 in
theorem cl_Num_has (l : Launch) : ∀ (pc : Nat) (q : Ent), i_Num_has pc = some q → ab_inv q.1 = true → ab_CR l KT CL none ab_gW "StreamTransport$Numbers" prog_5_method_2_code 2 0 0 eV_Num_has eI_Num_has pc q := by
  intro pc q hq hi
  have hm : pc ∈ cs_Num_has := ab_tab_cs (t := t_Num_has) (by decide +kernel) hq hi
  cases hm
theorem cw_Num_has : ab_cw y_Num_has prog_5_method_2_code 2 1 (some .boolean) := ⟨ab_gW_in 468 (by decide +kernel) rfl, ab_gW_in 64 (by decide +kernel) rfl, by decide +kernel, by decide +kernel, by decide +kernel⟩
theorem is_Num_has : Cond.instanceMethod y_Num_has ∈ ab_gW := ab_gW_in 466 (by decide +kernel) rfl
theorem sl_Num_has : Cond.selects "StreamTransport$Numbers" y_Num_has y_Num_has ∈ ab_gW := ab_gW_in 467 (by decide +kernel) rfl
set_option maxRecDepth 100000 in
theorem cm_Num_has (l : Launch) {av : List AV} {m : Mm} {r : Int32 × Mm} (h0 : c_Num_has av m = some r) : ∃ (k q : Nat) (av' : List AV) (ci : Nat) (fs : List (Nat × Nat × Nat × Nat)) (z : vw_C), av = .inr (.inr (k, some q)) :: av' ∧ av'.length = 1 ∧ k ≠ 0 ∧ KT[k]? = some (.inl (ci, fs)) ∧ CL[ci]? = some z ∧ z.1 = "StreamTransport$Numbers" ∧ ab_nos av' ∧ ab_Met l KT CL y_Num_has (Cond.code y_Num_has prog_5_method_2_code 2 (some .boolean) :: ab_gW) 0 0 none av m (some (.inl r.1)) r.2 := by
  obtain ⟨v0, v1, hav, h⟩ := c_Num_has_inv h0
  rw [r_Num_has_eq] at h
  have hmo : ab_mo m r.2 := ab_kp_mo (kp_Num_has h0)
  subst hav
  exact ⟨_, _, _, _, _, _, rfl, rfl, by decide, rfl, rfl, rfl, (by intro v hv q e; subst e; simp at hv), ab_met (by decide +kernel) KT_0 KT_nd KT_k3 E_Num_has (cl_Num_has l) hmo (Nat.le_of_ble_eq_true rfl) (ab_rI_inv h) (fun v hv => by cases hv; exact ⟨_, rfl⟩)⟩
/-! StreamTransport$Numbers.canHold(I)Z -/
def y_Num_canHold : MethodName := ⟨"StreamTransport$Numbers", "canHold", "(I)Z"⟩
def t_Num_canHold (pc : Nat) : Option Ent :=
  bif Nat.blt pc 8 then
    (bif Nat.blt pc 4 then
      (bif Nat.blt pc 1 then
        (bif Nat.beq pc 0 then some (.iload_n 1, 1, 0, 0, 0) else none)
      else
        bif Nat.beq pc 1 then some (.ifCond .lt (14), 15, 0, 0, 0) else none)
    else
      bif Nat.blt pc 5 then
        (bif Nat.beq pc 4 then some (.iload_n 1, 1, 0, 0, 0) else none)
      else
        bif Nat.beq pc 5 then some (.sipush 10240, 0, 0, 0, 10240) else none)
  else
    bif Nat.blt pc 12 then
      (bif Nat.blt pc 11 then
        (bif Nat.beq pc 8 then some (.if_icmp .ge (7), 15, 0, 0, 0) else none)
      else
        bif Nat.beq pc 11 then some (.iconst 1, 0, 0, 0, 1) else none)
    else
      bif Nat.blt pc 15 then
        (bif Nat.beq pc 12 then some (.goto 4, 16, 0, 0, 0) else none)
      else
        bif Nat.blt pc 16 then
          (bif Nat.beq pc 15 then some (.iconst 0, 0, 0, 0, 0) else none)
        else
          bif Nat.beq pc 16 then some (.ireturn, 0, 0, 1, 0) else none
def i_Num_canHold : Nat → Option Ent := ab_tab 17 t_Num_canHold
def h_Num_canHold (pc : Nat) : Nat × List Bool := (0, [])
def s_Num_canHold (pc : Nat) : List (Int32 × Nat) × Nat := ([], 0)
noncomputable def eV_Num_canHold : Nat → List AV → Mm → Option Mm := ab_ev []
noncomputable def eI_Num_canHold : Nat → List AV → Mm → Option (Int32 × Mm) := ab_ev []
noncomputable def b_Num_canHold_0 (f : Nat) (v0 : Nat) (v1 : Int32) (m : Mm) : Option Rs := ab_ex KT none s_Num_canHold eV_Num_canHold eI_Num_canHold i_Num_canHold h_Num_canHold f 0 [some (.inr (.inr (8, some v0))), some (.inl v1)] [] m
set_option maxRecDepth 100000 in
set_option maxHeartbeats 4000000 in
theorem b_Num_canHold_0_eq (f : Nat) (v0 : Nat) (v1 : Int32) (m : Mm) : b_Num_canHold_0 (f + 1) v0 v1 m =
    if v1 < 0 then
      (ab_bo (0 : Int32)).bind fun y1 => some (.inl (some (.inl y1), m))
    else
      if (10240 : Int32) ≤ v1 then
        (ab_bo (0 : Int32)).bind fun y2 => some (.inl (some (.inl y2), m))
      else
        (ab_bo (1 : Int32)).bind fun y3 => some (.inl (some (.inl y3), m)) := rfl
noncomputable def r_Num_canHold : Nat → Int32 → Mm → Option (Int32 × Mm) := ab_seal fun v0 v1 m => ab_rI (b_Num_canHold_0 50000 v0 v1 m)
theorem r_Num_canHold_eq (v0 : Nat) (v1 : Int32) (m : Mm) : r_Num_canHold v0 v1 m = ab_rI (b_Num_canHold_0 50000 v0 v1 m) := by
  unfold r_Num_canHold
  rw [ab_seal_eq]
noncomputable def c_Num_canHold : List AV → Mm → Option (Int32 × Mm) := fun av m => match av with
  | [.inr (.inr (kv0, ov0)), .inl v1] => if kv0 = 8 then (ov0.bind fun v0 => r_Num_canHold v0 v1 m) else none
  | _ => none
theorem c_Num_canHold_inv {av : List AV} {m : Mm} {r : Int32 × Mm} (h : c_Num_canHold av m = some r) : ∃ (v0 : Nat) (v1 : Int32), av = [.inr (.inr (8, some v0)), .inl v1] ∧ r_Num_canHold v0 v1 m = some r := by
  unfold c_Num_canHold at h
  split at h
  · rename_i kv0 ov0 v1
    by_cases hkv0 : kv0 = 8
    case neg => rw [if_neg hkv0] at h; cases h
    rw [if_pos hkv0] at h
    subst hkv0
    obtain ⟨v0, hev0, h⟩ := Option.bind_eq_some_iff.mp h
    subst hev0
    exact ⟨v0, v1, rfl, h⟩
  · cases h
def cs_Num_canHold : List Nat := []
set_option maxRecDepth 100000 in
theorem E_Num_canHold : ∀ (pc : Nat) (q : Ent), i_Num_canHold pc = some q → ab_E KT CL ab_gW "StreamTransport$Numbers" "canHold" (some .boolean) prog_5_method_3_code s_Num_canHold 2 pc q.1 q.2.1 q.2.2.1 q.2.2.2.1 q.2.2.2.2 := fun pc q hq =>
  ab_Eb_ok lc_Num lj_Num fl_Num (fpn_Num "canHold") nw_Num na_Num nq_Num (ab_tab_all (t := t_Num_canHold) (chk := fun pc q => ab_Eb (some .boolean) prog_5_method_3_code s_Num_canHold 2 LC_Num LJ_Num FL_Num FPn_Num NW_Num NA_Num NQ_Num pc q.1 q.2.1 q.2.2.1 q.2.2.2.1 q.2.2.2.2) (by decide +kernel) hq)
set_option maxRecDepth 100000 in
theorem kp_Num_canHold {av : List AV} {m : Mm} {r : Int32 × Mm} (h : c_Num_canHold av m = some r) : ab_kp m r.2 := by
  obtain ⟨v0, v1, -, h⟩ := c_Num_canHold_inv h
  rw [r_Num_canHold_eq] at h
  have hV : ∀ a av m m', eV_Num_canHold a av m = some m' → ab_kp m m' := ab_ev_all (P := fun _ m r => ab_kp m r) [] (fun q hq => by cases hq)
  have hI : ∀ a av m q, eI_Num_canHold a av m = some q → ab_kp m q.2 := ab_ev_all (P := fun _ (m : Mm) (r : Int32 × Mm) => ab_kp m r.2) [] (fun q hq => by cases hq)
  exact ab_kprel (ρ := .inl (some (.inl r.1), r.2)) (ab_tab_isn (t := t_Num_canHold) (by decide +kernel)) hV hI (ab_rI_inv h)
set_option maxRecDepth 100000 in
theorem cl_Num_canHold (l : Launch) : ∀ (pc : Nat) (q : Ent), i_Num_canHold pc = some q → ab_inv q.1 = true → ab_CR l KT CL none ab_gW "StreamTransport$Numbers" prog_5_method_3_code 2 0 0 eV_Num_canHold eI_Num_canHold pc q := by
  intro pc q hq hi
  have hm : pc ∈ cs_Num_canHold := ab_tab_cs (t := t_Num_canHold) (by decide +kernel) hq hi
  cases hm
theorem cw_Num_canHold : ab_cw y_Num_canHold prog_5_method_3_code 2 1 (some .boolean) := ⟨ab_gW_in 624 (by decide +kernel) rfl, ab_gW_in 64 (by decide +kernel) rfl, by decide +kernel, by decide +kernel, by decide +kernel⟩
theorem is_Num_canHold : Cond.instanceMethod y_Num_canHold ∈ ab_gW := ab_gW_in 622 (by decide +kernel) rfl
theorem sl_Num_canHold : Cond.selects "StreamTransport$Numbers" y_Num_canHold y_Num_canHold ∈ ab_gW := ab_gW_in 623 (by decide +kernel) rfl
set_option maxRecDepth 100000 in
theorem cm_Num_canHold (l : Launch) {av : List AV} {m : Mm} {r : Int32 × Mm} (h0 : c_Num_canHold av m = some r) : ∃ (k q : Nat) (av' : List AV) (ci : Nat) (fs : List (Nat × Nat × Nat × Nat)) (z : vw_C), av = .inr (.inr (k, some q)) :: av' ∧ av'.length = 1 ∧ k ≠ 0 ∧ KT[k]? = some (.inl (ci, fs)) ∧ CL[ci]? = some z ∧ z.1 = "StreamTransport$Numbers" ∧ ab_nos av' ∧ ab_Met l KT CL y_Num_canHold (Cond.code y_Num_canHold prog_5_method_3_code 2 (some .boolean) :: ab_gW) 0 0 none av m (some (.inl r.1)) r.2 := by
  obtain ⟨v0, v1, hav, h⟩ := c_Num_canHold_inv h0
  rw [r_Num_canHold_eq] at h
  have hmo : ab_mo m r.2 := ab_kp_mo (kp_Num_canHold h0)
  subst hav
  exact ⟨_, _, _, _, _, _, rfl, rfl, by decide, rfl, rfl, rfl, (by intro v hv q e; subst e; simp at hv), ab_met (by decide +kernel) KT_0 KT_nd KT_k3 E_Num_canHold (cl_Num_canHold l) hmo (Nat.le_of_ble_eq_true rfl) (ab_rI_inv h) (fun v hv => by cases hv; exact ⟨_, rfl⟩)⟩
/-! StreamTransport$Numbers.add(I)V -/
def y_Num_add : MethodName := ⟨"StreamTransport$Numbers", "add", "(I)V"⟩
def t_Num_add (pc : Nat) : Option Ent :=
  bif Nat.blt pc 19 then
    (bif Nat.blt pc 12 then
      (bif Nat.blt pc 5 then
        (bif Nat.blt pc 1 then
          (bif Nat.beq pc 0 then some (.aload_n 0, 0, 0, 0, 0) else none)
        else
          bif Nat.blt pc 2 then
            (bif Nat.beq pc 1 then some (.iload_n 1, 1, 0, 0, 0) else none)
          else
            bif Nat.beq pc 2 then some (.invokevirtual 19, 16, 2, 1, 0) else none)
      else
        bif Nat.blt pc 8 then
          (bif Nat.beq pc 5 then some (.ifCond .eq (33), 38, 0, 0, 0) else none)
        else
          bif Nat.blt pc 9 then
            (bif Nat.beq pc 8 then some (.aload_n 0, 0, 0, 0, 0) else none)
          else
            bif Nat.beq pc 9 then some (.getfield 9, 3, 0, 1, 0) else none)
    else
      bif Nat.blt pc 16 then
        (bif Nat.blt pc 13 then
          (bif Nat.beq pc 12 then some (.iload_n 1, 1, 0, 0, 0) else none)
        else
          bif Nat.blt pc 15 then
            (bif Nat.beq pc 13 then some (.bipush 32, 0, 0, 0, 32) else none)
          else
            bif Nat.beq pc 15 then some (.idiv, 0, 0, 0, 0) else none)
      else
        bif Nat.blt pc 17 then
          (bif Nat.beq pc 16 then some (.dup2, 0, 0, 0, 0) else none)
        else
          bif Nat.blt pc 18 then
            (bif Nat.beq pc 17 then some (.iaload, 0, 0, 0, 0) else none)
          else
            bif Nat.beq pc 18 then some (.iconst 1, 0, 0, 0, 1) else none)
  else
    bif Nat.blt pc 26 then
      (bif Nat.blt pc 23 then
        (bif Nat.blt pc 20 then
          (bif Nat.beq pc 19 then some (.iload_n 1, 1, 0, 0, 0) else none)
        else
          bif Nat.blt pc 22 then
            (bif Nat.beq pc 20 then some (.bipush 32, 0, 0, 0, 32) else none)
          else
            bif Nat.beq pc 22 then some (.irem, 0, 0, 0, 0) else none)
      else
        bif Nat.blt pc 24 then
          (bif Nat.beq pc 23 then some (.ishl, 0, 0, 0, 0) else none)
        else
          bif Nat.blt pc 25 then
            (bif Nat.beq pc 24 then some (.ior, 0, 0, 0, 0) else none)
          else
            bif Nat.beq pc 25 then some (.iastore, 0, 0, 0, 0) else none)
    else
      bif Nat.blt pc 31 then
        (bif Nat.blt pc 27 then
          (bif Nat.beq pc 26 then some (.aload_n 0, 0, 0, 0, 0) else none)
        else
          bif Nat.blt pc 28 then
            (bif Nat.beq pc 27 then some (.aload_n 0, 0, 0, 0, 0) else none)
          else
            bif Nat.beq pc 28 then some (.getfield 15, 3, 1, 0, 0) else none)
      else
        bif Nat.blt pc 35 then
          (bif Nat.blt pc 32 then
            (bif Nat.beq pc 31 then some (.iload_n 1, 1, 0, 0, 0) else none)
          else
            bif Nat.beq pc 32 then some (.invokestatic 23, 1, 2, 1, 0) else none)
        else
          bif Nat.blt pc 38 then
            (bif Nat.beq pc 35 then some (.putfield 15, 3, 1, 0, 0) else none)
          else
            bif Nat.beq pc 38 then some (.return_, 0, 0, 0, 0) else none
def i_Num_add : Nat → Option Ent := ab_tab 39 t_Num_add
def h_Num_add (pc : Nat) : Nat × List Bool := (0, [])
def s_Num_add (pc : Nat) : List (Int32 × Nat) × Nat := ([], 0)
noncomputable def eV_Num_add : Nat → List AV → Mm → Option Mm := ab_ev []
noncomputable def eI_Num_add : Nat → List AV → Mm → Option (Int32 × Mm) := ab_ev [(16, c_Num_canHold), (1, c_Math_max)]
noncomputable def b_Num_add_0 (f : Nat) (v0 : Nat) (v1 : Int32) (m : Mm) : Option Rs := ab_ex KT none s_Num_add eV_Num_add eI_Num_add i_Num_add h_Num_add f 0 [some (.inr (.inr (8, some v0))), some (.inl v1)] [] m
set_option maxRecDepth 100000 in
set_option maxHeartbeats 4000000 in
theorem b_Num_add_0_eq (f : Nat) (v0 : Nat) (v1 : Int32) (m : Mm) : b_Num_add_0 (f + 1) v0 v1 m =
    (r_Num_canHold v0 v1 m).bind fun z1 =>
    if z1.1 = 0 then
      some (.inl (none, z1.2))
    else
      if (32 : Int32) = 0 then none else
      (ab_ix (v1 / (32 : Int32)) 320).bind fun i2 =>
      if (32 : Int32) = 0 then none else
      (ab_ix (v1 / (32 : Int32)) 320).bind fun i3 =>
      ab_let (ab_uI z1.2 31 (v0 + 1) i3 ((z1.2.1 31 (v0 + 1) i2) ||| ((1 : Int32) <<< ((v1 - v1 / (32 : Int32) * (32 : Int32)) &&& 31)))) fun m4 =>
      (r_Math_max (m4.1 30 v0 0) v1 m4).bind fun z5 =>
      ab_let (ab_uI z5.2 30 v0 0 z5.1) fun m6 =>
      some (.inl (none, m6)) := rfl
noncomputable def r_Num_add : Nat → Int32 → Mm → Option Mm := ab_seal fun v0 v1 m => ab_rV (b_Num_add_0 50000 v0 v1 m)
theorem r_Num_add_eq (v0 : Nat) (v1 : Int32) (m : Mm) : r_Num_add v0 v1 m = ab_rV (b_Num_add_0 50000 v0 v1 m) := by
  unfold r_Num_add
  rw [ab_seal_eq]
noncomputable def c_Num_add : List AV → Mm → Option Mm := fun av m => match av with
  | [.inr (.inr (kv0, ov0)), .inl v1] => if kv0 = 8 then (ov0.bind fun v0 => r_Num_add v0 v1 m) else none
  | _ => none
theorem c_Num_add_inv {av : List AV} {m : Mm} {r : Mm} (h : c_Num_add av m = some r) : ∃ (v0 : Nat) (v1 : Int32), av = [.inr (.inr (8, some v0)), .inl v1] ∧ r_Num_add v0 v1 m = some r := by
  unfold c_Num_add at h
  split at h
  · rename_i kv0 ov0 v1
    by_cases hkv0 : kv0 = 8
    case neg => rw [if_neg hkv0] at h; cases h
    rw [if_pos hkv0] at h
    subst hkv0
    obtain ⟨v0, hev0, h⟩ := Option.bind_eq_some_iff.mp h
    subst hev0
    exact ⟨v0, v1, rfl, h⟩
  · cases h
def cs_Num_add : List Nat := [2, 32]
set_option maxRecDepth 100000 in
theorem E_Num_add : ∀ (pc : Nat) (q : Ent), i_Num_add pc = some q → ab_E KT CL ab_gW "StreamTransport$Numbers" "add" none prog_5_method_4_code s_Num_add 2 pc q.1 q.2.1 q.2.2.1 q.2.2.2.1 q.2.2.2.2 := fun pc q hq =>
  ab_Eb_ok lc_Num lj_Num fl_Num (fpn_Num "add") nw_Num na_Num nq_Num (ab_tab_all (t := t_Num_add) (chk := fun pc q => ab_Eb none prog_5_method_4_code s_Num_add 2 LC_Num LJ_Num FL_Num FPn_Num NW_Num NA_Num NQ_Num pc q.1 q.2.1 q.2.2.1 q.2.2.2.1 q.2.2.2.2) (by decide +kernel) hq)
set_option maxRecDepth 100000 in
theorem kp_Num_add {av : List AV} {m : Mm} {r : Mm} (h : c_Num_add av m = some r) : ab_kp m r := by
  obtain ⟨v0, v1, -, h⟩ := c_Num_add_inv h
  rw [r_Num_add_eq] at h
  have hV : ∀ a av m m', eV_Num_add a av m = some m' → ab_kp m m' := ab_ev_all (P := fun _ m r => ab_kp m r) [] (fun q hq => by cases hq)
  have hI : ∀ a av m q, eI_Num_add a av m = some q → ab_kp m q.2 := ab_ev_all (P := fun _ (m : Mm) (r : Int32 × Mm) => ab_kp m r.2) [(16, c_Num_canHold), (1, c_Math_max)] (List.forall_mem_cons.mpr ⟨fun av m r h => kp_Num_canHold h, List.forall_mem_cons.mpr ⟨fun av m r h => kp_Math_max h, fun q hq => by cases hq⟩⟩)
  exact ab_kprel (ρ := .inl (none, r)) (ab_tab_isn (t := t_Num_add) (by decide +kernel)) hV hI (ab_rV_inv h)
set_option maxRecDepth 100000 in
theorem cl_Num_add (l : Launch) : ∀ (pc : Nat) (q : Ent), i_Num_add pc = some q → ab_inv q.1 = true → ab_CR l KT CL none ab_gW "StreamTransport$Numbers" prog_5_method_4_code 2 1 21 eV_Num_add eI_Num_add pc q := by
  intro pc q hq hi
  have hm : pc ∈ cs_Num_add := ab_tab_cs (t := t_Num_add) (by decide +kernel) hq hi
  simp only [cs_Num_add, List.mem_cons, List.not_mem_nil, or_false] at hm
  rcases hm with rfl | rfl
  · cases (Option.some.inj hq : ((.invokevirtual 19, 16, 2, 1, 0) : Ent) = q)
    exact ab_crV (C := "StreamTransport$Numbers") (by decide +kernel) cw_Num_canHold (ab_gW_in 634 (by decide +kernel) rfl) is_Num_canHold sl_Num_canHold (by decide) (fun av m m' h => by cases h) (fun av m r h => cm_Num_canHold l h) KT_nd
  · cases (Option.some.inj hq : ((.invokestatic 23, 1, 2, 1, 0) : Ent) = q)
    exact ab_crS (by decide +kernel) cw_Math_max (ab_gW_in 635 (by decide +kernel) rfl) st_Math_max (by decide) (fun av m m' h => by cases h) (fun av m r h => cm_Math_max l h) KT_nd
theorem cw_Num_add : ab_cw y_Num_add prog_5_method_4_code 2 1 none := ⟨ab_gW_in 633 (by decide +kernel) rfl, ab_gW_in 64 (by decide +kernel) rfl, by decide +kernel, by decide +kernel, by decide +kernel⟩
theorem is_Num_add : Cond.instanceMethod y_Num_add ∈ ab_gW := ab_gW_in 631 (by decide +kernel) rfl
theorem sl_Num_add : Cond.selects "StreamTransport$Numbers" y_Num_add y_Num_add ∈ ab_gW := ab_gW_in 632 (by decide +kernel) rfl
set_option maxRecDepth 100000 in
theorem cm_Num_add (l : Launch) {av : List AV} {m : Mm} {r : Mm} (h0 : c_Num_add av m = some r) : ∃ (k q : Nat) (av' : List AV) (ci : Nat) (fs : List (Nat × Nat × Nat × Nat)) (z : vw_C), av = .inr (.inr (k, some q)) :: av' ∧ av'.length = 1 ∧ k ≠ 0 ∧ KT[k]? = some (.inl (ci, fs)) ∧ CL[ci]? = some z ∧ z.1 = "StreamTransport$Numbers" ∧ ab_nos av' ∧ ab_Met l KT CL y_Num_add (Cond.code y_Num_add prog_5_method_4_code 2 none :: ab_gW) 1 21 none av m none r := by
  obtain ⟨v0, v1, hav, h⟩ := c_Num_add_inv h0
  rw [r_Num_add_eq] at h
  have hmo : ab_mo m r := ab_kp_mo (kp_Num_add h0)
  subst hav
  exact ⟨_, _, _, _, _, _, rfl, rfl, by decide, rfl, rfl, rfl, (by intro v hv q e; subst e; simp at hv), ab_met (by decide +kernel) KT_0 KT_nd KT_k3 E_Num_add (cl_Num_add l) hmo (Nat.le_of_ble_eq_true rfl) (ab_rV_inv h) (fun v hv => by cases hv)⟩
/-! StreamTransport$Numbers.leastOfRange(I)I -/
def y_Num_leastOfRange : MethodName := ⟨"StreamTransport$Numbers", "leastOfRange", "(I)I"⟩
def t_Num_leastOfRange (pc : Nat) : Option Ent :=
  bif Nat.blt pc 11 then
    (bif Nat.blt pc 4 then
      (bif Nat.blt pc 2 then
        (bif Nat.blt pc 1 then
          (bif Nat.beq pc 0 then some (.iload_n 1, 1, 0, 0, 0) else none)
        else
          bif Nat.beq pc 1 then some (.istore_n 2, 2, 0, 0, 0) else none)
      else
        bif Nat.blt pc 3 then
          (bif Nat.beq pc 2 then some (.iload_n 1, 1, 0, 0, 0) else none)
        else
          bif Nat.beq pc 3 then some (.iconst 1, 0, 0, 0, 1) else none)
    else
      bif Nat.blt pc 6 then
        (bif Nat.blt pc 5 then
          (bif Nat.beq pc 4 then some (.isub, 0, 0, 0, 0) else none)
        else
          bif Nat.beq pc 5 then some (.istore_n 3, 3, 0, 0, 0) else none)
      else
        bif Nat.blt pc 7 then
          (bif Nat.beq pc 6 then some (.iload_n 3, 3, 0, 0, 0) else none)
        else
          bif Nat.blt pc 10 then
            (bif Nat.beq pc 7 then some (.ifCond .lt (19), 26, 0, 0, 0) else none)
          else
            bif Nat.beq pc 10 then some (.aload_n 0, 0, 0, 0, 0) else none)
  else
    bif Nat.blt pc 19 then
      (bif Nat.blt pc 15 then
        (bif Nat.blt pc 12 then
          (bif Nat.beq pc 11 then some (.iload_n 3, 3, 0, 0, 0) else none)
        else
          bif Nat.beq pc 12 then some (.invokevirtual 29, 15, 2, 1, 0) else none)
      else
        bif Nat.blt pc 18 then
          (bif Nat.beq pc 15 then some (.ifCond .eq (11), 26, 0, 0, 0) else none)
        else
          bif Nat.beq pc 18 then some (.iload_n 3, 3, 0, 0, 0) else none)
    else
      bif Nat.blt pc 23 then
        (bif Nat.blt pc 20 then
          (bif Nat.beq pc 19 then some (.istore_n 2, 2, 0, 0, 0) else none)
        else
          bif Nat.beq pc 20 then some (.iinc 3 (-1), 3, 0, 0, -1) else none)
      else
        bif Nat.blt pc 26 then
          (bif Nat.beq pc 23 then some (.goto (-17), 6, 0, 0, 0) else none)
        else
          bif Nat.blt pc 27 then
            (bif Nat.beq pc 26 then some (.iload_n 2, 2, 0, 0, 0) else none)
          else
            bif Nat.beq pc 27 then some (.ireturn, 0, 0, 0, 0) else none
def i_Num_leastOfRange : Nat → Option Ent := ab_tab 28 t_Num_leastOfRange
def h_Num_leastOfRange (pc : Nat) : Nat × List Bool := bif Nat.beq pc 6 then (1, [true, false, true, true]) else (0, [])
def s_Num_leastOfRange (pc : Nat) : List (Int32 × Nat) × Nat := ([], 0)
noncomputable def eV_Num_leastOfRange : Nat → List AV → Mm → Option Mm := ab_ev []
noncomputable def eI_Num_leastOfRange : Nat → List AV → Mm → Option (Int32 × Mm) := ab_ev [(15, c_Num_has)]
noncomputable def b_Num_leastOfRange_0 (f : Nat) (v0 : Nat) (v1 : Int32) (m : Mm) : Option Rs := ab_ex KT none s_Num_leastOfRange eV_Num_leastOfRange eI_Num_leastOfRange i_Num_leastOfRange h_Num_leastOfRange f 0 [some (.inr (.inr (8, some v0))), some (.inl v1), none, none] [] m
noncomputable def b_Num_leastOfRange_6 (f : Nat) (v0 : Nat) (v2 : Int32) (v3 : Int32) (m : Mm) : Option Rs := ab_ex KT none s_Num_leastOfRange eV_Num_leastOfRange eI_Num_leastOfRange i_Num_leastOfRange h_Num_leastOfRange f 6 [some (.inr (.inr (8, some v0))), none, some (.inl v2), some (.inl v3)] [] m
set_option maxRecDepth 100000 in
set_option maxHeartbeats 4000000 in
theorem b_Num_leastOfRange_0_eq (f : Nat) (v0 : Nat) (v1 : Int32) (m : Mm) : b_Num_leastOfRange_0 (f + 1) v0 v1 m =
    ab_let ((v1 - (1 : Int32))) fun x1 =>
    b_Num_leastOfRange_6 f v0 v1 x1 m := rfl
set_option maxRecDepth 100000 in
set_option maxHeartbeats 4000000 in
theorem b_Num_leastOfRange_6_eq (f : Nat) (v0 : Nat) (v2 : Int32) (v3 : Int32) (m : Mm) : b_Num_leastOfRange_6 (f + 1) v0 v2 v3 m =
    if v3 < 0 then
      some (.inl (some (.inl v2), m))
    else
      (r_Num_has v0 v3 m).bind fun z1 =>
      if z1.1 = 0 then
        some (.inl (some (.inl v2), z1.2))
      else
        ab_let (v3 + (-1 : Int32)) fun x2 =>
        b_Num_leastOfRange_6 f v0 v3 x2 z1.2 := rfl
noncomputable def r_Num_leastOfRange : Nat → Int32 → Mm → Option (Int32 × Mm) := ab_seal fun v0 v1 m => ab_rI (b_Num_leastOfRange_0 50000 v0 v1 m)
theorem r_Num_leastOfRange_eq (v0 : Nat) (v1 : Int32) (m : Mm) : r_Num_leastOfRange v0 v1 m = ab_rI (b_Num_leastOfRange_0 50000 v0 v1 m) := by
  unfold r_Num_leastOfRange
  rw [ab_seal_eq]
noncomputable def c_Num_leastOfRange : List AV → Mm → Option (Int32 × Mm) := fun av m => match av with
  | [.inr (.inr (kv0, ov0)), .inl v1] => if kv0 = 8 then (ov0.bind fun v0 => r_Num_leastOfRange v0 v1 m) else none
  | _ => none
theorem c_Num_leastOfRange_inv {av : List AV} {m : Mm} {r : Int32 × Mm} (h : c_Num_leastOfRange av m = some r) : ∃ (v0 : Nat) (v1 : Int32), av = [.inr (.inr (8, some v0)), .inl v1] ∧ r_Num_leastOfRange v0 v1 m = some r := by
  unfold c_Num_leastOfRange at h
  split at h
  · rename_i kv0 ov0 v1
    by_cases hkv0 : kv0 = 8
    case neg => rw [if_neg hkv0] at h; cases h
    rw [if_pos hkv0] at h
    subst hkv0
    obtain ⟨v0, hev0, h⟩ := Option.bind_eq_some_iff.mp h
    subst hev0
    exact ⟨v0, v1, rfl, h⟩
  · cases h
def cs_Num_leastOfRange : List Nat := [12]
set_option maxRecDepth 100000 in
theorem E_Num_leastOfRange : ∀ (pc : Nat) (q : Ent), i_Num_leastOfRange pc = some q → ab_E KT CL ab_gW "StreamTransport$Numbers" "leastOfRange" (some .int) prog_5_method_5_code s_Num_leastOfRange 4 pc q.1 q.2.1 q.2.2.1 q.2.2.2.1 q.2.2.2.2 := fun pc q hq =>
  ab_Eb_ok lc_Num lj_Num fl_Num (fpn_Num "leastOfRange") nw_Num na_Num nq_Num (ab_tab_all (t := t_Num_leastOfRange) (chk := fun pc q => ab_Eb (some .int) prog_5_method_5_code s_Num_leastOfRange 4 LC_Num LJ_Num FL_Num FPn_Num NW_Num NA_Num NQ_Num pc q.1 q.2.1 q.2.2.1 q.2.2.2.1 q.2.2.2.2) (by decide +kernel) hq)
set_option maxRecDepth 100000 in
theorem kp_Num_leastOfRange {av : List AV} {m : Mm} {r : Int32 × Mm} (h : c_Num_leastOfRange av m = some r) : ab_kp m r.2 := by
  obtain ⟨v0, v1, -, h⟩ := c_Num_leastOfRange_inv h
  rw [r_Num_leastOfRange_eq] at h
  have hV : ∀ a av m m', eV_Num_leastOfRange a av m = some m' → ab_kp m m' := ab_ev_all (P := fun _ m r => ab_kp m r) [] (fun q hq => by cases hq)
  have hI : ∀ a av m q, eI_Num_leastOfRange a av m = some q → ab_kp m q.2 := ab_ev_all (P := fun _ (m : Mm) (r : Int32 × Mm) => ab_kp m r.2) [(15, c_Num_has)] (List.forall_mem_cons.mpr ⟨fun av m r h => kp_Num_has h, fun q hq => by cases hq⟩)
  exact ab_kprel (ρ := .inl (some (.inl r.1), r.2)) (ab_tab_isn (t := t_Num_leastOfRange) (by decide +kernel)) hV hI (ab_rI_inv h)
set_option maxRecDepth 100000 in
theorem cl_Num_leastOfRange (l : Launch) : ∀ (pc : Nat) (q : Ent), i_Num_leastOfRange pc = some q → ab_inv q.1 = true → ab_CR l KT CL none ab_gW "StreamTransport$Numbers" prog_5_method_5_code 4 1 21 eV_Num_leastOfRange eI_Num_leastOfRange pc q := by
  intro pc q hq hi
  have hm : pc ∈ cs_Num_leastOfRange := ab_tab_cs (t := t_Num_leastOfRange) (by decide +kernel) hq hi
  simp only [cs_Num_leastOfRange, List.mem_cons, List.not_mem_nil, or_false] at hm
  rcases hm with rfl
  · cases (Option.some.inj hq : ((.invokevirtual 29, 15, 2, 1, 0) : Ent) = q)
    exact ab_crV (C := "StreamTransport$Numbers") (by decide +kernel) cw_Num_has (ab_gW_in 465 (by decide +kernel) rfl) is_Num_has sl_Num_has (by decide) (fun av m m' h => by cases h) (fun av m r h => cm_Num_has l h) KT_nd
theorem cw_Num_leastOfRange : ab_cw y_Num_leastOfRange prog_5_method_5_code 4 1 (some .int) := ⟨ab_gW_in 464 (by decide +kernel) rfl, ab_gW_in 64 (by decide +kernel) rfl, by decide +kernel, by decide +kernel, by decide +kernel⟩
theorem is_Num_leastOfRange : Cond.instanceMethod y_Num_leastOfRange ∈ ab_gW := ab_gW_in 462 (by decide +kernel) rfl
theorem sl_Num_leastOfRange : Cond.selects "StreamTransport$Numbers" y_Num_leastOfRange y_Num_leastOfRange ∈ ab_gW := ab_gW_in 463 (by decide +kernel) rfl
set_option maxRecDepth 100000 in
theorem cm_Num_leastOfRange (l : Launch) {av : List AV} {m : Mm} {r : Int32 × Mm} (h0 : c_Num_leastOfRange av m = some r) : ∃ (k q : Nat) (av' : List AV) (ci : Nat) (fs : List (Nat × Nat × Nat × Nat)) (z : vw_C), av = .inr (.inr (k, some q)) :: av' ∧ av'.length = 1 ∧ k ≠ 0 ∧ KT[k]? = some (.inl (ci, fs)) ∧ CL[ci]? = some z ∧ z.1 = "StreamTransport$Numbers" ∧ ab_nos av' ∧ ab_Met l KT CL y_Num_leastOfRange (Cond.code y_Num_leastOfRange prog_5_method_5_code 4 (some .int) :: ab_gW) 1 21 none av m (some (.inl r.1)) r.2 := by
  obtain ⟨v0, v1, hav, h⟩ := c_Num_leastOfRange_inv h0
  rw [r_Num_leastOfRange_eq] at h
  have hmo : ab_mo m r.2 := ab_kp_mo (kp_Num_leastOfRange h0)
  subst hav
  exact ⟨_, _, _, _, _, _, rfl, rfl, by decide, rfl, rfl, rfl, (by intro v hv q e; subst e; simp at hv), ab_met (by decide +kernel) KT_0 KT_nd KT_k3 E_Num_leastOfRange (cl_Num_leastOfRange l) hmo (Nat.le_of_ble_eq_true rfl) (ab_rI_inv h) (fun v hv => by cases hv; exact ⟨_, rfl⟩)⟩
/-! StreamTransport$Numbers.greatestBelow(I)I -/
def y_Num_greatestBelow : MethodName := ⟨"StreamTransport$Numbers", "greatestBelow", "(I)I"⟩
def t_Num_greatestBelow (pc : Nat) : Option Ent :=
  bif Nat.blt pc 10 then
    (bif Nat.blt pc 4 then
      (bif Nat.blt pc 2 then
        (bif Nat.blt pc 1 then
          (bif Nat.beq pc 0 then some (.iload_n 1, 1, 0, 0, 0) else none)
        else
          bif Nat.beq pc 1 then some (.iconst 1, 0, 0, 0, 1) else none)
      else
        bif Nat.blt pc 3 then
          (bif Nat.beq pc 2 then some (.isub, 0, 0, 0, 0) else none)
        else
          bif Nat.beq pc 3 then some (.istore_n 2, 2, 0, 0, 0) else none)
    else
      bif Nat.blt pc 8 then
        (bif Nat.blt pc 5 then
          (bif Nat.beq pc 4 then some (.iload_n 2, 2, 0, 0, 0) else none)
        else
          bif Nat.beq pc 5 then some (.ifCond .lt (19), 24, 0, 0, 0) else none)
      else
        bif Nat.blt pc 9 then
          (bif Nat.beq pc 8 then some (.aload_n 0, 0, 0, 0, 0) else none)
        else
          bif Nat.beq pc 9 then some (.iload_n 2, 2, 0, 0, 0) else none)
  else
    bif Nat.blt pc 18 then
      (bif Nat.blt pc 16 then
        (bif Nat.blt pc 13 then
          (bif Nat.beq pc 10 then some (.invokevirtual 29, 15, 2, 1, 0) else none)
        else
          bif Nat.beq pc 13 then some (.ifCond .eq (5), 18, 0, 0, 0) else none)
      else
        bif Nat.blt pc 17 then
          (bif Nat.beq pc 16 then some (.iload_n 2, 2, 0, 0, 0) else none)
        else
          bif Nat.beq pc 17 then some (.ireturn, 0, 0, 0, 0) else none)
    else
      bif Nat.blt pc 24 then
        (bif Nat.blt pc 21 then
          (bif Nat.beq pc 18 then some (.iinc 2 (-1), 2, 0, 0, -1) else none)
        else
          bif Nat.beq pc 21 then some (.goto (-17), 4, 0, 0, 0) else none)
      else
        bif Nat.blt pc 25 then
          (bif Nat.beq pc 24 then some (.iconst (-1), 0, 0, 0, -1) else none)
        else
          bif Nat.beq pc 25 then some (.ireturn, 0, 0, 0, 0) else none
def i_Num_greatestBelow : Nat → Option Ent := ab_tab 26 t_Num_greatestBelow
def h_Num_greatestBelow (pc : Nat) : Nat × List Bool := bif Nat.beq pc 4 then (1, [true, false, true]) else (0, [])
def s_Num_greatestBelow (pc : Nat) : List (Int32 × Nat) × Nat := ([], 0)
noncomputable def eV_Num_greatestBelow : Nat → List AV → Mm → Option Mm := ab_ev []
noncomputable def eI_Num_greatestBelow : Nat → List AV → Mm → Option (Int32 × Mm) := ab_ev [(15, c_Num_has)]
noncomputable def b_Num_greatestBelow_0 (f : Nat) (v0 : Nat) (v1 : Int32) (m : Mm) : Option Rs := ab_ex KT none s_Num_greatestBelow eV_Num_greatestBelow eI_Num_greatestBelow i_Num_greatestBelow h_Num_greatestBelow f 0 [some (.inr (.inr (8, some v0))), some (.inl v1), none] [] m
noncomputable def b_Num_greatestBelow_4 (f : Nat) (v0 : Nat) (v2 : Int32) (m : Mm) : Option Rs := ab_ex KT none s_Num_greatestBelow eV_Num_greatestBelow eI_Num_greatestBelow i_Num_greatestBelow h_Num_greatestBelow f 4 [some (.inr (.inr (8, some v0))), none, some (.inl v2)] [] m
set_option maxRecDepth 100000 in
set_option maxHeartbeats 4000000 in
theorem b_Num_greatestBelow_0_eq (f : Nat) (v0 : Nat) (v1 : Int32) (m : Mm) : b_Num_greatestBelow_0 (f + 1) v0 v1 m =
    ab_let ((v1 - (1 : Int32))) fun x1 =>
    b_Num_greatestBelow_4 f v0 x1 m := rfl
set_option maxRecDepth 100000 in
set_option maxHeartbeats 4000000 in
theorem b_Num_greatestBelow_4_eq (f : Nat) (v0 : Nat) (v2 : Int32) (m : Mm) : b_Num_greatestBelow_4 (f + 1) v0 v2 m =
    if v2 < 0 then
      some (.inl (some (.inl (-1 : Int32)), m))
    else
      (r_Num_has v0 v2 m).bind fun z1 =>
      if z1.1 = 0 then
        ab_let (v2 + (-1 : Int32)) fun x2 =>
        b_Num_greatestBelow_4 f v0 x2 z1.2
      else
        some (.inl (some (.inl v2), z1.2)) := rfl
noncomputable def r_Num_greatestBelow : Nat → Int32 → Mm → Option (Int32 × Mm) := ab_seal fun v0 v1 m => ab_rI (b_Num_greatestBelow_0 50000 v0 v1 m)
theorem r_Num_greatestBelow_eq (v0 : Nat) (v1 : Int32) (m : Mm) : r_Num_greatestBelow v0 v1 m = ab_rI (b_Num_greatestBelow_0 50000 v0 v1 m) := by
  unfold r_Num_greatestBelow
  rw [ab_seal_eq]
noncomputable def c_Num_greatestBelow : List AV → Mm → Option (Int32 × Mm) := fun av m => match av with
  | [.inr (.inr (kv0, ov0)), .inl v1] => if kv0 = 8 then (ov0.bind fun v0 => r_Num_greatestBelow v0 v1 m) else none
  | _ => none
theorem c_Num_greatestBelow_inv {av : List AV} {m : Mm} {r : Int32 × Mm} (h : c_Num_greatestBelow av m = some r) : ∃ (v0 : Nat) (v1 : Int32), av = [.inr (.inr (8, some v0)), .inl v1] ∧ r_Num_greatestBelow v0 v1 m = some r := by
  unfold c_Num_greatestBelow at h
  split at h
  · rename_i kv0 ov0 v1
    by_cases hkv0 : kv0 = 8
    case neg => rw [if_neg hkv0] at h; cases h
    rw [if_pos hkv0] at h
    subst hkv0
    obtain ⟨v0, hev0, h⟩ := Option.bind_eq_some_iff.mp h
    subst hev0
    exact ⟨v0, v1, rfl, h⟩
  · cases h
def cs_Num_greatestBelow : List Nat := [10]
set_option maxRecDepth 100000 in
theorem E_Num_greatestBelow : ∀ (pc : Nat) (q : Ent), i_Num_greatestBelow pc = some q → ab_E KT CL ab_gW "StreamTransport$Numbers" "greatestBelow" (some .int) prog_5_method_6_code s_Num_greatestBelow 3 pc q.1 q.2.1 q.2.2.1 q.2.2.2.1 q.2.2.2.2 := fun pc q hq =>
  ab_Eb_ok lc_Num lj_Num fl_Num (fpn_Num "greatestBelow") nw_Num na_Num nq_Num (ab_tab_all (t := t_Num_greatestBelow) (chk := fun pc q => ab_Eb (some .int) prog_5_method_6_code s_Num_greatestBelow 3 LC_Num LJ_Num FL_Num FPn_Num NW_Num NA_Num NQ_Num pc q.1 q.2.1 q.2.2.1 q.2.2.2.1 q.2.2.2.2) (by decide +kernel) hq)
set_option maxRecDepth 100000 in
theorem kp_Num_greatestBelow {av : List AV} {m : Mm} {r : Int32 × Mm} (h : c_Num_greatestBelow av m = some r) : ab_kp m r.2 := by
  obtain ⟨v0, v1, -, h⟩ := c_Num_greatestBelow_inv h
  rw [r_Num_greatestBelow_eq] at h
  have hV : ∀ a av m m', eV_Num_greatestBelow a av m = some m' → ab_kp m m' := ab_ev_all (P := fun _ m r => ab_kp m r) [] (fun q hq => by cases hq)
  have hI : ∀ a av m q, eI_Num_greatestBelow a av m = some q → ab_kp m q.2 := ab_ev_all (P := fun _ (m : Mm) (r : Int32 × Mm) => ab_kp m r.2) [(15, c_Num_has)] (List.forall_mem_cons.mpr ⟨fun av m r h => kp_Num_has h, fun q hq => by cases hq⟩)
  exact ab_kprel (ρ := .inl (some (.inl r.1), r.2)) (ab_tab_isn (t := t_Num_greatestBelow) (by decide +kernel)) hV hI (ab_rI_inv h)
set_option maxRecDepth 100000 in
theorem cl_Num_greatestBelow (l : Launch) : ∀ (pc : Nat) (q : Ent), i_Num_greatestBelow pc = some q → ab_inv q.1 = true → ab_CR l KT CL none ab_gW "StreamTransport$Numbers" prog_5_method_6_code 3 1 21 eV_Num_greatestBelow eI_Num_greatestBelow pc q := by
  intro pc q hq hi
  have hm : pc ∈ cs_Num_greatestBelow := ab_tab_cs (t := t_Num_greatestBelow) (by decide +kernel) hq hi
  simp only [cs_Num_greatestBelow, List.mem_cons, List.not_mem_nil, or_false] at hm
  rcases hm with rfl
  · cases (Option.some.inj hq : ((.invokevirtual 29, 15, 2, 1, 0) : Ent) = q)
    exact ab_crV (C := "StreamTransport$Numbers") (by decide +kernel) cw_Num_has (ab_gW_in 465 (by decide +kernel) rfl) is_Num_has sl_Num_has (by decide) (fun av m m' h => by cases h) (fun av m r h => cm_Num_has l h) KT_nd
theorem cw_Num_greatestBelow : ab_cw y_Num_greatestBelow prog_5_method_6_code 3 1 (some .int) := ⟨ab_gW_in 476 (by decide +kernel) rfl, ab_gW_in 64 (by decide +kernel) rfl, by decide +kernel, by decide +kernel, by decide +kernel⟩
theorem is_Num_greatestBelow : Cond.instanceMethod y_Num_greatestBelow ∈ ab_gW := ab_gW_in 474 (by decide +kernel) rfl
theorem sl_Num_greatestBelow : Cond.selects "StreamTransport$Numbers" y_Num_greatestBelow y_Num_greatestBelow ∈ ab_gW := ab_gW_in 475 (by decide +kernel) rfl
set_option maxRecDepth 100000 in
theorem cm_Num_greatestBelow (l : Launch) {av : List AV} {m : Mm} {r : Int32 × Mm} (h0 : c_Num_greatestBelow av m = some r) : ∃ (k q : Nat) (av' : List AV) (ci : Nat) (fs : List (Nat × Nat × Nat × Nat)) (z : vw_C), av = .inr (.inr (k, some q)) :: av' ∧ av'.length = 1 ∧ k ≠ 0 ∧ KT[k]? = some (.inl (ci, fs)) ∧ CL[ci]? = some z ∧ z.1 = "StreamTransport$Numbers" ∧ ab_nos av' ∧ ab_Met l KT CL y_Num_greatestBelow (Cond.code y_Num_greatestBelow prog_5_method_6_code 3 (some .int) :: ab_gW) 1 21 none av m (some (.inl r.1)) r.2 := by
  obtain ⟨v0, v1, hav, h⟩ := c_Num_greatestBelow_inv h0
  rw [r_Num_greatestBelow_eq] at h
  have hmo : ab_mo m r.2 := ab_kp_mo (kp_Num_greatestBelow h0)
  subst hav
  exact ⟨_, _, _, _, _, _, rfl, rfl, by decide, rfl, rfl, rfl, (by intro v hv q e; subst e; simp at hv), ab_met (by decide +kernel) KT_0 KT_nd KT_k3 E_Num_greatestBelow (cl_Num_greatestBelow l) hmo (Nat.le_of_ble_eq_true rfl) (ab_rI_inv h) (fun v hv => by cases hv; exact ⟨_, rfl⟩)⟩
/-! StreamTransport$Numbers.countRangesBelow(II)I -/
def y_Num_countRangesBelow : MethodName := ⟨"StreamTransport$Numbers", "countRangesBelow", "(II)I"⟩
def t_Num_countRangesBelow (pc : Nat) : Option Ent :=
  bif Nat.blt pc 17 then
    (bif Nat.blt pc 7 then
      (bif Nat.blt pc 2 then
        (bif Nat.blt pc 1 then
          (bif Nat.beq pc 0 then some (.iconst 0, 0, 0, 0, 0) else none)
        else
          bif Nat.beq pc 1 then some (.istore_n 3, 3, 0, 0, 0) else none)
      else
        bif Nat.blt pc 3 then
          (bif Nat.beq pc 2 then some (.aload_n 0, 0, 0, 0, 0) else none)
        else
          bif Nat.blt pc 4 then
            (bif Nat.beq pc 3 then some (.iload_n 1, 1, 0, 0, 0) else none)
          else
            bif Nat.beq pc 4 then some (.invokevirtual 32, 19, 2, 1, 0) else none)
    else
      bif Nat.blt pc 11 then
        (bif Nat.blt pc 9 then
          (bif Nat.beq pc 7 then some (.istore 4, 4, 0, 0, 0) else none)
        else
          bif Nat.blt pc 10 then
            (bif Nat.beq pc 9 then some (.iload_n 3, 3, 0, 0, 0) else none)
          else
            bif Nat.beq pc 10 then some (.iload_n 2, 2, 0, 0, 0) else none)
      else
        bif Nat.blt pc 14 then
          (bif Nat.beq pc 11 then some (.if_icmp .ge (27), 38, 0, 0, 0) else none)
        else
          bif Nat.blt pc 16 then
            (bif Nat.beq pc 14 then some (.iload 4, 4, 0, 0, 0) else none)
          else
            bif Nat.beq pc 16 then some (.iconst (-1), 0, 0, 0, -1) else none)
  else
    bif Nat.blt pc 27 then
      (bif Nat.blt pc 23 then
        (bif Nat.blt pc 20 then
          (bif Nat.beq pc 17 then some (.if_icmp .eq (21), 38, 0, 0, 0) else none)
        else
          bif Nat.beq pc 20 then some (.iinc 3 1, 3, 0, 0, 1) else none)
      else
        bif Nat.blt pc 24 then
          (bif Nat.beq pc 23 then some (.aload_n 0, 0, 0, 0, 0) else none)
        else
          bif Nat.blt pc 25 then
            (bif Nat.beq pc 24 then some (.aload_n 0, 0, 0, 0, 0) else none)
          else
            bif Nat.beq pc 25 then some (.iload 4, 4, 0, 0, 0) else none)
    else
      bif Nat.blt pc 35 then
        (bif Nat.blt pc 30 then
          (bif Nat.beq pc 27 then some (.invokevirtual 36, 18, 2, 1, 0) else none)
        else
          bif Nat.blt pc 33 then
            (bif Nat.beq pc 30 then some (.invokevirtual 32, 19, 2, 1, 0) else none)
          else
            bif Nat.beq pc 33 then some (.istore 4, 4, 0, 0, 0) else none)
      else
        bif Nat.blt pc 38 then
          (bif Nat.beq pc 35 then some (.goto (-26), 9, 0, 0, 0) else none)
        else
          bif Nat.blt pc 39 then
            (bif Nat.beq pc 38 then some (.iload_n 3, 3, 0, 0, 0) else none)
          else
            bif Nat.beq pc 39 then some (.ireturn, 0, 0, 0, 0) else none
def i_Num_countRangesBelow : Nat → Option Ent := ab_tab 40 t_Num_countRangesBelow
def h_Num_countRangesBelow (pc : Nat) : Nat × List Bool := bif Nat.beq pc 9 then (1, [true, false, true, true, true]) else (0, [])
def s_Num_countRangesBelow (pc : Nat) : List (Int32 × Nat) × Nat := ([], 0)
noncomputable def eV_Num_countRangesBelow : Nat → List AV → Mm → Option Mm := ab_ev []
noncomputable def eI_Num_countRangesBelow : Nat → List AV → Mm → Option (Int32 × Mm) := ab_ev [(19, c_Num_greatestBelow), (18, c_Num_leastOfRange)]
noncomputable def b_Num_countRangesBelow_0 (f : Nat) (v0 : Nat) (v1 : Int32) (v2 : Int32) (m : Mm) : Option Rs := ab_ex KT none s_Num_countRangesBelow eV_Num_countRangesBelow eI_Num_countRangesBelow i_Num_countRangesBelow h_Num_countRangesBelow f 0 [some (.inr (.inr (8, some v0))), some (.inl v1), some (.inl v2), none, none] [] m
noncomputable def b_Num_countRangesBelow_9 (f : Nat) (v0 : Nat) (v2 : Int32) (v3 : Int32) (v4 : Int32) (m : Mm) : Option Rs := ab_ex KT none s_Num_countRangesBelow eV_Num_countRangesBelow eI_Num_countRangesBelow i_Num_countRangesBelow h_Num_countRangesBelow f 9 [some (.inr (.inr (8, some v0))), none, some (.inl v2), some (.inl v3), some (.inl v4)] [] m
set_option maxRecDepth 100000 in
set_option maxHeartbeats 4000000 in
theorem b_Num_countRangesBelow_0_eq (f : Nat) (v0 : Nat) (v1 : Int32) (v2 : Int32) (m : Mm) : b_Num_countRangesBelow_0 (f + 1) v0 v1 v2 m =
    (r_Num_greatestBelow v0 v1 m).bind fun z1 =>
    b_Num_countRangesBelow_9 f v0 v2 (0 : Int32) z1.1 z1.2 := rfl
set_option maxRecDepth 100000 in
set_option maxHeartbeats 4000000 in
theorem b_Num_countRangesBelow_9_eq (f : Nat) (v0 : Nat) (v2 : Int32) (v3 : Int32) (v4 : Int32) (m : Mm) : b_Num_countRangesBelow_9 (f + 1) v0 v2 v3 v4 m =
    if v2 ≤ v3 then
      some (.inl (some (.inl v3), m))
    else
      if v4 = (-1 : Int32) then
        some (.inl (some (.inl v3), m))
      else
        ab_let (v3 + (1 : Int32)) fun x1 =>
        (r_Num_leastOfRange v0 v4 m).bind fun z2 =>
        (r_Num_greatestBelow v0 z2.1 z2.2).bind fun z3 =>
        b_Num_countRangesBelow_9 f v0 v2 x1 z3.1 z3.2 := rfl
noncomputable def r_Num_countRangesBelow : Nat → Int32 → Int32 → Mm → Option (Int32 × Mm) := ab_seal fun v0 v1 v2 m => ab_rI (b_Num_countRangesBelow_0 50000 v0 v1 v2 m)
theorem r_Num_countRangesBelow_eq (v0 : Nat) (v1 : Int32) (v2 : Int32) (m : Mm) : r_Num_countRangesBelow v0 v1 v2 m = ab_rI (b_Num_countRangesBelow_0 50000 v0 v1 v2 m) := by
  unfold r_Num_countRangesBelow
  rw [ab_seal_eq]
noncomputable def c_Num_countRangesBelow : List AV → Mm → Option (Int32 × Mm) := fun av m => match av with
  | [.inr (.inr (kv0, ov0)), .inl v1, .inl v2] => if kv0 = 8 then (ov0.bind fun v0 => r_Num_countRangesBelow v0 v1 v2 m) else none
  | _ => none
theorem c_Num_countRangesBelow_inv {av : List AV} {m : Mm} {r : Int32 × Mm} (h : c_Num_countRangesBelow av m = some r) : ∃ (v0 : Nat) (v1 : Int32) (v2 : Int32), av = [.inr (.inr (8, some v0)), .inl v1, .inl v2] ∧ r_Num_countRangesBelow v0 v1 v2 m = some r := by
  unfold c_Num_countRangesBelow at h
  split at h
  · rename_i kv0 ov0 v1 v2
    by_cases hkv0 : kv0 = 8
    case neg => rw [if_neg hkv0] at h; cases h
    rw [if_pos hkv0] at h
    subst hkv0
    obtain ⟨v0, hev0, h⟩ := Option.bind_eq_some_iff.mp h
    subst hev0
    exact ⟨v0, v1, v2, rfl, h⟩
  · cases h
def cs_Num_countRangesBelow : List Nat := [4, 27, 30]
set_option maxRecDepth 100000 in
theorem E_Num_countRangesBelow : ∀ (pc : Nat) (q : Ent), i_Num_countRangesBelow pc = some q → ab_E KT CL ab_gW "StreamTransport$Numbers" "countRangesBelow" (some .int) prog_5_method_7_code s_Num_countRangesBelow 5 pc q.1 q.2.1 q.2.2.1 q.2.2.2.1 q.2.2.2.2 := fun pc q hq =>
  ab_Eb_ok lc_Num lj_Num fl_Num (fpn_Num "countRangesBelow") nw_Num na_Num nq_Num (ab_tab_all (t := t_Num_countRangesBelow) (chk := fun pc q => ab_Eb (some .int) prog_5_method_7_code s_Num_countRangesBelow 5 LC_Num LJ_Num FL_Num FPn_Num NW_Num NA_Num NQ_Num pc q.1 q.2.1 q.2.2.1 q.2.2.2.1 q.2.2.2.2) (by decide +kernel) hq)
set_option maxRecDepth 100000 in
theorem kp_Num_countRangesBelow {av : List AV} {m : Mm} {r : Int32 × Mm} (h : c_Num_countRangesBelow av m = some r) : ab_kp m r.2 := by
  obtain ⟨v0, v1, v2, -, h⟩ := c_Num_countRangesBelow_inv h
  rw [r_Num_countRangesBelow_eq] at h
  have hV : ∀ a av m m', eV_Num_countRangesBelow a av m = some m' → ab_kp m m' := ab_ev_all (P := fun _ m r => ab_kp m r) [] (fun q hq => by cases hq)
  have hI : ∀ a av m q, eI_Num_countRangesBelow a av m = some q → ab_kp m q.2 := ab_ev_all (P := fun _ (m : Mm) (r : Int32 × Mm) => ab_kp m r.2) [(19, c_Num_greatestBelow), (18, c_Num_leastOfRange)] (List.forall_mem_cons.mpr ⟨fun av m r h => kp_Num_greatestBelow h, List.forall_mem_cons.mpr ⟨fun av m r h => kp_Num_leastOfRange h, fun q hq => by cases hq⟩⟩)
  exact ab_kprel (ρ := .inl (some (.inl r.1), r.2)) (ab_tab_isn (t := t_Num_countRangesBelow) (by decide +kernel)) hV hI (ab_rI_inv h)
set_option maxRecDepth 100000 in
theorem cl_Num_countRangesBelow (l : Launch) : ∀ (pc : Nat) (q : Ent), i_Num_countRangesBelow pc = some q → ab_inv q.1 = true → ab_CR l KT CL none ab_gW "StreamTransport$Numbers" prog_5_method_7_code 5 2 44 eV_Num_countRangesBelow eI_Num_countRangesBelow pc q := by
  intro pc q hq hi
  have hm : pc ∈ cs_Num_countRangesBelow := ab_tab_cs (t := t_Num_countRangesBelow) (by decide +kernel) hq hi
  simp only [cs_Num_countRangesBelow, List.mem_cons, List.not_mem_nil, or_false] at hm
  rcases hm with rfl | rfl | rfl
  · cases (Option.some.inj hq : ((.invokevirtual 32, 19, 2, 1, 0) : Ent) = q)
    exact ab_crV (C := "StreamTransport$Numbers") (by decide +kernel) cw_Num_greatestBelow (ab_gW_in 473 (by decide +kernel) rfl) is_Num_greatestBelow sl_Num_greatestBelow (by decide) (fun av m m' h => by cases h) (fun av m r h => cm_Num_greatestBelow l h) KT_nd
  · cases (Option.some.inj hq : ((.invokevirtual 36, 18, 2, 1, 0) : Ent) = q)
    exact ab_crV (C := "StreamTransport$Numbers") (by decide +kernel) cw_Num_leastOfRange (ab_gW_in 477 (by decide +kernel) rfl) is_Num_leastOfRange sl_Num_leastOfRange (by decide) (fun av m m' h => by cases h) (fun av m r h => cm_Num_leastOfRange l h) KT_nd
  · cases (Option.some.inj hq : ((.invokevirtual 32, 19, 2, 1, 0) : Ent) = q)
    exact ab_crV (C := "StreamTransport$Numbers") (by decide +kernel) cw_Num_greatestBelow (ab_gW_in 473 (by decide +kernel) rfl) is_Num_greatestBelow sl_Num_greatestBelow (by decide) (fun av m m' h => by cases h) (fun av m r h => cm_Num_greatestBelow l h) KT_nd
theorem cw_Num_countRangesBelow : ab_cw y_Num_countRangesBelow prog_5_method_7_code 5 2 (some .int) := ⟨ab_gW_in 472 (by decide +kernel) rfl, ab_gW_in 64 (by decide +kernel) rfl, by decide +kernel, by decide +kernel, by decide +kernel⟩
theorem is_Num_countRangesBelow : Cond.instanceMethod y_Num_countRangesBelow ∈ ab_gW := ab_gW_in 470 (by decide +kernel) rfl
theorem sl_Num_countRangesBelow : Cond.selects "StreamTransport$Numbers" y_Num_countRangesBelow y_Num_countRangesBelow ∈ ab_gW := ab_gW_in 471 (by decide +kernel) rfl
set_option maxRecDepth 100000 in
theorem cm_Num_countRangesBelow (l : Launch) {av : List AV} {m : Mm} {r : Int32 × Mm} (h0 : c_Num_countRangesBelow av m = some r) : ∃ (k q : Nat) (av' : List AV) (ci : Nat) (fs : List (Nat × Nat × Nat × Nat)) (z : vw_C), av = .inr (.inr (k, some q)) :: av' ∧ av'.length = 2 ∧ k ≠ 0 ∧ KT[k]? = some (.inl (ci, fs)) ∧ CL[ci]? = some z ∧ z.1 = "StreamTransport$Numbers" ∧ ab_nos av' ∧ ab_Met l KT CL y_Num_countRangesBelow (Cond.code y_Num_countRangesBelow prog_5_method_7_code 5 (some .int) :: ab_gW) 2 44 none av m (some (.inl r.1)) r.2 := by
  obtain ⟨v0, v1, v2, hav, h⟩ := c_Num_countRangesBelow_inv h0
  rw [r_Num_countRangesBelow_eq] at h
  have hmo : ab_mo m r.2 := ab_kp_mo (kp_Num_countRangesBelow h0)
  subst hav
  exact ⟨_, _, _, _, _, _, rfl, rfl, by decide, rfl, rfl, rfl, (by intro v hv q e; subst e; simp at hv), ab_met (by decide +kernel) KT_0 KT_nd KT_k3 E_Num_countRangesBelow (cl_Num_countRangesBelow l) hmo (Nat.le_of_ble_eq_true rfl) (ab_rI_inv h) (fun v hv => by cases hv; exact ⟨_, rfl⟩)⟩
end
end
section
section
def FLp_Rdr : List ((Nat × Nat × Nat) × Nat) := [((9, 6, 0), 142), ((15, 6, 2), 147), ((19, 6, 4), 149), ((23, 7, 1), 103), ((28, 6, 5), 150), ((35, 6, 1), 145), ((49, 6, 3), 148), ((55, 7, 0), 100)]
def FL_Rdr : List (Nat × Nat × Nat) := [(9, 6, 0), (15, 6, 2), (19, 6, 4), (23, 7, 1), (28, 6, 5), (35, 6, 1), (49, 6, 3), (55, 7, 0)]
theorem fl_Rdr : ∀ q ∈ FL_Rdr, ab_fld CL ab_gW "StreamTransport$Reader" q.1 q.2.1 q.2.2 := ab_flb_ok (own := "StreamTransport$Reader") (l := FLp_Rdr) (by decide +kernel)
def FPnp_Rdr : List ((Nat × Nat × Nat) × Nat) := [((15, 6, 2), 147), ((19, 6, 4), 149), ((23, 7, 1), 103), ((28, 6, 5), 150), ((35, 6, 1), 145), ((49, 6, 3), 148)]
def FPn_Rdr : List (Nat × Nat × Nat) := [(15, 6, 2), (19, 6, 4), (23, 7, 1), (28, 6, 5), (35, 6, 1), (49, 6, 3)]
theorem fpn_Rdr (nm : String) : ∀ q ∈ FPn_Rdr, ∃ ty, ab_fldp CL ab_gW "StreamTransport$Reader" nm q.1 q.2.1 q.2.2 ty ∧ ∀ (k t r k' d' : Nat), ab_fs KT q.2.1 q.2.2 k = some (t, r, k', d') → (t = 0 → ty = .int) ∧ (t = 1 → ty = .boolean) ∧ (t = 2 → ((∃ n, ty = .object n) ∨ ∃ t, ty = .array t) ∧ k' ≠ 0) := ab_fpb_ok (own := "StreamTransport$Reader") (nm := nm) (l := FPnp_Rdr) (ab_fpn_ok (by decide +kernel))
def FPip_Rdr : List ((Nat × Nat × Nat) × Nat) := [((9, 6, 0), 142), ((15, 6, 2), 147), ((19, 6, 4), 149), ((23, 7, 1), 103), ((28, 6, 5), 150), ((35, 6, 1), 145), ((49, 6, 3), 148)]
def FPi_Rdr : List (Nat × Nat × Nat) := [(9, 6, 0), (15, 6, 2), (19, 6, 4), (23, 7, 1), (28, 6, 5), (35, 6, 1), (49, 6, 3)]
theorem fpi_Rdr : ∀ q ∈ FPi_Rdr, ∃ ty, ab_fldp CL ab_gW "StreamTransport$Reader" "<init>" q.1 q.2.1 q.2.2 ty ∧ ∀ (k t r k' d' : Nat), ab_fs KT q.2.1 q.2.2 k = some (t, r, k', d') → (t = 0 → ty = .int) ∧ (t = 1 → ty = .boolean) ∧ (t = 2 → ((∃ n, ty = .object n) ∨ ∃ t, ty = .array t) ∧ k' ≠ 0) := ab_fpb_ok (own := "StreamTransport$Reader") (nm := "<init>") (l := FPip_Rdr) (by decide +kernel)
def LCp_Rdr : List ((Nat × Int32) × Nat) := []
def LC_Rdr : List (Nat × Int32) := []
theorem lc_Rdr : ∀ q ∈ LC_Rdr, Cond.constant "StreamTransport$Reader" q.1 q.2 ∈ ab_gW := ab_lcb (own := "StreamTransport$Reader") (l := LCp_Rdr) (by decide +kernel)
def LJp_Rdr : List ((Nat × Nat) × Nat) := []
def LJ_Rdr : List (Nat × Nat) := []
theorem lj_Rdr : ∀ q ∈ LJ_Rdr, Cond.constantLong "StreamTransport$Reader" q.1 (Int64.ofNat q.2) ∈ ab_gW := ab_ljb (own := "StreamTransport$Reader") (l := LJp_Rdr) (by decide +kernel)
def NWp_Rdr : List ((Nat × Nat) × Nat × Nat × Nat) := []
def NW_Rdr : List (Nat × Nat) := []
theorem nw_Rdr : ∀ q ∈ NW_Rdr, ab_newok KT CL ab_gW "StreamTransport$Reader" q.1 q.2 := ab_nwb_ok (own := "StreamTransport$Reader") (l := NWp_Rdr) (by decide +kernel)
def NQp_Rdr : List ((Nat × Nat) × Nat) := []
def NQ_Rdr : List (Nat × Nat) := []
theorem nq_Rdr : ∀ q ∈ NQ_Rdr, ab_nqok KT CL ab_gW "StreamTransport$Reader" q.1 q.2 := ab_nqb_ok (own := "StreamTransport$Reader") (l := NQp_Rdr) (by decide +kernel)
def NA_Rdr : List (Nat × Nat) := [(0, 11)]
theorem na_Rdr : ∀ q ∈ NA_Rdr, (q.1 = 0 → ab_naok KT CL ab_gW .int q.2) ∧ (q.1 = 1 → ab_naok KT CL ab_gW .boolean q.2) ∧ (q.1 = 2 → ab_naok KT CL ab_gW .long q.2) := ab_nab_ok (by decide +kernel)
/-! StreamTransport$Reader.begin(LStreamTransport$Row;)V -/
def y_Rdr_begin : MethodName := ⟨"StreamTransport$Reader", "begin", "(LStreamTransport$Row;)V"⟩
def t_Rdr_begin (pc : Nat) : Option Ent :=
  bif Nat.blt pc 10 then
    (bif Nat.blt pc 5 then
      (bif Nat.blt pc 1 then
        (bif Nat.beq pc 0 then some (.aload_n 0, 0, 0, 0, 0) else none)
      else
        bif Nat.blt pc 2 then
          (bif Nat.beq pc 1 then some (.aload_n 1, 1, 0, 0, 0) else none)
        else
          bif Nat.beq pc 2 then some (.putfield 15, 6, 2, 1, 0) else none)
    else
      bif Nat.blt pc 6 then
        (bif Nat.beq pc 5 then some (.aload_n 0, 0, 0, 0, 0) else none)
      else
        bif Nat.blt pc 7 then
          (bif Nat.beq pc 6 then some (.iconst 1, 0, 0, 0, 1) else none)
        else
          bif Nat.beq pc 7 then some (.putfield 19, 6, 4, 0, 0) else none)
  else
    bif Nat.blt pc 15 then
      (bif Nat.blt pc 11 then
        (bif Nat.beq pc 10 then some (.aload_n 0, 0, 0, 0, 0) else none)
      else
        bif Nat.blt pc 12 then
          (bif Nat.beq pc 11 then some (.aload_n 1, 1, 0, 0, 0) else none)
        else
          bif Nat.beq pc 12 then some (.getfield 23, 7, 1, 0, 0) else none)
    else
      bif Nat.blt pc 17 then
        (bif Nat.blt pc 16 then
          (bif Nat.beq pc 15 then some (.iconst 2, 0, 0, 0, 2) else none)
        else
          bif Nat.beq pc 16 then some (.isub, 0, 0, 0, 0) else none)
      else
        bif Nat.blt pc 20 then
          (bif Nat.beq pc 17 then some (.putfield 28, 6, 5, 0, 0) else none)
        else
          bif Nat.beq pc 20 then some (.return_, 0, 0, 0, 0) else none
def i_Rdr_begin : Nat → Option Ent := ab_tab 21 t_Rdr_begin
def h_Rdr_begin (pc : Nat) : Nat × List Bool := (0, [])
def s_Rdr_begin (pc : Nat) : List (Int32 × Nat) × Nat := ([], 0)
noncomputable def eV_Rdr_begin : Nat → List AV → Mm → Option Mm := ab_ev []
noncomputable def eI_Rdr_begin : Nat → List AV → Mm → Option (Int32 × Mm) := ab_ev []
noncomputable def b_Rdr_begin_0 (f : Nat) (v0 : Nat) (v1 : Nat) (m : Mm) : Option Rs := ab_ex KT none s_Rdr_begin eV_Rdr_begin eI_Rdr_begin i_Rdr_begin h_Rdr_begin f 0 [some (.inr (.inr (10, some v0))), some (.inr (.inr (4, some v1)))] [] m
set_option maxRecDepth 100000 in
set_option maxHeartbeats 4000000 in
theorem b_Rdr_begin_0_eq (f : Nat) (v0 : Nat) (v1 : Nat) (m : Mm) : b_Rdr_begin_0 (f + 1) v0 v1 m =
    ab_let (ab_uR m 34 v0 0 (some v1)) fun m1 =>
    ab_let (ab_uI m1 36 v0 0 (1 : Int32)) fun m2 =>
    ab_let (ab_uI m2 37 v0 0 ((m2.1 11 v1 0) - (2 : Int32))) fun m3 =>
    some (.inl (none, m3)) := rfl
noncomputable def r_Rdr_begin : Nat → Nat → Mm → Option Mm := ab_seal fun v0 v1 m => ab_rV (b_Rdr_begin_0 50000 v0 v1 m)
theorem r_Rdr_begin_eq (v0 : Nat) (v1 : Nat) (m : Mm) : r_Rdr_begin v0 v1 m = ab_rV (b_Rdr_begin_0 50000 v0 v1 m) := by
  unfold r_Rdr_begin
  rw [ab_seal_eq]
noncomputable def c_Rdr_begin : List AV → Mm → Option Mm := fun av m => match av with
  | [.inr (.inr (kv0, ov0)), .inr (.inr (kv1, ov1))] => if kv0 = 10 then (if kv1 = 4 then (ov0.bind fun v0 => ov1.bind fun v1 => r_Rdr_begin v0 v1 m) else none) else none
  | _ => none
theorem c_Rdr_begin_inv {av : List AV} {m : Mm} {r : Mm} (h : c_Rdr_begin av m = some r) : ∃ (v0 : Nat) (v1 : Nat), av = [.inr (.inr (10, some v0)), .inr (.inr (4, some v1))] ∧ r_Rdr_begin v0 v1 m = some r := by
  unfold c_Rdr_begin at h
  split at h
  · rename_i kv0 ov0 kv1 ov1
    by_cases hkv0 : kv0 = 10
    case neg => rw [if_neg hkv0] at h; cases h
    rw [if_pos hkv0] at h
    subst hkv0
    by_cases hkv1 : kv1 = 4
    case neg => rw [if_neg hkv1] at h; cases h
    rw [if_pos hkv1] at h
    subst hkv1
    obtain ⟨v0, hev0, h⟩ := Option.bind_eq_some_iff.mp h
    obtain ⟨v1, hev1, h⟩ := Option.bind_eq_some_iff.mp h
    subst hev0
    subst hev1
    exact ⟨v0, v1, rfl, h⟩
  · cases h
def cs_Rdr_begin : List Nat := []
set_option maxRecDepth 100000 in
theorem E_Rdr_begin : ∀ (pc : Nat) (q : Ent), i_Rdr_begin pc = some q → ab_E KT CL ab_gW "StreamTransport$Reader" "begin" none prog_8_method_2_code s_Rdr_begin 2 pc q.1 q.2.1 q.2.2.1 q.2.2.2.1 q.2.2.2.2 := fun pc q hq =>
  ab_Eb_ok lc_Rdr lj_Rdr fl_Rdr (fpn_Rdr "begin") nw_Rdr na_Rdr nq_Rdr (ab_tab_all (t := t_Rdr_begin) (chk := fun pc q => ab_Eb none prog_8_method_2_code s_Rdr_begin 2 LC_Rdr LJ_Rdr FL_Rdr FPn_Rdr NW_Rdr NA_Rdr NQ_Rdr pc q.1 q.2.1 q.2.2.1 q.2.2.2.1 q.2.2.2.2) (by decide +kernel) hq)
set_option maxRecDepth 100000 in
theorem kp_Rdr_begin {av : List AV} {m : Mm} {r : Mm} (h : c_Rdr_begin av m = some r) : ab_kp m r := by
  obtain ⟨v0, v1, -, h⟩ := c_Rdr_begin_inv h
  rw [r_Rdr_begin_eq] at h
  have hV : ∀ a av m m', eV_Rdr_begin a av m = some m' → ab_kp m m' := ab_ev_all (P := fun _ m r => ab_kp m r) [] (fun q hq => by cases hq)
  have hI : ∀ a av m q, eI_Rdr_begin a av m = some q → ab_kp m q.2 := ab_ev_all (P := fun _ (m : Mm) (r : Int32 × Mm) => ab_kp m r.2) [] (fun q hq => by cases hq)
  exact ab_kprel (ρ := .inl (none, r)) (ab_tab_isn (t := t_Rdr_begin) (by decide +kernel)) hV hI (ab_rV_inv h)
set_option maxRecDepth 100000 in
theorem cl_Rdr_begin (l : Launch) : ∀ (pc : Nat) (q : Ent), i_Rdr_begin pc = some q → ab_inv q.1 = true → ab_CR l KT CL none ab_gW "StreamTransport$Reader" prog_8_method_2_code 2 0 0 eV_Rdr_begin eI_Rdr_begin pc q := by
  intro pc q hq hi
  have hm : pc ∈ cs_Rdr_begin := ab_tab_cs (t := t_Rdr_begin) (by decide +kernel) hq hi
  cases hm
theorem cw_Rdr_begin : ab_cw y_Rdr_begin prog_8_method_2_code 2 1 none := ⟨ab_gW_in 639 (by decide +kernel) rfl, ab_gW_in 65 (by decide +kernel) rfl, by decide +kernel, by decide +kernel, by decide +kernel⟩
theorem is_Rdr_begin : Cond.instanceMethod y_Rdr_begin ∈ ab_gW := ab_gW_in 637 (by decide +kernel) rfl
theorem sl_Rdr_begin : Cond.selects "StreamTransport$Reader" y_Rdr_begin y_Rdr_begin ∈ ab_gW := ab_gW_in 638 (by decide +kernel) rfl
set_option maxRecDepth 100000 in
theorem cm_Rdr_begin (l : Launch) {av : List AV} {m : Mm} {r : Mm} (h0 : c_Rdr_begin av m = some r) : ∃ (k q : Nat) (av' : List AV) (ci : Nat) (fs : List (Nat × Nat × Nat × Nat)) (z : vw_C), av = .inr (.inr (k, some q)) :: av' ∧ av'.length = 1 ∧ k ≠ 0 ∧ KT[k]? = some (.inl (ci, fs)) ∧ CL[ci]? = some z ∧ z.1 = "StreamTransport$Reader" ∧ ab_nos av' ∧ ab_Met l KT CL y_Rdr_begin (Cond.code y_Rdr_begin prog_8_method_2_code 2 none :: ab_gW) 0 0 none av m none r := by
  obtain ⟨v0, v1, hav, h⟩ := c_Rdr_begin_inv h0
  rw [r_Rdr_begin_eq] at h
  have hmo : ab_mo m r := ab_kp_mo (kp_Rdr_begin h0)
  subst hav
  exact ⟨_, _, _, _, _, _, rfl, rfl, by decide, rfl, rfl, rfl, (by intro v hv q e; subst e; simp at hv), ab_met (by decide +kernel) KT_0 KT_nd KT_k3 E_Rdr_begin (cl_Rdr_begin l) hmo (Nat.le_of_ble_eq_true rfl) (ab_rV_inv h) (fun v hv => by cases hv)⟩
/-! StreamTransport$Reader.hasMore()Z -/
def y_Rdr_hasMore : MethodName := ⟨"StreamTransport$Reader", "hasMore", "()Z"⟩
def t_Rdr_hasMore (pc : Nat) : Option Ent :=
  bif Nat.blt pc 8 then
    (bif Nat.blt pc 4 then
      (bif Nat.blt pc 1 then
        (bif Nat.beq pc 0 then some (.aload_n 0, 0, 0, 0, 0) else none)
      else
        bif Nat.beq pc 1 then some (.getfield 19, 6, 4, 0, 0) else none)
    else
      bif Nat.blt pc 5 then
        (bif Nat.beq pc 4 then some (.aload_n 0, 0, 0, 0, 0) else none)
      else
        bif Nat.beq pc 5 then some (.getfield 28, 6, 5, 0, 0) else none)
  else
    bif Nat.blt pc 12 then
      (bif Nat.blt pc 11 then
        (bif Nat.beq pc 8 then some (.if_icmp .ge (7), 15, 0, 0, 0) else none)
      else
        bif Nat.beq pc 11 then some (.iconst 1, 0, 0, 0, 1) else none)
    else
      bif Nat.blt pc 15 then
        (bif Nat.beq pc 12 then some (.goto 4, 16, 0, 0, 0) else none)
      else
        bif Nat.blt pc 16 then
          (bif Nat.beq pc 15 then some (.iconst 0, 0, 0, 0, 0) else none)
        else
          bif Nat.beq pc 16 then some (.ireturn, 0, 0, 1, 0) else none
def i_Rdr_hasMore : Nat → Option Ent := ab_tab 17 t_Rdr_hasMore
def h_Rdr_hasMore (pc : Nat) : Nat × List Bool := (0, [])
def s_Rdr_hasMore (pc : Nat) : List (Int32 × Nat) × Nat := ([], 0)
noncomputable def eV_Rdr_hasMore : Nat → List AV → Mm → Option Mm := ab_ev []
noncomputable def eI_Rdr_hasMore : Nat → List AV → Mm → Option (Int32 × Mm) := ab_ev []
noncomputable def b_Rdr_hasMore_0 (f : Nat) (v0 : Nat) (m : Mm) : Option Rs := ab_ex KT none s_Rdr_hasMore eV_Rdr_hasMore eI_Rdr_hasMore i_Rdr_hasMore h_Rdr_hasMore f 0 [some (.inr (.inr (10, some v0)))] [] m
set_option maxRecDepth 100000 in
set_option maxHeartbeats 4000000 in
theorem b_Rdr_hasMore_0_eq (f : Nat) (v0 : Nat) (m : Mm) : b_Rdr_hasMore_0 (f + 1) v0 m =
    if (m.1 37 v0 0) ≤ (m.1 36 v0 0) then
      (ab_bo (0 : Int32)).bind fun y1 => some (.inl (some (.inl y1), m))
    else
      (ab_bo (1 : Int32)).bind fun y2 => some (.inl (some (.inl y2), m)) := rfl
noncomputable def r_Rdr_hasMore : Nat → Mm → Option (Int32 × Mm) := ab_seal fun v0 m => ab_rI (b_Rdr_hasMore_0 50000 v0 m)
theorem r_Rdr_hasMore_eq (v0 : Nat) (m : Mm) : r_Rdr_hasMore v0 m = ab_rI (b_Rdr_hasMore_0 50000 v0 m) := by
  unfold r_Rdr_hasMore
  rw [ab_seal_eq]
noncomputable def c_Rdr_hasMore : List AV → Mm → Option (Int32 × Mm) := fun av m => match av with
  | [.inr (.inr (kv0, ov0))] => if kv0 = 10 then (ov0.bind fun v0 => r_Rdr_hasMore v0 m) else none
  | _ => none
theorem c_Rdr_hasMore_inv {av : List AV} {m : Mm} {r : Int32 × Mm} (h : c_Rdr_hasMore av m = some r) : ∃ (v0 : Nat), av = [.inr (.inr (10, some v0))] ∧ r_Rdr_hasMore v0 m = some r := by
  unfold c_Rdr_hasMore at h
  split at h
  · rename_i kv0 ov0
    by_cases hkv0 : kv0 = 10
    case neg => rw [if_neg hkv0] at h; cases h
    rw [if_pos hkv0] at h
    subst hkv0
    obtain ⟨v0, hev0, h⟩ := Option.bind_eq_some_iff.mp h
    subst hev0
    exact ⟨v0, rfl, h⟩
  · cases h
def cs_Rdr_hasMore : List Nat := []
set_option maxRecDepth 100000 in
theorem E_Rdr_hasMore : ∀ (pc : Nat) (q : Ent), i_Rdr_hasMore pc = some q → ab_E KT CL ab_gW "StreamTransport$Reader" "hasMore" (some .boolean) prog_8_method_3_code s_Rdr_hasMore 1 pc q.1 q.2.1 q.2.2.1 q.2.2.2.1 q.2.2.2.2 := fun pc q hq =>
  ab_Eb_ok lc_Rdr lj_Rdr fl_Rdr (fpn_Rdr "hasMore") nw_Rdr na_Rdr nq_Rdr (ab_tab_all (t := t_Rdr_hasMore) (chk := fun pc q => ab_Eb (some .boolean) prog_8_method_3_code s_Rdr_hasMore 1 LC_Rdr LJ_Rdr FL_Rdr FPn_Rdr NW_Rdr NA_Rdr NQ_Rdr pc q.1 q.2.1 q.2.2.1 q.2.2.2.1 q.2.2.2.2) (by decide +kernel) hq)
set_option maxRecDepth 100000 in
theorem kp_Rdr_hasMore {av : List AV} {m : Mm} {r : Int32 × Mm} (h : c_Rdr_hasMore av m = some r) : ab_kp m r.2 := by
  obtain ⟨v0, -, h⟩ := c_Rdr_hasMore_inv h
  rw [r_Rdr_hasMore_eq] at h
  have hV : ∀ a av m m', eV_Rdr_hasMore a av m = some m' → ab_kp m m' := ab_ev_all (P := fun _ m r => ab_kp m r) [] (fun q hq => by cases hq)
  have hI : ∀ a av m q, eI_Rdr_hasMore a av m = some q → ab_kp m q.2 := ab_ev_all (P := fun _ (m : Mm) (r : Int32 × Mm) => ab_kp m r.2) [] (fun q hq => by cases hq)
  exact ab_kprel (ρ := .inl (some (.inl r.1), r.2)) (ab_tab_isn (t := t_Rdr_hasMore) (by decide +kernel)) hV hI (ab_rI_inv h)
set_option maxRecDepth 100000 in
theorem cl_Rdr_hasMore (l : Launch) : ∀ (pc : Nat) (q : Ent), i_Rdr_hasMore pc = some q → ab_inv q.1 = true → ab_CR l KT CL none ab_gW "StreamTransport$Reader" prog_8_method_3_code 1 0 0 eV_Rdr_hasMore eI_Rdr_hasMore pc q := by
  intro pc q hq hi
  have hm : pc ∈ cs_Rdr_hasMore := ab_tab_cs (t := t_Rdr_hasMore) (by decide +kernel) hq hi
  cases hm
theorem cw_Rdr_hasMore : ab_cw y_Rdr_hasMore prog_8_method_3_code 1 0 (some .boolean) := ⟨ab_gW_in 643 (by decide +kernel) rfl, ab_gW_in 65 (by decide +kernel) rfl, by decide +kernel, by decide +kernel, by decide +kernel⟩
theorem is_Rdr_hasMore : Cond.instanceMethod y_Rdr_hasMore ∈ ab_gW := ab_gW_in 641 (by decide +kernel) rfl
theorem sl_Rdr_hasMore : Cond.selects "StreamTransport$Reader" y_Rdr_hasMore y_Rdr_hasMore ∈ ab_gW := ab_gW_in 642 (by decide +kernel) rfl
set_option maxRecDepth 100000 in
theorem cm_Rdr_hasMore (l : Launch) {av : List AV} {m : Mm} {r : Int32 × Mm} (h0 : c_Rdr_hasMore av m = some r) : ∃ (k q : Nat) (av' : List AV) (ci : Nat) (fs : List (Nat × Nat × Nat × Nat)) (z : vw_C), av = .inr (.inr (k, some q)) :: av' ∧ av'.length = 0 ∧ k ≠ 0 ∧ KT[k]? = some (.inl (ci, fs)) ∧ CL[ci]? = some z ∧ z.1 = "StreamTransport$Reader" ∧ ab_nos av' ∧ ab_Met l KT CL y_Rdr_hasMore (Cond.code y_Rdr_hasMore prog_8_method_3_code 1 (some .boolean) :: ab_gW) 0 0 none av m (some (.inl r.1)) r.2 := by
  obtain ⟨v0, hav, h⟩ := c_Rdr_hasMore_inv h0
  rw [r_Rdr_hasMore_eq] at h
  have hmo : ab_mo m r.2 := ab_kp_mo (kp_Rdr_hasMore h0)
  subst hav
  exact ⟨_, _, _, _, _, _, rfl, rfl, by decide, rfl, rfl, rfl, (by intro v hv q e; subst e; simp at hv), ab_met (by decide +kernel) KT_0 KT_nd KT_k3 E_Rdr_hasMore (cl_Rdr_hasMore l) hmo (Nat.le_of_ble_eq_true rfl) (ab_rI_inv h) (fun v hv => by cases hv; exact ⟨_, rfl⟩)⟩
/-! StreamTransport$Reader.nextByte()I -/
def y_Rdr_nextByte : MethodName := ⟨"StreamTransport$Reader", "nextByte", "()I"⟩
def t_Rdr_nextByte (pc : Nat) : Option Ent :=
  bif Nat.blt pc 29 then
    (bif Nat.blt pc 15 then
      (bif Nat.blt pc 7 then
        (bif Nat.blt pc 1 then
          (bif Nat.beq pc 0 then some (.aload_n 0, 0, 0, 0, 0) else none)
        else
          bif Nat.blt pc 4 then
            (bif Nat.beq pc 1 then some (.getfield 15, 6, 2, 1, 0) else none)
          else
            bif Nat.beq pc 4 then some (.ifnull 23, 27, 0, 0, 0) else none)
      else
        bif Nat.blt pc 11 then
          (bif Nat.blt pc 8 then
            (bif Nat.beq pc 7 then some (.aload_n 0, 0, 0, 0, 0) else none)
          else
            bif Nat.beq pc 8 then some (.getfield 19, 6, 4, 0, 0) else none)
        else
          bif Nat.blt pc 12 then
            (bif Nat.beq pc 11 then some (.aload_n 0, 0, 0, 0, 0) else none)
          else
            bif Nat.beq pc 12 then some (.getfield 28, 6, 5, 0, 0) else none)
    else
      bif Nat.blt pc 22 then
        (bif Nat.blt pc 18 then
          (bif Nat.beq pc 15 then some (.if_icmp .ge (12), 27, 0, 0, 0) else none)
        else
          bif Nat.blt pc 19 then
            (bif Nat.beq pc 18 then some (.aload_n 0, 0, 0, 0, 0) else none)
          else
            bif Nat.beq pc 19 then some (.getfield 19, 6, 4, 0, 0) else none)
      else
        bif Nat.blt pc 27 then
          (bif Nat.blt pc 24 then
            (bif Nat.beq pc 22 then some (.bipush 40, 0, 0, 0, 40) else none)
          else
            bif Nat.beq pc 24 then some (.if_icmp .lt (5), 29, 0, 0, 0) else none)
        else
          bif Nat.blt pc 28 then
            (bif Nat.beq pc 27 then some (.iconst (-1), 0, 0, 0, -1) else none)
          else
            bif Nat.beq pc 28 then some (.ireturn, 0, 0, 0, 0) else none)
  else
    bif Nat.blt pc 40 then
      (bif Nat.blt pc 34 then
        (bif Nat.blt pc 30 then
          (bif Nat.beq pc 29 then some (.aload_n 0, 0, 0, 0, 0) else none)
        else
          bif Nat.blt pc 31 then
            (bif Nat.beq pc 30 then some (.dup, 0, 0, 1, 0) else none)
          else
            bif Nat.beq pc 31 then some (.getfield 19, 6, 4, 0, 0) else none)
      else
        bif Nat.blt pc 36 then
          (bif Nat.blt pc 35 then
            (bif Nat.beq pc 34 then some (.iconst 1, 0, 0, 0, 1) else none)
          else
            bif Nat.beq pc 35 then some (.iadd, 0, 0, 0, 0) else none)
        else
          bif Nat.blt pc 39 then
            (bif Nat.beq pc 36 then some (.putfield 19, 6, 4, 0, 0) else none)
          else
            bif Nat.beq pc 39 then some (.aload_n 0, 0, 0, 0, 0) else none)
    else
      bif Nat.blt pc 50 then
        (bif Nat.blt pc 46 then
          (bif Nat.blt pc 43 then
            (bif Nat.beq pc 40 then some (.getfield 15, 6, 2, 1, 0) else none)
          else
            bif Nat.beq pc 43 then some (.getfield 55, 7, 0, 1, 0) else none)
        else
          bif Nat.blt pc 47 then
            (bif Nat.beq pc 46 then some (.aload_n 0, 0, 0, 0, 0) else none)
          else
            bif Nat.beq pc 47 then some (.getfield 19, 6, 4, 0, 0) else none)
      else
        bif Nat.blt pc 52 then
          (bif Nat.blt pc 51 then
            (bif Nat.beq pc 50 then some (.iconst 1, 0, 0, 0, 1) else none)
          else
            bif Nat.beq pc 51 then some (.isub, 0, 0, 0, 0) else none)
        else
          bif Nat.blt pc 53 then
            (bif Nat.beq pc 52 then some (.iaload, 0, 0, 0, 0) else none)
          else
            bif Nat.beq pc 53 then some (.ireturn, 0, 0, 0, 0) else none
def i_Rdr_nextByte : Nat → Option Ent := ab_tab 54 t_Rdr_nextByte
def h_Rdr_nextByte (pc : Nat) : Nat × List Bool := (0, [])
def s_Rdr_nextByte (pc : Nat) : List (Int32 × Nat) × Nat := ([], 0)
noncomputable def eV_Rdr_nextByte : Nat → List AV → Mm → Option Mm := ab_ev []
noncomputable def eI_Rdr_nextByte : Nat → List AV → Mm → Option (Int32 × Mm) := ab_ev []
noncomputable def b_Rdr_nextByte_0 (f : Nat) (v0 : Nat) (m : Mm) : Option Rs := ab_ex KT none s_Rdr_nextByte eV_Rdr_nextByte eI_Rdr_nextByte i_Rdr_nextByte h_Rdr_nextByte f 0 [some (.inr (.inr (10, some v0)))] [] m
set_option maxRecDepth 100000 in
set_option maxHeartbeats 4000000 in
theorem b_Rdr_nextByte_0_eq (f : Nat) (v0 : Nat) (m : Mm) : b_Rdr_nextByte_0 (f + 1) v0 m =
    Option.elim (m.2.2.1 34 v0 0)
      (some (.inl (some (.inl (-1 : Int32)), m)))
      (fun _ => if (m.1 37 v0 0) ≤ (m.1 36 v0 0) then
        some (.inl (some (.inl (-1 : Int32)), m))
      else
        if (m.1 36 v0 0) < (40 : Int32) then
          ab_let (ab_uI m 36 v0 0 ((m.1 36 v0 0) + (1 : Int32))) fun m1 =>
          (m1.2.2.1 34 v0 0).bind fun q2 =>
            (ab_ix ((m1.1 36 v0 0) - (1 : Int32)) 40).bind fun i3 =>
          some (.inl (some (.inl (m1.1 13 (q2 + 1) i3)), m1))
        else
          some (.inl (some (.inl (-1 : Int32)), m))) := rfl
noncomputable def r_Rdr_nextByte : Nat → Mm → Option (Int32 × Mm) := ab_seal fun v0 m => ab_rI (b_Rdr_nextByte_0 50000 v0 m)
theorem r_Rdr_nextByte_eq (v0 : Nat) (m : Mm) : r_Rdr_nextByte v0 m = ab_rI (b_Rdr_nextByte_0 50000 v0 m) := by
  unfold r_Rdr_nextByte
  rw [ab_seal_eq]
noncomputable def c_Rdr_nextByte : List AV → Mm → Option (Int32 × Mm) := fun av m => match av with
  | [.inr (.inr (kv0, ov0))] => if kv0 = 10 then (ov0.bind fun v0 => r_Rdr_nextByte v0 m) else none
  | _ => none
theorem c_Rdr_nextByte_inv {av : List AV} {m : Mm} {r : Int32 × Mm} (h : c_Rdr_nextByte av m = some r) : ∃ (v0 : Nat), av = [.inr (.inr (10, some v0))] ∧ r_Rdr_nextByte v0 m = some r := by
  unfold c_Rdr_nextByte at h
  split at h
  · rename_i kv0 ov0
    by_cases hkv0 : kv0 = 10
    case neg => rw [if_neg hkv0] at h; cases h
    rw [if_pos hkv0] at h
    subst hkv0
    obtain ⟨v0, hev0, h⟩ := Option.bind_eq_some_iff.mp h
    subst hev0
    exact ⟨v0, rfl, h⟩
  · cases h
def cs_Rdr_nextByte : List Nat := []
set_option maxRecDepth 100000 in
theorem E_Rdr_nextByte : ∀ (pc : Nat) (q : Ent), i_Rdr_nextByte pc = some q → ab_E KT CL ab_gW "StreamTransport$Reader" "nextByte" (some .int) prog_8_method_9_code s_Rdr_nextByte 1 pc q.1 q.2.1 q.2.2.1 q.2.2.2.1 q.2.2.2.2 := fun pc q hq =>
  ab_Eb_ok lc_Rdr lj_Rdr fl_Rdr (fpn_Rdr "nextByte") nw_Rdr na_Rdr nq_Rdr (ab_tab_all (t := t_Rdr_nextByte) (chk := fun pc q => ab_Eb (some .int) prog_8_method_9_code s_Rdr_nextByte 1 LC_Rdr LJ_Rdr FL_Rdr FPn_Rdr NW_Rdr NA_Rdr NQ_Rdr pc q.1 q.2.1 q.2.2.1 q.2.2.2.1 q.2.2.2.2) (by decide +kernel) hq)
set_option maxRecDepth 100000 in
theorem kp_Rdr_nextByte {av : List AV} {m : Mm} {r : Int32 × Mm} (h : c_Rdr_nextByte av m = some r) : ab_kp m r.2 := by
  obtain ⟨v0, -, h⟩ := c_Rdr_nextByte_inv h
  rw [r_Rdr_nextByte_eq] at h
  have hV : ∀ a av m m', eV_Rdr_nextByte a av m = some m' → ab_kp m m' := ab_ev_all (P := fun _ m r => ab_kp m r) [] (fun q hq => by cases hq)
  have hI : ∀ a av m q, eI_Rdr_nextByte a av m = some q → ab_kp m q.2 := ab_ev_all (P := fun _ (m : Mm) (r : Int32 × Mm) => ab_kp m r.2) [] (fun q hq => by cases hq)
  exact ab_kprel (ρ := .inl (some (.inl r.1), r.2)) (ab_tab_isn (t := t_Rdr_nextByte) (by decide +kernel)) hV hI (ab_rI_inv h)
set_option maxRecDepth 100000 in
theorem cl_Rdr_nextByte (l : Launch) : ∀ (pc : Nat) (q : Ent), i_Rdr_nextByte pc = some q → ab_inv q.1 = true → ab_CR l KT CL none ab_gW "StreamTransport$Reader" prog_8_method_9_code 1 0 0 eV_Rdr_nextByte eI_Rdr_nextByte pc q := by
  intro pc q hq hi
  have hm : pc ∈ cs_Rdr_nextByte := ab_tab_cs (t := t_Rdr_nextByte) (by decide +kernel) hq hi
  cases hm
theorem cw_Rdr_nextByte : ab_cw y_Rdr_nextByte prog_8_method_9_code 1 0 (some .int) := ⟨ab_gW_in 651 (by decide +kernel) rfl, ab_gW_in 65 (by decide +kernel) rfl, by decide +kernel, by decide +kernel, by decide +kernel⟩
theorem is_Rdr_nextByte : Cond.instanceMethod y_Rdr_nextByte ∈ ab_gW := ab_gW_in 650 (by decide +kernel) rfl
theorem sl_Rdr_nextByte : Cond.selects "StreamTransport$Reader" y_Rdr_nextByte y_Rdr_nextByte ∈ ab_gW := ab_gW_in 13 (by decide +kernel) rfl
set_option maxRecDepth 100000 in
theorem cm_Rdr_nextByte (l : Launch) {av : List AV} {m : Mm} {r : Int32 × Mm} (h0 : c_Rdr_nextByte av m = some r) : ∃ (k q : Nat) (av' : List AV) (ci : Nat) (fs : List (Nat × Nat × Nat × Nat)) (z : vw_C), av = .inr (.inr (k, some q)) :: av' ∧ av'.length = 0 ∧ k ≠ 0 ∧ KT[k]? = some (.inl (ci, fs)) ∧ CL[ci]? = some z ∧ z.1 = "StreamTransport$Reader" ∧ ab_nos av' ∧ ab_Met l KT CL y_Rdr_nextByte (Cond.code y_Rdr_nextByte prog_8_method_9_code 1 (some .int) :: ab_gW) 0 0 none av m (some (.inl r.1)) r.2 := by
  obtain ⟨v0, hav, h⟩ := c_Rdr_nextByte_inv h0
  rw [r_Rdr_nextByte_eq] at h
  have hmo : ab_mo m r.2 := ab_kp_mo (kp_Rdr_nextByte h0)
  subst hav
  exact ⟨_, _, _, _, _, _, rfl, rfl, by decide, rfl, rfl, rfl, (by intro v hv q e; subst e; simp at hv), ab_met (by decide +kernel) KT_0 KT_nd KT_k3 E_Rdr_nextByte (cl_Rdr_nextByte l) hmo (Nat.le_of_ble_eq_true rfl) (ab_rI_inv h) (fun v hv => by cases hv; exact ⟨_, rfl⟩)⟩
/-! StreamTransport$Reader.nextNumber()I -/
def y_Rdr_nextNumber : MethodName := ⟨"StreamTransport$Reader", "nextNumber", "()I"⟩
def t_Rdr_nextNumber (pc : Nat) : Option Ent :=
  bif Nat.blt pc 41 then
    (bif Nat.blt pc 21 then
      (bif Nat.blt pc 11 then
        (bif Nat.blt pc 5 then
          (bif Nat.blt pc 1 then
            (bif Nat.beq pc 0 then some (.aload_n 0, 0, 0, 0, 0) else none)
          else
            bif Nat.blt pc 4 then
              (bif Nat.beq pc 1 then some (.invokevirtual 31, 23, 1, 1, 0) else none)
            else
              bif Nat.beq pc 4 then some (.istore_n 1, 1, 0, 0, 0) else none)
        else
          bif Nat.blt pc 6 then
            (bif Nat.beq pc 5 then some (.iload_n 1, 1, 0, 0, 0) else none)
          else
            bif Nat.blt pc 8 then
              (bif Nat.beq pc 6 then some (.bipush 64, 0, 0, 0, 64) else none)
            else
              bif Nat.beq pc 8 then some (.if_icmp .ge (5), 13, 0, 0, 0) else none)
      else
        bif Nat.blt pc 14 then
          (bif Nat.blt pc 12 then
            (bif Nat.beq pc 11 then some (.iload_n 1, 1, 0, 0, 0) else none)
          else
            bif Nat.blt pc 13 then
              (bif Nat.beq pc 12 then some (.ireturn, 0, 0, 0, 0) else none)
            else
              bif Nat.beq pc 13 then some (.iload_n 1, 1, 0, 0, 0) else none)
        else
          bif Nat.blt pc 17 then
            (bif Nat.beq pc 14 then some (.sipush 192, 0, 0, 0, 192) else none)
          else
            bif Nat.blt pc 20 then
              (bif Nat.beq pc 17 then some (.if_icmp .lt (5), 22, 0, 0, 0) else none)
            else
              bif Nat.beq pc 20 then some (.iconst (-1), 0, 0, 0, -1) else none)
    else
      bif Nat.blt pc 33 then
        (bif Nat.blt pc 26 then
          (bif Nat.blt pc 22 then
            (bif Nat.beq pc 21 then some (.ireturn, 0, 0, 0, 0) else none)
          else
            bif Nat.blt pc 23 then
              (bif Nat.beq pc 22 then some (.iload_n 1, 1, 0, 0, 0) else none)
            else
              bif Nat.beq pc 23 then some (.sipush 128, 0, 0, 0, 128) else none)
        else
          bif Nat.blt pc 29 then
            (bif Nat.beq pc 26 then some (.if_icmp .ge (7), 33, 0, 0, 0) else none)
          else
            bif Nat.blt pc 30 then
              (bif Nat.beq pc 29 then some (.iconst 1, 0, 0, 0, 1) else none)
            else
              bif Nat.beq pc 30 then some (.goto 4, 34, 0, 0, 0) else none)
      else
        bif Nat.blt pc 36 then
          (bif Nat.blt pc 34 then
            (bif Nat.beq pc 33 then some (.iconst 3, 0, 0, 0, 3) else none)
          else
            bif Nat.blt pc 35 then
              (bif Nat.beq pc 34 then some (.istore_n 2, 2, 0, 0, 0) else none)
            else
              bif Nat.beq pc 35 then some (.iload_n 2, 2, 0, 0, 0) else none)
        else
          bif Nat.blt pc 37 then
            (bif Nat.beq pc 36 then some (.aload_n 0, 0, 0, 0, 0) else none)
          else
            bif Nat.blt pc 40 then
              (bif Nat.beq pc 37 then some (.getfield 28, 6, 5, 0, 0) else none)
            else
              bif Nat.beq pc 40 then some (.aload_n 0, 0, 0, 0, 0) else none)
  else
    bif Nat.blt pc 60 then
      (bif Nat.blt pc 51 then
        (bif Nat.blt pc 48 then
          (bif Nat.blt pc 44 then
            (bif Nat.beq pc 41 then some (.getfield 19, 6, 4, 0, 0) else none)
          else
            bif Nat.blt pc 45 then
              (bif Nat.beq pc 44 then some (.isub, 0, 0, 0, 0) else none)
            else
              bif Nat.beq pc 45 then some (.if_icmp .le (5), 50, 0, 0, 0) else none)
        else
          bif Nat.blt pc 49 then
            (bif Nat.beq pc 48 then some (.iconst (-1), 0, 0, 0, -1) else none)
          else
            bif Nat.blt pc 50 then
              (bif Nat.beq pc 49 then some (.ireturn, 0, 0, 0, 0) else none)
            else
              bif Nat.beq pc 50 then some (.iload_n 1, 1, 0, 0, 0) else none)
      else
        bif Nat.blt pc 55 then
          (bif Nat.blt pc 53 then
            (bif Nat.beq pc 51 then some (.bipush 63, 0, 0, 0, 63) else none)
          else
            bif Nat.blt pc 54 then
              (bif Nat.beq pc 53 then some (.iand, 0, 0, 0, 0) else none)
            else
              bif Nat.beq pc 54 then some (.istore_n 3, 3, 0, 0, 0) else none)
        else
          bif Nat.blt pc 56 then
            (bif Nat.beq pc 55 then some (.iconst 0, 0, 0, 0, 0) else none)
          else
            bif Nat.blt pc 58 then
              (bif Nat.beq pc 56 then some (.istore 4, 4, 0, 0, 0) else none)
            else
              bif Nat.beq pc 58 then some (.iload 4, 4, 0, 0, 0) else none)
    else
      bif Nat.blt pc 70 then
        (bif Nat.blt pc 65 then
          (bif Nat.blt pc 61 then
            (bif Nat.beq pc 60 then some (.iload_n 2, 2, 0, 0, 0) else none)
          else
            bif Nat.blt pc 64 then
              (bif Nat.beq pc 61 then some (.if_icmp .ge (20), 81, 0, 0, 0) else none)
            else
              bif Nat.beq pc 64 then some (.iload_n 3, 3, 0, 0, 0) else none)
        else
          bif Nat.blt pc 68 then
            (bif Nat.beq pc 65 then some (.sipush 256, 0, 0, 0, 256) else none)
          else
            bif Nat.blt pc 69 then
              (bif Nat.beq pc 68 then some (.imul, 0, 0, 0, 0) else none)
            else
              bif Nat.beq pc 69 then some (.aload_n 0, 0, 0, 0, 0) else none)
      else
        bif Nat.blt pc 75 then
          (bif Nat.blt pc 73 then
            (bif Nat.beq pc 70 then some (.invokevirtual 31, 23, 1, 1, 0) else none)
          else
            bif Nat.blt pc 74 then
              (bif Nat.beq pc 73 then some (.iadd, 0, 0, 0, 0) else none)
            else
              bif Nat.beq pc 74 then some (.istore_n 3, 3, 0, 0, 0) else none)
        else
          bif Nat.blt pc 81 then
            (bif Nat.blt pc 78 then
              (bif Nat.beq pc 75 then some (.iinc 4 1, 4, 0, 0, 1) else none)
            else
              bif Nat.beq pc 78 then some (.goto (-20), 58, 0, 0, 0) else none)
          else
            bif Nat.blt pc 82 then
              (bif Nat.beq pc 81 then some (.iload_n 3, 3, 0, 0, 0) else none)
            else
              bif Nat.beq pc 82 then some (.ireturn, 0, 0, 0, 0) else none
def i_Rdr_nextNumber : Nat → Option Ent := ab_tab 83 t_Rdr_nextNumber
def h_Rdr_nextNumber (pc : Nat) : Nat × List Bool := bif Nat.beq pc 34 then (1, [true, true, false, false, false]) else bif Nat.beq pc 58 then (1, [true, false, true, true, true]) else (0, [])
def s_Rdr_nextNumber (pc : Nat) : List (Int32 × Nat) × Nat := ([], 0)
noncomputable def eV_Rdr_nextNumber : Nat → List AV → Mm → Option Mm := ab_ev []
noncomputable def eI_Rdr_nextNumber : Nat → List AV → Mm → Option (Int32 × Mm) := ab_ev [(23, c_Rdr_nextByte)]
noncomputable def b_Rdr_nextNumber_0 (f : Nat) (v0 : Nat) (m : Mm) : Option Rs := ab_ex KT none s_Rdr_nextNumber eV_Rdr_nextNumber eI_Rdr_nextNumber i_Rdr_nextNumber h_Rdr_nextNumber f 0 [some (.inr (.inr (10, some v0))), none, none, none, none] [] m
noncomputable def b_Rdr_nextNumber_34 (f : Nat) (v0 : Nat) (v1 : Int32) (u0 : Int32) (m : Mm) : Option Rs := ab_ex KT none s_Rdr_nextNumber eV_Rdr_nextNumber eI_Rdr_nextNumber i_Rdr_nextNumber h_Rdr_nextNumber f 34 [some (.inr (.inr (10, some v0))), some (.inl v1), none, none, none] [.inl u0] m
noncomputable def b_Rdr_nextNumber_58 (f : Nat) (v0 : Nat) (v2 : Int32) (v3 : Int32) (v4 : Int32) (m : Mm) : Option Rs := ab_ex KT none s_Rdr_nextNumber eV_Rdr_nextNumber eI_Rdr_nextNumber i_Rdr_nextNumber h_Rdr_nextNumber f 58 [some (.inr (.inr (10, some v0))), none, some (.inl v2), some (.inl v3), some (.inl v4)] [] m
set_option maxRecDepth 100000 in
set_option maxHeartbeats 4000000 in
theorem b_Rdr_nextNumber_0_eq (f : Nat) (v0 : Nat) (m : Mm) : b_Rdr_nextNumber_0 (f + 1) v0 m =
    (r_Rdr_nextByte v0 m).bind fun z1 =>
    if (64 : Int32) ≤ z1.1 then
      if z1.1 < (192 : Int32) then
        if (128 : Int32) ≤ z1.1 then
          b_Rdr_nextNumber_34 f v0 z1.1 (3 : Int32) z1.2
        else
          b_Rdr_nextNumber_34 f v0 z1.1 (1 : Int32) z1.2
      else
        some (.inl (some (.inl (-1 : Int32)), z1.2))
    else
      some (.inl (some (.inl z1.1), z1.2)) := rfl
set_option maxRecDepth 100000 in
set_option maxHeartbeats 4000000 in
theorem b_Rdr_nextNumber_34_eq (f : Nat) (v0 : Nat) (v1 : Int32) (u0 : Int32) (m : Mm) : b_Rdr_nextNumber_34 (f + 1) v0 v1 u0 m =
    if u0 ≤ ((m.1 37 v0 0) - (m.1 36 v0 0)) then
      ab_let ((v1 &&& (63 : Int32))) fun x1 =>
      b_Rdr_nextNumber_58 f v0 u0 x1 (0 : Int32) m
    else
      some (.inl (some (.inl (-1 : Int32)), m)) := rfl
set_option maxRecDepth 100000 in
set_option maxHeartbeats 4000000 in
theorem b_Rdr_nextNumber_58_eq (f : Nat) (v0 : Nat) (v2 : Int32) (v3 : Int32) (v4 : Int32) (m : Mm) : b_Rdr_nextNumber_58 (f + 1) v0 v2 v3 v4 m =
    if v2 ≤ v4 then
      some (.inl (some (.inl v3), m))
    else
      (r_Rdr_nextByte v0 m).bind fun z1 =>
      ab_let (((v3 * (256 : Int32)) + z1.1)) fun x2 =>
      ab_let (v4 + (1 : Int32)) fun x3 =>
      b_Rdr_nextNumber_58 f v0 v2 x2 x3 z1.2 := rfl
noncomputable def r_Rdr_nextNumber : Nat → Mm → Option (Int32 × Mm) := ab_seal fun v0 m => ab_rI (b_Rdr_nextNumber_0 50000 v0 m)
theorem r_Rdr_nextNumber_eq (v0 : Nat) (m : Mm) : r_Rdr_nextNumber v0 m = ab_rI (b_Rdr_nextNumber_0 50000 v0 m) := by
  unfold r_Rdr_nextNumber
  rw [ab_seal_eq]
noncomputable def c_Rdr_nextNumber : List AV → Mm → Option (Int32 × Mm) := fun av m => match av with
  | [.inr (.inr (kv0, ov0))] => if kv0 = 10 then (ov0.bind fun v0 => r_Rdr_nextNumber v0 m) else none
  | _ => none
theorem c_Rdr_nextNumber_inv {av : List AV} {m : Mm} {r : Int32 × Mm} (h : c_Rdr_nextNumber av m = some r) : ∃ (v0 : Nat), av = [.inr (.inr (10, some v0))] ∧ r_Rdr_nextNumber v0 m = some r := by
  unfold c_Rdr_nextNumber at h
  split at h
  · rename_i kv0 ov0
    by_cases hkv0 : kv0 = 10
    case neg => rw [if_neg hkv0] at h; cases h
    rw [if_pos hkv0] at h
    subst hkv0
    obtain ⟨v0, hev0, h⟩ := Option.bind_eq_some_iff.mp h
    subst hev0
    exact ⟨v0, rfl, h⟩
  · cases h
def cs_Rdr_nextNumber : List Nat := [1, 70]
set_option maxRecDepth 100000 in
theorem E_Rdr_nextNumber : ∀ (pc : Nat) (q : Ent), i_Rdr_nextNumber pc = some q → ab_E KT CL ab_gW "StreamTransport$Reader" "nextNumber" (some .int) prog_8_method_8_code s_Rdr_nextNumber 5 pc q.1 q.2.1 q.2.2.1 q.2.2.2.1 q.2.2.2.2 := fun pc q hq =>
  ab_Eb_ok lc_Rdr lj_Rdr fl_Rdr (fpn_Rdr "nextNumber") nw_Rdr na_Rdr nq_Rdr (ab_tab_all (t := t_Rdr_nextNumber) (chk := fun pc q => ab_Eb (some .int) prog_8_method_8_code s_Rdr_nextNumber 5 LC_Rdr LJ_Rdr FL_Rdr FPn_Rdr NW_Rdr NA_Rdr NQ_Rdr pc q.1 q.2.1 q.2.2.1 q.2.2.2.1 q.2.2.2.2) (by decide +kernel) hq)
set_option maxRecDepth 100000 in
theorem kp_Rdr_nextNumber {av : List AV} {m : Mm} {r : Int32 × Mm} (h : c_Rdr_nextNumber av m = some r) : ab_kp m r.2 := by
  obtain ⟨v0, -, h⟩ := c_Rdr_nextNumber_inv h
  rw [r_Rdr_nextNumber_eq] at h
  have hV : ∀ a av m m', eV_Rdr_nextNumber a av m = some m' → ab_kp m m' := ab_ev_all (P := fun _ m r => ab_kp m r) [] (fun q hq => by cases hq)
  have hI : ∀ a av m q, eI_Rdr_nextNumber a av m = some q → ab_kp m q.2 := ab_ev_all (P := fun _ (m : Mm) (r : Int32 × Mm) => ab_kp m r.2) [(23, c_Rdr_nextByte)] (List.forall_mem_cons.mpr ⟨fun av m r h => kp_Rdr_nextByte h, fun q hq => by cases hq⟩)
  exact ab_kprel (ρ := .inl (some (.inl r.1), r.2)) (ab_tab_isn (t := t_Rdr_nextNumber) (by decide +kernel)) hV hI (ab_rI_inv h)
set_option maxRecDepth 100000 in
theorem cl_Rdr_nextNumber (l : Launch) : ∀ (pc : Nat) (q : Ent), i_Rdr_nextNumber pc = some q → ab_inv q.1 = true → ab_CR l KT CL none ab_gW "StreamTransport$Reader" prog_8_method_8_code 5 1 20 eV_Rdr_nextNumber eI_Rdr_nextNumber pc q := by
  intro pc q hq hi
  have hm : pc ∈ cs_Rdr_nextNumber := ab_tab_cs (t := t_Rdr_nextNumber) (by decide +kernel) hq hi
  simp only [cs_Rdr_nextNumber, List.mem_cons, List.not_mem_nil, or_false] at hm
  rcases hm with rfl | rfl
  · cases (Option.some.inj hq : ((.invokevirtual 31, 23, 1, 1, 0) : Ent) = q)
    exact ab_crV (C := "StreamTransport$Reader") (by decide +kernel) cw_Rdr_nextByte (ab_gW_in 648 (by decide +kernel) rfl) is_Rdr_nextByte sl_Rdr_nextByte (by decide) (fun av m m' h => by cases h) (fun av m r h => cm_Rdr_nextByte l h) KT_nd
  · cases (Option.some.inj hq : ((.invokevirtual 31, 23, 1, 1, 0) : Ent) = q)
    exact ab_crV (C := "StreamTransport$Reader") (by decide +kernel) cw_Rdr_nextByte (ab_gW_in 648 (by decide +kernel) rfl) is_Rdr_nextByte sl_Rdr_nextByte (by decide) (fun av m m' h => by cases h) (fun av m r h => cm_Rdr_nextByte l h) KT_nd
theorem cw_Rdr_nextNumber : ab_cw y_Rdr_nextNumber prog_8_method_8_code 5 0 (some .int) := ⟨ab_gW_in 663 (by decide +kernel) rfl, ab_gW_in 65 (by decide +kernel) rfl, by decide +kernel, by decide +kernel, by decide +kernel⟩
theorem is_Rdr_nextNumber : Cond.instanceMethod y_Rdr_nextNumber ∈ ab_gW := ab_gW_in 662 (by decide +kernel) rfl
theorem sl_Rdr_nextNumber : Cond.selects "StreamTransport$Reader" y_Rdr_nextNumber y_Rdr_nextNumber ∈ ab_gW := ab_gW_in 16 (by decide +kernel) rfl
set_option maxRecDepth 100000 in
theorem cm_Rdr_nextNumber (l : Launch) {av : List AV} {m : Mm} {r : Int32 × Mm} (h0 : c_Rdr_nextNumber av m = some r) : ∃ (k q : Nat) (av' : List AV) (ci : Nat) (fs : List (Nat × Nat × Nat × Nat)) (z : vw_C), av = .inr (.inr (k, some q)) :: av' ∧ av'.length = 0 ∧ k ≠ 0 ∧ KT[k]? = some (.inl (ci, fs)) ∧ CL[ci]? = some z ∧ z.1 = "StreamTransport$Reader" ∧ ab_nos av' ∧ ab_Met l KT CL y_Rdr_nextNumber (Cond.code y_Rdr_nextNumber prog_8_method_8_code 5 (some .int) :: ab_gW) 1 20 none av m (some (.inl r.1)) r.2 := by
  obtain ⟨v0, hav, h⟩ := c_Rdr_nextNumber_inv h0
  rw [r_Rdr_nextNumber_eq] at h
  have hmo : ab_mo m r.2 := ab_kp_mo (kp_Rdr_nextNumber h0)
  subst hav
  exact ⟨_, _, _, _, _, _, rfl, rfl, by decide, rfl, rfl, rfl, (by intro v hv q e; subst e; simp at hv), ab_met (by decide +kernel) KT_0 KT_nd KT_k3 E_Rdr_nextNumber (cl_Rdr_nextNumber l) hmo (Nat.le_of_ble_eq_true rfl) (ab_rI_inv h) (fun v hv => by cases hv; exact ⟨_, rfl⟩)⟩
/-! StreamTransport$Reader.stepNumbers(II)Z -/
def y_Rdr_stepNumbers : MethodName := ⟨"StreamTransport$Reader", "stepNumbers", "(II)Z"⟩
def t_Rdr_stepNumbers (pc : Nat) : Option Ent :=
  bif Nat.blt pc 21 then
    (bif Nat.blt pc 9 then
      (bif Nat.blt pc 3 then
        (bif Nat.blt pc 1 then
          (bif Nat.beq pc 0 then some (.iload_n 1, 1, 0, 0, 0) else none)
        else
          bif Nat.blt pc 2 then
            (bif Nat.beq pc 1 then some (.istore_n 3, 3, 0, 0, 0) else none)
          else
            bif Nat.beq pc 2 then some (.iload_n 3, 3, 0, 0, 0) else none)
      else
        bif Nat.blt pc 5 then
          (bif Nat.blt pc 4 then
            (bif Nat.beq pc 3 then some (.iload_n 1, 1, 0, 0, 0) else none)
          else
            bif Nat.beq pc 4 then some (.iload_n 2, 2, 0, 0, 0) else none)
        else
          bif Nat.blt pc 6 then
            (bif Nat.beq pc 5 then some (.iadd, 0, 0, 0, 0) else none)
          else
            bif Nat.beq pc 6 then some (.if_icmp .ge (37), 43, 0, 0, 0) else none)
    else
      bif Nat.blt pc 15 then
        (bif Nat.blt pc 10 then
          (bif Nat.beq pc 9 then some (.iload_n 3, 3, 0, 0, 0) else none)
        else
          bif Nat.blt pc 12 then
            (bif Nat.beq pc 10 then some (.bipush 7, 0, 0, 0, 7) else none)
          else
            bif Nat.beq pc 12 then some (.if_icmp .ge (31), 43, 0, 0, 0) else none)
      else
        bif Nat.blt pc 19 then
          (bif Nat.blt pc 16 then
            (bif Nat.beq pc 15 then some (.aload_n 0, 0, 0, 0, 0) else none)
          else
            bif Nat.beq pc 16 then some (.getfield 9, 6, 0, 1, 0) else none)
        else
          bif Nat.blt pc 20 then
            (bif Nat.beq pc 19 then some (.iload_n 3, 3, 0, 0, 0) else none)
          else
            bif Nat.beq pc 20 then some (.aload_n 0, 0, 0, 0, 0) else none)
  else
    bif Nat.blt pc 32 then
      (bif Nat.blt pc 26 then
        (bif Nat.blt pc 24 then
          (bif Nat.beq pc 21 then some (.invokevirtual 52, 24, 1, 1, 0) else none)
        else
          bif Nat.blt pc 25 then
            (bif Nat.beq pc 24 then some (.iastore, 0, 0, 0, 0) else none)
          else
            bif Nat.beq pc 25 then some (.aload_n 0, 0, 0, 0, 0) else none)
      else
        bif Nat.blt pc 30 then
          (bif Nat.blt pc 29 then
            (bif Nat.beq pc 26 then some (.getfield 9, 6, 0, 1, 0) else none)
          else
            bif Nat.beq pc 29 then some (.iload_n 3, 3, 0, 0, 0) else none)
        else
          bif Nat.blt pc 31 then
            (bif Nat.beq pc 30 then some (.iaload, 0, 0, 0, 0) else none)
          else
            bif Nat.beq pc 31 then some (.iconst (-1), 0, 0, 0, -1) else none)
    else
      bif Nat.blt pc 37 then
        (bif Nat.blt pc 35 then
          (bif Nat.beq pc 32 then some (.if_icmp .ne (5), 37, 0, 0, 0) else none)
        else
          bif Nat.blt pc 36 then
            (bif Nat.beq pc 35 then some (.iconst 0, 0, 0, 0, 0) else none)
          else
            bif Nat.beq pc 36 then some (.ireturn, 0, 0, 1, 0) else none)
      else
        bif Nat.blt pc 43 then
          (bif Nat.blt pc 40 then
            (bif Nat.beq pc 37 then some (.iinc 3 1, 3, 0, 0, 1) else none)
          else
            bif Nat.beq pc 40 then some (.goto (-38), 2, 0, 0, 0) else none)
        else
          bif Nat.blt pc 44 then
            (bif Nat.beq pc 43 then some (.iconst 1, 0, 0, 0, 1) else none)
          else
            bif Nat.beq pc 44 then some (.ireturn, 0, 0, 1, 0) else none
def i_Rdr_stepNumbers : Nat → Option Ent := ab_tab 45 t_Rdr_stepNumbers
def h_Rdr_stepNumbers (pc : Nat) : Nat × List Bool := bif Nat.beq pc 2 then (1, [true, true, true, true]) else (0, [])
def s_Rdr_stepNumbers (pc : Nat) : List (Int32 × Nat) × Nat := ([], 0)
noncomputable def eV_Rdr_stepNumbers : Nat → List AV → Mm → Option Mm := ab_ev []
noncomputable def eI_Rdr_stepNumbers : Nat → List AV → Mm → Option (Int32 × Mm) := ab_ev [(24, c_Rdr_nextNumber)]
noncomputable def b_Rdr_stepNumbers_0 (f : Nat) (v0 : Nat) (v1 : Int32) (v2 : Int32) (m : Mm) : Option Rs := ab_ex KT none s_Rdr_stepNumbers eV_Rdr_stepNumbers eI_Rdr_stepNumbers i_Rdr_stepNumbers h_Rdr_stepNumbers f 0 [some (.inr (.inr (10, some v0))), some (.inl v1), some (.inl v2), none] [] m
noncomputable def b_Rdr_stepNumbers_2 (f : Nat) (v0 : Nat) (v1 : Int32) (v2 : Int32) (v3 : Int32) (m : Mm) : Option Rs := ab_ex KT none s_Rdr_stepNumbers eV_Rdr_stepNumbers eI_Rdr_stepNumbers i_Rdr_stepNumbers h_Rdr_stepNumbers f 2 [some (.inr (.inr (10, some v0))), some (.inl v1), some (.inl v2), some (.inl v3)] [] m
set_option maxRecDepth 100000 in
set_option maxHeartbeats 4000000 in
theorem b_Rdr_stepNumbers_0_eq (f : Nat) (v0 : Nat) (v1 : Int32) (v2 : Int32) (m : Mm) : b_Rdr_stepNumbers_0 (f + 1) v0 v1 v2 m =
    b_Rdr_stepNumbers_2 f v0 v1 v2 v1 m := rfl
set_option maxRecDepth 100000 in
set_option maxHeartbeats 4000000 in
theorem b_Rdr_stepNumbers_2_eq (f : Nat) (v0 : Nat) (v1 : Int32) (v2 : Int32) (v3 : Int32) (m : Mm) : b_Rdr_stepNumbers_2 (f + 1) v0 v1 v2 v3 m =
    if (v1 + v2) ≤ v3 then
      (ab_bo (1 : Int32)).bind fun y1 => some (.inl (some (.inl y1), m))
    else
      if (7 : Int32) ≤ v3 then
        (ab_bo (1 : Int32)).bind fun y2 => some (.inl (some (.inl y2), m))
      else
        (r_Rdr_nextNumber v0 m).bind fun z3 =>
        (ab_ix v3 7).bind fun i4 =>
        ab_let (ab_uI z3.2 38 (v0 + 1) i4 z3.1) fun m5 =>
        (ab_ix v3 7).bind fun i6 =>
        if (m5.1 38 (v0 + 1) i6) = (-1 : Int32) then
          (ab_bo (0 : Int32)).bind fun y8 => some (.inl (some (.inl y8), m5))
        else
          ab_let (v3 + (1 : Int32)) fun x7 =>
          b_Rdr_stepNumbers_2 f v0 v1 v2 x7 m5 := rfl
noncomputable def r_Rdr_stepNumbers : Nat → Int32 → Int32 → Mm → Option (Int32 × Mm) := ab_seal fun v0 v1 v2 m => ab_rI (b_Rdr_stepNumbers_0 50000 v0 v1 v2 m)
theorem r_Rdr_stepNumbers_eq (v0 : Nat) (v1 : Int32) (v2 : Int32) (m : Mm) : r_Rdr_stepNumbers v0 v1 v2 m = ab_rI (b_Rdr_stepNumbers_0 50000 v0 v1 v2 m) := by
  unfold r_Rdr_stepNumbers
  rw [ab_seal_eq]
noncomputable def c_Rdr_stepNumbers : List AV → Mm → Option (Int32 × Mm) := fun av m => match av with
  | [.inr (.inr (kv0, ov0)), .inl v1, .inl v2] => if kv0 = 10 then (ov0.bind fun v0 => r_Rdr_stepNumbers v0 v1 v2 m) else none
  | _ => none
theorem c_Rdr_stepNumbers_inv {av : List AV} {m : Mm} {r : Int32 × Mm} (h : c_Rdr_stepNumbers av m = some r) : ∃ (v0 : Nat) (v1 : Int32) (v2 : Int32), av = [.inr (.inr (10, some v0)), .inl v1, .inl v2] ∧ r_Rdr_stepNumbers v0 v1 v2 m = some r := by
  unfold c_Rdr_stepNumbers at h
  split at h
  · rename_i kv0 ov0 v1 v2
    by_cases hkv0 : kv0 = 10
    case neg => rw [if_neg hkv0] at h; cases h
    rw [if_pos hkv0] at h
    subst hkv0
    obtain ⟨v0, hev0, h⟩ := Option.bind_eq_some_iff.mp h
    subst hev0
    exact ⟨v0, v1, v2, rfl, h⟩
  · cases h
def cs_Rdr_stepNumbers : List Nat := [21]
set_option maxRecDepth 100000 in
theorem E_Rdr_stepNumbers : ∀ (pc : Nat) (q : Ent), i_Rdr_stepNumbers pc = some q → ab_E KT CL ab_gW "StreamTransport$Reader" "stepNumbers" (some .boolean) prog_8_method_7_code s_Rdr_stepNumbers 4 pc q.1 q.2.1 q.2.2.1 q.2.2.2.1 q.2.2.2.2 := fun pc q hq =>
  ab_Eb_ok lc_Rdr lj_Rdr fl_Rdr (fpn_Rdr "stepNumbers") nw_Rdr na_Rdr nq_Rdr (ab_tab_all (t := t_Rdr_stepNumbers) (chk := fun pc q => ab_Eb (some .boolean) prog_8_method_7_code s_Rdr_stepNumbers 4 LC_Rdr LJ_Rdr FL_Rdr FPn_Rdr NW_Rdr NA_Rdr NQ_Rdr pc q.1 q.2.1 q.2.2.1 q.2.2.2.1 q.2.2.2.2) (by decide +kernel) hq)
set_option maxRecDepth 100000 in
theorem kp_Rdr_stepNumbers {av : List AV} {m : Mm} {r : Int32 × Mm} (h : c_Rdr_stepNumbers av m = some r) : ab_kp m r.2 := by
  obtain ⟨v0, v1, v2, -, h⟩ := c_Rdr_stepNumbers_inv h
  rw [r_Rdr_stepNumbers_eq] at h
  have hV : ∀ a av m m', eV_Rdr_stepNumbers a av m = some m' → ab_kp m m' := ab_ev_all (P := fun _ m r => ab_kp m r) [] (fun q hq => by cases hq)
  have hI : ∀ a av m q, eI_Rdr_stepNumbers a av m = some q → ab_kp m q.2 := ab_ev_all (P := fun _ (m : Mm) (r : Int32 × Mm) => ab_kp m r.2) [(24, c_Rdr_nextNumber)] (List.forall_mem_cons.mpr ⟨fun av m r h => kp_Rdr_nextNumber h, fun q hq => by cases hq⟩)
  exact ab_kprel (ρ := .inl (some (.inl r.1), r.2)) (ab_tab_isn (t := t_Rdr_stepNumbers) (by decide +kernel)) hV hI (ab_rI_inv h)
set_option maxRecDepth 100000 in
theorem cl_Rdr_stepNumbers (l : Launch) : ∀ (pc : Nat) (q : Ent), i_Rdr_stepNumbers pc = some q → ab_inv q.1 = true → ab_CR l KT CL none ab_gW "StreamTransport$Reader" prog_8_method_7_code 4 2 44 eV_Rdr_stepNumbers eI_Rdr_stepNumbers pc q := by
  intro pc q hq hi
  have hm : pc ∈ cs_Rdr_stepNumbers := ab_tab_cs (t := t_Rdr_stepNumbers) (by decide +kernel) hq hi
  simp only [cs_Rdr_stepNumbers, List.mem_cons, List.not_mem_nil, or_false] at hm
  rcases hm with rfl
  · cases (Option.some.inj hq : ((.invokevirtual 52, 24, 1, 1, 0) : Ent) = q)
    exact ab_crV (C := "StreamTransport$Reader") (by decide +kernel) cw_Rdr_nextNumber (ab_gW_in 660 (by decide +kernel) rfl) is_Rdr_nextNumber sl_Rdr_nextNumber (by decide) (fun av m m' h => by cases h) (fun av m r h => cm_Rdr_nextNumber l h) KT_nd
theorem cw_Rdr_stepNumbers : ab_cw y_Rdr_stepNumbers prog_8_method_7_code 4 2 (some .boolean) := ⟨ab_gW_in 659 (by decide +kernel) rfl, ab_gW_in 65 (by decide +kernel) rfl, by decide +kernel, by decide +kernel, by decide +kernel⟩
theorem is_Rdr_stepNumbers : Cond.instanceMethod y_Rdr_stepNumbers ∈ ab_gW := ab_gW_in 658 (by decide +kernel) rfl
theorem sl_Rdr_stepNumbers : Cond.selects "StreamTransport$Reader" y_Rdr_stepNumbers y_Rdr_stepNumbers ∈ ab_gW := ab_gW_in 15 (by decide +kernel) rfl
set_option maxRecDepth 100000 in
theorem cm_Rdr_stepNumbers (l : Launch) {av : List AV} {m : Mm} {r : Int32 × Mm} (h0 : c_Rdr_stepNumbers av m = some r) : ∃ (k q : Nat) (av' : List AV) (ci : Nat) (fs : List (Nat × Nat × Nat × Nat)) (z : vw_C), av = .inr (.inr (k, some q)) :: av' ∧ av'.length = 2 ∧ k ≠ 0 ∧ KT[k]? = some (.inl (ci, fs)) ∧ CL[ci]? = some z ∧ z.1 = "StreamTransport$Reader" ∧ ab_nos av' ∧ ab_Met l KT CL y_Rdr_stepNumbers (Cond.code y_Rdr_stepNumbers prog_8_method_7_code 4 (some .boolean) :: ab_gW) 2 44 none av m (some (.inl r.1)) r.2 := by
  obtain ⟨v0, v1, v2, hav, h⟩ := c_Rdr_stepNumbers_inv h0
  rw [r_Rdr_stepNumbers_eq] at h
  have hmo : ab_mo m r.2 := ab_kp_mo (kp_Rdr_stepNumbers h0)
  subst hav
  exact ⟨_, _, _, _, _, _, rfl, rfl, by decide, rfl, rfl, rfl, (by intro v hv q e; subst e; simp at hv), ab_met (by decide +kernel) KT_0 KT_nd KT_k3 E_Rdr_stepNumbers (cl_Rdr_stepNumbers l) hmo (Nat.le_of_ble_eq_true rfl) (ab_rI_inv h) (fun v hv => by cases hv; exact ⟨_, rfl⟩)⟩
/-! StreamTransport$Reader.stepStream()Z -/
def y_Rdr_stepStream : MethodName := ⟨"StreamTransport$Reader", "stepStream", "()Z"⟩
def t_Rdr_stepStream (pc : Nat) : Option Ent :=
  bif Nat.blt pc 27 then
    (bif Nat.blt pc 12 then
      (bif Nat.blt pc 6 then
        (bif Nat.blt pc 2 then
          (bif Nat.blt pc 1 then
            (bif Nat.beq pc 0 then some (.aload_n 0, 0, 0, 0, 0) else none)
          else
            bif Nat.beq pc 1 then some (.iconst 0, 0, 0, 0, 0) else none)
        else
          bif Nat.blt pc 3 then
            (bif Nat.beq pc 2 then some (.iconst 3, 0, 0, 0, 3) else none)
          else
            bif Nat.beq pc 3 then some (.invokevirtual 45, 25, 3, 1, 0) else none)
      else
        bif Nat.blt pc 10 then
          (bif Nat.blt pc 9 then
            (bif Nat.beq pc 6 then some (.ifCond .ne (5), 11, 0, 0, 0) else none)
          else
            bif Nat.beq pc 9 then some (.iconst 0, 0, 0, 0, 0) else none)
        else
          bif Nat.blt pc 11 then
            (bif Nat.beq pc 10 then some (.ireturn, 0, 0, 1, 0) else none)
          else
            bif Nat.beq pc 11 then some (.aload_n 0, 0, 0, 0, 0) else none)
    else
      bif Nat.blt pc 20 then
        (bif Nat.blt pc 16 then
          (bif Nat.blt pc 13 then
            (bif Nat.beq pc 12 then some (.aload_n 0, 0, 0, 0, 0) else none)
          else
            bif Nat.beq pc 13 then some (.getfield 19, 6, 4, 0, 0) else none)
        else
          bif Nat.blt pc 19 then
            (bif Nat.beq pc 16 then some (.putfield 49, 6, 3, 0, 0) else none)
          else
            bif Nat.beq pc 19 then some (.aload_n 0, 0, 0, 0, 0) else none)
      else
        bif Nat.blt pc 24 then
          (bif Nat.blt pc 23 then
            (bif Nat.beq pc 20 then some (.getfield 9, 6, 0, 1, 0) else none)
          else
            bif Nat.beq pc 23 then some (.iconst 2, 0, 0, 0, 2) else none)
        else
          bif Nat.blt pc 25 then
            (bif Nat.beq pc 24 then some (.iaload, 0, 0, 0, 0) else none)
          else
            bif Nat.blt pc 26 then
              (bif Nat.beq pc 25 then some (.iconst 2, 0, 0, 0, 2) else none)
            else
              bif Nat.beq pc 26 then some (.idiv, 0, 0, 0, 0) else none)
  else
    bif Nat.blt pc 42 then
      (bif Nat.blt pc 33 then
        (bif Nat.blt pc 29 then
          (bif Nat.blt pc 28 then
            (bif Nat.beq pc 27 then some (.istore_n 1, 1, 0, 0, 0) else none)
          else
            bif Nat.beq pc 28 then some (.iload_n 1, 1, 0, 0, 0) else none)
        else
          bif Nat.blt pc 30 then
            (bif Nat.beq pc 29 then some (.aload_n 0, 0, 0, 0, 0) else none)
          else
            bif Nat.beq pc 30 then some (.getfield 28, 6, 5, 0, 0) else none)
      else
        bif Nat.blt pc 37 then
          (bif Nat.blt pc 34 then
            (bif Nat.beq pc 33 then some (.aload_n 0, 0, 0, 0, 0) else none)
          else
            bif Nat.beq pc 34 then some (.getfield 19, 6, 4, 0, 0) else none)
        else
          bif Nat.blt pc 38 then
            (bif Nat.beq pc 37 then some (.isub, 0, 0, 0, 0) else none)
          else
            bif Nat.blt pc 41 then
              (bif Nat.beq pc 38 then some (.if_icmp .le (5), 43, 0, 0, 0) else none)
            else
              bif Nat.beq pc 41 then some (.iconst 0, 0, 0, 0, 0) else none)
    else
      bif Nat.blt pc 48 then
        (bif Nat.blt pc 44 then
          (bif Nat.blt pc 43 then
            (bif Nat.beq pc 42 then some (.ireturn, 0, 0, 1, 0) else none)
          else
            bif Nat.beq pc 43 then some (.aload_n 0, 0, 0, 0, 0) else none)
        else
          bif Nat.blt pc 45 then
            (bif Nat.beq pc 44 then some (.dup, 0, 0, 1, 0) else none)
          else
            bif Nat.beq pc 45 then some (.getfield 19, 6, 4, 0, 0) else none)
      else
        bif Nat.blt pc 50 then
          (bif Nat.blt pc 49 then
            (bif Nat.beq pc 48 then some (.iload_n 1, 1, 0, 0, 0) else none)
          else
            bif Nat.beq pc 49 then some (.iadd, 0, 0, 0, 0) else none)
        else
          bif Nat.blt pc 53 then
            (bif Nat.beq pc 50 then some (.putfield 19, 6, 4, 0, 0) else none)
          else
            bif Nat.blt pc 54 then
              (bif Nat.beq pc 53 then some (.iconst 1, 0, 0, 0, 1) else none)
            else
              bif Nat.beq pc 54 then some (.ireturn, 0, 0, 1, 0) else none
def i_Rdr_stepStream : Nat → Option Ent := ab_tab 55 t_Rdr_stepStream
def h_Rdr_stepStream (pc : Nat) : Nat × List Bool := (0, [])
def s_Rdr_stepStream (pc : Nat) : List (Int32 × Nat) × Nat := ([], 0)
noncomputable def eV_Rdr_stepStream : Nat → List AV → Mm → Option Mm := ab_ev []
noncomputable def eI_Rdr_stepStream : Nat → List AV → Mm → Option (Int32 × Mm) := ab_ev [(25, c_Rdr_stepNumbers)]
noncomputable def b_Rdr_stepStream_0 (f : Nat) (v0 : Nat) (m : Mm) : Option Rs := ab_ex KT none s_Rdr_stepStream eV_Rdr_stepStream eI_Rdr_stepStream i_Rdr_stepStream h_Rdr_stepStream f 0 [some (.inr (.inr (10, some v0))), none] [] m
set_option maxRecDepth 100000 in
set_option maxHeartbeats 4000000 in
theorem b_Rdr_stepStream_0_eq (f : Nat) (v0 : Nat) (m : Mm) : b_Rdr_stepStream_0 (f + 1) v0 m =
    (r_Rdr_stepNumbers v0 (0 : Int32) (3 : Int32) m).bind fun z1 =>
    if z1.1 = 0 then
      (ab_bo (0 : Int32)).bind fun y8 => some (.inl (some (.inl y8), z1.2))
    else
      ab_let (ab_uI z1.2 35 v0 0 (z1.2.1 36 v0 0)) fun m2 =>
      (ab_ix (2 : Int32) 7).bind fun i3 =>
      if (2 : Int32) = 0 then none else
      ab_let (((m2.1 38 (v0 + 1) i3) / (2 : Int32))) fun x4 =>
      if x4 ≤ ((m2.1 37 v0 0) - (m2.1 36 v0 0)) then
        ab_let (ab_uI m2 36 v0 0 ((m2.1 36 v0 0) + x4)) fun m5 =>
        (ab_bo (1 : Int32)).bind fun y6 => some (.inl (some (.inl y6), m5))
      else
        (ab_bo (0 : Int32)).bind fun y7 => some (.inl (some (.inl y7), m2)) := rfl
noncomputable def r_Rdr_stepStream : Nat → Mm → Option (Int32 × Mm) := ab_seal fun v0 m => ab_rI (b_Rdr_stepStream_0 50000 v0 m)
theorem r_Rdr_stepStream_eq (v0 : Nat) (m : Mm) : r_Rdr_stepStream v0 m = ab_rI (b_Rdr_stepStream_0 50000 v0 m) := by
  unfold r_Rdr_stepStream
  rw [ab_seal_eq]
noncomputable def c_Rdr_stepStream : List AV → Mm → Option (Int32 × Mm) := fun av m => match av with
  | [.inr (.inr (kv0, ov0))] => if kv0 = 10 then (ov0.bind fun v0 => r_Rdr_stepStream v0 m) else none
  | _ => none
theorem c_Rdr_stepStream_inv {av : List AV} {m : Mm} {r : Int32 × Mm} (h : c_Rdr_stepStream av m = some r) : ∃ (v0 : Nat), av = [.inr (.inr (10, some v0))] ∧ r_Rdr_stepStream v0 m = some r := by
  unfold c_Rdr_stepStream at h
  split at h
  · rename_i kv0 ov0
    by_cases hkv0 : kv0 = 10
    case neg => rw [if_neg hkv0] at h; cases h
    rw [if_pos hkv0] at h
    subst hkv0
    obtain ⟨v0, hev0, h⟩ := Option.bind_eq_some_iff.mp h
    subst hev0
    exact ⟨v0, rfl, h⟩
  · cases h
def cs_Rdr_stepStream : List Nat := [3]
set_option maxRecDepth 100000 in
theorem E_Rdr_stepStream : ∀ (pc : Nat) (q : Ent), i_Rdr_stepStream pc = some q → ab_E KT CL ab_gW "StreamTransport$Reader" "stepStream" (some .boolean) prog_8_method_6_code s_Rdr_stepStream 2 pc q.1 q.2.1 q.2.2.1 q.2.2.2.1 q.2.2.2.2 := fun pc q hq =>
  ab_Eb_ok lc_Rdr lj_Rdr fl_Rdr (fpn_Rdr "stepStream") nw_Rdr na_Rdr nq_Rdr (ab_tab_all (t := t_Rdr_stepStream) (chk := fun pc q => ab_Eb (some .boolean) prog_8_method_6_code s_Rdr_stepStream 2 LC_Rdr LJ_Rdr FL_Rdr FPn_Rdr NW_Rdr NA_Rdr NQ_Rdr pc q.1 q.2.1 q.2.2.1 q.2.2.2.1 q.2.2.2.2) (by decide +kernel) hq)
set_option maxRecDepth 100000 in
theorem kp_Rdr_stepStream {av : List AV} {m : Mm} {r : Int32 × Mm} (h : c_Rdr_stepStream av m = some r) : ab_kp m r.2 := by
  obtain ⟨v0, -, h⟩ := c_Rdr_stepStream_inv h
  rw [r_Rdr_stepStream_eq] at h
  have hV : ∀ a av m m', eV_Rdr_stepStream a av m = some m' → ab_kp m m' := ab_ev_all (P := fun _ m r => ab_kp m r) [] (fun q hq => by cases hq)
  have hI : ∀ a av m q, eI_Rdr_stepStream a av m = some q → ab_kp m q.2 := ab_ev_all (P := fun _ (m : Mm) (r : Int32 × Mm) => ab_kp m r.2) [(25, c_Rdr_stepNumbers)] (List.forall_mem_cons.mpr ⟨fun av m r h => kp_Rdr_stepNumbers h, fun q hq => by cases hq⟩)
  exact ab_kprel (ρ := .inl (some (.inl r.1), r.2)) (ab_tab_isn (t := t_Rdr_stepStream) (by decide +kernel)) hV hI (ab_rI_inv h)
set_option maxRecDepth 100000 in
theorem cl_Rdr_stepStream (l : Launch) : ∀ (pc : Nat) (q : Ent), i_Rdr_stepStream pc = some q → ab_inv q.1 = true → ab_CR l KT CL none ab_gW "StreamTransport$Reader" prog_8_method_6_code 2 3 67 eV_Rdr_stepStream eI_Rdr_stepStream pc q := by
  intro pc q hq hi
  have hm : pc ∈ cs_Rdr_stepStream := ab_tab_cs (t := t_Rdr_stepStream) (by decide +kernel) hq hi
  simp only [cs_Rdr_stepStream, List.mem_cons, List.not_mem_nil, or_false] at hm
  rcases hm with rfl
  · cases (Option.some.inj hq : ((.invokevirtual 45, 25, 3, 1, 0) : Ent) = q)
    exact ab_crV (C := "StreamTransport$Reader") (by decide +kernel) cw_Rdr_stepNumbers (ab_gW_in 656 (by decide +kernel) rfl) is_Rdr_stepNumbers sl_Rdr_stepNumbers (by decide) (fun av m m' h => by cases h) (fun av m r h => cm_Rdr_stepNumbers l h) KT_nd
theorem cw_Rdr_stepStream : ab_cw y_Rdr_stepStream prog_8_method_6_code 2 0 (some .boolean) := ⟨ab_gW_in 667 (by decide +kernel) rfl, ab_gW_in 65 (by decide +kernel) rfl, by decide +kernel, by decide +kernel, by decide +kernel⟩
theorem is_Rdr_stepStream : Cond.instanceMethod y_Rdr_stepStream ∈ ab_gW := ab_gW_in 666 (by decide +kernel) rfl
theorem sl_Rdr_stepStream : Cond.selects "StreamTransport$Reader" y_Rdr_stepStream y_Rdr_stepStream ∈ ab_gW := ab_gW_in 17 (by decide +kernel) rfl
set_option maxRecDepth 100000 in
theorem cm_Rdr_stepStream (l : Launch) {av : List AV} {m : Mm} {r : Int32 × Mm} (h0 : c_Rdr_stepStream av m = some r) : ∃ (k q : Nat) (av' : List AV) (ci : Nat) (fs : List (Nat × Nat × Nat × Nat)) (z : vw_C), av = .inr (.inr (k, some q)) :: av' ∧ av'.length = 0 ∧ k ≠ 0 ∧ KT[k]? = some (.inl (ci, fs)) ∧ CL[ci]? = some z ∧ z.1 = "StreamTransport$Reader" ∧ ab_nos av' ∧ ab_Met l KT CL y_Rdr_stepStream (Cond.code y_Rdr_stepStream prog_8_method_6_code 2 (some .boolean) :: ab_gW) 3 67 none av m (some (.inl r.1)) r.2 := by
  obtain ⟨v0, hav, h⟩ := c_Rdr_stepStream_inv h0
  rw [r_Rdr_stepStream_eq] at h
  have hmo : ab_mo m r.2 := ab_kp_mo (kp_Rdr_stepStream h0)
  subst hav
  exact ⟨_, _, _, _, _, _, rfl, rfl, by decide, rfl, rfl, rfl, (by intro v hv q e; subst e; simp at hv), ab_met (by decide +kernel) KT_0 KT_nd KT_k3 E_Rdr_stepStream (cl_Rdr_stepStream l) hmo (Nat.le_of_ble_eq_true rfl) (ab_rI_inv h) (fun v hv => by cases hv; exact ⟨_, rfl⟩)⟩
/-! StreamTransport$Reader.stepAck()Z -/
def y_Rdr_stepAck : MethodName := ⟨"StreamTransport$Reader", "stepAck", "()Z"⟩
def t_Rdr_stepAck (pc : Nat) : Option Ent :=
  bif Nat.blt pc 19 then
    (bif Nat.blt pc 9 then
      (bif Nat.blt pc 2 then
        (bif Nat.blt pc 1 then
          (bif Nat.beq pc 0 then some (.aload_n 0, 0, 0, 0, 0) else none)
        else
          bif Nat.beq pc 1 then some (.iconst 0, 0, 0, 0, 0) else none)
      else
        bif Nat.blt pc 3 then
          (bif Nat.beq pc 2 then some (.iconst 3, 0, 0, 0, 3) else none)
        else
          bif Nat.blt pc 6 then
            (bif Nat.beq pc 3 then some (.invokevirtual 45, 25, 3, 1, 0) else none)
          else
            bif Nat.beq pc 6 then some (.ifCond .eq (13), 19, 0, 0, 0) else none)
    else
      bif Nat.blt pc 14 then
        (bif Nat.blt pc 10 then
          (bif Nat.beq pc 9 then some (.aload_n 0, 0, 0, 0, 0) else none)
        else
          bif Nat.blt pc 13 then
            (bif Nat.beq pc 10 then some (.getfield 9, 6, 0, 1, 0) else none)
          else
            bif Nat.beq pc 13 then some (.iconst 2, 0, 0, 0, 2) else none)
      else
        bif Nat.blt pc 15 then
          (bif Nat.beq pc 14 then some (.iaload, 0, 0, 0, 0) else none)
        else
          bif Nat.blt pc 16 then
            (bif Nat.beq pc 15 then some (.iconst 2, 0, 0, 0, 2) else none)
          else
            bif Nat.beq pc 16 then some (.if_icmp .le (5), 21, 0, 0, 0) else none)
  else
    bif Nat.blt pc 25 then
      (bif Nat.blt pc 22 then
        (bif Nat.blt pc 20 then
          (bif Nat.beq pc 19 then some (.iconst 0, 0, 0, 0, 0) else none)
        else
          bif Nat.blt pc 21 then
            (bif Nat.beq pc 20 then some (.ireturn, 0, 0, 1, 0) else none)
          else
            bif Nat.beq pc 21 then some (.aload_n 0, 0, 0, 0, 0) else none)
      else
        bif Nat.blt pc 23 then
          (bif Nat.beq pc 22 then some (.iconst 3, 0, 0, 0, 3) else none)
        else
          bif Nat.blt pc 24 then
            (bif Nat.beq pc 23 then some (.iconst 2, 0, 0, 0, 2) else none)
          else
            bif Nat.beq pc 24 then some (.aload_n 0, 0, 0, 0, 0) else none)
    else
      bif Nat.blt pc 30 then
        (bif Nat.blt pc 28 then
          (bif Nat.beq pc 25 then some (.getfield 9, 6, 0, 1, 0) else none)
        else
          bif Nat.blt pc 29 then
            (bif Nat.beq pc 28 then some (.iconst 2, 0, 0, 0, 2) else none)
          else
            bif Nat.beq pc 29 then some (.iaload, 0, 0, 0, 0) else none)
      else
        bif Nat.blt pc 31 then
          (bif Nat.beq pc 30 then some (.imul, 0, 0, 0, 0) else none)
        else
          bif Nat.blt pc 34 then
            (bif Nat.beq pc 31 then some (.invokevirtual 45, 25, 3, 1, 0) else none)
          else
            bif Nat.beq pc 34 then some (.ireturn, 0, 0, 1, 0) else none
def i_Rdr_stepAck : Nat → Option Ent := ab_tab 35 t_Rdr_stepAck
def h_Rdr_stepAck (pc : Nat) : Nat × List Bool := (0, [])
def s_Rdr_stepAck (pc : Nat) : List (Int32 × Nat) × Nat := ([], 0)
noncomputable def eV_Rdr_stepAck : Nat → List AV → Mm → Option Mm := ab_ev []
noncomputable def eI_Rdr_stepAck : Nat → List AV → Mm → Option (Int32 × Mm) := ab_ev [(25, c_Rdr_stepNumbers)]
noncomputable def b_Rdr_stepAck_0 (f : Nat) (v0 : Nat) (m : Mm) : Option Rs := ab_ex KT none s_Rdr_stepAck eV_Rdr_stepAck eI_Rdr_stepAck i_Rdr_stepAck h_Rdr_stepAck f 0 [some (.inr (.inr (10, some v0)))] [] m
set_option maxRecDepth 100000 in
set_option maxHeartbeats 4000000 in
theorem b_Rdr_stepAck_0_eq (f : Nat) (v0 : Nat) (m : Mm) : b_Rdr_stepAck_0 (f + 1) v0 m =
    (r_Rdr_stepNumbers v0 (0 : Int32) (3 : Int32) m).bind fun z1 =>
    if z1.1 = 0 then
      (ab_bo (0 : Int32)).bind fun y2 => some (.inl (some (.inl y2), z1.2))
    else
      (ab_ix (2 : Int32) 7).bind fun i3 =>
      if (z1.2.1 38 (v0 + 1) i3) ≤ (2 : Int32) then
        (ab_ix (2 : Int32) 7).bind fun i4 =>
        (r_Rdr_stepNumbers v0 (3 : Int32) ((2 : Int32) * (z1.2.1 38 (v0 + 1) i4)) z1.2).bind fun z5 =>
        (ab_bo z5.1).bind fun y6 => some (.inl (some (.inl y6), z5.2))
      else
        (ab_bo (0 : Int32)).bind fun y7 => some (.inl (some (.inl y7), z1.2)) := rfl
noncomputable def r_Rdr_stepAck : Nat → Mm → Option (Int32 × Mm) := ab_seal fun v0 m => ab_rI (b_Rdr_stepAck_0 50000 v0 m)
theorem r_Rdr_stepAck_eq (v0 : Nat) (m : Mm) : r_Rdr_stepAck v0 m = ab_rI (b_Rdr_stepAck_0 50000 v0 m) := by
  unfold r_Rdr_stepAck
  rw [ab_seal_eq]
noncomputable def c_Rdr_stepAck : List AV → Mm → Option (Int32 × Mm) := fun av m => match av with
  | [.inr (.inr (kv0, ov0))] => if kv0 = 10 then (ov0.bind fun v0 => r_Rdr_stepAck v0 m) else none
  | _ => none
theorem c_Rdr_stepAck_inv {av : List AV} {m : Mm} {r : Int32 × Mm} (h : c_Rdr_stepAck av m = some r) : ∃ (v0 : Nat), av = [.inr (.inr (10, some v0))] ∧ r_Rdr_stepAck v0 m = some r := by
  unfold c_Rdr_stepAck at h
  split at h
  · rename_i kv0 ov0
    by_cases hkv0 : kv0 = 10
    case neg => rw [if_neg hkv0] at h; cases h
    rw [if_pos hkv0] at h
    subst hkv0
    obtain ⟨v0, hev0, h⟩ := Option.bind_eq_some_iff.mp h
    subst hev0
    exact ⟨v0, rfl, h⟩
  · cases h
def cs_Rdr_stepAck : List Nat := [3, 31]
set_option maxRecDepth 100000 in
theorem E_Rdr_stepAck : ∀ (pc : Nat) (q : Ent), i_Rdr_stepAck pc = some q → ab_E KT CL ab_gW "StreamTransport$Reader" "stepAck" (some .boolean) prog_8_method_5_code s_Rdr_stepAck 1 pc q.1 q.2.1 q.2.2.1 q.2.2.2.1 q.2.2.2.2 := fun pc q hq =>
  ab_Eb_ok lc_Rdr lj_Rdr fl_Rdr (fpn_Rdr "stepAck") nw_Rdr na_Rdr nq_Rdr (ab_tab_all (t := t_Rdr_stepAck) (chk := fun pc q => ab_Eb (some .boolean) prog_8_method_5_code s_Rdr_stepAck 1 LC_Rdr LJ_Rdr FL_Rdr FPn_Rdr NW_Rdr NA_Rdr NQ_Rdr pc q.1 q.2.1 q.2.2.1 q.2.2.2.1 q.2.2.2.2) (by decide +kernel) hq)
set_option maxRecDepth 100000 in
theorem kp_Rdr_stepAck {av : List AV} {m : Mm} {r : Int32 × Mm} (h : c_Rdr_stepAck av m = some r) : ab_kp m r.2 := by
  obtain ⟨v0, -, h⟩ := c_Rdr_stepAck_inv h
  rw [r_Rdr_stepAck_eq] at h
  have hV : ∀ a av m m', eV_Rdr_stepAck a av m = some m' → ab_kp m m' := ab_ev_all (P := fun _ m r => ab_kp m r) [] (fun q hq => by cases hq)
  have hI : ∀ a av m q, eI_Rdr_stepAck a av m = some q → ab_kp m q.2 := ab_ev_all (P := fun _ (m : Mm) (r : Int32 × Mm) => ab_kp m r.2) [(25, c_Rdr_stepNumbers)] (List.forall_mem_cons.mpr ⟨fun av m r h => kp_Rdr_stepNumbers h, fun q hq => by cases hq⟩)
  exact ab_kprel (ρ := .inl (some (.inl r.1), r.2)) (ab_tab_isn (t := t_Rdr_stepAck) (by decide +kernel)) hV hI (ab_rI_inv h)
set_option maxRecDepth 100000 in
theorem cl_Rdr_stepAck (l : Launch) : ∀ (pc : Nat) (q : Ent), i_Rdr_stepAck pc = some q → ab_inv q.1 = true → ab_CR l KT CL none ab_gW "StreamTransport$Reader" prog_8_method_5_code 1 3 67 eV_Rdr_stepAck eI_Rdr_stepAck pc q := by
  intro pc q hq hi
  have hm : pc ∈ cs_Rdr_stepAck := ab_tab_cs (t := t_Rdr_stepAck) (by decide +kernel) hq hi
  simp only [cs_Rdr_stepAck, List.mem_cons, List.not_mem_nil, or_false] at hm
  rcases hm with rfl | rfl
  · cases (Option.some.inj hq : ((.invokevirtual 45, 25, 3, 1, 0) : Ent) = q)
    exact ab_crV (C := "StreamTransport$Reader") (by decide +kernel) cw_Rdr_stepNumbers (ab_gW_in 656 (by decide +kernel) rfl) is_Rdr_stepNumbers sl_Rdr_stepNumbers (by decide) (fun av m m' h => by cases h) (fun av m r h => cm_Rdr_stepNumbers l h) KT_nd
  · cases (Option.some.inj hq : ((.invokevirtual 45, 25, 3, 1, 0) : Ent) = q)
    exact ab_crV (C := "StreamTransport$Reader") (by decide +kernel) cw_Rdr_stepNumbers (ab_gW_in 656 (by decide +kernel) rfl) is_Rdr_stepNumbers sl_Rdr_stepNumbers (by decide) (fun av m m' h => by cases h) (fun av m r h => cm_Rdr_stepNumbers l h) KT_nd
theorem cw_Rdr_stepAck : ab_cw y_Rdr_stepAck prog_8_method_5_code 1 0 (some .boolean) := ⟨ab_gW_in 655 (by decide +kernel) rfl, ab_gW_in 65 (by decide +kernel) rfl, by decide +kernel, by decide +kernel, by decide +kernel⟩
theorem is_Rdr_stepAck : Cond.instanceMethod y_Rdr_stepAck ∈ ab_gW := ab_gW_in 654 (by decide +kernel) rfl
theorem sl_Rdr_stepAck : Cond.selects "StreamTransport$Reader" y_Rdr_stepAck y_Rdr_stepAck ∈ ab_gW := ab_gW_in 14 (by decide +kernel) rfl
set_option maxRecDepth 100000 in
theorem cm_Rdr_stepAck (l : Launch) {av : List AV} {m : Mm} {r : Int32 × Mm} (h0 : c_Rdr_stepAck av m = some r) : ∃ (k q : Nat) (av' : List AV) (ci : Nat) (fs : List (Nat × Nat × Nat × Nat)) (z : vw_C), av = .inr (.inr (k, some q)) :: av' ∧ av'.length = 0 ∧ k ≠ 0 ∧ KT[k]? = some (.inl (ci, fs)) ∧ CL[ci]? = some z ∧ z.1 = "StreamTransport$Reader" ∧ ab_nos av' ∧ ab_Met l KT CL y_Rdr_stepAck (Cond.code y_Rdr_stepAck prog_8_method_5_code 1 (some .boolean) :: ab_gW) 3 67 none av m (some (.inl r.1)) r.2 := by
  obtain ⟨v0, hav, h⟩ := c_Rdr_stepAck_inv h0
  rw [r_Rdr_stepAck_eq] at h
  have hmo : ab_mo m r.2 := ab_kp_mo (kp_Rdr_stepAck h0)
  subst hav
  exact ⟨_, _, _, _, _, _, rfl, rfl, by decide, rfl, rfl, rfl, (by intro v hv q e; subst e; simp at hv), ab_met (by decide +kernel) KT_0 KT_nd KT_k3 E_Rdr_stepAck (cl_Rdr_stepAck l) hmo (Nat.le_of_ble_eq_true rfl) (ab_rI_inv h) (fun v hv => by cases hv; exact ⟨_, rfl⟩)⟩
/-! StreamTransport$Reader.step()Z -/
def y_Rdr_step : MethodName := ⟨"StreamTransport$Reader", "step", "()Z"⟩
def t_Rdr_step (pc : Nat) : Option Ent :=
  bif Nat.blt pc 71 then
    (bif Nat.blt pc 58 then
      (bif Nat.blt pc 8 then
        (bif Nat.blt pc 2 then
          (bif Nat.blt pc 1 then
            (bif Nat.beq pc 0 then some (.aload_n 0, 0, 0, 0, 0) else none)
          else
            bif Nat.beq pc 1 then some (.aload_n 0, 0, 0, 0, 0) else none)
        else
          bif Nat.blt pc 5 then
            (bif Nat.beq pc 2 then some (.invokevirtual 31, 23, 1, 1, 0) else none)
          else
            bif Nat.beq pc 5 then some (.putfield 35, 6, 1, 0, 0) else none)
      else
        bif Nat.blt pc 12 then
          (bif Nat.blt pc 9 then
            (bif Nat.beq pc 8 then some (.aload_n 0, 0, 0, 0, 0) else none)
          else
            bif Nat.beq pc 9 then some (.getfield 35, 6, 1, 0, 0) else none)
        else
          bif Nat.blt pc 56 then
            (bif Nat.beq pc 12 then some (.tableswitch (84) (0) (6) #[(44), (46), (51), (56), (63), (70), (77)], 0, 0, 0, 0) else none)
          else
            bif Nat.blt pc 57 then
              (bif Nat.beq pc 56 then some (.iconst 1, 0, 0, 0, 1) else none)
            else
              bif Nat.beq pc 57 then some (.ireturn, 0, 0, 1, 0) else none)
    else
      bif Nat.blt pc 64 then
        (bif Nat.blt pc 62 then
          (bif Nat.blt pc 59 then
            (bif Nat.beq pc 58 then some (.aload_n 0, 0, 0, 0, 0) else none)
          else
            bif Nat.beq pc 59 then some (.invokevirtual 38, 27, 1, 1, 0) else none)
        else
          bif Nat.blt pc 63 then
            (bif Nat.beq pc 62 then some (.ireturn, 0, 0, 1, 0) else none)
          else
            bif Nat.beq pc 63 then some (.aload_n 0, 0, 0, 0, 0) else none)
      else
        bif Nat.blt pc 68 then
          (bif Nat.blt pc 67 then
            (bif Nat.beq pc 64 then some (.invokevirtual 42, 26, 1, 1, 0) else none)
          else
            bif Nat.beq pc 67 then some (.ireturn, 0, 0, 1, 0) else none)
        else
          bif Nat.blt pc 69 then
            (bif Nat.beq pc 68 then some (.aload_n 0, 0, 0, 0, 0) else none)
          else
            bif Nat.blt pc 70 then
              (bif Nat.beq pc 69 then some (.iconst 0, 0, 0, 0, 0) else none)
            else
              bif Nat.beq pc 70 then some (.iconst 1, 0, 0, 0, 1) else none)
  else
    bif Nat.blt pc 84 then
      (bif Nat.blt pc 77 then
        (bif Nat.blt pc 75 then
          (bif Nat.blt pc 74 then
            (bif Nat.beq pc 71 then some (.invokevirtual 45, 25, 3, 1, 0) else none)
          else
            bif Nat.beq pc 74 then some (.ireturn, 0, 0, 1, 0) else none)
        else
          bif Nat.blt pc 76 then
            (bif Nat.beq pc 75 then some (.aload_n 0, 0, 0, 0, 0) else none)
          else
            bif Nat.beq pc 76 then some (.iconst 0, 0, 0, 0, 0) else none)
      else
        bif Nat.blt pc 81 then
          (bif Nat.blt pc 78 then
            (bif Nat.beq pc 77 then some (.iconst 2, 0, 0, 0, 2) else none)
          else
            bif Nat.beq pc 78 then some (.invokevirtual 45, 25, 3, 1, 0) else none)
        else
          bif Nat.blt pc 82 then
            (bif Nat.beq pc 81 then some (.ireturn, 0, 0, 1, 0) else none)
          else
            bif Nat.blt pc 83 then
              (bif Nat.beq pc 82 then some (.aload_n 0, 0, 0, 0, 0) else none)
            else
              bif Nat.beq pc 83 then some (.iconst 0, 0, 0, 0, 0) else none)
    else
      bif Nat.blt pc 91 then
        (bif Nat.blt pc 88 then
          (bif Nat.blt pc 85 then
            (bif Nat.beq pc 84 then some (.iconst 2, 0, 0, 0, 2) else none)
          else
            bif Nat.beq pc 85 then some (.invokevirtual 45, 25, 3, 1, 0) else none)
        else
          bif Nat.blt pc 89 then
            (bif Nat.beq pc 88 then some (.ireturn, 0, 0, 1, 0) else none)
          else
            bif Nat.blt pc 90 then
              (bif Nat.beq pc 89 then some (.aload_n 0, 0, 0, 0, 0) else none)
            else
              bif Nat.beq pc 90 then some (.iconst 0, 0, 0, 0, 0) else none)
      else
        bif Nat.blt pc 95 then
          (bif Nat.blt pc 92 then
            (bif Nat.beq pc 91 then some (.iconst 1, 0, 0, 0, 1) else none)
          else
            bif Nat.beq pc 92 then some (.invokevirtual 45, 25, 3, 1, 0) else none)
        else
          bif Nat.blt pc 96 then
            (bif Nat.beq pc 95 then some (.ireturn, 0, 0, 1, 0) else none)
          else
            bif Nat.blt pc 97 then
              (bif Nat.beq pc 96 then some (.iconst 0, 0, 0, 0, 0) else none)
            else
              bif Nat.beq pc 97 then some (.ireturn, 0, 0, 1, 0) else none
def i_Rdr_step : Nat → Option Ent := ab_tab 98 t_Rdr_step
def h_Rdr_step (pc : Nat) : Nat × List Bool := (0, [])
def s_Rdr_step (pc : Nat) : List (Int32 × Nat) × Nat := bif Nat.beq pc 12 then ([(0, 56), (1, 58), (2, 63), (3, 68), (4, 75), (5, 82), (6, 89)], 96) else ([], 0)
noncomputable def eV_Rdr_step : Nat → List AV → Mm → Option Mm := ab_ev []
noncomputable def eI_Rdr_step : Nat → List AV → Mm → Option (Int32 × Mm) := ab_ev [(23, c_Rdr_nextByte), (27, c_Rdr_stepAck), (26, c_Rdr_stepStream), (25, c_Rdr_stepNumbers)]
noncomputable def b_Rdr_step_0 (f : Nat) (v0 : Nat) (m : Mm) : Option Rs := ab_ex KT none s_Rdr_step eV_Rdr_step eI_Rdr_step i_Rdr_step h_Rdr_step f 0 [some (.inr (.inr (10, some v0)))] [] m
set_option maxRecDepth 100000 in
set_option maxHeartbeats 4000000 in
theorem b_Rdr_step_0_eq (f : Nat) (v0 : Nat) (m : Mm) : b_Rdr_step_0 (f + 1) v0 m =
    (r_Rdr_nextByte v0 m).bind fun z1 =>
    ab_let (ab_uI z1.2 33 v0 0 z1.1) fun m2 =>
    if (m2.1 33 v0 0) = (0 : Int32) then
      (ab_bo (1 : Int32)).bind fun y3 => some (.inl (some (.inl y3), m2))
    else if (m2.1 33 v0 0) = (1 : Int32) then
      (r_Rdr_stepAck v0 m2).bind fun z4 =>
      (ab_bo z4.1).bind fun y5 => some (.inl (some (.inl y5), z4.2))
    else if (m2.1 33 v0 0) = (2 : Int32) then
      (r_Rdr_stepStream v0 m2).bind fun z6 =>
      (ab_bo z6.1).bind fun y7 => some (.inl (some (.inl y7), z6.2))
    else if (m2.1 33 v0 0) = (3 : Int32) then
      (r_Rdr_stepNumbers v0 (0 : Int32) (1 : Int32) m2).bind fun z8 =>
      (ab_bo z8.1).bind fun y9 => some (.inl (some (.inl y9), z8.2))
    else if (m2.1 33 v0 0) = (4 : Int32) then
      (r_Rdr_stepNumbers v0 (0 : Int32) (2 : Int32) m2).bind fun z10 =>
      (ab_bo z10.1).bind fun y11 => some (.inl (some (.inl y11), z10.2))
    else if (m2.1 33 v0 0) = (5 : Int32) then
      (r_Rdr_stepNumbers v0 (0 : Int32) (2 : Int32) m2).bind fun z12 =>
      (ab_bo z12.1).bind fun y13 => some (.inl (some (.inl y13), z12.2))
    else if (m2.1 33 v0 0) = (6 : Int32) then
      (r_Rdr_stepNumbers v0 (0 : Int32) (1 : Int32) m2).bind fun z14 =>
      (ab_bo z14.1).bind fun y15 => some (.inl (some (.inl y15), z14.2))
    else 
      (ab_bo (0 : Int32)).bind fun y16 => some (.inl (some (.inl y16), m2)) := rfl
noncomputable def r_Rdr_step : Nat → Mm → Option (Int32 × Mm) := ab_seal fun v0 m => ab_rI (b_Rdr_step_0 50000 v0 m)
theorem r_Rdr_step_eq (v0 : Nat) (m : Mm) : r_Rdr_step v0 m = ab_rI (b_Rdr_step_0 50000 v0 m) := by
  unfold r_Rdr_step
  rw [ab_seal_eq]
noncomputable def c_Rdr_step : List AV → Mm → Option (Int32 × Mm) := fun av m => match av with
  | [.inr (.inr (kv0, ov0))] => if kv0 = 10 then (ov0.bind fun v0 => r_Rdr_step v0 m) else none
  | _ => none
theorem c_Rdr_step_inv {av : List AV} {m : Mm} {r : Int32 × Mm} (h : c_Rdr_step av m = some r) : ∃ (v0 : Nat), av = [.inr (.inr (10, some v0))] ∧ r_Rdr_step v0 m = some r := by
  unfold c_Rdr_step at h
  split at h
  · rename_i kv0 ov0
    by_cases hkv0 : kv0 = 10
    case neg => rw [if_neg hkv0] at h; cases h
    rw [if_pos hkv0] at h
    subst hkv0
    obtain ⟨v0, hev0, h⟩ := Option.bind_eq_some_iff.mp h
    subst hev0
    exact ⟨v0, rfl, h⟩
  · cases h
def cs_Rdr_step : List Nat := [2, 59, 64, 71, 78, 85, 92]
set_option maxRecDepth 100000 in
theorem E_Rdr_step : ∀ (pc : Nat) (q : Ent), i_Rdr_step pc = some q → ab_E KT CL ab_gW "StreamTransport$Reader" "step" (some .boolean) prog_8_method_4_code s_Rdr_step 1 pc q.1 q.2.1 q.2.2.1 q.2.2.2.1 q.2.2.2.2 := fun pc q hq =>
  ab_Eb_ok lc_Rdr lj_Rdr fl_Rdr (fpn_Rdr "step") nw_Rdr na_Rdr nq_Rdr (ab_tab_all (t := t_Rdr_step) (chk := fun pc q => ab_Eb (some .boolean) prog_8_method_4_code s_Rdr_step 1 LC_Rdr LJ_Rdr FL_Rdr FPn_Rdr NW_Rdr NA_Rdr NQ_Rdr pc q.1 q.2.1 q.2.2.1 q.2.2.2.1 q.2.2.2.2) (by decide +kernel) hq)
set_option maxRecDepth 100000 in
theorem kp_Rdr_step {av : List AV} {m : Mm} {r : Int32 × Mm} (h : c_Rdr_step av m = some r) : ab_kp m r.2 := by
  obtain ⟨v0, -, h⟩ := c_Rdr_step_inv h
  rw [r_Rdr_step_eq] at h
  have hV : ∀ a av m m', eV_Rdr_step a av m = some m' → ab_kp m m' := ab_ev_all (P := fun _ m r => ab_kp m r) [] (fun q hq => by cases hq)
  have hI : ∀ a av m q, eI_Rdr_step a av m = some q → ab_kp m q.2 := ab_ev_all (P := fun _ (m : Mm) (r : Int32 × Mm) => ab_kp m r.2) [(23, c_Rdr_nextByte), (27, c_Rdr_stepAck), (26, c_Rdr_stepStream), (25, c_Rdr_stepNumbers)] (List.forall_mem_cons.mpr ⟨fun av m r h => kp_Rdr_nextByte h, List.forall_mem_cons.mpr ⟨fun av m r h => kp_Rdr_stepAck h, List.forall_mem_cons.mpr ⟨fun av m r h => kp_Rdr_stepStream h, List.forall_mem_cons.mpr ⟨fun av m r h => kp_Rdr_stepNumbers h, fun q hq => by cases hq⟩⟩⟩⟩)
  exact ab_kprel (ρ := .inl (some (.inl r.1), r.2)) (ab_tab_isn (t := t_Rdr_step) (by decide +kernel)) hV hI (ab_rI_inv h)
set_option maxRecDepth 100000 in
theorem cl_Rdr_step (l : Launch) : ∀ (pc : Nat) (q : Ent), i_Rdr_step pc = some q → ab_inv q.1 = true → ab_CR l KT CL none ab_gW "StreamTransport$Reader" prog_8_method_4_code 1 4 88 eV_Rdr_step eI_Rdr_step pc q := by
  intro pc q hq hi
  have hm : pc ∈ cs_Rdr_step := ab_tab_cs (t := t_Rdr_step) (by decide +kernel) hq hi
  simp only [cs_Rdr_step, List.mem_cons, List.not_mem_nil, or_false] at hm
  rcases hm with rfl | rfl | rfl | rfl | rfl | rfl | rfl
  · cases (Option.some.inj hq : ((.invokevirtual 31, 23, 1, 1, 0) : Ent) = q)
    exact ab_crV (C := "StreamTransport$Reader") (by decide +kernel) cw_Rdr_nextByte (ab_gW_in 648 (by decide +kernel) rfl) is_Rdr_nextByte sl_Rdr_nextByte (by decide) (fun av m m' h => by cases h) (fun av m r h => cm_Rdr_nextByte l h) KT_nd
  · cases (Option.some.inj hq : ((.invokevirtual 38, 27, 1, 1, 0) : Ent) = q)
    exact ab_crV (C := "StreamTransport$Reader") (by decide +kernel) cw_Rdr_stepAck (ab_gW_in 652 (by decide +kernel) rfl) is_Rdr_stepAck sl_Rdr_stepAck (by decide) (fun av m m' h => by cases h) (fun av m r h => cm_Rdr_stepAck l h) KT_nd
  · cases (Option.some.inj hq : ((.invokevirtual 42, 26, 1, 1, 0) : Ent) = q)
    exact ab_crV (C := "StreamTransport$Reader") (by decide +kernel) cw_Rdr_stepStream (ab_gW_in 664 (by decide +kernel) rfl) is_Rdr_stepStream sl_Rdr_stepStream (by decide) (fun av m m' h => by cases h) (fun av m r h => cm_Rdr_stepStream l h) KT_nd
  · cases (Option.some.inj hq : ((.invokevirtual 45, 25, 3, 1, 0) : Ent) = q)
    exact ab_crV (C := "StreamTransport$Reader") (by decide +kernel) cw_Rdr_stepNumbers (ab_gW_in 656 (by decide +kernel) rfl) is_Rdr_stepNumbers sl_Rdr_stepNumbers (by decide) (fun av m m' h => by cases h) (fun av m r h => cm_Rdr_stepNumbers l h) KT_nd
  · cases (Option.some.inj hq : ((.invokevirtual 45, 25, 3, 1, 0) : Ent) = q)
    exact ab_crV (C := "StreamTransport$Reader") (by decide +kernel) cw_Rdr_stepNumbers (ab_gW_in 656 (by decide +kernel) rfl) is_Rdr_stepNumbers sl_Rdr_stepNumbers (by decide) (fun av m m' h => by cases h) (fun av m r h => cm_Rdr_stepNumbers l h) KT_nd
  · cases (Option.some.inj hq : ((.invokevirtual 45, 25, 3, 1, 0) : Ent) = q)
    exact ab_crV (C := "StreamTransport$Reader") (by decide +kernel) cw_Rdr_stepNumbers (ab_gW_in 656 (by decide +kernel) rfl) is_Rdr_stepNumbers sl_Rdr_stepNumbers (by decide) (fun av m m' h => by cases h) (fun av m r h => cm_Rdr_stepNumbers l h) KT_nd
  · cases (Option.some.inj hq : ((.invokevirtual 45, 25, 3, 1, 0) : Ent) = q)
    exact ab_crV (C := "StreamTransport$Reader") (by decide +kernel) cw_Rdr_stepNumbers (ab_gW_in 656 (by decide +kernel) rfl) is_Rdr_stepNumbers sl_Rdr_stepNumbers (by decide) (fun av m m' h => by cases h) (fun av m r h => cm_Rdr_stepNumbers l h) KT_nd
theorem cw_Rdr_step : ab_cw y_Rdr_step prog_8_method_4_code 1 0 (some .boolean) := ⟨ab_gW_in 647 (by decide +kernel) rfl, ab_gW_in 65 (by decide +kernel) rfl, by decide +kernel, by decide +kernel, by decide +kernel⟩
theorem is_Rdr_step : Cond.instanceMethod y_Rdr_step ∈ ab_gW := ab_gW_in 645 (by decide +kernel) rfl
theorem sl_Rdr_step : Cond.selects "StreamTransport$Reader" y_Rdr_step y_Rdr_step ∈ ab_gW := ab_gW_in 646 (by decide +kernel) rfl
set_option maxRecDepth 100000 in
theorem cm_Rdr_step (l : Launch) {av : List AV} {m : Mm} {r : Int32 × Mm} (h0 : c_Rdr_step av m = some r) : ∃ (k q : Nat) (av' : List AV) (ci : Nat) (fs : List (Nat × Nat × Nat × Nat)) (z : vw_C), av = .inr (.inr (k, some q)) :: av' ∧ av'.length = 0 ∧ k ≠ 0 ∧ KT[k]? = some (.inl (ci, fs)) ∧ CL[ci]? = some z ∧ z.1 = "StreamTransport$Reader" ∧ ab_nos av' ∧ ab_Met l KT CL y_Rdr_step (Cond.code y_Rdr_step prog_8_method_4_code 1 (some .boolean) :: ab_gW) 4 88 none av m (some (.inl r.1)) r.2 := by
  obtain ⟨v0, hav, h⟩ := c_Rdr_step_inv h0
  rw [r_Rdr_step_eq] at h
  have hmo : ab_mo m r.2 := ab_kp_mo (kp_Rdr_step h0)
  subst hav
  exact ⟨_, _, _, _, _, _, rfl, rfl, by decide, rfl, rfl, rfl, (by intro v hv q e; subst e; simp at hv), ab_met (by decide +kernel) KT_0 KT_nd KT_k3 E_Rdr_step (cl_Rdr_step l) hmo (Nat.le_of_ble_eq_true rfl) (ab_rI_inv h) (fun v hv => by cases hv; exact ⟨_, rfl⟩)⟩
/-! StreamTransport$Reader.dataAt(I)I -/
def y_Rdr_dataAt : MethodName := ⟨"StreamTransport$Reader", "dataAt", "(I)I"⟩
def t_Rdr_dataAt (pc : Nat) : Option Ent :=
  bif Nat.blt pc 18 then
    (bif Nat.blt pc 7 then
      (bif Nat.blt pc 4 then
        (bif Nat.blt pc 1 then
          (bif Nat.beq pc 0 then some (.aload_n 0, 0, 0, 0, 0) else none)
        else
          bif Nat.beq pc 1 then some (.getfield 49, 6, 3, 0, 0) else none)
      else
        bif Nat.blt pc 5 then
          (bif Nat.beq pc 4 then some (.iload_n 1, 1, 0, 0, 0) else none)
        else
          bif Nat.blt pc 6 then
            (bif Nat.beq pc 5 then some (.iadd, 0, 0, 0, 0) else none)
          else
            bif Nat.beq pc 6 then some (.istore_n 2, 2, 0, 0, 0) else none)
    else
      bif Nat.blt pc 11 then
        (bif Nat.blt pc 8 then
          (bif Nat.beq pc 7 then some (.aload_n 0, 0, 0, 0, 0) else none)
        else
          bif Nat.beq pc 8 then some (.getfield 15, 6, 2, 1, 0) else none)
      else
        bif Nat.blt pc 14 then
          (bif Nat.beq pc 11 then some (.ifnull 25, 36, 0, 0, 0) else none)
        else
          bif Nat.blt pc 15 then
            (bif Nat.beq pc 14 then some (.iload_n 2, 2, 0, 0, 0) else none)
          else
            bif Nat.beq pc 15 then some (.ifCond .lt (21), 36, 0, 0, 0) else none)
  else
    bif Nat.blt pc 28 then
      (bif Nat.blt pc 21 then
        (bif Nat.blt pc 19 then
          (bif Nat.beq pc 18 then some (.iload_n 2, 2, 0, 0, 0) else none)
        else
          bif Nat.beq pc 19 then some (.bipush 40, 0, 0, 0, 40) else none)
      else
        bif Nat.blt pc 24 then
          (bif Nat.beq pc 21 then some (.if_icmp .ge (15), 36, 0, 0, 0) else none)
        else
          bif Nat.blt pc 25 then
            (bif Nat.beq pc 24 then some (.aload_n 0, 0, 0, 0, 0) else none)
          else
            bif Nat.beq pc 25 then some (.getfield 15, 6, 2, 1, 0) else none)
    else
      bif Nat.blt pc 33 then
        (bif Nat.blt pc 31 then
          (bif Nat.beq pc 28 then some (.getfield 55, 7, 0, 1, 0) else none)
        else
          bif Nat.blt pc 32 then
            (bif Nat.beq pc 31 then some (.iload_n 2, 2, 0, 0, 0) else none)
          else
            bif Nat.beq pc 32 then some (.iaload, 0, 0, 0, 0) else none)
      else
        bif Nat.blt pc 36 then
          (bif Nat.beq pc 33 then some (.goto 4, 37, 0, 0, 0) else none)
        else
          bif Nat.blt pc 37 then
            (bif Nat.beq pc 36 then some (.iconst (-1), 0, 0, 0, -1) else none)
          else
            bif Nat.beq pc 37 then some (.ireturn, 0, 0, 0, 0) else none
def i_Rdr_dataAt : Nat → Option Ent := ab_tab 38 t_Rdr_dataAt
def h_Rdr_dataAt (pc : Nat) : Nat × List Bool := (0, [])
def s_Rdr_dataAt (pc : Nat) : List (Int32 × Nat) × Nat := ([], 0)
noncomputable def eV_Rdr_dataAt : Nat → List AV → Mm → Option Mm := ab_ev []
noncomputable def eI_Rdr_dataAt : Nat → List AV → Mm → Option (Int32 × Mm) := ab_ev []
noncomputable def b_Rdr_dataAt_0 (f : Nat) (v0 : Nat) (v1 : Int32) (m : Mm) : Option Rs := ab_ex KT none s_Rdr_dataAt eV_Rdr_dataAt eI_Rdr_dataAt i_Rdr_dataAt h_Rdr_dataAt f 0 [some (.inr (.inr (10, some v0))), some (.inl v1), none] [] m
set_option maxRecDepth 100000 in
set_option maxHeartbeats 4000000 in
theorem b_Rdr_dataAt_0_eq (f : Nat) (v0 : Nat) (v1 : Int32) (m : Mm) : b_Rdr_dataAt_0 (f + 1) v0 v1 m =
    ab_let (((m.1 35 v0 0) + v1)) fun x1 =>
    Option.elim (m.2.2.1 34 v0 0)
      (some (.inl (some (.inl (-1 : Int32)), m)))
      (fun _ => if x1 < 0 then
        some (.inl (some (.inl (-1 : Int32)), m))
      else
        if (40 : Int32) ≤ x1 then
          some (.inl (some (.inl (-1 : Int32)), m))
        else
          (m.2.2.1 34 v0 0).bind fun q2 =>
            (ab_ix x1 40).bind fun i3 =>
          some (.inl (some (.inl (m.1 13 (q2 + 1) i3)), m))) := rfl
noncomputable def r_Rdr_dataAt : Nat → Int32 → Mm → Option (Int32 × Mm) := ab_seal fun v0 v1 m => ab_rI (b_Rdr_dataAt_0 50000 v0 v1 m)
theorem r_Rdr_dataAt_eq (v0 : Nat) (v1 : Int32) (m : Mm) : r_Rdr_dataAt v0 v1 m = ab_rI (b_Rdr_dataAt_0 50000 v0 v1 m) := by
  unfold r_Rdr_dataAt
  rw [ab_seal_eq]
noncomputable def c_Rdr_dataAt : List AV → Mm → Option (Int32 × Mm) := fun av m => match av with
  | [.inr (.inr (kv0, ov0)), .inl v1] => if kv0 = 10 then (ov0.bind fun v0 => r_Rdr_dataAt v0 v1 m) else none
  | _ => none
theorem c_Rdr_dataAt_inv {av : List AV} {m : Mm} {r : Int32 × Mm} (h : c_Rdr_dataAt av m = some r) : ∃ (v0 : Nat) (v1 : Int32), av = [.inr (.inr (10, some v0)), .inl v1] ∧ r_Rdr_dataAt v0 v1 m = some r := by
  unfold c_Rdr_dataAt at h
  split at h
  · rename_i kv0 ov0 v1
    by_cases hkv0 : kv0 = 10
    case neg => rw [if_neg hkv0] at h; cases h
    rw [if_pos hkv0] at h
    subst hkv0
    obtain ⟨v0, hev0, h⟩ := Option.bind_eq_some_iff.mp h
    subst hev0
    exact ⟨v0, v1, rfl, h⟩
  · cases h
def cs_Rdr_dataAt : List Nat := []
set_option maxRecDepth 100000 in
theorem E_Rdr_dataAt : ∀ (pc : Nat) (q : Ent), i_Rdr_dataAt pc = some q → ab_E KT CL ab_gW "StreamTransport$Reader" "dataAt" (some .int) prog_8_method_10_code s_Rdr_dataAt 3 pc q.1 q.2.1 q.2.2.1 q.2.2.2.1 q.2.2.2.2 := fun pc q hq =>
  ab_Eb_ok lc_Rdr lj_Rdr fl_Rdr (fpn_Rdr "dataAt") nw_Rdr na_Rdr nq_Rdr (ab_tab_all (t := t_Rdr_dataAt) (chk := fun pc q => ab_Eb (some .int) prog_8_method_10_code s_Rdr_dataAt 3 LC_Rdr LJ_Rdr FL_Rdr FPn_Rdr NW_Rdr NA_Rdr NQ_Rdr pc q.1 q.2.1 q.2.2.1 q.2.2.2.1 q.2.2.2.2) (by decide +kernel) hq)
set_option maxRecDepth 100000 in
theorem kp_Rdr_dataAt {av : List AV} {m : Mm} {r : Int32 × Mm} (h : c_Rdr_dataAt av m = some r) : ab_kp m r.2 := by
  obtain ⟨v0, v1, -, h⟩ := c_Rdr_dataAt_inv h
  rw [r_Rdr_dataAt_eq] at h
  have hV : ∀ a av m m', eV_Rdr_dataAt a av m = some m' → ab_kp m m' := ab_ev_all (P := fun _ m r => ab_kp m r) [] (fun q hq => by cases hq)
  have hI : ∀ a av m q, eI_Rdr_dataAt a av m = some q → ab_kp m q.2 := ab_ev_all (P := fun _ (m : Mm) (r : Int32 × Mm) => ab_kp m r.2) [] (fun q hq => by cases hq)
  exact ab_kprel (ρ := .inl (some (.inl r.1), r.2)) (ab_tab_isn (t := t_Rdr_dataAt) (by decide +kernel)) hV hI (ab_rI_inv h)
set_option maxRecDepth 100000 in
theorem cl_Rdr_dataAt (l : Launch) : ∀ (pc : Nat) (q : Ent), i_Rdr_dataAt pc = some q → ab_inv q.1 = true → ab_CR l KT CL none ab_gW "StreamTransport$Reader" prog_8_method_10_code 3 0 0 eV_Rdr_dataAt eI_Rdr_dataAt pc q := by
  intro pc q hq hi
  have hm : pc ∈ cs_Rdr_dataAt := ab_tab_cs (t := t_Rdr_dataAt) (by decide +kernel) hq hi
  cases hm
theorem cw_Rdr_dataAt : ab_cw y_Rdr_dataAt prog_8_method_10_code 3 1 (some .int) := ⟨ab_gW_in 722 (by decide +kernel) rfl, ab_gW_in 65 (by decide +kernel) rfl, by decide +kernel, by decide +kernel, by decide +kernel⟩
theorem is_Rdr_dataAt : Cond.instanceMethod y_Rdr_dataAt ∈ ab_gW := ab_gW_in 720 (by decide +kernel) rfl
theorem sl_Rdr_dataAt : Cond.selects "StreamTransport$Reader" y_Rdr_dataAt y_Rdr_dataAt ∈ ab_gW := ab_gW_in 721 (by decide +kernel) rfl
set_option maxRecDepth 100000 in
theorem cm_Rdr_dataAt (l : Launch) {av : List AV} {m : Mm} {r : Int32 × Mm} (h0 : c_Rdr_dataAt av m = some r) : ∃ (k q : Nat) (av' : List AV) (ci : Nat) (fs : List (Nat × Nat × Nat × Nat)) (z : vw_C), av = .inr (.inr (k, some q)) :: av' ∧ av'.length = 1 ∧ k ≠ 0 ∧ KT[k]? = some (.inl (ci, fs)) ∧ CL[ci]? = some z ∧ z.1 = "StreamTransport$Reader" ∧ ab_nos av' ∧ ab_Met l KT CL y_Rdr_dataAt (Cond.code y_Rdr_dataAt prog_8_method_10_code 3 (some .int) :: ab_gW) 0 0 none av m (some (.inl r.1)) r.2 := by
  obtain ⟨v0, v1, hav, h⟩ := c_Rdr_dataAt_inv h0
  rw [r_Rdr_dataAt_eq] at h
  have hmo : ab_mo m r.2 := ab_kp_mo (kp_Rdr_dataAt h0)
  subst hav
  exact ⟨_, _, _, _, _, _, rfl, rfl, by decide, rfl, rfl, rfl, (by intro v hv q e; subst e; simp at hv), ab_met (by decide +kernel) KT_0 KT_nd KT_k3 E_Rdr_dataAt (cl_Rdr_dataAt l) hmo (Nat.le_of_ble_eq_true rfl) (ab_rI_inv h) (fun v hv => by cases hv; exact ⟨_, rfl⟩)⟩
end
end
section
section
def FLp_Out : List ((Nat × Nat × Nat) × Nat) := [((9, 5, 0), 244), ((15, 5, 1), 246), ((18, 5, 7), 262), ((22, 5, 8), 263), ((25, 5, 4), 253), ((28, 5, 5), 256), ((32, 5, 6), 259), ((35, 5, 2), 248), ((46, 5, 3), 251), ((56, 8, 4), 417), ((61, 8, 5), 420), ((64, 8, 6), 423), ((68, 8, 7), 426)]
def FL_Out : List (Nat × Nat × Nat) := [(9, 5, 0), (15, 5, 1), (18, 5, 7), (22, 5, 8), (25, 5, 4), (28, 5, 5), (32, 5, 6), (35, 5, 2), (46, 5, 3), (56, 8, 4), (61, 8, 5), (64, 8, 6), (68, 8, 7)]
theorem fl_Out : ∀ q ∈ FL_Out, ab_fld CL ab_gW "StreamTransport$Outgoing" q.1 q.2.1 q.2.2 := ab_flb_ok (own := "StreamTransport$Outgoing") (l := FLp_Out) (by decide +kernel)
def FPnp_Out : List ((Nat × Nat × Nat) × Nat) := [((18, 5, 7), 262), ((22, 5, 8), 263), ((25, 5, 4), 253), ((28, 5, 5), 256), ((32, 5, 6), 259), ((35, 5, 2), 248), ((46, 5, 3), 251)]
def FPn_Out : List (Nat × Nat × Nat) := [(18, 5, 7), (22, 5, 8), (25, 5, 4), (28, 5, 5), (32, 5, 6), (35, 5, 2), (46, 5, 3)]
theorem fpn_Out (nm : String) : ∀ q ∈ FPn_Out, ∃ ty, ab_fldp CL ab_gW "StreamTransport$Outgoing" nm q.1 q.2.1 q.2.2 ty ∧ ∀ (k t r k' d' : Nat), ab_fs KT q.2.1 q.2.2 k = some (t, r, k', d') → (t = 0 → ty = .int) ∧ (t = 1 → ty = .boolean) ∧ (t = 2 → ((∃ n, ty = .object n) ∨ ∃ t, ty = .array t) ∧ k' ≠ 0) := ab_fpb_ok (own := "StreamTransport$Outgoing") (nm := nm) (l := FPnp_Out) (ab_fpn_ok (by decide +kernel))
def FPip_Out : List ((Nat × Nat × Nat) × Nat) := [((9, 5, 0), 244), ((15, 5, 1), 246), ((18, 5, 7), 262), ((22, 5, 8), 263), ((25, 5, 4), 253), ((28, 5, 5), 256), ((32, 5, 6), 259), ((35, 5, 2), 248), ((46, 5, 3), 251)]
def FPi_Out : List (Nat × Nat × Nat) := [(9, 5, 0), (15, 5, 1), (18, 5, 7), (22, 5, 8), (25, 5, 4), (28, 5, 5), (32, 5, 6), (35, 5, 2), (46, 5, 3)]
theorem fpi_Out : ∀ q ∈ FPi_Out, ∃ ty, ab_fldp CL ab_gW "StreamTransport$Outgoing" "<init>" q.1 q.2.1 q.2.2 ty ∧ ∀ (k t r k' d' : Nat), ab_fs KT q.2.1 q.2.2 k = some (t, r, k', d') → (t = 0 → ty = .int) ∧ (t = 1 → ty = .boolean) ∧ (t = 2 → ((∃ n, ty = .object n) ∨ ∃ t, ty = .array t) ∧ k' ≠ 0) := ab_fpb_ok (own := "StreamTransport$Outgoing") (nm := "<init>") (l := FPip_Out) (by decide +kernel)
def LCp_Out : List ((Nat × Int32) × Nat) := []
def LC_Out : List (Nat × Int32) := []
theorem lc_Out : ∀ q ∈ LC_Out, Cond.constant "StreamTransport$Outgoing" q.1 q.2 ∈ ab_gW := ab_lcb (own := "StreamTransport$Outgoing") (l := LCp_Out) (by decide +kernel)
def LJp_Out : List ((Nat × Nat) × Nat) := []
def LJ_Out : List (Nat × Nat) := []
theorem lj_Out : ∀ q ∈ LJ_Out, Cond.constantLong "StreamTransport$Outgoing" q.1 (Int64.ofNat q.2) ∈ ab_gW := ab_ljb (own := "StreamTransport$Outgoing") (l := LJp_Out) (by decide +kernel)
def NWp_Out : List ((Nat × Nat) × Nat × Nat × Nat) := []
def NW_Out : List (Nat × Nat) := []
theorem nw_Out : ∀ q ∈ NW_Out, ab_newok KT CL ab_gW "StreamTransport$Outgoing" q.1 q.2 := ab_nwb_ok (own := "StreamTransport$Outgoing") (l := NWp_Out) (by decide +kernel)
def NQp_Out : List ((Nat × Nat) × Nat) := []
def NQ_Out : List (Nat × Nat) := []
theorem nq_Out : ∀ q ∈ NQ_Out, ab_nqok KT CL ab_gW "StreamTransport$Outgoing" q.1 q.2 := ab_nqb_ok (own := "StreamTransport$Outgoing") (l := NQp_Out) (by decide +kernel)
def NA_Out : List (Nat × Nat) := [(0, 20), (0, 21)]
theorem na_Out : ∀ q ∈ NA_Out, (q.1 = 0 → ab_naok KT CL ab_gW .int q.2) ∧ (q.1 = 1 → ab_naok KT CL ab_gW .boolean q.2) ∧ (q.1 = 2 → ab_naok KT CL ab_gW .long q.2) := ab_nab_ok (by decide +kernel)
/-! StreamTransport$Outgoing.isGrowing()Z -/
def y_Out_isGrowing : MethodName := ⟨"StreamTransport$Outgoing", "isGrowing", "()Z"⟩
def t_Out_isGrowing (pc : Nat) : Option Ent :=
  bif Nat.blt pc 11 then
    (bif Nat.blt pc 4 then
      (bif Nat.blt pc 1 then
        (bif Nat.beq pc 0 then some (.aload_n 0, 0, 0, 0, 0) else none)
      else
        bif Nat.beq pc 1 then some (.getfield 28, 5, 5, 0, 0) else none)
    else
      bif Nat.blt pc 7 then
        (bif Nat.beq pc 4 then some (.ifCond .ne (14), 18, 0, 0, 0) else none)
      else
        bif Nat.blt pc 8 then
          (bif Nat.beq pc 7 then some (.aload_n 0, 0, 0, 0, 0) else none)
        else
          bif Nat.beq pc 8 then some (.getfield 32, 5, 6, 0, 0) else none)
  else
    bif Nat.blt pc 15 then
      (bif Nat.blt pc 14 then
        (bif Nat.beq pc 11 then some (.ifCond .ne (7), 18, 0, 0, 0) else none)
      else
        bif Nat.beq pc 14 then some (.iconst 1, 0, 0, 0, 1) else none)
    else
      bif Nat.blt pc 18 then
        (bif Nat.beq pc 15 then some (.goto 4, 19, 0, 0, 0) else none)
      else
        bif Nat.blt pc 19 then
          (bif Nat.beq pc 18 then some (.iconst 0, 0, 0, 0, 0) else none)
        else
          bif Nat.beq pc 19 then some (.ireturn, 0, 0, 1, 0) else none
def i_Out_isGrowing : Nat → Option Ent := ab_tab 20 t_Out_isGrowing
def h_Out_isGrowing (pc : Nat) : Nat × List Bool := (0, [])
def s_Out_isGrowing (pc : Nat) : List (Int32 × Nat) × Nat := ([], 0)
noncomputable def eV_Out_isGrowing : Nat → List AV → Mm → Option Mm := ab_ev []
noncomputable def eI_Out_isGrowing : Nat → List AV → Mm → Option (Int32 × Mm) := ab_ev []
noncomputable def b_Out_isGrowing_0 (f : Nat) (v0 : Nat) (m : Mm) : Option Rs := ab_ex KT none s_Out_isGrowing eV_Out_isGrowing eI_Out_isGrowing i_Out_isGrowing h_Out_isGrowing f 0 [some (.inr (.inr (19, some v0)))] [] m
set_option maxRecDepth 100000 in
set_option maxHeartbeats 4000000 in
theorem b_Out_isGrowing_0_eq (f : Nat) (v0 : Nat) (m : Mm) : b_Out_isGrowing_0 (f + 1) v0 m =
    if (m.1 62 v0 0) = 0 then
      if (m.1 63 v0 0) = 0 then
        (ab_bo (1 : Int32)).bind fun y3 => some (.inl (some (.inl y3), m))
      else
        (ab_bo (0 : Int32)).bind fun y2 => some (.inl (some (.inl y2), m))
    else
      (ab_bo (0 : Int32)).bind fun y1 => some (.inl (some (.inl y1), m)) := rfl
noncomputable def r_Out_isGrowing : Nat → Mm → Option (Int32 × Mm) := ab_seal fun v0 m => ab_rI (b_Out_isGrowing_0 50000 v0 m)
theorem r_Out_isGrowing_eq (v0 : Nat) (m : Mm) : r_Out_isGrowing v0 m = ab_rI (b_Out_isGrowing_0 50000 v0 m) := by
  unfold r_Out_isGrowing
  rw [ab_seal_eq]
noncomputable def c_Out_isGrowing : List AV → Mm → Option (Int32 × Mm) := fun av m => match av with
  | [.inr (.inr (kv0, ov0))] => if kv0 = 19 then (ov0.bind fun v0 => r_Out_isGrowing v0 m) else none
  | _ => none
theorem c_Out_isGrowing_inv {av : List AV} {m : Mm} {r : Int32 × Mm} (h : c_Out_isGrowing av m = some r) : ∃ (v0 : Nat), av = [.inr (.inr (19, some v0))] ∧ r_Out_isGrowing v0 m = some r := by
  unfold c_Out_isGrowing at h
  split at h
  · rename_i kv0 ov0
    by_cases hkv0 : kv0 = 19
    case neg => rw [if_neg hkv0] at h; cases h
    rw [if_pos hkv0] at h
    subst hkv0
    obtain ⟨v0, hev0, h⟩ := Option.bind_eq_some_iff.mp h
    subst hev0
    exact ⟨v0, rfl, h⟩
  · cases h
def cs_Out_isGrowing : List Nat := []
set_option maxRecDepth 100000 in
theorem E_Out_isGrowing : ∀ (pc : Nat) (q : Ent), i_Out_isGrowing pc = some q → ab_E KT CL ab_gW "StreamTransport$Outgoing" "isGrowing" (some .boolean) prog_7_method_2_code s_Out_isGrowing 1 pc q.1 q.2.1 q.2.2.1 q.2.2.2.1 q.2.2.2.2 := fun pc q hq =>
  ab_Eb_ok lc_Out lj_Out fl_Out (fpn_Out "isGrowing") nw_Out na_Out nq_Out (ab_tab_all (t := t_Out_isGrowing) (chk := fun pc q => ab_Eb (some .boolean) prog_7_method_2_code s_Out_isGrowing 1 LC_Out LJ_Out FL_Out FPn_Out NW_Out NA_Out NQ_Out pc q.1 q.2.1 q.2.2.1 q.2.2.2.1 q.2.2.2.2) (by decide +kernel) hq)
set_option maxRecDepth 100000 in
theorem kp_Out_isGrowing {av : List AV} {m : Mm} {r : Int32 × Mm} (h : c_Out_isGrowing av m = some r) : ab_kp m r.2 := by
  obtain ⟨v0, -, h⟩ := c_Out_isGrowing_inv h
  rw [r_Out_isGrowing_eq] at h
  have hV : ∀ a av m m', eV_Out_isGrowing a av m = some m' → ab_kp m m' := ab_ev_all (P := fun _ m r => ab_kp m r) [] (fun q hq => by cases hq)
  have hI : ∀ a av m q, eI_Out_isGrowing a av m = some q → ab_kp m q.2 := ab_ev_all (P := fun _ (m : Mm) (r : Int32 × Mm) => ab_kp m r.2) [] (fun q hq => by cases hq)
  exact ab_kprel (ρ := .inl (some (.inl r.1), r.2)) (ab_tab_isn (t := t_Out_isGrowing) (by decide +kernel)) hV hI (ab_rI_inv h)
set_option maxRecDepth 100000 in
theorem cl_Out_isGrowing (l : Launch) : ∀ (pc : Nat) (q : Ent), i_Out_isGrowing pc = some q → ab_inv q.1 = true → ab_CR l KT CL none ab_gW "StreamTransport$Outgoing" prog_7_method_2_code 1 0 0 eV_Out_isGrowing eI_Out_isGrowing pc q := by
  intro pc q hq hi
  have hm : pc ∈ cs_Out_isGrowing := ab_tab_cs (t := t_Out_isGrowing) (by decide +kernel) hq hi
  cases hm
theorem cw_Out_isGrowing : ab_cw y_Out_isGrowing prog_7_method_2_code 1 0 (some .boolean) := ⟨ab_gW_in 380 (by decide +kernel) rfl, ab_gW_in 70 (by decide +kernel) rfl, by decide +kernel, by decide +kernel, by decide +kernel⟩
theorem is_Out_isGrowing : Cond.instanceMethod y_Out_isGrowing ∈ ab_gW := ab_gW_in 378 (by decide +kernel) rfl
theorem sl_Out_isGrowing : Cond.selects "StreamTransport$Outgoing" y_Out_isGrowing y_Out_isGrowing ∈ ab_gW := ab_gW_in 379 (by decide +kernel) rfl
set_option maxRecDepth 100000 in
theorem cm_Out_isGrowing (l : Launch) {av : List AV} {m : Mm} {r : Int32 × Mm} (h0 : c_Out_isGrowing av m = some r) : ∃ (k q : Nat) (av' : List AV) (ci : Nat) (fs : List (Nat × Nat × Nat × Nat)) (z : vw_C), av = .inr (.inr (k, some q)) :: av' ∧ av'.length = 0 ∧ k ≠ 0 ∧ KT[k]? = some (.inl (ci, fs)) ∧ CL[ci]? = some z ∧ z.1 = "StreamTransport$Outgoing" ∧ ab_nos av' ∧ ab_Met l KT CL y_Out_isGrowing (Cond.code y_Out_isGrowing prog_7_method_2_code 1 (some .boolean) :: ab_gW) 0 0 none av m (some (.inl r.1)) r.2 := by
  obtain ⟨v0, hav, h⟩ := c_Out_isGrowing_inv h0
  rw [r_Out_isGrowing_eq] at h
  have hmo : ab_mo m r.2 := ab_kp_mo (kp_Out_isGrowing h0)
  subst hav
  exact ⟨_, _, _, _, _, _, rfl, rfl, by decide, rfl, rfl, rfl, (by intro v hv q e; subst e; simp at hv), ab_met (by decide +kernel) KT_0 KT_nd KT_k3 E_Out_isGrowing (cl_Out_isGrowing l) hmo (Nat.le_of_ble_eq_true rfl) (ab_rI_inv h) (fun v hv => by cases hv; exact ⟨_, rfl⟩)⟩
/-! StreamTransport$Outgoing.append(IJ)V -/
def y_Out_append : MethodName := ⟨"StreamTransport$Outgoing", "append", "(IJ)V"⟩
def t_Out_append (pc : Nat) : Option Ent :=
  bif Nat.blt pc 26 then
    (bif Nat.blt pc 10 then
      (bif Nat.blt pc 5 then
        (bif Nat.blt pc 1 then
          (bif Nat.beq pc 0 then some (.iconst 0, 0, 0, 0, 0) else none)
        else
          bif Nat.blt pc 3 then
            (bif Nat.beq pc 1 then some (.istore 4, 4, 0, 0, 0) else none)
          else
            bif Nat.beq pc 3 then some (.iload 4, 4, 0, 0, 0) else none)
      else
        bif Nat.blt pc 6 then
          (bif Nat.beq pc 5 then some (.iload_n 1, 1, 0, 0, 0) else none)
        else
          bif Nat.blt pc 9 then
            (bif Nat.beq pc 6 then some (.if_icmp .ge (43), 49, 0, 0, 0) else none)
          else
            bif Nat.beq pc 9 then some (.aload_n 0, 0, 0, 0, 0) else none)
    else
      bif Nat.blt pc 18 then
        (bif Nat.blt pc 13 then
          (bif Nat.beq pc 10 then some (.getfield 35, 5, 2, 0, 0) else none)
        else
          bif Nat.blt pc 15 then
            (bif Nat.beq pc 13 then some (.bipush 64, 0, 0, 0, 64) else none)
          else
            bif Nat.beq pc 15 then some (.if_icmp .ge (34), 49, 0, 0, 0) else none)
      else
        bif Nat.blt pc 22 then
          (bif Nat.blt pc 19 then
            (bif Nat.beq pc 18 then some (.aload_n 0, 0, 0, 0, 0) else none)
          else
            bif Nat.beq pc 19 then some (.getfield 9, 5, 0, 1, 0) else none)
        else
          bif Nat.blt pc 23 then
            (bif Nat.beq pc 22 then some (.aload_n 0, 0, 0, 0, 0) else none)
          else
            bif Nat.beq pc 23 then some (.getfield 35, 5, 2, 0, 0) else none)
  else
    bif Nat.blt pc 35 then
      (bif Nat.blt pc 32 then
        (bif Nat.blt pc 27 then
          (bif Nat.beq pc 26 then some (.lload_n 2, 2, 0, 0, 0) else none)
        else
          bif Nat.blt pc 29 then
            (bif Nat.beq pc 27 then some (.iload 4, 4, 0, 0, 0) else none)
          else
            bif Nat.beq pc 29 then some (.invokestatic 38, 5, 2, 1, 0) else none)
      else
        bif Nat.blt pc 33 then
          (bif Nat.beq pc 32 then some (.iastore, 0, 0, 0, 0) else none)
        else
          bif Nat.blt pc 34 then
            (bif Nat.beq pc 33 then some (.aload_n 0, 0, 0, 0, 0) else none)
          else
            bif Nat.beq pc 34 then some (.dup, 0, 0, 1, 0) else none)
    else
      bif Nat.blt pc 40 then
        (bif Nat.blt pc 38 then
          (bif Nat.beq pc 35 then some (.getfield 35, 5, 2, 0, 0) else none)
        else
          bif Nat.blt pc 39 then
            (bif Nat.beq pc 38 then some (.iconst 1, 0, 0, 0, 1) else none)
          else
            bif Nat.beq pc 39 then some (.iadd, 0, 0, 0, 0) else none)
      else
        bif Nat.blt pc 46 then
          (bif Nat.blt pc 43 then
            (bif Nat.beq pc 40 then some (.putfield 35, 5, 2, 0, 0) else none)
          else
            bif Nat.beq pc 43 then some (.iinc 4 1, 4, 0, 0, 1) else none)
        else
          bif Nat.blt pc 49 then
            (bif Nat.beq pc 46 then some (.goto (-43), 3, 0, 0, 0) else none)
          else
            bif Nat.beq pc 49 then some (.return_, 0, 0, 0, 0) else none
def i_Out_append : Nat → Option Ent := ab_tab 50 t_Out_append
def h_Out_append (pc : Nat) : Nat × List Bool := bif Nat.beq pc 3 then (1, [true, true, true, false, true]) else (0, [])
def s_Out_append (pc : Nat) : List (Int32 × Nat) × Nat := ([], 0)
noncomputable def eV_Out_append : Nat → List AV → Mm → Option Mm := ab_ev []
noncomputable def eI_Out_append : Nat → List AV → Mm → Option (Int32 × Mm) := ab_ev [(5, c_X_byteOf)]
noncomputable def b_Out_append_0 (f : Nat) (v0 : Nat) (v1 : Int32) (v2 : Int64) (m : Mm) : Option Rs := ab_ex KT none s_Out_append eV_Out_append eI_Out_append i_Out_append h_Out_append f 0 [some (.inr (.inr (19, some v0))), some (.inl v1), some (.inr (.inl v2)), none, none] [] m
noncomputable def b_Out_append_3 (f : Nat) (v0 : Nat) (v1 : Int32) (v2 : Int64) (v4 : Int32) (m : Mm) : Option Rs := ab_ex KT none s_Out_append eV_Out_append eI_Out_append i_Out_append h_Out_append f 3 [some (.inr (.inr (19, some v0))), some (.inl v1), some (.inr (.inl v2)), none, some (.inl v4)] [] m
set_option maxRecDepth 100000 in
set_option maxHeartbeats 4000000 in
theorem b_Out_append_0_eq (f : Nat) (v0 : Nat) (v1 : Int32) (v2 : Int64) (m : Mm) : b_Out_append_0 (f + 1) v0 v1 v2 m =
    b_Out_append_3 f v0 v1 v2 (0 : Int32) m := rfl
set_option maxRecDepth 100000 in
set_option maxHeartbeats 4000000 in
theorem b_Out_append_3_eq (f : Nat) (v0 : Nat) (v1 : Int32) (v2 : Int64) (v4 : Int32) (m : Mm) : b_Out_append_3 (f + 1) v0 v1 v2 v4 m =
    if v1 ≤ v4 then
      some (.inl (none, m))
    else
      if (64 : Int32) ≤ (m.1 59 v0 0) then
        some (.inl (none, m))
      else
        (r_X_byteOf v2 v4 m).bind fun z1 =>
        (ab_ix (m.1 59 v0 0) 64).bind fun i2 =>
        ab_let (ab_uI z1.2 66 (v0 + 1) i2 z1.1) fun m3 =>
        ab_let (ab_uI m3 59 v0 0 ((m3.1 59 v0 0) + (1 : Int32))) fun m4 =>
        ab_let (v4 + (1 : Int32)) fun x5 =>
        b_Out_append_3 f v0 v1 v2 x5 m4 := rfl
noncomputable def r_Out_append : Nat → Int32 → Int64 → Mm → Option Mm := ab_seal fun v0 v1 v2 m => ab_rV (b_Out_append_0 50000 v0 v1 v2 m)
theorem r_Out_append_eq (v0 : Nat) (v1 : Int32) (v2 : Int64) (m : Mm) : r_Out_append v0 v1 v2 m = ab_rV (b_Out_append_0 50000 v0 v1 v2 m) := by
  unfold r_Out_append
  rw [ab_seal_eq]
noncomputable def c_Out_append : List AV → Mm → Option Mm := fun av m => match av with
  | [.inr (.inr (kv0, ov0)), .inl v1, .inr (.inl v2)] => if kv0 = 19 then (ov0.bind fun v0 => r_Out_append v0 v1 v2 m) else none
  | _ => none
theorem c_Out_append_inv {av : List AV} {m : Mm} {r : Mm} (h : c_Out_append av m = some r) : ∃ (v0 : Nat) (v1 : Int32) (v2 : Int64), av = [.inr (.inr (19, some v0)), .inl v1, .inr (.inl v2)] ∧ r_Out_append v0 v1 v2 m = some r := by
  unfold c_Out_append at h
  split at h
  · rename_i kv0 ov0 v1 v2
    by_cases hkv0 : kv0 = 19
    case neg => rw [if_neg hkv0] at h; cases h
    rw [if_pos hkv0] at h
    subst hkv0
    obtain ⟨v0, hev0, h⟩ := Option.bind_eq_some_iff.mp h
    subst hev0
    exact ⟨v0, v1, v2, rfl, h⟩
  · cases h
def cs_Out_append : List Nat := [29]
set_option maxRecDepth 100000 in
theorem E_Out_append : ∀ (pc : Nat) (q : Ent), i_Out_append pc = some q → ab_E KT CL ab_gW "StreamTransport$Outgoing" "append" none prog_7_method_3_code s_Out_append 5 pc q.1 q.2.1 q.2.2.1 q.2.2.2.1 q.2.2.2.2 := fun pc q hq =>
  ab_Eb_ok lc_Out lj_Out fl_Out (fpn_Out "append") nw_Out na_Out nq_Out (ab_tab_all (t := t_Out_append) (chk := fun pc q => ab_Eb none prog_7_method_3_code s_Out_append 5 LC_Out LJ_Out FL_Out FPn_Out NW_Out NA_Out NQ_Out pc q.1 q.2.1 q.2.2.1 q.2.2.2.1 q.2.2.2.2) (by decide +kernel) hq)
set_option maxRecDepth 100000 in
theorem kp_Out_append {av : List AV} {m : Mm} {r : Mm} (h : c_Out_append av m = some r) : ab_kp m r := by
  obtain ⟨v0, v1, v2, -, h⟩ := c_Out_append_inv h
  rw [r_Out_append_eq] at h
  have hV : ∀ a av m m', eV_Out_append a av m = some m' → ab_kp m m' := ab_ev_all (P := fun _ m r => ab_kp m r) [] (fun q hq => by cases hq)
  have hI : ∀ a av m q, eI_Out_append a av m = some q → ab_kp m q.2 := ab_ev_all (P := fun _ (m : Mm) (r : Int32 × Mm) => ab_kp m r.2) [(5, c_X_byteOf)] (List.forall_mem_cons.mpr ⟨fun av m r h => kp_X_byteOf h, fun q hq => by cases hq⟩)
  exact ab_kprel (ρ := .inl (none, r)) (ab_tab_isn (t := t_Out_append) (by decide +kernel)) hV hI (ab_rV_inv h)
set_option maxRecDepth 100000 in
theorem cl_Out_append (l : Launch) : ∀ (pc : Nat) (q : Ent), i_Out_append pc = some q → ab_inv q.1 = true → ab_CR l KT CL none ab_gW "StreamTransport$Outgoing" prog_7_method_3_code 5 1 22 eV_Out_append eI_Out_append pc q := by
  intro pc q hq hi
  have hm : pc ∈ cs_Out_append := ab_tab_cs (t := t_Out_append) (by decide +kernel) hq hi
  simp only [cs_Out_append, List.mem_cons, List.not_mem_nil, or_false] at hm
  rcases hm with rfl
  · cases (Option.some.inj hq : ((.invokestatic 38, 5, 2, 1, 0) : Ent) = q)
    exact ab_crSN (by decide +kernel) cw_X_byteOf (by decide +kernel) st_X_byteOf (by decide) (fun av m m' h => by cases h) (fun av m r h => cm_X_byteOf l h) KT_nd
theorem cw_Out_append : ab_cw y_Out_append prog_7_method_3_code 5 2 none := ⟨ab_gW_in 931 (by decide +kernel) rfl, ab_gW_in 70 (by decide +kernel) rfl, by decide +kernel, by decide +kernel, by decide +kernel⟩
theorem is_Out_append : Cond.instanceMethod y_Out_append ∈ ab_gW := ab_gW_in 929 (by decide +kernel) rfl
theorem sl_Out_append : Cond.selects "StreamTransport$Outgoing" y_Out_append y_Out_append ∈ ab_gW := ab_gW_in 930 (by decide +kernel) rfl
set_option maxRecDepth 100000 in
theorem cm_Out_append (l : Launch) {av : List AV} {m : Mm} {r : Mm} (h0 : c_Out_append av m = some r) : ∃ (k q : Nat) (av' : List AV) (ci : Nat) (fs : List (Nat × Nat × Nat × Nat)) (z : vw_C), av = .inr (.inr (k, some q)) :: av' ∧ av'.length = 2 ∧ k ≠ 0 ∧ KT[k]? = some (.inl (ci, fs)) ∧ CL[ci]? = some z ∧ z.1 = "StreamTransport$Outgoing" ∧ ab_nos av' ∧ ab_Met l KT CL y_Out_append (Cond.code y_Out_append prog_7_method_3_code 5 none :: ab_gW) 1 22 none av m none r := by
  obtain ⟨v0, v1, v2, hav, h⟩ := c_Out_append_inv h0
  rw [r_Out_append_eq] at h
  have hmo : ab_mo m r := ab_kp_mo (kp_Out_append h0)
  subst hav
  exact ⟨_, _, _, _, _, _, rfl, rfl, by decide, rfl, rfl, rfl, (by intro v hv q e; subst e; simp at hv), ab_met (by decide +kernel) KT_0 KT_nd KT_k3 E_Out_append (cl_Out_append l) hmo (Nat.le_of_ble_eq_true rfl) (ab_rV_inv h) (fun v hv => by cases hv)⟩
/-! StreamTransport$Outgoing.countAcked()I -/
def y_Out_countAcked : MethodName := ⟨"StreamTransport$Outgoing", "countAcked", "()I"⟩
def t_Out_countAcked (pc : Nat) : Option Ent :=
  bif Nat.blt pc 13 then
    (bif Nat.blt pc 4 then
      (bif Nat.blt pc 2 then
        (bif Nat.blt pc 1 then
          (bif Nat.beq pc 0 then some (.iconst 0, 0, 0, 0, 0) else none)
        else
          bif Nat.beq pc 1 then some (.istore_n 1, 1, 0, 0, 0) else none)
      else
        bif Nat.blt pc 3 then
          (bif Nat.beq pc 2 then some (.iconst 0, 0, 0, 0, 0) else none)
        else
          bif Nat.beq pc 3 then some (.istore_n 2, 2, 0, 0, 0) else none)
    else
      bif Nat.blt pc 6 then
        (bif Nat.blt pc 5 then
          (bif Nat.beq pc 4 then some (.iload_n 2, 2, 0, 0, 0) else none)
        else
          bif Nat.beq pc 5 then some (.aload_n 0, 0, 0, 0, 0) else none)
      else
        bif Nat.blt pc 9 then
          (bif Nat.beq pc 6 then some (.getfield 35, 5, 2, 0, 0) else none)
        else
          bif Nat.blt pc 12 then
            (bif Nat.beq pc 9 then some (.if_icmp .ge (22), 31, 0, 0, 0) else none)
          else
            bif Nat.beq pc 12 then some (.aload_n 0, 0, 0, 0, 0) else none)
  else
    bif Nat.blt pc 22 then
      (bif Nat.blt pc 17 then
        (bif Nat.blt pc 16 then
          (bif Nat.beq pc 13 then some (.getfield 15, 5, 1, 1, 0) else none)
        else
          bif Nat.beq pc 16 then some (.iload_n 2, 2, 0, 0, 0) else none)
      else
        bif Nat.blt pc 18 then
          (bif Nat.beq pc 17 then some (.iaload, 0, 0, 0, 0) else none)
        else
          bif Nat.blt pc 19 then
            (bif Nat.beq pc 18 then some (.iconst 3, 0, 0, 0, 3) else none)
          else
            bif Nat.beq pc 19 then some (.if_icmp .ne (6), 25, 0, 0, 0) else none)
    else
      bif Nat.blt pc 28 then
        (bif Nat.blt pc 25 then
          (bif Nat.beq pc 22 then some (.iinc 1 1, 1, 0, 0, 1) else none)
        else
          bif Nat.beq pc 25 then some (.iinc 2 1, 2, 0, 0, 1) else none)
      else
        bif Nat.blt pc 31 then
          (bif Nat.beq pc 28 then some (.goto (-24), 4, 0, 0, 0) else none)
        else
          bif Nat.blt pc 32 then
            (bif Nat.beq pc 31 then some (.iload_n 1, 1, 0, 0, 0) else none)
          else
            bif Nat.beq pc 32 then some (.ireturn, 0, 0, 0, 0) else none
def i_Out_countAcked : Nat → Option Ent := ab_tab 33 t_Out_countAcked
def h_Out_countAcked (pc : Nat) : Nat × List Bool := bif Nat.beq pc 4 then (1, [true, true, true]) else bif Nat.beq pc 25 then (1, [true, true, true]) else (0, [])
def s_Out_countAcked (pc : Nat) : List (Int32 × Nat) × Nat := ([], 0)
noncomputable def eV_Out_countAcked : Nat → List AV → Mm → Option Mm := ab_ev []
noncomputable def eI_Out_countAcked : Nat → List AV → Mm → Option (Int32 × Mm) := ab_ev []
noncomputable def b_Out_countAcked_0 (f : Nat) (v0 : Nat) (m : Mm) : Option Rs := ab_ex KT none s_Out_countAcked eV_Out_countAcked eI_Out_countAcked i_Out_countAcked h_Out_countAcked f 0 [some (.inr (.inr (19, some v0))), none, none] [] m
noncomputable def b_Out_countAcked_4 (f : Nat) (v0 : Nat) (v1 : Int32) (v2 : Int32) (m : Mm) : Option Rs := ab_ex KT none s_Out_countAcked eV_Out_countAcked eI_Out_countAcked i_Out_countAcked h_Out_countAcked f 4 [some (.inr (.inr (19, some v0))), some (.inl v1), some (.inl v2)] [] m
noncomputable def b_Out_countAcked_25 (f : Nat) (v0 : Nat) (v1 : Int32) (v2 : Int32) (m : Mm) : Option Rs := ab_ex KT none s_Out_countAcked eV_Out_countAcked eI_Out_countAcked i_Out_countAcked h_Out_countAcked f 25 [some (.inr (.inr (19, some v0))), some (.inl v1), some (.inl v2)] [] m
set_option maxRecDepth 100000 in
set_option maxHeartbeats 4000000 in
theorem b_Out_countAcked_0_eq (f : Nat) (v0 : Nat) (m : Mm) : b_Out_countAcked_0 (f + 1) v0 m =
    b_Out_countAcked_4 f v0 (0 : Int32) (0 : Int32) m := rfl
set_option maxRecDepth 100000 in
set_option maxHeartbeats 4000000 in
theorem b_Out_countAcked_4_eq (f : Nat) (v0 : Nat) (v1 : Int32) (v2 : Int32) (m : Mm) : b_Out_countAcked_4 (f + 1) v0 v1 v2 m =
    if (m.1 59 v0 0) ≤ v2 then
      some (.inl (some (.inl v1), m))
    else
      (ab_ix v2 64).bind fun i1 =>
      if (m.1 67 (v0 + 2) i1) = (3 : Int32) then
        ab_let (v1 + (1 : Int32)) fun x2 =>
        b_Out_countAcked_25 f v0 x2 v2 m
      else
        b_Out_countAcked_25 f v0 v1 v2 m := rfl
set_option maxRecDepth 100000 in
set_option maxHeartbeats 4000000 in
theorem b_Out_countAcked_25_eq (f : Nat) (v0 : Nat) (v1 : Int32) (v2 : Int32) (m : Mm) : b_Out_countAcked_25 (f + 1) v0 v1 v2 m =
    ab_let (v2 + (1 : Int32)) fun x1 =>
    b_Out_countAcked_4 f v0 v1 x1 m := rfl
noncomputable def r_Out_countAcked : Nat → Mm → Option (Int32 × Mm) := ab_seal fun v0 m => ab_rI (b_Out_countAcked_0 50000 v0 m)
theorem r_Out_countAcked_eq (v0 : Nat) (m : Mm) : r_Out_countAcked v0 m = ab_rI (b_Out_countAcked_0 50000 v0 m) := by
  unfold r_Out_countAcked
  rw [ab_seal_eq]
noncomputable def c_Out_countAcked : List AV → Mm → Option (Int32 × Mm) := fun av m => match av with
  | [.inr (.inr (kv0, ov0))] => if kv0 = 19 then (ov0.bind fun v0 => r_Out_countAcked v0 m) else none
  | _ => none
theorem c_Out_countAcked_inv {av : List AV} {m : Mm} {r : Int32 × Mm} (h : c_Out_countAcked av m = some r) : ∃ (v0 : Nat), av = [.inr (.inr (19, some v0))] ∧ r_Out_countAcked v0 m = some r := by
  unfold c_Out_countAcked at h
  split at h
  · rename_i kv0 ov0
    by_cases hkv0 : kv0 = 19
    case neg => rw [if_neg hkv0] at h; cases h
    rw [if_pos hkv0] at h
    subst hkv0
    obtain ⟨v0, hev0, h⟩ := Option.bind_eq_some_iff.mp h
    subst hev0
    exact ⟨v0, rfl, h⟩
  · cases h
def cs_Out_countAcked : List Nat := []
set_option maxRecDepth 100000 in
theorem E_Out_countAcked : ∀ (pc : Nat) (q : Ent), i_Out_countAcked pc = some q → ab_E KT CL ab_gW "StreamTransport$Outgoing" "countAcked" (some .int) prog_7_method_4_code s_Out_countAcked 3 pc q.1 q.2.1 q.2.2.1 q.2.2.2.1 q.2.2.2.2 := fun pc q hq =>
  ab_Eb_ok lc_Out lj_Out fl_Out (fpn_Out "countAcked") nw_Out na_Out nq_Out (ab_tab_all (t := t_Out_countAcked) (chk := fun pc q => ab_Eb (some .int) prog_7_method_4_code s_Out_countAcked 3 LC_Out LJ_Out FL_Out FPn_Out NW_Out NA_Out NQ_Out pc q.1 q.2.1 q.2.2.1 q.2.2.2.1 q.2.2.2.2) (by decide +kernel) hq)
set_option maxRecDepth 100000 in
theorem kp_Out_countAcked {av : List AV} {m : Mm} {r : Int32 × Mm} (h : c_Out_countAcked av m = some r) : ab_kp m r.2 := by
  obtain ⟨v0, -, h⟩ := c_Out_countAcked_inv h
  rw [r_Out_countAcked_eq] at h
  have hV : ∀ a av m m', eV_Out_countAcked a av m = some m' → ab_kp m m' := ab_ev_all (P := fun _ m r => ab_kp m r) [] (fun q hq => by cases hq)
  have hI : ∀ a av m q, eI_Out_countAcked a av m = some q → ab_kp m q.2 := ab_ev_all (P := fun _ (m : Mm) (r : Int32 × Mm) => ab_kp m r.2) [] (fun q hq => by cases hq)
  exact ab_kprel (ρ := .inl (some (.inl r.1), r.2)) (ab_tab_isn (t := t_Out_countAcked) (by decide +kernel)) hV hI (ab_rI_inv h)
set_option maxRecDepth 100000 in
theorem cl_Out_countAcked (l : Launch) : ∀ (pc : Nat) (q : Ent), i_Out_countAcked pc = some q → ab_inv q.1 = true → ab_CR l KT CL none ab_gW "StreamTransport$Outgoing" prog_7_method_4_code 3 0 0 eV_Out_countAcked eI_Out_countAcked pc q := by
  intro pc q hq hi
  have hm : pc ∈ cs_Out_countAcked := ab_tab_cs (t := t_Out_countAcked) (by decide +kernel) hq hi
  cases hm
theorem cw_Out_countAcked : ab_cw y_Out_countAcked prog_7_method_4_code 3 0 (some .int) := ⟨ab_gW_in 827 (by decide +kernel) rfl, ab_gW_in 70 (by decide +kernel) rfl, by decide +kernel, by decide +kernel, by decide +kernel⟩
theorem is_Out_countAcked : Cond.instanceMethod y_Out_countAcked ∈ ab_gW := ab_gW_in 825 (by decide +kernel) rfl
theorem sl_Out_countAcked : Cond.selects "StreamTransport$Outgoing" y_Out_countAcked y_Out_countAcked ∈ ab_gW := ab_gW_in 826 (by decide +kernel) rfl
set_option maxRecDepth 100000 in
theorem cm_Out_countAcked (l : Launch) {av : List AV} {m : Mm} {r : Int32 × Mm} (h0 : c_Out_countAcked av m = some r) : ∃ (k q : Nat) (av' : List AV) (ci : Nat) (fs : List (Nat × Nat × Nat × Nat)) (z : vw_C), av = .inr (.inr (k, some q)) :: av' ∧ av'.length = 0 ∧ k ≠ 0 ∧ KT[k]? = some (.inl (ci, fs)) ∧ CL[ci]? = some z ∧ z.1 = "StreamTransport$Outgoing" ∧ ab_nos av' ∧ ab_Met l KT CL y_Out_countAcked (Cond.code y_Out_countAcked prog_7_method_4_code 3 (some .int) :: ab_gW) 0 0 none av m (some (.inl r.1)) r.2 := by
  obtain ⟨v0, hav, h⟩ := c_Out_countAcked_inv h0
  rw [r_Out_countAcked_eq] at h
  have hmo : ab_mo m r.2 := ab_kp_mo (kp_Out_countAcked h0)
  subst hav
  exact ⟨_, _, _, _, _, _, rfl, rfl, by decide, rfl, rfl, rfl, (by intro v hv q e; subst e; simp at hv), ab_met (by decide +kernel) KT_0 KT_nd KT_k3 E_Out_countAcked (cl_Out_countAcked l) hmo (Nat.le_of_ble_eq_true rfl) (ab_rI_inv h) (fun v hv => by cases hv; exact ⟨_, rfl⟩)⟩
/-! StreamTransport$Outgoing.isOwed(I)Z -/
def y_Out_isOwed : MethodName := ⟨"StreamTransport$Outgoing", "isOwed", "(I)Z"⟩
def t_Out_isOwed (pc : Nat) : Option Ent :=
  bif Nat.blt pc 6 then
    (bif Nat.blt pc 4 then
      (bif Nat.blt pc 1 then
        (bif Nat.beq pc 0 then some (.iload_n 0, 0, 0, 0, 0) else none)
      else
        bif Nat.beq pc 1 then some (.ifCond .eq (8), 9, 0, 0, 0) else none)
    else
      bif Nat.blt pc 5 then
        (bif Nat.beq pc 4 then some (.iload_n 0, 0, 0, 0, 0) else none)
      else
        bif Nat.beq pc 5 then some (.iconst 2, 0, 0, 0, 2) else none)
  else
    bif Nat.blt pc 10 then
      (bif Nat.blt pc 9 then
        (bif Nat.beq pc 6 then some (.if_icmp .ne (7), 13, 0, 0, 0) else none)
      else
        bif Nat.beq pc 9 then some (.iconst 1, 0, 0, 0, 1) else none)
    else
      bif Nat.blt pc 13 then
        (bif Nat.beq pc 10 then some (.goto 4, 14, 0, 0, 0) else none)
      else
        bif Nat.blt pc 14 then
          (bif Nat.beq pc 13 then some (.iconst 0, 0, 0, 0, 0) else none)
        else
          bif Nat.beq pc 14 then some (.ireturn, 0, 0, 1, 0) else none
def i_Out_isOwed : Nat → Option Ent := ab_tab 15 t_Out_isOwed
def h_Out_isOwed (pc : Nat) : Nat × List Bool := bif Nat.beq pc 9 then (1, [false]) else (0, [])
def s_Out_isOwed (pc : Nat) : List (Int32 × Nat) × Nat := ([], 0)
noncomputable def eV_Out_isOwed : Nat → List AV → Mm → Option Mm := ab_ev []
noncomputable def eI_Out_isOwed : Nat → List AV → Mm → Option (Int32 × Mm) := ab_ev []
noncomputable def b_Out_isOwed_0 (f : Nat) (v0 : Int32) (m : Mm) : Option Rs := ab_ex KT none s_Out_isOwed eV_Out_isOwed eI_Out_isOwed i_Out_isOwed h_Out_isOwed f 0 [some (.inl v0)] [] m
noncomputable def b_Out_isOwed_9 (f : Nat)  (m : Mm) : Option Rs := ab_ex KT none s_Out_isOwed eV_Out_isOwed eI_Out_isOwed i_Out_isOwed h_Out_isOwed f 9 [none] [] m
set_option maxRecDepth 100000 in
set_option maxHeartbeats 4000000 in
theorem b_Out_isOwed_0_eq (f : Nat) (v0 : Int32) (m : Mm) : b_Out_isOwed_0 (f + 1) v0 m =
    if v0 = 0 then
      b_Out_isOwed_9 f  m
    else
      if v0 = (2 : Int32) then
        b_Out_isOwed_9 f  m
      else
        (ab_bo (0 : Int32)).bind fun y1 => some (.inl (some (.inl y1), m)) := rfl
set_option maxRecDepth 100000 in
set_option maxHeartbeats 4000000 in
theorem b_Out_isOwed_9_eq (f : Nat)  (m : Mm) : b_Out_isOwed_9 (f + 1)  m =
    (ab_bo (1 : Int32)).bind fun y1 => some (.inl (some (.inl y1), m)) := rfl
noncomputable def r_Out_isOwed : Int32 → Mm → Option (Int32 × Mm) := ab_seal fun v0 m => ab_rI (b_Out_isOwed_0 50000 v0 m)
theorem r_Out_isOwed_eq (v0 : Int32) (m : Mm) : r_Out_isOwed v0 m = ab_rI (b_Out_isOwed_0 50000 v0 m) := by
  unfold r_Out_isOwed
  rw [ab_seal_eq]
noncomputable def c_Out_isOwed : List AV → Mm → Option (Int32 × Mm) := fun av m => match av with
  | [.inl v0] => r_Out_isOwed v0 m
  | _ => none
theorem c_Out_isOwed_inv {av : List AV} {m : Mm} {r : Int32 × Mm} (h : c_Out_isOwed av m = some r) : ∃ (v0 : Int32), av = [.inl v0] ∧ r_Out_isOwed v0 m = some r := by
  unfold c_Out_isOwed at h
  split at h
  · rename_i v0
    exact ⟨v0, rfl, h⟩
  · cases h
def cs_Out_isOwed : List Nat := []
set_option maxRecDepth 100000 in
theorem E_Out_isOwed : ∀ (pc : Nat) (q : Ent), i_Out_isOwed pc = some q → ab_E KT CL ab_gW "StreamTransport$Outgoing" "isOwed" (some .boolean) prog_7_method_10_code s_Out_isOwed 1 pc q.1 q.2.1 q.2.2.1 q.2.2.2.1 q.2.2.2.2 := fun pc q hq =>
  ab_Eb_ok lc_Out lj_Out fl_Out (fpn_Out "isOwed") nw_Out na_Out nq_Out (ab_tab_all (t := t_Out_isOwed) (chk := fun pc q => ab_Eb (some .boolean) prog_7_method_10_code s_Out_isOwed 1 LC_Out LJ_Out FL_Out FPn_Out NW_Out NA_Out NQ_Out pc q.1 q.2.1 q.2.2.1 q.2.2.2.1 q.2.2.2.2) (by decide +kernel) hq)
set_option maxRecDepth 100000 in
theorem kp_Out_isOwed {av : List AV} {m : Mm} {r : Int32 × Mm} (h : c_Out_isOwed av m = some r) : ab_kp m r.2 := by
  obtain ⟨v0, -, h⟩ := c_Out_isOwed_inv h
  rw [r_Out_isOwed_eq] at h
  have hV : ∀ a av m m', eV_Out_isOwed a av m = some m' → ab_kp m m' := ab_ev_all (P := fun _ m r => ab_kp m r) [] (fun q hq => by cases hq)
  have hI : ∀ a av m q, eI_Out_isOwed a av m = some q → ab_kp m q.2 := ab_ev_all (P := fun _ (m : Mm) (r : Int32 × Mm) => ab_kp m r.2) [] (fun q hq => by cases hq)
  exact ab_kprel (ρ := .inl (some (.inl r.1), r.2)) (ab_tab_isn (t := t_Out_isOwed) (by decide +kernel)) hV hI (ab_rI_inv h)
set_option maxRecDepth 100000 in
theorem cl_Out_isOwed (l : Launch) : ∀ (pc : Nat) (q : Ent), i_Out_isOwed pc = some q → ab_inv q.1 = true → ab_CR l KT CL none ab_gW "StreamTransport$Outgoing" prog_7_method_10_code 1 0 0 eV_Out_isOwed eI_Out_isOwed pc q := by
  intro pc q hq hi
  have hm : pc ∈ cs_Out_isOwed := ab_tab_cs (t := t_Out_isOwed) (by decide +kernel) hq hi
  cases hm
theorem cw_Out_isOwed : ab_cw y_Out_isOwed prog_7_method_10_code 1 1 (some .boolean) := ⟨ab_gW_in 535 (by decide +kernel) rfl, ab_gW_in 70 (by decide +kernel) rfl, by decide +kernel, by decide +kernel, by decide +kernel⟩
theorem st_Out_isOwed : Cond.static y_Out_isOwed ∈ ab_gW := ab_gW_in 534 (by decide +kernel) rfl
set_option maxRecDepth 100000 in
theorem cm_Out_isOwed (l : Launch) {av : List AV} {m : Mm} {r : Int32 × Mm} (h0 : c_Out_isOwed av m = some r) : av.length = 1 ∧ ab_nos av ∧ ab_Met l KT CL y_Out_isOwed (Cond.code y_Out_isOwed prog_7_method_10_code 1 (some .boolean) :: ab_gW) 0 0 none av m (some (.inl r.1)) r.2 := by
  obtain ⟨v0, hav, h⟩ := c_Out_isOwed_inv h0
  rw [r_Out_isOwed_eq] at h
  have hmo : ab_mo m r.2 := ab_kp_mo (kp_Out_isOwed h0)
  subst hav
  exact ⟨rfl, (by intro v hv q e; subst e; simp at hv), ab_met (by decide +kernel) KT_0 KT_nd KT_k3 E_Out_isOwed (cl_Out_isOwed l) hmo (Nat.le_of_ble_eq_true rfl) (ab_rI_inv h) (fun v hv => by cases hv; exact ⟨_, rfl⟩)⟩
/-! StreamTransport$Outgoing.owesReset()Z -/
def y_Out_owesReset : MethodName := ⟨"StreamTransport$Outgoing", "owesReset", "()Z"⟩
def t_Out_owesReset (pc : Nat) : Option Ent :=
  bif Nat.blt pc 11 then
    (bif Nat.blt pc 4 then
      (bif Nat.blt pc 1 then
        (bif Nat.beq pc 0 then some (.aload_n 0, 0, 0, 0, 0) else none)
      else
        bif Nat.beq pc 1 then some (.getfield 32, 5, 6, 0, 0) else none)
    else
      bif Nat.blt pc 7 then
        (bif Nat.beq pc 4 then some (.ifCond .eq (17), 21, 0, 0, 0) else none)
      else
        bif Nat.blt pc 8 then
          (bif Nat.beq pc 7 then some (.aload_n 0, 0, 0, 0, 0) else none)
        else
          bif Nat.beq pc 8 then some (.getfield 22, 5, 8, 0, 0) else none)
  else
    bif Nat.blt pc 18 then
      (bif Nat.blt pc 14 then
        (bif Nat.beq pc 11 then some (.invokestatic 49, 33, 1, 1, 0) else none)
      else
        bif Nat.blt pc 17 then
          (bif Nat.beq pc 14 then some (.ifCond .eq (7), 21, 0, 0, 0) else none)
        else
          bif Nat.beq pc 17 then some (.iconst 1, 0, 0, 0, 1) else none)
    else
      bif Nat.blt pc 21 then
        (bif Nat.beq pc 18 then some (.goto 4, 22, 0, 0, 0) else none)
      else
        bif Nat.blt pc 22 then
          (bif Nat.beq pc 21 then some (.iconst 0, 0, 0, 0, 0) else none)
        else
          bif Nat.beq pc 22 then some (.ireturn, 0, 0, 1, 0) else none
def i_Out_owesReset : Nat → Option Ent := ab_tab 23 t_Out_owesReset
def h_Out_owesReset (pc : Nat) : Nat × List Bool := (0, [])
def s_Out_owesReset (pc : Nat) : List (Int32 × Nat) × Nat := ([], 0)
noncomputable def eV_Out_owesReset : Nat → List AV → Mm → Option Mm := ab_ev []
noncomputable def eI_Out_owesReset : Nat → List AV → Mm → Option (Int32 × Mm) := ab_ev [(33, c_Out_isOwed)]
noncomputable def b_Out_owesReset_0 (f : Nat) (v0 : Nat) (m : Mm) : Option Rs := ab_ex KT none s_Out_owesReset eV_Out_owesReset eI_Out_owesReset i_Out_owesReset h_Out_owesReset f 0 [some (.inr (.inr (19, some v0)))] [] m
set_option maxRecDepth 100000 in
set_option maxHeartbeats 4000000 in
theorem b_Out_owesReset_0_eq (f : Nat) (v0 : Nat) (m : Mm) : b_Out_owesReset_0 (f + 1) v0 m =
    if (m.1 63 v0 0) = 0 then
      (ab_bo (0 : Int32)).bind fun y1 => some (.inl (some (.inl y1), m))
    else
      (r_Out_isOwed (m.1 65 v0 0) m).bind fun z2 =>
      if z2.1 = 0 then
        (ab_bo (0 : Int32)).bind fun y3 => some (.inl (some (.inl y3), z2.2))
      else
        (ab_bo (1 : Int32)).bind fun y4 => some (.inl (some (.inl y4), z2.2)) := rfl
noncomputable def r_Out_owesReset : Nat → Mm → Option (Int32 × Mm) := ab_seal fun v0 m => ab_rI (b_Out_owesReset_0 50000 v0 m)
theorem r_Out_owesReset_eq (v0 : Nat) (m : Mm) : r_Out_owesReset v0 m = ab_rI (b_Out_owesReset_0 50000 v0 m) := by
  unfold r_Out_owesReset
  rw [ab_seal_eq]
noncomputable def c_Out_owesReset : List AV → Mm → Option (Int32 × Mm) := fun av m => match av with
  | [.inr (.inr (kv0, ov0))] => if kv0 = 19 then (ov0.bind fun v0 => r_Out_owesReset v0 m) else none
  | _ => none
theorem c_Out_owesReset_inv {av : List AV} {m : Mm} {r : Int32 × Mm} (h : c_Out_owesReset av m = some r) : ∃ (v0 : Nat), av = [.inr (.inr (19, some v0))] ∧ r_Out_owesReset v0 m = some r := by
  unfold c_Out_owesReset at h
  split at h
  · rename_i kv0 ov0
    by_cases hkv0 : kv0 = 19
    case neg => rw [if_neg hkv0] at h; cases h
    rw [if_pos hkv0] at h
    subst hkv0
    obtain ⟨v0, hev0, h⟩ := Option.bind_eq_some_iff.mp h
    subst hev0
    exact ⟨v0, rfl, h⟩
  · cases h
def cs_Out_owesReset : List Nat := [11]
set_option maxRecDepth 100000 in
theorem E_Out_owesReset : ∀ (pc : Nat) (q : Ent), i_Out_owesReset pc = some q → ab_E KT CL ab_gW "StreamTransport$Outgoing" "owesReset" (some .boolean) prog_7_method_8_code s_Out_owesReset 1 pc q.1 q.2.1 q.2.2.1 q.2.2.2.1 q.2.2.2.2 := fun pc q hq =>
  ab_Eb_ok lc_Out lj_Out fl_Out (fpn_Out "owesReset") nw_Out na_Out nq_Out (ab_tab_all (t := t_Out_owesReset) (chk := fun pc q => ab_Eb (some .boolean) prog_7_method_8_code s_Out_owesReset 1 LC_Out LJ_Out FL_Out FPn_Out NW_Out NA_Out NQ_Out pc q.1 q.2.1 q.2.2.1 q.2.2.2.1 q.2.2.2.2) (by decide +kernel) hq)
set_option maxRecDepth 100000 in
theorem kp_Out_owesReset {av : List AV} {m : Mm} {r : Int32 × Mm} (h : c_Out_owesReset av m = some r) : ab_kp m r.2 := by
  obtain ⟨v0, -, h⟩ := c_Out_owesReset_inv h
  rw [r_Out_owesReset_eq] at h
  have hV : ∀ a av m m', eV_Out_owesReset a av m = some m' → ab_kp m m' := ab_ev_all (P := fun _ m r => ab_kp m r) [] (fun q hq => by cases hq)
  have hI : ∀ a av m q, eI_Out_owesReset a av m = some q → ab_kp m q.2 := ab_ev_all (P := fun _ (m : Mm) (r : Int32 × Mm) => ab_kp m r.2) [(33, c_Out_isOwed)] (List.forall_mem_cons.mpr ⟨fun av m r h => kp_Out_isOwed h, fun q hq => by cases hq⟩)
  exact ab_kprel (ρ := .inl (some (.inl r.1), r.2)) (ab_tab_isn (t := t_Out_owesReset) (by decide +kernel)) hV hI (ab_rI_inv h)
set_option maxRecDepth 100000 in
theorem cl_Out_owesReset (l : Launch) : ∀ (pc : Nat) (q : Ent), i_Out_owesReset pc = some q → ab_inv q.1 = true → ab_CR l KT CL none ab_gW "StreamTransport$Outgoing" prog_7_method_8_code 1 1 20 eV_Out_owesReset eI_Out_owesReset pc q := by
  intro pc q hq hi
  have hm : pc ∈ cs_Out_owesReset := ab_tab_cs (t := t_Out_owesReset) (by decide +kernel) hq hi
  simp only [cs_Out_owesReset, List.mem_cons, List.not_mem_nil, or_false] at hm
  rcases hm with rfl
  · cases (Option.some.inj hq : ((.invokestatic 49, 33, 1, 1, 0) : Ent) = q)
    exact ab_crS (by decide +kernel) cw_Out_isOwed (ab_gW_in 533 (by decide +kernel) rfl) st_Out_isOwed (by decide) (fun av m m' h => by cases h) (fun av m r h => cm_Out_isOwed l h) KT_nd
theorem cw_Out_owesReset : ab_cw y_Out_owesReset prog_7_method_8_code 1 0 (some .boolean) := ⟨ab_gW_in 532 (by decide +kernel) rfl, ab_gW_in 70 (by decide +kernel) rfl, by decide +kernel, by decide +kernel, by decide +kernel⟩
theorem is_Out_owesReset : Cond.instanceMethod y_Out_owesReset ∈ ab_gW := ab_gW_in 530 (by decide +kernel) rfl
theorem sl_Out_owesReset : Cond.selects "StreamTransport$Outgoing" y_Out_owesReset y_Out_owesReset ∈ ab_gW := ab_gW_in 531 (by decide +kernel) rfl
set_option maxRecDepth 100000 in
theorem cm_Out_owesReset (l : Launch) {av : List AV} {m : Mm} {r : Int32 × Mm} (h0 : c_Out_owesReset av m = some r) : ∃ (k q : Nat) (av' : List AV) (ci : Nat) (fs : List (Nat × Nat × Nat × Nat)) (z : vw_C), av = .inr (.inr (k, some q)) :: av' ∧ av'.length = 0 ∧ k ≠ 0 ∧ KT[k]? = some (.inl (ci, fs)) ∧ CL[ci]? = some z ∧ z.1 = "StreamTransport$Outgoing" ∧ ab_nos av' ∧ ab_Met l KT CL y_Out_owesReset (Cond.code y_Out_owesReset prog_7_method_8_code 1 (some .boolean) :: ab_gW) 1 20 none av m (some (.inl r.1)) r.2 := by
  obtain ⟨v0, hav, h⟩ := c_Out_owesReset_inv h0
  rw [r_Out_owesReset_eq] at h
  have hmo : ab_mo m r.2 := ab_kp_mo (kp_Out_owesReset h0)
  subst hav
  exact ⟨_, _, _, _, _, _, rfl, rfl, by decide, rfl, rfl, rfl, (by intro v hv q e; subst e; simp at hv), ab_met (by decide +kernel) KT_0 KT_nd KT_k3 E_Out_owesReset (cl_Out_owesReset l) hmo (Nat.le_of_ble_eq_true rfl) (ab_rI_inv h) (fun v hv => by cases hv; exact ⟨_, rfl⟩)⟩
/-! StreamTransport$Outgoing.firstLost()I -/
def y_Out_firstLost : MethodName := ⟨"StreamTransport$Outgoing", "firstLost", "()I"⟩
def t_Out_firstLost (pc : Nat) : Option Ent :=
  bif Nat.blt pc 15 then
    (bif Nat.blt pc 4 then
      (bif Nat.blt pc 2 then
        (bif Nat.blt pc 1 then
          (bif Nat.beq pc 0 then some (.iconst 0, 0, 0, 0, 0) else none)
        else
          bif Nat.beq pc 1 then some (.istore_n 1, 1, 0, 0, 0) else none)
      else
        bif Nat.blt pc 3 then
          (bif Nat.beq pc 2 then some (.iload_n 1, 1, 0, 0, 0) else none)
        else
          bif Nat.beq pc 3 then some (.aload_n 0, 0, 0, 0, 0) else none)
    else
      bif Nat.blt pc 10 then
        (bif Nat.blt pc 7 then
          (bif Nat.beq pc 4 then some (.getfield 46, 5, 3, 0, 0) else none)
        else
          bif Nat.beq pc 7 then some (.if_icmp .ge (21), 28, 0, 0, 0) else none)
      else
        bif Nat.blt pc 11 then
          (bif Nat.beq pc 10 then some (.aload_n 0, 0, 0, 0, 0) else none)
        else
          bif Nat.blt pc 14 then
            (bif Nat.beq pc 11 then some (.getfield 15, 5, 1, 1, 0) else none)
          else
            bif Nat.beq pc 14 then some (.iload_n 1, 1, 0, 0, 0) else none)
  else
    bif Nat.blt pc 21 then
      (bif Nat.blt pc 17 then
        (bif Nat.blt pc 16 then
          (bif Nat.beq pc 15 then some (.iaload, 0, 0, 0, 0) else none)
        else
          bif Nat.beq pc 16 then some (.iconst 2, 0, 0, 0, 2) else none)
      else
        bif Nat.blt pc 20 then
          (bif Nat.beq pc 17 then some (.if_icmp .ne (5), 22, 0, 0, 0) else none)
        else
          bif Nat.beq pc 20 then some (.iload_n 1, 1, 0, 0, 0) else none)
    else
      bif Nat.blt pc 25 then
        (bif Nat.blt pc 22 then
          (bif Nat.beq pc 21 then some (.ireturn, 0, 0, 0, 0) else none)
        else
          bif Nat.beq pc 22 then some (.iinc 1 1, 1, 0, 0, 1) else none)
      else
        bif Nat.blt pc 28 then
          (bif Nat.beq pc 25 then some (.goto (-23), 2, 0, 0, 0) else none)
        else
          bif Nat.blt pc 29 then
            (bif Nat.beq pc 28 then some (.iconst (-1), 0, 0, 0, -1) else none)
          else
            bif Nat.beq pc 29 then some (.ireturn, 0, 0, 0, 0) else none
def i_Out_firstLost : Nat → Option Ent := ab_tab 30 t_Out_firstLost
def h_Out_firstLost (pc : Nat) : Nat × List Bool := bif Nat.beq pc 2 then (1, [true, true]) else (0, [])
def s_Out_firstLost (pc : Nat) : List (Int32 × Nat) × Nat := ([], 0)
noncomputable def eV_Out_firstLost : Nat → List AV → Mm → Option Mm := ab_ev []
noncomputable def eI_Out_firstLost : Nat → List AV → Mm → Option (Int32 × Mm) := ab_ev []
noncomputable def b_Out_firstLost_0 (f : Nat) (v0 : Nat) (m : Mm) : Option Rs := ab_ex KT none s_Out_firstLost eV_Out_firstLost eI_Out_firstLost i_Out_firstLost h_Out_firstLost f 0 [some (.inr (.inr (19, some v0))), none] [] m
noncomputable def b_Out_firstLost_2 (f : Nat) (v0 : Nat) (v1 : Int32) (m : Mm) : Option Rs := ab_ex KT none s_Out_firstLost eV_Out_firstLost eI_Out_firstLost i_Out_firstLost h_Out_firstLost f 2 [some (.inr (.inr (19, some v0))), some (.inl v1)] [] m
set_option maxRecDepth 100000 in
set_option maxHeartbeats 4000000 in
theorem b_Out_firstLost_0_eq (f : Nat) (v0 : Nat) (m : Mm) : b_Out_firstLost_0 (f + 1) v0 m =
    b_Out_firstLost_2 f v0 (0 : Int32) m := rfl
set_option maxRecDepth 100000 in
set_option maxHeartbeats 4000000 in
theorem b_Out_firstLost_2_eq (f : Nat) (v0 : Nat) (v1 : Int32) (m : Mm) : b_Out_firstLost_2 (f + 1) v0 v1 m =
    if (m.1 60 v0 0) ≤ v1 then
      some (.inl (some (.inl (-1 : Int32)), m))
    else
      (ab_ix v1 64).bind fun i1 =>
      if (m.1 67 (v0 + 2) i1) = (2 : Int32) then
        some (.inl (some (.inl v1), m))
      else
        ab_let (v1 + (1 : Int32)) fun x2 =>
        b_Out_firstLost_2 f v0 x2 m := rfl
noncomputable def r_Out_firstLost : Nat → Mm → Option (Int32 × Mm) := ab_seal fun v0 m => ab_rI (b_Out_firstLost_0 50000 v0 m)
theorem r_Out_firstLost_eq (v0 : Nat) (m : Mm) : r_Out_firstLost v0 m = ab_rI (b_Out_firstLost_0 50000 v0 m) := by
  unfold r_Out_firstLost
  rw [ab_seal_eq]
noncomputable def c_Out_firstLost : List AV → Mm → Option (Int32 × Mm) := fun av m => match av with
  | [.inr (.inr (kv0, ov0))] => if kv0 = 19 then (ov0.bind fun v0 => r_Out_firstLost v0 m) else none
  | _ => none
theorem c_Out_firstLost_inv {av : List AV} {m : Mm} {r : Int32 × Mm} (h : c_Out_firstLost av m = some r) : ∃ (v0 : Nat), av = [.inr (.inr (19, some v0))] ∧ r_Out_firstLost v0 m = some r := by
  unfold c_Out_firstLost at h
  split at h
  · rename_i kv0 ov0
    by_cases hkv0 : kv0 = 19
    case neg => rw [if_neg hkv0] at h; cases h
    rw [if_pos hkv0] at h
    subst hkv0
    obtain ⟨v0, hev0, h⟩ := Option.bind_eq_some_iff.mp h
    subst hev0
    exact ⟨v0, rfl, h⟩
  · cases h
def cs_Out_firstLost : List Nat := []
set_option maxRecDepth 100000 in
theorem E_Out_firstLost : ∀ (pc : Nat) (q : Ent), i_Out_firstLost pc = some q → ab_E KT CL ab_gW "StreamTransport$Outgoing" "firstLost" (some .int) prog_7_method_6_code s_Out_firstLost 2 pc q.1 q.2.1 q.2.2.1 q.2.2.2.1 q.2.2.2.2 := fun pc q hq =>
  ab_Eb_ok lc_Out lj_Out fl_Out (fpn_Out "firstLost") nw_Out na_Out nq_Out (ab_tab_all (t := t_Out_firstLost) (chk := fun pc q => ab_Eb (some .int) prog_7_method_6_code s_Out_firstLost 2 LC_Out LJ_Out FL_Out FPn_Out NW_Out NA_Out NQ_Out pc q.1 q.2.1 q.2.2.1 q.2.2.2.1 q.2.2.2.2) (by decide +kernel) hq)
set_option maxRecDepth 100000 in
theorem kp_Out_firstLost {av : List AV} {m : Mm} {r : Int32 × Mm} (h : c_Out_firstLost av m = some r) : ab_kp m r.2 := by
  obtain ⟨v0, -, h⟩ := c_Out_firstLost_inv h
  rw [r_Out_firstLost_eq] at h
  have hV : ∀ a av m m', eV_Out_firstLost a av m = some m' → ab_kp m m' := ab_ev_all (P := fun _ m r => ab_kp m r) [] (fun q hq => by cases hq)
  have hI : ∀ a av m q, eI_Out_firstLost a av m = some q → ab_kp m q.2 := ab_ev_all (P := fun _ (m : Mm) (r : Int32 × Mm) => ab_kp m r.2) [] (fun q hq => by cases hq)
  exact ab_kprel (ρ := .inl (some (.inl r.1), r.2)) (ab_tab_isn (t := t_Out_firstLost) (by decide +kernel)) hV hI (ab_rI_inv h)
set_option maxRecDepth 100000 in
theorem cl_Out_firstLost (l : Launch) : ∀ (pc : Nat) (q : Ent), i_Out_firstLost pc = some q → ab_inv q.1 = true → ab_CR l KT CL none ab_gW "StreamTransport$Outgoing" prog_7_method_6_code 2 0 0 eV_Out_firstLost eI_Out_firstLost pc q := by
  intro pc q hq hi
  have hm : pc ∈ cs_Out_firstLost := ab_tab_cs (t := t_Out_firstLost) (by decide +kernel) hq hi
  cases hm
theorem cw_Out_firstLost : ab_cw y_Out_firstLost prog_7_method_6_code 2 0 (some .int) := ⟨ab_gW_in 552 (by decide +kernel) rfl, ab_gW_in 70 (by decide +kernel) rfl, by decide +kernel, by decide +kernel, by decide +kernel⟩
theorem is_Out_firstLost : Cond.instanceMethod y_Out_firstLost ∈ ab_gW := ab_gW_in 550 (by decide +kernel) rfl
theorem sl_Out_firstLost : Cond.selects "StreamTransport$Outgoing" y_Out_firstLost y_Out_firstLost ∈ ab_gW := ab_gW_in 551 (by decide +kernel) rfl
set_option maxRecDepth 100000 in
theorem cm_Out_firstLost (l : Launch) {av : List AV} {m : Mm} {r : Int32 × Mm} (h0 : c_Out_firstLost av m = some r) : ∃ (k q : Nat) (av' : List AV) (ci : Nat) (fs : List (Nat × Nat × Nat × Nat)) (z : vw_C), av = .inr (.inr (k, some q)) :: av' ∧ av'.length = 0 ∧ k ≠ 0 ∧ KT[k]? = some (.inl (ci, fs)) ∧ CL[ci]? = some z ∧ z.1 = "StreamTransport$Outgoing" ∧ ab_nos av' ∧ ab_Met l KT CL y_Out_firstLost (Cond.code y_Out_firstLost prog_7_method_6_code 2 (some .int) :: ab_gW) 0 0 none av m (some (.inl r.1)) r.2 := by
  obtain ⟨v0, hav, h⟩ := c_Out_firstLost_inv h0
  rw [r_Out_firstLost_eq] at h
  have hmo : ab_mo m r.2 := ab_kp_mo (kp_Out_firstLost h0)
  subst hav
  exact ⟨_, _, _, _, _, _, rfl, rfl, by decide, rfl, rfl, rfl, (by intro v hv q e; subst e; simp at hv), ab_met (by decide +kernel) KT_0 KT_nd KT_k3 E_Out_firstLost (cl_Out_firstLost l) hmo (Nat.le_of_ble_eq_true rfl) (ab_rI_inv h) (fun v hv => by cases hv; exact ⟨_, rfl⟩)⟩
/-! StreamTransport$Outgoing.countLostFrom(I)I -/
def y_Out_countLostFrom : MethodName := ⟨"StreamTransport$Outgoing", "countLostFrom", "(I)I"⟩
def t_Out_countLostFrom (pc : Nat) : Option Ent :=
  bif Nat.blt pc 13 then
    (bif Nat.blt pc 4 then
      (bif Nat.blt pc 2 then
        (bif Nat.blt pc 1 then
          (bif Nat.beq pc 0 then some (.iconst 0, 0, 0, 0, 0) else none)
        else
          bif Nat.beq pc 1 then some (.istore_n 2, 2, 0, 0, 0) else none)
      else
        bif Nat.blt pc 3 then
          (bif Nat.beq pc 2 then some (.iload_n 1, 1, 0, 0, 0) else none)
        else
          bif Nat.beq pc 3 then some (.istore_n 3, 3, 0, 0, 0) else none)
    else
      bif Nat.blt pc 6 then
        (bif Nat.blt pc 5 then
          (bif Nat.beq pc 4 then some (.iload_n 3, 3, 0, 0, 0) else none)
        else
          bif Nat.beq pc 5 then some (.aload_n 0, 0, 0, 0, 0) else none)
      else
        bif Nat.blt pc 9 then
          (bif Nat.beq pc 6 then some (.getfield 46, 5, 3, 0, 0) else none)
        else
          bif Nat.blt pc 12 then
            (bif Nat.beq pc 9 then some (.if_icmp .ge (22), 31, 0, 0, 0) else none)
          else
            bif Nat.beq pc 12 then some (.aload_n 0, 0, 0, 0, 0) else none)
  else
    bif Nat.blt pc 22 then
      (bif Nat.blt pc 17 then
        (bif Nat.blt pc 16 then
          (bif Nat.beq pc 13 then some (.getfield 15, 5, 1, 1, 0) else none)
        else
          bif Nat.beq pc 16 then some (.iload_n 3, 3, 0, 0, 0) else none)
      else
        bif Nat.blt pc 18 then
          (bif Nat.beq pc 17 then some (.iaload, 0, 0, 0, 0) else none)
        else
          bif Nat.blt pc 19 then
            (bif Nat.beq pc 18 then some (.iconst 2, 0, 0, 0, 2) else none)
          else
            bif Nat.beq pc 19 then some (.if_icmp .ne (12), 31, 0, 0, 0) else none)
    else
      bif Nat.blt pc 28 then
        (bif Nat.blt pc 25 then
          (bif Nat.beq pc 22 then some (.iinc 2 1, 2, 0, 0, 1) else none)
        else
          bif Nat.beq pc 25 then some (.iinc 3 1, 3, 0, 0, 1) else none)
      else
        bif Nat.blt pc 31 then
          (bif Nat.beq pc 28 then some (.goto (-24), 4, 0, 0, 0) else none)
        else
          bif Nat.blt pc 32 then
            (bif Nat.beq pc 31 then some (.iload_n 2, 2, 0, 0, 0) else none)
          else
            bif Nat.beq pc 32 then some (.ireturn, 0, 0, 0, 0) else none
def i_Out_countLostFrom : Nat → Option Ent := ab_tab 33 t_Out_countLostFrom
def h_Out_countLostFrom (pc : Nat) : Nat × List Bool := bif Nat.beq pc 4 then (1, [true, false, true, true]) else (0, [])
def s_Out_countLostFrom (pc : Nat) : List (Int32 × Nat) × Nat := ([], 0)
noncomputable def eV_Out_countLostFrom : Nat → List AV → Mm → Option Mm := ab_ev []
noncomputable def eI_Out_countLostFrom : Nat → List AV → Mm → Option (Int32 × Mm) := ab_ev []
noncomputable def b_Out_countLostFrom_0 (f : Nat) (v0 : Nat) (v1 : Int32) (m : Mm) : Option Rs := ab_ex KT none s_Out_countLostFrom eV_Out_countLostFrom eI_Out_countLostFrom i_Out_countLostFrom h_Out_countLostFrom f 0 [some (.inr (.inr (19, some v0))), some (.inl v1), none, none] [] m
noncomputable def b_Out_countLostFrom_4 (f : Nat) (v0 : Nat) (v2 : Int32) (v3 : Int32) (m : Mm) : Option Rs := ab_ex KT none s_Out_countLostFrom eV_Out_countLostFrom eI_Out_countLostFrom i_Out_countLostFrom h_Out_countLostFrom f 4 [some (.inr (.inr (19, some v0))), none, some (.inl v2), some (.inl v3)] [] m
set_option maxRecDepth 100000 in
set_option maxHeartbeats 4000000 in
theorem b_Out_countLostFrom_0_eq (f : Nat) (v0 : Nat) (v1 : Int32) (m : Mm) : b_Out_countLostFrom_0 (f + 1) v0 v1 m =
    b_Out_countLostFrom_4 f v0 (0 : Int32) v1 m := rfl
set_option maxRecDepth 100000 in
set_option maxHeartbeats 4000000 in
theorem b_Out_countLostFrom_4_eq (f : Nat) (v0 : Nat) (v2 : Int32) (v3 : Int32) (m : Mm) : b_Out_countLostFrom_4 (f + 1) v0 v2 v3 m =
    if (m.1 60 v0 0) ≤ v3 then
      some (.inl (some (.inl v2), m))
    else
      (ab_ix v3 64).bind fun i1 =>
      if (m.1 67 (v0 + 2) i1) = (2 : Int32) then
        ab_let (v2 + (1 : Int32)) fun x2 =>
        ab_let (v3 + (1 : Int32)) fun x3 =>
        b_Out_countLostFrom_4 f v0 x2 x3 m
      else
        some (.inl (some (.inl v2), m)) := rfl
noncomputable def r_Out_countLostFrom : Nat → Int32 → Mm → Option (Int32 × Mm) := ab_seal fun v0 v1 m => ab_rI (b_Out_countLostFrom_0 50000 v0 v1 m)
theorem r_Out_countLostFrom_eq (v0 : Nat) (v1 : Int32) (m : Mm) : r_Out_countLostFrom v0 v1 m = ab_rI (b_Out_countLostFrom_0 50000 v0 v1 m) := by
  unfold r_Out_countLostFrom
  rw [ab_seal_eq]
noncomputable def c_Out_countLostFrom : List AV → Mm → Option (Int32 × Mm) := fun av m => match av with
  | [.inr (.inr (kv0, ov0)), .inl v1] => if kv0 = 19 then (ov0.bind fun v0 => r_Out_countLostFrom v0 v1 m) else none
  | _ => none
theorem c_Out_countLostFrom_inv {av : List AV} {m : Mm} {r : Int32 × Mm} (h : c_Out_countLostFrom av m = some r) : ∃ (v0 : Nat) (v1 : Int32), av = [.inr (.inr (19, some v0)), .inl v1] ∧ r_Out_countLostFrom v0 v1 m = some r := by
  unfold c_Out_countLostFrom at h
  split at h
  · rename_i kv0 ov0 v1
    by_cases hkv0 : kv0 = 19
    case neg => rw [if_neg hkv0] at h; cases h
    rw [if_pos hkv0] at h
    subst hkv0
    obtain ⟨v0, hev0, h⟩ := Option.bind_eq_some_iff.mp h
    subst hev0
    exact ⟨v0, v1, rfl, h⟩
  · cases h
def cs_Out_countLostFrom : List Nat := []
set_option maxRecDepth 100000 in
theorem E_Out_countLostFrom : ∀ (pc : Nat) (q : Ent), i_Out_countLostFrom pc = some q → ab_E KT CL ab_gW "StreamTransport$Outgoing" "countLostFrom" (some .int) prog_7_method_7_code s_Out_countLostFrom 4 pc q.1 q.2.1 q.2.2.1 q.2.2.2.1 q.2.2.2.2 := fun pc q hq =>
  ab_Eb_ok lc_Out lj_Out fl_Out (fpn_Out "countLostFrom") nw_Out na_Out nq_Out (ab_tab_all (t := t_Out_countLostFrom) (chk := fun pc q => ab_Eb (some .int) prog_7_method_7_code s_Out_countLostFrom 4 LC_Out LJ_Out FL_Out FPn_Out NW_Out NA_Out NQ_Out pc q.1 q.2.1 q.2.2.1 q.2.2.2.1 q.2.2.2.2) (by decide +kernel) hq)
set_option maxRecDepth 100000 in
theorem kp_Out_countLostFrom {av : List AV} {m : Mm} {r : Int32 × Mm} (h : c_Out_countLostFrom av m = some r) : ab_kp m r.2 := by
  obtain ⟨v0, v1, -, h⟩ := c_Out_countLostFrom_inv h
  rw [r_Out_countLostFrom_eq] at h
  have hV : ∀ a av m m', eV_Out_countLostFrom a av m = some m' → ab_kp m m' := ab_ev_all (P := fun _ m r => ab_kp m r) [] (fun q hq => by cases hq)
  have hI : ∀ a av m q, eI_Out_countLostFrom a av m = some q → ab_kp m q.2 := ab_ev_all (P := fun _ (m : Mm) (r : Int32 × Mm) => ab_kp m r.2) [] (fun q hq => by cases hq)
  exact ab_kprel (ρ := .inl (some (.inl r.1), r.2)) (ab_tab_isn (t := t_Out_countLostFrom) (by decide +kernel)) hV hI (ab_rI_inv h)
set_option maxRecDepth 100000 in
theorem cl_Out_countLostFrom (l : Launch) : ∀ (pc : Nat) (q : Ent), i_Out_countLostFrom pc = some q → ab_inv q.1 = true → ab_CR l KT CL none ab_gW "StreamTransport$Outgoing" prog_7_method_7_code 4 0 0 eV_Out_countLostFrom eI_Out_countLostFrom pc q := by
  intro pc q hq hi
  have hm : pc ∈ cs_Out_countLostFrom := ab_tab_cs (t := t_Out_countLostFrom) (by decide +kernel) hq hi
  cases hm
theorem cw_Out_countLostFrom : ab_cw y_Out_countLostFrom prog_7_method_7_code 4 1 (some .int) := ⟨ab_gW_in 564 (by decide +kernel) rfl, ab_gW_in 70 (by decide +kernel) rfl, by decide +kernel, by decide +kernel, by decide +kernel⟩
theorem is_Out_countLostFrom : Cond.instanceMethod y_Out_countLostFrom ∈ ab_gW := ab_gW_in 562 (by decide +kernel) rfl
theorem sl_Out_countLostFrom : Cond.selects "StreamTransport$Outgoing" y_Out_countLostFrom y_Out_countLostFrom ∈ ab_gW := ab_gW_in 563 (by decide +kernel) rfl
set_option maxRecDepth 100000 in
theorem cm_Out_countLostFrom (l : Launch) {av : List AV} {m : Mm} {r : Int32 × Mm} (h0 : c_Out_countLostFrom av m = some r) : ∃ (k q : Nat) (av' : List AV) (ci : Nat) (fs : List (Nat × Nat × Nat × Nat)) (z : vw_C), av = .inr (.inr (k, some q)) :: av' ∧ av'.length = 1 ∧ k ≠ 0 ∧ KT[k]? = some (.inl (ci, fs)) ∧ CL[ci]? = some z ∧ z.1 = "StreamTransport$Outgoing" ∧ ab_nos av' ∧ ab_Met l KT CL y_Out_countLostFrom (Cond.code y_Out_countLostFrom prog_7_method_7_code 4 (some .int) :: ab_gW) 0 0 none av m (some (.inl r.1)) r.2 := by
  obtain ⟨v0, v1, hav, h⟩ := c_Out_countLostFrom_inv h0
  rw [r_Out_countLostFrom_eq] at h
  have hmo : ab_mo m r.2 := ab_kp_mo (kp_Out_countLostFrom h0)
  subst hav
  exact ⟨_, _, _, _, _, _, rfl, rfl, by decide, rfl, rfl, rfl, (by intro v hv q e; subst e; simp at hv), ab_met (by decide +kernel) KT_0 KT_nd KT_k3 E_Out_countLostFrom (cl_Out_countLostFrom l) hmo (Nat.le_of_ble_eq_true rfl) (ab_rI_inv h) (fun v hv => by cases hv; exact ⟨_, rfl⟩)⟩
/-! StreamTransport$Outgoing.isDone()Z -/
def y_Out_isDone : MethodName := ⟨"StreamTransport$Outgoing", "isDone", "()Z"⟩
def t_Out_isDone (pc : Nat) : Option Ent :=
  bif Nat.blt pc 16 then
    (bif Nat.blt pc 8 then
      (bif Nat.blt pc 4 then
        (bif Nat.blt pc 1 then
          (bif Nat.beq pc 0 then some (.aload_n 0, 0, 0, 0, 0) else none)
        else
          bif Nat.beq pc 1 then some (.getfield 22, 5, 8, 0, 0) else none)
      else
        bif Nat.blt pc 5 then
          (bif Nat.beq pc 4 then some (.iconst 3, 0, 0, 0, 3) else none)
        else
          bif Nat.beq pc 5 then some (.if_icmp .eq (22), 27, 0, 0, 0) else none)
    else
      bif Nat.blt pc 12 then
        (bif Nat.blt pc 9 then
          (bif Nat.beq pc 8 then some (.aload_n 0, 0, 0, 0, 0) else none)
        else
          bif Nat.beq pc 9 then some (.getfield 18, 5, 7, 0, 0) else none)
      else
        bif Nat.blt pc 13 then
          (bif Nat.beq pc 12 then some (.iconst 3, 0, 0, 0, 3) else none)
        else
          bif Nat.beq pc 13 then some (.if_icmp .ne (18), 31, 0, 0, 0) else none)
  else
    bif Nat.blt pc 24 then
      (bif Nat.blt pc 20 then
        (bif Nat.blt pc 17 then
          (bif Nat.beq pc 16 then some (.aload_n 0, 0, 0, 0, 0) else none)
        else
          bif Nat.beq pc 17 then some (.invokevirtual 42, 32, 1, 1, 0) else none)
      else
        bif Nat.blt pc 21 then
          (bif Nat.beq pc 20 then some (.aload_n 0, 0, 0, 0, 0) else none)
        else
          bif Nat.beq pc 21 then some (.getfield 35, 5, 2, 0, 0) else none)
    else
      bif Nat.blt pc 28 then
        (bif Nat.blt pc 27 then
          (bif Nat.beq pc 24 then some (.if_icmp .ne (7), 31, 0, 0, 0) else none)
        else
          bif Nat.beq pc 27 then some (.iconst 1, 0, 0, 0, 1) else none)
      else
        bif Nat.blt pc 31 then
          (bif Nat.beq pc 28 then some (.goto 4, 32, 0, 0, 0) else none)
        else
          bif Nat.blt pc 32 then
            (bif Nat.beq pc 31 then some (.iconst 0, 0, 0, 0, 0) else none)
          else
            bif Nat.beq pc 32 then some (.ireturn, 0, 0, 1, 0) else none
def i_Out_isDone : Nat → Option Ent := ab_tab 33 t_Out_isDone
def h_Out_isDone (pc : Nat) : Nat × List Bool := bif Nat.beq pc 27 then (1, [false]) else (0, [])
def s_Out_isDone (pc : Nat) : List (Int32 × Nat) × Nat := ([], 0)
noncomputable def eV_Out_isDone : Nat → List AV → Mm → Option Mm := ab_ev []
noncomputable def eI_Out_isDone : Nat → List AV → Mm → Option (Int32 × Mm) := ab_ev [(32, c_Out_countAcked)]
noncomputable def b_Out_isDone_0 (f : Nat) (v0 : Nat) (m : Mm) : Option Rs := ab_ex KT none s_Out_isDone eV_Out_isDone eI_Out_isDone i_Out_isDone h_Out_isDone f 0 [some (.inr (.inr (19, some v0)))] [] m
noncomputable def b_Out_isDone_27 (f : Nat)  (m : Mm) : Option Rs := ab_ex KT none s_Out_isDone eV_Out_isDone eI_Out_isDone i_Out_isDone h_Out_isDone f 27 [none] [] m
set_option maxRecDepth 100000 in
set_option maxHeartbeats 4000000 in
theorem b_Out_isDone_0_eq (f : Nat) (v0 : Nat) (m : Mm) : b_Out_isDone_0 (f + 1) v0 m =
    if (m.1 65 v0 0) = (3 : Int32) then
      b_Out_isDone_27 f  m
    else
      if (m.1 64 v0 0) = (3 : Int32) then
        (r_Out_countAcked v0 m).bind fun z2 =>
        if z2.1 = (z2.2.1 59 v0 0) then
          b_Out_isDone_27 f  z2.2
        else
          (ab_bo (0 : Int32)).bind fun y3 => some (.inl (some (.inl y3), z2.2))
      else
        (ab_bo (0 : Int32)).bind fun y1 => some (.inl (some (.inl y1), m)) := rfl
set_option maxRecDepth 100000 in
set_option maxHeartbeats 4000000 in
theorem b_Out_isDone_27_eq (f : Nat)  (m : Mm) : b_Out_isDone_27 (f + 1)  m =
    (ab_bo (1 : Int32)).bind fun y1 => some (.inl (some (.inl y1), m)) := rfl
noncomputable def r_Out_isDone : Nat → Mm → Option (Int32 × Mm) := ab_seal fun v0 m => ab_rI (b_Out_isDone_0 50000 v0 m)
theorem r_Out_isDone_eq (v0 : Nat) (m : Mm) : r_Out_isDone v0 m = ab_rI (b_Out_isDone_0 50000 v0 m) := by
  unfold r_Out_isDone
  rw [ab_seal_eq]
noncomputable def c_Out_isDone : List AV → Mm → Option (Int32 × Mm) := fun av m => match av with
  | [.inr (.inr (kv0, ov0))] => if kv0 = 19 then (ov0.bind fun v0 => r_Out_isDone v0 m) else none
  | _ => none
theorem c_Out_isDone_inv {av : List AV} {m : Mm} {r : Int32 × Mm} (h : c_Out_isDone av m = some r) : ∃ (v0 : Nat), av = [.inr (.inr (19, some v0))] ∧ r_Out_isDone v0 m = some r := by
  unfold c_Out_isDone at h
  split at h
  · rename_i kv0 ov0
    by_cases hkv0 : kv0 = 19
    case neg => rw [if_neg hkv0] at h; cases h
    rw [if_pos hkv0] at h
    subst hkv0
    obtain ⟨v0, hev0, h⟩ := Option.bind_eq_some_iff.mp h
    subst hev0
    exact ⟨v0, rfl, h⟩
  · cases h
def cs_Out_isDone : List Nat := [17]
set_option maxRecDepth 100000 in
theorem E_Out_isDone : ∀ (pc : Nat) (q : Ent), i_Out_isDone pc = some q → ab_E KT CL ab_gW "StreamTransport$Outgoing" "isDone" (some .boolean) prog_7_method_5_code s_Out_isDone 1 pc q.1 q.2.1 q.2.2.1 q.2.2.2.1 q.2.2.2.2 := fun pc q hq =>
  ab_Eb_ok lc_Out lj_Out fl_Out (fpn_Out "isDone") nw_Out na_Out nq_Out (ab_tab_all (t := t_Out_isDone) (chk := fun pc q => ab_Eb (some .boolean) prog_7_method_5_code s_Out_isDone 1 LC_Out LJ_Out FL_Out FPn_Out NW_Out NA_Out NQ_Out pc q.1 q.2.1 q.2.2.1 q.2.2.2.1 q.2.2.2.2) (by decide +kernel) hq)
set_option maxRecDepth 100000 in
theorem kp_Out_isDone {av : List AV} {m : Mm} {r : Int32 × Mm} (h : c_Out_isDone av m = some r) : ab_kp m r.2 := by
  obtain ⟨v0, -, h⟩ := c_Out_isDone_inv h
  rw [r_Out_isDone_eq] at h
  have hV : ∀ a av m m', eV_Out_isDone a av m = some m' → ab_kp m m' := ab_ev_all (P := fun _ m r => ab_kp m r) [] (fun q hq => by cases hq)
  have hI : ∀ a av m q, eI_Out_isDone a av m = some q → ab_kp m q.2 := ab_ev_all (P := fun _ (m : Mm) (r : Int32 × Mm) => ab_kp m r.2) [(32, c_Out_countAcked)] (List.forall_mem_cons.mpr ⟨fun av m r h => kp_Out_countAcked h, fun q hq => by cases hq⟩)
  exact ab_kprel (ρ := .inl (some (.inl r.1), r.2)) (ab_tab_isn (t := t_Out_isDone) (by decide +kernel)) hV hI (ab_rI_inv h)
set_option maxRecDepth 100000 in
theorem cl_Out_isDone (l : Launch) : ∀ (pc : Nat) (q : Ent), i_Out_isDone pc = some q → ab_inv q.1 = true → ab_CR l KT CL none ab_gW "StreamTransport$Outgoing" prog_7_method_5_code 1 1 22 eV_Out_isDone eI_Out_isDone pc q := by
  intro pc q hq hi
  have hm : pc ∈ cs_Out_isDone := ab_tab_cs (t := t_Out_isDone) (by decide +kernel) hq hi
  simp only [cs_Out_isDone, List.mem_cons, List.not_mem_nil, or_false] at hm
  rcases hm with rfl
  · cases (Option.some.inj hq : ((.invokevirtual 42, 32, 1, 1, 0) : Ent) = q)
    exact ab_crV (C := "StreamTransport$Outgoing") (by decide +kernel) cw_Out_countAcked (ab_gW_in 832 (by decide +kernel) rfl) is_Out_countAcked sl_Out_countAcked (by decide) (fun av m m' h => by cases h) (fun av m r h => cm_Out_countAcked l h) KT_nd
theorem cw_Out_isDone : ab_cw y_Out_isDone prog_7_method_5_code 1 0 (some .boolean) := ⟨ab_gW_in 831 (by decide +kernel) rfl, ab_gW_in 70 (by decide +kernel) rfl, by decide +kernel, by decide +kernel, by decide +kernel⟩
theorem is_Out_isDone : Cond.instanceMethod y_Out_isDone ∈ ab_gW := ab_gW_in 829 (by decide +kernel) rfl
theorem sl_Out_isDone : Cond.selects "StreamTransport$Outgoing" y_Out_isDone y_Out_isDone ∈ ab_gW := ab_gW_in 830 (by decide +kernel) rfl
set_option maxRecDepth 100000 in
theorem cm_Out_isDone (l : Launch) {av : List AV} {m : Mm} {r : Int32 × Mm} (h0 : c_Out_isDone av m = some r) : ∃ (k q : Nat) (av' : List AV) (ci : Nat) (fs : List (Nat × Nat × Nat × Nat)) (z : vw_C), av = .inr (.inr (k, some q)) :: av' ∧ av'.length = 0 ∧ k ≠ 0 ∧ KT[k]? = some (.inl (ci, fs)) ∧ CL[ci]? = some z ∧ z.1 = "StreamTransport$Outgoing" ∧ ab_nos av' ∧ ab_Met l KT CL y_Out_isDone (Cond.code y_Out_isDone prog_7_method_5_code 1 (some .boolean) :: ab_gW) 1 22 none av m (some (.inl r.1)) r.2 := by
  obtain ⟨v0, hav, h⟩ := c_Out_isDone_inv h0
  rw [r_Out_isDone_eq] at h
  have hmo : ab_mo m r.2 := ab_kp_mo (kp_Out_isDone h0)
  subst hav
  exact ⟨_, _, _, _, _, _, rfl, rfl, by decide, rfl, rfl, rfl, (by intro v hv q e; subst e; simp at hv), ab_met (by decide +kernel) KT_0 KT_nd KT_k3 E_Out_isDone (cl_Out_isDone l) hmo (Nat.le_of_ble_eq_true rfl) (ab_rI_inv h) (fun v hv => by cases hv; exact ⟨_, rfl⟩)⟩
/-! StreamTransport$Outgoing.owesEndAlone()Z -/
def y_Out_owesEndAlone : MethodName := ⟨"StreamTransport$Outgoing", "owesEndAlone", "()Z"⟩
def t_Out_owesEndAlone (pc : Nat) : Option Ent :=
  bif Nat.blt pc 22 then
    (bif Nat.blt pc 11 then
      (bif Nat.blt pc 4 then
        (bif Nat.blt pc 1 then
          (bif Nat.beq pc 0 then some (.aload_n 0, 0, 0, 0, 0) else none)
        else
          bif Nat.beq pc 1 then some (.getfield 28, 5, 5, 0, 0) else none)
      else
        bif Nat.blt pc 7 then
          (bif Nat.beq pc 4 then some (.ifCond .eq (36), 40, 0, 0, 0) else none)
        else
          bif Nat.blt pc 8 then
            (bif Nat.beq pc 7 then some (.aload_n 0, 0, 0, 0, 0) else none)
          else
            bif Nat.beq pc 8 then some (.getfield 18, 5, 7, 0, 0) else none)
    else
      bif Nat.blt pc 17 then
        (bif Nat.blt pc 14 then
          (bif Nat.beq pc 11 then some (.invokestatic 49, 33, 1, 1, 0) else none)
        else
          bif Nat.beq pc 14 then some (.ifCond .eq (26), 40, 0, 0, 0) else none)
      else
        bif Nat.blt pc 18 then
          (bif Nat.beq pc 17 then some (.aload_n 0, 0, 0, 0, 0) else none)
        else
          bif Nat.blt pc 21 then
            (bif Nat.beq pc 18 then some (.getfield 46, 5, 3, 0, 0) else none)
          else
            bif Nat.beq pc 21 then some (.aload_n 0, 0, 0, 0, 0) else none)
  else
    bif Nat.blt pc 33 then
      (bif Nat.blt pc 28 then
        (bif Nat.blt pc 25 then
          (bif Nat.beq pc 22 then some (.getfield 35, 5, 2, 0, 0) else none)
        else
          bif Nat.beq pc 25 then some (.if_icmp .ne (15), 40, 0, 0, 0) else none)
      else
        bif Nat.blt pc 29 then
          (bif Nat.beq pc 28 then some (.aload_n 0, 0, 0, 0, 0) else none)
        else
          bif Nat.blt pc 32 then
            (bif Nat.beq pc 29 then some (.invokevirtual 53, 35, 1, 1, 0) else none)
          else
            bif Nat.beq pc 32 then some (.iconst (-1), 0, 0, 0, -1) else none)
    else
      bif Nat.blt pc 37 then
        (bif Nat.blt pc 36 then
          (bif Nat.beq pc 33 then some (.if_icmp .ne (7), 40, 0, 0, 0) else none)
        else
          bif Nat.beq pc 36 then some (.iconst 1, 0, 0, 0, 1) else none)
      else
        bif Nat.blt pc 40 then
          (bif Nat.beq pc 37 then some (.goto 4, 41, 0, 0, 0) else none)
        else
          bif Nat.blt pc 41 then
            (bif Nat.beq pc 40 then some (.iconst 0, 0, 0, 0, 0) else none)
          else
            bif Nat.beq pc 41 then some (.ireturn, 0, 0, 1, 0) else none
def i_Out_owesEndAlone : Nat → Option Ent := ab_tab 42 t_Out_owesEndAlone
def h_Out_owesEndAlone (pc : Nat) : Nat × List Bool := (0, [])
def s_Out_owesEndAlone (pc : Nat) : List (Int32 × Nat) × Nat := ([], 0)
noncomputable def eV_Out_owesEndAlone : Nat → List AV → Mm → Option Mm := ab_ev []
noncomputable def eI_Out_owesEndAlone : Nat → List AV → Mm → Option (Int32 × Mm) := ab_ev [(33, c_Out_isOwed), (35, c_Out_firstLost)]
noncomputable def b_Out_owesEndAlone_0 (f : Nat) (v0 : Nat) (m : Mm) : Option Rs := ab_ex KT none s_Out_owesEndAlone eV_Out_owesEndAlone eI_Out_owesEndAlone i_Out_owesEndAlone h_Out_owesEndAlone f 0 [some (.inr (.inr (19, some v0)))] [] m
set_option maxRecDepth 100000 in
set_option maxHeartbeats 4000000 in
theorem b_Out_owesEndAlone_0_eq (f : Nat) (v0 : Nat) (m : Mm) : b_Out_owesEndAlone_0 (f + 1) v0 m =
    if (m.1 62 v0 0) = 0 then
      (ab_bo (0 : Int32)).bind fun y1 => some (.inl (some (.inl y1), m))
    else
      (r_Out_isOwed (m.1 64 v0 0) m).bind fun z2 =>
      if z2.1 = 0 then
        (ab_bo (0 : Int32)).bind fun y3 => some (.inl (some (.inl y3), z2.2))
      else
        if (z2.2.1 60 v0 0) = (z2.2.1 59 v0 0) then
          (r_Out_firstLost v0 z2.2).bind fun z5 =>
          if z5.1 = (-1 : Int32) then
            (ab_bo (1 : Int32)).bind fun y7 => some (.inl (some (.inl y7), z5.2))
          else
            (ab_bo (0 : Int32)).bind fun y6 => some (.inl (some (.inl y6), z5.2))
        else
          (ab_bo (0 : Int32)).bind fun y4 => some (.inl (some (.inl y4), z2.2)) := rfl
noncomputable def r_Out_owesEndAlone : Nat → Mm → Option (Int32 × Mm) := ab_seal fun v0 m => ab_rI (b_Out_owesEndAlone_0 50000 v0 m)
theorem r_Out_owesEndAlone_eq (v0 : Nat) (m : Mm) : r_Out_owesEndAlone v0 m = ab_rI (b_Out_owesEndAlone_0 50000 v0 m) := by
  unfold r_Out_owesEndAlone
  rw [ab_seal_eq]
noncomputable def c_Out_owesEndAlone : List AV → Mm → Option (Int32 × Mm) := fun av m => match av with
  | [.inr (.inr (kv0, ov0))] => if kv0 = 19 then (ov0.bind fun v0 => r_Out_owesEndAlone v0 m) else none
  | _ => none
theorem c_Out_owesEndAlone_inv {av : List AV} {m : Mm} {r : Int32 × Mm} (h : c_Out_owesEndAlone av m = some r) : ∃ (v0 : Nat), av = [.inr (.inr (19, some v0))] ∧ r_Out_owesEndAlone v0 m = some r := by
  unfold c_Out_owesEndAlone at h
  split at h
  · rename_i kv0 ov0
    by_cases hkv0 : kv0 = 19
    case neg => rw [if_neg hkv0] at h; cases h
    rw [if_pos hkv0] at h
    subst hkv0
    obtain ⟨v0, hev0, h⟩ := Option.bind_eq_some_iff.mp h
    subst hev0
    exact ⟨v0, rfl, h⟩
  · cases h
def cs_Out_owesEndAlone : List Nat := [11, 29]
set_option maxRecDepth 100000 in
theorem E_Out_owesEndAlone : ∀ (pc : Nat) (q : Ent), i_Out_owesEndAlone pc = some q → ab_E KT CL ab_gW "StreamTransport$Outgoing" "owesEndAlone" (some .boolean) prog_7_method_9_code s_Out_owesEndAlone 1 pc q.1 q.2.1 q.2.2.1 q.2.2.2.1 q.2.2.2.2 := fun pc q hq =>
  ab_Eb_ok lc_Out lj_Out fl_Out (fpn_Out "owesEndAlone") nw_Out na_Out nq_Out (ab_tab_all (t := t_Out_owesEndAlone) (chk := fun pc q => ab_Eb (some .boolean) prog_7_method_9_code s_Out_owesEndAlone 1 LC_Out LJ_Out FL_Out FPn_Out NW_Out NA_Out NQ_Out pc q.1 q.2.1 q.2.2.1 q.2.2.2.1 q.2.2.2.2) (by decide +kernel) hq)
set_option maxRecDepth 100000 in
theorem kp_Out_owesEndAlone {av : List AV} {m : Mm} {r : Int32 × Mm} (h : c_Out_owesEndAlone av m = some r) : ab_kp m r.2 := by
  obtain ⟨v0, -, h⟩ := c_Out_owesEndAlone_inv h
  rw [r_Out_owesEndAlone_eq] at h
  have hV : ∀ a av m m', eV_Out_owesEndAlone a av m = some m' → ab_kp m m' := ab_ev_all (P := fun _ m r => ab_kp m r) [] (fun q hq => by cases hq)
  have hI : ∀ a av m q, eI_Out_owesEndAlone a av m = some q → ab_kp m q.2 := ab_ev_all (P := fun _ (m : Mm) (r : Int32 × Mm) => ab_kp m r.2) [(33, c_Out_isOwed), (35, c_Out_firstLost)] (List.forall_mem_cons.mpr ⟨fun av m r h => kp_Out_isOwed h, List.forall_mem_cons.mpr ⟨fun av m r h => kp_Out_firstLost h, fun q hq => by cases hq⟩⟩)
  exact ab_kprel (ρ := .inl (some (.inl r.1), r.2)) (ab_tab_isn (t := t_Out_owesEndAlone) (by decide +kernel)) hV hI (ab_rI_inv h)
set_option maxRecDepth 100000 in
theorem cl_Out_owesEndAlone (l : Launch) : ∀ (pc : Nat) (q : Ent), i_Out_owesEndAlone pc = some q → ab_inv q.1 = true → ab_CR l KT CL none ab_gW "StreamTransport$Outgoing" prog_7_method_9_code 1 1 21 eV_Out_owesEndAlone eI_Out_owesEndAlone pc q := by
  intro pc q hq hi
  have hm : pc ∈ cs_Out_owesEndAlone := ab_tab_cs (t := t_Out_owesEndAlone) (by decide +kernel) hq hi
  simp only [cs_Out_owesEndAlone, List.mem_cons, List.not_mem_nil, or_false] at hm
  rcases hm with rfl | rfl
  · cases (Option.some.inj hq : ((.invokestatic 49, 33, 1, 1, 0) : Ent) = q)
    exact ab_crS (by decide +kernel) cw_Out_isOwed (ab_gW_in 533 (by decide +kernel) rfl) st_Out_isOwed (by decide) (fun av m m' h => by cases h) (fun av m r h => cm_Out_isOwed l h) KT_nd
  · cases (Option.some.inj hq : ((.invokevirtual 53, 35, 1, 1, 0) : Ent) = q)
    exact ab_crV (C := "StreamTransport$Outgoing") (by decide +kernel) cw_Out_firstLost (ab_gW_in 569 (by decide +kernel) rfl) is_Out_firstLost sl_Out_firstLost (by decide) (fun av m m' h => by cases h) (fun av m r h => cm_Out_firstLost l h) KT_nd
theorem cw_Out_owesEndAlone : ab_cw y_Out_owesEndAlone prog_7_method_9_code 1 0 (some .boolean) := ⟨ab_gW_in 568 (by decide +kernel) rfl, ab_gW_in 70 (by decide +kernel) rfl, by decide +kernel, by decide +kernel, by decide +kernel⟩
theorem is_Out_owesEndAlone : Cond.instanceMethod y_Out_owesEndAlone ∈ ab_gW := ab_gW_in 566 (by decide +kernel) rfl
theorem sl_Out_owesEndAlone : Cond.selects "StreamTransport$Outgoing" y_Out_owesEndAlone y_Out_owesEndAlone ∈ ab_gW := ab_gW_in 567 (by decide +kernel) rfl
set_option maxRecDepth 100000 in
theorem cm_Out_owesEndAlone (l : Launch) {av : List AV} {m : Mm} {r : Int32 × Mm} (h0 : c_Out_owesEndAlone av m = some r) : ∃ (k q : Nat) (av' : List AV) (ci : Nat) (fs : List (Nat × Nat × Nat × Nat)) (z : vw_C), av = .inr (.inr (k, some q)) :: av' ∧ av'.length = 0 ∧ k ≠ 0 ∧ KT[k]? = some (.inl (ci, fs)) ∧ CL[ci]? = some z ∧ z.1 = "StreamTransport$Outgoing" ∧ ab_nos av' ∧ ab_Met l KT CL y_Out_owesEndAlone (Cond.code y_Out_owesEndAlone prog_7_method_9_code 1 (some .boolean) :: ab_gW) 1 21 none av m (some (.inl r.1)) r.2 := by
  obtain ⟨v0, hav, h⟩ := c_Out_owesEndAlone_inv h0
  rw [r_Out_owesEndAlone_eq] at h
  have hmo : ab_mo m r.2 := ab_kp_mo (kp_Out_owesEndAlone h0)
  subst hav
  exact ⟨_, _, _, _, _, _, rfl, rfl, by decide, rfl, rfl, rfl, (by intro v hv q e; subst e; simp at hv), ab_met (by decide +kernel) KT_0 KT_nd KT_k3 E_Out_owesEndAlone (cl_Out_owesEndAlone l) hmo (Nat.le_of_ble_eq_true rfl) (ab_rI_inv h) (fun v hv => by cases hv; exact ⟨_, rfl⟩)⟩
/-! StreamTransport$Outgoing.mark(LStreamTransport$Sent;II)V -/
def y_Out_mark : MethodName := ⟨"StreamTransport$Outgoing", "mark", "(LStreamTransport$Sent;II)V"⟩
def t_Out_mark (pc : Nat) : Option Ent :=
  bif Nat.blt pc 52 then
    (bif Nat.blt pc 21 then
      (bif Nat.blt pc 11 then
        (bif Nat.blt pc 5 then
          (bif Nat.blt pc 1 then
            (bif Nat.beq pc 0 then some (.aload_n 1, 1, 0, 0, 0) else none)
          else
            bif Nat.blt pc 4 then
              (bif Nat.beq pc 1 then some (.getfield 56, 8, 4, 1, 0) else none)
            else
              bif Nat.beq pc 4 then some (.iload_n 2, 2, 0, 0, 0) else none)
        else
          bif Nat.blt pc 7 then
            (bif Nat.blt pc 6 then
              (bif Nat.beq pc 5 then some (.iaload, 0, 0, 0, 0) else none)
            else
              bif Nat.beq pc 6 then some (.aload_n 1, 1, 0, 0, 0) else none)
          else
            bif Nat.blt pc 10 then
              (bif Nat.beq pc 7 then some (.getfield 61, 8, 5, 1, 0) else none)
            else
              bif Nat.beq pc 10 then some (.iload_n 2, 2, 0, 0, 0) else none)
      else
        bif Nat.blt pc 15 then
          (bif Nat.blt pc 12 then
            (bif Nat.beq pc 11 then some (.iaload, 0, 0, 0, 0) else none)
          else
            bif Nat.blt pc 13 then
              (bif Nat.beq pc 12 then some (.iadd, 0, 0, 0, 0) else none)
            else
              bif Nat.beq pc 13 then some (.istore 4, 4, 0, 0, 0) else none)
        else
          bif Nat.blt pc 19 then
            (bif Nat.blt pc 16 then
              (bif Nat.beq pc 15 then some (.aload_n 1, 1, 0, 0, 0) else none)
            else
              bif Nat.beq pc 16 then some (.getfield 56, 8, 4, 1, 0) else none)
          else
            bif Nat.blt pc 20 then
              (bif Nat.beq pc 19 then some (.iload_n 2, 2, 0, 0, 0) else none)
            else
              bif Nat.beq pc 20 then some (.iaload, 0, 0, 0, 0) else none)
    else
      bif Nat.blt pc 37 then
        (bif Nat.blt pc 27 then
          (bif Nat.blt pc 23 then
            (bif Nat.beq pc 21 then some (.istore 5, 5, 0, 0, 0) else none)
          else
            bif Nat.blt pc 25 then
              (bif Nat.beq pc 23 then some (.iload 5, 5, 0, 0, 0) else none)
            else
              bif Nat.beq pc 25 then some (.iload 4, 4, 0, 0, 0) else none)
        else
          bif Nat.blt pc 32 then
            (bif Nat.blt pc 30 then
              (bif Nat.beq pc 27 then some (.if_icmp .ge (35), 62, 0, 0, 0) else none)
            else
              bif Nat.beq pc 30 then some (.iload 5, 5, 0, 0, 0) else none)
          else
            bif Nat.blt pc 34 then
              (bif Nat.beq pc 32 then some (.bipush 64, 0, 0, 0, 64) else none)
            else
              bif Nat.beq pc 34 then some (.if_icmp .ge (28), 62, 0, 0, 0) else none)
      else
        bif Nat.blt pc 44 then
          (bif Nat.blt pc 41 then
            (bif Nat.blt pc 38 then
              (bif Nat.beq pc 37 then some (.aload_n 0, 0, 0, 0, 0) else none)
            else
              bif Nat.beq pc 38 then some (.getfield 15, 5, 1, 1, 0) else none)
          else
            bif Nat.blt pc 43 then
              (bif Nat.beq pc 41 then some (.iload 5, 5, 0, 0, 0) else none)
            else
              bif Nat.beq pc 43 then some (.iaload, 0, 0, 0, 0) else none)
        else
          bif Nat.blt pc 48 then
            (bif Nat.blt pc 45 then
              (bif Nat.beq pc 44 then some (.iconst 3, 0, 0, 0, 3) else none)
            else
              bif Nat.beq pc 45 then some (.if_icmp .eq (11), 56, 0, 0, 0) else none)
          else
            bif Nat.blt pc 49 then
              (bif Nat.beq pc 48 then some (.aload_n 0, 0, 0, 0, 0) else none)
            else
              bif Nat.beq pc 49 then some (.getfield 15, 5, 1, 1, 0) else none)
  else
    bif Nat.blt pc 80 then
      (bif Nat.blt pc 66 then
        (bif Nat.blt pc 56 then
          (bif Nat.blt pc 54 then
            (bif Nat.beq pc 52 then some (.iload 5, 5, 0, 0, 0) else none)
          else
            bif Nat.blt pc 55 then
              (bif Nat.beq pc 54 then some (.iload_n 3, 3, 0, 0, 0) else none)
            else
              bif Nat.beq pc 55 then some (.iastore, 0, 0, 0, 0) else none)
        else
          bif Nat.blt pc 62 then
            (bif Nat.blt pc 59 then
              (bif Nat.beq pc 56 then some (.iinc 5 1, 5, 0, 0, 1) else none)
            else
              bif Nat.beq pc 59 then some (.goto (-36), 23, 0, 0, 0) else none)
          else
            bif Nat.blt pc 63 then
              (bif Nat.beq pc 62 then some (.aload_n 1, 1, 0, 0, 0) else none)
            else
              bif Nat.beq pc 63 then some (.getfield 64, 8, 6, 1, 0) else none)
      else
        bif Nat.blt pc 72 then
          (bif Nat.blt pc 68 then
            (bif Nat.blt pc 67 then
              (bif Nat.beq pc 66 then some (.iload_n 2, 2, 0, 0, 0) else none)
            else
              bif Nat.beq pc 67 then some (.baload, 0, 0, 0, 0) else none)
          else
            bif Nat.blt pc 71 then
              (bif Nat.beq pc 68 then some (.ifCond .eq (16), 84, 0, 0, 0) else none)
            else
              bif Nat.beq pc 71 then some (.aload_n 0, 0, 0, 0, 0) else none)
        else
          bif Nat.blt pc 76 then
            (bif Nat.blt pc 75 then
              (bif Nat.beq pc 72 then some (.getfield 18, 5, 7, 0, 0) else none)
            else
              bif Nat.beq pc 75 then some (.iconst 3, 0, 0, 0, 3) else none)
          else
            bif Nat.blt pc 79 then
              (bif Nat.beq pc 76 then some (.if_icmp .eq (8), 84, 0, 0, 0) else none)
            else
              bif Nat.beq pc 79 then some (.aload_n 0, 0, 0, 0, 0) else none)
    else
      bif Nat.blt pc 93 then
        (bif Nat.blt pc 85 then
          (bif Nat.blt pc 81 then
            (bif Nat.beq pc 80 then some (.iload_n 3, 3, 0, 0, 0) else none)
          else
            bif Nat.blt pc 84 then
              (bif Nat.beq pc 81 then some (.putfield 18, 5, 7, 0, 0) else none)
            else
              bif Nat.beq pc 84 then some (.aload_n 1, 1, 0, 0, 0) else none)
        else
          bif Nat.blt pc 89 then
            (bif Nat.blt pc 88 then
              (bif Nat.beq pc 85 then some (.getfield 68, 8, 7, 1, 0) else none)
            else
              bif Nat.beq pc 88 then some (.iload_n 2, 2, 0, 0, 0) else none)
          else
            bif Nat.blt pc 90 then
              (bif Nat.beq pc 89 then some (.baload, 0, 0, 0, 0) else none)
            else
              bif Nat.beq pc 90 then some (.ifCond .eq (16), 106, 0, 0, 0) else none)
      else
        bif Nat.blt pc 101 then
          (bif Nat.blt pc 97 then
            (bif Nat.blt pc 94 then
              (bif Nat.beq pc 93 then some (.aload_n 0, 0, 0, 0, 0) else none)
            else
              bif Nat.beq pc 94 then some (.getfield 22, 5, 8, 0, 0) else none)
          else
            bif Nat.blt pc 98 then
              (bif Nat.beq pc 97 then some (.iconst 3, 0, 0, 0, 3) else none)
            else
              bif Nat.beq pc 98 then some (.if_icmp .eq (8), 106, 0, 0, 0) else none)
        else
          bif Nat.blt pc 103 then
            (bif Nat.blt pc 102 then
              (bif Nat.beq pc 101 then some (.aload_n 0, 0, 0, 0, 0) else none)
            else
              bif Nat.beq pc 102 then some (.iload_n 3, 3, 0, 0, 0) else none)
          else
            bif Nat.blt pc 106 then
              (bif Nat.beq pc 103 then some (.putfield 22, 5, 8, 0, 0) else none)
            else
              bif Nat.beq pc 106 then some (.return_, 0, 0, 0, 0) else none
def i_Out_mark : Nat → Option Ent := ab_tab 107 t_Out_mark
def h_Out_mark (pc : Nat) : Nat × List Bool := bif Nat.beq pc 23 then (1, [true, true, true, true, true, true]) else bif Nat.beq pc 56 then (1, [true, true, true, true, true, true]) else bif Nat.beq pc 62 then (1, [true, true, true, true, false, false]) else bif Nat.beq pc 84 then (1, [true, true, true, true, false, false]) else (0, [])
def s_Out_mark (pc : Nat) : List (Int32 × Nat) × Nat := ([], 0)
noncomputable def eV_Out_mark : Nat → List AV → Mm → Option Mm := ab_ev []
noncomputable def eI_Out_mark : Nat → List AV → Mm → Option (Int32 × Mm) := ab_ev []
noncomputable def b_Out_mark_0 (f : Nat) (v0 : Nat) (v1 : Nat) (v2 : Int32) (v3 : Int32) (m : Mm) : Option Rs := ab_ex KT none s_Out_mark eV_Out_mark eI_Out_mark i_Out_mark h_Out_mark f 0 [some (.inr (.inr (19, some v0))), some (.inr (.inr (22, some v1))), some (.inl v2), some (.inl v3), none, none] [] m
noncomputable def b_Out_mark_23 (f : Nat) (v0 : Nat) (v1 : Nat) (v2 : Int32) (v3 : Int32) (v4 : Int32) (v5 : Int32) (m : Mm) : Option Rs := ab_ex KT none s_Out_mark eV_Out_mark eI_Out_mark i_Out_mark h_Out_mark f 23 [some (.inr (.inr (19, some v0))), some (.inr (.inr (22, some v1))), some (.inl v2), some (.inl v3), some (.inl v4), some (.inl v5)] [] m
noncomputable def b_Out_mark_56 (f : Nat) (v0 : Nat) (v1 : Nat) (v2 : Int32) (v3 : Int32) (v4 : Int32) (v5 : Int32) (m : Mm) : Option Rs := ab_ex KT none s_Out_mark eV_Out_mark eI_Out_mark i_Out_mark h_Out_mark f 56 [some (.inr (.inr (19, some v0))), some (.inr (.inr (22, some v1))), some (.inl v2), some (.inl v3), some (.inl v4), some (.inl v5)] [] m
noncomputable def b_Out_mark_62 (f : Nat) (v0 : Nat) (v1 : Nat) (v2 : Int32) (v3 : Int32) (m : Mm) : Option Rs := ab_ex KT none s_Out_mark eV_Out_mark eI_Out_mark i_Out_mark h_Out_mark f 62 [some (.inr (.inr (19, some v0))), some (.inr (.inr (22, some v1))), some (.inl v2), some (.inl v3), none, none] [] m
noncomputable def b_Out_mark_84 (f : Nat) (v0 : Nat) (v1 : Nat) (v2 : Int32) (v3 : Int32) (m : Mm) : Option Rs := ab_ex KT none s_Out_mark eV_Out_mark eI_Out_mark i_Out_mark h_Out_mark f 84 [some (.inr (.inr (19, some v0))), some (.inr (.inr (22, some v1))), some (.inl v2), some (.inl v3), none, none] [] m
set_option maxRecDepth 100000 in
set_option maxHeartbeats 4000000 in
theorem b_Out_mark_0_eq (f : Nat) (v0 : Nat) (v1 : Nat) (v2 : Int32) (v3 : Int32) (m : Mm) : b_Out_mark_0 (f + 1) v0 v1 v2 v3 m =
    (ab_ix v2 4).bind fun i1 =>
    (ab_ix v2 4).bind fun i2 =>
    ab_let (((m.1 77 (v1 + 2) i1) + (m.1 78 (v1 + 3) i2))) fun x3 =>
    (ab_ix v2 4).bind fun i4 =>
    ab_let ((m.1 77 (v1 + 2) i4)) fun x5 =>
    b_Out_mark_23 f v0 v1 v2 v3 x3 x5 m := rfl
set_option maxRecDepth 100000 in
set_option maxHeartbeats 4000000 in
theorem b_Out_mark_23_eq (f : Nat) (v0 : Nat) (v1 : Nat) (v2 : Int32) (v3 : Int32) (v4 : Int32) (v5 : Int32) (m : Mm) : b_Out_mark_23 (f + 1) v0 v1 v2 v3 v4 v5 m =
    if v4 ≤ v5 then
      b_Out_mark_62 f v0 v1 v2 v3 m
    else
      if (64 : Int32) ≤ v5 then
        b_Out_mark_62 f v0 v1 v2 v3 m
      else
        (ab_ix v5 64).bind fun i1 =>
        if (m.1 67 (v0 + 2) i1) = (3 : Int32) then
          b_Out_mark_56 f v0 v1 v2 v3 v4 v5 m
        else
          (ab_ix v5 64).bind fun i2 =>
          ab_let (ab_uI m 67 (v0 + 2) i2 v3) fun m3 =>
          b_Out_mark_56 f v0 v1 v2 v3 v4 v5 m3 := rfl
set_option maxRecDepth 100000 in
set_option maxHeartbeats 4000000 in
theorem b_Out_mark_56_eq (f : Nat) (v0 : Nat) (v1 : Nat) (v2 : Int32) (v3 : Int32) (v4 : Int32) (v5 : Int32) (m : Mm) : b_Out_mark_56 (f + 1) v0 v1 v2 v3 v4 v5 m =
    ab_let (v5 + (1 : Int32)) fun x1 =>
    b_Out_mark_23 f v0 v1 v2 v3 v4 x1 m := rfl
set_option maxRecDepth 100000 in
set_option maxHeartbeats 4000000 in
theorem b_Out_mark_62_eq (f : Nat) (v0 : Nat) (v1 : Nat) (v2 : Int32) (v3 : Int32) (m : Mm) : b_Out_mark_62 (f + 1) v0 v1 v2 v3 m =
    (ab_ix v2 4).bind fun i1 =>
    if (m.1 79 (v1 + 4) i1) = 0 then
      b_Out_mark_84 f v0 v1 v2 v3 m
    else
      if (m.1 64 v0 0) = (3 : Int32) then
        b_Out_mark_84 f v0 v1 v2 v3 m
      else
        ab_let (ab_uI m 64 v0 0 v3) fun m2 =>
        b_Out_mark_84 f v0 v1 v2 v3 m2 := rfl
set_option maxRecDepth 100000 in
set_option maxHeartbeats 4000000 in
theorem b_Out_mark_84_eq (f : Nat) (v0 : Nat) (v1 : Nat) (v2 : Int32) (v3 : Int32) (m : Mm) : b_Out_mark_84 (f + 1) v0 v1 v2 v3 m =
    (ab_ix v2 4).bind fun i1 =>
    if (m.1 80 (v1 + 5) i1) = 0 then
      some (.inl (none, m))
    else
      if (m.1 65 v0 0) = (3 : Int32) then
        some (.inl (none, m))
      else
        ab_let (ab_uI m 65 v0 0 v3) fun m2 =>
        some (.inl (none, m2)) := rfl
noncomputable def r_Out_mark : Nat → Nat → Int32 → Int32 → Mm → Option Mm := ab_seal fun v0 v1 v2 v3 m => ab_rV (b_Out_mark_0 50000 v0 v1 v2 v3 m)
theorem r_Out_mark_eq (v0 : Nat) (v1 : Nat) (v2 : Int32) (v3 : Int32) (m : Mm) : r_Out_mark v0 v1 v2 v3 m = ab_rV (b_Out_mark_0 50000 v0 v1 v2 v3 m) := by
  unfold r_Out_mark
  rw [ab_seal_eq]
noncomputable def c_Out_mark : List AV → Mm → Option Mm := fun av m => match av with
  | [.inr (.inr (kv0, ov0)), .inr (.inr (kv1, ov1)), .inl v2, .inl v3] => if kv0 = 19 then (if kv1 = 22 then (ov0.bind fun v0 => ov1.bind fun v1 => r_Out_mark v0 v1 v2 v3 m) else none) else none
  | _ => none
theorem c_Out_mark_inv {av : List AV} {m : Mm} {r : Mm} (h : c_Out_mark av m = some r) : ∃ (v0 : Nat) (v1 : Nat) (v2 : Int32) (v3 : Int32), av = [.inr (.inr (19, some v0)), .inr (.inr (22, some v1)), .inl v2, .inl v3] ∧ r_Out_mark v0 v1 v2 v3 m = some r := by
  unfold c_Out_mark at h
  split at h
  · rename_i kv0 ov0 kv1 ov1 v2 v3
    by_cases hkv0 : kv0 = 19
    case neg => rw [if_neg hkv0] at h; cases h
    rw [if_pos hkv0] at h
    subst hkv0
    by_cases hkv1 : kv1 = 22
    case neg => rw [if_neg hkv1] at h; cases h
    rw [if_pos hkv1] at h
    subst hkv1
    obtain ⟨v0, hev0, h⟩ := Option.bind_eq_some_iff.mp h
    obtain ⟨v1, hev1, h⟩ := Option.bind_eq_some_iff.mp h
    subst hev0
    subst hev1
    exact ⟨v0, v1, v2, v3, rfl, h⟩
  · cases h
def cs_Out_mark : List Nat := []
set_option maxRecDepth 100000 in
theorem E_Out_mark : ∀ (pc : Nat) (q : Ent), i_Out_mark pc = some q → ab_E KT CL ab_gW "StreamTransport$Outgoing" "mark" none prog_7_method_11_code s_Out_mark 6 pc q.1 q.2.1 q.2.2.1 q.2.2.2.1 q.2.2.2.2 := fun pc q hq =>
  ab_Eb_ok lc_Out lj_Out fl_Out (fpn_Out "mark") nw_Out na_Out nq_Out (ab_tab_all (t := t_Out_mark) (chk := fun pc q => ab_Eb none prog_7_method_11_code s_Out_mark 6 LC_Out LJ_Out FL_Out FPn_Out NW_Out NA_Out NQ_Out pc q.1 q.2.1 q.2.2.1 q.2.2.2.1 q.2.2.2.2) (by decide +kernel) hq)
set_option maxRecDepth 100000 in
theorem kp_Out_mark {av : List AV} {m : Mm} {r : Mm} (h : c_Out_mark av m = some r) : ab_kp m r := by
  obtain ⟨v0, v1, v2, v3, -, h⟩ := c_Out_mark_inv h
  rw [r_Out_mark_eq] at h
  have hV : ∀ a av m m', eV_Out_mark a av m = some m' → ab_kp m m' := ab_ev_all (P := fun _ m r => ab_kp m r) [] (fun q hq => by cases hq)
  have hI : ∀ a av m q, eI_Out_mark a av m = some q → ab_kp m q.2 := ab_ev_all (P := fun _ (m : Mm) (r : Int32 × Mm) => ab_kp m r.2) [] (fun q hq => by cases hq)
  exact ab_kprel (ρ := .inl (none, r)) (ab_tab_isn (t := t_Out_mark) (by decide +kernel)) hV hI (ab_rV_inv h)
set_option maxRecDepth 100000 in
theorem cl_Out_mark (l : Launch) : ∀ (pc : Nat) (q : Ent), i_Out_mark pc = some q → ab_inv q.1 = true → ab_CR l KT CL none ab_gW "StreamTransport$Outgoing" prog_7_method_11_code 6 0 0 eV_Out_mark eI_Out_mark pc q := by
  intro pc q hq hi
  have hm : pc ∈ cs_Out_mark := ab_tab_cs (t := t_Out_mark) (by decide +kernel) hq hi
  cases hm
theorem cw_Out_mark : ab_cw y_Out_mark prog_7_method_11_code 6 3 none := ⟨ab_gW_in 597 (by decide +kernel) rfl, ab_gW_in 70 (by decide +kernel) rfl, by decide +kernel, by decide +kernel, by decide +kernel⟩
theorem is_Out_mark : Cond.instanceMethod y_Out_mark ∈ ab_gW := ab_gW_in 595 (by decide +kernel) rfl
theorem sl_Out_mark : Cond.selects "StreamTransport$Outgoing" y_Out_mark y_Out_mark ∈ ab_gW := ab_gW_in 596 (by decide +kernel) rfl
set_option maxRecDepth 100000 in
theorem cm_Out_mark (l : Launch) {av : List AV} {m : Mm} {r : Mm} (h0 : c_Out_mark av m = some r) : ∃ (k q : Nat) (av' : List AV) (ci : Nat) (fs : List (Nat × Nat × Nat × Nat)) (z : vw_C), av = .inr (.inr (k, some q)) :: av' ∧ av'.length = 3 ∧ k ≠ 0 ∧ KT[k]? = some (.inl (ci, fs)) ∧ CL[ci]? = some z ∧ z.1 = "StreamTransport$Outgoing" ∧ ab_nos av' ∧ ab_Met l KT CL y_Out_mark (Cond.code y_Out_mark prog_7_method_11_code 6 none :: ab_gW) 0 0 none av m none r := by
  obtain ⟨v0, v1, v2, v3, hav, h⟩ := c_Out_mark_inv h0
  rw [r_Out_mark_eq] at h
  have hmo : ab_mo m r := ab_kp_mo (kp_Out_mark h0)
  subst hav
  exact ⟨_, _, _, _, _, _, rfl, rfl, by decide, rfl, rfl, rfl, (by intro v hv q e; subst e; simp at hv), ab_met (by decide +kernel) KT_0 KT_nd KT_k3 E_Out_mark (cl_Out_mark l) hmo (Nat.le_of_ble_eq_true rfl) (ab_rV_inv h) (fun v hv => by cases hv)⟩
end
end
section
section
def FLp_Otf : List ((Nat × Nat × Nat) × Nat) := [((11, 4, 0), 283), ((17, 4, 1), 285), ((30, 5, 4), 254), ((41, 5, 3), 250), ((60, 8, 7), 425), ((66, 5, 6), 261), ((98, 8, 4), 416), ((102, 8, 5), 419), ((105, 8, 6), 422), ((108, 5, 5), 258), ((111, 5, 2), 249), ((114, 5, 0), 245)]
def FL_Otf : List (Nat × Nat × Nat) := [(11, 4, 0), (17, 4, 1), (30, 5, 4), (41, 5, 3), (60, 8, 7), (66, 5, 6), (98, 8, 4), (102, 8, 5), (105, 8, 6), (108, 5, 5), (111, 5, 2), (114, 5, 0)]
theorem fl_Otf : ∀ q ∈ FL_Otf, ab_fld CL ab_gW "StreamTransport$Outflow" q.1 q.2.1 q.2.2 := ab_flb_ok (own := "StreamTransport$Outflow") (l := FLp_Otf) (by decide +kernel)
def FPnp_Otf : List ((Nat × Nat × Nat) × Nat) := [((17, 4, 1), 285), ((30, 5, 4), 254), ((41, 5, 3), 250), ((66, 5, 6), 261), ((108, 5, 5), 258), ((111, 5, 2), 249)]
def FPn_Otf : List (Nat × Nat × Nat) := [(17, 4, 1), (30, 5, 4), (41, 5, 3), (66, 5, 6), (108, 5, 5), (111, 5, 2)]
theorem fpn_Otf (nm : String) : ∀ q ∈ FPn_Otf, ∃ ty, ab_fldp CL ab_gW "StreamTransport$Outflow" nm q.1 q.2.1 q.2.2 ty ∧ ∀ (k t r k' d' : Nat), ab_fs KT q.2.1 q.2.2 k = some (t, r, k', d') → (t = 0 → ty = .int) ∧ (t = 1 → ty = .boolean) ∧ (t = 2 → ((∃ n, ty = .object n) ∨ ∃ t, ty = .array t) ∧ k' ≠ 0) := ab_fpb_ok (own := "StreamTransport$Outflow") (nm := nm) (l := FPnp_Otf) (ab_fpn_ok (by decide +kernel))
def FPip_Otf : List ((Nat × Nat × Nat) × Nat) := [((11, 4, 0), 283), ((17, 4, 1), 285), ((30, 5, 4), 254), ((41, 5, 3), 250), ((66, 5, 6), 261), ((108, 5, 5), 258), ((111, 5, 2), 249)]
def FPi_Otf : List (Nat × Nat × Nat) := [(11, 4, 0), (17, 4, 1), (30, 5, 4), (41, 5, 3), (66, 5, 6), (108, 5, 5), (111, 5, 2)]
theorem fpi_Otf : ∀ q ∈ FPi_Otf, ∃ ty, ab_fldp CL ab_gW "StreamTransport$Outflow" "<init>" q.1 q.2.1 q.2.2 ty ∧ ∀ (k t r k' d' : Nat), ab_fs KT q.2.1 q.2.2 k = some (t, r, k', d') → (t = 0 → ty = .int) ∧ (t = 1 → ty = .boolean) ∧ (t = 2 → ((∃ n, ty = .object n) ∨ ∃ t, ty = .array t) ∧ k' ≠ 0) := ab_fpb_ok (own := "StreamTransport$Outflow") (nm := "<init>") (l := FPip_Otf) (by decide +kernel)
def LCp_Otf : List ((Nat × Int32) × Nat) := []
def LC_Otf : List (Nat × Int32) := []
theorem lc_Otf : ∀ q ∈ LC_Otf, Cond.constant "StreamTransport$Outflow" q.1 q.2 ∈ ab_gW := ab_lcb (own := "StreamTransport$Outflow") (l := LCp_Otf) (by decide +kernel)
def LJp_Otf : List ((Nat × Nat) × Nat) := []
def LJ_Otf : List (Nat × Nat) := []
theorem lj_Otf : ∀ q ∈ LJ_Otf, Cond.constantLong "StreamTransport$Outflow" q.1 (Int64.ofNat q.2) ∈ ab_gW := ab_ljb (own := "StreamTransport$Outflow") (l := LJp_Otf) (by decide +kernel)
def NWp_Otf : List ((Nat × Nat) × Nat × Nat × Nat) := [((9, 81), 237, 239, 70)]
def NW_Otf : List (Nat × Nat) := [(9, 81)]
theorem nw_Otf : ∀ q ∈ NW_Otf, ab_newok KT CL ab_gW "StreamTransport$Outflow" q.1 q.2 := ab_nwb_ok (own := "StreamTransport$Outflow") (l := NWp_Otf) (by decide +kernel)
def NQp_Otf : List ((Nat × Nat) × Nat) := [((9, 80), 237)]
def NQ_Otf : List (Nat × Nat) := [(9, 80)]
theorem nq_Otf : ∀ q ∈ NQ_Otf, ab_nqok KT CL ab_gW "StreamTransport$Outflow" q.1 q.2 := ab_nqb_ok (own := "StreamTransport$Outflow") (l := NQp_Otf) (by decide +kernel)
def NA_Otf : List (Nat × Nat) := []
theorem na_Otf : ∀ q ∈ NA_Otf, (q.1 = 0 → ab_naok KT CL ab_gW .int q.2) ∧ (q.1 = 1 → ab_naok KT CL ab_gW .boolean q.2) ∧ (q.1 = 2 → ab_naok KT CL ab_gW .long q.2) := ab_nab_ok (by decide +kernel)
/-! StreamTransport$Outflow.raiseAll(I)V -/
def y_Otf_raiseAll : MethodName := ⟨"StreamTransport$Outflow", "raiseAll", "(I)V"⟩
def t_Otf_raiseAll (pc : Nat) : Option Ent :=
  bif Nat.blt pc 5 then
    (bif Nat.blt pc 1 then
      (bif Nat.beq pc 0 then some (.aload_n 0, 0, 0, 0, 0) else none)
    else
      bif Nat.blt pc 2 then
        (bif Nat.beq pc 1 then some (.aload_n 0, 0, 0, 0, 0) else none)
      else
        bif Nat.beq pc 2 then some (.getfield 17, 4, 1, 0, 0) else none)
  else
    bif Nat.blt pc 9 then
      (bif Nat.blt pc 6 then
        (bif Nat.beq pc 5 then some (.iload_n 1, 1, 0, 0, 0) else none)
      else
        bif Nat.beq pc 6 then some (.invokestatic 24, 1, 2, 1, 0) else none)
    else
      bif Nat.blt pc 12 then
        (bif Nat.beq pc 9 then some (.putfield 17, 4, 1, 0, 0) else none)
      else
        bif Nat.beq pc 12 then some (.return_, 0, 0, 0, 0) else none
def i_Otf_raiseAll : Nat → Option Ent := ab_tab 13 t_Otf_raiseAll
def h_Otf_raiseAll (pc : Nat) : Nat × List Bool := (0, [])
def s_Otf_raiseAll (pc : Nat) : List (Int32 × Nat) × Nat := ([], 0)
noncomputable def eV_Otf_raiseAll : Nat → List AV → Mm → Option Mm := ab_ev []
noncomputable def eI_Otf_raiseAll : Nat → List AV → Mm → Option (Int32 × Mm) := ab_ev [(1, c_Math_max)]
noncomputable def b_Otf_raiseAll_0 (f : Nat) (v0 : Nat) (v1 : Int32) (m : Mm) : Option Rs := ab_ex KT none s_Otf_raiseAll eV_Otf_raiseAll eI_Otf_raiseAll i_Otf_raiseAll h_Otf_raiseAll f 0 [some (.inr (.inr (17, some v0))), some (.inl v1)] [] m
set_option maxRecDepth 100000 in
set_option maxHeartbeats 4000000 in
theorem b_Otf_raiseAll_0_eq (f : Nat) (v0 : Nat) (v1 : Int32) (m : Mm) : b_Otf_raiseAll_0 (f + 1) v0 v1 m =
    (r_Math_max (m.1 55 v0 0) v1 m).bind fun z1 =>
    ab_let (ab_uI z1.2 55 v0 0 z1.1) fun m2 =>
    some (.inl (none, m2)) := rfl
noncomputable def r_Otf_raiseAll : Nat → Int32 → Mm → Option Mm := ab_seal fun v0 v1 m => ab_rV (b_Otf_raiseAll_0 50000 v0 v1 m)
theorem r_Otf_raiseAll_eq (v0 : Nat) (v1 : Int32) (m : Mm) : r_Otf_raiseAll v0 v1 m = ab_rV (b_Otf_raiseAll_0 50000 v0 v1 m) := by
  unfold r_Otf_raiseAll
  rw [ab_seal_eq]
noncomputable def c_Otf_raiseAll : List AV → Mm → Option Mm := fun av m => match av with
  | [.inr (.inr (kv0, ov0)), .inl v1] => if kv0 = 17 then (ov0.bind fun v0 => r_Otf_raiseAll v0 v1 m) else none
  | _ => none
theorem c_Otf_raiseAll_inv {av : List AV} {m : Mm} {r : Mm} (h : c_Otf_raiseAll av m = some r) : ∃ (v0 : Nat) (v1 : Int32), av = [.inr (.inr (17, some v0)), .inl v1] ∧ r_Otf_raiseAll v0 v1 m = some r := by
  unfold c_Otf_raiseAll at h
  split at h
  · rename_i kv0 ov0 v1
    by_cases hkv0 : kv0 = 17
    case neg => rw [if_neg hkv0] at h; cases h
    rw [if_pos hkv0] at h
    subst hkv0
    obtain ⟨v0, hev0, h⟩ := Option.bind_eq_some_iff.mp h
    subst hev0
    exact ⟨v0, v1, rfl, h⟩
  · cases h
def cs_Otf_raiseAll : List Nat := [6]
set_option maxRecDepth 100000 in
theorem E_Otf_raiseAll : ∀ (pc : Nat) (q : Ent), i_Otf_raiseAll pc = some q → ab_E KT CL ab_gW "StreamTransport$Outflow" "raiseAll" none prog_6_method_2_code s_Otf_raiseAll 2 pc q.1 q.2.1 q.2.2.1 q.2.2.2.1 q.2.2.2.2 := fun pc q hq =>
  ab_Eb_ok lc_Otf lj_Otf fl_Otf (fpn_Otf "raiseAll") nw_Otf na_Otf nq_Otf (ab_tab_all (t := t_Otf_raiseAll) (chk := fun pc q => ab_Eb none prog_6_method_2_code s_Otf_raiseAll 2 LC_Otf LJ_Otf FL_Otf FPn_Otf NW_Otf NA_Otf NQ_Otf pc q.1 q.2.1 q.2.2.1 q.2.2.2.1 q.2.2.2.2) (by decide +kernel) hq)
set_option maxRecDepth 100000 in
theorem kp_Otf_raiseAll {av : List AV} {m : Mm} {r : Mm} (h : c_Otf_raiseAll av m = some r) : ab_kp m r := by
  obtain ⟨v0, v1, -, h⟩ := c_Otf_raiseAll_inv h
  rw [r_Otf_raiseAll_eq] at h
  have hV : ∀ a av m m', eV_Otf_raiseAll a av m = some m' → ab_kp m m' := ab_ev_all (P := fun _ m r => ab_kp m r) [] (fun q hq => by cases hq)
  have hI : ∀ a av m q, eI_Otf_raiseAll a av m = some q → ab_kp m q.2 := ab_ev_all (P := fun _ (m : Mm) (r : Int32 × Mm) => ab_kp m r.2) [(1, c_Math_max)] (List.forall_mem_cons.mpr ⟨fun av m r h => kp_Math_max h, fun q hq => by cases hq⟩)
  exact ab_kprel (ρ := .inl (none, r)) (ab_tab_isn (t := t_Otf_raiseAll) (by decide +kernel)) hV hI (ab_rV_inv h)
set_option maxRecDepth 100000 in
theorem cl_Otf_raiseAll (l : Launch) : ∀ (pc : Nat) (q : Ent), i_Otf_raiseAll pc = some q → ab_inv q.1 = true → ab_CR l KT CL none ab_gW "StreamTransport$Outflow" prog_6_method_2_code 2 1 21 eV_Otf_raiseAll eI_Otf_raiseAll pc q := by
  intro pc q hq hi
  have hm : pc ∈ cs_Otf_raiseAll := ab_tab_cs (t := t_Otf_raiseAll) (by decide +kernel) hq hi
  simp only [cs_Otf_raiseAll, List.mem_cons, List.not_mem_nil, or_false] at hm
  rcases hm with rfl
  · cases (Option.some.inj hq : ((.invokestatic 24, 1, 2, 1, 0) : Ent) = q)
    exact ab_crS (by decide +kernel) cw_Math_max (ab_gW_in 558 (by decide +kernel) rfl) st_Math_max (by decide) (fun av m m' h => by cases h) (fun av m r h => cm_Math_max l h) KT_nd
theorem cw_Otf_raiseAll : ab_cw y_Otf_raiseAll prog_6_method_2_code 2 1 none := ⟨ab_gW_in 750 (by decide +kernel) rfl, ab_gW_in 69 (by decide +kernel) rfl, by decide +kernel, by decide +kernel, by decide +kernel⟩
theorem is_Otf_raiseAll : Cond.instanceMethod y_Otf_raiseAll ∈ ab_gW := ab_gW_in 748 (by decide +kernel) rfl
theorem sl_Otf_raiseAll : Cond.selects "StreamTransport$Outflow" y_Otf_raiseAll y_Otf_raiseAll ∈ ab_gW := ab_gW_in 749 (by decide +kernel) rfl
set_option maxRecDepth 100000 in
theorem cm_Otf_raiseAll (l : Launch) {av : List AV} {m : Mm} {r : Mm} (h0 : c_Otf_raiseAll av m = some r) : ∃ (k q : Nat) (av' : List AV) (ci : Nat) (fs : List (Nat × Nat × Nat × Nat)) (z : vw_C), av = .inr (.inr (k, some q)) :: av' ∧ av'.length = 1 ∧ k ≠ 0 ∧ KT[k]? = some (.inl (ci, fs)) ∧ CL[ci]? = some z ∧ z.1 = "StreamTransport$Outflow" ∧ ab_nos av' ∧ ab_Met l KT CL y_Otf_raiseAll (Cond.code y_Otf_raiseAll prog_6_method_2_code 2 none :: ab_gW) 1 21 none av m none r := by
  obtain ⟨v0, v1, hav, h⟩ := c_Otf_raiseAll_inv h0
  rw [r_Otf_raiseAll_eq] at h
  have hmo : ab_mo m r := ab_kp_mo (kp_Otf_raiseAll h0)
  subst hav
  exact ⟨_, _, _, _, _, _, rfl, rfl, by decide, rfl, rfl, rfl, (by intro v hv q e; subst e; simp at hv), ab_met (by decide +kernel) KT_0 KT_nd KT_k3 E_Otf_raiseAll (cl_Otf_raiseAll l) hmo (Nat.le_of_ble_eq_true rfl) (ab_rV_inv h) (fun v hv => by cases hv)⟩
/-! StreamTransport$Outflow.raiseOne(II)I -/
def y_Otf_raiseOne : MethodName := ⟨"StreamTransport$Outflow", "raiseOne", "(II)I"⟩
def t_Otf_raiseOne (pc : Nat) : Option Ent :=
  bif Nat.blt pc 16 then
    (bif Nat.blt pc 9 then
      (bif Nat.blt pc 4 then
        (bif Nat.blt pc 1 then
          (bif Nat.beq pc 0 then some (.iload_n 1, 1, 0, 0, 0) else none)
        else
          bif Nat.beq pc 1 then some (.ifCond .lt (8), 9, 0, 0, 0) else none)
      else
        bif Nat.blt pc 5 then
          (bif Nat.beq pc 4 then some (.iload_n 1, 1, 0, 0, 0) else none)
        else
          bif Nat.blt pc 6 then
            (bif Nat.beq pc 5 then some (.iconst 4, 0, 0, 0, 4) else none)
          else
            bif Nat.beq pc 6 then some (.if_icmp .lt (5), 11, 0, 0, 0) else none)
    else
      bif Nat.blt pc 11 then
        (bif Nat.blt pc 10 then
          (bif Nat.beq pc 9 then some (.iconst 2, 0, 0, 0, 2) else none)
        else
          bif Nat.beq pc 10 then some (.ireturn, 0, 0, 0, 0) else none)
      else
        bif Nat.blt pc 12 then
          (bif Nat.beq pc 11 then some (.aload_n 0, 0, 0, 0, 0) else none)
        else
          bif Nat.blt pc 15 then
            (bif Nat.beq pc 12 then some (.getfield 11, 4, 0, 1, 0) else none)
          else
            bif Nat.beq pc 15 then some (.iload_n 1, 1, 0, 0, 0) else none)
  else
    bif Nat.blt pc 23 then
      (bif Nat.blt pc 18 then
        (bif Nat.blt pc 17 then
          (bif Nat.beq pc 16 then some (.aaload, 0, 0, 0, 0) else none)
        else
          bif Nat.beq pc 17 then some (.aload_n 0, 0, 0, 0, 0) else none)
      else
        bif Nat.blt pc 21 then
          (bif Nat.beq pc 18 then some (.getfield 11, 4, 0, 1, 0) else none)
        else
          bif Nat.blt pc 22 then
            (bif Nat.beq pc 21 then some (.iload_n 1, 1, 0, 0, 0) else none)
          else
            bif Nat.beq pc 22 then some (.aaload, 0, 0, 0, 0) else none)
    else
      bif Nat.blt pc 30 then
        (bif Nat.blt pc 26 then
          (bif Nat.beq pc 23 then some (.getfield 30, 5, 4, 0, 0) else none)
        else
          bif Nat.blt pc 27 then
            (bif Nat.beq pc 26 then some (.iload_n 2, 2, 0, 0, 0) else none)
          else
            bif Nat.beq pc 27 then some (.invokestatic 24, 1, 2, 1, 0) else none)
      else
        bif Nat.blt pc 33 then
          (bif Nat.beq pc 30 then some (.putfield 30, 5, 4, 0, 0) else none)
        else
          bif Nat.blt pc 34 then
            (bif Nat.beq pc 33 then some (.iconst 0, 0, 0, 0, 0) else none)
          else
            bif Nat.beq pc 34 then some (.ireturn, 0, 0, 0, 0) else none
def i_Otf_raiseOne : Nat → Option Ent := ab_tab 35 t_Otf_raiseOne
def h_Otf_raiseOne (pc : Nat) : Nat × List Bool := (0, [])
def s_Otf_raiseOne (pc : Nat) : List (Int32 × Nat) × Nat := ([], 0)
noncomputable def eV_Otf_raiseOne : Nat → List AV → Mm → Option Mm := ab_ev []
noncomputable def eI_Otf_raiseOne : Nat → List AV → Mm → Option (Int32 × Mm) := ab_ev [(1, c_Math_max)]
noncomputable def b_Otf_raiseOne_0 (f : Nat) (v0 : Nat) (v1 : Int32) (v2 : Int32) (m : Mm) : Option Rs := ab_ex KT none s_Otf_raiseOne eV_Otf_raiseOne eI_Otf_raiseOne i_Otf_raiseOne h_Otf_raiseOne f 0 [some (.inr (.inr (17, some v0))), some (.inl v1), some (.inl v2)] [] m
set_option maxRecDepth 100000 in
set_option maxHeartbeats 4000000 in
theorem b_Otf_raiseOne_0_eq (f : Nat) (v0 : Nat) (v1 : Int32) (v2 : Int32) (m : Mm) : b_Otf_raiseOne_0 (f + 1) v0 v1 v2 m =
    if v1 < 0 then
      some (.inl (some (.inl (2 : Int32)), m))
    else
      if v1 < (4 : Int32) then
        (ab_ix v1 4).bind fun i1 =>
        (ab_ix v1 4).bind fun i2 =>
        (r_Math_max (m.1 61 ((v0 + 1) + 1 + 3 * i2) 0) v2 m).bind fun z3 =>
        ab_let (ab_uI z3.2 61 ((v0 + 1) + 1 + 3 * i1) 0 z3.1) fun m4 =>
        some (.inl (some (.inl (0 : Int32)), m4))
      else
        some (.inl (some (.inl (2 : Int32)), m)) := rfl
noncomputable def r_Otf_raiseOne : Nat → Int32 → Int32 → Mm → Option (Int32 × Mm) := ab_seal fun v0 v1 v2 m => ab_rI (b_Otf_raiseOne_0 50000 v0 v1 v2 m)
theorem r_Otf_raiseOne_eq (v0 : Nat) (v1 : Int32) (v2 : Int32) (m : Mm) : r_Otf_raiseOne v0 v1 v2 m = ab_rI (b_Otf_raiseOne_0 50000 v0 v1 v2 m) := by
  unfold r_Otf_raiseOne
  rw [ab_seal_eq]
noncomputable def c_Otf_raiseOne : List AV → Mm → Option (Int32 × Mm) := fun av m => match av with
  | [.inr (.inr (kv0, ov0)), .inl v1, .inl v2] => if kv0 = 17 then (ov0.bind fun v0 => r_Otf_raiseOne v0 v1 v2 m) else none
  | _ => none
theorem c_Otf_raiseOne_inv {av : List AV} {m : Mm} {r : Int32 × Mm} (h : c_Otf_raiseOne av m = some r) : ∃ (v0 : Nat) (v1 : Int32) (v2 : Int32), av = [.inr (.inr (17, some v0)), .inl v1, .inl v2] ∧ r_Otf_raiseOne v0 v1 v2 m = some r := by
  unfold c_Otf_raiseOne at h
  split at h
  · rename_i kv0 ov0 v1 v2
    by_cases hkv0 : kv0 = 17
    case neg => rw [if_neg hkv0] at h; cases h
    rw [if_pos hkv0] at h
    subst hkv0
    obtain ⟨v0, hev0, h⟩ := Option.bind_eq_some_iff.mp h
    subst hev0
    exact ⟨v0, v1, v2, rfl, h⟩
  · cases h
def cs_Otf_raiseOne : List Nat := [27]
set_option maxRecDepth 100000 in
theorem E_Otf_raiseOne : ∀ (pc : Nat) (q : Ent), i_Otf_raiseOne pc = some q → ab_E KT CL ab_gW "StreamTransport$Outflow" "raiseOne" (some .int) prog_6_method_3_code s_Otf_raiseOne 3 pc q.1 q.2.1 q.2.2.1 q.2.2.2.1 q.2.2.2.2 := fun pc q hq =>
  ab_Eb_ok lc_Otf lj_Otf fl_Otf (fpn_Otf "raiseOne") nw_Otf na_Otf nq_Otf (ab_tab_all (t := t_Otf_raiseOne) (chk := fun pc q => ab_Eb (some .int) prog_6_method_3_code s_Otf_raiseOne 3 LC_Otf LJ_Otf FL_Otf FPn_Otf NW_Otf NA_Otf NQ_Otf pc q.1 q.2.1 q.2.2.1 q.2.2.2.1 q.2.2.2.2) (by decide +kernel) hq)
set_option maxRecDepth 100000 in
theorem kp_Otf_raiseOne {av : List AV} {m : Mm} {r : Int32 × Mm} (h : c_Otf_raiseOne av m = some r) : ab_kp m r.2 := by
  obtain ⟨v0, v1, v2, -, h⟩ := c_Otf_raiseOne_inv h
  rw [r_Otf_raiseOne_eq] at h
  have hV : ∀ a av m m', eV_Otf_raiseOne a av m = some m' → ab_kp m m' := ab_ev_all (P := fun _ m r => ab_kp m r) [] (fun q hq => by cases hq)
  have hI : ∀ a av m q, eI_Otf_raiseOne a av m = some q → ab_kp m q.2 := ab_ev_all (P := fun _ (m : Mm) (r : Int32 × Mm) => ab_kp m r.2) [(1, c_Math_max)] (List.forall_mem_cons.mpr ⟨fun av m r h => kp_Math_max h, fun q hq => by cases hq⟩)
  exact ab_kprel (ρ := .inl (some (.inl r.1), r.2)) (ab_tab_isn (t := t_Otf_raiseOne) (by decide +kernel)) hV hI (ab_rI_inv h)
set_option maxRecDepth 100000 in
theorem cl_Otf_raiseOne (l : Launch) : ∀ (pc : Nat) (q : Ent), i_Otf_raiseOne pc = some q → ab_inv q.1 = true → ab_CR l KT CL none ab_gW "StreamTransport$Outflow" prog_6_method_3_code 3 1 21 eV_Otf_raiseOne eI_Otf_raiseOne pc q := by
  intro pc q hq hi
  have hm : pc ∈ cs_Otf_raiseOne := ab_tab_cs (t := t_Otf_raiseOne) (by decide +kernel) hq hi
  simp only [cs_Otf_raiseOne, List.mem_cons, List.not_mem_nil, or_false] at hm
  rcases hm with rfl
  · cases (Option.some.inj hq : ((.invokestatic 24, 1, 2, 1, 0) : Ent) = q)
    exact ab_crS (by decide +kernel) cw_Math_max (ab_gW_in 558 (by decide +kernel) rfl) st_Math_max (by decide) (fun av m m' h => by cases h) (fun av m r h => cm_Math_max l h) KT_nd
theorem cw_Otf_raiseOne : ab_cw y_Otf_raiseOne prog_6_method_3_code 3 2 (some .int) := ⟨ab_gW_in 746 (by decide +kernel) rfl, ab_gW_in 69 (by decide +kernel) rfl, by decide +kernel, by decide +kernel, by decide +kernel⟩
theorem is_Otf_raiseOne : Cond.instanceMethod y_Otf_raiseOne ∈ ab_gW := ab_gW_in 744 (by decide +kernel) rfl
theorem sl_Otf_raiseOne : Cond.selects "StreamTransport$Outflow" y_Otf_raiseOne y_Otf_raiseOne ∈ ab_gW := ab_gW_in 745 (by decide +kernel) rfl
set_option maxRecDepth 100000 in
theorem cm_Otf_raiseOne (l : Launch) {av : List AV} {m : Mm} {r : Int32 × Mm} (h0 : c_Otf_raiseOne av m = some r) : ∃ (k q : Nat) (av' : List AV) (ci : Nat) (fs : List (Nat × Nat × Nat × Nat)) (z : vw_C), av = .inr (.inr (k, some q)) :: av' ∧ av'.length = 2 ∧ k ≠ 0 ∧ KT[k]? = some (.inl (ci, fs)) ∧ CL[ci]? = some z ∧ z.1 = "StreamTransport$Outflow" ∧ ab_nos av' ∧ ab_Met l KT CL y_Otf_raiseOne (Cond.code y_Otf_raiseOne prog_6_method_3_code 3 (some .int) :: ab_gW) 1 21 none av m (some (.inl r.1)) r.2 := by
  obtain ⟨v0, v1, v2, hav, h⟩ := c_Otf_raiseOne_inv h0
  rw [r_Otf_raiseOne_eq] at h
  have hmo : ab_mo m r.2 := ab_kp_mo (kp_Otf_raiseOne h0)
  subst hav
  exact ⟨_, _, _, _, _, _, rfl, rfl, by decide, rfl, rfl, rfl, (by intro v hv q e; subst e; simp at hv), ab_met (by decide +kernel) KT_0 KT_nd KT_k3 E_Otf_raiseOne (cl_Otf_raiseOne l) hmo (Nat.le_of_ble_eq_true rfl) (ab_rI_inv h) (fun v hv => by cases hv; exact ⟨_, rfl⟩)⟩
/-! StreamTransport$Outflow.mark(LStreamTransport$Sent;I)V -/
def y_Otf_mark : MethodName := ⟨"StreamTransport$Outflow", "mark", "(LStreamTransport$Sent;I)V"⟩
def t_Otf_mark (pc : Nat) : Option Ent :=
  bif Nat.blt pc 12 then
    (bif Nat.blt pc 4 then
      (bif Nat.blt pc 2 then
        (bif Nat.blt pc 1 then
          (bif Nat.beq pc 0 then some (.iconst 0, 0, 0, 0, 0) else none)
        else
          bif Nat.beq pc 1 then some (.istore_n 3, 3, 0, 0, 0) else none)
      else
        bif Nat.blt pc 3 then
          (bif Nat.beq pc 2 then some (.iload_n 3, 3, 0, 0, 0) else none)
        else
          bif Nat.beq pc 3 then some (.iconst 4, 0, 0, 0, 4) else none)
    else
      bif Nat.blt pc 8 then
        (bif Nat.blt pc 7 then
          (bif Nat.beq pc 4 then some (.if_icmp .ge (21), 25, 0, 0, 0) else none)
        else
          bif Nat.beq pc 7 then some (.aload_n 0, 0, 0, 0, 0) else none)
      else
        bif Nat.blt pc 11 then
          (bif Nat.beq pc 8 then some (.getfield 11, 4, 0, 1, 0) else none)
        else
          bif Nat.beq pc 11 then some (.iload_n 3, 3, 0, 0, 0) else none)
  else
    bif Nat.blt pc 16 then
      (bif Nat.blt pc 14 then
        (bif Nat.blt pc 13 then
          (bif Nat.beq pc 12 then some (.aaload, 0, 0, 0, 0) else none)
        else
          bif Nat.beq pc 13 then some (.aload_n 1, 1, 0, 0, 0) else none)
      else
        bif Nat.blt pc 15 then
          (bif Nat.beq pc 14 then some (.iload_n 3, 3, 0, 0, 0) else none)
        else
          bif Nat.beq pc 15 then some (.iload_n 2, 2, 0, 0, 0) else none)
    else
      bif Nat.blt pc 22 then
        (bif Nat.blt pc 19 then
          (bif Nat.beq pc 16 then some (.invokevirtual 33, 39, 4, 0, 0) else none)
        else
          bif Nat.beq pc 19 then some (.iinc 3 1, 3, 0, 0, 1) else none)
      else
        bif Nat.blt pc 25 then
          (bif Nat.beq pc 22 then some (.goto (-20), 2, 0, 0, 0) else none)
        else
          bif Nat.beq pc 25 then some (.return_, 0, 0, 0, 0) else none
def i_Otf_mark : Nat → Option Ent := ab_tab 26 t_Otf_mark
def h_Otf_mark (pc : Nat) : Nat × List Bool := bif Nat.beq pc 2 then (1, [true, true, true, true]) else (0, [])
def s_Otf_mark (pc : Nat) : List (Int32 × Nat) × Nat := ([], 0)
noncomputable def eV_Otf_mark : Nat → List AV → Mm → Option Mm := ab_ev [(39, c_Out_mark)]
noncomputable def eI_Otf_mark : Nat → List AV → Mm → Option (Int32 × Mm) := ab_ev []
noncomputable def b_Otf_mark_0 (f : Nat) (v0 : Nat) (v1 : Nat) (v2 : Int32) (m : Mm) : Option Rs := ab_ex KT none s_Otf_mark eV_Otf_mark eI_Otf_mark i_Otf_mark h_Otf_mark f 0 [some (.inr (.inr (17, some v0))), some (.inr (.inr (22, some v1))), some (.inl v2), none] [] m
noncomputable def b_Otf_mark_2 (f : Nat) (v0 : Nat) (v1 : Nat) (v2 : Int32) (v3 : Int32) (m : Mm) : Option Rs := ab_ex KT none s_Otf_mark eV_Otf_mark eI_Otf_mark i_Otf_mark h_Otf_mark f 2 [some (.inr (.inr (17, some v0))), some (.inr (.inr (22, some v1))), some (.inl v2), some (.inl v3)] [] m
set_option maxRecDepth 100000 in
set_option maxHeartbeats 4000000 in
theorem b_Otf_mark_0_eq (f : Nat) (v0 : Nat) (v1 : Nat) (v2 : Int32) (m : Mm) : b_Otf_mark_0 (f + 1) v0 v1 v2 m =
    b_Otf_mark_2 f v0 v1 v2 (0 : Int32) m := rfl
set_option maxRecDepth 100000 in
set_option maxHeartbeats 4000000 in
theorem b_Otf_mark_2_eq (f : Nat) (v0 : Nat) (v1 : Nat) (v2 : Int32) (v3 : Int32) (m : Mm) : b_Otf_mark_2 (f + 1) v0 v1 v2 v3 m =
    if (4 : Int32) ≤ v3 then
      some (.inl (none, m))
    else
      (ab_ix v3 4).bind fun i1 =>
      (r_Out_mark ((v0 + 1) + 1 + 3 * i1) v1 v3 v2 m).bind fun m2 =>
      ab_let (v3 + (1 : Int32)) fun x3 =>
      b_Otf_mark_2 f v0 v1 v2 x3 m2 := rfl
noncomputable def r_Otf_mark : Nat → Nat → Int32 → Mm → Option Mm := ab_seal fun v0 v1 v2 m => ab_rV (b_Otf_mark_0 50000 v0 v1 v2 m)
theorem r_Otf_mark_eq (v0 : Nat) (v1 : Nat) (v2 : Int32) (m : Mm) : r_Otf_mark v0 v1 v2 m = ab_rV (b_Otf_mark_0 50000 v0 v1 v2 m) := by
  unfold r_Otf_mark
  rw [ab_seal_eq]
noncomputable def c_Otf_mark : List AV → Mm → Option Mm := fun av m => match av with
  | [.inr (.inr (kv0, ov0)), .inr (.inr (kv1, ov1)), .inl v2] => if kv0 = 17 then (if kv1 = 22 then (ov0.bind fun v0 => ov1.bind fun v1 => r_Otf_mark v0 v1 v2 m) else none) else none
  | _ => none
theorem c_Otf_mark_inv {av : List AV} {m : Mm} {r : Mm} (h : c_Otf_mark av m = some r) : ∃ (v0 : Nat) (v1 : Nat) (v2 : Int32), av = [.inr (.inr (17, some v0)), .inr (.inr (22, some v1)), .inl v2] ∧ r_Otf_mark v0 v1 v2 m = some r := by
  unfold c_Otf_mark at h
  split at h
  · rename_i kv0 ov0 kv1 ov1 v2
    by_cases hkv0 : kv0 = 17
    case neg => rw [if_neg hkv0] at h; cases h
    rw [if_pos hkv0] at h
    subst hkv0
    by_cases hkv1 : kv1 = 22
    case neg => rw [if_neg hkv1] at h; cases h
    rw [if_pos hkv1] at h
    subst hkv1
    obtain ⟨v0, hev0, h⟩ := Option.bind_eq_some_iff.mp h
    obtain ⟨v1, hev1, h⟩ := Option.bind_eq_some_iff.mp h
    subst hev0
    subst hev1
    exact ⟨v0, v1, v2, rfl, h⟩
  · cases h
def cs_Otf_mark : List Nat := [16]
set_option maxRecDepth 100000 in
theorem E_Otf_mark : ∀ (pc : Nat) (q : Ent), i_Otf_mark pc = some q → ab_E KT CL ab_gW "StreamTransport$Outflow" "mark" none prog_6_method_4_code s_Otf_mark 4 pc q.1 q.2.1 q.2.2.1 q.2.2.2.1 q.2.2.2.2 := fun pc q hq =>
  ab_Eb_ok lc_Otf lj_Otf fl_Otf (fpn_Otf "mark") nw_Otf na_Otf nq_Otf (ab_tab_all (t := t_Otf_mark) (chk := fun pc q => ab_Eb none prog_6_method_4_code s_Otf_mark 4 LC_Otf LJ_Otf FL_Otf FPn_Otf NW_Otf NA_Otf NQ_Otf pc q.1 q.2.1 q.2.2.1 q.2.2.2.1 q.2.2.2.2) (by decide +kernel) hq)
set_option maxRecDepth 100000 in
theorem kp_Otf_mark {av : List AV} {m : Mm} {r : Mm} (h : c_Otf_mark av m = some r) : ab_kp m r := by
  obtain ⟨v0, v1, v2, -, h⟩ := c_Otf_mark_inv h
  rw [r_Otf_mark_eq] at h
  have hV : ∀ a av m m', eV_Otf_mark a av m = some m' → ab_kp m m' := ab_ev_all (P := fun _ m r => ab_kp m r) [(39, c_Out_mark)] (List.forall_mem_cons.mpr ⟨fun av m r h => kp_Out_mark h, fun q hq => by cases hq⟩)
  have hI : ∀ a av m q, eI_Otf_mark a av m = some q → ab_kp m q.2 := ab_ev_all (P := fun _ (m : Mm) (r : Int32 × Mm) => ab_kp m r.2) [] (fun q hq => by cases hq)
  exact ab_kprel (ρ := .inl (none, r)) (ab_tab_isn (t := t_Otf_mark) (by decide +kernel)) hV hI (ab_rV_inv h)
set_option maxRecDepth 100000 in
theorem cl_Otf_mark (l : Launch) : ∀ (pc : Nat) (q : Ent), i_Otf_mark pc = some q → ab_inv q.1 = true → ab_CR l KT CL none ab_gW "StreamTransport$Outflow" prog_6_method_4_code 4 1 25 eV_Otf_mark eI_Otf_mark pc q := by
  intro pc q hq hi
  have hm : pc ∈ cs_Otf_mark := ab_tab_cs (t := t_Otf_mark) (by decide +kernel) hq hi
  simp only [cs_Otf_mark, List.mem_cons, List.not_mem_nil, or_false] at hm
  rcases hm with rfl
  · cases (Option.some.inj hq : ((.invokevirtual 33, 39, 4, 0, 0) : Ent) = q)
    exact ab_crV (C := "StreamTransport$Outgoing") (by decide +kernel) cw_Out_mark (ab_gW_in 594 (by decide +kernel) rfl) is_Out_mark sl_Out_mark (by decide) (fun av m m' h => cm_Out_mark l h) (fun av m r h => by cases h) KT_nd
theorem cw_Otf_mark : ab_cw y_Otf_mark prog_6_method_4_code 4 2 none := ⟨ab_gW_in 593 (by decide +kernel) rfl, ab_gW_in 69 (by decide +kernel) rfl, by decide +kernel, by decide +kernel, by decide +kernel⟩
theorem is_Otf_mark : Cond.instanceMethod y_Otf_mark ∈ ab_gW := ab_gW_in 591 (by decide +kernel) rfl
theorem sl_Otf_mark : Cond.selects "StreamTransport$Outflow" y_Otf_mark y_Otf_mark ∈ ab_gW := ab_gW_in 592 (by decide +kernel) rfl
set_option maxRecDepth 100000 in
theorem cm_Otf_mark (l : Launch) {av : List AV} {m : Mm} {r : Mm} (h0 : c_Otf_mark av m = some r) : ∃ (k q : Nat) (av' : List AV) (ci : Nat) (fs : List (Nat × Nat × Nat × Nat)) (z : vw_C), av = .inr (.inr (k, some q)) :: av' ∧ av'.length = 2 ∧ k ≠ 0 ∧ KT[k]? = some (.inl (ci, fs)) ∧ CL[ci]? = some z ∧ z.1 = "StreamTransport$Outflow" ∧ ab_nos av' ∧ ab_Met l KT CL y_Otf_mark (Cond.code y_Otf_mark prog_6_method_4_code 4 none :: ab_gW) 1 25 none av m none r := by
  obtain ⟨v0, v1, v2, hav, h⟩ := c_Otf_mark_inv h0
  rw [r_Otf_mark_eq] at h
  have hmo : ab_mo m r := ab_kp_mo (kp_Otf_mark h0)
  subst hav
  exact ⟨_, _, _, _, _, _, rfl, rfl, by decide, rfl, rfl, rfl, (by intro v hv q e; subst e; simp at hv), ab_met (by decide +kernel) KT_0 KT_nd KT_k3 E_Otf_mark (cl_Otf_mark l) hmo (Nat.le_of_ble_eq_true rfl) (ab_rV_inv h) (fun v hv => by cases hv)⟩
/-! StreamTransport$Outflow.putResets(LStreamTransport$Row;LStreamTransport$Sent;)V -/
def y_Otf_putResets : MethodName := ⟨"StreamTransport$Outflow", "putResets", "(LStreamTransport$Row;LStreamTransport$Sent;)V"⟩
def t_Otf_putResets (pc : Nat) : Option Ent :=
  bif Nat.blt pc 34 then
    (bif Nat.blt pc 13 then
      (bif Nat.blt pc 4 then
        (bif Nat.blt pc 2 then
          (bif Nat.blt pc 1 then
            (bif Nat.beq pc 0 then some (.iconst 0, 0, 0, 0, 0) else none)
          else
            bif Nat.beq pc 1 then some (.istore_n 3, 3, 0, 0, 0) else none)
        else
          bif Nat.blt pc 3 then
            (bif Nat.beq pc 2 then some (.iload_n 3, 3, 0, 0, 0) else none)
          else
            bif Nat.beq pc 3 then some (.iconst 4, 0, 0, 0, 4) else none)
      else
        bif Nat.blt pc 8 then
          (bif Nat.blt pc 7 then
            (bif Nat.beq pc 4 then some (.if_icmp .ge (68), 72, 0, 0, 0) else none)
          else
            bif Nat.beq pc 7 then some (.aload_n 0, 0, 0, 0, 0) else none)
        else
          bif Nat.blt pc 11 then
            (bif Nat.beq pc 8 then some (.getfield 11, 4, 0, 1, 0) else none)
          else
            bif Nat.blt pc 12 then
              (bif Nat.beq pc 11 then some (.iload_n 3, 3, 0, 0, 0) else none)
            else
              bif Nat.beq pc 12 then some (.aaload, 0, 0, 0, 0) else none)
    else
      bif Nat.blt pc 24 then
        (bif Nat.blt pc 17 then
          (bif Nat.blt pc 15 then
            (bif Nat.beq pc 13 then some (.astore 4, 4, 0, 0, 0) else none)
          else
            bif Nat.beq pc 15 then some (.aload 4, 4, 0, 0, 0) else none)
        else
          bif Nat.blt pc 20 then
            (bif Nat.beq pc 17 then some (.invokevirtual 37, 34, 1, 1, 0) else none)
          else
            bif Nat.blt pc 23 then
              (bif Nat.beq pc 20 then some (.ifCond .eq (46), 66, 0, 0, 0) else none)
            else
              bif Nat.beq pc 23 then some (.aload_n 1, 1, 0, 0, 0) else none)
      else
        bif Nat.blt pc 27 then
          (bif Nat.blt pc 25 then
            (bif Nat.beq pc 24 then some (.iconst 2, 0, 0, 0, 2) else none)
          else
            bif Nat.beq pc 25 then some (.aload 4, 4, 0, 0, 0) else none)
        else
          bif Nat.blt pc 30 then
            (bif Nat.beq pc 27 then some (.getfield 41, 5, 3, 0, 0) else none)
          else
            bif Nat.blt pc 33 then
              (bif Nat.beq pc 30 then some (.invokestatic 44, 4, 1, 1, 0) else none)
            else
              bif Nat.beq pc 33 then some (.iadd, 0, 0, 0, 0) else none)
  else
    bif Nat.blt pc 53 then
      (bif Nat.blt pc 45 then
        (bif Nat.blt pc 40 then
          (bif Nat.blt pc 37 then
            (bif Nat.beq pc 34 then some (.invokevirtual 48, 7, 2, 1, 0) else none)
          else
            bif Nat.beq pc 37 then some (.ifCond .eq (29), 66, 0, 0, 0) else none)
        else
          bif Nat.blt pc 41 then
            (bif Nat.beq pc 40 then some (.aload_n 1, 1, 0, 0, 0) else none)
          else
            bif Nat.blt pc 42 then
              (bif Nat.beq pc 41 then some (.iconst 5, 0, 0, 0, 5) else none)
            else
              bif Nat.beq pc 42 then some (.invokevirtual 54, 8, 2, 0, 0) else none)
      else
        bif Nat.blt pc 47 then
          (bif Nat.blt pc 46 then
            (bif Nat.beq pc 45 then some (.aload_n 1, 1, 0, 0, 0) else none)
          else
            bif Nat.beq pc 46 then some (.iload_n 3, 3, 0, 0, 0) else none)
        else
          bif Nat.blt pc 50 then
            (bif Nat.beq pc 47 then some (.invokevirtual 57, 10, 2, 0, 0) else none)
          else
            bif Nat.blt pc 51 then
              (bif Nat.beq pc 50 then some (.aload_n 1, 1, 0, 0, 0) else none)
            else
              bif Nat.beq pc 51 then some (.aload 4, 4, 0, 0, 0) else none)
    else
      bif Nat.blt pc 64 then
        (bif Nat.blt pc 59 then
          (bif Nat.blt pc 56 then
            (bif Nat.beq pc 53 then some (.getfield 41, 5, 3, 0, 0) else none)
          else
            bif Nat.beq pc 56 then some (.invokevirtual 57, 10, 2, 0, 0) else none)
        else
          bif Nat.blt pc 60 then
            (bif Nat.beq pc 59 then some (.aload_n 2, 2, 0, 0, 0) else none)
          else
            bif Nat.blt pc 63 then
              (bif Nat.beq pc 60 then some (.getfield 60, 8, 7, 1, 0) else none)
            else
              bif Nat.beq pc 63 then some (.iload_n 3, 3, 0, 0, 0) else none)
      else
        bif Nat.blt pc 66 then
          (bif Nat.blt pc 65 then
            (bif Nat.beq pc 64 then some (.iconst 1, 0, 0, 0, 1) else none)
          else
            bif Nat.beq pc 65 then some (.bastore, 0, 0, 0, 0) else none)
        else
          bif Nat.blt pc 69 then
            (bif Nat.beq pc 66 then some (.iinc 3 1, 3, 0, 0, 1) else none)
          else
            bif Nat.blt pc 72 then
              (bif Nat.beq pc 69 then some (.goto (-67), 2, 0, 0, 0) else none)
            else
              bif Nat.beq pc 72 then some (.return_, 0, 0, 0, 0) else none
def i_Otf_putResets : Nat → Option Ent := ab_tab 73 t_Otf_putResets
def h_Otf_putResets (pc : Nat) : Nat × List Bool := bif Nat.beq pc 2 then (1, [true, true, true, true, false]) else bif Nat.beq pc 66 then (1, [true, true, true, true, false]) else (0, [])
def s_Otf_putResets (pc : Nat) : List (Int32 × Nat) × Nat := ([], 0)
noncomputable def eV_Otf_putResets : Nat → List AV → Mm → Option Mm := ab_ev [(8, c_Row_put), (10, c_Row_putNumber)]
noncomputable def eI_Otf_putResets : Nat → List AV → Mm → Option (Int32 × Mm) := ab_ev [(34, c_Out_owesReset), (4, c_X_sizeOf), (7, c_Row_hasRoomFor)]
noncomputable def b_Otf_putResets_0 (f : Nat) (v0 : Nat) (v1 : Nat) (v2 : Nat) (m : Mm) : Option Rs := ab_ex KT none s_Otf_putResets eV_Otf_putResets eI_Otf_putResets i_Otf_putResets h_Otf_putResets f 0 [some (.inr (.inr (17, some v0))), some (.inr (.inr (4, some v1))), some (.inr (.inr (22, some v2))), none, none] [] m
noncomputable def b_Otf_putResets_2 (f : Nat) (v0 : Nat) (v1 : Nat) (v2 : Nat) (v3 : Int32) (m : Mm) : Option Rs := ab_ex KT none s_Otf_putResets eV_Otf_putResets eI_Otf_putResets i_Otf_putResets h_Otf_putResets f 2 [some (.inr (.inr (17, some v0))), some (.inr (.inr (4, some v1))), some (.inr (.inr (22, some v2))), some (.inl v3), none] [] m
noncomputable def b_Otf_putResets_66 (f : Nat) (v0 : Nat) (v1 : Nat) (v2 : Nat) (v3 : Int32) (m : Mm) : Option Rs := ab_ex KT none s_Otf_putResets eV_Otf_putResets eI_Otf_putResets i_Otf_putResets h_Otf_putResets f 66 [some (.inr (.inr (17, some v0))), some (.inr (.inr (4, some v1))), some (.inr (.inr (22, some v2))), some (.inl v3), none] [] m
set_option maxRecDepth 100000 in
set_option maxHeartbeats 4000000 in
theorem b_Otf_putResets_0_eq (f : Nat) (v0 : Nat) (v1 : Nat) (v2 : Nat) (m : Mm) : b_Otf_putResets_0 (f + 1) v0 v1 v2 m =
    b_Otf_putResets_2 f v0 v1 v2 (0 : Int32) m := rfl
set_option maxRecDepth 100000 in
set_option maxHeartbeats 4000000 in
theorem b_Otf_putResets_2_eq (f : Nat) (v0 : Nat) (v1 : Nat) (v2 : Nat) (v3 : Int32) (m : Mm) : b_Otf_putResets_2 (f + 1) v0 v1 v2 v3 m =
    if (4 : Int32) ≤ v3 then
      some (.inl (none, m))
    else
      (ab_ix v3 4).bind fun i1 =>
      (r_Out_owesReset ((v0 + 1) + 1 + 3 * i1) m).bind fun z2 =>
      if z2.1 = 0 then
        b_Otf_putResets_66 f v0 v1 v2 v3 z2.2
      else
        (r_X_sizeOf (z2.2.1 60 ((v0 + 1) + 1 + 3 * i1) 0) z2.2).bind fun z3 =>
        (r_Row_hasRoomFor v1 ((2 : Int32) + z3.1) z3.2).bind fun z4 =>
        if z4.1 = 0 then
          b_Otf_putResets_66 f v0 v1 v2 v3 z4.2
        else
          (r_Row_put v1 (5 : Int32) z4.2).bind fun m5 =>
          (r_Row_putNumber v1 v3 m5).bind fun m6 =>
          (r_Row_putNumber v1 (m6.1 60 ((v0 + 1) + 1 + 3 * i1) 0) m6).bind fun m7 =>
          (ab_ix v3 4).bind fun i8 =>
          (ab_bo (1 : Int32)).bind fun y10 =>
          ab_let (ab_uI m7 80 (v2 + 5) i8 y10) fun m9 =>
          b_Otf_putResets_66 f v0 v1 v2 v3 m9 := rfl
set_option maxRecDepth 100000 in
set_option maxHeartbeats 4000000 in
theorem b_Otf_putResets_66_eq (f : Nat) (v0 : Nat) (v1 : Nat) (v2 : Nat) (v3 : Int32) (m : Mm) : b_Otf_putResets_66 (f + 1) v0 v1 v2 v3 m =
    ab_let (v3 + (1 : Int32)) fun x1 =>
    b_Otf_putResets_2 f v0 v1 v2 x1 m := rfl
noncomputable def r_Otf_putResets : Nat → Nat → Nat → Mm → Option Mm := ab_seal fun v0 v1 v2 m => ab_rV (b_Otf_putResets_0 50000 v0 v1 v2 m)
theorem r_Otf_putResets_eq (v0 : Nat) (v1 : Nat) (v2 : Nat) (m : Mm) : r_Otf_putResets v0 v1 v2 m = ab_rV (b_Otf_putResets_0 50000 v0 v1 v2 m) := by
  unfold r_Otf_putResets
  rw [ab_seal_eq]
noncomputable def c_Otf_putResets : List AV → Mm → Option Mm := fun av m => match av with
  | [.inr (.inr (kv0, ov0)), .inr (.inr (kv1, ov1)), .inr (.inr (kv2, ov2))] => if kv0 = 17 then (if kv1 = 4 then (if kv2 = 22 then (ov0.bind fun v0 => ov1.bind fun v1 => ov2.bind fun v2 => r_Otf_putResets v0 v1 v2 m) else none) else none) else none
  | _ => none
theorem c_Otf_putResets_inv {av : List AV} {m : Mm} {r : Mm} (h : c_Otf_putResets av m = some r) : ∃ (v0 : Nat) (v1 : Nat) (v2 : Nat), av = [.inr (.inr (17, some v0)), .inr (.inr (4, some v1)), .inr (.inr (22, some v2))] ∧ r_Otf_putResets v0 v1 v2 m = some r := by
  unfold c_Otf_putResets at h
  split at h
  · rename_i kv0 ov0 kv1 ov1 kv2 ov2
    by_cases hkv0 : kv0 = 17
    case neg => rw [if_neg hkv0] at h; cases h
    rw [if_pos hkv0] at h
    subst hkv0
    by_cases hkv1 : kv1 = 4
    case neg => rw [if_neg hkv1] at h; cases h
    rw [if_pos hkv1] at h
    subst hkv1
    by_cases hkv2 : kv2 = 22
    case neg => rw [if_neg hkv2] at h; cases h
    rw [if_pos hkv2] at h
    subst hkv2
    obtain ⟨v0, hev0, h⟩ := Option.bind_eq_some_iff.mp h
    obtain ⟨v1, hev1, h⟩ := Option.bind_eq_some_iff.mp h
    obtain ⟨v2, hev2, h⟩ := Option.bind_eq_some_iff.mp h
    subst hev0
    subst hev1
    subst hev2
    exact ⟨v0, v1, v2, rfl, h⟩
  · cases h
def cs_Otf_putResets : List Nat := [17, 30, 34, 42, 47, 56]
set_option maxRecDepth 100000 in
theorem E_Otf_putResets : ∀ (pc : Nat) (q : Ent), i_Otf_putResets pc = some q → ab_E KT CL ab_gW "StreamTransport$Outflow" "putResets" none prog_6_method_5_code s_Otf_putResets 5 pc q.1 q.2.1 q.2.2.1 q.2.2.2.1 q.2.2.2.2 := fun pc q hq =>
  ab_Eb_ok lc_Otf lj_Otf fl_Otf (fpn_Otf "putResets") nw_Otf na_Otf nq_Otf (ab_tab_all (t := t_Otf_putResets) (chk := fun pc q => ab_Eb none prog_6_method_5_code s_Otf_putResets 5 LC_Otf LJ_Otf FL_Otf FPn_Otf NW_Otf NA_Otf NQ_Otf pc q.1 q.2.1 q.2.2.1 q.2.2.2.1 q.2.2.2.2) (by decide +kernel) hq)
set_option maxRecDepth 100000 in
theorem kp_Otf_putResets {av : List AV} {m : Mm} {r : Mm} (h : c_Otf_putResets av m = some r) : ab_kp m r := by
  obtain ⟨v0, v1, v2, -, h⟩ := c_Otf_putResets_inv h
  rw [r_Otf_putResets_eq] at h
  have hV : ∀ a av m m', eV_Otf_putResets a av m = some m' → ab_kp m m' := ab_ev_all (P := fun _ m r => ab_kp m r) [(8, c_Row_put), (10, c_Row_putNumber)] (List.forall_mem_cons.mpr ⟨fun av m r h => kp_Row_put h, List.forall_mem_cons.mpr ⟨fun av m r h => kp_Row_putNumber h, fun q hq => by cases hq⟩⟩)
  have hI : ∀ a av m q, eI_Otf_putResets a av m = some q → ab_kp m q.2 := ab_ev_all (P := fun _ (m : Mm) (r : Int32 × Mm) => ab_kp m r.2) [(34, c_Out_owesReset), (4, c_X_sizeOf), (7, c_Row_hasRoomFor)] (List.forall_mem_cons.mpr ⟨fun av m r h => kp_Out_owesReset h, List.forall_mem_cons.mpr ⟨fun av m r h => kp_X_sizeOf h, List.forall_mem_cons.mpr ⟨fun av m r h => kp_Row_hasRoomFor h, fun q hq => by cases hq⟩⟩⟩)
  exact ab_kprel (ρ := .inl (none, r)) (ab_tab_isn (t := t_Otf_putResets) (by decide +kernel)) hV hI (ab_rV_inv h)
set_option maxRecDepth 100000 in
theorem cl_Otf_putResets (l : Launch) : ∀ (pc : Nat) (q : Ent), i_Otf_putResets pc = some q → ab_inv q.1 = true → ab_CR l KT CL none ab_gW "StreamTransport$Outflow" prog_6_method_5_code 5 2 45 eV_Otf_putResets eI_Otf_putResets pc q := by
  intro pc q hq hi
  have hm : pc ∈ cs_Otf_putResets := ab_tab_cs (t := t_Otf_putResets) (by decide +kernel) hq hi
  simp only [cs_Otf_putResets, List.mem_cons, List.not_mem_nil, or_false] at hm
  rcases hm with rfl | rfl | rfl | rfl | rfl | rfl
  · cases (Option.some.inj hq : ((.invokevirtual 37, 34, 1, 1, 0) : Ent) = q)
    exact ab_crV (C := "StreamTransport$Outgoing") (by decide +kernel) cw_Out_owesReset (ab_gW_in 529 (by decide +kernel) rfl) is_Out_owesReset sl_Out_owesReset (by decide) (fun av m m' h => by cases h) (fun av m r h => cm_Out_owesReset l h) KT_nd
  · cases (Option.some.inj hq : ((.invokestatic 44, 4, 1, 1, 0) : Ent) = q)
    exact ab_crSN (by decide +kernel) cw_X_sizeOf (by decide +kernel) st_X_sizeOf (by decide) (fun av m m' h => by cases h) (fun av m r h => cm_X_sizeOf l h) KT_nd
  · cases (Option.some.inj hq : ((.invokevirtual 48, 7, 2, 1, 0) : Ent) = q)
    exact ab_crV (C := "StreamTransport$Row") (by decide +kernel) cw_Row_hasRoomFor (ab_gW_in 537 (by decide +kernel) rfl) is_Row_hasRoomFor sl_Row_hasRoomFor (by decide) (fun av m m' h => by cases h) (fun av m r h => cm_Row_hasRoomFor l h) KT_nd
  · cases (Option.some.inj hq : ((.invokevirtual 54, 8, 2, 0, 0) : Ent) = q)
    exact ab_crV (C := "StreamTransport$Row") (by decide +kernel) cw_Row_put (ab_gW_in 538 (by decide +kernel) rfl) is_Row_put sl_Row_put (by decide) (fun av m m' h => cm_Row_put l h) (fun av m r h => by cases h) KT_nd
  · cases (Option.some.inj hq : ((.invokevirtual 57, 10, 2, 0, 0) : Ent) = q)
    exact ab_crV (C := "StreamTransport$Row") (by decide +kernel) cw_Row_putNumber (ab_gW_in 539 (by decide +kernel) rfl) is_Row_putNumber sl_Row_putNumber (by decide) (fun av m m' h => cm_Row_putNumber l h) (fun av m r h => by cases h) KT_nd
  · cases (Option.some.inj hq : ((.invokevirtual 57, 10, 2, 0, 0) : Ent) = q)
    exact ab_crV (C := "StreamTransport$Row") (by decide +kernel) cw_Row_putNumber (ab_gW_in 539 (by decide +kernel) rfl) is_Row_putNumber sl_Row_putNumber (by decide) (fun av m m' h => cm_Row_putNumber l h) (fun av m r h => by cases h) KT_nd
theorem cw_Otf_putResets : ab_cw y_Otf_putResets prog_6_method_5_code 5 2 none := ⟨ab_gW_in 528 (by decide +kernel) rfl, ab_gW_in 69 (by decide +kernel) rfl, by decide +kernel, by decide +kernel, by decide +kernel⟩
theorem is_Otf_putResets : Cond.instanceMethod y_Otf_putResets ∈ ab_gW := ab_gW_in 526 (by decide +kernel) rfl
theorem sl_Otf_putResets : Cond.selects "StreamTransport$Outflow" y_Otf_putResets y_Otf_putResets ∈ ab_gW := ab_gW_in 527 (by decide +kernel) rfl
set_option maxRecDepth 100000 in
theorem cm_Otf_putResets (l : Launch) {av : List AV} {m : Mm} {r : Mm} (h0 : c_Otf_putResets av m = some r) : ∃ (k q : Nat) (av' : List AV) (ci : Nat) (fs : List (Nat × Nat × Nat × Nat)) (z : vw_C), av = .inr (.inr (k, some q)) :: av' ∧ av'.length = 2 ∧ k ≠ 0 ∧ KT[k]? = some (.inl (ci, fs)) ∧ CL[ci]? = some z ∧ z.1 = "StreamTransport$Outflow" ∧ ab_nos av' ∧ ab_Met l KT CL y_Otf_putResets (Cond.code y_Otf_putResets prog_6_method_5_code 5 none :: ab_gW) 2 45 none av m none r := by
  obtain ⟨v0, v1, v2, hav, h⟩ := c_Otf_putResets_inv h0
  rw [r_Otf_putResets_eq] at h
  have hmo : ab_mo m r := ab_kp_mo (kp_Otf_putResets h0)
  subst hav
  exact ⟨_, _, _, _, _, _, rfl, rfl, by decide, rfl, rfl, rfl, (by intro v hv q e; subst e; simp at hv), ab_met (by decide +kernel) KT_0 KT_nd KT_k3 E_Otf_putResets (cl_Otf_putResets l) hmo (Nat.le_of_ble_eq_true rfl) (ab_rV_inv h) (fun v hv => by cases hv)⟩
/-! StreamTransport$Outflow.countAllowed(LStreamTransport$Outgoing;)I -/
def y_Otf_countAllowed : MethodName := ⟨"StreamTransport$Outflow", "countAllowed", "(LStreamTransport$Outgoing;)I"⟩
def t_Otf_countAllowed (pc : Nat) : Option Ent :=
  bif Nat.blt pc 29 then
    (bif Nat.blt pc 16 then
      (bif Nat.blt pc 8 then
        (bif Nat.blt pc 4 then
          (bif Nat.blt pc 1 then
            (bif Nat.beq pc 0 then some (.aload_n 1, 1, 0, 0, 0) else none)
          else
            bif Nat.beq pc 1 then some (.getfield 111, 5, 2, 0, 0) else none)
        else
          bif Nat.blt pc 5 then
            (bif Nat.beq pc 4 then some (.aload_n 1, 1, 0, 0, 0) else none)
          else
            bif Nat.beq pc 5 then some (.getfield 30, 5, 4, 0, 0) else none)
      else
        bif Nat.blt pc 12 then
          (bif Nat.blt pc 11 then
            (bif Nat.beq pc 8 then some (.invokestatic 92, 2, 2, 1, 0) else none)
          else
            bif Nat.beq pc 11 then some (.aload_n 1, 1, 0, 0, 0) else none)
        else
          bif Nat.blt pc 15 then
            (bif Nat.beq pc 12 then some (.getfield 41, 5, 3, 0, 0) else none)
          else
            bif Nat.beq pc 15 then some (.isub, 0, 0, 0, 0) else none)
    else
      bif Nat.blt pc 20 then
        (bif Nat.blt pc 18 then
          (bif Nat.blt pc 17 then
            (bif Nat.beq pc 16 then some (.istore_n 2, 2, 0, 0, 0) else none)
          else
            bif Nat.beq pc 17 then some (.iconst 0, 0, 0, 0, 0) else none)
        else
          bif Nat.blt pc 19 then
            (bif Nat.beq pc 18 then some (.istore_n 3, 3, 0, 0, 0) else none)
          else
            bif Nat.beq pc 19 then some (.iconst 0, 0, 0, 0, 0) else none)
      else
        bif Nat.blt pc 24 then
          (bif Nat.blt pc 22 then
            (bif Nat.beq pc 20 then some (.istore 4, 4, 0, 0, 0) else none)
          else
            bif Nat.beq pc 22 then some (.iload 4, 4, 0, 0, 0) else none)
        else
          bif Nat.blt pc 25 then
            (bif Nat.beq pc 24 then some (.iconst 4, 0, 0, 0, 4) else none)
          else
            bif Nat.blt pc 28 then
              (bif Nat.beq pc 25 then some (.if_icmp .ge (22), 47, 0, 0, 0) else none)
            else
              bif Nat.beq pc 28 then some (.iload_n 3, 3, 0, 0, 0) else none)
  else
    bif Nat.blt pc 47 then
      (bif Nat.blt pc 36 then
        (bif Nat.blt pc 33 then
          (bif Nat.blt pc 30 then
            (bif Nat.beq pc 29 then some (.aload_n 0, 0, 0, 0, 0) else none)
          else
            bif Nat.beq pc 30 then some (.getfield 11, 4, 0, 1, 0) else none)
        else
          bif Nat.blt pc 35 then
            (bif Nat.beq pc 33 then some (.iload 4, 4, 0, 0, 0) else none)
          else
            bif Nat.beq pc 35 then some (.aaload, 0, 0, 0, 0) else none)
      else
        bif Nat.blt pc 40 then
          (bif Nat.blt pc 39 then
            (bif Nat.beq pc 36 then some (.getfield 41, 5, 3, 0, 0) else none)
          else
            bif Nat.beq pc 39 then some (.iadd, 0, 0, 0, 0) else none)
        else
          bif Nat.blt pc 41 then
            (bif Nat.beq pc 40 then some (.istore_n 3, 3, 0, 0, 0) else none)
          else
            bif Nat.blt pc 44 then
              (bif Nat.beq pc 41 then some (.iinc 4 1, 4, 0, 0, 1) else none)
            else
              bif Nat.beq pc 44 then some (.goto (-22), 22, 0, 0, 0) else none)
    else
      bif Nat.blt pc 53 then
        (bif Nat.blt pc 49 then
          (bif Nat.blt pc 48 then
            (bif Nat.beq pc 47 then some (.iconst 0, 0, 0, 0, 0) else none)
          else
            bif Nat.beq pc 48 then some (.iload_n 2, 2, 0, 0, 0) else none)
        else
          bif Nat.blt pc 50 then
            (bif Nat.beq pc 49 then some (.aload_n 0, 0, 0, 0, 0) else none)
          else
            bif Nat.beq pc 50 then some (.getfield 17, 4, 1, 0, 0) else none)
      else
        bif Nat.blt pc 55 then
          (bif Nat.blt pc 54 then
            (bif Nat.beq pc 53 then some (.iload_n 3, 3, 0, 0, 0) else none)
          else
            bif Nat.beq pc 54 then some (.isub, 0, 0, 0, 0) else none)
        else
          bif Nat.blt pc 58 then
            (bif Nat.beq pc 55 then some (.invokestatic 92, 2, 2, 1, 0) else none)
          else
            bif Nat.blt pc 61 then
              (bif Nat.beq pc 58 then some (.invokestatic 24, 1, 2, 1, 0) else none)
            else
              bif Nat.beq pc 61 then some (.ireturn, 0, 0, 0, 0) else none
def i_Otf_countAllowed : Nat → Option Ent := ab_tab 62 t_Otf_countAllowed
def h_Otf_countAllowed (pc : Nat) : Nat × List Bool := bif Nat.beq pc 22 then (1, [true, false, true, true, true]) else (0, [])
def s_Otf_countAllowed (pc : Nat) : List (Int32 × Nat) × Nat := ([], 0)
noncomputable def eV_Otf_countAllowed : Nat → List AV → Mm → Option Mm := ab_ev []
noncomputable def eI_Otf_countAllowed : Nat → List AV → Mm → Option (Int32 × Mm) := ab_ev [(2, c_Math_min), (1, c_Math_max)]
noncomputable def b_Otf_countAllowed_0 (f : Nat) (v0 : Nat) (v1 : Nat) (m : Mm) : Option Rs := ab_ex KT none s_Otf_countAllowed eV_Otf_countAllowed eI_Otf_countAllowed i_Otf_countAllowed h_Otf_countAllowed f 0 [some (.inr (.inr (17, some v0))), some (.inr (.inr (19, some v1))), none, none, none] [] m
noncomputable def b_Otf_countAllowed_22 (f : Nat) (v0 : Nat) (v2 : Int32) (v3 : Int32) (v4 : Int32) (m : Mm) : Option Rs := ab_ex KT none s_Otf_countAllowed eV_Otf_countAllowed eI_Otf_countAllowed i_Otf_countAllowed h_Otf_countAllowed f 22 [some (.inr (.inr (17, some v0))), none, some (.inl v2), some (.inl v3), some (.inl v4)] [] m
set_option maxRecDepth 100000 in
set_option maxHeartbeats 4000000 in
theorem b_Otf_countAllowed_0_eq (f : Nat) (v0 : Nat) (v1 : Nat) (m : Mm) : b_Otf_countAllowed_0 (f + 1) v0 v1 m =
    (r_Math_min (m.1 59 v1 0) (m.1 61 v1 0) m).bind fun z1 =>
    ab_let ((z1.1 - (z1.2.1 60 v1 0))) fun x2 =>
    b_Otf_countAllowed_22 f v0 x2 (0 : Int32) (0 : Int32) z1.2 := rfl
set_option maxRecDepth 100000 in
set_option maxHeartbeats 4000000 in
theorem b_Otf_countAllowed_22_eq (f : Nat) (v0 : Nat) (v2 : Int32) (v3 : Int32) (v4 : Int32) (m : Mm) : b_Otf_countAllowed_22 (f + 1) v0 v2 v3 v4 m =
    if (4 : Int32) ≤ v4 then
      (r_Math_min v2 ((m.1 55 v0 0) - v3) m).bind fun z1 =>
      (r_Math_max (0 : Int32) z1.1 z1.2).bind fun z2 =>
      some (.inl (some (.inl z2.1), z2.2))
    else
      (ab_ix v4 4).bind fun i3 =>
      ab_let ((v3 + (m.1 60 ((v0 + 1) + 1 + 3 * i3) 0))) fun x4 =>
      ab_let (v4 + (1 : Int32)) fun x5 =>
      b_Otf_countAllowed_22 f v0 v2 x4 x5 m := rfl
noncomputable def r_Otf_countAllowed : Nat → Nat → Mm → Option (Int32 × Mm) := ab_seal fun v0 v1 m => ab_rI (b_Otf_countAllowed_0 50000 v0 v1 m)
theorem r_Otf_countAllowed_eq (v0 : Nat) (v1 : Nat) (m : Mm) : r_Otf_countAllowed v0 v1 m = ab_rI (b_Otf_countAllowed_0 50000 v0 v1 m) := by
  unfold r_Otf_countAllowed
  rw [ab_seal_eq]
noncomputable def c_Otf_countAllowed : List AV → Mm → Option (Int32 × Mm) := fun av m => match av with
  | [.inr (.inr (kv0, ov0)), .inr (.inr (kv1, ov1))] => if kv0 = 17 then (if kv1 = 19 then (ov0.bind fun v0 => ov1.bind fun v1 => r_Otf_countAllowed v0 v1 m) else none) else none
  | _ => none
theorem c_Otf_countAllowed_inv {av : List AV} {m : Mm} {r : Int32 × Mm} (h : c_Otf_countAllowed av m = some r) : ∃ (v0 : Nat) (v1 : Nat), av = [.inr (.inr (17, some v0)), .inr (.inr (19, some v1))] ∧ r_Otf_countAllowed v0 v1 m = some r := by
  unfold c_Otf_countAllowed at h
  split at h
  · rename_i kv0 ov0 kv1 ov1
    by_cases hkv0 : kv0 = 17
    case neg => rw [if_neg hkv0] at h; cases h
    rw [if_pos hkv0] at h
    subst hkv0
    by_cases hkv1 : kv1 = 19
    case neg => rw [if_neg hkv1] at h; cases h
    rw [if_pos hkv1] at h
    subst hkv1
    obtain ⟨v0, hev0, h⟩ := Option.bind_eq_some_iff.mp h
    obtain ⟨v1, hev1, h⟩ := Option.bind_eq_some_iff.mp h
    subst hev0
    subst hev1
    exact ⟨v0, v1, rfl, h⟩
  · cases h
def cs_Otf_countAllowed : List Nat := [8, 55, 58]
set_option maxRecDepth 100000 in
theorem E_Otf_countAllowed : ∀ (pc : Nat) (q : Ent), i_Otf_countAllowed pc = some q → ab_E KT CL ab_gW "StreamTransport$Outflow" "countAllowed" (some .int) prog_6_method_9_code s_Otf_countAllowed 5 pc q.1 q.2.1 q.2.2.1 q.2.2.2.1 q.2.2.2.2 := fun pc q hq =>
  ab_Eb_ok lc_Otf lj_Otf fl_Otf (fpn_Otf "countAllowed") nw_Otf na_Otf nq_Otf (ab_tab_all (t := t_Otf_countAllowed) (chk := fun pc q => ab_Eb (some .int) prog_6_method_9_code s_Otf_countAllowed 5 LC_Otf LJ_Otf FL_Otf FPn_Otf NW_Otf NA_Otf NQ_Otf pc q.1 q.2.1 q.2.2.1 q.2.2.2.1 q.2.2.2.2) (by decide +kernel) hq)
set_option maxRecDepth 100000 in
theorem kp_Otf_countAllowed {av : List AV} {m : Mm} {r : Int32 × Mm} (h : c_Otf_countAllowed av m = some r) : ab_kp m r.2 := by
  obtain ⟨v0, v1, -, h⟩ := c_Otf_countAllowed_inv h
  rw [r_Otf_countAllowed_eq] at h
  have hV : ∀ a av m m', eV_Otf_countAllowed a av m = some m' → ab_kp m m' := ab_ev_all (P := fun _ m r => ab_kp m r) [] (fun q hq => by cases hq)
  have hI : ∀ a av m q, eI_Otf_countAllowed a av m = some q → ab_kp m q.2 := ab_ev_all (P := fun _ (m : Mm) (r : Int32 × Mm) => ab_kp m r.2) [(2, c_Math_min), (1, c_Math_max)] (List.forall_mem_cons.mpr ⟨fun av m r h => kp_Math_min h, List.forall_mem_cons.mpr ⟨fun av m r h => kp_Math_max h, fun q hq => by cases hq⟩⟩)
  exact ab_kprel (ρ := .inl (some (.inl r.1), r.2)) (ab_tab_isn (t := t_Otf_countAllowed) (by decide +kernel)) hV hI (ab_rI_inv h)
set_option maxRecDepth 100000 in
theorem cl_Otf_countAllowed (l : Launch) : ∀ (pc : Nat) (q : Ent), i_Otf_countAllowed pc = some q → ab_inv q.1 = true → ab_CR l KT CL none ab_gW "StreamTransport$Outflow" prog_6_method_9_code 5 1 21 eV_Otf_countAllowed eI_Otf_countAllowed pc q := by
  intro pc q hq hi
  have hm : pc ∈ cs_Otf_countAllowed := ab_tab_cs (t := t_Otf_countAllowed) (by decide +kernel) hq hi
  simp only [cs_Otf_countAllowed, List.mem_cons, List.not_mem_nil, or_false] at hm
  rcases hm with rfl | rfl | rfl
  · cases (Option.some.inj hq : ((.invokestatic 92, 2, 2, 1, 0) : Ent) = q)
    exact ab_crS (by decide +kernel) cw_Math_min (ab_gW_in 557 (by decide +kernel) rfl) st_Math_min (by decide) (fun av m m' h => by cases h) (fun av m r h => cm_Math_min l h) KT_nd
  · cases (Option.some.inj hq : ((.invokestatic 92, 2, 2, 1, 0) : Ent) = q)
    exact ab_crS (by decide +kernel) cw_Math_min (ab_gW_in 557 (by decide +kernel) rfl) st_Math_min (by decide) (fun av m m' h => by cases h) (fun av m r h => cm_Math_min l h) KT_nd
  · cases (Option.some.inj hq : ((.invokestatic 24, 1, 2, 1, 0) : Ent) = q)
    exact ab_crS (by decide +kernel) cw_Math_max (ab_gW_in 558 (by decide +kernel) rfl) st_Math_max (by decide) (fun av m m' h => by cases h) (fun av m r h => cm_Math_max l h) KT_nd
theorem cw_Otf_countAllowed : ab_cw y_Otf_countAllowed prog_6_method_9_code 5 1 (some .int) := ⟨ab_gW_in 556 (by decide +kernel) rfl, ab_gW_in 69 (by decide +kernel) rfl, by decide +kernel, by decide +kernel, by decide +kernel⟩
theorem is_Otf_countAllowed : Cond.instanceMethod y_Otf_countAllowed ∈ ab_gW := ab_gW_in 555 (by decide +kernel) rfl
theorem sl_Otf_countAllowed : Cond.selects "StreamTransport$Outflow" y_Otf_countAllowed y_Otf_countAllowed ∈ ab_gW := ab_gW_in 7 (by decide +kernel) rfl
set_option maxRecDepth 100000 in
theorem cm_Otf_countAllowed (l : Launch) {av : List AV} {m : Mm} {r : Int32 × Mm} (h0 : c_Otf_countAllowed av m = some r) : ∃ (k q : Nat) (av' : List AV) (ci : Nat) (fs : List (Nat × Nat × Nat × Nat)) (z : vw_C), av = .inr (.inr (k, some q)) :: av' ∧ av'.length = 1 ∧ k ≠ 0 ∧ KT[k]? = some (.inl (ci, fs)) ∧ CL[ci]? = some z ∧ z.1 = "StreamTransport$Outflow" ∧ ab_nos av' ∧ ab_Met l KT CL y_Otf_countAllowed (Cond.code y_Otf_countAllowed prog_6_method_9_code 5 (some .int) :: ab_gW) 1 21 none av m (some (.inl r.1)) r.2 := by
  obtain ⟨v0, v1, hav, h⟩ := c_Otf_countAllowed_inv h0
  rw [r_Otf_countAllowed_eq] at h
  have hmo : ab_mo m r.2 := ab_kp_mo (kp_Otf_countAllowed h0)
  subst hav
  exact ⟨_, _, _, _, _, _, rfl, rfl, by decide, rfl, rfl, rfl, (by intro v hv q e; subst e; simp at hv), ab_met (by decide +kernel) KT_0 KT_nd KT_k3 E_Otf_countAllowed (cl_Otf_countAllowed l) hmo (Nat.le_of_ble_eq_true rfl) (ab_rI_inv h) (fun v hv => by cases hv; exact ⟨_, rfl⟩)⟩
/-! StreamTransport$Outflow.choosePart(ILStreamTransport$Sent;I)Z -/
def y_Otf_choosePart : MethodName := ⟨"StreamTransport$Outflow", "choosePart", "(ILStreamTransport$Sent;I)Z"⟩
def t_Otf_choosePart (pc : Nat) : Option Ent :=
  bif Nat.blt pc 99 then
    (bif Nat.blt pc 50 then
      (bif Nat.blt pc 23 then
        (bif Nat.blt pc 10 then
          (bif Nat.blt pc 5 then
            (bif Nat.blt pc 1 then
              (bif Nat.beq pc 0 then some (.aload_n 0, 0, 0, 0, 0) else none)
            else
              bif Nat.blt pc 4 then
                (bif Nat.beq pc 1 then some (.getfield 11, 4, 0, 1, 0) else none)
              else
                bif Nat.beq pc 4 then some (.iload_n 3, 3, 0, 0, 0) else none)
          else
            bif Nat.blt pc 6 then
              (bif Nat.beq pc 5 then some (.aaload, 0, 0, 0, 0) else none)
            else
              bif Nat.blt pc 8 then
                (bif Nat.beq pc 6 then some (.astore 4, 4, 0, 0, 0) else none)
              else
                bif Nat.beq pc 8 then some (.aload 4, 4, 0, 0, 0) else none)
        else
          bif Nat.blt pc 17 then
            (bif Nat.blt pc 13 then
              (bif Nat.beq pc 10 then some (.invokevirtual 82, 35, 1, 1, 0) else none)
            else
              bif Nat.blt pc 15 then
                (bif Nat.beq pc 13 then some (.istore 5, 5, 0, 0, 0) else none)
              else
                bif Nat.beq pc 15 then some (.iload 5, 5, 0, 0, 0) else none)
          else
            bif Nat.blt pc 18 then
              (bif Nat.beq pc 17 then some (.iconst (-1), 0, 0, 0, -1) else none)
            else
              bif Nat.blt pc 21 then
                (bif Nat.beq pc 18 then some (.if_icmp .ne (11), 29, 0, 0, 0) else none)
              else
                bif Nat.beq pc 21 then some (.aload 4, 4, 0, 0, 0) else none)
      else
        bif Nat.blt pc 36 then
          (bif Nat.blt pc 31 then
            (bif Nat.blt pc 26 then
              (bif Nat.beq pc 23 then some (.getfield 41, 5, 3, 0, 0) else none)
            else
              bif Nat.blt pc 29 then
                (bif Nat.beq pc 26 then some (.goto 5, 31, 0, 0, 0) else none)
              else
                bif Nat.beq pc 29 then some (.iload 5, 5, 0, 0, 0) else none)
          else
            bif Nat.blt pc 33 then
              (bif Nat.beq pc 31 then some (.istore 6, 6, 0, 0, 0) else none)
            else
              bif Nat.blt pc 35 then
                (bif Nat.beq pc 33 then some (.iload 5, 5, 0, 0, 0) else none)
              else
                bif Nat.beq pc 35 then some (.iconst (-1), 0, 0, 0, -1) else none)
        else
          bif Nat.blt pc 42 then
            (bif Nat.blt pc 39 then
              (bif Nat.beq pc 36 then some (.if_icmp .ne (12), 48, 0, 0, 0) else none)
            else
              bif Nat.blt pc 40 then
                (bif Nat.beq pc 39 then some (.aload_n 0, 0, 0, 0, 0) else none)
              else
                bif Nat.beq pc 40 then some (.aload 4, 4, 0, 0, 0) else none)
          else
            bif Nat.blt pc 45 then
              (bif Nat.beq pc 42 then some (.invokevirtual 85, 44, 2, 1, 0) else none)
            else
              bif Nat.blt pc 48 then
                (bif Nat.beq pc 45 then some (.goto 10, 55, 0, 0, 0) else none)
              else
                bif Nat.beq pc 48 then some (.aload 4, 4, 0, 0, 0) else none)
    else
      bif Nat.blt pc 70 then
        (bif Nat.blt pc 61 then
          (bif Nat.blt pc 57 then
            (bif Nat.blt pc 52 then
              (bif Nat.beq pc 50 then some (.iload 5, 5, 0, 0, 0) else none)
            else
              bif Nat.blt pc 55 then
                (bif Nat.beq pc 52 then some (.invokevirtual 89, 36, 2, 1, 0) else none)
              else
                bif Nat.beq pc 55 then some (.istore 7, 7, 0, 0, 0) else none)
          else
            bif Nat.blt pc 58 then
              (bif Nat.beq pc 57 then some (.iload_n 1, 1, 0, 0, 0) else none)
            else
              bif Nat.blt pc 59 then
                (bif Nat.beq pc 58 then some (.iconst 2, 0, 0, 0, 2) else none)
              else
                bif Nat.beq pc 59 then some (.iload 6, 6, 0, 0, 0) else none)
        else
          bif Nat.blt pc 66 then
            (bif Nat.blt pc 64 then
              (bif Nat.beq pc 61 then some (.invokestatic 44, 4, 1, 1, 0) else none)
            else
              bif Nat.blt pc 65 then
                (bif Nat.beq pc 64 then some (.iadd, 0, 0, 0, 0) else none)
              else
                bif Nat.beq pc 65 then some (.iconst 1, 0, 0, 0, 1) else none)
          else
            bif Nat.blt pc 67 then
              (bif Nat.beq pc 66 then some (.iadd, 0, 0, 0, 0) else none)
            else
              bif Nat.blt pc 68 then
                (bif Nat.beq pc 67 then some (.isub, 0, 0, 0, 0) else none)
              else
                bif Nat.beq pc 68 then some (.istore 8, 8, 0, 0, 0) else none)
      else
        bif Nat.blt pc 84 then
          (bif Nat.blt pc 77 then
            (bif Nat.blt pc 72 then
              (bif Nat.beq pc 70 then some (.iload 7, 7, 0, 0, 0) else none)
            else
              bif Nat.blt pc 74 then
                (bif Nat.beq pc 72 then some (.bipush 12, 0, 0, 0, 12) else none)
              else
                bif Nat.beq pc 74 then some (.invokestatic 92, 2, 2, 1, 0) else none)
          else
            bif Nat.blt pc 79 then
              (bif Nat.beq pc 77 then some (.iload 8, 8, 0, 0, 0) else none)
            else
              bif Nat.blt pc 82 then
                (bif Nat.beq pc 79 then some (.invokestatic 92, 2, 2, 1, 0) else none)
              else
                bif Nat.beq pc 82 then some (.istore 9, 9, 0, 0, 0) else none)
        else
          bif Nat.blt pc 91 then
            (bif Nat.blt pc 86 then
              (bif Nat.beq pc 84 then some (.iload 7, 7, 0, 0, 0) else none)
            else
              bif Nat.blt pc 89 then
                (bif Nat.beq pc 86 then some (.ifCond .ne (20), 106, 0, 0, 0) else none)
              else
                bif Nat.beq pc 89 then some (.iload 8, 8, 0, 0, 0) else none)
          else
            bif Nat.blt pc 94 then
              (bif Nat.beq pc 91 then some (.ifCond .lt (15), 106, 0, 0, 0) else none)
            else
              bif Nat.blt pc 96 then
                (bif Nat.beq pc 94 then some (.aload 4, 4, 0, 0, 0) else none)
              else
                bif Nat.beq pc 96 then some (.invokevirtual 95, 38, 1, 1, 0) else none)
  else
    bif Nat.blt pc 142 then
      (bif Nat.blt pc 122 then
        (bif Nat.blt pc 111 then
          (bif Nat.blt pc 106 then
            (bif Nat.blt pc 102 then
              (bif Nat.beq pc 99 then some (.ifCond .eq (7), 106, 0, 0, 0) else none)
            else
              bif Nat.blt pc 103 then
                (bif Nat.beq pc 102 then some (.iconst 1, 0, 0, 0, 1) else none)
              else
                bif Nat.beq pc 103 then some (.goto 4, 107, 0, 0, 0) else none)
          else
            bif Nat.blt pc 107 then
              (bif Nat.beq pc 106 then some (.iconst 0, 0, 0, 0, 0) else none)
            else
              bif Nat.blt pc 109 then
                (bif Nat.beq pc 107 then some (.istore 10, 10, 0, 0, 0) else none)
              else
                bif Nat.beq pc 109 then some (.iload 9, 9, 0, 0, 0) else none)
        else
          bif Nat.blt pc 117 then
            (bif Nat.blt pc 112 then
              (bif Nat.beq pc 111 then some (.iconst 1, 0, 0, 0, 1) else none)
            else
              bif Nat.blt pc 115 then
                (bif Nat.beq pc 112 then some (.if_icmp .ge (10), 122, 0, 0, 0) else none)
              else
                bif Nat.beq pc 115 then some (.iload 10, 10, 0, 0, 0) else none)
          else
            bif Nat.blt pc 120 then
              (bif Nat.beq pc 117 then some (.ifCond .ne (5), 122, 0, 0, 0) else none)
            else
              bif Nat.blt pc 121 then
                (bif Nat.beq pc 120 then some (.iconst 0, 0, 0, 0, 0) else none)
              else
                bif Nat.beq pc 121 then some (.ireturn, 0, 0, 1, 0) else none)
      else
        bif Nat.blt pc 131 then
          (bif Nat.blt pc 127 then
            (bif Nat.blt pc 123 then
              (bif Nat.beq pc 122 then some (.aload_n 2, 2, 0, 0, 0) else none)
            else
              bif Nat.blt pc 126 then
                (bif Nat.beq pc 123 then some (.getfield 98, 8, 4, 1, 0) else none)
              else
                bif Nat.beq pc 126 then some (.iload_n 3, 3, 0, 0, 0) else none)
          else
            bif Nat.blt pc 129 then
              (bif Nat.beq pc 127 then some (.iload 6, 6, 0, 0, 0) else none)
            else
              bif Nat.blt pc 130 then
                (bif Nat.beq pc 129 then some (.iastore, 0, 0, 0, 0) else none)
              else
                bif Nat.beq pc 130 then some (.aload_n 2, 2, 0, 0, 0) else none)
        else
          bif Nat.blt pc 137 then
            (bif Nat.blt pc 134 then
              (bif Nat.beq pc 131 then some (.getfield 102, 8, 5, 1, 0) else none)
            else
              bif Nat.blt pc 135 then
                (bif Nat.beq pc 134 then some (.iload_n 3, 3, 0, 0, 0) else none)
              else
                bif Nat.beq pc 135 then some (.iload 9, 9, 0, 0, 0) else none)
          else
            bif Nat.blt pc 138 then
              (bif Nat.beq pc 137 then some (.iastore, 0, 0, 0, 0) else none)
            else
              bif Nat.blt pc 139 then
                (bif Nat.beq pc 138 then some (.aload_n 2, 2, 0, 0, 0) else none)
              else
                bif Nat.beq pc 139 then some (.getfield 105, 8, 6, 1, 0) else none)
    else
      bif Nat.blt pc 168 then
        (bif Nat.blt pc 155 then
          (bif Nat.blt pc 148 then
            (bif Nat.blt pc 143 then
              (bif Nat.beq pc 142 then some (.iload_n 3, 3, 0, 0, 0) else none)
            else
              bif Nat.blt pc 145 then
                (bif Nat.beq pc 143 then some (.aload 4, 4, 0, 0, 0) else none)
              else
                bif Nat.beq pc 145 then some (.getfield 108, 5, 5, 0, 0) else none)
          else
            bif Nat.blt pc 151 then
              (bif Nat.beq pc 148 then some (.ifCond .eq (20), 168, 0, 0, 0) else none)
            else
              bif Nat.blt pc 153 then
                (bif Nat.beq pc 151 then some (.iload 6, 6, 0, 0, 0) else none)
              else
                bif Nat.beq pc 153 then some (.iload 9, 9, 0, 0, 0) else none)
        else
          bif Nat.blt pc 161 then
            (bif Nat.blt pc 156 then
              (bif Nat.beq pc 155 then some (.iadd, 0, 0, 0, 0) else none)
            else
              bif Nat.blt pc 158 then
                (bif Nat.beq pc 156 then some (.aload 4, 4, 0, 0, 0) else none)
              else
                bif Nat.beq pc 158 then some (.getfield 111, 5, 2, 0, 0) else none)
          else
            bif Nat.blt pc 164 then
              (bif Nat.beq pc 161 then some (.if_icmp .ne (7), 168, 0, 0, 0) else none)
            else
              bif Nat.blt pc 165 then
                (bif Nat.beq pc 164 then some (.iconst 1, 0, 0, 0, 1) else none)
              else
                bif Nat.beq pc 165 then some (.goto 4, 169, 0, 0, 0) else none)
      else
        bif Nat.blt pc 179 then
          (bif Nat.blt pc 172 then
            (bif Nat.blt pc 169 then
              (bif Nat.beq pc 168 then some (.iconst 0, 0, 0, 0, 0) else none)
            else
              bif Nat.blt pc 170 then
                (bif Nat.beq pc 169 then some (.bastore, 0, 0, 0, 0) else none)
              else
                bif Nat.beq pc 170 then some (.aload 4, 4, 0, 0, 0) else none)
          else
            bif Nat.blt pc 174 then
              (bif Nat.beq pc 172 then some (.aload 4, 4, 0, 0, 0) else none)
            else
              bif Nat.blt pc 177 then
                (bif Nat.beq pc 174 then some (.getfield 41, 5, 3, 0, 0) else none)
              else
                bif Nat.beq pc 177 then some (.iload 6, 6, 0, 0, 0) else none)
        else
          bif Nat.blt pc 185 then
            (bif Nat.blt pc 181 then
              (bif Nat.beq pc 179 then some (.iload 9, 9, 0, 0, 0) else none)
            else
              bif Nat.blt pc 182 then
                (bif Nat.beq pc 181 then some (.iadd, 0, 0, 0, 0) else none)
              else
                bif Nat.beq pc 182 then some (.invokestatic 24, 1, 2, 1, 0) else none)
          else
            bif Nat.blt pc 188 then
              (bif Nat.beq pc 185 then some (.putfield 41, 5, 3, 0, 0) else none)
            else
              bif Nat.blt pc 189 then
                (bif Nat.beq pc 188 then some (.iconst 1, 0, 0, 0, 1) else none)
              else
                bif Nat.beq pc 189 then some (.ireturn, 0, 0, 1, 0) else none
def i_Otf_choosePart : Nat → Option Ent := ab_tab 190 t_Otf_choosePart
def h_Otf_choosePart (pc : Nat) : Nat × List Bool := bif Nat.beq pc 31 then (1, [true, true, true, true, true, true, false, false, false, false, false]) else bif Nat.beq pc 55 then (1, [false, true, true, true, true, false, true, false, false, false, false]) else bif Nat.beq pc 106 then (1, [false, false, true, true, true, false, true, false, false, true, false]) else bif Nat.beq pc 107 then (1, [false, false, true, true, true, false, true, false, false, true, false]) else bif Nat.beq pc 122 then (1, [false, false, true, true, true, false, true, false, false, true, false]) else bif Nat.beq pc 168 then (1, [false, false, false, false, true, false, true, false, false, true, false]) else bif Nat.beq pc 169 then (1, [false, false, false, false, true, false, true, false, false, true, false]) else (0, [])
def s_Otf_choosePart (pc : Nat) : List (Int32 × Nat) × Nat := ([], 0)
noncomputable def eV_Otf_choosePart : Nat → List AV → Mm → Option Mm := ab_ev []
noncomputable def eI_Otf_choosePart : Nat → List AV → Mm → Option (Int32 × Mm) := ab_ev [(35, c_Out_firstLost), (44, c_Otf_countAllowed), (36, c_Out_countLostFrom), (4, c_X_sizeOf), (2, c_Math_min), (38, c_Out_owesEndAlone), (1, c_Math_max)]
noncomputable def b_Otf_choosePart_0 (f : Nat) (v0 : Nat) (v1 : Int32) (v2 : Nat) (v3 : Int32) (m : Mm) : Option Rs := ab_ex KT none s_Otf_choosePart eV_Otf_choosePart eI_Otf_choosePart i_Otf_choosePart h_Otf_choosePart f 0 [some (.inr (.inr (17, some v0))), some (.inl v1), some (.inr (.inr (22, some v2))), some (.inl v3), none, none, none, none, none, none, none] [] m
noncomputable def b_Otf_choosePart_31 (f : Nat) (v0 : Nat) (v1 : Int32) (v2 : Nat) (v3 : Int32) (v4 : Nat) (v5 : Int32) (u0 : Int32) (m : Mm) : Option Rs := ab_ex KT none s_Otf_choosePart eV_Otf_choosePart eI_Otf_choosePart i_Otf_choosePart h_Otf_choosePart f 31 [some (.inr (.inr (17, some v0))), some (.inl v1), some (.inr (.inr (22, some v2))), some (.inl v3), some (.inr (.inr (19, some v4))), some (.inl v5), none, none, none, none, none] [.inl u0] m
noncomputable def b_Otf_choosePart_55 (f : Nat) (v1 : Int32) (v2 : Nat) (v3 : Int32) (v4 : Nat) (v6 : Int32) (u0 : Int32) (m : Mm) : Option Rs := ab_ex KT none s_Otf_choosePart eV_Otf_choosePart eI_Otf_choosePart i_Otf_choosePart h_Otf_choosePart f 55 [none, some (.inl v1), some (.inr (.inr (22, some v2))), some (.inl v3), some (.inr (.inr (19, some v4))), none, some (.inl v6), none, none, none, none] [.inl u0] m
noncomputable def b_Otf_choosePart_106 (f : Nat) (v2 : Nat) (v3 : Int32) (v4 : Nat) (v6 : Int32) (v9 : Int32) (m : Mm) : Option Rs := ab_ex KT none s_Otf_choosePart eV_Otf_choosePart eI_Otf_choosePart i_Otf_choosePart h_Otf_choosePart f 106 [none, none, some (.inr (.inr (22, some v2))), some (.inl v3), some (.inr (.inr (19, some v4))), none, some (.inl v6), none, none, some (.inl v9), none] [] m
noncomputable def b_Otf_choosePart_107 (f : Nat) (v2 : Nat) (v3 : Int32) (v4 : Nat) (v6 : Int32) (v9 : Int32) (u0 : Int32) (m : Mm) : Option Rs := ab_ex KT none s_Otf_choosePart eV_Otf_choosePart eI_Otf_choosePart i_Otf_choosePart h_Otf_choosePart f 107 [none, none, some (.inr (.inr (22, some v2))), some (.inl v3), some (.inr (.inr (19, some v4))), none, some (.inl v6), none, none, some (.inl v9), none] [.inl u0] m
noncomputable def b_Otf_choosePart_122 (f : Nat) (v2 : Nat) (v3 : Int32) (v4 : Nat) (v6 : Int32) (v9 : Int32) (m : Mm) : Option Rs := ab_ex KT none s_Otf_choosePart eV_Otf_choosePart eI_Otf_choosePart i_Otf_choosePart h_Otf_choosePart f 122 [none, none, some (.inr (.inr (22, some v2))), some (.inl v3), some (.inr (.inr (19, some v4))), none, some (.inl v6), none, none, some (.inl v9), none] [] m
noncomputable def b_Otf_choosePart_168 (f : Nat) (v4 : Nat) (v6 : Int32) (v9 : Int32) (u0 : Nat) (u1 : Int32) (m : Mm) : Option Rs := ab_ex KT none s_Otf_choosePart eV_Otf_choosePart eI_Otf_choosePart i_Otf_choosePart h_Otf_choosePart f 168 [none, none, none, none, some (.inr (.inr (19, some v4))), none, some (.inl v6), none, none, some (.inl v9), none] [.inl u1, .inr (.inr (26, some u0))] m
noncomputable def b_Otf_choosePart_169 (f : Nat) (v4 : Nat) (v6 : Int32) (v9 : Int32) (u0 : Nat) (u1 : Int32) (u2 : Int32) (m : Mm) : Option Rs := ab_ex KT none s_Otf_choosePart eV_Otf_choosePart eI_Otf_choosePart i_Otf_choosePart h_Otf_choosePart f 169 [none, none, none, none, some (.inr (.inr (19, some v4))), none, some (.inl v6), none, none, some (.inl v9), none] [.inl u2, .inl u1, .inr (.inr (26, some u0))] m
set_option maxRecDepth 100000 in
set_option maxHeartbeats 4000000 in
theorem b_Otf_choosePart_0_eq (f : Nat) (v0 : Nat) (v1 : Int32) (v2 : Nat) (v3 : Int32) (m : Mm) : b_Otf_choosePart_0 (f + 1) v0 v1 v2 v3 m =
    (ab_ix v3 4).bind fun i1 =>
    (r_Out_firstLost ((v0 + 1) + 1 + 3 * i1) m).bind fun z2 =>
    if z2.1 = (-1 : Int32) then
      b_Otf_choosePart_31 f v0 v1 v2 v3 ((v0 + 1) + 1 + 3 * i1) z2.1 (z2.2.1 60 ((v0 + 1) + 1 + 3 * i1) 0) z2.2
    else
      b_Otf_choosePart_31 f v0 v1 v2 v3 ((v0 + 1) + 1 + 3 * i1) z2.1 z2.1 z2.2 := rfl
set_option maxRecDepth 100000 in
set_option maxHeartbeats 4000000 in
theorem b_Otf_choosePart_31_eq (f : Nat) (v0 : Nat) (v1 : Int32) (v2 : Nat) (v3 : Int32) (v4 : Nat) (v5 : Int32) (u0 : Int32) (m : Mm) : b_Otf_choosePart_31 (f + 1) v0 v1 v2 v3 v4 v5 u0 m =
    if v5 = (-1 : Int32) then
      (r_Otf_countAllowed v0 v4 m).bind fun z2 =>
      b_Otf_choosePart_55 f v1 v2 v3 v4 u0 z2.1 z2.2
    else
      (r_Out_countLostFrom v4 v5 m).bind fun z1 =>
      b_Otf_choosePart_55 f v1 v2 v3 v4 u0 z1.1 z1.2 := rfl
set_option maxRecDepth 100000 in
set_option maxHeartbeats 4000000 in
theorem b_Otf_choosePart_55_eq (f : Nat) (v1 : Int32) (v2 : Nat) (v3 : Int32) (v4 : Nat) (v6 : Int32) (u0 : Int32) (m : Mm) : b_Otf_choosePart_55 (f + 1) v1 v2 v3 v4 v6 u0 m =
    (r_X_sizeOf v6 m).bind fun z1 =>
    ab_let ((v1 - (((2 : Int32) + z1.1) + (1 : Int32)))) fun x2 =>
    (r_Math_min u0 (12 : Int32) z1.2).bind fun z3 =>
    (r_Math_min z3.1 x2 z3.2).bind fun z4 =>
    if u0 = 0 then
      if x2 < 0 then
        b_Otf_choosePart_106 f v2 v3 v4 v6 z4.1 z4.2
      else
        (r_Out_owesEndAlone v4 z4.2).bind fun z5 =>
        if z5.1 = 0 then
          b_Otf_choosePart_106 f v2 v3 v4 v6 z4.1 z5.2
        else
          b_Otf_choosePart_107 f v2 v3 v4 v6 z4.1 (1 : Int32) z5.2
    else
      b_Otf_choosePart_106 f v2 v3 v4 v6 z4.1 z4.2 := rfl
set_option maxRecDepth 100000 in
set_option maxHeartbeats 4000000 in
theorem b_Otf_choosePart_106_eq (f : Nat) (v2 : Nat) (v3 : Int32) (v4 : Nat) (v6 : Int32) (v9 : Int32) (m : Mm) : b_Otf_choosePart_106 (f + 1) v2 v3 v4 v6 v9 m =
    b_Otf_choosePart_107 f v2 v3 v4 v6 v9 (0 : Int32) m := rfl
set_option maxRecDepth 100000 in
set_option maxHeartbeats 4000000 in
theorem b_Otf_choosePart_107_eq (f : Nat) (v2 : Nat) (v3 : Int32) (v4 : Nat) (v6 : Int32) (v9 : Int32) (u0 : Int32) (m : Mm) : b_Otf_choosePart_107 (f + 1) v2 v3 v4 v6 v9 u0 m =
    if (1 : Int32) ≤ v9 then
      b_Otf_choosePart_122 f v2 v3 v4 v6 v9 m
    else
      if u0 = 0 then
        (ab_bo (0 : Int32)).bind fun y1 => some (.inl (some (.inl y1), m))
      else
        b_Otf_choosePart_122 f v2 v3 v4 v6 v9 m := rfl
set_option maxRecDepth 100000 in
set_option maxHeartbeats 4000000 in
theorem b_Otf_choosePart_122_eq (f : Nat) (v2 : Nat) (v3 : Int32) (v4 : Nat) (v6 : Int32) (v9 : Int32) (m : Mm) : b_Otf_choosePart_122 (f + 1) v2 v3 v4 v6 v9 m =
    (ab_ix v3 4).bind fun i1 =>
    ab_let (ab_uI m 77 (v2 + 2) i1 v6) fun m2 =>
    (ab_ix v3 4).bind fun i3 =>
    ab_let (ab_uI m2 78 (v2 + 3) i3 v9) fun m4 =>
    if (m4.1 62 v4 0) = 0 then
      b_Otf_choosePart_168 f v4 v6 v9 (v2 + 4) v3 m4
    else
      if (v6 + v9) = (m4.1 59 v4 0) then
        b_Otf_choosePart_169 f v4 v6 v9 (v2 + 4) v3 (1 : Int32) m4
      else
        b_Otf_choosePart_168 f v4 v6 v9 (v2 + 4) v3 m4 := rfl
set_option maxRecDepth 100000 in
set_option maxHeartbeats 4000000 in
theorem b_Otf_choosePart_168_eq (f : Nat) (v4 : Nat) (v6 : Int32) (v9 : Int32) (u0 : Nat) (u1 : Int32) (m : Mm) : b_Otf_choosePart_168 (f + 1) v4 v6 v9 u0 u1 m =
    b_Otf_choosePart_169 f v4 v6 v9 u0 u1 (0 : Int32) m := rfl
set_option maxRecDepth 100000 in
set_option maxHeartbeats 4000000 in
theorem b_Otf_choosePart_169_eq (f : Nat) (v4 : Nat) (v6 : Int32) (v9 : Int32) (u0 : Nat) (u1 : Int32) (u2 : Int32) (m : Mm) : b_Otf_choosePart_169 (f + 1) v4 v6 v9 u0 u1 u2 m =
    (ab_ix u1 4).bind fun i1 =>
    (ab_bo u2).bind fun y3 =>
    ab_let (ab_uI m 79 u0 i1 y3) fun m2 =>
    (r_Math_max (m2.1 60 v4 0) (v6 + v9) m2).bind fun z4 =>
    ab_let (ab_uI z4.2 60 v4 0 z4.1) fun m5 =>
    (ab_bo (1 : Int32)).bind fun y6 => some (.inl (some (.inl y6), m5)) := rfl
noncomputable def r_Otf_choosePart : Nat → Int32 → Nat → Int32 → Mm → Option (Int32 × Mm) := ab_seal fun v0 v1 v2 v3 m => ab_rI (b_Otf_choosePart_0 50000 v0 v1 v2 v3 m)
theorem r_Otf_choosePart_eq (v0 : Nat) (v1 : Int32) (v2 : Nat) (v3 : Int32) (m : Mm) : r_Otf_choosePart v0 v1 v2 v3 m = ab_rI (b_Otf_choosePart_0 50000 v0 v1 v2 v3 m) := by
  unfold r_Otf_choosePart
  rw [ab_seal_eq]
noncomputable def c_Otf_choosePart : List AV → Mm → Option (Int32 × Mm) := fun av m => match av with
  | [.inr (.inr (kv0, ov0)), .inl v1, .inr (.inr (kv2, ov2)), .inl v3] => if kv0 = 17 then (if kv2 = 22 then (ov0.bind fun v0 => ov2.bind fun v2 => r_Otf_choosePart v0 v1 v2 v3 m) else none) else none
  | _ => none
theorem c_Otf_choosePart_inv {av : List AV} {m : Mm} {r : Int32 × Mm} (h : c_Otf_choosePart av m = some r) : ∃ (v0 : Nat) (v1 : Int32) (v2 : Nat) (v3 : Int32), av = [.inr (.inr (17, some v0)), .inl v1, .inr (.inr (22, some v2)), .inl v3] ∧ r_Otf_choosePart v0 v1 v2 v3 m = some r := by
  unfold c_Otf_choosePart at h
  split at h
  · rename_i kv0 ov0 v1 kv2 ov2 v3
    by_cases hkv0 : kv0 = 17
    case neg => rw [if_neg hkv0] at h; cases h
    rw [if_pos hkv0] at h
    subst hkv0
    by_cases hkv2 : kv2 = 22
    case neg => rw [if_neg hkv2] at h; cases h
    rw [if_pos hkv2] at h
    subst hkv2
    obtain ⟨v0, hev0, h⟩ := Option.bind_eq_some_iff.mp h
    obtain ⟨v2, hev2, h⟩ := Option.bind_eq_some_iff.mp h
    subst hev0
    subst hev2
    exact ⟨v0, v1, v2, v3, rfl, h⟩
  · cases h
def cs_Otf_choosePart : List Nat := [10, 42, 52, 61, 74, 79, 96, 182]
set_option maxRecDepth 100000 in
theorem E_Otf_choosePart : ∀ (pc : Nat) (q : Ent), i_Otf_choosePart pc = some q → ab_E KT CL ab_gW "StreamTransport$Outflow" "choosePart" (some .boolean) prog_6_method_7_code s_Otf_choosePart 11 pc q.1 q.2.1 q.2.2.1 q.2.2.2.1 q.2.2.2.2 := fun pc q hq =>
  ab_Eb_ok lc_Otf lj_Otf fl_Otf (fpn_Otf "choosePart") nw_Otf na_Otf nq_Otf (ab_tab_all (t := t_Otf_choosePart) (chk := fun pc q => ab_Eb (some .boolean) prog_6_method_7_code s_Otf_choosePart 11 LC_Otf LJ_Otf FL_Otf FPn_Otf NW_Otf NA_Otf NQ_Otf pc q.1 q.2.1 q.2.2.1 q.2.2.2.1 q.2.2.2.2) (by decide +kernel) hq)
set_option maxRecDepth 100000 in
theorem kp_Otf_choosePart {av : List AV} {m : Mm} {r : Int32 × Mm} (h : c_Otf_choosePart av m = some r) : ab_kp m r.2 := by
  obtain ⟨v0, v1, v2, v3, -, h⟩ := c_Otf_choosePart_inv h
  rw [r_Otf_choosePart_eq] at h
  have hV : ∀ a av m m', eV_Otf_choosePart a av m = some m' → ab_kp m m' := ab_ev_all (P := fun _ m r => ab_kp m r) [] (fun q hq => by cases hq)
  have hI : ∀ a av m q, eI_Otf_choosePart a av m = some q → ab_kp m q.2 := ab_ev_all (P := fun _ (m : Mm) (r : Int32 × Mm) => ab_kp m r.2) [(35, c_Out_firstLost), (44, c_Otf_countAllowed), (36, c_Out_countLostFrom), (4, c_X_sizeOf), (2, c_Math_min), (38, c_Out_owesEndAlone), (1, c_Math_max)] (List.forall_mem_cons.mpr ⟨fun av m r h => kp_Out_firstLost h, List.forall_mem_cons.mpr ⟨fun av m r h => kp_Otf_countAllowed h, List.forall_mem_cons.mpr ⟨fun av m r h => kp_Out_countLostFrom h, List.forall_mem_cons.mpr ⟨fun av m r h => kp_X_sizeOf h, List.forall_mem_cons.mpr ⟨fun av m r h => kp_Math_min h, List.forall_mem_cons.mpr ⟨fun av m r h => kp_Out_owesEndAlone h, List.forall_mem_cons.mpr ⟨fun av m r h => kp_Math_max h, fun q hq => by cases hq⟩⟩⟩⟩⟩⟩⟩)
  exact ab_kprel (ρ := .inl (some (.inl r.1), r.2)) (ab_tab_isn (t := t_Otf_choosePart) (by decide +kernel)) hV hI (ab_rI_inv h)
set_option maxRecDepth 100000 in
theorem cl_Otf_choosePart (l : Launch) : ∀ (pc : Nat) (q : Ent), i_Otf_choosePart pc = some q → ab_inv q.1 = true → ab_CR l KT CL none ab_gW "StreamTransport$Outflow" prog_6_method_7_code 11 2 45 eV_Otf_choosePart eI_Otf_choosePart pc q := by
  intro pc q hq hi
  have hm : pc ∈ cs_Otf_choosePart := ab_tab_cs (t := t_Otf_choosePart) (by decide +kernel) hq hi
  simp only [cs_Otf_choosePart, List.mem_cons, List.not_mem_nil, or_false] at hm
  rcases hm with rfl | rfl | rfl | rfl | rfl | rfl | rfl | rfl
  · cases (Option.some.inj hq : ((.invokevirtual 82, 35, 1, 1, 0) : Ent) = q)
    exact ab_crV (C := "StreamTransport$Outgoing") (by decide +kernel) cw_Out_firstLost (ab_gW_in 549 (by decide +kernel) rfl) is_Out_firstLost sl_Out_firstLost (by decide) (fun av m m' h => by cases h) (fun av m r h => cm_Out_firstLost l h) KT_nd
  · cases (Option.some.inj hq : ((.invokevirtual 85, 44, 2, 1, 0) : Ent) = q)
    exact ab_crV (C := "StreamTransport$Outflow") (by decide +kernel) cw_Otf_countAllowed (ab_gW_in 553 (by decide +kernel) rfl) is_Otf_countAllowed sl_Otf_countAllowed (by decide) (fun av m m' h => by cases h) (fun av m r h => cm_Otf_countAllowed l h) KT_nd
  · cases (Option.some.inj hq : ((.invokevirtual 89, 36, 2, 1, 0) : Ent) = q)
    exact ab_crV (C := "StreamTransport$Outgoing") (by decide +kernel) cw_Out_countLostFrom (ab_gW_in 561 (by decide +kernel) rfl) is_Out_countLostFrom sl_Out_countLostFrom (by decide) (fun av m m' h => by cases h) (fun av m r h => cm_Out_countLostFrom l h) KT_nd
  · cases (Option.some.inj hq : ((.invokestatic 44, 4, 1, 1, 0) : Ent) = q)
    exact ab_crSN (by decide +kernel) cw_X_sizeOf (by decide +kernel) st_X_sizeOf (by decide) (fun av m m' h => by cases h) (fun av m r h => cm_X_sizeOf l h) KT_nd
  · cases (Option.some.inj hq : ((.invokestatic 92, 2, 2, 1, 0) : Ent) = q)
    exact ab_crS (by decide +kernel) cw_Math_min (ab_gW_in 557 (by decide +kernel) rfl) st_Math_min (by decide) (fun av m m' h => by cases h) (fun av m r h => cm_Math_min l h) KT_nd
  · cases (Option.some.inj hq : ((.invokestatic 92, 2, 2, 1, 0) : Ent) = q)
    exact ab_crS (by decide +kernel) cw_Math_min (ab_gW_in 557 (by decide +kernel) rfl) st_Math_min (by decide) (fun av m m' h => by cases h) (fun av m r h => cm_Math_min l h) KT_nd
  · cases (Option.some.inj hq : ((.invokevirtual 95, 38, 1, 1, 0) : Ent) = q)
    exact ab_crV (C := "StreamTransport$Outgoing") (by decide +kernel) cw_Out_owesEndAlone (ab_gW_in 565 (by decide +kernel) rfl) is_Out_owesEndAlone sl_Out_owesEndAlone (by decide) (fun av m m' h => by cases h) (fun av m r h => cm_Out_owesEndAlone l h) KT_nd
  · cases (Option.some.inj hq : ((.invokestatic 24, 1, 2, 1, 0) : Ent) = q)
    exact ab_crS (by decide +kernel) cw_Math_max (ab_gW_in 558 (by decide +kernel) rfl) st_Math_max (by decide) (fun av m m' h => by cases h) (fun av m r h => cm_Math_max l h) KT_nd
theorem cw_Otf_choosePart : ab_cw y_Otf_choosePart prog_6_method_7_code 11 3 (some .boolean) := ⟨ab_gW_in 548 (by decide +kernel) rfl, ab_gW_in 69 (by decide +kernel) rfl, by decide +kernel, by decide +kernel, by decide +kernel⟩
theorem is_Otf_choosePart : Cond.instanceMethod y_Otf_choosePart ∈ ab_gW := ab_gW_in 547 (by decide +kernel) rfl
theorem sl_Otf_choosePart : Cond.selects "StreamTransport$Outflow" y_Otf_choosePart y_Otf_choosePart ∈ ab_gW := ab_gW_in 6 (by decide +kernel) rfl
set_option maxRecDepth 100000 in
theorem cm_Otf_choosePart (l : Launch) {av : List AV} {m : Mm} {r : Int32 × Mm} (h0 : c_Otf_choosePart av m = some r) : ∃ (k q : Nat) (av' : List AV) (ci : Nat) (fs : List (Nat × Nat × Nat × Nat)) (z : vw_C), av = .inr (.inr (k, some q)) :: av' ∧ av'.length = 3 ∧ k ≠ 0 ∧ KT[k]? = some (.inl (ci, fs)) ∧ CL[ci]? = some z ∧ z.1 = "StreamTransport$Outflow" ∧ ab_nos av' ∧ ab_Met l KT CL y_Otf_choosePart (Cond.code y_Otf_choosePart prog_6_method_7_code 11 (some .boolean) :: ab_gW) 2 45 none av m (some (.inl r.1)) r.2 := by
  obtain ⟨v0, v1, v2, v3, hav, h⟩ := c_Otf_choosePart_inv h0
  rw [r_Otf_choosePart_eq] at h
  have hmo : ab_mo m r.2 := ab_kp_mo (kp_Otf_choosePart h0)
  subst hav
  exact ⟨_, _, _, _, _, _, rfl, rfl, by decide, rfl, rfl, rfl, (by intro v hv q e; subst e; simp at hv), ab_met (by decide +kernel) KT_0 KT_nd KT_k3 E_Otf_choosePart (cl_Otf_choosePart l) hmo (Nat.le_of_ble_eq_true rfl) (ab_rI_inv h) (fun v hv => by cases hv; exact ⟨_, rfl⟩)⟩
/-! StreamTransport$Outflow.putPart(LStreamTransport$Row;LStreamTransport$Sent;I)V -/
def y_Otf_putPart : MethodName := ⟨"StreamTransport$Outflow", "putPart", "(LStreamTransport$Row;LStreamTransport$Sent;I)V"⟩
def t_Otf_putPart (pc : Nat) : Option Ent :=
  bif Nat.blt pc 43 then
    (bif Nat.blt pc 21 then
      (bif Nat.blt pc 9 then
        (bif Nat.blt pc 5 then
          (bif Nat.blt pc 1 then
            (bif Nat.beq pc 0 then some (.aload_n 2, 2, 0, 0, 0) else none)
          else
            bif Nat.blt pc 4 then
              (bif Nat.beq pc 1 then some (.getfield 98, 8, 4, 1, 0) else none)
            else
              bif Nat.beq pc 4 then some (.iload_n 3, 3, 0, 0, 0) else none)
        else
          bif Nat.blt pc 6 then
            (bif Nat.beq pc 5 then some (.iaload, 0, 0, 0, 0) else none)
          else
            bif Nat.blt pc 8 then
              (bif Nat.beq pc 6 then some (.istore 4, 4, 0, 0, 0) else none)
            else
              bif Nat.beq pc 8 then some (.aload_n 2, 2, 0, 0, 0) else none)
      else
        bif Nat.blt pc 14 then
          (bif Nat.blt pc 12 then
            (bif Nat.beq pc 9 then some (.getfield 102, 8, 5, 1, 0) else none)
          else
            bif Nat.blt pc 13 then
              (bif Nat.beq pc 12 then some (.iload_n 3, 3, 0, 0, 0) else none)
            else
              bif Nat.beq pc 13 then some (.iaload, 0, 0, 0, 0) else none)
        else
          bif Nat.blt pc 17 then
            (bif Nat.blt pc 16 then
              (bif Nat.beq pc 14 then some (.istore 5, 5, 0, 0, 0) else none)
            else
              bif Nat.beq pc 16 then some (.aload_n 1, 1, 0, 0, 0) else none)
          else
            bif Nat.blt pc 18 then
              (bif Nat.beq pc 17 then some (.iconst 2, 0, 0, 0, 2) else none)
            else
              bif Nat.beq pc 18 then some (.invokevirtual 54, 8, 2, 0, 0) else none)
    else
      bif Nat.blt pc 33 then
        (bif Nat.blt pc 26 then
          (bif Nat.blt pc 22 then
            (bif Nat.beq pc 21 then some (.aload_n 1, 1, 0, 0, 0) else none)
          else
            bif Nat.blt pc 23 then
              (bif Nat.beq pc 22 then some (.iload_n 3, 3, 0, 0, 0) else none)
            else
              bif Nat.beq pc 23 then some (.invokevirtual 57, 10, 2, 0, 0) else none)
        else
          bif Nat.blt pc 29 then
            (bif Nat.blt pc 27 then
              (bif Nat.beq pc 26 then some (.aload_n 1, 1, 0, 0, 0) else none)
            else
              bif Nat.beq pc 27 then some (.iload 4, 4, 0, 0, 0) else none)
          else
            bif Nat.blt pc 32 then
              (bif Nat.beq pc 29 then some (.invokevirtual 57, 10, 2, 0, 0) else none)
            else
              bif Nat.beq pc 32 then some (.aload_n 1, 1, 0, 0, 0) else none)
      else
        bif Nat.blt pc 37 then
          (bif Nat.blt pc 34 then
            (bif Nat.beq pc 33 then some (.iconst 2, 0, 0, 0, 2) else none)
          else
            bif Nat.blt pc 36 then
              (bif Nat.beq pc 34 then some (.iload 5, 5, 0, 0, 0) else none)
            else
              bif Nat.beq pc 36 then some (.imul, 0, 0, 0, 0) else none)
        else
          bif Nat.blt pc 41 then
            (bif Nat.blt pc 38 then
              (bif Nat.beq pc 37 then some (.aload_n 2, 2, 0, 0, 0) else none)
            else
              bif Nat.beq pc 38 then some (.getfield 105, 8, 6, 1, 0) else none)
          else
            bif Nat.blt pc 42 then
              (bif Nat.beq pc 41 then some (.iload_n 3, 3, 0, 0, 0) else none)
            else
              bif Nat.beq pc 42 then some (.baload, 0, 0, 0, 0) else none)
  else
    bif Nat.blt pc 71 then
      (bif Nat.blt pc 57 then
        (bif Nat.blt pc 50 then
          (bif Nat.blt pc 46 then
            (bif Nat.beq pc 43 then some (.ifCond .eq (7), 50, 0, 0, 0) else none)
          else
            bif Nat.blt pc 47 then
              (bif Nat.beq pc 46 then some (.iconst 1, 0, 0, 0, 1) else none)
            else
              bif Nat.beq pc 47 then some (.goto 4, 51, 0, 0, 0) else none)
        else
          bif Nat.blt pc 52 then
            (bif Nat.blt pc 51 then
              (bif Nat.beq pc 50 then some (.iconst 0, 0, 0, 0, 0) else none)
            else
              bif Nat.beq pc 51 then some (.iadd, 0, 0, 0, 0) else none)
          else
            bif Nat.blt pc 55 then
              (bif Nat.beq pc 52 then some (.invokevirtual 57, 10, 2, 0, 0) else none)
            else
              bif Nat.beq pc 55 then some (.iload 4, 4, 0, 0, 0) else none)
      else
        bif Nat.blt pc 63 then
          (bif Nat.blt pc 59 then
            (bif Nat.beq pc 57 then some (.istore 6, 6, 0, 0, 0) else none)
          else
            bif Nat.blt pc 61 then
              (bif Nat.beq pc 59 then some (.iload 6, 6, 0, 0, 0) else none)
            else
              bif Nat.beq pc 61 then some (.iload 4, 4, 0, 0, 0) else none)
        else
          bif Nat.blt pc 66 then
            (bif Nat.blt pc 65 then
              (bif Nat.beq pc 63 then some (.iload 5, 5, 0, 0, 0) else none)
            else
              bif Nat.beq pc 65 then some (.iadd, 0, 0, 0, 0) else none)
          else
            bif Nat.blt pc 69 then
              (bif Nat.beq pc 66 then some (.if_icmp .ge (32), 98, 0, 0, 0) else none)
            else
              bif Nat.beq pc 69 then some (.iload 6, 6, 0, 0, 0) else none)
    else
      bif Nat.blt pc 83 then
        (bif Nat.blt pc 77 then
          (bif Nat.blt pc 73 then
            (bif Nat.beq pc 71 then some (.bipush 64, 0, 0, 0, 64) else none)
          else
            bif Nat.blt pc 76 then
              (bif Nat.beq pc 73 then some (.if_icmp .ge (25), 98, 0, 0, 0) else none)
            else
              bif Nat.beq pc 76 then some (.aload_n 1, 1, 0, 0, 0) else none)
        else
          bif Nat.blt pc 81 then
            (bif Nat.blt pc 78 then
              (bif Nat.beq pc 77 then some (.aload_n 0, 0, 0, 0, 0) else none)
            else
              bif Nat.beq pc 78 then some (.getfield 11, 4, 0, 1, 0) else none)
          else
            bif Nat.blt pc 82 then
              (bif Nat.beq pc 81 then some (.iload_n 3, 3, 0, 0, 0) else none)
            else
              bif Nat.beq pc 82 then some (.aaload, 0, 0, 0, 0) else none)
      else
        bif Nat.blt pc 89 then
          (bif Nat.blt pc 86 then
            (bif Nat.beq pc 83 then some (.getfield 114, 5, 0, 1, 0) else none)
          else
            bif Nat.blt pc 88 then
              (bif Nat.beq pc 86 then some (.iload 6, 6, 0, 0, 0) else none)
            else
              bif Nat.beq pc 88 then some (.iaload, 0, 0, 0, 0) else none)
        else
          bif Nat.blt pc 95 then
            (bif Nat.blt pc 92 then
              (bif Nat.beq pc 89 then some (.invokevirtual 54, 8, 2, 0, 0) else none)
            else
              bif Nat.beq pc 92 then some (.iinc 6 1, 6, 0, 0, 1) else none)
          else
            bif Nat.blt pc 98 then
              (bif Nat.beq pc 95 then some (.goto (-36), 59, 0, 0, 0) else none)
            else
              bif Nat.beq pc 98 then some (.return_, 0, 0, 0, 0) else none
def i_Otf_putPart : Nat → Option Ent := ab_tab 99 t_Otf_putPart
def h_Otf_putPart (pc : Nat) : Nat × List Bool := bif Nat.beq pc 51 then (1, [true, true, false, true, true, true, false]) else bif Nat.beq pc 59 then (1, [true, true, false, true, true, true, true]) else (0, [])
def s_Otf_putPart (pc : Nat) : List (Int32 × Nat) × Nat := ([], 0)
noncomputable def eV_Otf_putPart : Nat → List AV → Mm → Option Mm := ab_ev [(8, c_Row_put), (10, c_Row_putNumber)]
noncomputable def eI_Otf_putPart : Nat → List AV → Mm → Option (Int32 × Mm) := ab_ev []
noncomputable def b_Otf_putPart_0 (f : Nat) (v0 : Nat) (v1 : Nat) (v2 : Nat) (v3 : Int32) (m : Mm) : Option Rs := ab_ex KT none s_Otf_putPart eV_Otf_putPart eI_Otf_putPart i_Otf_putPart h_Otf_putPart f 0 [some (.inr (.inr (17, some v0))), some (.inr (.inr (4, some v1))), some (.inr (.inr (22, some v2))), some (.inl v3), none, none, none] [] m
noncomputable def b_Otf_putPart_51 (f : Nat) (v0 : Nat) (v1 : Nat) (v3 : Int32) (v4 : Int32) (v5 : Int32) (u0 : Nat) (u1 : Int32) (u2 : Int32) (m : Mm) : Option Rs := ab_ex KT none s_Otf_putPart eV_Otf_putPart eI_Otf_putPart i_Otf_putPart h_Otf_putPart f 51 [some (.inr (.inr (17, some v0))), some (.inr (.inr (4, some v1))), none, some (.inl v3), some (.inl v4), some (.inl v5), none] [.inl u2, .inl u1, .inr (.inr (4, some u0))] m
noncomputable def b_Otf_putPart_59 (f : Nat) (v0 : Nat) (v1 : Nat) (v3 : Int32) (v4 : Int32) (v5 : Int32) (v6 : Int32) (m : Mm) : Option Rs := ab_ex KT none s_Otf_putPart eV_Otf_putPart eI_Otf_putPart i_Otf_putPart h_Otf_putPart f 59 [some (.inr (.inr (17, some v0))), some (.inr (.inr (4, some v1))), none, some (.inl v3), some (.inl v4), some (.inl v5), some (.inl v6)] [] m
set_option maxRecDepth 100000 in
set_option maxHeartbeats 4000000 in
theorem b_Otf_putPart_0_eq (f : Nat) (v0 : Nat) (v1 : Nat) (v2 : Nat) (v3 : Int32) (m : Mm) : b_Otf_putPart_0 (f + 1) v0 v1 v2 v3 m =
    (ab_ix v3 4).bind fun i1 =>
    ab_let ((m.1 77 (v2 + 2) i1)) fun x2 =>
    (ab_ix v3 4).bind fun i3 =>
    ab_let ((m.1 78 (v2 + 3) i3)) fun x4 =>
    (r_Row_put v1 (2 : Int32) m).bind fun m5 =>
    (r_Row_putNumber v1 v3 m5).bind fun m6 =>
    (r_Row_putNumber v1 x2 m6).bind fun m7 =>
    (ab_ix v3 4).bind fun i8 =>
    if (m7.1 79 (v2 + 4) i8) = 0 then
      b_Otf_putPart_51 f v0 v1 v3 x2 x4 v1 ((2 : Int32) * x4) (0 : Int32) m7
    else
      b_Otf_putPart_51 f v0 v1 v3 x2 x4 v1 ((2 : Int32) * x4) (1 : Int32) m7 := rfl
set_option maxRecDepth 100000 in
set_option maxHeartbeats 4000000 in
theorem b_Otf_putPart_51_eq (f : Nat) (v0 : Nat) (v1 : Nat) (v3 : Int32) (v4 : Int32) (v5 : Int32) (u0 : Nat) (u1 : Int32) (u2 : Int32) (m : Mm) : b_Otf_putPart_51 (f + 1) v0 v1 v3 v4 v5 u0 u1 u2 m =
    (r_Row_putNumber u0 (u1 + u2) m).bind fun m1 =>
    b_Otf_putPart_59 f v0 v1 v3 v4 v5 v4 m1 := rfl
set_option maxRecDepth 100000 in
set_option maxHeartbeats 4000000 in
theorem b_Otf_putPart_59_eq (f : Nat) (v0 : Nat) (v1 : Nat) (v3 : Int32) (v4 : Int32) (v5 : Int32) (v6 : Int32) (m : Mm) : b_Otf_putPart_59 (f + 1) v0 v1 v3 v4 v5 v6 m =
    if (v4 + v5) ≤ v6 then
      some (.inl (none, m))
    else
      if (64 : Int32) ≤ v6 then
        some (.inl (none, m))
      else
        (ab_ix v3 4).bind fun i1 =>
        (ab_ix v6 64).bind fun i2 =>
        (r_Row_put v1 (m.1 66 (((v0 + 1) + 1 + 3 * i1) + 1) i2) m).bind fun m3 =>
        ab_let (v6 + (1 : Int32)) fun x4 =>
        b_Otf_putPart_59 f v0 v1 v3 v4 v5 x4 m3 := rfl
noncomputable def r_Otf_putPart : Nat → Nat → Nat → Int32 → Mm → Option Mm := ab_seal fun v0 v1 v2 v3 m => ab_rV (b_Otf_putPart_0 50000 v0 v1 v2 v3 m)
theorem r_Otf_putPart_eq (v0 : Nat) (v1 : Nat) (v2 : Nat) (v3 : Int32) (m : Mm) : r_Otf_putPart v0 v1 v2 v3 m = ab_rV (b_Otf_putPart_0 50000 v0 v1 v2 v3 m) := by
  unfold r_Otf_putPart
  rw [ab_seal_eq]
noncomputable def c_Otf_putPart : List AV → Mm → Option Mm := fun av m => match av with
  | [.inr (.inr (kv0, ov0)), .inr (.inr (kv1, ov1)), .inr (.inr (kv2, ov2)), .inl v3] => if kv0 = 17 then (if kv1 = 4 then (if kv2 = 22 then (ov0.bind fun v0 => ov1.bind fun v1 => ov2.bind fun v2 => r_Otf_putPart v0 v1 v2 v3 m) else none) else none) else none
  | _ => none
theorem c_Otf_putPart_inv {av : List AV} {m : Mm} {r : Mm} (h : c_Otf_putPart av m = some r) : ∃ (v0 : Nat) (v1 : Nat) (v2 : Nat) (v3 : Int32), av = [.inr (.inr (17, some v0)), .inr (.inr (4, some v1)), .inr (.inr (22, some v2)), .inl v3] ∧ r_Otf_putPart v0 v1 v2 v3 m = some r := by
  unfold c_Otf_putPart at h
  split at h
  · rename_i kv0 ov0 kv1 ov1 kv2 ov2 v3
    by_cases hkv0 : kv0 = 17
    case neg => rw [if_neg hkv0] at h; cases h
    rw [if_pos hkv0] at h
    subst hkv0
    by_cases hkv1 : kv1 = 4
    case neg => rw [if_neg hkv1] at h; cases h
    rw [if_pos hkv1] at h
    subst hkv1
    by_cases hkv2 : kv2 = 22
    case neg => rw [if_neg hkv2] at h; cases h
    rw [if_pos hkv2] at h
    subst hkv2
    obtain ⟨v0, hev0, h⟩ := Option.bind_eq_some_iff.mp h
    obtain ⟨v1, hev1, h⟩ := Option.bind_eq_some_iff.mp h
    obtain ⟨v2, hev2, h⟩ := Option.bind_eq_some_iff.mp h
    subst hev0
    subst hev1
    subst hev2
    exact ⟨v0, v1, v2, v3, rfl, h⟩
  · cases h
def cs_Otf_putPart : List Nat := [18, 23, 29, 52, 89]
set_option maxRecDepth 100000 in
theorem E_Otf_putPart : ∀ (pc : Nat) (q : Ent), i_Otf_putPart pc = some q → ab_E KT CL ab_gW "StreamTransport$Outflow" "putPart" none prog_6_method_8_code s_Otf_putPart 7 pc q.1 q.2.1 q.2.2.1 q.2.2.2.1 q.2.2.2.2 := fun pc q hq =>
  ab_Eb_ok lc_Otf lj_Otf fl_Otf (fpn_Otf "putPart") nw_Otf na_Otf nq_Otf (ab_tab_all (t := t_Otf_putPart) (chk := fun pc q => ab_Eb none prog_6_method_8_code s_Otf_putPart 7 LC_Otf LJ_Otf FL_Otf FPn_Otf NW_Otf NA_Otf NQ_Otf pc q.1 q.2.1 q.2.2.1 q.2.2.2.1 q.2.2.2.2) (by decide +kernel) hq)
set_option maxRecDepth 100000 in
theorem kp_Otf_putPart {av : List AV} {m : Mm} {r : Mm} (h : c_Otf_putPart av m = some r) : ab_kp m r := by
  obtain ⟨v0, v1, v2, v3, -, h⟩ := c_Otf_putPart_inv h
  rw [r_Otf_putPart_eq] at h
  have hV : ∀ a av m m', eV_Otf_putPart a av m = some m' → ab_kp m m' := ab_ev_all (P := fun _ m r => ab_kp m r) [(8, c_Row_put), (10, c_Row_putNumber)] (List.forall_mem_cons.mpr ⟨fun av m r h => kp_Row_put h, List.forall_mem_cons.mpr ⟨fun av m r h => kp_Row_putNumber h, fun q hq => by cases hq⟩⟩)
  have hI : ∀ a av m q, eI_Otf_putPart a av m = some q → ab_kp m q.2 := ab_ev_all (P := fun _ (m : Mm) (r : Int32 × Mm) => ab_kp m r.2) [] (fun q hq => by cases hq)
  exact ab_kprel (ρ := .inl (none, r)) (ab_tab_isn (t := t_Otf_putPart) (by decide +kernel)) hV hI (ab_rV_inv h)
set_option maxRecDepth 100000 in
theorem cl_Otf_putPart (l : Launch) : ∀ (pc : Nat) (q : Ent), i_Otf_putPart pc = some q → ab_inv q.1 = true → ab_CR l KT CL none ab_gW "StreamTransport$Outflow" prog_6_method_8_code 7 2 45 eV_Otf_putPart eI_Otf_putPart pc q := by
  intro pc q hq hi
  have hm : pc ∈ cs_Otf_putPart := ab_tab_cs (t := t_Otf_putPart) (by decide +kernel) hq hi
  simp only [cs_Otf_putPart, List.mem_cons, List.not_mem_nil, or_false] at hm
  rcases hm with rfl | rfl | rfl | rfl | rfl
  · cases (Option.some.inj hq : ((.invokevirtual 54, 8, 2, 0, 0) : Ent) = q)
    exact ab_crV (C := "StreamTransport$Row") (by decide +kernel) cw_Row_put (ab_gW_in 538 (by decide +kernel) rfl) is_Row_put sl_Row_put (by decide) (fun av m m' h => cm_Row_put l h) (fun av m r h => by cases h) KT_nd
  · cases (Option.some.inj hq : ((.invokevirtual 57, 10, 2, 0, 0) : Ent) = q)
    exact ab_crV (C := "StreamTransport$Row") (by decide +kernel) cw_Row_putNumber (ab_gW_in 539 (by decide +kernel) rfl) is_Row_putNumber sl_Row_putNumber (by decide) (fun av m m' h => cm_Row_putNumber l h) (fun av m r h => by cases h) KT_nd
  · cases (Option.some.inj hq : ((.invokevirtual 57, 10, 2, 0, 0) : Ent) = q)
    exact ab_crV (C := "StreamTransport$Row") (by decide +kernel) cw_Row_putNumber (ab_gW_in 539 (by decide +kernel) rfl) is_Row_putNumber sl_Row_putNumber (by decide) (fun av m m' h => cm_Row_putNumber l h) (fun av m r h => by cases h) KT_nd
  · cases (Option.some.inj hq : ((.invokevirtual 57, 10, 2, 0, 0) : Ent) = q)
    exact ab_crV (C := "StreamTransport$Row") (by decide +kernel) cw_Row_putNumber (ab_gW_in 539 (by decide +kernel) rfl) is_Row_putNumber sl_Row_putNumber (by decide) (fun av m m' h => cm_Row_putNumber l h) (fun av m r h => by cases h) KT_nd
  · cases (Option.some.inj hq : ((.invokevirtual 54, 8, 2, 0, 0) : Ent) = q)
    exact ab_crV (C := "StreamTransport$Row") (by decide +kernel) cw_Row_put (ab_gW_in 538 (by decide +kernel) rfl) is_Row_put sl_Row_put (by decide) (fun av m m' h => cm_Row_put l h) (fun av m r h => by cases h) KT_nd
theorem cw_Otf_putPart : ab_cw y_Otf_putPart prog_6_method_8_code 7 3 none := ⟨ab_gW_in 573 (by decide +kernel) rfl, ab_gW_in 69 (by decide +kernel) rfl, by decide +kernel, by decide +kernel, by decide +kernel⟩
theorem is_Otf_putPart : Cond.instanceMethod y_Otf_putPart ∈ ab_gW := ab_gW_in 572 (by decide +kernel) rfl
theorem sl_Otf_putPart : Cond.selects "StreamTransport$Outflow" y_Otf_putPart y_Otf_putPart ∈ ab_gW := ab_gW_in 8 (by decide +kernel) rfl
set_option maxRecDepth 100000 in
theorem cm_Otf_putPart (l : Launch) {av : List AV} {m : Mm} {r : Mm} (h0 : c_Otf_putPart av m = some r) : ∃ (k q : Nat) (av' : List AV) (ci : Nat) (fs : List (Nat × Nat × Nat × Nat)) (z : vw_C), av = .inr (.inr (k, some q)) :: av' ∧ av'.length = 3 ∧ k ≠ 0 ∧ KT[k]? = some (.inl (ci, fs)) ∧ CL[ci]? = some z ∧ z.1 = "StreamTransport$Outflow" ∧ ab_nos av' ∧ ab_Met l KT CL y_Otf_putPart (Cond.code y_Otf_putPart prog_6_method_8_code 7 none :: ab_gW) 2 45 none av m none r := by
  obtain ⟨v0, v1, v2, v3, hav, h⟩ := c_Otf_putPart_inv h0
  rw [r_Otf_putPart_eq] at h
  have hmo : ab_mo m r := ab_kp_mo (kp_Otf_putPart h0)
  subst hav
  exact ⟨_, _, _, _, _, _, rfl, rfl, by decide, rfl, rfl, rfl, (by intro v hv q e; subst e; simp at hv), ab_met (by decide +kernel) KT_0 KT_nd KT_k3 E_Otf_putPart (cl_Otf_putPart l) hmo (Nat.le_of_ble_eq_true rfl) (ab_rV_inv h) (fun v hv => by cases hv)⟩
/-! StreamTransport$Outflow.putStreams(LStreamTransport$Row;LStreamTransport$Sent;)V -/
def y_Otf_putStreams : MethodName := ⟨"StreamTransport$Outflow", "putStreams", "(LStreamTransport$Row;LStreamTransport$Sent;)V"⟩
def t_Otf_putStreams (pc : Nat) : Option Ent :=
  bif Nat.blt pc 21 then
    (bif Nat.blt pc 8 then
      (bif Nat.blt pc 3 then
        (bif Nat.blt pc 1 then
          (bif Nat.beq pc 0 then some (.iconst 0, 0, 0, 0, 0) else none)
        else
          bif Nat.blt pc 2 then
            (bif Nat.beq pc 1 then some (.istore_n 3, 3, 0, 0, 0) else none)
          else
            bif Nat.beq pc 2 then some (.iload_n 3, 3, 0, 0, 0) else none)
      else
        bif Nat.blt pc 4 then
          (bif Nat.beq pc 3 then some (.iconst 4, 0, 0, 0, 4) else none)
        else
          bif Nat.blt pc 7 then
            (bif Nat.beq pc 4 then some (.if_icmp .ge (41), 45, 0, 0, 0) else none)
          else
            bif Nat.beq pc 7 then some (.aload_n 0, 0, 0, 0, 0) else none)
    else
      bif Nat.blt pc 13 then
        (bif Nat.blt pc 11 then
          (bif Nat.beq pc 8 then some (.getfield 11, 4, 0, 1, 0) else none)
        else
          bif Nat.blt pc 12 then
            (bif Nat.beq pc 11 then some (.iload_n 3, 3, 0, 0, 0) else none)
          else
            bif Nat.beq pc 12 then some (.aaload, 0, 0, 0, 0) else none)
      else
        bif Nat.blt pc 19 then
          (bif Nat.blt pc 16 then
            (bif Nat.beq pc 13 then some (.getfield 66, 5, 6, 0, 0) else none)
          else
            bif Nat.beq pc 16 then some (.ifCond .ne (23), 39, 0, 0, 0) else none)
        else
          bif Nat.blt pc 20 then
            (bif Nat.beq pc 19 then some (.aload_n 0, 0, 0, 0, 0) else none)
          else
            bif Nat.beq pc 20 then some (.aload_n 1, 1, 0, 0, 0) else none)
  else
    bif Nat.blt pc 33 then
      (bif Nat.blt pc 26 then
        (bif Nat.blt pc 24 then
          (bif Nat.beq pc 21 then some (.invokevirtual 70, 6, 1, 1, 0) else none)
        else
          bif Nat.blt pc 25 then
            (bif Nat.beq pc 24 then some (.aload_n 2, 2, 0, 0, 0) else none)
          else
            bif Nat.beq pc 25 then some (.iload_n 3, 3, 0, 0, 0) else none)
      else
        bif Nat.blt pc 29 then
          (bif Nat.beq pc 26 then some (.invokevirtual 74, 45, 4, 1, 0) else none)
        else
          bif Nat.blt pc 32 then
            (bif Nat.beq pc 29 then some (.ifCond .eq (10), 39, 0, 0, 0) else none)
          else
            bif Nat.beq pc 32 then some (.aload_n 0, 0, 0, 0, 0) else none)
    else
      bif Nat.blt pc 36 then
        (bif Nat.blt pc 34 then
          (bif Nat.beq pc 33 then some (.aload_n 1, 1, 0, 0, 0) else none)
        else
          bif Nat.blt pc 35 then
            (bif Nat.beq pc 34 then some (.aload_n 2, 2, 0, 0, 0) else none)
          else
            bif Nat.beq pc 35 then some (.iload_n 3, 3, 0, 0, 0) else none)
      else
        bif Nat.blt pc 42 then
          (bif Nat.blt pc 39 then
            (bif Nat.beq pc 36 then some (.invokevirtual 78, 46, 4, 0, 0) else none)
          else
            bif Nat.beq pc 39 then some (.iinc 3 1, 3, 0, 0, 1) else none)
        else
          bif Nat.blt pc 45 then
            (bif Nat.beq pc 42 then some (.goto (-40), 2, 0, 0, 0) else none)
          else
            bif Nat.beq pc 45 then some (.return_, 0, 0, 0, 0) else none
def i_Otf_putStreams : Nat → Option Ent := ab_tab 46 t_Otf_putStreams
def h_Otf_putStreams (pc : Nat) : Nat × List Bool := bif Nat.beq pc 2 then (1, [true, true, true, true]) else bif Nat.beq pc 39 then (1, [true, true, true, true]) else (0, [])
def s_Otf_putStreams (pc : Nat) : List (Int32 × Nat) × Nat := ([], 0)
noncomputable def eV_Otf_putStreams : Nat → List AV → Mm → Option Mm := ab_ev [(46, c_Otf_putPart)]
noncomputable def eI_Otf_putStreams : Nat → List AV → Mm → Option (Int32 × Mm) := ab_ev [(6, c_Row_roomLeft), (45, c_Otf_choosePart)]
noncomputable def b_Otf_putStreams_0 (f : Nat) (v0 : Nat) (v1 : Nat) (v2 : Nat) (m : Mm) : Option Rs := ab_ex KT none s_Otf_putStreams eV_Otf_putStreams eI_Otf_putStreams i_Otf_putStreams h_Otf_putStreams f 0 [some (.inr (.inr (17, some v0))), some (.inr (.inr (4, some v1))), some (.inr (.inr (22, some v2))), none] [] m
noncomputable def b_Otf_putStreams_2 (f : Nat) (v0 : Nat) (v1 : Nat) (v2 : Nat) (v3 : Int32) (m : Mm) : Option Rs := ab_ex KT none s_Otf_putStreams eV_Otf_putStreams eI_Otf_putStreams i_Otf_putStreams h_Otf_putStreams f 2 [some (.inr (.inr (17, some v0))), some (.inr (.inr (4, some v1))), some (.inr (.inr (22, some v2))), some (.inl v3)] [] m
noncomputable def b_Otf_putStreams_39 (f : Nat) (v0 : Nat) (v1 : Nat) (v2 : Nat) (v3 : Int32) (m : Mm) : Option Rs := ab_ex KT none s_Otf_putStreams eV_Otf_putStreams eI_Otf_putStreams i_Otf_putStreams h_Otf_putStreams f 39 [some (.inr (.inr (17, some v0))), some (.inr (.inr (4, some v1))), some (.inr (.inr (22, some v2))), some (.inl v3)] [] m
set_option maxRecDepth 100000 in
set_option maxHeartbeats 4000000 in
theorem b_Otf_putStreams_0_eq (f : Nat) (v0 : Nat) (v1 : Nat) (v2 : Nat) (m : Mm) : b_Otf_putStreams_0 (f + 1) v0 v1 v2 m =
    b_Otf_putStreams_2 f v0 v1 v2 (0 : Int32) m := rfl
set_option maxRecDepth 100000 in
set_option maxHeartbeats 4000000 in
theorem b_Otf_putStreams_2_eq (f : Nat) (v0 : Nat) (v1 : Nat) (v2 : Nat) (v3 : Int32) (m : Mm) : b_Otf_putStreams_2 (f + 1) v0 v1 v2 v3 m =
    if (4 : Int32) ≤ v3 then
      some (.inl (none, m))
    else
      (ab_ix v3 4).bind fun i1 =>
      if (m.1 63 ((v0 + 1) + 1 + 3 * i1) 0) = 0 then
        (r_Row_roomLeft v1 m).bind fun z2 =>
        (r_Otf_choosePart v0 z2.1 v2 v3 z2.2).bind fun z3 =>
        if z3.1 = 0 then
          b_Otf_putStreams_39 f v0 v1 v2 v3 z3.2
        else
          (r_Otf_putPart v0 v1 v2 v3 z3.2).bind fun m4 =>
          b_Otf_putStreams_39 f v0 v1 v2 v3 m4
      else
        b_Otf_putStreams_39 f v0 v1 v2 v3 m := rfl
set_option maxRecDepth 100000 in
set_option maxHeartbeats 4000000 in
theorem b_Otf_putStreams_39_eq (f : Nat) (v0 : Nat) (v1 : Nat) (v2 : Nat) (v3 : Int32) (m : Mm) : b_Otf_putStreams_39 (f + 1) v0 v1 v2 v3 m =
    ab_let (v3 + (1 : Int32)) fun x1 =>
    b_Otf_putStreams_2 f v0 v1 v2 x1 m := rfl
noncomputable def r_Otf_putStreams : Nat → Nat → Nat → Mm → Option Mm := ab_seal fun v0 v1 v2 m => ab_rV (b_Otf_putStreams_0 50000 v0 v1 v2 m)
theorem r_Otf_putStreams_eq (v0 : Nat) (v1 : Nat) (v2 : Nat) (m : Mm) : r_Otf_putStreams v0 v1 v2 m = ab_rV (b_Otf_putStreams_0 50000 v0 v1 v2 m) := by
  unfold r_Otf_putStreams
  rw [ab_seal_eq]
noncomputable def c_Otf_putStreams : List AV → Mm → Option Mm := fun av m => match av with
  | [.inr (.inr (kv0, ov0)), .inr (.inr (kv1, ov1)), .inr (.inr (kv2, ov2))] => if kv0 = 17 then (if kv1 = 4 then (if kv2 = 22 then (ov0.bind fun v0 => ov1.bind fun v1 => ov2.bind fun v2 => r_Otf_putStreams v0 v1 v2 m) else none) else none) else none
  | _ => none
theorem c_Otf_putStreams_inv {av : List AV} {m : Mm} {r : Mm} (h : c_Otf_putStreams av m = some r) : ∃ (v0 : Nat) (v1 : Nat) (v2 : Nat), av = [.inr (.inr (17, some v0)), .inr (.inr (4, some v1)), .inr (.inr (22, some v2))] ∧ r_Otf_putStreams v0 v1 v2 m = some r := by
  unfold c_Otf_putStreams at h
  split at h
  · rename_i kv0 ov0 kv1 ov1 kv2 ov2
    by_cases hkv0 : kv0 = 17
    case neg => rw [if_neg hkv0] at h; cases h
    rw [if_pos hkv0] at h
    subst hkv0
    by_cases hkv1 : kv1 = 4
    case neg => rw [if_neg hkv1] at h; cases h
    rw [if_pos hkv1] at h
    subst hkv1
    by_cases hkv2 : kv2 = 22
    case neg => rw [if_neg hkv2] at h; cases h
    rw [if_pos hkv2] at h
    subst hkv2
    obtain ⟨v0, hev0, h⟩ := Option.bind_eq_some_iff.mp h
    obtain ⟨v1, hev1, h⟩ := Option.bind_eq_some_iff.mp h
    obtain ⟨v2, hev2, h⟩ := Option.bind_eq_some_iff.mp h
    subst hev0
    subst hev1
    subst hev2
    exact ⟨v0, v1, v2, rfl, h⟩
  · cases h
def cs_Otf_putStreams : List Nat := [21, 26, 36]
set_option maxRecDepth 100000 in
theorem E_Otf_putStreams : ∀ (pc : Nat) (q : Ent), i_Otf_putStreams pc = some q → ab_E KT CL ab_gW "StreamTransport$Outflow" "putStreams" none prog_6_method_6_code s_Otf_putStreams 4 pc q.1 q.2.1 q.2.2.1 q.2.2.2.1 q.2.2.2.2 := fun pc q hq =>
  ab_Eb_ok lc_Otf lj_Otf fl_Otf (fpn_Otf "putStreams") nw_Otf na_Otf nq_Otf (ab_tab_all (t := t_Otf_putStreams) (chk := fun pc q => ab_Eb none prog_6_method_6_code s_Otf_putStreams 4 LC_Otf LJ_Otf FL_Otf FPn_Otf NW_Otf NA_Otf NQ_Otf pc q.1 q.2.1 q.2.2.1 q.2.2.2.1 q.2.2.2.2) (by decide +kernel) hq)
set_option maxRecDepth 100000 in
theorem kp_Otf_putStreams {av : List AV} {m : Mm} {r : Mm} (h : c_Otf_putStreams av m = some r) : ab_kp m r := by
  obtain ⟨v0, v1, v2, -, h⟩ := c_Otf_putStreams_inv h
  rw [r_Otf_putStreams_eq] at h
  have hV : ∀ a av m m', eV_Otf_putStreams a av m = some m' → ab_kp m m' := ab_ev_all (P := fun _ m r => ab_kp m r) [(46, c_Otf_putPart)] (List.forall_mem_cons.mpr ⟨fun av m r h => kp_Otf_putPart h, fun q hq => by cases hq⟩)
  have hI : ∀ a av m q, eI_Otf_putStreams a av m = some q → ab_kp m q.2 := ab_ev_all (P := fun _ (m : Mm) (r : Int32 × Mm) => ab_kp m r.2) [(6, c_Row_roomLeft), (45, c_Otf_choosePart)] (List.forall_mem_cons.mpr ⟨fun av m r h => kp_Row_roomLeft h, List.forall_mem_cons.mpr ⟨fun av m r h => kp_Otf_choosePart h, fun q hq => by cases hq⟩⟩)
  exact ab_kprel (ρ := .inl (none, r)) (ab_tab_isn (t := t_Otf_putStreams) (by decide +kernel)) hV hI (ab_rV_inv h)
set_option maxRecDepth 100000 in
theorem cl_Otf_putStreams (l : Launch) : ∀ (pc : Nat) (q : Ent), i_Otf_putStreams pc = some q → ab_inv q.1 = true → ab_CR l KT CL none ab_gW "StreamTransport$Outflow" prog_6_method_6_code 4 3 75 eV_Otf_putStreams eI_Otf_putStreams pc q := by
  intro pc q hq hi
  have hm : pc ∈ cs_Otf_putStreams := ab_tab_cs (t := t_Otf_putStreams) (by decide +kernel) hq hi
  simp only [cs_Otf_putStreams, List.mem_cons, List.not_mem_nil, or_false] at hm
  rcases hm with rfl | rfl | rfl
  · cases (Option.some.inj hq : ((.invokevirtual 70, 6, 1, 1, 0) : Ent) = q)
    exact ab_crV (C := "StreamTransport$Row") (by decide +kernel) cw_Row_roomLeft (ab_gW_in 544 (by decide +kernel) rfl) is_Row_roomLeft sl_Row_roomLeft (by decide) (fun av m m' h => by cases h) (fun av m r h => cm_Row_roomLeft l h) KT_nd
  · cases (Option.some.inj hq : ((.invokevirtual 74, 45, 4, 1, 0) : Ent) = q)
    exact ab_crV (C := "StreamTransport$Outflow") (by decide +kernel) cw_Otf_choosePart (ab_gW_in 545 (by decide +kernel) rfl) is_Otf_choosePart sl_Otf_choosePart (by decide) (fun av m m' h => by cases h) (fun av m r h => cm_Otf_choosePart l h) KT_nd
  · cases (Option.some.inj hq : ((.invokevirtual 78, 46, 4, 0, 0) : Ent) = q)
    exact ab_crV (C := "StreamTransport$Outflow") (by decide +kernel) cw_Otf_putPart (ab_gW_in 570 (by decide +kernel) rfl) is_Otf_putPart sl_Otf_putPart (by decide) (fun av m m' h => cm_Otf_putPart l h) (fun av m r h => by cases h) KT_nd
theorem cw_Otf_putStreams : ab_cw y_Otf_putStreams prog_6_method_6_code 4 2 none := ⟨ab_gW_in 543 (by decide +kernel) rfl, ab_gW_in 69 (by decide +kernel) rfl, by decide +kernel, by decide +kernel, by decide +kernel⟩
theorem is_Otf_putStreams : Cond.instanceMethod y_Otf_putStreams ∈ ab_gW := ab_gW_in 541 (by decide +kernel) rfl
theorem sl_Otf_putStreams : Cond.selects "StreamTransport$Outflow" y_Otf_putStreams y_Otf_putStreams ∈ ab_gW := ab_gW_in 542 (by decide +kernel) rfl
set_option maxRecDepth 100000 in
theorem cm_Otf_putStreams (l : Launch) {av : List AV} {m : Mm} {r : Mm} (h0 : c_Otf_putStreams av m = some r) : ∃ (k q : Nat) (av' : List AV) (ci : Nat) (fs : List (Nat × Nat × Nat × Nat)) (z : vw_C), av = .inr (.inr (k, some q)) :: av' ∧ av'.length = 2 ∧ k ≠ 0 ∧ KT[k]? = some (.inl (ci, fs)) ∧ CL[ci]? = some z ∧ z.1 = "StreamTransport$Outflow" ∧ ab_nos av' ∧ ab_Met l KT CL y_Otf_putStreams (Cond.code y_Otf_putStreams prog_6_method_6_code 4 none :: ab_gW) 3 75 none av m none r := by
  obtain ⟨v0, v1, v2, hav, h⟩ := c_Otf_putStreams_inv h0
  rw [r_Otf_putStreams_eq] at h
  have hmo : ab_mo m r := ab_kp_mo (kp_Otf_putStreams h0)
  subst hav
  exact ⟨_, _, _, _, _, _, rfl, rfl, by decide, rfl, rfl, rfl, (by intro v hv q e; subst e; simp at hv), ab_met (by decide +kernel) KT_0 KT_nd KT_k3 E_Otf_putStreams (cl_Otf_putStreams l) hmo (Nat.le_of_ble_eq_true rfl) (ab_rV_inv h) (fun v hv => by cases hv)⟩
end
end
section
section
def FLp_Inc : List ((Nat × Nat × Nat) × Nat) := [((9, 1, 0), 182), ((15, 1, 3), 189), ((19, 1, 4), 191), ((28, 1, 1), 185), ((31, 1, 5), 194), ((35, 1, 2), 187)]
def FL_Inc : List (Nat × Nat × Nat) := [(9, 1, 0), (15, 1, 3), (19, 1, 4), (28, 1, 1), (31, 1, 5), (35, 1, 2)]
theorem fl_Inc : ∀ q ∈ FL_Inc, ab_fld CL ab_gW "StreamTransport$Incoming" q.1 q.2.1 q.2.2 := ab_flb_ok (own := "StreamTransport$Incoming") (l := FLp_Inc) (by decide +kernel)
def FPnp_Inc : List ((Nat × Nat × Nat) × Nat) := [((15, 1, 3), 189), ((19, 1, 4), 191), ((28, 1, 1), 185), ((31, 1, 5), 194), ((35, 1, 2), 187)]
def FPn_Inc : List (Nat × Nat × Nat) := [(15, 1, 3), (19, 1, 4), (28, 1, 1), (31, 1, 5), (35, 1, 2)]
theorem fpn_Inc (nm : String) : ∀ q ∈ FPn_Inc, ∃ ty, ab_fldp CL ab_gW "StreamTransport$Incoming" nm q.1 q.2.1 q.2.2 ty ∧ ∀ (k t r k' d' : Nat), ab_fs KT q.2.1 q.2.2 k = some (t, r, k', d') → (t = 0 → ty = .int) ∧ (t = 1 → ty = .boolean) ∧ (t = 2 → ((∃ n, ty = .object n) ∨ ∃ t, ty = .array t) ∧ k' ≠ 0) := ab_fpb_ok (own := "StreamTransport$Incoming") (nm := nm) (l := FPnp_Inc) (ab_fpn_ok (by decide +kernel))
def FPip_Inc : List ((Nat × Nat × Nat) × Nat) := [((9, 1, 0), 182), ((15, 1, 3), 189), ((19, 1, 4), 191), ((28, 1, 1), 185), ((31, 1, 5), 194), ((35, 1, 2), 187)]
def FPi_Inc : List (Nat × Nat × Nat) := [(9, 1, 0), (15, 1, 3), (19, 1, 4), (28, 1, 1), (31, 1, 5), (35, 1, 2)]
theorem fpi_Inc : ∀ q ∈ FPi_Inc, ∃ ty, ab_fldp CL ab_gW "StreamTransport$Incoming" "<init>" q.1 q.2.1 q.2.2 ty ∧ ∀ (k t r k' d' : Nat), ab_fs KT q.2.1 q.2.2 k = some (t, r, k', d') → (t = 0 → ty = .int) ∧ (t = 1 → ty = .boolean) ∧ (t = 2 → ((∃ n, ty = .object n) ∨ ∃ t, ty = .array t) ∧ k' ≠ 0) := ab_fpb_ok (own := "StreamTransport$Incoming") (nm := "<init>") (l := FPip_Inc) (by decide +kernel)
def LCp_Inc : List ((Nat × Int32) × Nat) := []
def LC_Inc : List (Nat × Int32) := []
theorem lc_Inc : ∀ q ∈ LC_Inc, Cond.constant "StreamTransport$Incoming" q.1 q.2 ∈ ab_gW := ab_lcb (own := "StreamTransport$Incoming") (l := LCp_Inc) (by decide +kernel)
def LJp_Inc : List ((Nat × Nat) × Nat) := []
def LJ_Inc : List (Nat × Nat) := []
theorem lj_Inc : ∀ q ∈ LJ_Inc, Cond.constantLong "StreamTransport$Incoming" q.1 (Int64.ofNat q.2) ∈ ab_gW := ab_ljb (own := "StreamTransport$Incoming") (l := LJp_Inc) (by decide +kernel)
def NWp_Inc : List ((Nat × Nat) × Nat × Nat × Nat) := []
def NW_Inc : List (Nat × Nat) := []
theorem nw_Inc : ∀ q ∈ NW_Inc, ab_newok KT CL ab_gW "StreamTransport$Incoming" q.1 q.2 := ab_nwb_ok (own := "StreamTransport$Incoming") (l := NWp_Inc) (by decide +kernel)
def NQp_Inc : List ((Nat × Nat) × Nat) := []
def NQ_Inc : List (Nat × Nat) := []
theorem nq_Inc : ∀ q ∈ NQ_Inc, ab_nqok KT CL ab_gW "StreamTransport$Incoming" q.1 q.2 := ab_nqb_ok (own := "StreamTransport$Incoming") (l := NQp_Inc) (by decide +kernel)
def NA_Inc : List (Nat × Nat) := [(0, 16)]
theorem na_Inc : ∀ q ∈ NA_Inc, (q.1 = 0 → ab_naok KT CL ab_gW .int q.2) ∧ (q.1 = 1 → ab_naok KT CL ab_gW .boolean q.2) ∧ (q.1 = 2 → ab_naok KT CL ab_gW .long q.2) := ab_nab_ok (by decide +kernel)
/-! StreamTransport$Incoming.ready()I -/
def y_Inc_ready : MethodName := ⟨"StreamTransport$Incoming", "ready", "()I"⟩
def t_Inc_ready (pc : Nat) : Option Ent :=
  bif Nat.blt pc 14 then
    (bif Nat.blt pc 6 then
      (bif Nat.blt pc 2 then
        (bif Nat.blt pc 1 then
          (bif Nat.beq pc 0 then some (.iconst 0, 0, 0, 0, 0) else none)
        else
          bif Nat.beq pc 1 then some (.istore_n 1, 1, 0, 0, 0) else none)
      else
        bif Nat.blt pc 3 then
          (bif Nat.beq pc 2 then some (.aload_n 0, 0, 0, 0, 0) else none)
        else
          bif Nat.beq pc 3 then some (.getfield 28, 1, 1, 0, 0) else none)
    else
      bif Nat.blt pc 8 then
        (bif Nat.blt pc 7 then
          (bif Nat.beq pc 6 then some (.istore_n 2, 2, 0, 0, 0) else none)
        else
          bif Nat.beq pc 7 then some (.iload_n 2, 2, 0, 0, 0) else none)
      else
        bif Nat.blt pc 10 then
          (bif Nat.beq pc 8 then some (.bipush 64, 0, 0, 0, 64) else none)
        else
          bif Nat.blt pc 13 then
            (bif Nat.beq pc 10 then some (.if_icmp .ge (22), 32, 0, 0, 0) else none)
          else
            bif Nat.beq pc 13 then some (.aload_n 0, 0, 0, 0, 0) else none)
  else
    bif Nat.blt pc 23 then
      (bif Nat.blt pc 18 then
        (bif Nat.blt pc 17 then
          (bif Nat.beq pc 14 then some (.getfield 9, 1, 0, 1, 0) else none)
        else
          bif Nat.beq pc 17 then some (.iload_n 2, 2, 0, 0, 0) else none)
      else
        bif Nat.blt pc 19 then
          (bif Nat.beq pc 18 then some (.iaload, 0, 0, 0, 0) else none)
        else
          bif Nat.blt pc 20 then
            (bif Nat.beq pc 19 then some (.iconst (-1), 0, 0, 0, -1) else none)
          else
            bif Nat.beq pc 20 then some (.if_icmp .eq (12), 32, 0, 0, 0) else none)
    else
      bif Nat.blt pc 29 then
        (bif Nat.blt pc 26 then
          (bif Nat.beq pc 23 then some (.iinc 1 1, 1, 0, 0, 1) else none)
        else
          bif Nat.beq pc 26 then some (.iinc 2 1, 2, 0, 0, 1) else none)
      else
        bif Nat.blt pc 32 then
          (bif Nat.beq pc 29 then some (.goto (-22), 7, 0, 0, 0) else none)
        else
          bif Nat.blt pc 33 then
            (bif Nat.beq pc 32 then some (.iload_n 1, 1, 0, 0, 0) else none)
          else
            bif Nat.beq pc 33 then some (.ireturn, 0, 0, 0, 0) else none
def i_Inc_ready : Nat → Option Ent := ab_tab 34 t_Inc_ready
def h_Inc_ready (pc : Nat) : Nat × List Bool := bif Nat.beq pc 7 then (1, [true, true, true]) else (0, [])
def s_Inc_ready (pc : Nat) : List (Int32 × Nat) × Nat := ([], 0)
noncomputable def eV_Inc_ready : Nat → List AV → Mm → Option Mm := ab_ev []
noncomputable def eI_Inc_ready : Nat → List AV → Mm → Option (Int32 × Mm) := ab_ev []
noncomputable def b_Inc_ready_0 (f : Nat) (v0 : Nat) (m : Mm) : Option Rs := ab_ex KT none s_Inc_ready eV_Inc_ready eI_Inc_ready i_Inc_ready h_Inc_ready f 0 [some (.inr (.inr (15, some v0))), none, none] [] m
noncomputable def b_Inc_ready_7 (f : Nat) (v0 : Nat) (v1 : Int32) (v2 : Int32) (m : Mm) : Option Rs := ab_ex KT none s_Inc_ready eV_Inc_ready eI_Inc_ready i_Inc_ready h_Inc_ready f 7 [some (.inr (.inr (15, some v0))), some (.inl v1), some (.inl v2)] [] m
set_option maxRecDepth 100000 in
set_option maxHeartbeats 4000000 in
theorem b_Inc_ready_0_eq (f : Nat) (v0 : Nat) (m : Mm) : b_Inc_ready_0 (f + 1) v0 m =
    ab_let ((m.1 47 v0 0)) fun x1 =>
    b_Inc_ready_7 f v0 (0 : Int32) x1 m := rfl
set_option maxRecDepth 100000 in
set_option maxHeartbeats 4000000 in
theorem b_Inc_ready_7_eq (f : Nat) (v0 : Nat) (v1 : Int32) (v2 : Int32) (m : Mm) : b_Inc_ready_7 (f + 1) v0 v1 v2 m =
    if (64 : Int32) ≤ v2 then
      some (.inl (some (.inl v1), m))
    else
      (ab_ix v2 64).bind fun i1 =>
      if (m.1 53 (v0 + 1) i1) = (-1 : Int32) then
        some (.inl (some (.inl v1), m))
      else
        ab_let (v1 + (1 : Int32)) fun x2 =>
        ab_let (v2 + (1 : Int32)) fun x3 =>
        b_Inc_ready_7 f v0 x2 x3 m := rfl
noncomputable def r_Inc_ready : Nat → Mm → Option (Int32 × Mm) := ab_seal fun v0 m => ab_rI (b_Inc_ready_0 50000 v0 m)
theorem r_Inc_ready_eq (v0 : Nat) (m : Mm) : r_Inc_ready v0 m = ab_rI (b_Inc_ready_0 50000 v0 m) := by
  unfold r_Inc_ready
  rw [ab_seal_eq]
noncomputable def c_Inc_ready : List AV → Mm → Option (Int32 × Mm) := fun av m => match av with
  | [.inr (.inr (kv0, ov0))] => if kv0 = 15 then (ov0.bind fun v0 => r_Inc_ready v0 m) else none
  | _ => none
theorem c_Inc_ready_inv {av : List AV} {m : Mm} {r : Int32 × Mm} (h : c_Inc_ready av m = some r) : ∃ (v0 : Nat), av = [.inr (.inr (15, some v0))] ∧ r_Inc_ready v0 m = some r := by
  unfold c_Inc_ready at h
  split at h
  · rename_i kv0 ov0
    by_cases hkv0 : kv0 = 15
    case neg => rw [if_neg hkv0] at h; cases h
    rw [if_pos hkv0] at h
    subst hkv0
    obtain ⟨v0, hev0, h⟩ := Option.bind_eq_some_iff.mp h
    subst hev0
    exact ⟨v0, rfl, h⟩
  · cases h
def cs_Inc_ready : List Nat := []
set_option maxRecDepth 100000 in
theorem E_Inc_ready : ∀ (pc : Nat) (q : Ent), i_Inc_ready pc = some q → ab_E KT CL ab_gW "StreamTransport$Incoming" "ready" (some .int) prog_3_method_2_code s_Inc_ready 3 pc q.1 q.2.1 q.2.2.1 q.2.2.2.1 q.2.2.2.2 := fun pc q hq =>
  ab_Eb_ok lc_Inc lj_Inc fl_Inc (fpn_Inc "ready") nw_Inc na_Inc nq_Inc (ab_tab_all (t := t_Inc_ready) (chk := fun pc q => ab_Eb (some .int) prog_3_method_2_code s_Inc_ready 3 LC_Inc LJ_Inc FL_Inc FPn_Inc NW_Inc NA_Inc NQ_Inc pc q.1 q.2.1 q.2.2.1 q.2.2.2.1 q.2.2.2.2) (by decide +kernel) hq)
set_option maxRecDepth 100000 in
theorem kp_Inc_ready {av : List AV} {m : Mm} {r : Int32 × Mm} (h : c_Inc_ready av m = some r) : ab_kp m r.2 := by
  obtain ⟨v0, -, h⟩ := c_Inc_ready_inv h
  rw [r_Inc_ready_eq] at h
  have hV : ∀ a av m m', eV_Inc_ready a av m = some m' → ab_kp m m' := ab_ev_all (P := fun _ m r => ab_kp m r) [] (fun q hq => by cases hq)
  have hI : ∀ a av m q, eI_Inc_ready a av m = some q → ab_kp m q.2 := ab_ev_all (P := fun _ (m : Mm) (r : Int32 × Mm) => ab_kp m r.2) [] (fun q hq => by cases hq)
  exact ab_kprel (ρ := .inl (some (.inl r.1), r.2)) (ab_tab_isn (t := t_Inc_ready) (by decide +kernel)) hV hI (ab_rI_inv h)
set_option maxRecDepth 100000 in
theorem cl_Inc_ready (l : Launch) : ∀ (pc : Nat) (q : Ent), i_Inc_ready pc = some q → ab_inv q.1 = true → ab_CR l KT CL none ab_gW "StreamTransport$Incoming" prog_3_method_2_code 3 0 0 eV_Inc_ready eI_Inc_ready pc q := by
  intro pc q hq hi
  have hm : pc ∈ cs_Inc_ready := ab_tab_cs (t := t_Inc_ready) (by decide +kernel) hq hi
  cases hm
theorem cw_Inc_ready : ab_cw y_Inc_ready prog_3_method_2_code 3 0 (some .int) := ⟨ab_gW_in 836 (by decide +kernel) rfl, ab_gW_in 67 (by decide +kernel) rfl, by decide +kernel, by decide +kernel, by decide +kernel⟩
theorem is_Inc_ready : Cond.instanceMethod y_Inc_ready ∈ ab_gW := ab_gW_in 834 (by decide +kernel) rfl
theorem sl_Inc_ready : Cond.selects "StreamTransport$Incoming" y_Inc_ready y_Inc_ready ∈ ab_gW := ab_gW_in 835 (by decide +kernel) rfl
set_option maxRecDepth 100000 in
theorem cm_Inc_ready (l : Launch) {av : List AV} {m : Mm} {r : Int32 × Mm} (h0 : c_Inc_ready av m = some r) : ∃ (k q : Nat) (av' : List AV) (ci : Nat) (fs : List (Nat × Nat × Nat × Nat)) (z : vw_C), av = .inr (.inr (k, some q)) :: av' ∧ av'.length = 0 ∧ k ≠ 0 ∧ KT[k]? = some (.inl (ci, fs)) ∧ CL[ci]? = some z ∧ z.1 = "StreamTransport$Incoming" ∧ ab_nos av' ∧ ab_Met l KT CL y_Inc_ready (Cond.code y_Inc_ready prog_3_method_2_code 3 (some .int) :: ab_gW) 0 0 none av m (some (.inl r.1)) r.2 := by
  obtain ⟨v0, hav, h⟩ := c_Inc_ready_inv h0
  rw [r_Inc_ready_eq] at h
  have hmo : ab_mo m r.2 := ab_kp_mo (kp_Inc_ready h0)
  subst hav
  exact ⟨_, _, _, _, _, _, rfl, rfl, by decide, rfl, rfl, rfl, (by intro v hv q e; subst e; simp at hv), ab_met (by decide +kernel) KT_0 KT_nd KT_k3 E_Inc_ready (cl_Inc_ready l) hmo (Nat.le_of_ble_eq_true rfl) (ab_rI_inv h) (fun v hv => by cases hv; exact ⟨_, rfl⟩)⟩
/-! StreamTransport$Incoming.spent()I -/
def y_Inc_spent : MethodName := ⟨"StreamTransport$Incoming", "spent", "()I"⟩
def t_Inc_spent (pc : Nat) : Option Ent :=
  bif Nat.blt pc 8 then
    (bif Nat.blt pc 4 then
      (bif Nat.blt pc 1 then
        (bif Nat.beq pc 0 then some (.aload_n 0, 0, 0, 0, 0) else none)
      else
        bif Nat.beq pc 1 then some (.getfield 31, 1, 5, 0, 0) else none)
    else
      bif Nat.blt pc 7 then
        (bif Nat.beq pc 4 then some (.ifCond .eq (10), 14, 0, 0, 0) else none)
      else
        bif Nat.beq pc 7 then some (.aload_n 0, 0, 0, 0, 0) else none)
  else
    bif Nat.blt pc 14 then
      (bif Nat.blt pc 11 then
        (bif Nat.beq pc 8 then some (.getfield 15, 1, 3, 0, 0) else none)
      else
        bif Nat.beq pc 11 then some (.goto 7, 18, 0, 0, 0) else none)
    else
      bif Nat.blt pc 15 then
        (bif Nat.beq pc 14 then some (.aload_n 0, 0, 0, 0, 0) else none)
      else
        bif Nat.blt pc 18 then
          (bif Nat.beq pc 15 then some (.getfield 28, 1, 1, 0, 0) else none)
        else
          bif Nat.beq pc 18 then some (.ireturn, 0, 0, 0, 0) else none
def i_Inc_spent : Nat → Option Ent := ab_tab 19 t_Inc_spent
def h_Inc_spent (pc : Nat) : Nat × List Bool := (0, [])
def s_Inc_spent (pc : Nat) : List (Int32 × Nat) × Nat := ([], 0)
noncomputable def eV_Inc_spent : Nat → List AV → Mm → Option Mm := ab_ev []
noncomputable def eI_Inc_spent : Nat → List AV → Mm → Option (Int32 × Mm) := ab_ev []
noncomputable def b_Inc_spent_0 (f : Nat) (v0 : Nat) (m : Mm) : Option Rs := ab_ex KT none s_Inc_spent eV_Inc_spent eI_Inc_spent i_Inc_spent h_Inc_spent f 0 [some (.inr (.inr (15, some v0)))] [] m
set_option maxRecDepth 100000 in
set_option maxHeartbeats 4000000 in
theorem b_Inc_spent_0_eq (f : Nat) (v0 : Nat) (m : Mm) : b_Inc_spent_0 (f + 1) v0 m =
    if (m.1 51 v0 0) = 0 then
      some (.inl (some (.inl (m.1 47 v0 0)), m))
    else
      some (.inl (some (.inl (m.1 49 v0 0)), m)) := rfl
noncomputable def r_Inc_spent : Nat → Mm → Option (Int32 × Mm) := ab_seal fun v0 m => ab_rI (b_Inc_spent_0 50000 v0 m)
theorem r_Inc_spent_eq (v0 : Nat) (m : Mm) : r_Inc_spent v0 m = ab_rI (b_Inc_spent_0 50000 v0 m) := by
  unfold r_Inc_spent
  rw [ab_seal_eq]
noncomputable def c_Inc_spent : List AV → Mm → Option (Int32 × Mm) := fun av m => match av with
  | [.inr (.inr (kv0, ov0))] => if kv0 = 15 then (ov0.bind fun v0 => r_Inc_spent v0 m) else none
  | _ => none
theorem c_Inc_spent_inv {av : List AV} {m : Mm} {r : Int32 × Mm} (h : c_Inc_spent av m = some r) : ∃ (v0 : Nat), av = [.inr (.inr (15, some v0))] ∧ r_Inc_spent v0 m = some r := by
  unfold c_Inc_spent at h
  split at h
  · rename_i kv0 ov0
    by_cases hkv0 : kv0 = 15
    case neg => rw [if_neg hkv0] at h; cases h
    rw [if_pos hkv0] at h
    subst hkv0
    obtain ⟨v0, hev0, h⟩ := Option.bind_eq_some_iff.mp h
    subst hev0
    exact ⟨v0, rfl, h⟩
  · cases h
def cs_Inc_spent : List Nat := []
set_option maxRecDepth 100000 in
theorem E_Inc_spent : ∀ (pc : Nat) (q : Ent), i_Inc_spent pc = some q → ab_E KT CL ab_gW "StreamTransport$Incoming" "spent" (some .int) prog_3_method_3_code s_Inc_spent 1 pc q.1 q.2.1 q.2.2.1 q.2.2.2.1 q.2.2.2.2 := fun pc q hq =>
  ab_Eb_ok lc_Inc lj_Inc fl_Inc (fpn_Inc "spent") nw_Inc na_Inc nq_Inc (ab_tab_all (t := t_Inc_spent) (chk := fun pc q => ab_Eb (some .int) prog_3_method_3_code s_Inc_spent 1 LC_Inc LJ_Inc FL_Inc FPn_Inc NW_Inc NA_Inc NQ_Inc pc q.1 q.2.1 q.2.2.1 q.2.2.2.1 q.2.2.2.2) (by decide +kernel) hq)
set_option maxRecDepth 100000 in
theorem kp_Inc_spent {av : List AV} {m : Mm} {r : Int32 × Mm} (h : c_Inc_spent av m = some r) : ab_kp m r.2 := by
  obtain ⟨v0, -, h⟩ := c_Inc_spent_inv h
  rw [r_Inc_spent_eq] at h
  have hV : ∀ a av m m', eV_Inc_spent a av m = some m' → ab_kp m m' := ab_ev_all (P := fun _ m r => ab_kp m r) [] (fun q hq => by cases hq)
  have hI : ∀ a av m q, eI_Inc_spent a av m = some q → ab_kp m q.2 := ab_ev_all (P := fun _ (m : Mm) (r : Int32 × Mm) => ab_kp m r.2) [] (fun q hq => by cases hq)
  exact ab_kprel (ρ := .inl (some (.inl r.1), r.2)) (ab_tab_isn (t := t_Inc_spent) (by decide +kernel)) hV hI (ab_rI_inv h)
set_option maxRecDepth 100000 in
theorem cl_Inc_spent (l : Launch) : ∀ (pc : Nat) (q : Ent), i_Inc_spent pc = some q → ab_inv q.1 = true → ab_CR l KT CL none ab_gW "StreamTransport$Incoming" prog_3_method_3_code 1 0 0 eV_Inc_spent eI_Inc_spent pc q := by
  intro pc q hq hi
  have hm : pc ∈ cs_Inc_spent := ab_tab_cs (t := t_Inc_spent) (by decide +kernel) hq hi
  cases hm
theorem cw_Inc_spent : ab_cw y_Inc_spent prog_3_method_3_code 1 0 (some .int) := ⟨ab_gW_in 502 (by decide +kernel) rfl, ab_gW_in 67 (by decide +kernel) rfl, by decide +kernel, by decide +kernel, by decide +kernel⟩
theorem is_Inc_spent : Cond.instanceMethod y_Inc_spent ∈ ab_gW := ab_gW_in 500 (by decide +kernel) rfl
theorem sl_Inc_spent : Cond.selects "StreamTransport$Incoming" y_Inc_spent y_Inc_spent ∈ ab_gW := ab_gW_in 501 (by decide +kernel) rfl
set_option maxRecDepth 100000 in
theorem cm_Inc_spent (l : Launch) {av : List AV} {m : Mm} {r : Int32 × Mm} (h0 : c_Inc_spent av m = some r) : ∃ (k q : Nat) (av' : List AV) (ci : Nat) (fs : List (Nat × Nat × Nat × Nat)) (z : vw_C), av = .inr (.inr (k, some q)) :: av' ∧ av'.length = 0 ∧ k ≠ 0 ∧ KT[k]? = some (.inl (ci, fs)) ∧ CL[ci]? = some z ∧ z.1 = "StreamTransport$Incoming" ∧ ab_nos av' ∧ ab_Met l KT CL y_Inc_spent (Cond.code y_Inc_spent prog_3_method_3_code 1 (some .int) :: ab_gW) 0 0 none av m (some (.inl r.1)) r.2 := by
  obtain ⟨v0, hav, h⟩ := c_Inc_spent_inv h0
  rw [r_Inc_spent_eq] at h
  have hmo : ab_mo m r.2 := ab_kp_mo (kp_Inc_spent h0)
  subst hav
  exact ⟨_, _, _, _, _, _, rfl, rfl, by decide, rfl, rfl, rfl, (by intro v hv q e; subst e; simp at hv), ab_met (by decide +kernel) KT_0 KT_nd KT_k3 E_Inc_spent (cl_Inc_spent l) hmo (Nat.le_of_ble_eq_true rfl) (ab_rI_inv h) (fun v hv => by cases hv; exact ⟨_, rfl⟩)⟩
/-! StreamTransport$Incoming.isWrongSize(IZ)Z -/
def y_Inc_isWrongSize : MethodName := ⟨"StreamTransport$Incoming", "isWrongSize", "(IZ)Z"⟩
def t_Inc_isWrongSize (pc : Nat) : Option Ent :=
  bif Nat.blt pc 23 then
    (bif Nat.blt pc 12 then
      (bif Nat.blt pc 5 then
        (bif Nat.blt pc 1 then
          (bif Nat.beq pc 0 then some (.iload_n 2, 2, 0, 0, 0) else none)
        else
          bif Nat.blt pc 4 then
            (bif Nat.beq pc 1 then some (.ifCond .eq (13), 14, 0, 0, 0) else none)
          else
            bif Nat.beq pc 4 then some (.iload_n 1, 1, 0, 0, 0) else none)
      else
        bif Nat.blt pc 6 then
          (bif Nat.beq pc 5 then some (.aload_n 0, 0, 0, 0, 0) else none)
        else
          bif Nat.blt pc 9 then
            (bif Nat.beq pc 6 then some (.getfield 35, 1, 2, 0, 0) else none)
          else
            bif Nat.beq pc 9 then some (.if_icmp .ge (5), 14, 0, 0, 0) else none)
    else
      bif Nat.blt pc 15 then
        (bif Nat.blt pc 13 then
          (bif Nat.beq pc 12 then some (.iconst 1, 0, 0, 0, 1) else none)
        else
          bif Nat.blt pc 14 then
            (bif Nat.beq pc 13 then some (.ireturn, 0, 0, 1, 0) else none)
          else
            bif Nat.beq pc 14 then some (.aload_n 0, 0, 0, 0, 0) else none)
      else
        bif Nat.blt pc 19 then
          (bif Nat.blt pc 18 then
            (bif Nat.beq pc 15 then some (.getfield 15, 1, 3, 0, 0) else none)
          else
            bif Nat.beq pc 18 then some (.iconst (-1), 0, 0, 0, -1) else none)
        else
          bif Nat.blt pc 22 then
            (bif Nat.beq pc 19 then some (.if_icmp .eq (30), 49, 0, 0, 0) else none)
          else
            bif Nat.beq pc 22 then some (.iload_n 2, 2, 0, 0, 0) else none)
  else
    bif Nat.blt pc 38 then
      (bif Nat.blt pc 28 then
        (bif Nat.blt pc 26 then
          (bif Nat.beq pc 23 then some (.ifCond .eq (14), 37, 0, 0, 0) else none)
        else
          bif Nat.blt pc 27 then
            (bif Nat.beq pc 26 then some (.iload_n 1, 1, 0, 0, 0) else none)
          else
            bif Nat.beq pc 27 then some (.aload_n 0, 0, 0, 0, 0) else none)
      else
        bif Nat.blt pc 34 then
          (bif Nat.blt pc 31 then
            (bif Nat.beq pc 28 then some (.getfield 15, 1, 3, 0, 0) else none)
          else
            bif Nat.beq pc 31 then some (.if_icmp .eq (18), 49, 0, 0, 0) else none)
        else
          bif Nat.blt pc 37 then
            (bif Nat.beq pc 34 then some (.goto 11, 45, 0, 0, 0) else none)
          else
            bif Nat.beq pc 37 then some (.iload_n 1, 1, 0, 0, 0) else none)
    else
      bif Nat.blt pc 45 then
        (bif Nat.blt pc 39 then
          (bif Nat.beq pc 38 then some (.aload_n 0, 0, 0, 0, 0) else none)
        else
          bif Nat.blt pc 42 then
            (bif Nat.beq pc 39 then some (.getfield 15, 1, 3, 0, 0) else none)
          else
            bif Nat.beq pc 42 then some (.if_icmp .le (7), 49, 0, 0, 0) else none)
      else
        bif Nat.blt pc 49 then
          (bif Nat.blt pc 46 then
            (bif Nat.beq pc 45 then some (.iconst 1, 0, 0, 0, 1) else none)
          else
            bif Nat.beq pc 46 then some (.goto 4, 50, 0, 0, 0) else none)
        else
          bif Nat.blt pc 50 then
            (bif Nat.beq pc 49 then some (.iconst 0, 0, 0, 0, 0) else none)
          else
            bif Nat.beq pc 50 then some (.ireturn, 0, 0, 1, 0) else none
def i_Inc_isWrongSize : Nat → Option Ent := ab_tab 51 t_Inc_isWrongSize
def h_Inc_isWrongSize (pc : Nat) : Nat × List Bool := bif Nat.beq pc 14 then (1, [true, true, true]) else bif Nat.beq pc 45 then (1, [false, false, false]) else (0, [])
def s_Inc_isWrongSize (pc : Nat) : List (Int32 × Nat) × Nat := ([], 0)
noncomputable def eV_Inc_isWrongSize : Nat → List AV → Mm → Option Mm := ab_ev []
noncomputable def eI_Inc_isWrongSize : Nat → List AV → Mm → Option (Int32 × Mm) := ab_ev []
noncomputable def b_Inc_isWrongSize_0 (f : Nat) (v0 : Nat) (v1 : Int32) (v2 : Int32) (m : Mm) : Option Rs := ab_ex KT none s_Inc_isWrongSize eV_Inc_isWrongSize eI_Inc_isWrongSize i_Inc_isWrongSize h_Inc_isWrongSize f 0 [some (.inr (.inr (15, some v0))), some (.inl v1), some (.inl v2)] [] m
noncomputable def b_Inc_isWrongSize_14 (f : Nat) (v0 : Nat) (v1 : Int32) (v2 : Int32) (m : Mm) : Option Rs := ab_ex KT none s_Inc_isWrongSize eV_Inc_isWrongSize eI_Inc_isWrongSize i_Inc_isWrongSize h_Inc_isWrongSize f 14 [some (.inr (.inr (15, some v0))), some (.inl v1), some (.inl v2)] [] m
noncomputable def b_Inc_isWrongSize_45 (f : Nat)  (m : Mm) : Option Rs := ab_ex KT none s_Inc_isWrongSize eV_Inc_isWrongSize eI_Inc_isWrongSize i_Inc_isWrongSize h_Inc_isWrongSize f 45 [none, none, none] [] m
set_option maxRecDepth 100000 in
set_option maxHeartbeats 4000000 in
theorem b_Inc_isWrongSize_0_eq (f : Nat) (v0 : Nat) (v1 : Int32) (v2 : Int32) (m : Mm) : b_Inc_isWrongSize_0 (f + 1) v0 v1 v2 m =
    if v2 = 0 then
      b_Inc_isWrongSize_14 f v0 v1 v2 m
    else
      if (m.1 48 v0 0) ≤ v1 then
        b_Inc_isWrongSize_14 f v0 v1 v2 m
      else
        (ab_bo (1 : Int32)).bind fun y1 => some (.inl (some (.inl y1), m)) := rfl
set_option maxRecDepth 100000 in
set_option maxHeartbeats 4000000 in
theorem b_Inc_isWrongSize_14_eq (f : Nat) (v0 : Nat) (v1 : Int32) (v2 : Int32) (m : Mm) : b_Inc_isWrongSize_14 (f + 1) v0 v1 v2 m =
    if (m.1 49 v0 0) = (-1 : Int32) then
      (ab_bo (0 : Int32)).bind fun y1 => some (.inl (some (.inl y1), m))
    else
      if v2 = 0 then
        if v1 ≤ (m.1 49 v0 0) then
          (ab_bo (0 : Int32)).bind fun y2 => some (.inl (some (.inl y2), m))
        else
          b_Inc_isWrongSize_45 f  m
      else
        if v1 = (m.1 49 v0 0) then
          (ab_bo (0 : Int32)).bind fun y3 => some (.inl (some (.inl y3), m))
        else
          b_Inc_isWrongSize_45 f  m := rfl
set_option maxRecDepth 100000 in
set_option maxHeartbeats 4000000 in
theorem b_Inc_isWrongSize_45_eq (f : Nat)  (m : Mm) : b_Inc_isWrongSize_45 (f + 1)  m =
    (ab_bo (1 : Int32)).bind fun y1 => some (.inl (some (.inl y1), m)) := rfl
noncomputable def r_Inc_isWrongSize : Nat → Int32 → Int32 → Mm → Option (Int32 × Mm) := ab_seal fun v0 v1 v2 m => ab_rI (b_Inc_isWrongSize_0 50000 v0 v1 v2 m)
theorem r_Inc_isWrongSize_eq (v0 : Nat) (v1 : Int32) (v2 : Int32) (m : Mm) : r_Inc_isWrongSize v0 v1 v2 m = ab_rI (b_Inc_isWrongSize_0 50000 v0 v1 v2 m) := by
  unfold r_Inc_isWrongSize
  rw [ab_seal_eq]
noncomputable def c_Inc_isWrongSize : List AV → Mm → Option (Int32 × Mm) := fun av m => match av with
  | [.inr (.inr (kv0, ov0)), .inl v1, .inl v2] => if kv0 = 15 then (ov0.bind fun v0 => r_Inc_isWrongSize v0 v1 v2 m) else none
  | _ => none
theorem c_Inc_isWrongSize_inv {av : List AV} {m : Mm} {r : Int32 × Mm} (h : c_Inc_isWrongSize av m = some r) : ∃ (v0 : Nat) (v1 : Int32) (v2 : Int32), av = [.inr (.inr (15, some v0)), .inl v1, .inl v2] ∧ r_Inc_isWrongSize v0 v1 v2 m = some r := by
  unfold c_Inc_isWrongSize at h
  split at h
  · rename_i kv0 ov0 v1 v2
    by_cases hkv0 : kv0 = 15
    case neg => rw [if_neg hkv0] at h; cases h
    rw [if_pos hkv0] at h
    subst hkv0
    obtain ⟨v0, hev0, h⟩ := Option.bind_eq_some_iff.mp h
    subst hev0
    exact ⟨v0, v1, v2, rfl, h⟩
  · cases h
def cs_Inc_isWrongSize : List Nat := []
set_option maxRecDepth 100000 in
theorem E_Inc_isWrongSize : ∀ (pc : Nat) (q : Ent), i_Inc_isWrongSize pc = some q → ab_E KT CL ab_gW "StreamTransport$Incoming" "isWrongSize" (some .boolean) prog_3_method_4_code s_Inc_isWrongSize 3 pc q.1 q.2.1 q.2.2.1 q.2.2.2.1 q.2.2.2.2 := fun pc q hq =>
  ab_Eb_ok lc_Inc lj_Inc fl_Inc (fpn_Inc "isWrongSize") nw_Inc na_Inc nq_Inc (ab_tab_all (t := t_Inc_isWrongSize) (chk := fun pc q => ab_Eb (some .boolean) prog_3_method_4_code s_Inc_isWrongSize 3 LC_Inc LJ_Inc FL_Inc FPn_Inc NW_Inc NA_Inc NQ_Inc pc q.1 q.2.1 q.2.2.1 q.2.2.2.1 q.2.2.2.2) (by decide +kernel) hq)
set_option maxRecDepth 100000 in
theorem kp_Inc_isWrongSize {av : List AV} {m : Mm} {r : Int32 × Mm} (h : c_Inc_isWrongSize av m = some r) : ab_kp m r.2 := by
  obtain ⟨v0, v1, v2, -, h⟩ := c_Inc_isWrongSize_inv h
  rw [r_Inc_isWrongSize_eq] at h
  have hV : ∀ a av m m', eV_Inc_isWrongSize a av m = some m' → ab_kp m m' := ab_ev_all (P := fun _ m r => ab_kp m r) [] (fun q hq => by cases hq)
  have hI : ∀ a av m q, eI_Inc_isWrongSize a av m = some q → ab_kp m q.2 := ab_ev_all (P := fun _ (m : Mm) (r : Int32 × Mm) => ab_kp m r.2) [] (fun q hq => by cases hq)
  exact ab_kprel (ρ := .inl (some (.inl r.1), r.2)) (ab_tab_isn (t := t_Inc_isWrongSize) (by decide +kernel)) hV hI (ab_rI_inv h)
set_option maxRecDepth 100000 in
theorem cl_Inc_isWrongSize (l : Launch) : ∀ (pc : Nat) (q : Ent), i_Inc_isWrongSize pc = some q → ab_inv q.1 = true → ab_CR l KT CL none ab_gW "StreamTransport$Incoming" prog_3_method_4_code 3 0 0 eV_Inc_isWrongSize eI_Inc_isWrongSize pc q := by
  intro pc q hq hi
  have hm : pc ∈ cs_Inc_isWrongSize := ab_tab_cs (t := t_Inc_isWrongSize) (by decide +kernel) hq hi
  cases hm
theorem cw_Inc_isWrongSize : ab_cw y_Inc_isWrongSize prog_3_method_4_code 3 2 (some .boolean) := ⟨ab_gW_in 718 (by decide +kernel) rfl, ab_gW_in 67 (by decide +kernel) rfl, by decide +kernel, by decide +kernel, by decide +kernel⟩
theorem is_Inc_isWrongSize : Cond.instanceMethod y_Inc_isWrongSize ∈ ab_gW := ab_gW_in 716 (by decide +kernel) rfl
theorem sl_Inc_isWrongSize : Cond.selects "StreamTransport$Incoming" y_Inc_isWrongSize y_Inc_isWrongSize ∈ ab_gW := ab_gW_in 717 (by decide +kernel) rfl
set_option maxRecDepth 100000 in
theorem cm_Inc_isWrongSize (l : Launch) {av : List AV} {m : Mm} {r : Int32 × Mm} (h0 : c_Inc_isWrongSize av m = some r) : ∃ (k q : Nat) (av' : List AV) (ci : Nat) (fs : List (Nat × Nat × Nat × Nat)) (z : vw_C), av = .inr (.inr (k, some q)) :: av' ∧ av'.length = 2 ∧ k ≠ 0 ∧ KT[k]? = some (.inl (ci, fs)) ∧ CL[ci]? = some z ∧ z.1 = "StreamTransport$Incoming" ∧ ab_nos av' ∧ ab_Met l KT CL y_Inc_isWrongSize (Cond.code y_Inc_isWrongSize prog_3_method_4_code 3 (some .boolean) :: ab_gW) 0 0 none av m (some (.inl r.1)) r.2 := by
  obtain ⟨v0, v1, v2, hav, h⟩ := c_Inc_isWrongSize_inv h0
  rw [r_Inc_isWrongSize_eq] at h
  have hmo : ab_mo m r.2 := ab_kp_mo (kp_Inc_isWrongSize h0)
  subst hav
  exact ⟨_, _, _, _, _, _, rfl, rfl, by decide, rfl, rfl, rfl, (by intro v hv q e; subst e; simp at hv), ab_met (by decide +kernel) KT_0 KT_nd KT_k3 E_Inc_isWrongSize (cl_Inc_isWrongSize l) hmo (Nat.le_of_ble_eq_true rfl) (ab_rI_inv h) (fun v hv => by cases hv; exact ⟨_, rfl⟩)⟩
/-! StreamTransport$Incoming.reachTo(IZ)V -/
def y_Inc_reachTo : MethodName := ⟨"StreamTransport$Incoming", "reachTo", "(IZ)V"⟩
def t_Inc_reachTo (pc : Nat) : Option Ent :=
  bif Nat.blt pc 12 then
    (bif Nat.blt pc 5 then
      (bif Nat.blt pc 1 then
        (bif Nat.beq pc 0 then some (.aload_n 0, 0, 0, 0, 0) else none)
      else
        bif Nat.blt pc 2 then
          (bif Nat.beq pc 1 then some (.aload_n 0, 0, 0, 0, 0) else none)
        else
          bif Nat.beq pc 2 then some (.getfield 35, 1, 2, 0, 0) else none)
    else
      bif Nat.blt pc 6 then
        (bif Nat.beq pc 5 then some (.iload_n 1, 1, 0, 0, 0) else none)
      else
        bif Nat.blt pc 9 then
          (bif Nat.beq pc 6 then some (.invokestatic 38, 1, 2, 1, 0) else none)
        else
          bif Nat.beq pc 9 then some (.putfield 35, 1, 2, 0, 0) else none)
  else
    bif Nat.blt pc 17 then
      (bif Nat.blt pc 13 then
        (bif Nat.beq pc 12 then some (.iload_n 2, 2, 0, 0, 0) else none)
      else
        bif Nat.blt pc 16 then
          (bif Nat.beq pc 13 then some (.ifCond .eq (8), 21, 0, 0, 0) else none)
        else
          bif Nat.beq pc 16 then some (.aload_n 0, 0, 0, 0, 0) else none)
    else
      bif Nat.blt pc 18 then
        (bif Nat.beq pc 17 then some (.iload_n 1, 1, 0, 0, 0) else none)
      else
        bif Nat.blt pc 21 then
          (bif Nat.beq pc 18 then some (.putfield 15, 1, 3, 0, 0) else none)
        else
          bif Nat.beq pc 21 then some (.return_, 0, 0, 0, 0) else none
def i_Inc_reachTo : Nat → Option Ent := ab_tab 22 t_Inc_reachTo
def h_Inc_reachTo (pc : Nat) : Nat × List Bool := (0, [])
def s_Inc_reachTo (pc : Nat) : List (Int32 × Nat) × Nat := ([], 0)
noncomputable def eV_Inc_reachTo : Nat → List AV → Mm → Option Mm := ab_ev []
noncomputable def eI_Inc_reachTo : Nat → List AV → Mm → Option (Int32 × Mm) := ab_ev [(1, c_Math_max)]
noncomputable def b_Inc_reachTo_0 (f : Nat) (v0 : Nat) (v1 : Int32) (v2 : Int32) (m : Mm) : Option Rs := ab_ex KT none s_Inc_reachTo eV_Inc_reachTo eI_Inc_reachTo i_Inc_reachTo h_Inc_reachTo f 0 [some (.inr (.inr (15, some v0))), some (.inl v1), some (.inl v2)] [] m
set_option maxRecDepth 100000 in
set_option maxHeartbeats 4000000 in
theorem b_Inc_reachTo_0_eq (f : Nat) (v0 : Nat) (v1 : Int32) (v2 : Int32) (m : Mm) : b_Inc_reachTo_0 (f + 1) v0 v1 v2 m =
    (r_Math_max (m.1 48 v0 0) v1 m).bind fun z1 =>
    ab_let (ab_uI z1.2 48 v0 0 z1.1) fun m2 =>
    if v2 = 0 then
      some (.inl (none, m2))
    else
      ab_let (ab_uI m2 49 v0 0 v1) fun m3 =>
      some (.inl (none, m3)) := rfl
noncomputable def r_Inc_reachTo : Nat → Int32 → Int32 → Mm → Option Mm := ab_seal fun v0 v1 v2 m => ab_rV (b_Inc_reachTo_0 50000 v0 v1 v2 m)
theorem r_Inc_reachTo_eq (v0 : Nat) (v1 : Int32) (v2 : Int32) (m : Mm) : r_Inc_reachTo v0 v1 v2 m = ab_rV (b_Inc_reachTo_0 50000 v0 v1 v2 m) := by
  unfold r_Inc_reachTo
  rw [ab_seal_eq]
noncomputable def c_Inc_reachTo : List AV → Mm → Option Mm := fun av m => match av with
  | [.inr (.inr (kv0, ov0)), .inl v1, .inl v2] => if kv0 = 15 then (ov0.bind fun v0 => r_Inc_reachTo v0 v1 v2 m) else none
  | _ => none
theorem c_Inc_reachTo_inv {av : List AV} {m : Mm} {r : Mm} (h : c_Inc_reachTo av m = some r) : ∃ (v0 : Nat) (v1 : Int32) (v2 : Int32), av = [.inr (.inr (15, some v0)), .inl v1, .inl v2] ∧ r_Inc_reachTo v0 v1 v2 m = some r := by
  unfold c_Inc_reachTo at h
  split at h
  · rename_i kv0 ov0 v1 v2
    by_cases hkv0 : kv0 = 15
    case neg => rw [if_neg hkv0] at h; cases h
    rw [if_pos hkv0] at h
    subst hkv0
    obtain ⟨v0, hev0, h⟩ := Option.bind_eq_some_iff.mp h
    subst hev0
    exact ⟨v0, v1, v2, rfl, h⟩
  · cases h
def cs_Inc_reachTo : List Nat := [6]
set_option maxRecDepth 100000 in
theorem E_Inc_reachTo : ∀ (pc : Nat) (q : Ent), i_Inc_reachTo pc = some q → ab_E KT CL ab_gW "StreamTransport$Incoming" "reachTo" none prog_3_method_5_code s_Inc_reachTo 3 pc q.1 q.2.1 q.2.2.1 q.2.2.2.1 q.2.2.2.2 := fun pc q hq =>
  ab_Eb_ok lc_Inc lj_Inc fl_Inc (fpn_Inc "reachTo") nw_Inc na_Inc nq_Inc (ab_tab_all (t := t_Inc_reachTo) (chk := fun pc q => ab_Eb none prog_3_method_5_code s_Inc_reachTo 3 LC_Inc LJ_Inc FL_Inc FPn_Inc NW_Inc NA_Inc NQ_Inc pc q.1 q.2.1 q.2.2.1 q.2.2.2.1 q.2.2.2.2) (by decide +kernel) hq)
set_option maxRecDepth 100000 in
theorem kp_Inc_reachTo {av : List AV} {m : Mm} {r : Mm} (h : c_Inc_reachTo av m = some r) : ab_kp m r := by
  obtain ⟨v0, v1, v2, -, h⟩ := c_Inc_reachTo_inv h
  rw [r_Inc_reachTo_eq] at h
  have hV : ∀ a av m m', eV_Inc_reachTo a av m = some m' → ab_kp m m' := ab_ev_all (P := fun _ m r => ab_kp m r) [] (fun q hq => by cases hq)
  have hI : ∀ a av m q, eI_Inc_reachTo a av m = some q → ab_kp m q.2 := ab_ev_all (P := fun _ (m : Mm) (r : Int32 × Mm) => ab_kp m r.2) [(1, c_Math_max)] (List.forall_mem_cons.mpr ⟨fun av m r h => kp_Math_max h, fun q hq => by cases hq⟩)
  exact ab_kprel (ρ := .inl (none, r)) (ab_tab_isn (t := t_Inc_reachTo) (by decide +kernel)) hV hI (ab_rV_inv h)
set_option maxRecDepth 100000 in
theorem cl_Inc_reachTo (l : Launch) : ∀ (pc : Nat) (q : Ent), i_Inc_reachTo pc = some q → ab_inv q.1 = true → ab_CR l KT CL none ab_gW "StreamTransport$Incoming" prog_3_method_5_code 3 1 21 eV_Inc_reachTo eI_Inc_reachTo pc q := by
  intro pc q hq hi
  have hm : pc ∈ cs_Inc_reachTo := ab_tab_cs (t := t_Inc_reachTo) (by decide +kernel) hq hi
  simp only [cs_Inc_reachTo, List.mem_cons, List.not_mem_nil, or_false] at hm
  rcases hm with rfl
  · cases (Option.some.inj hq : ((.invokestatic 38, 1, 2, 1, 0) : Ent) = q)
    exact ab_crS (by decide +kernel) cw_Math_max (ab_gW_in 731 (by decide +kernel) rfl) st_Math_max (by decide) (fun av m m' h => by cases h) (fun av m r h => cm_Math_max l h) KT_nd
theorem cw_Inc_reachTo : ab_cw y_Inc_reachTo prog_3_method_5_code 3 2 none := ⟨ab_gW_in 730 (by decide +kernel) rfl, ab_gW_in 67 (by decide +kernel) rfl, by decide +kernel, by decide +kernel, by decide +kernel⟩
theorem is_Inc_reachTo : Cond.instanceMethod y_Inc_reachTo ∈ ab_gW := ab_gW_in 728 (by decide +kernel) rfl
theorem sl_Inc_reachTo : Cond.selects "StreamTransport$Incoming" y_Inc_reachTo y_Inc_reachTo ∈ ab_gW := ab_gW_in 729 (by decide +kernel) rfl
set_option maxRecDepth 100000 in
theorem cm_Inc_reachTo (l : Launch) {av : List AV} {m : Mm} {r : Mm} (h0 : c_Inc_reachTo av m = some r) : ∃ (k q : Nat) (av' : List AV) (ci : Nat) (fs : List (Nat × Nat × Nat × Nat)) (z : vw_C), av = .inr (.inr (k, some q)) :: av' ∧ av'.length = 2 ∧ k ≠ 0 ∧ KT[k]? = some (.inl (ci, fs)) ∧ CL[ci]? = some z ∧ z.1 = "StreamTransport$Incoming" ∧ ab_nos av' ∧ ab_Met l KT CL y_Inc_reachTo (Cond.code y_Inc_reachTo prog_3_method_5_code 3 none :: ab_gW) 1 21 none av m none r := by
  obtain ⟨v0, v1, v2, hav, h⟩ := c_Inc_reachTo_inv h0
  rw [r_Inc_reachTo_eq] at h
  have hmo : ab_mo m r := ab_kp_mo (kp_Inc_reachTo h0)
  subst hav
  exact ⟨_, _, _, _, _, _, rfl, rfl, by decide, rfl, rfl, rfl, (by intro v hv q e; subst e; simp at hv), ab_met (by decide +kernel) KT_0 KT_nd KT_k3 E_Inc_reachTo (cl_Inc_reachTo l) hmo (Nat.le_of_ble_eq_true rfl) (ab_rV_inv h) (fun v hv => by cases hv)⟩
/-! StreamTransport$Incoming.keep(II)V -/
def y_Inc_keep : MethodName := ⟨"StreamTransport$Incoming", "keep", "(II)V"⟩
def t_Inc_keep (pc : Nat) : Option Ent :=
  bif Nat.blt pc 24 then
    (bif Nat.blt pc 11 then
      (bif Nat.blt pc 5 then
        (bif Nat.blt pc 1 then
          (bif Nat.beq pc 0 then some (.iload_n 1, 1, 0, 0, 0) else none)
        else
          bif Nat.blt pc 4 then
            (bif Nat.beq pc 1 then some (.ifCond .lt (13), 14, 0, 0, 0) else none)
          else
            bif Nat.beq pc 4 then some (.iload_n 1, 1, 0, 0, 0) else none)
      else
        bif Nat.blt pc 7 then
          (bif Nat.beq pc 5 then some (.bipush 64, 0, 0, 0, 64) else none)
        else
          bif Nat.blt pc 10 then
            (bif Nat.beq pc 7 then some (.if_icmp .ge (7), 14, 0, 0, 0) else none)
          else
            bif Nat.beq pc 10 then some (.iconst 1, 0, 0, 0, 1) else none)
    else
      bif Nat.blt pc 16 then
        (bif Nat.blt pc 14 then
          (bif Nat.beq pc 11 then some (.goto 4, 15, 0, 0, 0) else none)
        else
          bif Nat.blt pc 15 then
            (bif Nat.beq pc 14 then some (.iconst 0, 0, 0, 0, 0) else none)
          else
            bif Nat.beq pc 15 then some (.istore_n 3, 3, 0, 0, 0) else none)
      else
        bif Nat.blt pc 20 then
          (bif Nat.blt pc 17 then
            (bif Nat.beq pc 16 then some (.aload_n 0, 0, 0, 0, 0) else none)
          else
            bif Nat.beq pc 17 then some (.getfield 31, 1, 5, 0, 0) else none)
        else
          bif Nat.blt pc 23 then
            (bif Nat.beq pc 20 then some (.ifCond .ne (24), 44, 0, 0, 0) else none)
          else
            bif Nat.beq pc 23 then some (.iload_n 3, 3, 0, 0, 0) else none)
  else
    bif Nat.blt pc 34 then
      (bif Nat.blt pc 31 then
        (bif Nat.blt pc 27 then
          (bif Nat.beq pc 24 then some (.ifCond .eq (20), 44, 0, 0, 0) else none)
        else
          bif Nat.blt pc 28 then
            (bif Nat.beq pc 27 then some (.aload_n 0, 0, 0, 0, 0) else none)
          else
            bif Nat.beq pc 28 then some (.getfield 9, 1, 0, 1, 0) else none)
      else
        bif Nat.blt pc 32 then
          (bif Nat.beq pc 31 then some (.iload_n 1, 1, 0, 0, 0) else none)
        else
          bif Nat.blt pc 33 then
            (bif Nat.beq pc 32 then some (.iaload, 0, 0, 0, 0) else none)
          else
            bif Nat.beq pc 33 then some (.iconst (-1), 0, 0, 0, -1) else none)
    else
      bif Nat.blt pc 41 then
        (bif Nat.blt pc 37 then
          (bif Nat.beq pc 34 then some (.if_icmp .ne (10), 44, 0, 0, 0) else none)
        else
          bif Nat.blt pc 38 then
            (bif Nat.beq pc 37 then some (.aload_n 0, 0, 0, 0, 0) else none)
          else
            bif Nat.beq pc 38 then some (.getfield 9, 1, 0, 1, 0) else none)
      else
        bif Nat.blt pc 43 then
          (bif Nat.blt pc 42 then
            (bif Nat.beq pc 41 then some (.iload_n 1, 1, 0, 0, 0) else none)
          else
            bif Nat.beq pc 42 then some (.iload_n 2, 2, 0, 0, 0) else none)
        else
          bif Nat.blt pc 44 then
            (bif Nat.beq pc 43 then some (.iastore, 0, 0, 0, 0) else none)
          else
            bif Nat.beq pc 44 then some (.return_, 0, 0, 0, 0) else none
def i_Inc_keep : Nat → Option Ent := ab_tab 45 t_Inc_keep
def h_Inc_keep (pc : Nat) : Nat × List Bool := bif Nat.beq pc 14 then (1, [true, true, true, false]) else bif Nat.beq pc 15 then (1, [true, true, true, false]) else (0, [])
def s_Inc_keep (pc : Nat) : List (Int32 × Nat) × Nat := ([], 0)
noncomputable def eV_Inc_keep : Nat → List AV → Mm → Option Mm := ab_ev []
noncomputable def eI_Inc_keep : Nat → List AV → Mm → Option (Int32 × Mm) := ab_ev []
noncomputable def b_Inc_keep_0 (f : Nat) (v0 : Nat) (v1 : Int32) (v2 : Int32) (m : Mm) : Option Rs := ab_ex KT none s_Inc_keep eV_Inc_keep eI_Inc_keep i_Inc_keep h_Inc_keep f 0 [some (.inr (.inr (15, some v0))), some (.inl v1), some (.inl v2), none] [] m
noncomputable def b_Inc_keep_14 (f : Nat) (v0 : Nat) (v1 : Int32) (v2 : Int32) (m : Mm) : Option Rs := ab_ex KT none s_Inc_keep eV_Inc_keep eI_Inc_keep i_Inc_keep h_Inc_keep f 14 [some (.inr (.inr (15, some v0))), some (.inl v1), some (.inl v2), none] [] m
noncomputable def b_Inc_keep_15 (f : Nat) (v0 : Nat) (v1 : Int32) (v2 : Int32) (u0 : Int32) (m : Mm) : Option Rs := ab_ex KT none s_Inc_keep eV_Inc_keep eI_Inc_keep i_Inc_keep h_Inc_keep f 15 [some (.inr (.inr (15, some v0))), some (.inl v1), some (.inl v2), none] [.inl u0] m
set_option maxRecDepth 100000 in
set_option maxHeartbeats 4000000 in
theorem b_Inc_keep_0_eq (f : Nat) (v0 : Nat) (v1 : Int32) (v2 : Int32) (m : Mm) : b_Inc_keep_0 (f + 1) v0 v1 v2 m =
    if v1 < 0 then
      b_Inc_keep_14 f v0 v1 v2 m
    else
      if (64 : Int32) ≤ v1 then
        b_Inc_keep_14 f v0 v1 v2 m
      else
        b_Inc_keep_15 f v0 v1 v2 (1 : Int32) m := rfl
set_option maxRecDepth 100000 in
set_option maxHeartbeats 4000000 in
theorem b_Inc_keep_14_eq (f : Nat) (v0 : Nat) (v1 : Int32) (v2 : Int32) (m : Mm) : b_Inc_keep_14 (f + 1) v0 v1 v2 m =
    b_Inc_keep_15 f v0 v1 v2 (0 : Int32) m := rfl
set_option maxRecDepth 100000 in
set_option maxHeartbeats 4000000 in
theorem b_Inc_keep_15_eq (f : Nat) (v0 : Nat) (v1 : Int32) (v2 : Int32) (u0 : Int32) (m : Mm) : b_Inc_keep_15 (f + 1) v0 v1 v2 u0 m =
    if (m.1 51 v0 0) = 0 then
      if u0 = 0 then
        some (.inl (none, m))
      else
        (ab_ix v1 64).bind fun i1 =>
        if (m.1 53 (v0 + 1) i1) = (-1 : Int32) then
          (ab_ix v1 64).bind fun i2 =>
          ab_let (ab_uI m 53 (v0 + 1) i2 v2) fun m3 =>
          some (.inl (none, m3))
        else
          some (.inl (none, m))
    else
      some (.inl (none, m)) := rfl
noncomputable def r_Inc_keep : Nat → Int32 → Int32 → Mm → Option Mm := ab_seal fun v0 v1 v2 m => ab_rV (b_Inc_keep_0 50000 v0 v1 v2 m)
theorem r_Inc_keep_eq (v0 : Nat) (v1 : Int32) (v2 : Int32) (m : Mm) : r_Inc_keep v0 v1 v2 m = ab_rV (b_Inc_keep_0 50000 v0 v1 v2 m) := by
  unfold r_Inc_keep
  rw [ab_seal_eq]
noncomputable def c_Inc_keep : List AV → Mm → Option Mm := fun av m => match av with
  | [.inr (.inr (kv0, ov0)), .inl v1, .inl v2] => if kv0 = 15 then (ov0.bind fun v0 => r_Inc_keep v0 v1 v2 m) else none
  | _ => none
theorem c_Inc_keep_inv {av : List AV} {m : Mm} {r : Mm} (h : c_Inc_keep av m = some r) : ∃ (v0 : Nat) (v1 : Int32) (v2 : Int32), av = [.inr (.inr (15, some v0)), .inl v1, .inl v2] ∧ r_Inc_keep v0 v1 v2 m = some r := by
  unfold c_Inc_keep at h
  split at h
  · rename_i kv0 ov0 v1 v2
    by_cases hkv0 : kv0 = 15
    case neg => rw [if_neg hkv0] at h; cases h
    rw [if_pos hkv0] at h
    subst hkv0
    obtain ⟨v0, hev0, h⟩ := Option.bind_eq_some_iff.mp h
    subst hev0
    exact ⟨v0, v1, v2, rfl, h⟩
  · cases h
def cs_Inc_keep : List Nat := []
set_option maxRecDepth 100000 in
theorem E_Inc_keep : ∀ (pc : Nat) (q : Ent), i_Inc_keep pc = some q → ab_E KT CL ab_gW "StreamTransport$Incoming" "keep" none prog_3_method_6_code s_Inc_keep 4 pc q.1 q.2.1 q.2.2.1 q.2.2.2.1 q.2.2.2.2 := fun pc q hq =>
  ab_Eb_ok lc_Inc lj_Inc fl_Inc (fpn_Inc "keep") nw_Inc na_Inc nq_Inc (ab_tab_all (t := t_Inc_keep) (chk := fun pc q => ab_Eb none prog_3_method_6_code s_Inc_keep 4 LC_Inc LJ_Inc FL_Inc FPn_Inc NW_Inc NA_Inc NQ_Inc pc q.1 q.2.1 q.2.2.1 q.2.2.2.1 q.2.2.2.2) (by decide +kernel) hq)
set_option maxRecDepth 100000 in
theorem kp_Inc_keep {av : List AV} {m : Mm} {r : Mm} (h : c_Inc_keep av m = some r) : ab_kp m r := by
  obtain ⟨v0, v1, v2, -, h⟩ := c_Inc_keep_inv h
  rw [r_Inc_keep_eq] at h
  have hV : ∀ a av m m', eV_Inc_keep a av m = some m' → ab_kp m m' := ab_ev_all (P := fun _ m r => ab_kp m r) [] (fun q hq => by cases hq)
  have hI : ∀ a av m q, eI_Inc_keep a av m = some q → ab_kp m q.2 := ab_ev_all (P := fun _ (m : Mm) (r : Int32 × Mm) => ab_kp m r.2) [] (fun q hq => by cases hq)
  exact ab_kprel (ρ := .inl (none, r)) (ab_tab_isn (t := t_Inc_keep) (by decide +kernel)) hV hI (ab_rV_inv h)
set_option maxRecDepth 100000 in
theorem cl_Inc_keep (l : Launch) : ∀ (pc : Nat) (q : Ent), i_Inc_keep pc = some q → ab_inv q.1 = true → ab_CR l KT CL none ab_gW "StreamTransport$Incoming" prog_3_method_6_code 4 0 0 eV_Inc_keep eI_Inc_keep pc q := by
  intro pc q hq hi
  have hm : pc ∈ cs_Inc_keep := ab_tab_cs (t := t_Inc_keep) (by decide +kernel) hq hi
  cases hm
theorem cw_Inc_keep : ab_cw y_Inc_keep prog_3_method_6_code 4 2 none := ⟨ab_gW_in 726 (by decide +kernel) rfl, ab_gW_in 67 (by decide +kernel) rfl, by decide +kernel, by decide +kernel, by decide +kernel⟩
theorem is_Inc_keep : Cond.instanceMethod y_Inc_keep ∈ ab_gW := ab_gW_in 724 (by decide +kernel) rfl
theorem sl_Inc_keep : Cond.selects "StreamTransport$Incoming" y_Inc_keep y_Inc_keep ∈ ab_gW := ab_gW_in 725 (by decide +kernel) rfl
set_option maxRecDepth 100000 in
theorem cm_Inc_keep (l : Launch) {av : List AV} {m : Mm} {r : Mm} (h0 : c_Inc_keep av m = some r) : ∃ (k q : Nat) (av' : List AV) (ci : Nat) (fs : List (Nat × Nat × Nat × Nat)) (z : vw_C), av = .inr (.inr (k, some q)) :: av' ∧ av'.length = 2 ∧ k ≠ 0 ∧ KT[k]? = some (.inl (ci, fs)) ∧ CL[ci]? = some z ∧ z.1 = "StreamTransport$Incoming" ∧ ab_nos av' ∧ ab_Met l KT CL y_Inc_keep (Cond.code y_Inc_keep prog_3_method_6_code 4 none :: ab_gW) 0 0 none av m none r := by
  obtain ⟨v0, v1, v2, hav, h⟩ := c_Inc_keep_inv h0
  rw [r_Inc_keep_eq] at h
  have hmo : ab_mo m r := ab_kp_mo (kp_Inc_keep h0)
  subst hav
  exact ⟨_, _, _, _, _, _, rfl, rfl, by decide, rfl, rfl, rfl, (by intro v hv q e; subst e; simp at hv), ab_met (by decide +kernel) KT_0 KT_nd KT_k3 E_Inc_keep (cl_Inc_keep l) hmo (Nat.le_of_ble_eq_true rfl) (ab_rV_inv h) (fun v hv => by cases hv)⟩
end
end
