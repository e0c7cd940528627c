section
-- ===== PART A: goes FIRST, ahead of the names: the tables' words, and 'selects' of the private methods out of them =====
/-- a private method of a class that the tables say can be made, by its rows of tables_1 -/
def lw_okq (q : MethodName × Nat) : Prop := (q.1.cls ≠ "java/lang/invoke/MethodHandle" ∧ q.1.cls ≠ "java/lang/invoke/VarHandle") ∧ Cond.instantiable q.1.cls q.2 ∈ tables_1 ∧ Cond.privateMethod q.1 ∈ tables_1 ∧ Cond.instanceMethod q.1 ∈ tables_1
theorem lw_p0 : lw_okq (⟨"SpoolLink$Packet", "fillHead", "(III)V"⟩, 2) := ⟨⟨by decide +kernel, by decide +kernel⟩, List.mem_of_getElem? (i := 29) (by decide +kernel), List.mem_of_getElem? (i := 289) (by decide +kernel), List.mem_of_getElem? (i := 290) (by decide +kernel)⟩
theorem lw_p1 : lw_okq (⟨"SpoolLink", "handOver", "(I)I"⟩, 4) := ⟨⟨by decide +kernel, by decide +kernel⟩, List.mem_of_getElem? (i := 14) (by decide +kernel), List.mem_of_getElem? (i := 297) (by decide +kernel), List.mem_of_getElem? (i := 298) (by decide +kernel)⟩
theorem lw_p2 : lw_okq (⟨"SpoolLink$Packet", "isMessageWellFormed", "()Z"⟩, 2) := ⟨⟨by decide +kernel, by decide +kernel⟩, List.mem_of_getElem? (i := 29) (by decide +kernel), List.mem_of_getElem? (i := 321) (by decide +kernel), List.mem_of_getElem? (i := 322) (by decide +kernel)⟩
theorem lw_p3 : lw_okq (⟨"SpoolLink$Packet", "sum", "()I"⟩, 2) := ⟨⟨by decide +kernel, by decide +kernel⟩, List.mem_of_getElem? (i := 29) (by decide +kernel), List.mem_of_getElem? (i := 325) (by decide +kernel), List.mem_of_getElem? (i := 326) (by decide +kernel)⟩
theorem lw_p4 : lw_okq (⟨"SpoolLink$Packet", "hasHead", "(III)Z"⟩, 2) := ⟨⟨by decide +kernel, by decide +kernel⟩, List.mem_of_getElem? (i := 29) (by decide +kernel), List.mem_of_getElem? (i := 330) (by decide +kernel), List.mem_of_getElem? (i := 331) (by decide +kernel)⟩
theorem lw_p5 : lw_okq (⟨"SpoolLink$Site", "isOpen", "()Z"⟩, 13) := ⟨⟨by decide +kernel, by decide +kernel⟩, List.mem_of_getElem? (i := 61) (by decide +kernel), List.mem_of_getElem? (i := 341) (by decide +kernel), List.mem_of_getElem? (i := 342) (by decide +kernel)⟩
theorem lw_p6 : lw_okq (⟨"SpoolLink$Site", "takeData", "(LSpoolLink$Packet;)V"⟩, 13) := ⟨⟨by decide +kernel, by decide +kernel⟩, List.mem_of_getElem? (i := 61) (by decide +kernel), List.mem_of_getElem? (i := 347) (by decide +kernel), List.mem_of_getElem? (i := 348) (by decide +kernel)⟩
theorem lw_p7 : lw_okq (⟨"SpoolLink$Site", "takeAcknowledgement", "(I)V"⟩, 13) := ⟨⟨by decide +kernel, by decide +kernel⟩, List.mem_of_getElem? (i := 61) (by decide +kernel), List.mem_of_getElem? (i := 355) (by decide +kernel), List.mem_of_getElem? (i := 356) (by decide +kernel)⟩
theorem lw_p8 : lw_okq (⟨"SpoolLink$Site", "sendOutFrom", "(I)V"⟩, 13) := ⟨⟨by decide +kernel, by decide +kernel⟩, List.mem_of_getElem? (i := 61) (by decide +kernel), List.mem_of_getElem? (i := 370) (by decide +kernel), List.mem_of_getElem? (i := 371) (by decide +kernel)⟩
theorem lw_p9 : lw_okq (⟨"SpoolLink$Site", "doAsMaster", "(LSpoolLink$Packet;)V"⟩, 13) := ⟨⟨by decide +kernel, by decide +kernel⟩, List.mem_of_getElem? (i := 61) (by decide +kernel), List.mem_of_getElem? (i := 386) (by decide +kernel), List.mem_of_getElem? (i := 387) (by decide +kernel)⟩
theorem lw_p10 : lw_okq (⟨"SpoolLink$Site", "goOn", "()V"⟩, 13) := ⟨⟨by decide +kernel, by decide +kernel⟩, List.mem_of_getElem? (i := 61) (by decide +kernel), List.mem_of_getElem? (i := 402) (by decide +kernel), List.mem_of_getElem? (i := 403) (by decide +kernel)⟩
theorem lw_p11 : lw_okq (⟨"SpoolLink$Site", "addFile", "()V"⟩, 13) := ⟨⟨by decide +kernel, by decide +kernel⟩, List.mem_of_getElem? (i := 61) (by decide +kernel), List.mem_of_getElem? (i := 418) (by decide +kernel), List.mem_of_getElem? (i := 419) (by decide +kernel)⟩
theorem lw_p12 : lw_okq (⟨"SpoolLink$Site", "doAsSlave", "(LSpoolLink$Packet;)V"⟩, 13) := ⟨⟨by decide +kernel, by decide +kernel⟩, List.mem_of_getElem? (i := 61) (by decide +kernel), List.mem_of_getElem? (i := 423) (by decide +kernel), List.mem_of_getElem? (i := 424) (by decide +kernel)⟩
theorem lw_p13 : lw_okq (⟨"SpoolLink$Site", "takeOffer", "(II)V"⟩, 13) := ⟨⟨by decide +kernel, by decide +kernel⟩, List.mem_of_getElem? (i := 61) (by decide +kernel), List.mem_of_getElem? (i := 427) (by decide +kernel), List.mem_of_getElem? (i := 428) (by decide +kernel)⟩
theorem lw_p14 : lw_okq (⟨"SpoolLink$Site", "executeWhatIsWhole", "()V"⟩, 13) := ⟨⟨by decide +kernel, by decide +kernel⟩, List.mem_of_getElem? (i := 61) (by decide +kernel), List.mem_of_getElem? (i := 449) (by decide +kernel), List.mem_of_getElem? (i := 450) (by decide +kernel)⟩
theorem lw_p15 : lw_okq (⟨"SpoolLink$Site", "takeInit", "(I)V"⟩, 13) := ⟨⟨by decide +kernel, by decide +kernel⟩, List.mem_of_getElem? (i := 61) (by decide +kernel), List.mem_of_getElem? (i := 467) (by decide +kernel), List.mem_of_getElem? (i := 468) (by decide +kernel)⟩
def lw_privs_1 : List (MethodName × Nat) := [(⟨"SpoolLink$Packet", "fillHead", "(III)V"⟩, 2), (⟨"SpoolLink", "handOver", "(I)I"⟩, 4), (⟨"SpoolLink$Packet", "isMessageWellFormed", "()Z"⟩, 2), (⟨"SpoolLink$Packet", "sum", "()I"⟩, 2), (⟨"SpoolLink$Packet", "hasHead", "(III)Z"⟩, 2), (⟨"SpoolLink$Site", "isOpen", "()Z"⟩, 13), (⟨"SpoolLink$Site", "takeData", "(LSpoolLink$Packet;)V"⟩, 13), (⟨"SpoolLink$Site", "takeAcknowledgement", "(I)V"⟩, 13), (⟨"SpoolLink$Site", "sendOutFrom", "(I)V"⟩, 13), (⟨"SpoolLink$Site", "doAsMaster", "(LSpoolLink$Packet;)V"⟩, 13), (⟨"SpoolLink$Site", "goOn", "()V"⟩, 13), (⟨"SpoolLink$Site", "addFile", "()V"⟩, 13), (⟨"SpoolLink$Site", "doAsSlave", "(LSpoolLink$Packet;)V"⟩, 13), (⟨"SpoolLink$Site", "takeOffer", "(II)V"⟩, 13), (⟨"SpoolLink$Site", "executeWhatIsWhole", "()V"⟩, 13), (⟨"SpoolLink$Site", "takeInit", "(I)V"⟩, 13)]
theorem lw_r1 : ∀ q ∈ lw_privs_1, lw_okq q := List.forall_mem_cons.mpr ⟨lw_p0, List.forall_mem_cons.mpr ⟨lw_p1, List.forall_mem_cons.mpr ⟨lw_p2, List.forall_mem_cons.mpr ⟨lw_p3, List.forall_mem_cons.mpr ⟨lw_p4, List.forall_mem_cons.mpr ⟨lw_p5, List.forall_mem_cons.mpr ⟨lw_p6, List.forall_mem_cons.mpr ⟨lw_p7, List.forall_mem_cons.mpr ⟨lw_p8, List.forall_mem_cons.mpr ⟨lw_p9, List.forall_mem_cons.mpr ⟨lw_p10, List.forall_mem_cons.mpr ⟨lw_p11, List.forall_mem_cons.mpr ⟨lw_p12, List.forall_mem_cons.mpr ⟨lw_p13, List.forall_mem_cons.mpr ⟨lw_p14, List.forall_mem_cons.mpr ⟨lw_p15, fun _ h => absurd h List.not_mem_nil⟩⟩⟩⟩⟩⟩⟩⟩⟩⟩⟩⟩⟩⟩⟩⟩
theorem lw_p16 : lw_okq (⟨"SpoolLink$Site", "takeAnswer", "(I)V"⟩, 13) := ⟨⟨by decide +kernel, by decide +kernel⟩, List.mem_of_getElem? (i := 61) (by decide +kernel), List.mem_of_getElem? (i := 471) (by decide +kernel), List.mem_of_getElem? (i := 472) (by decide +kernel)⟩
theorem lw_p17 : lw_okq (⟨"SpoolLink$Site", "takeControl", "(II)V"⟩, 13) := ⟨⟨by decide +kernel, by decide +kernel⟩, List.mem_of_getElem? (i := 61) (by decide +kernel), List.mem_of_getElem? (i := 475) (by decide +kernel), List.mem_of_getElem? (i := 476) (by decide +kernel)⟩
theorem lw_p18 : lw_okq (⟨"SpoolLink", "packetOn", "(II)LSpoolLink$Packet;"⟩, 4) := ⟨⟨by decide +kernel, by decide +kernel⟩, List.mem_of_getElem? (i := 14) (by decide +kernel), List.mem_of_getElem? (i := 483) (by decide +kernel), List.mem_of_getElem? (i := 484) (by decide +kernel)⟩
theorem lw_p19 : lw_okq (⟨"SpoolLink$Site", "passTickUnanswered", "()I"⟩, 13) := ⟨⟨by decide +kernel, by decide +kernel⟩, List.mem_of_getElem? (i := 61) (by decide +kernel), List.mem_of_getElem? (i := 499) (by decide +kernel), List.mem_of_getElem? (i := 500) (by decide +kernel)⟩
theorem lw_p20 : lw_okq (⟨"SpoolLink", "doneJob", "(II)LSpoolLink$Job;"⟩, 4) := ⟨⟨by decide +kernel, by decide +kernel⟩, List.mem_of_getElem? (i := 14) (by decide +kernel), List.mem_of_getElem? (i := 533) (by decide +kernel), List.mem_of_getElem? (i := 534) (by decide +kernel)⟩
theorem lw_p21 : lw_okq (⟨"SpoolLinkModel", "forget", "(II)V"⟩, 37) := ⟨⟨by decide +kernel, by decide +kernel⟩, List.mem_of_getElem? (i := 550) (by decide +kernel), List.mem_of_getElem? (i := 685) (by decide +kernel), List.mem_of_getElem? (i := 686) (by decide +kernel)⟩
theorem lw_p22 : lw_okq (⟨"SpoolLinkModel", "control", "(III)V"⟩, 37) := ⟨⟨by decide +kernel, by decide +kernel⟩, List.mem_of_getElem? (i := 550) (by decide +kernel), List.mem_of_getElem? (i := 689) (by decide +kernel), List.mem_of_getElem? (i := 690) (by decide +kernel)⟩
theorem lw_p23 : lw_okq (⟨"SpoolLinkModel", "head", "(II)V"⟩, 37) := ⟨⟨by decide +kernel, by decide +kernel⟩, List.mem_of_getElem? (i := 550) (by decide +kernel), List.mem_of_getElem? (i := 693) (by decide +kernel), List.mem_of_getElem? (i := 694) (by decide +kernel)⟩
theorem lw_p24 : lw_okq (⟨"SpoolLinkModel", "sum", "(I)I"⟩, 37) := ⟨⟨by decide +kernel, by decide +kernel⟩, List.mem_of_getElem? (i := 550) (by decide +kernel), List.mem_of_getElem? (i := 699) (by decide +kernel), List.mem_of_getElem? (i := 700) (by decide +kernel)⟩
theorem lw_p25 : lw_okq (⟨"SpoolLinkModel", "lay", "(I)V"⟩, 37) := ⟨⟨by decide +kernel, by decide +kernel⟩, List.mem_of_getElem? (i := 550) (by decide +kernel), List.mem_of_getElem? (i := 706) (by decide +kernel), List.mem_of_getElem? (i := 707) (by decide +kernel)⟩
theorem lw_p26 : lw_okq (⟨"SpoolLinkModel", "takeFirst", "(I)V"⟩, 37) := ⟨⟨by decide +kernel, by decide +kernel⟩, List.mem_of_getElem? (i := 550) (by decide +kernel), List.mem_of_getElem? (i := 714) (by decide +kernel), List.mem_of_getElem? (i := 715) (by decide +kernel)⟩
theorem lw_p27 : lw_okq (⟨"SpoolLinkModel", "isGood", "()Z"⟩, 37) := ⟨⟨by decide +kernel, by decide +kernel⟩, List.mem_of_getElem? (i := 550) (by decide +kernel), List.mem_of_getElem? (i := 718) (by decide +kernel), List.mem_of_getElem? (i := 719) (by decide +kernel)⟩
theorem lw_p28 : lw_okq (⟨"SpoolLinkModel", "come", "(I)V"⟩, 37) := ⟨⟨by decide +kernel, by decide +kernel⟩, List.mem_of_getElem? (i := 550) (by decide +kernel), List.mem_of_getElem? (i := 722) (by decide +kernel), List.mem_of_getElem? (i := 723) (by decide +kernel)⟩
theorem lw_p29 : lw_okq (⟨"SpoolLinkModel", "goOn", "(I)V"⟩, 37) := ⟨⟨by decide +kernel, by decide +kernel⟩, List.mem_of_getElem? (i := 550) (by decide +kernel), List.mem_of_getElem? (i := 726) (by decide +kernel), List.mem_of_getElem? (i := 727) (by decide +kernel)⟩
theorem lw_p30 : lw_okq (⟨"SpoolLinkModel", "say", "(II)V"⟩, 37) := ⟨⟨by decide +kernel, by decide +kernel⟩, List.mem_of_getElem? (i := 550) (by decide +kernel), List.mem_of_getElem? (i := 730) (by decide +kernel), List.mem_of_getElem? (i := 731) (by decide +kernel)⟩
theorem lw_p31 : lw_okq (⟨"SpoolLinkModel", "begin", "(I)V"⟩, 37) := ⟨⟨by decide +kernel, by decide +kernel⟩, List.mem_of_getElem? (i := 550) (by decide +kernel), List.mem_of_getElem? (i := 734) (by decide +kernel), List.mem_of_getElem? (i := 735) (by decide +kernel)⟩
def lw_privs_2 : List (MethodName × Nat) := [(⟨"SpoolLink$Site", "takeAnswer", "(I)V"⟩, 13), (⟨"SpoolLink$Site", "takeControl", "(II)V"⟩, 13), (⟨"SpoolLink", "packetOn", "(II)LSpoolLink$Packet;"⟩, 4), (⟨"SpoolLink$Site", "passTickUnanswered", "()I"⟩, 13), (⟨"SpoolLink", "doneJob", "(II)LSpoolLink$Job;"⟩, 4), (⟨"SpoolLinkModel", "forget", "(II)V"⟩, 37), (⟨"SpoolLinkModel", "control", "(III)V"⟩, 37), (⟨"SpoolLinkModel", "head", "(II)V"⟩, 37), (⟨"SpoolLinkModel", "sum", "(I)I"⟩, 37), (⟨"SpoolLinkModel", "lay", "(I)V"⟩, 37), (⟨"SpoolLinkModel", "takeFirst", "(I)V"⟩, 37), (⟨"SpoolLinkModel", "isGood", "()Z"⟩, 37), (⟨"SpoolLinkModel", "come", "(I)V"⟩, 37), (⟨"SpoolLinkModel", "goOn", "(I)V"⟩, 37), (⟨"SpoolLinkModel", "say", "(II)V"⟩, 37), (⟨"SpoolLinkModel", "begin", "(I)V"⟩, 37)]
theorem lw_r2 : ∀ q ∈ lw_privs_2, lw_okq q := List.forall_mem_cons.mpr ⟨lw_p16, List.forall_mem_cons.mpr ⟨lw_p17, List.forall_mem_cons.mpr ⟨lw_p18, List.forall_mem_cons.mpr ⟨lw_p19, List.forall_mem_cons.mpr ⟨lw_p20, List.forall_mem_cons.mpr ⟨lw_p21, List.forall_mem_cons.mpr ⟨lw_p22, List.forall_mem_cons.mpr ⟨lw_p23, List.forall_mem_cons.mpr ⟨lw_p24, List.forall_mem_cons.mpr ⟨lw_p25, List.forall_mem_cons.mpr ⟨lw_p26, List.forall_mem_cons.mpr ⟨lw_p27, List.forall_mem_cons.mpr ⟨lw_p28, List.forall_mem_cons.mpr ⟨lw_p29, List.forall_mem_cons.mpr ⟨lw_p30, List.forall_mem_cons.mpr ⟨lw_p31, fun _ h => absurd h List.not_mem_nil⟩⟩⟩⟩⟩⟩⟩⟩⟩⟩⟩⟩⟩⟩⟩⟩
theorem lw_p32 : lw_okq (⟨"SpoolLinkModel", "send", "(I)V"⟩, 37) := ⟨⟨by decide +kernel, by decide +kernel⟩, List.mem_of_getElem? (i := 550) (by decide +kernel), List.mem_of_getElem? (i := 738) (by decide +kernel), List.mem_of_getElem? (i := 739) (by decide +kernel)⟩
theorem lw_p33 : lw_okq (⟨"SpoolLinkModel", "flow", "(I)V"⟩, 37) := ⟨⟨by decide +kernel, by decide +kernel⟩, List.mem_of_getElem? (i := 550) (by decide +kernel), List.mem_of_getElem? (i := 742) (by decide +kernel), List.mem_of_getElem? (i := 743) (by decide +kernel)⟩
theorem lw_p34 : lw_okq (⟨"SpoolLinkModel", "data", "(II)V"⟩, 37) := ⟨⟨by decide +kernel, by decide +kernel⟩, List.mem_of_getElem? (i := 550) (by decide +kernel), List.mem_of_getElem? (i := 746) (by decide +kernel), List.mem_of_getElem? (i := 747) (by decide +kernel)⟩
theorem lw_p35 : lw_okq (⟨"SpoolLinkModel", "more", "(I)V"⟩, 37) := ⟨⟨by decide +kernel, by decide +kernel⟩, List.mem_of_getElem? (i := 550) (by decide +kernel), List.mem_of_getElem? (i := 750) (by decide +kernel), List.mem_of_getElem? (i := 751) (by decide +kernel)⟩
theorem lw_p36 : lw_okq (⟨"SpoolLinkModel", "acknowledge", "(II)V"⟩, 37) := ⟨⟨by decide +kernel, by decide +kernel⟩, List.mem_of_getElem? (i := 550) (by decide +kernel), List.mem_of_getElem? (i := 754) (by decide +kernel), List.mem_of_getElem? (i := 755) (by decide +kernel)⟩
theorem lw_p37 : lw_okq (⟨"SpoolLinkModel", "sendAgain", "(I)V"⟩, 37) := ⟨⟨by decide +kernel, by decide +kernel⟩, List.mem_of_getElem? (i := 550) (by decide +kernel), List.mem_of_getElem? (i := 758) (by decide +kernel), List.mem_of_getElem? (i := 759) (by decide +kernel)⟩
theorem lw_p38 : lw_okq (⟨"SpoolLinkModel", "done", "(I)V"⟩, 37) := ⟨⟨by decide +kernel, by decide +kernel⟩, List.mem_of_getElem? (i := 550) (by decide +kernel), List.mem_of_getElem? (i := 762) (by decide +kernel), List.mem_of_getElem? (i := 763) (by decide +kernel)⟩
theorem lw_p39 : lw_okq (⟨"SpoolLinkModel", "leave", "(I)V"⟩, 37) := ⟨⟨by decide +kernel, by decide +kernel⟩, List.mem_of_getElem? (i := 550) (by decide +kernel), List.mem_of_getElem? (i := 766) (by decide +kernel), List.mem_of_getElem? (i := 767) (by decide +kernel)⟩
theorem lw_p40 : lw_okq (⟨"SpoolLinkModel", "sendFile", "(I)V"⟩, 37) := ⟨⟨by decide +kernel, by decide +kernel⟩, List.mem_of_getElem? (i := 550) (by decide +kernel), List.mem_of_getElem? (i := 770) (by decide +kernel), List.mem_of_getElem? (i := 771) (by decide +kernel)⟩
theorem lw_p41 : lw_okq (⟨"SpoolLinkModel", "offered", "(III)V"⟩, 37) := ⟨⟨by decide +kernel, by decide +kernel⟩, List.mem_of_getElem? (i := 550) (by decide +kernel), List.mem_of_getElem? (i := 774) (by decide +kernel), List.mem_of_getElem? (i := 775) (by decide +kernel)⟩
theorem lw_p42 : lw_okq (⟨"SpoolLinkModel", "isExecuted", "(II)Z"⟩, 37) := ⟨⟨by decide +kernel, by decide +kernel⟩, List.mem_of_getElem? (i := 550) (by decide +kernel), List.mem_of_getElem? (i := 778) (by decide +kernel), List.mem_of_getElem? (i := 779) (by decide +kernel)⟩
theorem lw_p43 : lw_okq (⟨"SpoolLinkModel", "execute", "(I)V"⟩, 37) := ⟨⟨by decide +kernel, by decide +kernel⟩, List.mem_of_getElem? (i := 550) (by decide +kernel), List.mem_of_getElem? (i := 782) (by decide +kernel), List.mem_of_getElem? (i := 783) (by decide +kernel)⟩
theorem lw_p44 : lw_okq (⟨"SpoolLinkModel", "tickOf", "(I)I"⟩, 37) := ⟨⟨by decide +kernel, by decide +kernel⟩, List.mem_of_getElem? (i := 550) (by decide +kernel), List.mem_of_getElem? (i := 798) (by decide +kernel), List.mem_of_getElem? (i := 799) (by decide +kernel)⟩
def lw_privs_3 : List (MethodName × Nat) := [(⟨"SpoolLinkModel", "send", "(I)V"⟩, 37), (⟨"SpoolLinkModel", "flow", "(I)V"⟩, 37), (⟨"SpoolLinkModel", "data", "(II)V"⟩, 37), (⟨"SpoolLinkModel", "more", "(I)V"⟩, 37), (⟨"SpoolLinkModel", "acknowledge", "(II)V"⟩, 37), (⟨"SpoolLinkModel", "sendAgain", "(I)V"⟩, 37), (⟨"SpoolLinkModel", "done", "(I)V"⟩, 37), (⟨"SpoolLinkModel", "leave", "(I)V"⟩, 37), (⟨"SpoolLinkModel", "sendFile", "(I)V"⟩, 37), (⟨"SpoolLinkModel", "offered", "(III)V"⟩, 37), (⟨"SpoolLinkModel", "isExecuted", "(II)Z"⟩, 37), (⟨"SpoolLinkModel", "execute", "(I)V"⟩, 37), (⟨"SpoolLinkModel", "tickOf", "(I)I"⟩, 37)]
theorem lw_r3 : ∀ q ∈ lw_privs_3, lw_okq q := List.forall_mem_cons.mpr ⟨lw_p32, List.forall_mem_cons.mpr ⟨lw_p33, List.forall_mem_cons.mpr ⟨lw_p34, List.forall_mem_cons.mpr ⟨lw_p35, List.forall_mem_cons.mpr ⟨lw_p36, List.forall_mem_cons.mpr ⟨lw_p37, List.forall_mem_cons.mpr ⟨lw_p38, List.forall_mem_cons.mpr ⟨lw_p39, List.forall_mem_cons.mpr ⟨lw_p40, List.forall_mem_cons.mpr ⟨lw_p41, List.forall_mem_cons.mpr ⟨lw_p42, List.forall_mem_cons.mpr ⟨lw_p43, List.forall_mem_cons.mpr ⟨lw_p44, fun _ h => absurd h List.not_mem_nil⟩⟩⟩⟩⟩⟩⟩⟩⟩⟩⟩⟩⟩
def lw_privs : List (MethodName × Nat) := lw_privs_1 ++ (lw_privs_2 ++ (lw_privs_3))
def lw_tbl : List Cond := k2_sels lw_privs ++ tables_1
theorem lw_privs_ok : ∀ q ∈ lw_privs, lw_okq q := by
  show ∀ q ∈ lw_privs_1 ++ (lw_privs_2 ++ (lw_privs_3)), lw_okq q
  exact List.forall_mem_append.mpr ⟨lw_r1, List.forall_mem_append.mpr ⟨lw_r2, lw_r3⟩⟩
end
section
def RX0 : String := "SpoolLink$Disk"
def TX0 : u_T := fun k => match k with
  | 0 => ("SpoolLink$Disk", "jobs", "[LSpoolLink$Job;", true)
  | 1 => ("SpoolLink$Disk", "jobsGone", "I", false)
  | 2 => ("SpoolLink$Disk", "jobsHad", "I", false)
  | 3 => ("SpoolLink$Disk", "done", "[LSpoolLink$Job;", true)
  | 4 => ("SpoolLink$Disk", "doneCount", "I", false)
  | _ => ("SpoolLink$Disk", "callsBegun", "I", false)
def tyX0 : Nat → FieldType := fun k => match k with
  | 0 => .array (.object "SpoolLink$Job")
  | 1 => .int
  | 2 => .int
  | 3 => .array (.object "SpoolLink$Job")
  | 4 => .int
  | _ => .int
abbrev wsX00 : List Cond := u_ws RX0 TX0 6
theorem nmX0 : ∀ a, a < 6 → ∀ b, b < 6 → a ≠ b → (TX0 a).2.1 ≠ (TX0 b).2.1 := by decide +kernel
theorem tyX0_ok : ∀ k, k < 6 → parseFieldDescriptor (TX0 k).2.2.1 = some (tyX0 k) := by decide +kernel
abbrev cX0_init : ByteArray := prog_2_method_1_code
def yX0_init : MethodName := ⟨RX0, "<init>", "()V"⟩
abbrev cX0_jobsLeft : ByteArray := prog_2_method_2_code
def yX0_jobsLeft : MethodName := ⟨RX0, "jobsLeft", "()I"⟩
abbrev cX0_addJob : ByteArray := prog_2_method_3_code
def yX0_addJob : MethodName := ⟨RX0, "addJob", "([II)I"⟩
abbrev cX0_firstJob : ByteArray := prog_2_method_4_code
def yX0_firstJob : MethodName := ⟨RX0, "firstJob", "()LSpoolLink$Job;"⟩
abbrev cX0_dropFirstJob : ByteArray := prog_2_method_5_code
def yX0_dropFirstJob : MethodName := ⟨RX0, "dropFirstJob", "()Z"⟩
abbrev cX0_hasDone : ByteArray := prog_2_method_6_code
def yX0_hasDone : MethodName := ⟨RX0, "hasDone", "(I)Z"⟩
abbrev cX0_addDone : ByteArray := prog_2_method_7_code
def yX0_addDone : MethodName := ⟨RX0, "addDone", "(LSpoolLink$Job;)V"⟩
abbrev cX0_doneJob : ByteArray := prog_2_method_8_code
def yX0_doneJob : MethodName := ⟨RX0, "doneJob", "(I)LSpoolLink$Job;"⟩
def RX1 : String := "SpoolLink$Intake"
def TX1 : u_T := fun k => match k with
  | 0 => ("SpoolLink$Intake", "bytes", "[I", true)
  | 1 => ("SpoolLink$Intake", "taking", "Z", false)
  | 2 => ("SpoolLink$Intake", "number", "I", false)
  | 3 => ("SpoolLink$Intake", "length", "I", false)
  | _ => ("SpoolLink$Intake", "took", "I", false)
def tyX1 : Nat → FieldType := fun k => match k with
  | 0 => .array .int
  | 1 => .boolean
  | 2 => .int
  | 3 => .int
  | _ => .int
abbrev wsX10 : List Cond := u_ws RX1 TX1 5
theorem nmX1 : ∀ a, a < 5 → ∀ b, b < 5 → a ≠ b → (TX1 a).2.1 ≠ (TX1 b).2.1 := by decide +kernel
theorem tyX1_ok : ∀ k, k < 5 → parseFieldDescriptor (TX1 k).2.2.1 = some (tyX1 k) := by decide +kernel
abbrev cX1_init : ByteArray := prog_3_method_1_code
def yX1_init : MethodName := ⟨RX1, "<init>", "()V"⟩
abbrev cX1_forget : ByteArray := prog_3_method_2_code
def yX1_forget : MethodName := ⟨RX1, "forget", "()V"⟩
abbrev cX1_begin : ByteArray := prog_3_method_3_code
def yX1_begin : MethodName := ⟨RX1, "begin", "(II)V"⟩
abbrev cX1_takePart : ByteArray := prog_3_method_4_code
def yX1_takePart : MethodName := ⟨RX1, "takePart", "(LSpoolLink$Packet;)V"⟩
abbrev cX1_isWhole : ByteArray := prog_3_method_5_code
def yX1_isWhole : MethodName := ⟨RX1, "isWhole", "()Z"⟩
abbrev cX1_job : ByteArray := prog_3_method_6_code
def yX1_job : MethodName := ⟨RX1, "job", "()LSpoolLink$Job;"⟩
def RX2 : String := "SpoolLink$Job"
def TX2 : u_T := fun k => match k with
  | 0 => ("SpoolLink$Job", "number", "I", true)
  | _ => ("SpoolLink$Job", "bytes", "[I", true)
def tyX2 : Nat → FieldType := fun k => match k with
  | 0 => .int
  | _ => .array .int
abbrev wsX20 : List Cond := u_ws RX2 TX2 2
theorem nmX2 : ∀ a, a < 2 → ∀ b, b < 2 → a ≠ b → (TX2 a).2.1 ≠ (TX2 b).2.1 := by decide +kernel
theorem tyX2_ok : ∀ k, k < 2 → parseFieldDescriptor (TX2 k).2.2.1 = some (tyX2 k) := by decide +kernel
abbrev cX2_init : ByteArray := prog_4_method_1_code
def yX2_init : MethodName := ⟨RX2, "<init>", "(I[II)V"⟩
def RX3 : String := "SpoolLink$Message"
def TX3 : u_T := fun k => match k with
  | 0 => ("SpoolLink$Message", "bytes", "[I", true)
  | _ => ("SpoolLink$Message", "length", "I", false)
def tyX3 : Nat → FieldType := fun k => match k with
  | 0 => .array .int
  | _ => .int
abbrev wsX30 : List Cond := u_ws RX3 TX3 2
theorem nmX3 : ∀ a, a < 2 → ∀ b, b < 2 → a ≠ b → (TX3 a).2.1 ≠ (TX3 b).2.1 := by decide +kernel
theorem tyX3_ok : ∀ k, k < 2 → parseFieldDescriptor (TX3 k).2.2.1 = some (tyX3 k) := by decide +kernel
abbrev cX3_init : ByteArray := prog_5_method_1_code
def yX3_init : MethodName := ⟨RX3, "<init>", "()V"⟩
abbrev cX3_append : ByteArray := prog_5_method_2_code
def yX3_append : MethodName := ⟨RX3, "append", "(I)V"⟩
def RX4 : String := "SpoolLink$Packet"
def TX4 : u_T := fun k => match k with
  | 0 => ("SpoolLink$Packet", "bytes", "[I", true)
  | _ => ("SpoolLink$Packet", "length", "I", false)
def tyX4 : Nat → FieldType := fun k => match k with
  | 0 => .array .int
  | _ => .int
abbrev wsX40 : List Cond := u_ws RX4 TX4 2
theorem nmX4 : ∀ a, a < 2 → ∀ b, b < 2 → a ≠ b → (TX4 a).2.1 ≠ (TX4 b).2.1 := by decide +kernel
theorem tyX4_ok : ∀ k, k < 2 → parseFieldDescriptor (TX4 k).2.2.1 = some (tyX4 k) := by decide +kernel
abbrev cX4_init : ByteArray := prog_6_method_1_code
def yX4_init : MethodName := ⟨RX4, "<init>", "()V"⟩
abbrev cX4_fillControl : ByteArray := prog_6_method_2_code
def yX4_fillControl : MethodName := ⟨RX4, "fillControl", "(II)V"⟩
abbrev cX4_fillData : ByteArray := prog_6_method_3_code
def yX4_fillData : MethodName := ⟨RX4, "fillData", "(IILSpoolLink$Message;)V"⟩
abbrev cX4_isData : ByteArray := prog_6_method_4_code
def yX4_isData : MethodName := ⟨RX4, "isData", "()Z"⟩
abbrev cX4_x : ByteArray := prog_6_method_5_code
def yX4_x : MethodName := ⟨RX4, "x", "()I"⟩
abbrev cX4_y : ByteArray := prog_6_method_6_code
def yX4_y : MethodName := ⟨RX4, "y", "()I"⟩
abbrev cX4_messageLength : ByteArray := prog_6_method_7_code
def yX4_messageLength : MethodName := ⟨RX4, "messageLength", "()I"⟩
abbrev cX4_messageByte : ByteArray := prog_6_method_8_code
def yX4_messageByte : MethodName := ⟨RX4, "messageByte", "(I)I"⟩
abbrev cX4_isGood : ByteArray := prog_6_method_9_code
def yX4_isGood : MethodName := ⟨RX4, "isGood", "()Z"⟩
abbrev cX4_fillHead : ByteArray := prog_6_method_10_code
def yX4_fillHead : MethodName := ⟨RX4, "fillHead", "(III)V"⟩
abbrev cX4_hasHead : ByteArray := prog_6_method_11_code
def yX4_hasHead : MethodName := ⟨RX4, "hasHead", "(III)Z"⟩
abbrev cX4_isControl : ByteArray := prog_6_method_12_code
def yX4_isControl : MethodName := ⟨RX4, "isControl", "(I)Z"⟩
abbrev cX4_isMessageWellFormed : ByteArray := prog_6_method_13_code
def yX4_isMessageWellFormed : MethodName := ⟨RX4, "isMessageWellFormed", "()Z"⟩
abbrev cX4_sum : ByteArray := prog_6_method_14_code
def yX4_sum : MethodName := ⟨RX4, "sum", "()I"⟩
def RX5 : String := "SpoolLink$Site"
def TX5 : u_T := fun k => match k with
  | 0 => ("SpoolLink$Site", "place", "I", true)
  | 1 => ("SpoolLink$Site", "wire", "LSpoolLink$Wire;", true)
  | 2 => ("SpoolLink$Site", "disk", "LSpoolLink$Disk;", true)
  | 3 => ("SpoolLink$Site", "window", "LSpoolLink$Window;", true)
  | 4 => ("SpoolLink$Site", "intake", "LSpoolLink$Intake;", true)
  | 5 => ("SpoolLink$Site", "state", "I", false)
  | 6 => ("SpoolLink$Site", "callY", "I", false)
  | 7 => ("SpoolLink$Site", "openedByY", "I", false)
  | 8 => ("SpoolLink$Site", "accepted", "I", false)
  | 9 => ("SpoolLink$Site", "hasAccepted", "Z", false)
  | 10 => ("SpoolLink$Site", "ticks", "I", false)
  | 11 => ("SpoolLink$Site", "timesSentAgain", "I", false)
  | _ => ("SpoolLink$Site", "quietTicks", "I", false)
def tyX5 : Nat → FieldType := fun k => match k with
  | 0 => .int
  | 1 => .object "SpoolLink$Wire"
  | 2 => .object "SpoolLink$Disk"
  | 3 => .object "SpoolLink$Window"
  | 4 => .object "SpoolLink$Intake"
  | 5 => .int
  | 6 => .int
  | 7 => .int
  | 8 => .int
  | 9 => .boolean
  | 10 => .int
  | 11 => .int
  | _ => .int
abbrev wsX50 : List Cond := u_ws RX5 TX5 13
theorem nmX5 : ∀ a, a < 13 → ∀ b, b < 13 → a ≠ b → (TX5 a).2.1 ≠ (TX5 b).2.1 := by decide +kernel
theorem tyX5_ok : ∀ k, k < 13 → parseFieldDescriptor (TX5 k).2.2.1 = some (tyX5 k) := by decide +kernel
abbrev cX5_init : ByteArray := prog_7_method_1_code
def yX5_init : MethodName := ⟨RX5, "<init>", "(ILSpoolLink$Wire;)V"⟩
abbrev cX5_begin : ByteArray := prog_7_method_2_code
def yX5_begin : MethodName := ⟨RX5, "begin", "(I)V"⟩
abbrev cX5_beginCall : ByteArray := prog_7_method_3_code
def yX5_beginCall : MethodName := ⟨RX5, "beginCall", "()V"⟩
abbrev cX5_passTick : ByteArray := prog_7_method_4_code
def yX5_passTick : MethodName := ⟨RX5, "passTick", "()I"⟩
abbrev cX5_receive : ByteArray := prog_7_method_5_code
def yX5_receive : MethodName := ⟨RX5, "receive", "(LSpoolLink$Packet;)Z"⟩
abbrev cX5_isOpen : ByteArray := prog_7_method_6_code
def yX5_isOpen : MethodName := ⟨RX5, "isOpen", "()Z"⟩
abbrev cX5_passTickUnanswered : ByteArray := prog_7_method_7_code
def yX5_passTickUnanswered : MethodName := ⟨RX5, "passTickUnanswered", "()I"⟩
abbrev cX5_sendOutFrom : ByteArray := prog_7_method_8_code
def yX5_sendOutFrom : MethodName := ⟨RX5, "sendOutFrom", "(I)V"⟩
abbrev cX5_takeInit : ByteArray := prog_7_method_9_code
def yX5_takeInit : MethodName := ⟨RX5, "takeInit", "(I)V"⟩
abbrev cX5_takeAnswer : ByteArray := prog_7_method_10_code
def yX5_takeAnswer : MethodName := ⟨RX5, "takeAnswer", "(I)V"⟩
abbrev cX5_takeControl : ByteArray := prog_7_method_11_code
def yX5_takeControl : MethodName := ⟨RX5, "takeControl", "(II)V"⟩
abbrev cX5_takeAcknowledgement : ByteArray := prog_7_method_12_code
def yX5_takeAcknowledgement : MethodName := ⟨RX5, "takeAcknowledgement", "(I)V"⟩
abbrev cX5_takeData : ByteArray := prog_7_method_13_code
def yX5_takeData : MethodName := ⟨RX5, "takeData", "(LSpoolLink$Packet;)V"⟩
abbrev cX5_doAsMaster : ByteArray := prog_7_method_14_code
def yX5_doAsMaster : MethodName := ⟨RX5, "doAsMaster", "(LSpoolLink$Packet;)V"⟩
abbrev cX5_doAsSlave : ByteArray := prog_7_method_15_code
def yX5_doAsSlave : MethodName := ⟨RX5, "doAsSlave", "(LSpoolLink$Packet;)V"⟩
abbrev cX5_takeOffer : ByteArray := prog_7_method_16_code
def yX5_takeOffer : MethodName := ⟨RX5, "takeOffer", "(II)V"⟩
abbrev cX5_executeWhatIsWhole : ByteArray := prog_7_method_17_code
def yX5_executeWhatIsWhole : MethodName := ⟨RX5, "executeWhatIsWhole", "()V"⟩
abbrev cX5_goOn : ByteArray := prog_7_method_18_code
def yX5_goOn : MethodName := ⟨RX5, "goOn", "()V"⟩
abbrev cX5_addFile : ByteArray := prog_7_method_19_code
def yX5_addFile : MethodName := ⟨RX5, "addFile", "()V"⟩
def RX6 : String := "SpoolLink$Window"
def TX6 : u_T := fun k => match k with
  | 0 => ("SpoolLink$Window", "ring", "[LSpoolLink$Message;", true)
  | 1 => ("SpoolLink$Window", "first", "I", false)
  | 2 => ("SpoolLink$Window", "oldest", "I", false)
  | 3 => ("SpoolLink$Window", "out", "I", false)
  | _ => ("SpoolLink$Window", "behind", "I", false)
def tyX6 : Nat → FieldType := fun k => match k with
  | 0 => .array (.object "SpoolLink$Message")
  | 1 => .int
  | 2 => .int
  | 3 => .int
  | _ => .int
abbrev wsX60 : List Cond := u_ws RX6 TX6 5
theorem nmX6 : ∀ a, a < 5 → ∀ b, b < 5 → a ≠ b → (TX6 a).2.1 ≠ (TX6 b).2.1 := by decide +kernel
theorem tyX6_ok : ∀ k, k < 5 → parseFieldDescriptor (TX6 k).2.2.1 = some (tyX6 k) := by decide +kernel
abbrev cX6_init : ByteArray := prog_8_method_1_code
def yX6_init : MethodName := ⟨RX6, "<init>", "()V"⟩
abbrev cX6_clear : ByteArray := prog_8_method_2_code
def yX6_clear : MethodName := ⟨RX6, "clear", "()V"⟩
abbrev cX6_add : ByteArray := prog_8_method_3_code
def yX6_add : MethodName := ⟨RX6, "add", "(I)LSpoolLink$Message;"⟩
abbrev cX6_letOut : ByteArray := prog_8_method_4_code
def yX6_letOut : MethodName := ⟨RX6, "letOut", "()I"⟩
abbrev cX6_acknowledge : ByteArray := prog_8_method_5_code
def yX6_acknowledge : MethodName := ⟨RX6, "acknowledge", "(I)Z"⟩
abbrev cX6_number : ByteArray := prog_8_method_6_code
def yX6_number : MethodName := ⟨RX6, "number", "(I)I"⟩
abbrev cX6_message : ByteArray := prog_8_method_7_code
def yX6_message : MethodName := ⟨RX6, "message", "(I)LSpoolLink$Message;"⟩
def RX7 : String := "SpoolLink$Wire"
def TX7 : u_T := fun k => match k with
  | 0 => ("SpoolLink$Wire", "ring", "[LSpoolLink$Packet;", true)
  | 1 => ("SpoolLink$Wire", "lost", "LSpoolLink$Packet;", true)
  | 2 => ("SpoolLink$Wire", "first", "I", false)
  | _ => ("SpoolLink$Wire", "count", "I", false)
def tyX7 : Nat → FieldType := fun k => match k with
  | 0 => .array (.object "SpoolLink$Packet")
  | 1 => .object "SpoolLink$Packet"
  | 2 => .int
  | _ => .int
abbrev wsX70 : List Cond := u_ws RX7 TX7 4
theorem nmX7 : ∀ a, a < 4 → ∀ b, b < 4 → a ≠ b → (TX7 a).2.1 ≠ (TX7 b).2.1 := by decide +kernel
theorem tyX7_ok : ∀ k, k < 4 → parseFieldDescriptor (TX7 k).2.2.1 = some (tyX7 k) := by decide +kernel
abbrev cX7_init : ByteArray := prog_9_method_1_code
def yX7_init : MethodName := ⟨RX7, "<init>", "()V"⟩
abbrev cX7_packet : ByteArray := prog_9_method_2_code
def yX7_packet : MethodName := ⟨RX7, "packet", "(I)LSpoolLink$Packet;"⟩
abbrev cX7_add : ByteArray := prog_9_method_3_code
def yX7_add : MethodName := ⟨RX7, "add", "()LSpoolLink$Packet;"⟩
abbrev cX7_dropFirst : ByteArray := prog_9_method_4_code
def yX7_dropFirst : MethodName := ⟨RX7, "dropFirst", "()V"⟩
abbrev cX7_clear : ByteArray := prog_9_method_5_code
def yX7_clear : MethodName := ⟨RX7, "clear", "()V"⟩
def RX8 : String := "SpoolLink"
def TX8 : u_T := fun k => match k with
  | 0 => ("SpoolLink", "wires", "[LSpoolLink$Wire;", true)
  | 1 => ("SpoolLink", "sites", "[LSpoolLink$Site;", true)
  | 2 => ("SpoolLink", "nextFile", "[I", true)
  | _ => ("SpoolLink", "nextLength", "I", false)
def tyX8 : Nat → FieldType := fun k => match k with
  | 0 => .array (.object "SpoolLink$Wire")
  | 1 => .array (.object "SpoolLink$Site")
  | 2 => .array .int
  | _ => .int
abbrev wsX80 : List Cond := u_ws RX8 TX8 4
theorem nmX8 : ∀ a, a < 4 → ∀ b, b < 4 → a ≠ b → (TX8 a).2.1 ≠ (TX8 b).2.1 := by decide +kernel
theorem tyX8_ok : ∀ k, k < 4 → parseFieldDescriptor (TX8 k).2.2.1 = some (tyX8 k) := by decide +kernel
abbrev cX8_init : ByteArray := prog_1_method_1_code
def yX8_init : MethodName := ⟨RX8, "<init>", "()V"⟩
abbrev cX8_put : ByteArray := prog_1_method_2_code
def yX8_put : MethodName := ⟨RX8, "put", "(I)I"⟩
abbrev cX8_queue : ByteArray := prog_1_method_3_code
def yX8_queue : MethodName := ⟨RX8, "queue", "(I)I"⟩
abbrev cX8_call : ByteArray := prog_1_method_4_code
def yX8_call : MethodName := ⟨RX8, "call", "(I)Z"⟩
abbrev cX8_deliver : ByteArray := prog_1_method_5_code
def yX8_deliver : MethodName := ⟨RX8, "deliver", "(I)I"⟩
abbrev cX8_lose : ByteArray := prog_1_method_6_code
def yX8_lose : MethodName := ⟨RX8, "lose", "(I)Z"⟩
abbrev cX8_alter : ByteArray := prog_1_method_7_code
def yX8_alter : MethodName := ⟨RX8, "alter", "(III)Z"⟩
abbrev cX8_tick : ByteArray := prog_1_method_8_code
def yX8_tick : MethodName := ⟨RX8, "tick", "()I"⟩
abbrev cX8_crash : ByteArray := prog_1_method_9_code
def yX8_crash : MethodName := ⟨RX8, "crash", "(I)Z"⟩
abbrev cX8_settle : ByteArray := prog_1_method_10_code
def yX8_settle : MethodName := ⟨RX8, "settle", "(I)I"⟩
abbrev cX8_waiting : ByteArray := prog_1_method_11_code
def yX8_waiting : MethodName := ⟨RX8, "waiting", "(I)I"⟩
abbrev cX8_look : ByteArray := prog_1_method_12_code
def yX8_look : MethodName := ⟨RX8, "look", "(III)I"⟩
abbrev cX8_told : ByteArray := prog_1_method_13_code
def yX8_told : MethodName := ⟨RX8, "told", "(II)I"⟩
abbrev cX8_queued : ByteArray := prog_1_method_14_code
def yX8_queued : MethodName := ⟨RX8, "queued", "(II)I"⟩
abbrev cX8_executed : ByteArray := prog_1_method_15_code
def yX8_executed : MethodName := ⟨RX8, "executed", "(II)I"⟩
abbrev cX8_file : ByteArray := prog_1_method_16_code
def yX8_file : MethodName := ⟨RX8, "file", "(III)I"⟩
abbrev cX8_times : ByteArray := prog_1_method_17_code
def yX8_times : MethodName := ⟨RX8, "times", "(II)I"⟩
abbrev cX8_isSite : ByteArray := prog_1_method_18_code
def yX8_isSite : MethodName := ⟨RX8, "isSite", "(I)Z"⟩
abbrev cX8_packetOn : ByteArray := prog_1_method_19_code
def yX8_packetOn : MethodName := ⟨RX8, "packetOn", "(II)LSpoolLink$Packet;"⟩
abbrev cX8_doneJob : ByteArray := prog_1_method_20_code
def yX8_doneJob : MethodName := ⟨RX8, "doneJob", "(II)LSpoolLink$Job;"⟩
abbrev cX8_handOver : ByteArray := prog_1_method_21_code
def yX8_handOver : MethodName := ⟨RX8, "handOver", "(I)I"⟩
def RX9 : String := "SpoolLinkModel"
def TX9 : u_T := fun k => match k with
  | 0 => ("SpoolLinkModel", "queued", "[I", true)
  | 1 => ("SpoolLinkModel", "fileLength", "[I", true)
  | 2 => ("SpoolLinkModel", "files", "[I", true)
  | 3 => ("SpoolLinkModel", "queueCount", "[I", true)
  | 4 => ("SpoolLinkModel", "queue", "[I", true)
  | 5 => ("SpoolLinkModel", "executedCount", "[I", true)
  | 6 => ("SpoolLinkModel", "executed", "[I", true)
  | 7 => ("SpoolLinkModel", "executedLength", "[I", true)
  | 8 => ("SpoolLinkModel", "executedFiles", "[I", true)
  | 9 => ("SpoolLinkModel", "calls", "[I", true)
  | 10 => ("SpoolLinkModel", "next", "[I", true)
  | 11 => ("SpoolLinkModel", "nextLength", "I", false)
  | 12 => ("SpoolLinkModel", "lying", "[I", true)
  | 13 => ("SpoolLinkModel", "wire", "[I", true)
  | 14 => ("SpoolLinkModel", "size", "[I", true)
  | 15 => ("SpoolLinkModel", "packet", "[I", true)
  | 16 => ("SpoolLinkModel", "packetSize", "I", false)
  | 17 => ("SpoolLinkModel", "state", "[I", true)
  | 18 => ("SpoolLinkModel", "master", "[Z", true)
  | 19 => ("SpoolLinkModel", "initOf", "[I", true)
  | 20 => ("SpoolLinkModel", "since", "[Z", true)
  | 21 => ("SpoolLinkModel", "accepted", "[I", true)
  | 22 => ("SpoolLinkModel", "sent", "[I", true)
  | 23 => ("SpoolLinkModel", "out", "[I", true)
  | 24 => ("SpoolLinkModel", "outNumber", "[I", true)
  | 25 => ("SpoolLinkModel", "outData", "[I", true)
  | 26 => ("SpoolLinkModel", "waits", "[I", true)
  | 27 => ("SpoolLinkModel", "waitData", "[I", true)
  | 28 => ("SpoolLinkModel", "takes", "[Z", true)
  | 29 => ("SpoolLinkModel", "takeNumber", "[I", true)
  | 30 => ("SpoolLinkModel", "takeWant", "[I", true)
  | 31 => ("SpoolLinkModel", "takeHas", "[I", true)
  | 32 => ("SpoolLinkModel", "taken", "[I", true)
  | 33 => ("SpoolLinkModel", "ticks", "[I", true)
  | 34 => ("SpoolLinkModel", "again", "[I", true)
  | 35 => ("SpoolLinkModel", "message", "[I", true)
  | _ => ("SpoolLinkModel", "held", "[I", true)
def tyX9 : Nat → FieldType := fun k => match k with
  | 0 => .array .int
  | 1 => .array .int
  | 2 => .array .int
  | 3 => .array .int
  | 4 => .array .int
  | 5 => .array .int
  | 6 => .array .int
  | 7 => .array .int
  | 8 => .array .int
  | 9 => .array .int
  | 10 => .array .int
  | 11 => .int
  | 12 => .array .int
  | 13 => .array .int
  | 14 => .array .int
  | 15 => .array .int
  | 16 => .int
  | 17 => .array .int
  | 18 => .array .boolean
  | 19 => .array .int
  | 20 => .array .boolean
  | 21 => .array .int
  | 22 => .array .int
  | 23 => .array .int
  | 24 => .array .int
  | 25 => .array .int
  | 26 => .array .int
  | 27 => .array .int
  | 28 => .array .boolean
  | 29 => .array .int
  | 30 => .array .int
  | 31 => .array .int
  | 32 => .array .int
  | 33 => .array .int
  | 34 => .array .int
  | 35 => .array .int
  | _ => .array .int
abbrev wsX90 : List Cond := u_ws RX9 TX9 37
theorem nmX9 : ∀ a, a < 37 → ∀ b, b < 37 → a ≠ b → (TX9 a).2.1 ≠ (TX9 b).2.1 := by decide +kernel
theorem tyX9_ok : ∀ k, k < 37 → parseFieldDescriptor (TX9 k).2.2.1 = some (tyX9 k) := by decide +kernel
abbrev cX9_init : ByteArray := prog_11_method_1_code
def yX9_init : MethodName := ⟨RX9, "<init>", "()V"⟩
abbrev cX9_isSite : ByteArray := prog_11_method_2_code
def yX9_isSite : MethodName := ⟨RX9, "isSite", "(I)Z"⟩
abbrev cX9_put : ByteArray := prog_11_method_3_code
def yX9_put : MethodName := ⟨RX9, "put", "(I)I"⟩
abbrev cX9_queue : ByteArray := prog_11_method_4_code
def yX9_queue : MethodName := ⟨RX9, "queue", "(I)I"⟩
abbrev cX9_leave : ByteArray := prog_11_method_5_code
def yX9_leave : MethodName := ⟨RX9, "leave", "(I)V"⟩
abbrev cX9_isExecuted : ByteArray := prog_11_method_6_code
def yX9_isExecuted : MethodName := ⟨RX9, "isExecuted", "(II)Z"⟩
abbrev cX9_left : ByteArray := prog_11_method_7_code
def yX9_left : MethodName := ⟨RX9, "left", "(I)I"⟩
abbrev cX9_sum : ByteArray := prog_11_method_8_code
def yX9_sum : MethodName := ⟨RX9, "sum", "(I)I"⟩
abbrev cX9_head : ByteArray := prog_11_method_9_code
def yX9_head : MethodName := ⟨RX9, "head", "(II)V"⟩
abbrev cX9_lay : ByteArray := prog_11_method_10_code
def yX9_lay : MethodName := ⟨RX9, "lay", "(I)V"⟩
abbrev cX9_control : ByteArray := prog_11_method_11_code
def yX9_control : MethodName := ⟨RX9, "control", "(III)V"⟩
abbrev cX9_data : ByteArray := prog_11_method_12_code
def yX9_data : MethodName := ⟨RX9, "data", "(II)V"⟩
abbrev cX9_isGood : ByteArray := prog_11_method_13_code
def yX9_isGood : MethodName := ⟨RX9, "isGood", "()Z"⟩
abbrev cX9_forget : ByteArray := prog_11_method_14_code
def yX9_forget : MethodName := ⟨RX9, "forget", "(II)V"⟩
abbrev cX9_flow : ByteArray := prog_11_method_15_code
def yX9_flow : MethodName := ⟨RX9, "flow", "(I)V"⟩
abbrev cX9_begin : ByteArray := prog_11_method_16_code
def yX9_begin : MethodName := ⟨RX9, "begin", "(I)V"⟩
abbrev cX9_more : ByteArray := prog_11_method_17_code
def yX9_more : MethodName := ⟨RX9, "more", "(I)V"⟩
abbrev cX9_send : ByteArray := prog_11_method_18_code
def yX9_send : MethodName := ⟨RX9, "send", "(I)V"⟩
abbrev cX9_say : ByteArray := prog_11_method_19_code
def yX9_say : MethodName := ⟨RX9, "say", "(II)V"⟩
abbrev cX9_goOn : ByteArray := prog_11_method_20_code
def yX9_goOn : MethodName := ⟨RX9, "goOn", "(I)V"⟩
abbrev cX9_sendFile : ByteArray := prog_11_method_21_code
def yX9_sendFile : MethodName := ⟨RX9, "sendFile", "(I)V"⟩
abbrev cX9_execute : ByteArray := prog_11_method_22_code
def yX9_execute : MethodName := ⟨RX9, "execute", "(I)V"⟩
abbrev cX9_acknowledge : ByteArray := prog_11_method_23_code
def yX9_acknowledge : MethodName := ⟨RX9, "acknowledge", "(II)V"⟩
abbrev cX9_sendAgain : ByteArray := prog_11_method_24_code
def yX9_sendAgain : MethodName := ⟨RX9, "sendAgain", "(I)V"⟩
abbrev cX9_done : ByteArray := prog_11_method_25_code
def yX9_done : MethodName := ⟨RX9, "done", "(I)V"⟩
abbrev cX9_offered : ByteArray := prog_11_method_26_code
def yX9_offered : MethodName := ⟨RX9, "offered", "(III)V"⟩
abbrev cX9_come : ByteArray := prog_11_method_27_code
def yX9_come : MethodName := ⟨RX9, "come", "(I)V"⟩
abbrev cX9_takeFirst : ByteArray := prog_11_method_28_code
def yX9_takeFirst : MethodName := ⟨RX9, "takeFirst", "(I)V"⟩
abbrev cX9_call : ByteArray := prog_11_method_29_code
def yX9_call : MethodName := ⟨RX9, "call", "(I)Z"⟩
abbrev cX9_deliver : ByteArray := prog_11_method_30_code
def yX9_deliver : MethodName := ⟨RX9, "deliver", "(I)I"⟩
abbrev cX9_lose : ByteArray := prog_11_method_31_code
def yX9_lose : MethodName := ⟨RX9, "lose", "(I)Z"⟩
abbrev cX9_alter : ByteArray := prog_11_method_32_code
def yX9_alter : MethodName := ⟨RX9, "alter", "(III)Z"⟩
abbrev cX9_tickOf : ByteArray := prog_11_method_33_code
def yX9_tickOf : MethodName := ⟨RX9, "tickOf", "(I)I"⟩
abbrev cX9_tick : ByteArray := prog_11_method_34_code
def yX9_tick : MethodName := ⟨RX9, "tick", "()I"⟩
abbrev cX9_crash : ByteArray := prog_11_method_35_code
def yX9_crash : MethodName := ⟨RX9, "crash", "(I)Z"⟩
abbrev cX9_settle : ByteArray := prog_11_method_36_code
def yX9_settle : MethodName := ⟨RX9, "settle", "(I)I"⟩
abbrev cX9_waiting : ByteArray := prog_11_method_37_code
def yX9_waiting : MethodName := ⟨RX9, "waiting", "(I)I"⟩
abbrev cX9_look : ByteArray := prog_11_method_38_code
def yX9_look : MethodName := ⟨RX9, "look", "(III)I"⟩
abbrev cX9_told : ByteArray := prog_11_method_39_code
def yX9_told : MethodName := ⟨RX9, "told", "(II)I"⟩
abbrev cX9_queued : ByteArray := prog_11_method_40_code
def yX9_queued : MethodName := ⟨RX9, "queued", "(II)I"⟩
abbrev cX9_executed : ByteArray := prog_11_method_41_code
def yX9_executed : MethodName := ⟨RX9, "executed", "(II)I"⟩
abbrev cX9_file : ByteArray := prog_11_method_42_code
def yX9_file : MethodName := ⟨RX9, "file", "(III)I"⟩
abbrev cX9_times : ByteArray := prog_11_method_43_code
def yX9_times : MethodName := ⟨RX9, "times", "(II)I"⟩
def RJ9 : String := "java/lang/Math"
def TJ9 : u_T := fun k => match k with
  | _ => ("", "", "", false)
def tyJ9 : Nat → FieldType := fun k => match k with
  | _ => .int
abbrev wsJ90 : List Cond := u_ws RJ9 TJ9 0
theorem nmJ9 : ∀ a, a < 0 → ∀ b, b < 0 → a ≠ b → (TJ9 a).2.1 ≠ (TJ9 b).2.1 := by decide +kernel
theorem tyJ9_ok : ∀ k, k < 0 → parseFieldDescriptor (TJ9 k).2.2.1 = some (tyJ9 k) := by decide +kernel
abbrev cJ9_min_7cf53 : ByteArray := prog_12_method_69_code
def yJ9_min_7cf53 : MethodName := ⟨RJ9, "min", "(II)I"⟩
def RJ10 : String := "java/lang/System"
def TJ10 : u_T := fun k => match k with
  | _ => ("", "", "", false)
def tyJ10 : Nat → FieldType := fun k => match k with
  | _ => .int
abbrev wsJ100 : List Cond := u_ws RJ10 TJ10 0
theorem nmJ10 : ∀ a, a < 0 → ∀ b, b < 0 → a ≠ b → (TJ10 a).2.1 ≠ (TJ10 b).2.1 := by decide +kernel
theorem tyJ10_ok : ∀ k, k < 0 → parseFieldDescriptor (TJ10 k).2.2.1 = some (tyJ10 k) := by decide +kernel
def RL : String := "SpoolLinkLaw"
abbrev cL_law : ByteArray := code
def yL_law : MethodName := ⟨RL, "law", "([I)Z"⟩
abbrev vwCl : List vw_C := [(RX0, TX0, 6), (RX1, TX1, 5), (RX2, TX2, 2), (RX3, TX3, 2), (RX4, TX4, 2), (RX5, TX5, 13), (RX6, TX6, 5), (RX7, TX7, 4), (RX8, TX8, 4), (RX9, TX9, 37)]
/-! words by their places in the tables -/
def G : List Cond := lw_tbl.filter goodWord
theorem gm {w : Cond} (i : Nat) (h : tables_1[i]? = some w) (hg : goodWord w = true) : w ∈ G := List.mem_filter.mpr ⟨List.mem_append_right _ (List.mem_of_getElem? h), hg⟩
theorem gs {w : Cond} (i : Nat) (h : (k2_sels lw_privs)[i]? = some w) (hg : goodWord w = true) : w ∈ G := List.mem_filter.mpr ⟨List.mem_append_left _ (List.mem_of_getElem? h), hg⟩
theorem gG (y : Cond) (hy : y ∈ G) (Ts : List Cond) (hT : ∀ w ∈ G, w ∈ Ts) : GoodIn Ts (y :: G) := fun w hw => by
  rcases List.mem_cons.mp hw with rfl | h
  · exact ⟨hT _ hy, good_of_word (List.mem_filter.mp hy).2⟩
  · exact ⟨hT _ h, good_of_word (List.mem_filter.mp h).2⟩
theorem iwX0 : ∀ k, k < 6 → tables_1[([85, 87, 89, 91, 93, 95] : List Nat).getD k 0]? = some (u_lay RX0 TX0 k) ∧ goodWord (u_lay RX0 TX0 k) = true := by decide +kernel
theorem inX0 : ∀ w ∈ wsX00, w ∈ G := fun w hw => by
  obtain ⟨k, hk, rfl⟩ := List.mem_map.mp hw
  exact gm _ (iwX0 k (List.mem_range.mp hk)).1 (iwX0 k (List.mem_range.mp hk)).2
theorem iwX1 : ∀ k, k < 5 → tables_1[([153, 155, 157, 159, 161] : List Nat).getD k 0]? = some (u_lay RX1 TX1 k) ∧ goodWord (u_lay RX1 TX1 k) = true := by decide +kernel
theorem inX1 : ∀ w ∈ wsX10, w ∈ G := fun w hw => by
  obtain ⟨k, hk, rfl⟩ := List.mem_map.mp hw
  exact gm _ (iwX1 k (List.mem_range.mp hk)).1 (iwX1 k (List.mem_range.mp hk)).2
theorem iwX2 : ∀ k, k < 2 → tables_1[([250, 252] : List Nat).getD k 0]? = some (u_lay RX2 TX2 k) ∧ goodWord (u_lay RX2 TX2 k) = true := by decide +kernel
theorem inX2 : ∀ w ∈ wsX20, w ∈ G := fun w hw => by
  obtain ⟨k, hk, rfl⟩ := List.mem_map.mp hw
  exact gm _ (iwX2 k (List.mem_range.mp hk)).1 (iwX2 k (List.mem_range.mp hk)).2
theorem iwX3 : ∀ k, k < 2 → tables_1[([117, 119] : List Nat).getD k 0]? = some (u_lay RX3 TX3 k) ∧ goodWord (u_lay RX3 TX3 k) = true := by decide +kernel
theorem inX3 : ∀ w ∈ wsX30, w ∈ G := fun w hw => by
  obtain ⟨k, hk, rfl⟩ := List.mem_map.mp hw
  exact gm _ (iwX3 k (List.mem_range.mp hk)).1 (iwX3 k (List.mem_range.mp hk)).2
theorem iwX4 : ∀ k, k < 2 → tables_1[([38, 40] : List Nat).getD k 0]? = some (u_lay RX4 TX4 k) ∧ goodWord (u_lay RX4 TX4 k) = true := by decide +kernel
theorem inX4 : ∀ w ∈ wsX40, w ∈ G := fun w hw => by
  obtain ⟨k, hk, rfl⟩ := List.mem_map.mp hw
  exact gm _ (iwX4 k (List.mem_range.mp hk)).1 (iwX4 k (List.mem_range.mp hk)).2
theorem iwX5 : ∀ k, k < 13 → tables_1[([180, 182, 184, 186, 188, 190, 192, 194, 196, 198, 200, 202, 204] : List Nat).getD k 0]? = some (u_lay RX5 TX5 k) ∧ goodWord (u_lay RX5 TX5 k) = true := by decide +kernel
theorem inX5 : ∀ w ∈ wsX50, w ∈ G := fun w hw => by
  obtain ⟨k, hk, rfl⟩ := List.mem_map.mp hw
  exact gm _ (iwX5 k (List.mem_range.mp hk)).1 (iwX5 k (List.mem_range.mp hk)).2
theorem iwX6 : ∀ k, k < 5 → tables_1[([130, 132, 134, 136, 138] : List Nat).getD k 0]? = some (u_lay RX6 TX6 k) ∧ goodWord (u_lay RX6 TX6 k) = true := by decide +kernel
theorem inX6 : ∀ w ∈ wsX60, w ∈ G := fun w hw => by
  obtain ⟨k, hk, rfl⟩ := List.mem_map.mp hw
  exact gm _ (iwX6 k (List.mem_range.mp hk)).1 (iwX6 k (List.mem_range.mp hk)).2
theorem iwX7 : ∀ k, k < 4 → tables_1[([50, 52, 54, 56] : List Nat).getD k 0]? = some (u_lay RX7 TX7 k) ∧ goodWord (u_lay RX7 TX7 k) = true := by decide +kernel
theorem inX7 : ∀ w ∈ wsX70, w ∈ G := fun w hw => by
  obtain ⟨k, hk, rfl⟩ := List.mem_map.mp hw
  exact gm _ (iwX7 k (List.mem_range.mp hk)).1 (iwX7 k (List.mem_range.mp hk)).2
theorem iwX8 : ∀ k, k < 4 → tables_1[([211, 213, 215, 217] : List Nat).getD k 0]? = some (u_lay RX8 TX8 k) ∧ goodWord (u_lay RX8 TX8 k) = true := by decide +kernel
theorem inX8 : ∀ w ∈ wsX80, w ∈ G := fun w hw => by
  obtain ⟨k, hk, rfl⟩ := List.mem_map.mp hw
  exact gm _ (iwX8 k (List.mem_range.mp hk)).1 (iwX8 k (List.mem_range.mp hk)).2
theorem iwX9 : ∀ k, k < 37 → tables_1[([593, 595, 597, 599, 601, 603, 605, 607, 609, 611, 613, 615, 617, 619, 621, 623, 625, 627, 629, 631, 633, 635, 637, 639, 641, 643, 645, 647, 649, 651, 653, 655, 657, 659, 661, 663, 665] : List Nat).getD k 0]? = some (u_lay RX9 TX9 k) ∧ goodWord (u_lay RX9 TX9 k) = true := by decide +kernel
theorem inX9 : ∀ w ∈ wsX90, w ∈ G := fun w hw => by
  obtain ⟨k, hk, rfl⟩ := List.mem_map.mp hw
  exact gm _ (iwX9 k (List.mem_range.mp hk)).1 (iwX9 k (List.mem_range.mp hk)).2
end
