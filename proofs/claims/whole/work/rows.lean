section
-- ===== PART A: goes FIRST, ahead of the names: the tables' words, and 'selects' of the private methods out of them =====
/-- a private method of a class that the tables say can be made, by its rows of tables_1 -/
def lw_okq (q : MethodName × Nat) : Prop := (q.1.cls ≠ "java/lang/invoke/MethodHandle" ∧ q.1.cls ≠ "java/lang/invoke/VarHandle") ∧ Cond.instantiable q.1.cls q.2 ∈ tables_1 ∧ Cond.privateMethod q.1 ∈ tables_1 ∧ Cond.instanceMethod q.1 ∈ tables_1
theorem lw_p0 : lw_okq (⟨"SpoolLink$Packet", "fillHead", "(III)V"⟩, 2) := ⟨⟨by decide +kernel, by decide +kernel⟩, List.mem_of_getElem? (i := 29) (by decide +kernel), List.mem_of_getElem? (i := 289) (by decide +kernel), List.mem_of_getElem? (i := 290) (by decide +kernel)⟩
theorem lw_p1 : lw_okq (⟨"SpoolLink", "handOver", "(I)I"⟩, 4) := ⟨⟨by decide +kernel, by decide +kernel⟩, List.mem_of_getElem? (i := 14) (by decide +kernel), List.mem_of_getElem? (i := 297) (by decide +kernel), List.mem_of_getElem? (i := 298) (by decide +kernel)⟩
theorem lw_p2 : lw_okq (⟨"SpoolLink$Packet", "isMessageWellFormed", "()Z"⟩, 2) := ⟨⟨by decide +kernel, by decide +kernel⟩, List.mem_of_getElem? (i := 29) (by decide +kernel), List.mem_of_getElem? (i := 321) (by decide +kernel), List.mem_of_getElem? (i := 322) (by decide +kernel)⟩
theorem lw_p3 : lw_okq (⟨"SpoolLink$Packet", "sum", "()I"⟩, 2) := ⟨⟨by decide +kernel, by decide +kernel⟩, List.mem_of_getElem? (i := 29) (by decide +kernel), List.mem_of_getElem? (i := 325) (by decide +kernel), List.mem_of_getElem? (i := 326) (by decide +kernel)⟩
theorem lw_p4 : lw_okq (⟨"SpoolLink$Packet", "hasHead", "(III)Z"⟩, 2) := ⟨⟨by decide +kernel, by decide +kernel⟩, List.mem_of_getElem? (i := 29) (by decide +kernel), List.mem_of_getElem? (i := 330) (by decide +kernel), List.mem_of_getElem? (i := 331) (by decide +kernel)⟩
theorem lw_p5 : lw_okq (⟨"SpoolLink$Site", "isOpen", "()Z"⟩, 13) := ⟨⟨by decide +kernel, by decide +kernel⟩, List.mem_of_getElem? (i := 61) (by decide +kernel), List.mem_of_getElem? (i := 341) (by decide +kernel), List.mem_of_getElem? (i := 342) (by decide +kernel)⟩
theorem lw_p6 : lw_okq (⟨"SpoolLink$Site", "takeData", "(LSpoolLink$Packet;)V"⟩, 13) := ⟨⟨by decide +kernel, by decide +kernel⟩, List.mem_of_getElem? (i := 61) (by decide +kernel), List.mem_of_getElem? (i := 347) (by decide +kernel), List.mem_of_getElem? (i := 348) (by decide +kernel)⟩
theorem lw_p7 : lw_okq (⟨"SpoolLink$Site", "takeAcknowledgement", "(I)V"⟩, 13) := ⟨⟨by decide +kernel, by decide +kernel⟩, List.mem_of_getElem? (i := 61) (by decide +kernel), List.mem_of_getElem? (i := 355) (by decide +kernel), List.mem_of_getElem? (i := 356) (by decide +kernel)⟩
theorem lw_p8 : lw_okq (⟨"SpoolLink$Site", "sendOutFrom", "(I)V"⟩, 13) := ⟨⟨by decide +kernel, by decide +kernel⟩, List.mem_of_getElem? (i := 61) (by decide +kernel), List.mem_of_getElem? (i := 370) (by decide +kernel), List.mem_of_getElem? (i := 371) (by decide +kernel)⟩
theorem lw_p9 : lw_okq (⟨"SpoolLink$Site", "doAsMaster", "(LSpoolLink$Packet;)V"⟩, 13) := ⟨⟨by decide +kernel, by decide +kernel⟩, List.mem_of_getElem? (i := 61) (by decide +kernel), List.mem_of_getElem? (i := 386) (by decide +kernel), List.mem_of_getElem? (i := 387) (by decide +kernel)⟩
theorem lw_p10 : lw_okq (⟨"SpoolLink$Site", "goOn", "()V"⟩, 13) := ⟨⟨by decide +kernel, by decide +kernel⟩, List.mem_of_getElem? (i := 61) (by decide +kernel), List.mem_of_getElem? (i := 402) (by decide +kernel), List.mem_of_getElem? (i := 403) (by decide +kernel)⟩
theorem lw_p11 : lw_okq (⟨"SpoolLink$Site", "addFile", "()V"⟩, 13) := ⟨⟨by decide +kernel, by decide +kernel⟩, List.mem_of_getElem? (i := 61) (by decide +kernel), List.mem_of_getElem? (i := 418) (by decide +kernel), List.mem_of_getElem? (i := 419) (by decide +kernel)⟩
theorem lw_p12 : lw_okq (⟨"SpoolLink$Site", "doAsSlave", "(LSpoolLink$Packet;)V"⟩, 13) := ⟨⟨by decide +kernel, by decide +kernel⟩, List.mem_of_getElem? (i := 61) (by decide +kernel), List.mem_of_getElem? (i := 423) (by decide +kernel), List.mem_of_getElem? (i := 424) (by decide +kernel)⟩
theorem lw_p13 : lw_okq (⟨"SpoolLink$Site", "takeOffer", "(II)V"⟩, 13) := ⟨⟨by decide +kernel, by decide +kernel⟩, List.mem_of_getElem? (i := 61) (by decide +kernel), List.mem_of_getElem? (i := 427) (by decide +kernel), List.mem_of_getElem? (i := 428) (by decide +kernel)⟩
theorem lw_p14 : lw_okq (⟨"SpoolLink$Site", "executeWhatIsWhole", "()V"⟩, 13) := ⟨⟨by decide +kernel, by decide +kernel⟩, List.mem_of_getElem? (i := 61) (by decide +kernel), List.mem_of_getElem? (i := 449) (by decide +kernel), List.mem_of_getElem? (i := 450) (by decide +kernel)⟩
theorem lw_p15 : lw_okq (⟨"SpoolLink$Site", "takeInit", "(I)V"⟩, 13) := ⟨⟨by decide +kernel, by decide +kernel⟩, List.mem_of_getElem? (i := 61) (by decide +kernel), List.mem_of_getElem? (i := 467) (by decide +kernel), List.mem_of_getElem? (i := 468) (by decide +kernel)⟩
def lw_privs_1 : List (MethodName × Nat) := [(⟨"SpoolLink$Packet", "fillHead", "(III)V"⟩, 2), (⟨"SpoolLink", "handOver", "(I)I"⟩, 4), (⟨"SpoolLink$Packet", "isMessageWellFormed", "()Z"⟩, 2), (⟨"SpoolLink$Packet", "sum", "()I"⟩, 2), (⟨"SpoolLink$Packet", "hasHead", "(III)Z"⟩, 2), (⟨"SpoolLink$Site", "isOpen", "()Z"⟩, 13), (⟨"SpoolLink$Site", "takeData", "(LSpoolLink$Packet;)V"⟩, 13), (⟨"SpoolLink$Site", "takeAcknowledgement", "(I)V"⟩, 13), (⟨"SpoolLink$Site", "sendOutFrom", "(I)V"⟩, 13), (⟨"SpoolLink$Site", "doAsMaster", "(LSpoolLink$Packet;)V"⟩, 13), (⟨"SpoolLink$Site", "goOn", "()V"⟩, 13), (⟨"SpoolLink$Site", "addFile", "()V"⟩, 13), (⟨"SpoolLink$Site", "doAsSlave", "(LSpoolLink$Packet;)V"⟩, 13), (⟨"SpoolLink$Site", "takeOffer", "(II)V"⟩, 13), (⟨"SpoolLink$Site", "executeWhatIsWhole", "()V"⟩, 13), (⟨"SpoolLink$Site", "takeInit", "(I)V"⟩, 13)]
theorem lw_r1 : ∀ q ∈ lw_privs_1, lw_okq q := List.forall_mem_cons.mpr ⟨lw_p0, List.forall_mem_cons.mpr ⟨lw_p1, List.forall_mem_cons.mpr ⟨lw_p2, List.forall_mem_cons.mpr ⟨lw_p3, List.forall_mem_cons.mpr ⟨lw_p4, List.forall_mem_cons.mpr ⟨lw_p5, List.forall_mem_cons.mpr ⟨lw_p6, List.forall_mem_cons.mpr ⟨lw_p7, List.forall_mem_cons.mpr ⟨lw_p8, List.forall_mem_cons.mpr ⟨lw_p9, List.forall_mem_cons.mpr ⟨lw_p10, List.forall_mem_cons.mpr ⟨lw_p11, List.forall_mem_cons.mpr ⟨lw_p12, List.forall_mem_cons.mpr ⟨lw_p13, List.forall_mem_cons.mpr ⟨lw_p14, List.forall_mem_cons.mpr ⟨lw_p15, fun _ h => absurd h List.not_mem_nil⟩⟩⟩⟩⟩⟩⟩⟩⟩⟩⟩⟩⟩⟩⟩⟩
theorem lw_p16 : lw_okq (⟨"SpoolLink$Site", "takeAnswer", "(I)V"⟩, 13) := ⟨⟨by decide +kernel, by decide +kernel⟩, List.mem_of_getElem? (i := 61) (by decide +kernel), List.mem_of_getElem? (i := 471) (by decide +kernel), List.mem_of_getElem? (i := 472) (by decide +kernel)⟩
theorem lw_p17 : lw_okq (⟨"SpoolLink$Site", "takeControl", "(II)V"⟩, 13) := ⟨⟨by decide +kernel, by decide +kernel⟩, List.mem_of_getElem? (i := 61) (by decide +kernel), List.mem_of_getElem? (i := 475) (by decide +kernel), List.mem_of_getElem? (i := 476) (by decide +kernel)⟩
theorem lw_p18 : lw_okq (⟨"SpoolLink", "packetOn", "(II)LSpoolLink$Packet;"⟩, 4) := ⟨⟨by decide +kernel, by decide +kernel⟩, List.mem_of_getElem? (i := 14) (by decide +kernel), List.mem_of_getElem? (i := 483) (by decide +kernel), List.mem_of_getElem? (i := 484) (by decide +kernel)⟩
theorem lw_p19 : lw_okq (⟨"SpoolLink$Site", "passTickUnanswered", "()I"⟩, 13) := ⟨⟨by decide +kernel, by decide +kernel⟩, List.mem_of_getElem? (i := 61) (by decide +kernel), List.mem_of_getElem? (i := 499) (by decide +kernel), List.mem_of_getElem? (i := 500) (by decide +kernel)⟩
theorem lw_p20 : lw_okq (⟨"SpoolLink", "doneJob", "(II)LSpoolLink$Job;"⟩, 4) := ⟨⟨by decide +kernel, by decide +kernel⟩, List.mem_of_getElem? (i := 14) (by decide +kernel), List.mem_of_getElem? (i := 533) (by decide +kernel), List.mem_of_getElem? (i := 534) (by decide +kernel)⟩
theorem lw_p21 : lw_okq (⟨"SpoolLinkModel", "forget", "(II)V"⟩, 37) := ⟨⟨by decide +kernel, by decide +kernel⟩, List.mem_of_getElem? (i := 550) (by decide +kernel), List.mem_of_getElem? (i := 685) (by decide +kernel), List.mem_of_getElem? (i := 686) (by decide +kernel)⟩
theorem lw_p22 : lw_okq (⟨"SpoolLinkModel", "control", "(III)V"⟩, 37) := ⟨⟨by decide +kernel, by decide +kernel⟩, List.mem_of_getElem? (i := 550) (by decide +kernel), List.mem_of_getElem? (i := 689) (by decide +kernel), List.mem_of_getElem? (i := 690) (by decide +kernel)⟩
theorem lw_p23 : lw_okq (⟨"SpoolLinkModel", "head", "(II)V"⟩, 37) := ⟨⟨by decide +kernel, by decide +kernel⟩, List.mem_of_getElem? (i := 550) (by decide +kernel), List.mem_of_getElem? (i := 693) (by decide +kernel), List.mem_of_getElem? (i := 694) (by decide +kernel)⟩
theorem lw_p24 : lw_okq (⟨"SpoolLinkModel", "sum", "(I)I"⟩, 37) := ⟨⟨by decide +kernel, by decide +kernel⟩, List.mem_of_getElem? (i := 550) (by decide +kernel), List.mem_of_getElem? (i := 699) (by decide +kernel), List.mem_of_getElem? (i := 700) (by decide +kernel)⟩
theorem lw_p25 : lw_okq (⟨"SpoolLinkModel", "lay", "(I)V"⟩, 37) := ⟨⟨by decide +kernel, by decide +kernel⟩, List.mem_of_getElem? (i := 550) (by decide +kernel), List.mem_of_getElem? (i := 706) (by decide +kernel), List.mem_of_getElem? (i := 707) (by decide +kernel)⟩
theorem lw_p26 : lw_okq (⟨"SpoolLinkModel", "takeFirst", "(I)V"⟩, 37) := ⟨⟨by decide +kernel, by decide +kernel⟩, List.mem_of_getElem? (i := 550) (by decide +kernel), List.mem_of_getElem? (i := 714) (by decide +kernel), List.mem_of_getElem? (i := 715) (by decide +kernel)⟩
theorem lw_p27 : lw_okq (⟨"SpoolLinkModel", "isGood", "()Z"⟩, 37) := ⟨⟨by decide +kernel, by decide +kernel⟩, List.mem_of_getElem? (i := 550) (by decide +kernel), List.mem_of_getElem? (i := 718) (by decide +kernel), List.mem_of_getElem? (i := 719) (by decide +kernel)⟩
theorem lw_p28 : lw_okq (⟨"SpoolLinkModel", "come", "(I)V"⟩, 37) := ⟨⟨by decide +kernel, by decide +kernel⟩, List.mem_of_getElem? (i := 550) (by decide +kernel), List.mem_of_getElem? (i := 722) (by decide +kernel), List.mem_of_getElem? (i := 723) (by decide +kernel)⟩
theorem lw_p29 : lw_okq (⟨"SpoolLinkModel", "goOn", "(I)V"⟩, 37) := ⟨⟨by decide +kernel, by decide +kernel⟩, List.mem_of_getElem? (i := 550) (by decide +kernel), List.mem_of_getElem? (i := 726) (by decide +kernel), List.mem_of_getElem? (i := 727) (by decide +kernel)⟩
theorem lw_p30 : lw_okq (⟨"SpoolLinkModel", "say", "(II)V"⟩, 37) := ⟨⟨by decide +kernel, by decide +kernel⟩, List.mem_of_getElem? (i := 550) (by decide +kernel), List.mem_of_getElem? (i := 730) (by decide +kernel), List.mem_of_getElem? (i := 731) (by decide +kernel)⟩
theorem lw_p31 : lw_okq (⟨"SpoolLinkModel", "begin", "(I)V"⟩, 37) := ⟨⟨by decide +kernel, by decide +kernel⟩, List.mem_of_getElem? (i := 550) (by decide +kernel), List.mem_of_getElem? (i := 734) (by decide +kernel), List.mem_of_getElem? (i := 735) (by decide +kernel)⟩
def lw_privs_2 : List (MethodName × Nat) := [(⟨"SpoolLink$Site", "takeAnswer", "(I)V"⟩, 13), (⟨"SpoolLink$Site", "takeControl", "(II)V"⟩, 13), (⟨"SpoolLink", "packetOn", "(II)LSpoolLink$Packet;"⟩, 4), (⟨"SpoolLink$Site", "passTickUnanswered", "()I"⟩, 13), (⟨"SpoolLink", "doneJob", "(II)LSpoolLink$Job;"⟩, 4), (⟨"SpoolLinkModel", "forget", "(II)V"⟩, 37), (⟨"SpoolLinkModel", "control", "(III)V"⟩, 37), (⟨"SpoolLinkModel", "head", "(II)V"⟩, 37), (⟨"SpoolLinkModel", "sum", "(I)I"⟩, 37), (⟨"SpoolLinkModel", "lay", "(I)V"⟩, 37), (⟨"SpoolLinkModel", "takeFirst", "(I)V"⟩, 37), (⟨"SpoolLinkModel", "isGood", "()Z"⟩, 37), (⟨"SpoolLinkModel", "come", "(I)V"⟩, 37), (⟨"SpoolLinkModel", "goOn", "(I)V"⟩, 37), (⟨"SpoolLinkModel", "say", "(II)V"⟩, 37), (⟨"SpoolLinkModel", "begin", "(I)V"⟩, 37)]
theorem lw_r2 : ∀ q ∈ lw_privs_2, lw_okq q := List.forall_mem_cons.mpr ⟨lw_p16, List.forall_mem_cons.mpr ⟨lw_p17, List.forall_mem_cons.mpr ⟨lw_p18, List.forall_mem_cons.mpr ⟨lw_p19, List.forall_mem_cons.mpr ⟨lw_p20, List.forall_mem_cons.mpr ⟨lw_p21, List.forall_mem_cons.mpr ⟨lw_p22, List.forall_mem_cons.mpr ⟨lw_p23, List.forall_mem_cons.mpr ⟨lw_p24, List.forall_mem_cons.mpr ⟨lw_p25, List.forall_mem_cons.mpr ⟨lw_p26, List.forall_mem_cons.mpr ⟨lw_p27, List.forall_mem_cons.mpr ⟨lw_p28, List.forall_mem_cons.mpr ⟨lw_p29, List.forall_mem_cons.mpr ⟨lw_p30, List.forall_mem_cons.mpr ⟨lw_p31, fun _ h => absurd h List.not_mem_nil⟩⟩⟩⟩⟩⟩⟩⟩⟩⟩⟩⟩⟩⟩⟩⟩
theorem lw_p32 : lw_okq (⟨"SpoolLinkModel", "send", "(I)V"⟩, 37) := ⟨⟨by decide +kernel, by decide +kernel⟩, List.mem_of_getElem? (i := 550) (by decide +kernel), List.mem_of_getElem? (i := 738) (by decide +kernel), List.mem_of_getElem? (i := 739) (by decide +kernel)⟩
theorem lw_p33 : lw_okq (⟨"SpoolLinkModel", "flow", "(I)V"⟩, 37) := ⟨⟨by decide +kernel, by decide +kernel⟩, List.mem_of_getElem? (i := 550) (by decide +kernel), List.mem_of_getElem? (i := 742) (by decide +kernel), List.mem_of_getElem? (i := 743) (by decide +kernel)⟩
theorem lw_p34 : lw_okq (⟨"SpoolLinkModel", "data", "(II)V"⟩, 37) := ⟨⟨by decide +kernel, by decide +kernel⟩, List.mem_of_getElem? (i := 550) (by decide +kernel), List.mem_of_getElem? (i := 746) (by decide +kernel), List.mem_of_getElem? (i := 747) (by decide +kernel)⟩
theorem lw_p35 : lw_okq (⟨"SpoolLinkModel", "more", "(I)V"⟩, 37) := ⟨⟨by decide +kernel, by decide +kernel⟩, List.mem_of_getElem? (i := 550) (by decide +kernel), List.mem_of_getElem? (i := 750) (by decide +kernel), List.mem_of_getElem? (i := 751) (by decide +kernel)⟩
theorem lw_p36 : lw_okq (⟨"SpoolLinkModel", "acknowledge", "(II)V"⟩, 37) := ⟨⟨by decide +kernel, by decide +kernel⟩, List.mem_of_getElem? (i := 550) (by decide +kernel), List.mem_of_getElem? (i := 754) (by decide +kernel), List.mem_of_getElem? (i := 755) (by decide +kernel)⟩
theorem lw_p37 : lw_okq (⟨"SpoolLinkModel", "sendAgain", "(I)V"⟩, 37) := ⟨⟨by decide +kernel, by decide +kernel⟩, List.mem_of_getElem? (i := 550) (by decide +kernel), List.mem_of_getElem? (i := 758) (by decide +kernel), List.mem_of_getElem? (i := 759) (by decide +kernel)⟩
theorem lw_p38 : lw_okq (⟨"SpoolLinkModel", "done", "(I)V"⟩, 37) := ⟨⟨by decide +kernel, by decide +kernel⟩, List.mem_of_getElem? (i := 550) (by decide +kernel), List.mem_of_getElem? (i := 762) (by decide +kernel), List.mem_of_getElem? (i := 763) (by decide +kernel)⟩
theorem lw_p39 : lw_okq (⟨"SpoolLinkModel", "leave", "(I)V"⟩, 37) := ⟨⟨by decide +kernel, by decide +kernel⟩, List.mem_of_getElem? (i := 550) (by decide +kernel), List.mem_of_getElem? (i := 766) (by decide +kernel), List.mem_of_getElem? (i := 767) (by decide +kernel)⟩
theorem lw_p40 : lw_okq (⟨"SpoolLinkModel", "sendFile", "(I)V"⟩, 37) := ⟨⟨by decide +kernel, by decide +kernel⟩, List.mem_of_getElem? (i := 550) (by decide +kernel), List.mem_of_getElem? (i := 770) (by decide +kernel), List.mem_of_getElem? (i := 771) (by decide +kernel)⟩
theorem lw_p41 : lw_okq (⟨"SpoolLinkModel", "offered", "(III)V"⟩, 37) := ⟨⟨by decide +kernel, by decide +kernel⟩, List.mem_of_getElem? (i := 550) (by decide +kernel), List.mem_of_getElem? (i := 774) (by decide +kernel), List.mem_of_getElem? (i := 775) (by decide +kernel)⟩
theorem lw_p42 : lw_okq (⟨"SpoolLinkModel", "isExecuted", "(II)Z"⟩, 37) := ⟨⟨by decide +kernel, by decide +kernel⟩, List.mem_of_getElem? (i := 550) (by decide +kernel), List.mem_of_getElem? (i := 778) (by decide +kernel), List.mem_of_getElem? (i := 779) (by decide +kernel)⟩
theorem lw_p43 : lw_okq (⟨"SpoolLinkModel", "execute", "(I)V"⟩, 37) := ⟨⟨by decide +kernel, by decide +kernel⟩, List.mem_of_getElem? (i := 550) (by decide +kernel), List.mem_of_getElem? (i := 782) (by decide +kernel), List.mem_of_getElem? (i := 783) (by decide +kernel)⟩
theorem lw_p44 : lw_okq (⟨"SpoolLinkModel", "tickOf", "(I)I"⟩, 37) := ⟨⟨by decide +kernel, by decide +kernel⟩, List.mem_of_getElem? (i := 550) (by decide +kernel), List.mem_of_getElem? (i := 798) (by decide +kernel), List.mem_of_getElem? (i := 799) (by decide +kernel)⟩
def lw_privs_3 : List (MethodName × Nat) := [(⟨"SpoolLinkModel", "send", "(I)V"⟩, 37), (⟨"SpoolLinkModel", "flow", "(I)V"⟩, 37), (⟨"SpoolLinkModel", "data", "(II)V"⟩, 37), (⟨"SpoolLinkModel", "more", "(I)V"⟩, 37), (⟨"SpoolLinkModel", "acknowledge", "(II)V"⟩, 37), (⟨"SpoolLinkModel", "sendAgain", "(I)V"⟩, 37), (⟨"SpoolLinkModel", "done", "(I)V"⟩, 37), (⟨"SpoolLinkModel", "leave", "(I)V"⟩, 37), (⟨"SpoolLinkModel", "sendFile", "(I)V"⟩, 37), (⟨"SpoolLinkModel", "offered", "(III)V"⟩, 37), (⟨"SpoolLinkModel", "isExecuted", "(II)Z"⟩, 37), (⟨"SpoolLinkModel", "execute", "(I)V"⟩, 37), (⟨"SpoolLinkModel", "tickOf", "(I)I"⟩, 37)]
theorem lw_r3 : ∀ q ∈ lw_privs_3, lw_okq q := List.forall_mem_cons.mpr ⟨lw_p32, List.forall_mem_cons.mpr ⟨lw_p33, List.forall_mem_cons.mpr ⟨lw_p34, List.forall_mem_cons.mpr ⟨lw_p35, List.forall_mem_cons.mpr ⟨lw_p36, List.forall_mem_cons.mpr ⟨lw_p37, List.forall_mem_cons.mpr ⟨lw_p38, List.forall_mem_cons.mpr ⟨lw_p39, List.forall_mem_cons.mpr ⟨lw_p40, List.forall_mem_cons.mpr ⟨lw_p41, List.forall_mem_cons.mpr ⟨lw_p42, List.forall_mem_cons.mpr ⟨lw_p43, List.forall_mem_cons.mpr ⟨lw_p44, fun _ h => absurd h List.not_mem_nil⟩⟩⟩⟩⟩⟩⟩⟩⟩⟩⟩⟩⟩
def lw_privs : List (MethodName × Nat) := lw_privs_1 ++ (lw_privs_2 ++ (lw_privs_3))
def lw_tbl : List Cond := k2_sels lw_privs ++ tables_1
theorem lw_privs_ok : ∀ q ∈ lw_privs, lw_okq q := by
  show ∀ q ∈ lw_privs_1 ++ (lw_privs_2 ++ (lw_privs_3)), lw_okq q
  exact List.forall_mem_append.mpr ⟨lw_r1, List.forall_mem_append.mpr ⟨lw_r2, lw_r3⟩⟩
end
section
def RX0 : String := "SpoolLink$Disk"
def TX0 : u_T := fun k => match k with
  | 0 => ("SpoolLink$Disk", "jobs", "[LSpoolLink$Job;", true)
  | 1 => ("SpoolLink$Disk", "jobsGone", "I", false)
  | 2 => ("SpoolLink$Disk", "jobsHad", "I", false)
  | 3 => ("SpoolLink$Disk", "done", "[LSpoolLink$Job;", true)
  | 4 => ("SpoolLink$Disk", "doneCount", "I", false)
  | _ => ("SpoolLink$Disk", "callsBegun", "I", false)
def tyX0 : Nat → FieldType := fun k => match k with
  | 0 => .array (.object "SpoolLink$Job")
  | 1 => .int
  | 2 => .int
  | 3 => .array (.object "SpoolLink$Job")
  | 4 => .int
  | _ => .int
abbrev wsX00 : List Cond := u_ws RX0 TX0 6
theorem nmX0 : ∀ a, a < 6 → ∀ b, b < 6 → a ≠ b → (TX0 a).2.1 ≠ (TX0 b).2.1 := by decide +kernel
theorem tyX0_ok : ∀ k, k < 6 → parseFieldDescriptor (TX0 k).2.2.1 = some (tyX0 k) := by decide +kernel
abbrev cX0_init : ByteArray := prog_2_method_1_code
def yX0_init : MethodName := ⟨RX0, "<init>", "()V"⟩
abbrev cX0_jobsLeft : ByteArray := prog_2_method_2_code
def yX0_jobsLeft : MethodName := ⟨RX0, "jobsLeft", "()I"⟩
abbrev cX0_addJob : ByteArray := prog_2_method_3_code
def yX0_addJob : MethodName := ⟨RX0, "addJob", "([II)I"⟩
abbrev cX0_firstJob : ByteArray := prog_2_method_4_code
def yX0_firstJob : MethodName := ⟨RX0, "firstJob", "()LSpoolLink$Job;"⟩
abbrev cX0_dropFirstJob : ByteArray := prog_2_method_5_code
def yX0_dropFirstJob : MethodName := ⟨RX0, "dropFirstJob", "()Z"⟩
abbrev cX0_hasDone : ByteArray := prog_2_method_6_code
def yX0_hasDone : MethodName := ⟨RX0, "hasDone", "(I)Z"⟩
abbrev cX0_addDone : ByteArray := prog_2_method_7_code
def yX0_addDone : MethodName := ⟨RX0, "addDone", "(LSpoolLink$Job;)V"⟩
abbrev cX0_doneJob : ByteArray := prog_2_method_8_code
def yX0_doneJob : MethodName := ⟨RX0, "doneJob", "(I)LSpoolLink$Job;"⟩
def RX1 : String := "SpoolLink$Intake"
def TX1 : u_T := fun k => match k with
  | 0 => ("SpoolLink$Intake", "bytes", "[I", true)
  | 1 => ("SpoolLink$Intake", "taking", "Z", false)
  | 2 => ("SpoolLink$Intake", "number", "I", false)
  | 3 => ("SpoolLink$Intake", "length", "I", false)
  | _ => ("SpoolLink$Intake", "took", "I", false)
def tyX1 : Nat → FieldType := fun k => match k with
  | 0 => .array .int
  | 1 => .boolean
  | 2 => .int
  | 3 => .int
  | _ => .int
abbrev wsX10 : List Cond := u_ws RX1 TX1 5
theorem nmX1 : ∀ a, a < 5 → ∀ b, b < 5 → a ≠ b → (TX1 a).2.1 ≠ (TX1 b).2.1 := by decide +kernel
theorem tyX1_ok : ∀ k, k < 5 → parseFieldDescriptor (TX1 k).2.2.1 = some (tyX1 k) := by decide +kernel
abbrev cX1_init : ByteArray := prog_3_method_1_code
def yX1_init : MethodName := ⟨RX1, "<init>", "()V"⟩
abbrev cX1_forget : ByteArray := prog_3_method_2_code
def yX1_forget : MethodName := ⟨RX1, "forget", "()V"⟩
abbrev cX1_begin : ByteArray := prog_3_method_3_code
def yX1_begin : MethodName := ⟨RX1, "begin", "(II)V"⟩
abbrev cX1_takePart : ByteArray := prog_3_method_4_code
def yX1_takePart : MethodName := ⟨RX1, "takePart", "(LSpoolLink$Packet;)V"⟩
abbrev cX1_isWhole : ByteArray := prog_3_method_5_code
def yX1_isWhole : MethodName := ⟨RX1, "isWhole", "()Z"⟩
abbrev cX1_job : ByteArray := prog_3_method_6_code
def yX1_job : MethodName := ⟨RX1, "job", "()LSpoolLink$Job;"⟩
def RX2 : String := "SpoolLink$Job"
def TX2 : u_T := fun k => match k with
  | 0 => ("SpoolLink$Job", "number", "I", true)
  | _ => ("SpoolLink$Job", "bytes", "[I", true)
def tyX2 : Nat → FieldType := fun k => match k with
  | 0 => .int
  | _ => .array .int
abbrev wsX20 : List Cond := u_ws RX2 TX2 2
theorem nmX2 : ∀ a, a < 2 → ∀ b, b < 2 → a ≠ b → (TX2 a).2.1 ≠ (TX2 b).2.1 := by decide +kernel
theorem tyX2_ok : ∀ k, k < 2 → parseFieldDescriptor (TX2 k).2.2.1 = some (tyX2 k) := by decide +kernel
abbrev cX2_init : ByteArray := prog_4_method_1_code
def yX2_init : MethodName := ⟨RX2, "<init>", "(I[II)V"⟩
def RX3 : String := "SpoolLink$Message"
def TX3 : u_T := fun k => match k with
  | 0 => ("SpoolLink$Message", "bytes", "[I", true)
  | _ => ("SpoolLink$Message", "length", "I", false)
def tyX3 : Nat → FieldType := fun k => match k with
  | 0 => .array .int
  | _ => .int
abbrev wsX30 : List Cond := u_ws RX3 TX3 2
theorem nmX3 : ∀ a, a < 2 → ∀ b, b < 2 → a ≠ b → (TX3 a).2.1 ≠ (TX3 b).2.1 := by decide +kernel
theorem tyX3_ok : ∀ k, k < 2 → parseFieldDescriptor (TX3 k).2.2.1 = some (tyX3 k) := by decide +kernel
abbrev cX3_init : ByteArray := prog_5_method_1_code
def yX3_init : MethodName := ⟨RX3, "<init>", "()V"⟩
abbrev cX3_append : ByteArray := prog_5_method_2_code
def yX3_append : MethodName := ⟨RX3, "append", "(I)V"⟩
def RX4 : String := "SpoolLink$Packet"
def TX4 : u_T := fun k => match k with
  | 0 => ("SpoolLink$Packet", "bytes", "[I", true)
  | _ => ("SpoolLink$Packet", "length", "I", false)
def tyX4 : Nat → FieldType := fun k => match k with
  | 0 => .array .int
  | _ => .int
abbrev wsX40 : List Cond := u_ws RX4 TX4 2
theorem nmX4 : ∀ a, a < 2 → ∀ b, b < 2 → a ≠ b → (TX4 a).2.1 ≠ (TX4 b).2.1 := by decide +kernel
theorem tyX4_ok : ∀ k, k < 2 → parseFieldDescriptor (TX4 k).2.2.1 = some (tyX4 k) := by decide +kernel
abbrev cX4_init : ByteArray := prog_6_method_1_code
def yX4_init : MethodName := ⟨RX4, "<init>", "()V"⟩
abbrev cX4_fillControl : ByteArray := prog_6_method_2_code
def yX4_fillControl : MethodName := ⟨RX4, "fillControl", "(II)V"⟩
abbrev cX4_fillData : ByteArray := prog_6_method_3_code
def yX4_fillData : MethodName := ⟨RX4, "fillData", "(IILSpoolLink$Message;)V"⟩
abbrev cX4_isData : ByteArray := prog_6_method_4_code
def yX4_isData : MethodName := ⟨RX4, "isData", "()Z"⟩
abbrev cX4_x : ByteArray := prog_6_method_5_code
def yX4_x : MethodName := ⟨RX4, "x", "()I"⟩
abbrev cX4_y : ByteArray := prog_6_method_6_code
def yX4_y : MethodName := ⟨RX4, "y", "()I"⟩
abbrev cX4_messageLength : ByteArray := prog_6_method_7_code
def yX4_messageLength : MethodName := ⟨RX4, "messageLength", "()I"⟩
abbrev cX4_messageByte : ByteArray := prog_6_method_8_code
def yX4_messageByte : MethodName := ⟨RX4, "messageByte", "(I)I"⟩
abbrev cX4_isGood : ByteArray := prog_6_method_9_code
def yX4_isGood : MethodName := ⟨RX4, "isGood", "()Z"⟩
abbrev cX4_fillHead : ByteArray := prog_6_method_10_code
def yX4_fillHead : MethodName := ⟨RX4, "fillHead", "(III)V"⟩
abbrev cX4_hasHead : ByteArray := prog_6_method_11_code
def yX4_hasHead : MethodName := ⟨RX4, "hasHead", "(III)Z"⟩
abbrev cX4_isControl : ByteArray := prog_6_method_12_code
def yX4_isControl : MethodName := ⟨RX4, "isControl", "(I)Z"⟩
abbrev cX4_isMessageWellFormed : ByteArray := prog_6_method_13_code
def yX4_isMessageWellFormed : MethodName := ⟨RX4, "isMessageWellFormed", "()Z"⟩
abbrev cX4_sum : ByteArray := prog_6_method_14_code
def yX4_sum : MethodName := ⟨RX4, "sum", "()I"⟩
def RX5 : String := "SpoolLink$Site"
def TX5 : u_T := fun k => match k with
  | 0 => ("SpoolLink$Site", "place", "I", true)
  | 1 => ("SpoolLink$Site", "wire", "LSpoolLink$Wire;", true)
  | 2 => ("SpoolLink$Site", "disk", "LSpoolLink$Disk;", true)
  | 3 => ("SpoolLink$Site", "window", "LSpoolLink$Window;", true)
  | 4 => ("SpoolLink$Site", "intake", "LSpoolLink$Intake;", true)
  | 5 => ("SpoolLink$Site", "state", "I", false)
  | 6 => ("SpoolLink$Site", "callY", "I", false)
  | 7 => ("SpoolLink$Site", "openedByY", "I", false)
  | 8 => ("SpoolLink$Site", "accepted", "I", false)
  | 9 => ("SpoolLink$Site", "hasAccepted", "Z", false)
  | 10 => ("SpoolLink$Site", "ticks", "I", false)
  | 11 => ("SpoolLink$Site", "timesSentAgain", "I", false)
  | _ => ("SpoolLink$Site", "quietTicks", "I", false)
def tyX5 : Nat → FieldType := fun k => match k with
  | 0 => .int
  | 1 => .object "SpoolLink$Wire"
  | 2 => .object "SpoolLink$Disk"
  | 3 => .object "SpoolLink$Window"
  | 4 => .object "SpoolLink$Intake"
  | 5 => .int
  | 6 => .int
  | 7 => .int
  | 8 => .int
  | 9 => .boolean
  | 10 => .int
  | 11 => .int
  | _ => .int
abbrev wsX50 : List Cond := u_ws RX5 TX5 13
theorem nmX5 : ∀ a, a < 13 → ∀ b, b < 13 → a ≠ b → (TX5 a).2.1 ≠ (TX5 b).2.1 := by decide +kernel
theorem tyX5_ok : ∀ k, k < 13 → parseFieldDescriptor (TX5 k).2.2.1 = some (tyX5 k) := by decide +kernel
abbrev cX5_init : ByteArray := prog_7_method_1_code
def yX5_init : MethodName := ⟨RX5, "<init>", "(ILSpoolLink$Wire;)V"⟩
abbrev cX5_begin : ByteArray := prog_7_method_2_code
def yX5_begin : MethodName := ⟨RX5, "begin", "(I)V"⟩
abbrev cX5_beginCall : ByteArray := prog_7_method_3_code
def yX5_beginCall : MethodName := ⟨RX5, "beginCall", "()V"⟩
abbrev cX5_passTick : ByteArray := prog_7_method_4_code
def yX5_passTick : MethodName := ⟨RX5, "passTick", "()I"⟩
abbrev cX5_receive : ByteArray := prog_7_method_5_code
def yX5_receive : MethodName := ⟨RX5, "receive", "(LSpoolLink$Packet;)Z"⟩
abbrev cX5_isOpen : ByteArray := prog_7_method_6_code
def yX5_isOpen : MethodName := ⟨RX5, "isOpen", "()Z"⟩
abbrev cX5_passTickUnanswered : ByteArray := prog_7_method_7_code
def yX5_passTickUnanswered : MethodName := ⟨RX5, "passTickUnanswered", "()I"⟩
abbrev cX5_sendOutFrom : ByteArray := prog_7_method_8_code
def yX5_sendOutFrom : MethodName := ⟨RX5, "sendOutFrom", "(I)V"⟩
abbrev cX5_takeInit : ByteArray := prog_7_method_9_code
def yX5_takeInit : MethodName := ⟨RX5, "takeInit", "(I)V"⟩
abbrev cX5_takeAnswer : ByteArray := prog_7_method_10_code
def yX5_takeAnswer : MethodName := ⟨RX5, "takeAnswer", "(I)V"⟩
abbrev cX5_takeControl : ByteArray := prog_7_method_11_code
def yX5_takeControl : MethodName := ⟨RX5, "takeControl", "(II)V"⟩
abbrev cX5_takeAcknowledgement : ByteArray := prog_7_method_12_code
def yX5_takeAcknowledgement : MethodName := ⟨RX5, "takeAcknowledgement", "(I)V"⟩
abbrev cX5_takeData : ByteArray := prog_7_method_13_code
def yX5_takeData : MethodName := ⟨RX5, "takeData", "(LSpoolLink$Packet;)V"⟩
abbrev cX5_doAsMaster : ByteArray := prog_7_method_14_code
def yX5_doAsMaster : MethodName := ⟨RX5, "doAsMaster", "(LSpoolLink$Packet;)V"⟩
abbrev cX5_doAsSlave : ByteArray := prog_7_method_15_code
def yX5_doAsSlave : MethodName := ⟨RX5, "doAsSlave", "(LSpoolLink$Packet;)V"⟩
abbrev cX5_takeOffer : ByteArray := prog_7_method_16_code
def yX5_takeOffer : MethodName := ⟨RX5, "takeOffer", "(II)V"⟩
abbrev cX5_executeWhatIsWhole : ByteArray := prog_7_method_17_code
def yX5_executeWhatIsWhole : MethodName := ⟨RX5, "executeWhatIsWhole", "()V"⟩
abbrev cX5_goOn : ByteArray := prog_7_method_18_code
def yX5_goOn : MethodName := ⟨RX5, "goOn", "()V"⟩
abbrev cX5_addFile : ByteArray := prog_7_method_19_code
def yX5_addFile : MethodName := ⟨RX5, "addFile", "()V"⟩
def RX6 : String := "SpoolLink$Window"
def TX6 : u_T := fun k => match k with
  | 0 => ("SpoolLink$Window", "ring", "[LSpoolLink$Message;", true)
  | 1 => ("SpoolLink$Window", "first", "I", false)
  | 2 => ("SpoolLink$Window", "oldest", "I", false)
  | 3 => ("SpoolLink$Window", "out", "I", false)
  | _ => ("SpoolLink$Window", "behind", "I", false)
def tyX6 : Nat → FieldType := fun k => match k with
  | 0 => .array (.object "SpoolLink$Message")
  | 1 => .int
  | 2 => .int
  | 3 => .int
  | _ => .int
abbrev wsX60 : List Cond := u_ws RX6 TX6 5
theorem nmX6 : ∀ a, a < 5 → ∀ b, b < 5 → a ≠ b → (TX6 a).2.1 ≠ (TX6 b).2.1 := by decide +kernel
theorem tyX6_ok : ∀ k, k < 5 → parseFieldDescriptor (TX6 k).2.2.1 = some (tyX6 k) := by decide +kernel
abbrev cX6_init : ByteArray := prog_8_method_1_code
def yX6_init : MethodName := ⟨RX6, "<init>", "()V"⟩
abbrev cX6_clear : ByteArray := prog_8_method_2_code
def yX6_clear : MethodName := ⟨RX6, "clear", "()V"⟩
abbrev cX6_add : ByteArray := prog_8_method_3_code
def yX6_add : MethodName := ⟨RX6, "add", "(I)LSpoolLink$Message;"⟩
abbrev cX6_letOut : ByteArray := prog_8_method_4_code
def yX6_letOut : MethodName := ⟨RX6, "letOut", "()I"⟩
abbrev cX6_acknowledge : ByteArray := prog_8_method_5_code
def yX6_acknowledge : MethodName := ⟨RX6, "acknowledge", "(I)Z"⟩
abbrev cX6_number : ByteArray := prog_8_method_6_code
def yX6_number : MethodName := ⟨RX6, "number", "(I)I"⟩
abbrev cX6_message : ByteArray := prog_8_method_7_code
def yX6_message : MethodName := ⟨RX6, "message", "(I)LSpoolLink$Message;"⟩
def RX7 : String := "SpoolLink$Wire"
def TX7 : u_T := fun k => match k with
  | 0 => ("SpoolLink$Wire", "ring", "[LSpoolLink$Packet;", true)
  | 1 => ("SpoolLink$Wire", "lost", "LSpoolLink$Packet;", true)
  | 2 => ("SpoolLink$Wire", "first", "I", false)
  | _ => ("SpoolLink$Wire", "count", "I", false)
def tyX7 : Nat → FieldType := fun k => match k with
  | 0 => .array (.object "SpoolLink$Packet")
  | 1 => .object "SpoolLink$Packet"
  | 2 => .int
  | _ => .int
abbrev wsX70 : List Cond := u_ws RX7 TX7 4
theorem nmX7 : ∀ a, a < 4 → ∀ b, b < 4 → a ≠ b → (TX7 a).2.1 ≠ (TX7 b).2.1 := by decide +kernel
theorem tyX7_ok : ∀ k, k < 4 → parseFieldDescriptor (TX7 k).2.2.1 = some (tyX7 k) := by decide +kernel
abbrev cX7_init : ByteArray := prog_9_method_1_code
def yX7_init : MethodName := ⟨RX7, "<init>", "()V"⟩
abbrev cX7_packet : ByteArray := prog_9_method_2_code
def yX7_packet : MethodName := ⟨RX7, "packet", "(I)LSpoolLink$Packet;"⟩
abbrev cX7_add : ByteArray := prog_9_method_3_code
def yX7_add : MethodName := ⟨RX7, "add", "()LSpoolLink$Packet;"⟩
abbrev cX7_dropFirst : ByteArray := prog_9_method_4_code
def yX7_dropFirst : MethodName := ⟨RX7, "dropFirst", "()V"⟩
abbrev cX7_clear : ByteArray := prog_9_method_5_code
def yX7_clear : MethodName := ⟨RX7, "clear", "()V"⟩
def RX8 : String := "SpoolLink"
def TX8 : u_T := fun k => match k with
  | 0 => ("SpoolLink", "wires", "[LSpoolLink$Wire;", true)
  | 1 => ("SpoolLink", "sites", "[LSpoolLink$Site;", true)
  | 2 => ("SpoolLink", "nextFile", "[I", true)
  | _ => ("SpoolLink", "nextLength", "I", false)
def tyX8 : Nat → FieldType := fun k => match k with
  | 0 => .array (.object "SpoolLink$Wire")
  | 1 => .array (.object "SpoolLink$Site")
  | 2 => .array .int
  | _ => .int
abbrev wsX80 : List Cond := u_ws RX8 TX8 4
theorem nmX8 : ∀ a, a < 4 → ∀ b, b < 4 → a ≠ b → (TX8 a).2.1 ≠ (TX8 b).2.1 := by decide +kernel
theorem tyX8_ok : ∀ k, k < 4 → parseFieldDescriptor (TX8 k).2.2.1 = some (tyX8 k) := by decide +kernel
abbrev cX8_init : ByteArray := prog_1_method_1_code
def yX8_init : MethodName := ⟨RX8, "<init>", "()V"⟩
abbrev cX8_put : ByteArray := prog_1_method_2_code
def yX8_put : MethodName := ⟨RX8, "put", "(I)I"⟩
abbrev cX8_queue : ByteArray := prog_1_method_3_code
def yX8_queue : MethodName := ⟨RX8, "queue", "(I)I"⟩
abbrev cX8_call : ByteArray := prog_1_method_4_code
def yX8_call : MethodName := ⟨RX8, "call", "(I)Z"⟩
abbrev cX8_deliver : ByteArray := prog_1_method_5_code
def yX8_deliver : MethodName := ⟨RX8, "deliver", "(I)I"⟩
abbrev cX8_lose : ByteArray := prog_1_method_6_code
def yX8_lose : MethodName := ⟨RX8, "lose", "(I)Z"⟩
abbrev cX8_alter : ByteArray := prog_1_method_7_code
def yX8_alter : MethodName := ⟨RX8, "alter", "(III)Z"⟩
abbrev cX8_tick : ByteArray := prog_1_method_8_code
def yX8_tick : MethodName := ⟨RX8, "tick", "()I"⟩
abbrev cX8_crash : ByteArray := prog_1_method_9_code
def yX8_crash : MethodName := ⟨RX8, "crash", "(I)Z"⟩
abbrev cX8_settle : ByteArray := prog_1_method_10_code
def yX8_settle : MethodName := ⟨RX8, "settle", "(I)I"⟩
abbrev cX8_waiting : ByteArray := prog_1_method_11_code
def yX8_waiting : MethodName := ⟨RX8, "waiting", "(I)I"⟩
abbrev cX8_look : ByteArray := prog_1_method_12_code
def yX8_look : MethodName := ⟨RX8, "look", "(III)I"⟩
abbrev cX8_told : ByteArray := prog_1_method_13_code
def yX8_told : MethodName := ⟨RX8, "told", "(II)I"⟩
abbrev cX8_queued : ByteArray := prog_1_method_14_code
def yX8_queued : MethodName := ⟨RX8, "queued", "(II)I"⟩
abbrev cX8_executed : ByteArray := prog_1_method_15_code
def yX8_executed : MethodName := ⟨RX8, "executed", "(II)I"⟩
abbrev cX8_file : ByteArray := prog_1_method_16_code
def yX8_file : MethodName := ⟨RX8, "file", "(III)I"⟩
abbrev cX8_times : ByteArray := prog_1_method_17_code
def yX8_times : MethodName := ⟨RX8, "times", "(II)I"⟩
abbrev cX8_isSite : ByteArray := prog_1_method_18_code
def yX8_isSite : MethodName := ⟨RX8, "isSite", "(I)Z"⟩
abbrev cX8_packetOn : ByteArray := prog_1_method_19_code
def yX8_packetOn : MethodName := ⟨RX8, "packetOn", "(II)LSpoolLink$Packet;"⟩
abbrev cX8_doneJob : ByteArray := prog_1_method_20_code
def yX8_doneJob : MethodName := ⟨RX8, "doneJob", "(II)LSpoolLink$Job;"⟩
abbrev cX8_handOver : ByteArray := prog_1_method_21_code
def yX8_handOver : MethodName := ⟨RX8, "handOver", "(I)I"⟩
def RX9 : String := "SpoolLinkModel"
def TX9 : u_T := fun k => match k with
  | 0 => ("SpoolLinkModel", "queued", "[I", true)
  | 1 => ("SpoolLinkModel", "fileLength", "[I", true)
  | 2 => ("SpoolLinkModel", "files", "[I", true)
  | 3 => ("SpoolLinkModel", "queueCount", "[I", true)
  | 4 => ("SpoolLinkModel", "queue", "[I", true)
  | 5 => ("SpoolLinkModel", "executedCount", "[I", true)
  | 6 => ("SpoolLinkModel", "executed", "[I", true)
  | 7 => ("SpoolLinkModel", "executedLength", "[I", true)
  | 8 => ("SpoolLinkModel", "executedFiles", "[I", true)
  | 9 => ("SpoolLinkModel", "calls", "[I", true)
  | 10 => ("SpoolLinkModel", "next", "[I", true)
  | 11 => ("SpoolLinkModel", "nextLength", "I", false)
  | 12 => ("SpoolLinkModel", "lying", "[I", true)
  | 13 => ("SpoolLinkModel", "wire", "[I", true)
  | 14 => ("SpoolLinkModel", "size", "[I", true)
  | 15 => ("SpoolLinkModel", "packet", "[I", true)
  | 16 => ("SpoolLinkModel", "packetSize", "I", false)
  | 17 => ("SpoolLinkModel", "state", "[I", true)
  | 18 => ("SpoolLinkModel", "master", "[Z", true)
  | 19 => ("SpoolLinkModel", "initOf", "[I", true)
  | 20 => ("SpoolLinkModel", "since", "[Z", true)
  | 21 => ("SpoolLinkModel", "accepted", "[I", true)
  | 22 => ("SpoolLinkModel", "sent", "[I", true)
  | 23 => ("SpoolLinkModel", "out", "[I", true)
  | 24 => ("SpoolLinkModel", "outNumber", "[I", true)
  | 25 => ("SpoolLinkModel", "outData", "[I", true)
  | 26 => ("SpoolLinkModel", "waits", "[I", true)
  | 27 => ("SpoolLinkModel", "waitData", "[I", true)
  | 28 => ("SpoolLinkModel", "takes", "[Z", true)
  | 29 => ("SpoolLinkModel", "takeNumber", "[I", true)
  | 30 => ("SpoolLinkModel", "takeWant", "[I", true)
  | 31 => ("SpoolLinkModel", "takeHas", "[I", true)
  | 32 => ("SpoolLinkModel", "taken", "[I", true)
  | 33 => ("SpoolLinkModel", "ticks", "[I", true)
  | 34 => ("SpoolLinkModel", "again", "[I", true)
  | 35 => ("SpoolLinkModel", "message", "[I", true)
  | _ => ("SpoolLinkModel", "held", "[I", true)
def tyX9 : Nat → FieldType := fun k => match k with
  | 0 => .array .int
  | 1 => .array .int
  | 2 => .array .int
  | 3 => .array .int
  | 4 => .array .int
  | 5 => .array .int
  | 6 => .array .int
  | 7 => .array .int
  | 8 => .array .int
  | 9 => .array .int
  | 10 => .array .int
  | 11 => .int
  | 12 => .array .int
  | 13 => .array .int
  | 14 => .array .int
  | 15 => .array .int
  | 16 => .int
  | 17 => .array .int
  | 18 => .array .boolean
  | 19 => .array .int
  | 20 => .array .boolean
  | 21 => .array .int
  | 22 => .array .int
  | 23 => .array .int
  | 24 => .array .int
  | 25 => .array .int
  | 26 => .array .int
  | 27 => .array .int
  | 28 => .array .boolean
  | 29 => .array .int
  | 30 => .array .int
  | 31 => .array .int
  | 32 => .array .int
  | 33 => .array .int
  | 34 => .array .int
  | 35 => .array .int
  | _ => .array .int
abbrev wsX90 : List Cond := u_ws RX9 TX9 37
theorem nmX9 : ∀ a, a < 37 → ∀ b, b < 37 → a ≠ b → (TX9 a).2.1 ≠ (TX9 b).2.1 := by decide +kernel
theorem tyX9_ok : ∀ k, k < 37 → parseFieldDescriptor (TX9 k).2.2.1 = some (tyX9 k) := by decide +kernel
abbrev cX9_init : ByteArray := prog_11_method_1_code
def yX9_init : MethodName := ⟨RX9, "<init>", "()V"⟩
abbrev cX9_isSite : ByteArray := prog_11_method_2_code
def yX9_isSite : MethodName := ⟨RX9, "isSite", "(I)Z"⟩
abbrev cX9_put : ByteArray := prog_11_method_3_code
def yX9_put : MethodName := ⟨RX9, "put", "(I)I"⟩
abbrev cX9_queue : ByteArray := prog_11_method_4_code
def yX9_queue : MethodName := ⟨RX9, "queue", "(I)I"⟩
abbrev cX9_leave : ByteArray := prog_11_method_5_code
def yX9_leave : MethodName := ⟨RX9, "leave", "(I)V"⟩
abbrev cX9_isExecuted : ByteArray := prog_11_method_6_code
def yX9_isExecuted : MethodName := ⟨RX9, "isExecuted", "(II)Z"⟩
abbrev cX9_left : ByteArray := prog_11_method_7_code
def yX9_left : MethodName := ⟨RX9, "left", "(I)I"⟩
abbrev cX9_sum : ByteArray := prog_11_method_8_code
def yX9_sum : MethodName := ⟨RX9, "sum", "(I)I"⟩
abbrev cX9_head : ByteArray := prog_11_method_9_code
def yX9_head : MethodName := ⟨RX9, "head", "(II)V"⟩
abbrev cX9_lay : ByteArray := prog_11_method_10_code
def yX9_lay : MethodName := ⟨RX9, "lay", "(I)V"⟩
abbrev cX9_control : ByteArray := prog_11_method_11_code
def yX9_control : MethodName := ⟨RX9, "control", "(III)V"⟩
abbrev cX9_data : ByteArray := prog_11_method_12_code
def yX9_data : MethodName := ⟨RX9, "data", "(II)V"⟩
abbrev cX9_isGood : ByteArray := prog_11_method_13_code
def yX9_isGood : MethodName := ⟨RX9, "isGood", "()Z"⟩
abbrev cX9_forget : ByteArray := prog_11_method_14_code
def yX9_forget : MethodName := ⟨RX9, "forget", "(II)V"⟩
abbrev cX9_flow : ByteArray := prog_11_method_15_code
def yX9_flow : MethodName := ⟨RX9, "flow", "(I)V"⟩
abbrev cX9_begin : ByteArray := prog_11_method_16_code
def yX9_begin : MethodName := ⟨RX9, "begin", "(I)V"⟩
abbrev cX9_more : ByteArray := prog_11_method_17_code
def yX9_more : MethodName := ⟨RX9, "more", "(I)V"⟩
abbrev cX9_send : ByteArray := prog_11_method_18_code
def yX9_send : MethodName := ⟨RX9, "send", "(I)V"⟩
abbrev cX9_say : ByteArray := prog_11_method_19_code
def yX9_say : MethodName := ⟨RX9, "say", "(II)V"⟩
abbrev cX9_goOn : ByteArray := prog_11_method_20_code
def yX9_goOn : MethodName := ⟨RX9, "goOn", "(I)V"⟩
abbrev cX9_sendFile : ByteArray := prog_11_method_21_code
def yX9_sendFile : MethodName := ⟨RX9, "sendFile", "(I)V"⟩
abbrev cX9_execute : ByteArray := prog_11_method_22_code
def yX9_execute : MethodName := ⟨RX9, "execute", "(I)V"⟩
abbrev cX9_acknowledge : ByteArray := prog_11_method_23_code
def yX9_acknowledge : MethodName := ⟨RX9, "acknowledge", "(II)V"⟩
abbrev cX9_sendAgain : ByteArray := prog_11_method_24_code
def yX9_sendAgain : MethodName := ⟨RX9, "sendAgain", "(I)V"⟩
abbrev cX9_done : ByteArray := prog_11_method_25_code
def yX9_done : MethodName := ⟨RX9, "done", "(I)V"⟩
abbrev cX9_offered : ByteArray := prog_11_method_26_code
def yX9_offered : MethodName := ⟨RX9, "offered", "(III)V"⟩
abbrev cX9_come : ByteArray := prog_11_method_27_code
def yX9_come : MethodName := ⟨RX9, "come", "(I)V"⟩
abbrev cX9_takeFirst : ByteArray := prog_11_method_28_code
def yX9_takeFirst : MethodName := ⟨RX9, "takeFirst", "(I)V"⟩
abbrev cX9_call : ByteArray := prog_11_method_29_code
def yX9_call : MethodName := ⟨RX9, "call", "(I)Z"⟩
abbrev cX9_deliver : ByteArray := prog_11_method_30_code
def yX9_deliver : MethodName := ⟨RX9, "deliver", "(I)I"⟩
abbrev cX9_lose : ByteArray := prog_11_method_31_code
def yX9_lose : MethodName := ⟨RX9, "lose", "(I)Z"⟩
abbrev cX9_alter : ByteArray := prog_11_method_32_code
def yX9_alter : MethodName := ⟨RX9, "alter", "(III)Z"⟩
abbrev cX9_tickOf : ByteArray := prog_11_method_33_code
def yX9_tickOf : MethodName := ⟨RX9, "tickOf", "(I)I"⟩
abbrev cX9_tick : ByteArray := prog_11_method_34_code
def yX9_tick : MethodName := ⟨RX9, "tick", "()I"⟩
abbrev cX9_crash : ByteArray := prog_11_method_35_code
def yX9_crash : MethodName := ⟨RX9, "crash", "(I)Z"⟩
abbrev cX9_settle : ByteArray := prog_11_method_36_code
def yX9_settle : MethodName := ⟨RX9, "settle", "(I)I"⟩
abbrev cX9_waiting : ByteArray := prog_11_method_37_code
def yX9_waiting : MethodName := ⟨RX9, "waiting", "(I)I"⟩
abbrev cX9_look : ByteArray := prog_11_method_38_code
def yX9_look : MethodName := ⟨RX9, "look", "(III)I"⟩
abbrev cX9_told : ByteArray := prog_11_method_39_code
def yX9_told : MethodName := ⟨RX9, "told", "(II)I"⟩
abbrev cX9_queued : ByteArray := prog_11_method_40_code
def yX9_queued : MethodName := ⟨RX9, "queued", "(II)I"⟩
abbrev cX9_executed : ByteArray := prog_11_method_41_code
def yX9_executed : MethodName := ⟨RX9, "executed", "(II)I"⟩
abbrev cX9_file : ByteArray := prog_11_method_42_code
def yX9_file : MethodName := ⟨RX9, "file", "(III)I"⟩
abbrev cX9_times : ByteArray := prog_11_method_43_code
def yX9_times : MethodName := ⟨RX9, "times", "(II)I"⟩
def RJ9 : String := "java/lang/Math"
def TJ9 : u_T := fun k => match k with
  | _ => ("", "", "", false)
def tyJ9 : Nat → FieldType := fun k => match k with
  | _ => .int
abbrev wsJ90 : List Cond := u_ws RJ9 TJ9 0
theorem nmJ9 : ∀ a, a < 0 → ∀ b, b < 0 → a ≠ b → (TJ9 a).2.1 ≠ (TJ9 b).2.1 := by decide +kernel
theorem tyJ9_ok : ∀ k, k < 0 → parseFieldDescriptor (TJ9 k).2.2.1 = some (tyJ9 k) := by decide +kernel
abbrev cJ9_min_7cf53 : ByteArray := prog_12_method_69_code
def yJ9_min_7cf53 : MethodName := ⟨RJ9, "min", "(II)I"⟩
def RJ10 : String := "java/lang/System"
def TJ10 : u_T := fun k => match k with
  | _ => ("", "", "", false)
def tyJ10 : Nat → FieldType := fun k => match k with
  | _ => .int
abbrev wsJ100 : List Cond := u_ws RJ10 TJ10 0
theorem nmJ10 : ∀ a, a < 0 → ∀ b, b < 0 → a ≠ b → (TJ10 a).2.1 ≠ (TJ10 b).2.1 := by decide +kernel
theorem tyJ10_ok : ∀ k, k < 0 → parseFieldDescriptor (TJ10 k).2.2.1 = some (tyJ10 k) := by decide +kernel
def RL : String := "SpoolLinkLaw"
abbrev cL_law : ByteArray := code
def yL_law : MethodName := ⟨RL, "law", "([I)Z"⟩
abbrev vwCl : List vw_C := [(RX0, TX0, 6), (RX1, TX1, 5), (RX2, TX2, 2), (RX3, TX3, 2), (RX4, TX4, 2), (RX5, TX5, 13), (RX6, TX6, 5), (RX7, TX7, 4), (RX8, TX8, 4), (RX9, TX9, 37)]
/-! words by their places in the tables -/
def G : List Cond := lw_tbl.filter goodWord
theorem gm {w : Cond} (i : Nat) (h : tables_1[i]? = some w) (hg : goodWord w = true) : w ∈ G := List.mem_filter.mpr ⟨List.mem_append_right _ (List.mem_of_getElem? h), hg⟩
theorem gs {w : Cond} (i : Nat) (h : (k2_sels lw_privs)[i]? = some w) (hg : goodWord w = true) : w ∈ G := List.mem_filter.mpr ⟨List.mem_append_left _ (List.mem_of_getElem? h), hg⟩
theorem gG (y : Cond) (hy : y ∈ G) (Ts : List Cond) (hT : ∀ w ∈ G, w ∈ Ts) : GoodIn Ts (y :: G) := fun w hw => by
  rcases List.mem_cons.mp hw with rfl | h
  · exact ⟨hT _ hy, good_of_word (List.mem_filter.mp hy).2⟩
  · exact ⟨hT _ h, good_of_word (List.mem_filter.mp h).2⟩
theorem iwX0 : ∀ k, k < 6 → tables_1[([85, 87, 89, 91, 93, 95] : List Nat).getD k 0]? = some (u_lay RX0 TX0 k) ∧ goodWord (u_lay RX0 TX0 k) = true := by decide +kernel
theorem inX0 : ∀ w ∈ wsX00, w ∈ G := fun w hw => by
  obtain ⟨k, hk, rfl⟩ := List.mem_map.mp hw
  exact gm _ (iwX0 k (List.mem_range.mp hk)).1 (iwX0 k (List.mem_range.mp hk)).2
theorem iwX1 : ∀ k, k < 5 → tables_1[([153, 155, 157, 159, 161] : List Nat).getD k 0]? = some (u_lay RX1 TX1 k) ∧ goodWord (u_lay RX1 TX1 k) = true := by decide +kernel
theorem inX1 : ∀ w ∈ wsX10, w ∈ G := fun w hw => by
  obtain ⟨k, hk, rfl⟩ := List.mem_map.mp hw
  exact gm _ (iwX1 k (List.mem_range.mp hk)).1 (iwX1 k (List.mem_range.mp hk)).2
theorem iwX2 : ∀ k, k < 2 → tables_1[([250, 252] : List Nat).getD k 0]? = some (u_lay RX2 TX2 k) ∧ goodWord (u_lay RX2 TX2 k) = true := by decide +kernel
theorem inX2 : ∀ w ∈ wsX20, w ∈ G := fun w hw => by
  obtain ⟨k, hk, rfl⟩ := List.mem_map.mp hw
  exact gm _ (iwX2 k (List.mem_range.mp hk)).1 (iwX2 k (List.mem_range.mp hk)).2
theorem iwX3 : ∀ k, k < 2 → tables_1[([117, 119] : List Nat).getD k 0]? = some (u_lay RX3 TX3 k) ∧ goodWord (u_lay RX3 TX3 k) = true := by decide +kernel
theorem inX3 : ∀ w ∈ wsX30, w ∈ G := fun w hw => by
  obtain ⟨k, hk, rfl⟩ := List.mem_map.mp hw
  exact gm _ (iwX3 k (List.mem_range.mp hk)).1 (iwX3 k (List.mem_range.mp hk)).2
theorem iwX4 : ∀ k, k < 2 → tables_1[([38, 40] : List Nat).getD k 0]? = some (u_lay RX4 TX4 k) ∧ goodWord (u_lay RX4 TX4 k) = true := by decide +kernel
theorem inX4 : ∀ w ∈ wsX40, w ∈ G := fun w hw => by
  obtain ⟨k, hk, rfl⟩ := List.mem_map.mp hw
  exact gm _ (iwX4 k (List.mem_range.mp hk)).1 (iwX4 k (List.mem_range.mp hk)).2
theorem iwX5 : ∀ k, k < 13 → tables_1[([180, 182, 184, 186, 188, 190, 192, 194, 196, 198, 200, 202, 204] : List Nat).getD k 0]? = some (u_lay RX5 TX5 k) ∧ goodWord (u_lay RX5 TX5 k) = true := by decide +kernel
theorem inX5 : ∀ w ∈ wsX50, w ∈ G := fun w hw => by
  obtain ⟨k, hk, rfl⟩ := List.mem_map.mp hw
  exact gm _ (iwX5 k (List.mem_range.mp hk)).1 (iwX5 k (List.mem_range.mp hk)).2
theorem iwX6 : ∀ k, k < 5 → tables_1[([130, 132, 134, 136, 138] : List Nat).getD k 0]? = some (u_lay RX6 TX6 k) ∧ goodWord (u_lay RX6 TX6 k) = true := by decide +kernel
theorem inX6 : ∀ w ∈ wsX60, w ∈ G := fun w hw => by
  obtain ⟨k, hk, rfl⟩ := List.mem_map.mp hw
  exact gm _ (iwX6 k (List.mem_range.mp hk)).1 (iwX6 k (List.mem_range.mp hk)).2
theorem iwX7 : ∀ k, k < 4 → tables_1[([50, 52, 54, 56] : List Nat).getD k 0]? = some (u_lay RX7 TX7 k) ∧ goodWord (u_lay RX7 TX7 k) = true := by decide +kernel
theorem inX7 : ∀ w ∈ wsX70, w ∈ G := fun w hw => by
  obtain ⟨k, hk, rfl⟩ := List.mem_map.mp hw
  exact gm _ (iwX7 k (List.mem_range.mp hk)).1 (iwX7 k (List.mem_range.mp hk)).2
theorem iwX8 : ∀ k, k < 4 → tables_1[([211, 213, 215, 217] : List Nat).getD k 0]? = some (u_lay RX8 TX8 k) ∧ goodWord (u_lay RX8 TX8 k) = true := by decide +kernel
theorem inX8 : ∀ w ∈ wsX80, w ∈ G := fun w hw => by
  obtain ⟨k, hk, rfl⟩ := List.mem_map.mp hw
  exact gm _ (iwX8 k (List.mem_range.mp hk)).1 (iwX8 k (List.mem_range.mp hk)).2
theorem iwX9 : ∀ k, k < 37 → tables_1[([593, 595, 597, 599, 601, 603, 605, 607, 609, 611, 613, 615, 617, 619, 621, 623, 625, 627, 629, 631, 633, 635, 637, 639, 641, 643, 645, 647, 649, 651, 653, 655, 657, 659, 661, 663, 665] : List Nat).getD k 0]? = some (u_lay RX9 TX9 k) ∧ goodWord (u_lay RX9 TX9 k) = true := by decide +kernel
theorem inX9 : ∀ w ∈ wsX90, w ∈ G := fun w hw => by
  obtain ⟨k, hk, rfl⟩ := List.mem_map.mp hw
  exact gm _ (iwX9 k (List.mem_range.mp hk)).1 (iwX9 k (List.mem_range.mp hk)).2
end
section
theorem dX0_init_0 : decode cX0_init 0 = .ok (.aload_n 0, 1) := by decide +kernel
theorem dX0_init_1 : decode cX0_init 1 = .ok (.invokespecial 3, 3) := by decide +kernel
theorem dX0_init_4 : decode cX0_init 4 = .ok (.aload_n 0, 1) := by decide +kernel
theorem dX0_init_5 : decode cX0_init 5 = .ok (.bipush 30, 2) := by decide +kernel
theorem dX0_init_7 : decode cX0_init 7 = .ok (.anewarray 11, 3) := by decide +kernel
theorem dX0_init_10 : decode cX0_init 10 = .ok (.putfield 13, 3) := by decide +kernel
theorem dX0_init_13 : decode cX0_init 13 = .ok (.aload_n 0, 1) := by decide +kernel
theorem dX0_init_14 : decode cX0_init 14 = .ok (.iconst 0, 1) := by decide +kernel
theorem dX0_init_15 : decode cX0_init 15 = .ok (.putfield 17, 3) := by decide +kernel
theorem dX0_init_18 : decode cX0_init 18 = .ok (.aload_n 0, 1) := by decide +kernel
theorem dX0_init_19 : decode cX0_init 19 = .ok (.iconst 0, 1) := by decide +kernel
theorem dX0_init_20 : decode cX0_init 20 = .ok (.putfield 21, 3) := by decide +kernel
theorem dX0_init_23 : decode cX0_init 23 = .ok (.aload_n 0, 1) := by decide +kernel
theorem dX0_init_24 : decode cX0_init 24 = .ok (.sipush 256, 3) := by decide +kernel
theorem dX0_init_27 : decode cX0_init 27 = .ok (.anewarray 11, 3) := by decide +kernel
theorem dX0_init_30 : decode cX0_init 30 = .ok (.putfield 24, 3) := by decide +kernel
theorem dX0_init_33 : decode cX0_init 33 = .ok (.aload_n 0, 1) := by decide +kernel
theorem dX0_init_34 : decode cX0_init 34 = .ok (.iconst 0, 1) := by decide +kernel
theorem dX0_init_35 : decode cX0_init 35 = .ok (.putfield 27, 3) := by decide +kernel
theorem dX0_init_38 : decode cX0_init 38 = .ok (.aload_n 0, 1) := by decide +kernel
theorem dX0_init_39 : decode cX0_init 39 = .ok (.iconst 0, 1) := by decide +kernel
theorem dX0_init_40 : decode cX0_init 40 = .ok (.putfield 30, 3) := by decide +kernel
theorem dX0_init_43 : decode cX0_init 43 = .ok (.return_, 1) := by decide +kernel
theorem dX0_jobsLeft_0 : decode cX0_jobsLeft 0 = .ok (.aload_n 0, 1) := by decide +kernel
theorem dX0_jobsLeft_1 : decode cX0_jobsLeft 1 = .ok (.getfield 21, 3) := by decide +kernel
theorem dX0_jobsLeft_4 : decode cX0_jobsLeft 4 = .ok (.aload_n 0, 1) := by decide +kernel
theorem dX0_jobsLeft_5 : decode cX0_jobsLeft 5 = .ok (.getfield 17, 3) := by decide +kernel
theorem dX0_jobsLeft_8 : decode cX0_jobsLeft 8 = .ok (.isub, 1) := by decide +kernel
theorem dX0_jobsLeft_9 : decode cX0_jobsLeft 9 = .ok (.ireturn, 1) := by decide +kernel
theorem dX0_addJob_0 : decode cX0_addJob 0 = .ok (.aload_n 0, 1) := by decide +kernel
theorem dX0_addJob_1 : decode cX0_addJob 1 = .ok (.getfield 21, 3) := by decide +kernel
theorem dX0_addJob_4 : decode cX0_addJob 4 = .ok (.bipush 30, 2) := by decide +kernel
theorem dX0_addJob_6 : decode cX0_addJob 6 = .ok (.if_icmp .lt 5, 3) := by decide +kernel
theorem dX0_addJob_9 : decode cX0_addJob 9 = .ok (.iconst (-1), 1) := by decide +kernel
theorem dX0_addJob_10 : decode cX0_addJob 10 = .ok (.ireturn, 1) := by decide +kernel
theorem dX0_addJob_11 : decode cX0_addJob 11 = .ok (.aload_n 0, 1) := by decide +kernel
theorem dX0_addJob_12 : decode cX0_addJob 12 = .ok (.getfield 21, 3) := by decide +kernel
theorem dX0_addJob_15 : decode cX0_addJob 15 = .ok (.istore_n 3, 1) := by decide +kernel
theorem dX0_addJob_16 : decode cX0_addJob 16 = .ok (.aload_n 0, 1) := by decide +kernel
theorem dX0_addJob_17 : decode cX0_addJob 17 = .ok (.getfield 13, 3) := by decide +kernel
theorem dX0_addJob_20 : decode cX0_addJob 20 = .ok (.iload_n 3, 1) := by decide +kernel
theorem dX0_addJob_21 : decode cX0_addJob 21 = .ok (.new 11, 3) := by decide +kernel
theorem dX0_addJob_24 : decode cX0_addJob 24 = .ok (.dup, 1) := by decide +kernel
theorem dX0_addJob_25 : decode cX0_addJob 25 = .ok (.iload_n 3, 1) := by decide +kernel
theorem dX0_addJob_26 : decode cX0_addJob 26 = .ok (.aload_n 1, 1) := by decide +kernel
theorem dX0_addJob_27 : decode cX0_addJob 27 = .ok (.iload_n 2, 1) := by decide +kernel
theorem dX0_addJob_28 : decode cX0_addJob 28 = .ok (.invokespecial 33, 3) := by decide +kernel
theorem dX0_addJob_31 : decode cX0_addJob 31 = .ok (.aastore, 1) := by decide +kernel
theorem dX0_addJob_32 : decode cX0_addJob 32 = .ok (.aload_n 0, 1) := by decide +kernel
theorem dX0_addJob_33 : decode cX0_addJob 33 = .ok (.dup, 1) := by decide +kernel
theorem dX0_addJob_34 : decode cX0_addJob 34 = .ok (.getfield 21, 3) := by decide +kernel
theorem dX0_addJob_37 : decode cX0_addJob 37 = .ok (.iconst 1, 1) := by decide +kernel
theorem dX0_addJob_38 : decode cX0_addJob 38 = .ok (.iadd, 1) := by decide +kernel
theorem dX0_addJob_39 : decode cX0_addJob 39 = .ok (.putfield 21, 3) := by decide +kernel
theorem dX0_addJob_42 : decode cX0_addJob 42 = .ok (.iload_n 3, 1) := by decide +kernel
theorem dX0_addJob_43 : decode cX0_addJob 43 = .ok (.ireturn, 1) := by decide +kernel
theorem dX0_firstJob_0 : decode cX0_firstJob 0 = .ok (.aload_n 0, 1) := by decide +kernel
theorem dX0_firstJob_1 : decode cX0_firstJob 1 = .ok (.getfield 17, 3) := by decide +kernel
theorem dX0_firstJob_4 : decode cX0_firstJob 4 = .ok (.aload_n 0, 1) := by decide +kernel
theorem dX0_firstJob_5 : decode cX0_firstJob 5 = .ok (.getfield 21, 3) := by decide +kernel
theorem dX0_firstJob_8 : decode cX0_firstJob 8 = .ok (.if_icmp .ge 15, 3) := by decide +kernel
theorem dX0_firstJob_11 : decode cX0_firstJob 11 = .ok (.aload_n 0, 1) := by decide +kernel
theorem dX0_firstJob_12 : decode cX0_firstJob 12 = .ok (.getfield 13, 3) := by decide +kernel
theorem dX0_firstJob_15 : decode cX0_firstJob 15 = .ok (.aload_n 0, 1) := by decide +kernel
theorem dX0_firstJob_16 : decode cX0_firstJob 16 = .ok (.getfield 17, 3) := by decide +kernel
theorem dX0_firstJob_19 : decode cX0_firstJob 19 = .ok (.aaload, 1) := by decide +kernel
theorem dX0_firstJob_20 : decode cX0_firstJob 20 = .ok (.goto 4, 3) := by decide +kernel
theorem dX0_firstJob_23 : decode cX0_firstJob 23 = .ok (.aconst_null, 1) := by decide +kernel
theorem dX0_firstJob_24 : decode cX0_firstJob 24 = .ok (.areturn, 1) := by decide +kernel
theorem dX0_dropFirstJob_0 : decode cX0_dropFirstJob 0 = .ok (.aload_n 0, 1) := by decide +kernel
theorem dX0_dropFirstJob_1 : decode cX0_dropFirstJob 1 = .ok (.getfield 17, 3) := by decide +kernel
theorem dX0_dropFirstJob_4 : decode cX0_dropFirstJob 4 = .ok (.aload_n 0, 1) := by decide +kernel
theorem dX0_dropFirstJob_5 : decode cX0_dropFirstJob 5 = .ok (.getfield 21, 3) := by decide +kernel
theorem dX0_dropFirstJob_8 : decode cX0_dropFirstJob 8 = .ok (.if_icmp .lt 5, 3) := by decide +kernel
theorem dX0_dropFirstJob_11 : decode cX0_dropFirstJob 11 = .ok (.iconst 0, 1) := by decide +kernel
theorem dX0_dropFirstJob_12 : decode cX0_dropFirstJob 12 = .ok (.ireturn, 1) := by decide +kernel
theorem dX0_dropFirstJob_13 : decode cX0_dropFirstJob 13 = .ok (.aload_n 0, 1) := by decide +kernel
theorem dX0_dropFirstJob_14 : decode cX0_dropFirstJob 14 = .ok (.dup, 1) := by decide +kernel
theorem dX0_dropFirstJob_15 : decode cX0_dropFirstJob 15 = .ok (.getfield 17, 3) := by decide +kernel
theorem dX0_dropFirstJob_18 : decode cX0_dropFirstJob 18 = .ok (.iconst 1, 1) := by decide +kernel
theorem dX0_dropFirstJob_19 : decode cX0_dropFirstJob 19 = .ok (.iadd, 1) := by decide +kernel
theorem dX0_dropFirstJob_20 : decode cX0_dropFirstJob 20 = .ok (.putfield 17, 3) := by decide +kernel
theorem dX0_dropFirstJob_23 : decode cX0_dropFirstJob 23 = .ok (.iconst 1, 1) := by decide +kernel
theorem dX0_dropFirstJob_24 : decode cX0_dropFirstJob 24 = .ok (.ireturn, 1) := by decide +kernel
theorem dX0_hasDone_0 : decode cX0_hasDone 0 = .ok (.iconst 0, 1) := by decide +kernel
theorem dX0_hasDone_1 : decode cX0_hasDone 1 = .ok (.istore_n 2, 1) := by decide +kernel
theorem dX0_hasDone_2 : decode cX0_hasDone 2 = .ok (.iload_n 2, 1) := by decide +kernel
theorem dX0_hasDone_3 : decode cX0_hasDone 3 = .ok (.aload_n 0, 1) := by decide +kernel
theorem dX0_hasDone_4 : decode cX0_hasDone 4 = .ok (.getfield 27, 3) := by decide +kernel
theorem dX0_hasDone_7 : decode cX0_hasDone 7 = .ok (.if_icmp .ge 24, 3) := by decide +kernel
theorem dX0_hasDone_10 : decode cX0_hasDone 10 = .ok (.aload_n 0, 1) := by decide +kernel
theorem dX0_hasDone_11 : decode cX0_hasDone 11 = .ok (.getfield 24, 3) := by decide +kernel
theorem dX0_hasDone_14 : decode cX0_hasDone 14 = .ok (.iload_n 2, 1) := by decide +kernel
theorem dX0_hasDone_15 : decode cX0_hasDone 15 = .ok (.aaload, 1) := by decide +kernel
theorem dX0_hasDone_16 : decode cX0_hasDone 16 = .ok (.getfield 36, 3) := by decide +kernel
theorem dX0_hasDone_19 : decode cX0_hasDone 19 = .ok (.iload_n 1, 1) := by decide +kernel
theorem dX0_hasDone_20 : decode cX0_hasDone 20 = .ok (.if_icmp .ne 5, 3) := by decide +kernel
theorem dX0_hasDone_23 : decode cX0_hasDone 23 = .ok (.iconst 1, 1) := by decide +kernel
theorem dX0_hasDone_24 : decode cX0_hasDone 24 = .ok (.ireturn, 1) := by decide +kernel
theorem dX0_hasDone_25 : decode cX0_hasDone 25 = .ok (.iinc 2 1, 3) := by decide +kernel
theorem dX0_hasDone_28 : decode cX0_hasDone 28 = .ok (.goto (-26), 3) := by decide +kernel
theorem dX0_hasDone_31 : decode cX0_hasDone 31 = .ok (.iconst 0, 1) := by decide +kernel
theorem dX0_hasDone_32 : decode cX0_hasDone 32 = .ok (.ireturn, 1) := by decide +kernel
theorem dX0_addDone_0 : decode cX0_addDone 0 = .ok (.aload_n 0, 1) := by decide +kernel
theorem dX0_addDone_1 : decode cX0_addDone 1 = .ok (.getfield 27, 3) := by decide +kernel
theorem dX0_addDone_4 : decode cX0_addDone 4 = .ok (.sipush 256, 3) := by decide +kernel
theorem dX0_addDone_7 : decode cX0_addDone 7 = .ok (.if_icmp .ge 23, 3) := by decide +kernel
theorem dX0_addDone_10 : decode cX0_addDone 10 = .ok (.aload_n 0, 1) := by decide +kernel
theorem dX0_addDone_11 : decode cX0_addDone 11 = .ok (.getfield 24, 3) := by decide +kernel
theorem dX0_addDone_14 : decode cX0_addDone 14 = .ok (.aload_n 0, 1) := by decide +kernel
theorem dX0_addDone_15 : decode cX0_addDone 15 = .ok (.getfield 27, 3) := by decide +kernel
theorem dX0_addDone_18 : decode cX0_addDone 18 = .ok (.aload_n 1, 1) := by decide +kernel
theorem dX0_addDone_19 : decode cX0_addDone 19 = .ok (.aastore, 1) := by decide +kernel
theorem dX0_addDone_20 : decode cX0_addDone 20 = .ok (.aload_n 0, 1) := by decide +kernel
theorem dX0_addDone_21 : decode cX0_addDone 21 = .ok (.dup, 1) := by decide +kernel
theorem dX0_addDone_22 : decode cX0_addDone 22 = .ok (.getfield 27, 3) := by decide +kernel
theorem dX0_addDone_25 : decode cX0_addDone 25 = .ok (.iconst 1, 1) := by decide +kernel
theorem dX0_addDone_26 : decode cX0_addDone 26 = .ok (.iadd, 1) := by decide +kernel
theorem dX0_addDone_27 : decode cX0_addDone 27 = .ok (.putfield 27, 3) := by decide +kernel
theorem dX0_addDone_30 : decode cX0_addDone 30 = .ok (.return_, 1) := by decide +kernel
theorem dX0_doneJob_0 : decode cX0_doneJob 0 = .ok (.iload_n 1, 1) := by decide +kernel
theorem dX0_doneJob_1 : decode cX0_doneJob 1 = .ok (.ifCond .lt 20, 3) := by decide +kernel
theorem dX0_doneJob_4 : decode cX0_doneJob 4 = .ok (.iload_n 1, 1) := by decide +kernel
theorem dX0_doneJob_5 : decode cX0_doneJob 5 = .ok (.aload_n 0, 1) := by decide +kernel
theorem dX0_doneJob_6 : decode cX0_doneJob 6 = .ok (.getfield 27, 3) := by decide +kernel
theorem dX0_doneJob_9 : decode cX0_doneJob 9 = .ok (.if_icmp .ge 12, 3) := by decide +kernel
theorem dX0_doneJob_12 : decode cX0_doneJob 12 = .ok (.aload_n 0, 1) := by decide +kernel
theorem dX0_doneJob_13 : decode cX0_doneJob 13 = .ok (.getfield 24, 3) := by decide +kernel
theorem dX0_doneJob_16 : decode cX0_doneJob 16 = .ok (.iload_n 1, 1) := by decide +kernel
theorem dX0_doneJob_17 : decode cX0_doneJob 17 = .ok (.aaload, 1) := by decide +kernel
theorem dX0_doneJob_18 : decode cX0_doneJob 18 = .ok (.goto 4, 3) := by decide +kernel
theorem dX0_doneJob_21 : decode cX0_doneJob 21 = .ok (.aconst_null, 1) := by decide +kernel
theorem dX0_doneJob_22 : decode cX0_doneJob 22 = .ok (.areturn, 1) := by decide +kernel
end
section
theorem dX1_init_0 : decode cX1_init 0 = .ok (.aload_n 0, 1) := by decide +kernel
theorem dX1_init_1 : decode cX1_init 1 = .ok (.invokespecial 3, 3) := by decide +kernel
theorem dX1_init_4 : decode cX1_init 4 = .ok (.aload_n 0, 1) := by decide +kernel
theorem dX1_init_5 : decode cX1_init 5 = .ok (.bipush 100, 2) := by decide +kernel
theorem dX1_init_7 : decode cX1_init 7 = .ok (.newarray .int, 2) := by decide +kernel
theorem dX1_init_9 : decode cX1_init 9 = .ok (.putfield 9, 3) := by decide +kernel
theorem dX1_init_12 : decode cX1_init 12 = .ok (.aload_n 0, 1) := by decide +kernel
theorem dX1_init_13 : decode cX1_init 13 = .ok (.iconst 0, 1) := by decide +kernel
theorem dX1_init_14 : decode cX1_init 14 = .ok (.putfield 15, 3) := by decide +kernel
theorem dX1_init_17 : decode cX1_init 17 = .ok (.aload_n 0, 1) := by decide +kernel
theorem dX1_init_18 : decode cX1_init 18 = .ok (.iconst 0, 1) := by decide +kernel
theorem dX1_init_19 : decode cX1_init 19 = .ok (.putfield 19, 3) := by decide +kernel
theorem dX1_init_22 : decode cX1_init 22 = .ok (.aload_n 0, 1) := by decide +kernel
theorem dX1_init_23 : decode cX1_init 23 = .ok (.iconst 0, 1) := by decide +kernel
theorem dX1_init_24 : decode cX1_init 24 = .ok (.putfield 23, 3) := by decide +kernel
theorem dX1_init_27 : decode cX1_init 27 = .ok (.aload_n 0, 1) := by decide +kernel
theorem dX1_init_28 : decode cX1_init 28 = .ok (.iconst 0, 1) := by decide +kernel
theorem dX1_init_29 : decode cX1_init 29 = .ok (.putfield 26, 3) := by decide +kernel
theorem dX1_init_32 : decode cX1_init 32 = .ok (.return_, 1) := by decide +kernel
theorem dX1_forget_0 : decode cX1_forget 0 = .ok (.aload_n 0, 1) := by decide +kernel
theorem dX1_forget_1 : decode cX1_forget 1 = .ok (.iconst 0, 1) := by decide +kernel
theorem dX1_forget_2 : decode cX1_forget 2 = .ok (.putfield 15, 3) := by decide +kernel
theorem dX1_forget_5 : decode cX1_forget 5 = .ok (.return_, 1) := by decide +kernel
theorem dX1_begin_0 : decode cX1_begin 0 = .ok (.aload_n 0, 1) := by decide +kernel
theorem dX1_begin_1 : decode cX1_begin 1 = .ok (.iconst 1, 1) := by decide +kernel
theorem dX1_begin_2 : decode cX1_begin 2 = .ok (.putfield 15, 3) := by decide +kernel
theorem dX1_begin_5 : decode cX1_begin 5 = .ok (.aload_n 0, 1) := by decide +kernel
theorem dX1_begin_6 : decode cX1_begin 6 = .ok (.iload_n 1, 1) := by decide +kernel
theorem dX1_begin_7 : decode cX1_begin 7 = .ok (.putfield 19, 3) := by decide +kernel
theorem dX1_begin_10 : decode cX1_begin 10 = .ok (.aload_n 0, 1) := by decide +kernel
theorem dX1_begin_11 : decode cX1_begin 11 = .ok (.iload_n 2, 1) := by decide +kernel
theorem dX1_begin_12 : decode cX1_begin 12 = .ok (.putfield 23, 3) := by decide +kernel
theorem dX1_begin_15 : decode cX1_begin 15 = .ok (.aload_n 0, 1) := by decide +kernel
theorem dX1_begin_16 : decode cX1_begin 16 = .ok (.iconst 0, 1) := by decide +kernel
theorem dX1_begin_17 : decode cX1_begin 17 = .ok (.putfield 26, 3) := by decide +kernel
theorem dX1_begin_20 : decode cX1_begin 20 = .ok (.return_, 1) := by decide +kernel
theorem dX1_takePart_0 : decode cX1_takePart 0 = .ok (.iconst 1, 1) := by decide +kernel
theorem dX1_takePart_1 : decode cX1_takePart 1 = .ok (.istore_n 2, 1) := by decide +kernel
theorem dX1_takePart_2 : decode cX1_takePart 2 = .ok (.iload_n 2, 1) := by decide +kernel
theorem dX1_takePart_3 : decode cX1_takePart 3 = .ok (.aload_n 1, 1) := by decide +kernel
theorem dX1_takePart_4 : decode cX1_takePart 4 = .ok (.invokevirtual 29, 3) := by decide +kernel
theorem dX1_takePart_7 : decode cX1_takePart 7 = .ok (.if_icmp .ge 53, 3) := by decide +kernel
theorem dX1_takePart_10 : decode cX1_takePart 10 = .ok (.aload_n 0, 1) := by decide +kernel
theorem dX1_takePart_11 : decode cX1_takePart 11 = .ok (.getfield 26, 3) := by decide +kernel
theorem dX1_takePart_14 : decode cX1_takePart 14 = .ok (.aload_n 0, 1) := by decide +kernel
theorem dX1_takePart_15 : decode cX1_takePart 15 = .ok (.getfield 23, 3) := by decide +kernel
theorem dX1_takePart_18 : decode cX1_takePart 18 = .ok (.if_icmp .ge 42, 3) := by decide +kernel
theorem dX1_takePart_21 : decode cX1_takePart 21 = .ok (.aload_n 0, 1) := by decide +kernel
theorem dX1_takePart_22 : decode cX1_takePart 22 = .ok (.getfield 26, 3) := by decide +kernel
theorem dX1_takePart_25 : decode cX1_takePart 25 = .ok (.bipush 100, 2) := by decide +kernel
theorem dX1_takePart_27 : decode cX1_takePart 27 = .ok (.if_icmp .ge 33, 3) := by decide +kernel
theorem dX1_takePart_30 : decode cX1_takePart 30 = .ok (.aload_n 0, 1) := by decide +kernel
theorem dX1_takePart_31 : decode cX1_takePart 31 = .ok (.getfield 9, 3) := by decide +kernel
theorem dX1_takePart_34 : decode cX1_takePart 34 = .ok (.aload_n 0, 1) := by decide +kernel
theorem dX1_takePart_35 : decode cX1_takePart 35 = .ok (.getfield 26, 3) := by decide +kernel
theorem dX1_takePart_38 : decode cX1_takePart 38 = .ok (.aload_n 1, 1) := by decide +kernel
theorem dX1_takePart_39 : decode cX1_takePart 39 = .ok (.iload_n 2, 1) := by decide +kernel
theorem dX1_takePart_40 : decode cX1_takePart 40 = .ok (.invokevirtual 35, 3) := by decide +kernel
theorem dX1_takePart_43 : decode cX1_takePart 43 = .ok (.iastore, 1) := by decide +kernel
theorem dX1_takePart_44 : decode cX1_takePart 44 = .ok (.aload_n 0, 1) := by decide +kernel
theorem dX1_takePart_45 : decode cX1_takePart 45 = .ok (.dup, 1) := by decide +kernel
theorem dX1_takePart_46 : decode cX1_takePart 46 = .ok (.getfield 26, 3) := by decide +kernel
theorem dX1_takePart_49 : decode cX1_takePart 49 = .ok (.iconst 1, 1) := by decide +kernel
theorem dX1_takePart_50 : decode cX1_takePart 50 = .ok (.iadd, 1) := by decide +kernel
theorem dX1_takePart_51 : decode cX1_takePart 51 = .ok (.putfield 26, 3) := by decide +kernel
theorem dX1_takePart_54 : decode cX1_takePart 54 = .ok (.iinc 2 1, 3) := by decide +kernel
theorem dX1_takePart_57 : decode cX1_takePart 57 = .ok (.goto (-55), 3) := by decide +kernel
theorem dX1_takePart_60 : decode cX1_takePart 60 = .ok (.return_, 1) := by decide +kernel
theorem dX1_isWhole_0 : decode cX1_isWhole 0 = .ok (.aload_n 0, 1) := by decide +kernel
theorem dX1_isWhole_1 : decode cX1_isWhole 1 = .ok (.getfield 15, 3) := by decide +kernel
theorem dX1_isWhole_4 : decode cX1_isWhole 4 = .ok (.ifCond .eq 18, 3) := by decide +kernel
theorem dX1_isWhole_7 : decode cX1_isWhole 7 = .ok (.aload_n 0, 1) := by decide +kernel
theorem dX1_isWhole_8 : decode cX1_isWhole 8 = .ok (.getfield 26, 3) := by decide +kernel
theorem dX1_isWhole_11 : decode cX1_isWhole 11 = .ok (.aload_n 0, 1) := by decide +kernel
theorem dX1_isWhole_12 : decode cX1_isWhole 12 = .ok (.getfield 23, 3) := by decide +kernel
theorem dX1_isWhole_15 : decode cX1_isWhole 15 = .ok (.if_icmp .ne 7, 3) := by decide +kernel
theorem dX1_isWhole_18 : decode cX1_isWhole 18 = .ok (.iconst 1, 1) := by decide +kernel
theorem dX1_isWhole_19 : decode cX1_isWhole 19 = .ok (.goto 4, 3) := by decide +kernel
theorem dX1_isWhole_22 : decode cX1_isWhole 22 = .ok (.iconst 0, 1) := by decide +kernel
theorem dX1_isWhole_23 : decode cX1_isWhole 23 = .ok (.ireturn, 1) := by decide +kernel
theorem dX1_job_0 : decode cX1_job 0 = .ok (.new 39, 3) := by decide +kernel
theorem dX1_job_3 : decode cX1_job 3 = .ok (.dup, 1) := by decide +kernel
theorem dX1_job_4 : decode cX1_job 4 = .ok (.aload_n 0, 1) := by decide +kernel
theorem dX1_job_5 : decode cX1_job 5 = .ok (.getfield 19, 3) := by decide +kernel
theorem dX1_job_8 : decode cX1_job 8 = .ok (.aload_n 0, 1) := by decide +kernel
theorem dX1_job_9 : decode cX1_job 9 = .ok (.getfield 9, 3) := by decide +kernel
theorem dX1_job_12 : decode cX1_job 12 = .ok (.aload_n 0, 1) := by decide +kernel
theorem dX1_job_13 : decode cX1_job 13 = .ok (.getfield 23, 3) := by decide +kernel
theorem dX1_job_16 : decode cX1_job 16 = .ok (.invokespecial 41, 3) := by decide +kernel
theorem dX1_job_19 : decode cX1_job 19 = .ok (.areturn, 1) := by decide +kernel
end
section
theorem dX2_init_0 : decode cX2_init 0 = .ok (.aload_n 0, 1) := by decide +kernel
theorem dX2_init_1 : decode cX2_init 1 = .ok (.invokespecial 1, 3) := by decide +kernel
theorem dX2_init_4 : decode cX2_init 4 = .ok (.aload_n 0, 1) := by decide +kernel
theorem dX2_init_5 : decode cX2_init 5 = .ok (.iload_n 1, 1) := by decide +kernel
theorem dX2_init_6 : decode cX2_init 6 = .ok (.putfield 7, 3) := by decide +kernel
theorem dX2_init_9 : decode cX2_init 9 = .ok (.aload_n 0, 1) := by decide +kernel
theorem dX2_init_10 : decode cX2_init 10 = .ok (.iload_n 3, 1) := by decide +kernel
theorem dX2_init_11 : decode cX2_init 11 = .ok (.newarray .int, 2) := by decide +kernel
theorem dX2_init_13 : decode cX2_init 13 = .ok (.putfield 13, 3) := by decide +kernel
theorem dX2_init_16 : decode cX2_init 16 = .ok (.aload_n 2, 1) := by decide +kernel
theorem dX2_init_17 : decode cX2_init 17 = .ok (.iconst 0, 1) := by decide +kernel
theorem dX2_init_18 : decode cX2_init 18 = .ok (.aload_n 0, 1) := by decide +kernel
theorem dX2_init_19 : decode cX2_init 19 = .ok (.getfield 13, 3) := by decide +kernel
theorem dX2_init_22 : decode cX2_init 22 = .ok (.iconst 0, 1) := by decide +kernel
theorem dX2_init_23 : decode cX2_init 23 = .ok (.iload_n 3, 1) := by decide +kernel
theorem dX2_init_24 : decode cX2_init 24 = .ok (.invokestatic 17, 3) := by decide +kernel
theorem dX2_init_27 : decode cX2_init 27 = .ok (.return_, 1) := by decide +kernel
end
section
theorem dX3_init_0 : decode cX3_init 0 = .ok (.aload_n 0, 1) := by decide +kernel
theorem dX3_init_1 : decode cX3_init 1 = .ok (.invokespecial 1, 3) := by decide +kernel
theorem dX3_init_4 : decode cX3_init 4 = .ok (.aload_n 0, 1) := by decide +kernel
theorem dX3_init_5 : decode cX3_init 5 = .ok (.bipush 31, 2) := by decide +kernel
theorem dX3_init_7 : decode cX3_init 7 = .ok (.newarray .int, 2) := by decide +kernel
theorem dX3_init_9 : decode cX3_init 9 = .ok (.putfield 9, 3) := by decide +kernel
theorem dX3_init_12 : decode cX3_init 12 = .ok (.aload_n 0, 1) := by decide +kernel
theorem dX3_init_13 : decode cX3_init 13 = .ok (.iconst 0, 1) := by decide +kernel
theorem dX3_init_14 : decode cX3_init 14 = .ok (.putfield 13, 3) := by decide +kernel
theorem dX3_init_17 : decode cX3_init 17 = .ok (.return_, 1) := by decide +kernel
theorem dX3_append_0 : decode cX3_append 0 = .ok (.aload_n 0, 1) := by decide +kernel
theorem dX3_append_1 : decode cX3_append 1 = .ok (.getfield 13, 3) := by decide +kernel
theorem dX3_append_4 : decode cX3_append 4 = .ok (.bipush 31, 2) := by decide +kernel
theorem dX3_append_6 : decode cX3_append 6 = .ok (.if_icmp .ge 23, 3) := by decide +kernel
theorem dX3_append_9 : decode cX3_append 9 = .ok (.aload_n 0, 1) := by decide +kernel
theorem dX3_append_10 : decode cX3_append 10 = .ok (.getfield 9, 3) := by decide +kernel
theorem dX3_append_13 : decode cX3_append 13 = .ok (.aload_n 0, 1) := by decide +kernel
theorem dX3_append_14 : decode cX3_append 14 = .ok (.getfield 13, 3) := by decide +kernel
theorem dX3_append_17 : decode cX3_append 17 = .ok (.iload_n 1, 1) := by decide +kernel
theorem dX3_append_18 : decode cX3_append 18 = .ok (.iastore, 1) := by decide +kernel
theorem dX3_append_19 : decode cX3_append 19 = .ok (.aload_n 0, 1) := by decide +kernel
theorem dX3_append_20 : decode cX3_append 20 = .ok (.dup, 1) := by decide +kernel
theorem dX3_append_21 : decode cX3_append 21 = .ok (.getfield 13, 3) := by decide +kernel
theorem dX3_append_24 : decode cX3_append 24 = .ok (.iconst 1, 1) := by decide +kernel
theorem dX3_append_25 : decode cX3_append 25 = .ok (.iadd, 1) := by decide +kernel
theorem dX3_append_26 : decode cX3_append 26 = .ok (.putfield 13, 3) := by decide +kernel
theorem dX3_append_29 : decode cX3_append 29 = .ok (.return_, 1) := by decide +kernel
end
section
theorem dX4_init_0 : decode cX4_init 0 = .ok (.aload_n 0, 1) := by decide +kernel
theorem dX4_init_1 : decode cX4_init 1 = .ok (.invokespecial 1, 3) := by decide +kernel
theorem dX4_init_4 : decode cX4_init 4 = .ok (.aload_n 0, 1) := by decide +kernel
theorem dX4_init_5 : decode cX4_init 5 = .ok (.bipush 38, 2) := by decide +kernel
theorem dX4_init_7 : decode cX4_init 7 = .ok (.newarray .int, 2) := by decide +kernel
theorem dX4_init_9 : decode cX4_init 9 = .ok (.putfield 9, 3) := by decide +kernel
theorem dX4_init_12 : decode cX4_init 12 = .ok (.aload_n 0, 1) := by decide +kernel
theorem dX4_init_13 : decode cX4_init 13 = .ok (.iconst 0, 1) := by decide +kernel
theorem dX4_init_14 : decode cX4_init 14 = .ok (.putfield 13, 3) := by decide +kernel
theorem dX4_init_17 : decode cX4_init 17 = .ok (.return_, 1) := by decide +kernel
theorem dX4_fillControl_0 : decode cX4_fillControl 0 = .ok (.aload_n 0, 1) := by decide +kernel
theorem dX4_fillControl_1 : decode cX4_fillControl 1 = .ok (.bipush 6, 2) := by decide +kernel
theorem dX4_fillControl_3 : decode cX4_fillControl 3 = .ok (.putfield 13, 3) := by decide +kernel
theorem dX4_fillControl_6 : decode cX4_fillControl 6 = .ok (.bipush 8, 2) := by decide +kernel
theorem dX4_fillControl_8 : decode cX4_fillControl 8 = .ok (.iload_n 1, 1) := by decide +kernel
theorem dX4_fillControl_9 : decode cX4_fillControl 9 = .ok (.imul, 1) := by decide +kernel
theorem dX4_fillControl_10 : decode cX4_fillControl 10 = .ok (.iload_n 2, 1) := by decide +kernel
theorem dX4_fillControl_11 : decode cX4_fillControl 11 = .ok (.iadd, 1) := by decide +kernel
theorem dX4_fillControl_12 : decode cX4_fillControl 12 = .ok (.istore_n 3, 1) := by decide +kernel
theorem dX4_fillControl_13 : decode cX4_fillControl 13 = .ok (.aload_n 0, 1) := by decide +kernel
theorem dX4_fillControl_14 : decode cX4_fillControl 14 = .ok (.bipush 9, 2) := by decide +kernel
theorem dX4_fillControl_16 : decode cX4_fillControl 16 = .ok (.iload_n 3, 1) := by decide +kernel
theorem dX4_fillControl_17 : decode cX4_fillControl 17 = .ok (.ldc 17, 2) := by decide +kernel
theorem dX4_fillControl_19 : decode cX4_fillControl 19 = .ok (.iload_n 3, 1) := by decide +kernel
theorem dX4_fillControl_20 : decode cX4_fillControl 20 = .ok (.isub, 1) := by decide +kernel
theorem dX4_fillControl_21 : decode cX4_fillControl 21 = .ok (.invokevirtual 18, 3) := by decide +kernel
theorem dX4_fillControl_24 : decode cX4_fillControl 24 = .ok (.return_, 1) := by decide +kernel
theorem dX4_fillData_0 : decode cX4_fillData 0 = .ok (.aload_n 0, 1) := by decide +kernel
theorem dX4_fillData_1 : decode cX4_fillData 1 = .ok (.bipush 38, 2) := by decide +kernel
theorem dX4_fillData_3 : decode cX4_fillData 3 = .ok (.putfield 13, 3) := by decide +kernel
theorem dX4_fillData_6 : decode cX4_fillData 6 = .ok (.aload_n 0, 1) := by decide +kernel
theorem dX4_fillData_7 : decode cX4_fillData 7 = .ok (.getfield 9, 3) := by decide +kernel
theorem dX4_fillData_10 : decode cX4_fillData 10 = .ok (.bipush 6, 2) := by decide +kernel
theorem dX4_fillData_12 : decode cX4_fillData 12 = .ok (.aload_n 3, 1) := by decide +kernel
theorem dX4_fillData_13 : decode cX4_fillData 13 = .ok (.getfield 22, 3) := by decide +kernel
theorem dX4_fillData_16 : decode cX4_fillData 16 = .ok (.iastore, 1) := by decide +kernel
theorem dX4_fillData_17 : decode cX4_fillData 17 = .ok (.iconst 0, 1) := by decide +kernel
theorem dX4_fillData_18 : decode cX4_fillData 18 = .ok (.istore 4, 2) := by decide +kernel
theorem dX4_fillData_20 : decode cX4_fillData 20 = .ok (.iload 4, 2) := by decide +kernel
theorem dX4_fillData_22 : decode cX4_fillData 22 = .ok (.bipush 31, 2) := by decide +kernel
theorem dX4_fillData_24 : decode cX4_fillData 24 = .ok (.if_icmp .ge 39, 3) := by decide +kernel
theorem dX4_fillData_27 : decode cX4_fillData 27 = .ok (.aload_n 0, 1) := by decide +kernel
theorem dX4_fillData_28 : decode cX4_fillData 28 = .ok (.getfield 9, 3) := by decide +kernel
theorem dX4_fillData_31 : decode cX4_fillData 31 = .ok (.bipush 7, 2) := by decide +kernel
theorem dX4_fillData_33 : decode cX4_fillData 33 = .ok (.iload 4, 2) := by decide +kernel
theorem dX4_fillData_35 : decode cX4_fillData 35 = .ok (.iadd, 1) := by decide +kernel
theorem dX4_fillData_36 : decode cX4_fillData 36 = .ok (.iload 4, 2) := by decide +kernel
theorem dX4_fillData_38 : decode cX4_fillData 38 = .ok (.aload_n 3, 1) := by decide +kernel
theorem dX4_fillData_39 : decode cX4_fillData 39 = .ok (.getfield 22, 3) := by decide +kernel
theorem dX4_fillData_42 : decode cX4_fillData 42 = .ok (.if_icmp .ge 13, 3) := by decide +kernel
theorem dX4_fillData_45 : decode cX4_fillData 45 = .ok (.aload_n 3, 1) := by decide +kernel
theorem dX4_fillData_46 : decode cX4_fillData 46 = .ok (.getfield 25, 3) := by decide +kernel
theorem dX4_fillData_49 : decode cX4_fillData 49 = .ok (.iload 4, 2) := by decide +kernel
theorem dX4_fillData_51 : decode cX4_fillData 51 = .ok (.iaload, 1) := by decide +kernel
theorem dX4_fillData_52 : decode cX4_fillData 52 = .ok (.goto 4, 3) := by decide +kernel
theorem dX4_fillData_55 : decode cX4_fillData 55 = .ok (.iconst 0, 1) := by decide +kernel
theorem dX4_fillData_56 : decode cX4_fillData 56 = .ok (.iastore, 1) := by decide +kernel
theorem dX4_fillData_57 : decode cX4_fillData 57 = .ok (.iinc 4 1, 3) := by decide +kernel
theorem dX4_fillData_60 : decode cX4_fillData 60 = .ok (.goto (-40), 3) := by decide +kernel
theorem dX4_fillData_63 : decode cX4_fillData 63 = .ok (.sipush 128, 3) := by decide +kernel
theorem dX4_fillData_66 : decode cX4_fillData 66 = .ok (.bipush 8, 2) := by decide +kernel
theorem dX4_fillData_68 : decode cX4_fillData 68 = .ok (.iload_n 1, 1) := by decide +kernel
theorem dX4_fillData_69 : decode cX4_fillData 69 = .ok (.imul, 1) := by decide +kernel
theorem dX4_fillData_70 : decode cX4_fillData 70 = .ok (.iadd, 1) := by decide +kernel
theorem dX4_fillData_71 : decode cX4_fillData 71 = .ok (.iload_n 2, 1) := by decide +kernel
theorem dX4_fillData_72 : decode cX4_fillData 72 = .ok (.iadd, 1) := by decide +kernel
theorem dX4_fillData_73 : decode cX4_fillData 73 = .ok (.istore 4, 2) := by decide +kernel
theorem dX4_fillData_75 : decode cX4_fillData 75 = .ok (.aload_n 0, 1) := by decide +kernel
theorem dX4_fillData_76 : decode cX4_fillData 76 = .ok (.iconst 1, 1) := by decide +kernel
theorem dX4_fillData_77 : decode cX4_fillData 77 = .ok (.iload 4, 2) := by decide +kernel
theorem dX4_fillData_79 : decode cX4_fillData 79 = .ok (.ldc 17, 2) := by decide +kernel
theorem dX4_fillData_81 : decode cX4_fillData 81 = .ok (.aload_n 0, 1) := by decide +kernel
theorem dX4_fillData_82 : decode cX4_fillData 82 = .ok (.invokevirtual 26, 3) := by decide +kernel
theorem dX4_fillData_85 : decode cX4_fillData 85 = .ok (.iload 4, 2) := by decide +kernel
theorem dX4_fillData_87 : decode cX4_fillData 87 = .ok (.ixor, 1) := by decide +kernel
theorem dX4_fillData_88 : decode cX4_fillData 88 = .ok (.isub, 1) := by decide +kernel
theorem dX4_fillData_89 : decode cX4_fillData 89 = .ok (.invokevirtual 18, 3) := by decide +kernel
theorem dX4_fillData_92 : decode cX4_fillData 92 = .ok (.return_, 1) := by decide +kernel
theorem dX4_isData_0 : decode cX4_isData 0 = .ok (.aload_n 0, 1) := by decide +kernel
theorem dX4_isData_1 : decode cX4_isData 1 = .ok (.getfield 13, 3) := by decide +kernel
theorem dX4_isData_4 : decode cX4_isData 4 = .ok (.bipush 6, 2) := by decide +kernel
theorem dX4_isData_6 : decode cX4_isData 6 = .ok (.if_icmp .le 7, 3) := by decide +kernel
theorem dX4_isData_9 : decode cX4_isData 9 = .ok (.iconst 1, 1) := by decide +kernel
theorem dX4_isData_10 : decode cX4_isData 10 = .ok (.goto 4, 3) := by decide +kernel
theorem dX4_isData_13 : decode cX4_isData 13 = .ok (.iconst 0, 1) := by decide +kernel
theorem dX4_isData_14 : decode cX4_isData 14 = .ok (.ireturn, 1) := by decide +kernel
theorem dX4_x_0 : decode cX4_x 0 = .ok (.aload_n 0, 1) := by decide +kernel
theorem dX4_x_1 : decode cX4_x 1 = .ok (.getfield 9, 3) := by decide +kernel
theorem dX4_x_4 : decode cX4_x 4 = .ok (.iconst 4, 1) := by decide +kernel
theorem dX4_x_5 : decode cX4_x 5 = .ok (.iaload, 1) := by decide +kernel
theorem dX4_x_6 : decode cX4_x 6 = .ok (.iconst 3, 1) := by decide +kernel
theorem dX4_x_7 : decode cX4_x 7 = .ok (.ishr, 1) := by decide +kernel
theorem dX4_x_8 : decode cX4_x 8 = .ok (.bipush 7, 2) := by decide +kernel
theorem dX4_x_10 : decode cX4_x 10 = .ok (.iand, 1) := by decide +kernel
theorem dX4_x_11 : decode cX4_x 11 = .ok (.ireturn, 1) := by decide +kernel
theorem dX4_y_0 : decode cX4_y 0 = .ok (.aload_n 0, 1) := by decide +kernel
theorem dX4_y_1 : decode cX4_y 1 = .ok (.getfield 9, 3) := by decide +kernel
theorem dX4_y_4 : decode cX4_y 4 = .ok (.iconst 4, 1) := by decide +kernel
theorem dX4_y_5 : decode cX4_y 5 = .ok (.iaload, 1) := by decide +kernel
theorem dX4_y_6 : decode cX4_y 6 = .ok (.bipush 7, 2) := by decide +kernel
theorem dX4_y_8 : decode cX4_y 8 = .ok (.iand, 1) := by decide +kernel
theorem dX4_y_9 : decode cX4_y 9 = .ok (.ireturn, 1) := by decide +kernel
theorem dX4_messageLength_0 : decode cX4_messageLength 0 = .ok (.aload_n 0, 1) := by decide +kernel
theorem dX4_messageLength_1 : decode cX4_messageLength 1 = .ok (.getfield 9, 3) := by decide +kernel
theorem dX4_messageLength_4 : decode cX4_messageLength 4 = .ok (.bipush 6, 2) := by decide +kernel
theorem dX4_messageLength_6 : decode cX4_messageLength 6 = .ok (.iaload, 1) := by decide +kernel
theorem dX4_messageLength_7 : decode cX4_messageLength 7 = .ok (.ireturn, 1) := by decide +kernel
theorem dX4_messageByte_0 : decode cX4_messageByte 0 = .ok (.iload_n 1, 1) := by decide +kernel
theorem dX4_messageByte_1 : decode cX4_messageByte 1 = .ok (.ifCond .lt 21, 3) := by decide +kernel
theorem dX4_messageByte_4 : decode cX4_messageByte 4 = .ok (.iload_n 1, 1) := by decide +kernel
theorem dX4_messageByte_5 : decode cX4_messageByte 5 = .ok (.bipush 31, 2) := by decide +kernel
theorem dX4_messageByte_7 : decode cX4_messageByte 7 = .ok (.if_icmp .ge 15, 3) := by decide +kernel
theorem dX4_messageByte_10 : decode cX4_messageByte 10 = .ok (.aload_n 0, 1) := by decide +kernel
theorem dX4_messageByte_11 : decode cX4_messageByte 11 = .ok (.getfield 9, 3) := by decide +kernel
theorem dX4_messageByte_14 : decode cX4_messageByte 14 = .ok (.bipush 7, 2) := by decide +kernel
theorem dX4_messageByte_16 : decode cX4_messageByte 16 = .ok (.iload_n 1, 1) := by decide +kernel
theorem dX4_messageByte_17 : decode cX4_messageByte 17 = .ok (.iadd, 1) := by decide +kernel
theorem dX4_messageByte_18 : decode cX4_messageByte 18 = .ok (.iaload, 1) := by decide +kernel
theorem dX4_messageByte_19 : decode cX4_messageByte 19 = .ok (.goto 4, 3) := by decide +kernel
theorem dX4_messageByte_22 : decode cX4_messageByte 22 = .ok (.iconst 0, 1) := by decide +kernel
theorem dX4_messageByte_23 : decode cX4_messageByte 23 = .ok (.ireturn, 1) := by decide +kernel
theorem dX4_isGood_0 : decode cX4_isGood 0 = .ok (.aload_n 0, 1) := by decide +kernel
theorem dX4_isGood_1 : decode cX4_isGood 1 = .ok (.getfield 9, 3) := by decide +kernel
theorem dX4_isGood_4 : decode cX4_isGood 4 = .ok (.iconst 0, 1) := by decide +kernel
theorem dX4_isGood_5 : decode cX4_isGood 5 = .ok (.iaload, 1) := by decide +kernel
theorem dX4_isGood_6 : decode cX4_isGood 6 = .ok (.bipush 16, 2) := by decide +kernel
theorem dX4_isGood_8 : decode cX4_isGood 8 = .ok (.if_icmp .eq 5, 3) := by decide +kernel
theorem dX4_isGood_11 : decode cX4_isGood 11 = .ok (.iconst 0, 1) := by decide +kernel
theorem dX4_isGood_12 : decode cX4_isGood 12 = .ok (.ireturn, 1) := by decide +kernel
theorem dX4_isGood_13 : decode cX4_isGood 13 = .ok (.aload_n 0, 1) := by decide +kernel
theorem dX4_isGood_14 : decode cX4_isGood 14 = .ok (.getfield 9, 3) := by decide +kernel
theorem dX4_isGood_17 : decode cX4_isGood 17 = .ok (.iconst 4, 1) := by decide +kernel
theorem dX4_isGood_18 : decode cX4_isGood 18 = .ok (.iaload, 1) := by decide +kernel
theorem dX4_isGood_19 : decode cX4_isGood 19 = .ok (.istore_n 1, 1) := by decide +kernel
theorem dX4_isGood_20 : decode cX4_isGood 20 = .ok (.aload_n 0, 1) := by decide +kernel
theorem dX4_isGood_21 : decode cX4_isGood 21 = .ok (.invokevirtual 30, 3) := by decide +kernel
theorem dX4_isGood_24 : decode cX4_isGood 24 = .ok (.ifCond .eq 42, 3) := by decide +kernel
theorem dX4_isGood_27 : decode cX4_isGood 27 = .ok (.iload_n 1, 1) := by decide +kernel
theorem dX4_isGood_28 : decode cX4_isGood 28 = .ok (.bipush 6, 2) := by decide +kernel
theorem dX4_isGood_30 : decode cX4_isGood 30 = .ok (.ishr, 1) := by decide +kernel
theorem dX4_isGood_31 : decode cX4_isGood 31 = .ok (.iconst 2, 1) := by decide +kernel
theorem dX4_isGood_32 : decode cX4_isGood 32 = .ok (.if_icmp .ne 32, 3) := by decide +kernel
theorem dX4_isGood_35 : decode cX4_isGood 35 = .ok (.aload_n 0, 1) := by decide +kernel
theorem dX4_isGood_36 : decode cX4_isGood 36 = .ok (.invokevirtual 34, 3) := by decide +kernel
theorem dX4_isGood_39 : decode cX4_isGood 39 = .ok (.ifCond .eq 25, 3) := by decide +kernel
theorem dX4_isGood_42 : decode cX4_isGood 42 = .ok (.aload_n 0, 1) := by decide +kernel
theorem dX4_isGood_43 : decode cX4_isGood 43 = .ok (.iconst 1, 1) := by decide +kernel
theorem dX4_isGood_44 : decode cX4_isGood 44 = .ok (.iload_n 1, 1) := by decide +kernel
theorem dX4_isGood_45 : decode cX4_isGood 45 = .ok (.ldc 17, 2) := by decide +kernel
theorem dX4_isGood_47 : decode cX4_isGood 47 = .ok (.aload_n 0, 1) := by decide +kernel
theorem dX4_isGood_48 : decode cX4_isGood 48 = .ok (.invokevirtual 26, 3) := by decide +kernel
theorem dX4_isGood_51 : decode cX4_isGood 51 = .ok (.iload_n 1, 1) := by decide +kernel
theorem dX4_isGood_52 : decode cX4_isGood 52 = .ok (.ixor, 1) := by decide +kernel
theorem dX4_isGood_53 : decode cX4_isGood 53 = .ok (.isub, 1) := by decide +kernel
theorem dX4_isGood_54 : decode cX4_isGood 54 = .ok (.invokevirtual 37, 3) := by decide +kernel
theorem dX4_isGood_57 : decode cX4_isGood 57 = .ok (.ifCond .eq 7, 3) := by decide +kernel
theorem dX4_isGood_60 : decode cX4_isGood 60 = .ok (.iconst 1, 1) := by decide +kernel
theorem dX4_isGood_61 : decode cX4_isGood 61 = .ok (.goto 4, 3) := by decide +kernel
theorem dX4_isGood_64 : decode cX4_isGood 64 = .ok (.iconst 0, 1) := by decide +kernel
theorem dX4_isGood_65 : decode cX4_isGood 65 = .ok (.ireturn, 1) := by decide +kernel
theorem dX4_isGood_66 : decode cX4_isGood 66 = .ok (.iload_n 1, 1) := by decide +kernel
theorem dX4_isGood_67 : decode cX4_isGood 67 = .ok (.bipush 6, 2) := by decide +kernel
theorem dX4_isGood_69 : decode cX4_isGood 69 = .ok (.ishr, 1) := by decide +kernel
theorem dX4_isGood_70 : decode cX4_isGood 70 = .ok (.ifCond .ne 31, 3) := by decide +kernel
theorem dX4_isGood_73 : decode cX4_isGood 73 = .ok (.aload_n 0, 1) := by decide +kernel
theorem dX4_isGood_74 : decode cX4_isGood 74 = .ok (.invokevirtual 41, 3) := by decide +kernel
theorem dX4_isGood_77 : decode cX4_isGood 77 = .ok (.invokestatic 44, 3) := by decide +kernel
theorem dX4_isGood_80 : decode cX4_isGood 80 = .ok (.ifCond .eq 21, 3) := by decide +kernel
theorem dX4_isGood_83 : decode cX4_isGood 83 = .ok (.aload_n 0, 1) := by decide +kernel
theorem dX4_isGood_84 : decode cX4_isGood 84 = .ok (.bipush 9, 2) := by decide +kernel
theorem dX4_isGood_86 : decode cX4_isGood 86 = .ok (.iload_n 1, 1) := by decide +kernel
theorem dX4_isGood_87 : decode cX4_isGood 87 = .ok (.ldc 17, 2) := by decide +kernel
theorem dX4_isGood_89 : decode cX4_isGood 89 = .ok (.iload_n 1, 1) := by decide +kernel
theorem dX4_isGood_90 : decode cX4_isGood 90 = .ok (.isub, 1) := by decide +kernel
theorem dX4_isGood_91 : decode cX4_isGood 91 = .ok (.invokevirtual 37, 3) := by decide +kernel
theorem dX4_isGood_94 : decode cX4_isGood 94 = .ok (.ifCond .eq 7, 3) := by decide +kernel
theorem dX4_isGood_97 : decode cX4_isGood 97 = .ok (.iconst 1, 1) := by decide +kernel
theorem dX4_isGood_98 : decode cX4_isGood 98 = .ok (.goto 4, 3) := by decide +kernel
theorem dX4_isGood_101 : decode cX4_isGood 101 = .ok (.iconst 0, 1) := by decide +kernel
theorem dX4_isGood_102 : decode cX4_isGood 102 = .ok (.ireturn, 1) := by decide +kernel
theorem dX4_fillHead_0 : decode cX4_fillHead 0 = .ok (.iload_n 3, 1) := by decide +kernel
theorem dX4_fillHead_1 : decode cX4_fillHead 1 = .ok (.sipush 255, 3) := by decide +kernel
theorem dX4_fillHead_4 : decode cX4_fillHead 4 = .ok (.iand, 1) := by decide +kernel
theorem dX4_fillHead_5 : decode cX4_fillHead 5 = .ok (.istore 4, 2) := by decide +kernel
theorem dX4_fillHead_7 : decode cX4_fillHead 7 = .ok (.iload_n 3, 1) := by decide +kernel
theorem dX4_fillHead_8 : decode cX4_fillHead 8 = .ok (.bipush 8, 2) := by decide +kernel
theorem dX4_fillHead_10 : decode cX4_fillHead 10 = .ok (.ishr, 1) := by decide +kernel
theorem dX4_fillHead_11 : decode cX4_fillHead 11 = .ok (.sipush 255, 3) := by decide +kernel
theorem dX4_fillHead_14 : decode cX4_fillHead 14 = .ok (.iand, 1) := by decide +kernel
theorem dX4_fillHead_15 : decode cX4_fillHead 15 = .ok (.istore 5, 2) := by decide +kernel
theorem dX4_fillHead_17 : decode cX4_fillHead 17 = .ok (.aload_n 0, 1) := by decide +kernel
theorem dX4_fillHead_18 : decode cX4_fillHead 18 = .ok (.getfield 9, 3) := by decide +kernel
theorem dX4_fillHead_21 : decode cX4_fillHead 21 = .ok (.iconst 0, 1) := by decide +kernel
theorem dX4_fillHead_22 : decode cX4_fillHead 22 = .ok (.bipush 16, 2) := by decide +kernel
theorem dX4_fillHead_24 : decode cX4_fillHead 24 = .ok (.iastore, 1) := by decide +kernel
theorem dX4_fillHead_25 : decode cX4_fillHead 25 = .ok (.aload_n 0, 1) := by decide +kernel
theorem dX4_fillHead_26 : decode cX4_fillHead 26 = .ok (.getfield 9, 3) := by decide +kernel
theorem dX4_fillHead_29 : decode cX4_fillHead 29 = .ok (.iconst 1, 1) := by decide +kernel
theorem dX4_fillHead_30 : decode cX4_fillHead 30 = .ok (.iload_n 1, 1) := by decide +kernel
theorem dX4_fillHead_31 : decode cX4_fillHead 31 = .ok (.iastore, 1) := by decide +kernel
theorem dX4_fillHead_32 : decode cX4_fillHead 32 = .ok (.aload_n 0, 1) := by decide +kernel
theorem dX4_fillHead_33 : decode cX4_fillHead 33 = .ok (.getfield 9, 3) := by decide +kernel
theorem dX4_fillHead_36 : decode cX4_fillHead 36 = .ok (.iconst 2, 1) := by decide +kernel
theorem dX4_fillHead_37 : decode cX4_fillHead 37 = .ok (.iload 4, 2) := by decide +kernel
theorem dX4_fillHead_39 : decode cX4_fillHead 39 = .ok (.iastore, 1) := by decide +kernel
theorem dX4_fillHead_40 : decode cX4_fillHead 40 = .ok (.aload_n 0, 1) := by decide +kernel
theorem dX4_fillHead_41 : decode cX4_fillHead 41 = .ok (.getfield 9, 3) := by decide +kernel
theorem dX4_fillHead_44 : decode cX4_fillHead 44 = .ok (.iconst 3, 1) := by decide +kernel
theorem dX4_fillHead_45 : decode cX4_fillHead 45 = .ok (.iload 5, 2) := by decide +kernel
theorem dX4_fillHead_47 : decode cX4_fillHead 47 = .ok (.iastore, 1) := by decide +kernel
theorem dX4_fillHead_48 : decode cX4_fillHead 48 = .ok (.aload_n 0, 1) := by decide +kernel
theorem dX4_fillHead_49 : decode cX4_fillHead 49 = .ok (.getfield 9, 3) := by decide +kernel
theorem dX4_fillHead_52 : decode cX4_fillHead 52 = .ok (.iconst 4, 1) := by decide +kernel
theorem dX4_fillHead_53 : decode cX4_fillHead 53 = .ok (.iload_n 2, 1) := by decide +kernel
theorem dX4_fillHead_54 : decode cX4_fillHead 54 = .ok (.iastore, 1) := by decide +kernel
theorem dX4_fillHead_55 : decode cX4_fillHead 55 = .ok (.aload_n 0, 1) := by decide +kernel
theorem dX4_fillHead_56 : decode cX4_fillHead 56 = .ok (.getfield 9, 3) := by decide +kernel
theorem dX4_fillHead_59 : decode cX4_fillHead 59 = .ok (.iconst 5, 1) := by decide +kernel
theorem dX4_fillHead_60 : decode cX4_fillHead 60 = .ok (.iload_n 1, 1) := by decide +kernel
theorem dX4_fillHead_61 : decode cX4_fillHead 61 = .ok (.iload 4, 2) := by decide +kernel
theorem dX4_fillHead_63 : decode cX4_fillHead 63 = .ok (.ixor, 1) := by decide +kernel
theorem dX4_fillHead_64 : decode cX4_fillHead 64 = .ok (.iload 5, 2) := by decide +kernel
theorem dX4_fillHead_66 : decode cX4_fillHead 66 = .ok (.ixor, 1) := by decide +kernel
theorem dX4_fillHead_67 : decode cX4_fillHead 67 = .ok (.iload_n 2, 1) := by decide +kernel
theorem dX4_fillHead_68 : decode cX4_fillHead 68 = .ok (.ixor, 1) := by decide +kernel
theorem dX4_fillHead_69 : decode cX4_fillHead 69 = .ok (.iastore, 1) := by decide +kernel
theorem dX4_fillHead_70 : decode cX4_fillHead 70 = .ok (.return_, 1) := by decide +kernel
theorem dX4_hasHead_0 : decode cX4_hasHead 0 = .ok (.iload_n 3, 1) := by decide +kernel
theorem dX4_hasHead_1 : decode cX4_hasHead 1 = .ok (.sipush 255, 3) := by decide +kernel
theorem dX4_hasHead_4 : decode cX4_hasHead 4 = .ok (.iand, 1) := by decide +kernel
theorem dX4_hasHead_5 : decode cX4_hasHead 5 = .ok (.istore 4, 2) := by decide +kernel
theorem dX4_hasHead_7 : decode cX4_hasHead 7 = .ok (.iload_n 3, 1) := by decide +kernel
theorem dX4_hasHead_8 : decode cX4_hasHead 8 = .ok (.bipush 8, 2) := by decide +kernel
theorem dX4_hasHead_10 : decode cX4_hasHead 10 = .ok (.ishr, 1) := by decide +kernel
theorem dX4_hasHead_11 : decode cX4_hasHead 11 = .ok (.sipush 255, 3) := by decide +kernel
theorem dX4_hasHead_14 : decode cX4_hasHead 14 = .ok (.iand, 1) := by decide +kernel
theorem dX4_hasHead_15 : decode cX4_hasHead 15 = .ok (.istore 5, 2) := by decide +kernel
theorem dX4_hasHead_17 : decode cX4_hasHead 17 = .ok (.aload_n 0, 1) := by decide +kernel
theorem dX4_hasHead_18 : decode cX4_hasHead 18 = .ok (.getfield 9, 3) := by decide +kernel
theorem dX4_hasHead_21 : decode cX4_hasHead 21 = .ok (.iconst 1, 1) := by decide +kernel
theorem dX4_hasHead_22 : decode cX4_hasHead 22 = .ok (.iaload, 1) := by decide +kernel
theorem dX4_hasHead_23 : decode cX4_hasHead 23 = .ok (.iload_n 1, 1) := by decide +kernel
theorem dX4_hasHead_24 : decode cX4_hasHead 24 = .ok (.if_icmp .ne 47, 3) := by decide +kernel
theorem dX4_hasHead_27 : decode cX4_hasHead 27 = .ok (.aload_n 0, 1) := by decide +kernel
theorem dX4_hasHead_28 : decode cX4_hasHead 28 = .ok (.getfield 9, 3) := by decide +kernel
theorem dX4_hasHead_31 : decode cX4_hasHead 31 = .ok (.iconst 2, 1) := by decide +kernel
theorem dX4_hasHead_32 : decode cX4_hasHead 32 = .ok (.iaload, 1) := by decide +kernel
theorem dX4_hasHead_33 : decode cX4_hasHead 33 = .ok (.iload 4, 2) := by decide +kernel
theorem dX4_hasHead_35 : decode cX4_hasHead 35 = .ok (.if_icmp .ne 36, 3) := by decide +kernel
theorem dX4_hasHead_38 : decode cX4_hasHead 38 = .ok (.aload_n 0, 1) := by decide +kernel
theorem dX4_hasHead_39 : decode cX4_hasHead 39 = .ok (.getfield 9, 3) := by decide +kernel
theorem dX4_hasHead_42 : decode cX4_hasHead 42 = .ok (.iconst 3, 1) := by decide +kernel
theorem dX4_hasHead_43 : decode cX4_hasHead 43 = .ok (.iaload, 1) := by decide +kernel
theorem dX4_hasHead_44 : decode cX4_hasHead 44 = .ok (.iload 5, 2) := by decide +kernel
theorem dX4_hasHead_46 : decode cX4_hasHead 46 = .ok (.if_icmp .ne 25, 3) := by decide +kernel
theorem dX4_hasHead_49 : decode cX4_hasHead 49 = .ok (.aload_n 0, 1) := by decide +kernel
theorem dX4_hasHead_50 : decode cX4_hasHead 50 = .ok (.getfield 9, 3) := by decide +kernel
theorem dX4_hasHead_53 : decode cX4_hasHead 53 = .ok (.iconst 5, 1) := by decide +kernel
theorem dX4_hasHead_54 : decode cX4_hasHead 54 = .ok (.iaload, 1) := by decide +kernel
theorem dX4_hasHead_55 : decode cX4_hasHead 55 = .ok (.iload_n 1, 1) := by decide +kernel
theorem dX4_hasHead_56 : decode cX4_hasHead 56 = .ok (.iload 4, 2) := by decide +kernel
theorem dX4_hasHead_58 : decode cX4_hasHead 58 = .ok (.ixor, 1) := by decide +kernel
theorem dX4_hasHead_59 : decode cX4_hasHead 59 = .ok (.iload 5, 2) := by decide +kernel
theorem dX4_hasHead_61 : decode cX4_hasHead 61 = .ok (.ixor, 1) := by decide +kernel
theorem dX4_hasHead_62 : decode cX4_hasHead 62 = .ok (.iload_n 2, 1) := by decide +kernel
theorem dX4_hasHead_63 : decode cX4_hasHead 63 = .ok (.ixor, 1) := by decide +kernel
theorem dX4_hasHead_64 : decode cX4_hasHead 64 = .ok (.if_icmp .ne 7, 3) := by decide +kernel
theorem dX4_hasHead_67 : decode cX4_hasHead 67 = .ok (.iconst 1, 1) := by decide +kernel
theorem dX4_hasHead_68 : decode cX4_hasHead 68 = .ok (.goto 4, 3) := by decide +kernel
theorem dX4_hasHead_71 : decode cX4_hasHead 71 = .ok (.iconst 0, 1) := by decide +kernel
theorem dX4_hasHead_72 : decode cX4_hasHead 72 = .ok (.ireturn, 1) := by decide +kernel
theorem dX4_isControl_0 : decode cX4_isControl 0 = .ok (.iload_n 0, 1) := by decide +kernel
theorem dX4_isControl_1 : decode cX4_isControl 1 = .ok (.iconst 1, 1) := by decide +kernel
theorem dX4_isControl_2 : decode cX4_isControl 2 = .ok (.if_icmp .eq 24, 3) := by decide +kernel
theorem dX4_isControl_5 : decode cX4_isControl 5 = .ok (.iload_n 0, 1) := by decide +kernel
theorem dX4_isControl_6 : decode cX4_isControl 6 = .ok (.iconst 2, 1) := by decide +kernel
theorem dX4_isControl_7 : decode cX4_isControl 7 = .ok (.if_icmp .eq 19, 3) := by decide +kernel
theorem dX4_isControl_10 : decode cX4_isControl 10 = .ok (.iload_n 0, 1) := by decide +kernel
theorem dX4_isControl_11 : decode cX4_isControl 11 = .ok (.iconst 4, 1) := by decide +kernel
theorem dX4_isControl_12 : decode cX4_isControl 12 = .ok (.if_icmp .eq 14, 3) := by decide +kernel
theorem dX4_isControl_15 : decode cX4_isControl 15 = .ok (.iload_n 0, 1) := by decide +kernel
theorem dX4_isControl_16 : decode cX4_isControl 16 = .ok (.iconst 5, 1) := by decide +kernel
theorem dX4_isControl_17 : decode cX4_isControl 17 = .ok (.if_icmp .eq 9, 3) := by decide +kernel
theorem dX4_isControl_20 : decode cX4_isControl 20 = .ok (.iload_n 0, 1) := by decide +kernel
theorem dX4_isControl_21 : decode cX4_isControl 21 = .ok (.bipush 7, 2) := by decide +kernel
theorem dX4_isControl_23 : decode cX4_isControl 23 = .ok (.if_icmp .ne 7, 3) := by decide +kernel
theorem dX4_isControl_26 : decode cX4_isControl 26 = .ok (.iconst 1, 1) := by decide +kernel
theorem dX4_isControl_27 : decode cX4_isControl 27 = .ok (.goto 4, 3) := by decide +kernel
theorem dX4_isControl_30 : decode cX4_isControl 30 = .ok (.iconst 0, 1) := by decide +kernel
theorem dX4_isControl_31 : decode cX4_isControl 31 = .ok (.ireturn, 1) := by decide +kernel
theorem dX4_isMessageWellFormed_0 : decode cX4_isMessageWellFormed 0 = .ok (.aload_n 0, 1) := by decide +kernel
theorem dX4_isMessageWellFormed_1 : decode cX4_isMessageWellFormed 1 = .ok (.getfield 9, 3) := by decide +kernel
theorem dX4_isMessageWellFormed_4 : decode cX4_isMessageWellFormed 4 = .ok (.bipush 6, 2) := by decide +kernel
theorem dX4_isMessageWellFormed_6 : decode cX4_isMessageWellFormed 6 = .ok (.iaload, 1) := by decide +kernel
theorem dX4_isMessageWellFormed_7 : decode cX4_isMessageWellFormed 7 = .ok (.istore_n 1, 1) := by decide +kernel
theorem dX4_isMessageWellFormed_8 : decode cX4_isMessageWellFormed 8 = .ok (.iload_n 1, 1) := by decide +kernel
theorem dX4_isMessageWellFormed_9 : decode cX4_isMessageWellFormed 9 = .ok (.iconst 1, 1) := by decide +kernel
theorem dX4_isMessageWellFormed_10 : decode cX4_isMessageWellFormed 10 = .ok (.if_icmp .lt 9, 3) := by decide +kernel
theorem dX4_isMessageWellFormed_13 : decode cX4_isMessageWellFormed 13 = .ok (.iload_n 1, 1) := by decide +kernel
theorem dX4_isMessageWellFormed_14 : decode cX4_isMessageWellFormed 14 = .ok (.bipush 31, 2) := by decide +kernel
theorem dX4_isMessageWellFormed_16 : decode cX4_isMessageWellFormed 16 = .ok (.if_icmp .le 5, 3) := by decide +kernel
theorem dX4_isMessageWellFormed_19 : decode cX4_isMessageWellFormed 19 = .ok (.iconst 0, 1) := by decide +kernel
theorem dX4_isMessageWellFormed_20 : decode cX4_isMessageWellFormed 20 = .ok (.ireturn, 1) := by decide +kernel
theorem dX4_isMessageWellFormed_21 : decode cX4_isMessageWellFormed 21 = .ok (.bipush 7, 2) := by decide +kernel
theorem dX4_isMessageWellFormed_23 : decode cX4_isMessageWellFormed 23 = .ok (.iload_n 1, 1) := by decide +kernel
theorem dX4_isMessageWellFormed_24 : decode cX4_isMessageWellFormed 24 = .ok (.iadd, 1) := by decide +kernel
theorem dX4_isMessageWellFormed_25 : decode cX4_isMessageWellFormed 25 = .ok (.istore_n 2, 1) := by decide +kernel
theorem dX4_isMessageWellFormed_26 : decode cX4_isMessageWellFormed 26 = .ok (.iload_n 2, 1) := by decide +kernel
theorem dX4_isMessageWellFormed_27 : decode cX4_isMessageWellFormed 27 = .ok (.bipush 38, 2) := by decide +kernel
theorem dX4_isMessageWellFormed_29 : decode cX4_isMessageWellFormed 29 = .ok (.if_icmp .ge 20, 3) := by decide +kernel
theorem dX4_isMessageWellFormed_32 : decode cX4_isMessageWellFormed 32 = .ok (.aload_n 0, 1) := by decide +kernel
theorem dX4_isMessageWellFormed_33 : decode cX4_isMessageWellFormed 33 = .ok (.getfield 9, 3) := by decide +kernel
theorem dX4_isMessageWellFormed_36 : decode cX4_isMessageWellFormed 36 = .ok (.iload_n 2, 1) := by decide +kernel
theorem dX4_isMessageWellFormed_37 : decode cX4_isMessageWellFormed 37 = .ok (.iaload, 1) := by decide +kernel
theorem dX4_isMessageWellFormed_38 : decode cX4_isMessageWellFormed 38 = .ok (.ifCond .eq 5, 3) := by decide +kernel
theorem dX4_isMessageWellFormed_41 : decode cX4_isMessageWellFormed 41 = .ok (.iconst 0, 1) := by decide +kernel
theorem dX4_isMessageWellFormed_42 : decode cX4_isMessageWellFormed 42 = .ok (.ireturn, 1) := by decide +kernel
theorem dX4_isMessageWellFormed_43 : decode cX4_isMessageWellFormed 43 = .ok (.iinc 2 1, 3) := by decide +kernel
theorem dX4_isMessageWellFormed_46 : decode cX4_isMessageWellFormed 46 = .ok (.goto (-20), 3) := by decide +kernel
theorem dX4_isMessageWellFormed_49 : decode cX4_isMessageWellFormed 49 = .ok (.iconst 1, 1) := by decide +kernel
theorem dX4_isMessageWellFormed_50 : decode cX4_isMessageWellFormed 50 = .ok (.ireturn, 1) := by decide +kernel
theorem dX4_sum_0 : decode cX4_sum 0 = .ok (.ldc 48, 2) := by decide +kernel
theorem dX4_sum_2 : decode cX4_sum 2 = .ok (.istore_n 1, 1) := by decide +kernel
theorem dX4_sum_3 : decode cX4_sum 3 = .ok (.iconst 0, 1) := by decide +kernel
theorem dX4_sum_4 : decode cX4_sum 4 = .ok (.istore_n 2, 1) := by decide +kernel
theorem dX4_sum_5 : decode cX4_sum 5 = .ok (.bipush 32, 2) := by decide +kernel
theorem dX4_sum_7 : decode cX4_sum 7 = .ok (.istore_n 3, 1) := by decide +kernel
theorem dX4_sum_8 : decode cX4_sum 8 = .ok (.iload_n 3, 1) := by decide +kernel
theorem dX4_sum_9 : decode cX4_sum 9 = .ok (.ifCond .le 60, 3) := by decide +kernel
theorem dX4_sum_12 : decode cX4_sum 12 = .ok (.iload_n 1, 1) := by decide +kernel
theorem dX4_sum_13 : decode cX4_sum 13 = .ok (.istore 4, 2) := by decide +kernel
theorem dX4_sum_15 : decode cX4_sum 15 = .ok (.iload_n 1, 1) := by decide +kernel
theorem dX4_sum_16 : decode cX4_sum 16 = .ok (.iconst 1, 1) := by decide +kernel
theorem dX4_sum_17 : decode cX4_sum 17 = .ok (.ishl, 1) := by decide +kernel
theorem dX4_sum_18 : decode cX4_sum 18 = .ok (.iload_n 1, 1) := by decide +kernel
theorem dX4_sum_19 : decode cX4_sum 19 = .ok (.bipush 15, 2) := by decide +kernel
theorem dX4_sum_21 : decode cX4_sum 21 = .ok (.ishr, 1) := by decide +kernel
theorem dX4_sum_22 : decode cX4_sum 22 = .ok (.ior, 1) := by decide +kernel
theorem dX4_sum_23 : decode cX4_sum 23 = .ok (.ldc 48, 2) := by decide +kernel
theorem dX4_sum_25 : decode cX4_sum 25 = .ok (.iand, 1) := by decide +kernel
theorem dX4_sum_26 : decode cX4_sum 26 = .ok (.istore 5, 2) := by decide +kernel
theorem dX4_sum_28 : decode cX4_sum 28 = .ok (.iload 5, 2) := by decide +kernel
theorem dX4_sum_30 : decode cX4_sum 30 = .ok (.aload_n 0, 1) := by decide +kernel
theorem dX4_sum_31 : decode cX4_sum 31 = .ok (.getfield 9, 3) := by decide +kernel
theorem dX4_sum_34 : decode cX4_sum 34 = .ok (.bipush 38, 2) := by decide +kernel
theorem dX4_sum_36 : decode cX4_sum 36 = .ok (.iload_n 3, 1) := by decide +kernel
theorem dX4_sum_37 : decode cX4_sum 37 = .ok (.isub, 1) := by decide +kernel
theorem dX4_sum_38 : decode cX4_sum 38 = .ok (.iaload, 1) := by decide +kernel
theorem dX4_sum_39 : decode cX4_sum 39 = .ok (.iadd, 1) := by decide +kernel
theorem dX4_sum_40 : decode cX4_sum 40 = .ok (.ldc 48, 2) := by decide +kernel
theorem dX4_sum_42 : decode cX4_sum 42 = .ok (.iand, 1) := by decide +kernel
theorem dX4_sum_43 : decode cX4_sum 43 = .ok (.istore_n 1, 1) := by decide +kernel
theorem dX4_sum_44 : decode cX4_sum 44 = .ok (.iload_n 2, 1) := by decide +kernel
theorem dX4_sum_45 : decode cX4_sum 45 = .ok (.iload_n 1, 1) := by decide +kernel
theorem dX4_sum_46 : decode cX4_sum 46 = .ok (.iload_n 3, 1) := by decide +kernel
theorem dX4_sum_47 : decode cX4_sum 47 = .ok (.ixor, 1) := by decide +kernel
theorem dX4_sum_48 : decode cX4_sum 48 = .ok (.iadd, 1) := by decide +kernel
theorem dX4_sum_49 : decode cX4_sum 49 = .ok (.ldc 48, 2) := by decide +kernel
theorem dX4_sum_51 : decode cX4_sum 51 = .ok (.iand, 1) := by decide +kernel
theorem dX4_sum_52 : decode cX4_sum 52 = .ok (.istore_n 2, 1) := by decide +kernel
theorem dX4_sum_53 : decode cX4_sum 53 = .ok (.iload_n 1, 1) := by decide +kernel
theorem dX4_sum_54 : decode cX4_sum 54 = .ok (.iload 4, 2) := by decide +kernel
theorem dX4_sum_56 : decode cX4_sum 56 = .ok (.if_icmp .gt 7, 3) := by decide +kernel
theorem dX4_sum_59 : decode cX4_sum 59 = .ok (.iload_n 1, 1) := by decide +kernel
theorem dX4_sum_60 : decode cX4_sum 60 = .ok (.iload_n 2, 1) := by decide +kernel
theorem dX4_sum_61 : decode cX4_sum 61 = .ok (.ixor, 1) := by decide +kernel
theorem dX4_sum_62 : decode cX4_sum 62 = .ok (.istore_n 1, 1) := by decide +kernel
theorem dX4_sum_63 : decode cX4_sum 63 = .ok (.iinc 3 (-1), 3) := by decide +kernel
theorem dX4_sum_66 : decode cX4_sum 66 = .ok (.goto (-58), 3) := by decide +kernel
theorem dX4_sum_69 : decode cX4_sum 69 = .ok (.iload_n 1, 1) := by decide +kernel
theorem dX4_sum_70 : decode cX4_sum 70 = .ok (.ireturn, 1) := by decide +kernel
end
section
theorem dX5_init_0 : decode cX5_init 0 = .ok (.aload_n 0, 1) := by decide +kernel
theorem dX5_init_1 : decode cX5_init 1 = .ok (.invokespecial 3, 3) := by decide +kernel
theorem dX5_init_4 : decode cX5_init 4 = .ok (.aload_n 0, 1) := by decide +kernel
theorem dX5_init_5 : decode cX5_init 5 = .ok (.new 9, 3) := by decide +kernel
theorem dX5_init_8 : decode cX5_init 8 = .ok (.dup, 1) := by decide +kernel
theorem dX5_init_9 : decode cX5_init 9 = .ok (.invokespecial 11, 3) := by decide +kernel
theorem dX5_init_12 : decode cX5_init 12 = .ok (.putfield 12, 3) := by decide +kernel
theorem dX5_init_15 : decode cX5_init 15 = .ok (.aload_n 0, 1) := by decide +kernel
theorem dX5_init_16 : decode cX5_init 16 = .ok (.new 18, 3) := by decide +kernel
theorem dX5_init_19 : decode cX5_init 19 = .ok (.dup, 1) := by decide +kernel
theorem dX5_init_20 : decode cX5_init 20 = .ok (.invokespecial 20, 3) := by decide +kernel
theorem dX5_init_23 : decode cX5_init 23 = .ok (.putfield 21, 3) := by decide +kernel
theorem dX5_init_26 : decode cX5_init 26 = .ok (.aload_n 0, 1) := by decide +kernel
theorem dX5_init_27 : decode cX5_init 27 = .ok (.new 25, 3) := by decide +kernel
theorem dX5_init_30 : decode cX5_init 30 = .ok (.dup, 1) := by decide +kernel
theorem dX5_init_31 : decode cX5_init 31 = .ok (.invokespecial 27, 3) := by decide +kernel
theorem dX5_init_34 : decode cX5_init 34 = .ok (.putfield 28, 3) := by decide +kernel
theorem dX5_init_37 : decode cX5_init 37 = .ok (.aload_n 0, 1) := by decide +kernel
theorem dX5_init_38 : decode cX5_init 38 = .ok (.iconst 0, 1) := by decide +kernel
theorem dX5_init_39 : decode cX5_init 39 = .ok (.putfield 32, 3) := by decide +kernel
theorem dX5_init_42 : decode cX5_init 42 = .ok (.aload_n 0, 1) := by decide +kernel
theorem dX5_init_43 : decode cX5_init 43 = .ok (.iconst 0, 1) := by decide +kernel
theorem dX5_init_44 : decode cX5_init 44 = .ok (.putfield 36, 3) := by decide +kernel
theorem dX5_init_47 : decode cX5_init 47 = .ok (.aload_n 0, 1) := by decide +kernel
theorem dX5_init_48 : decode cX5_init 48 = .ok (.iconst (-1), 1) := by decide +kernel
theorem dX5_init_49 : decode cX5_init 49 = .ok (.putfield 39, 3) := by decide +kernel
theorem dX5_init_52 : decode cX5_init 52 = .ok (.aload_n 0, 1) := by decide +kernel
theorem dX5_init_53 : decode cX5_init 53 = .ok (.iconst 0, 1) := by decide +kernel
theorem dX5_init_54 : decode cX5_init 54 = .ok (.putfield 42, 3) := by decide +kernel
theorem dX5_init_57 : decode cX5_init 57 = .ok (.aload_n 0, 1) := by decide +kernel
theorem dX5_init_58 : decode cX5_init 58 = .ok (.iconst 0, 1) := by decide +kernel
theorem dX5_init_59 : decode cX5_init 59 = .ok (.putfield 45, 3) := by decide +kernel
theorem dX5_init_62 : decode cX5_init 62 = .ok (.aload_n 0, 1) := by decide +kernel
theorem dX5_init_63 : decode cX5_init 63 = .ok (.iconst 0, 1) := by decide +kernel
theorem dX5_init_64 : decode cX5_init 64 = .ok (.putfield 49, 3) := by decide +kernel
theorem dX5_init_67 : decode cX5_init 67 = .ok (.aload_n 0, 1) := by decide +kernel
theorem dX5_init_68 : decode cX5_init 68 = .ok (.iconst 0, 1) := by decide +kernel
theorem dX5_init_69 : decode cX5_init 69 = .ok (.putfield 52, 3) := by decide +kernel
theorem dX5_init_72 : decode cX5_init 72 = .ok (.aload_n 0, 1) := by decide +kernel
theorem dX5_init_73 : decode cX5_init 73 = .ok (.iconst 0, 1) := by decide +kernel
theorem dX5_init_74 : decode cX5_init 74 = .ok (.putfield 55, 3) := by decide +kernel
theorem dX5_init_77 : decode cX5_init 77 = .ok (.aload_n 0, 1) := by decide +kernel
theorem dX5_init_78 : decode cX5_init 78 = .ok (.iload_n 1, 1) := by decide +kernel
theorem dX5_init_79 : decode cX5_init 79 = .ok (.putfield 58, 3) := by decide +kernel
theorem dX5_init_82 : decode cX5_init 82 = .ok (.aload_n 0, 1) := by decide +kernel
theorem dX5_init_83 : decode cX5_init 83 = .ok (.aload_n 2, 1) := by decide +kernel
theorem dX5_init_84 : decode cX5_init 84 = .ok (.putfield 61, 3) := by decide +kernel
theorem dX5_init_87 : decode cX5_init 87 = .ok (.return_, 1) := by decide +kernel
theorem dX5_begin_0 : decode cX5_begin 0 = .ok (.aload_n 0, 1) := by decide +kernel
theorem dX5_begin_1 : decode cX5_begin 1 = .ok (.iload_n 1, 1) := by decide +kernel
theorem dX5_begin_2 : decode cX5_begin 2 = .ok (.putfield 32, 3) := by decide +kernel
theorem dX5_begin_5 : decode cX5_begin 5 = .ok (.aload_n 0, 1) := by decide +kernel
theorem dX5_begin_6 : decode cX5_begin 6 = .ok (.getfield 21, 3) := by decide +kernel
theorem dX5_begin_9 : decode cX5_begin 9 = .ok (.invokevirtual 65, 3) := by decide +kernel
theorem dX5_begin_12 : decode cX5_begin 12 = .ok (.aload_n 0, 1) := by decide +kernel
theorem dX5_begin_13 : decode cX5_begin 13 = .ok (.getfield 28, 3) := by decide +kernel
theorem dX5_begin_16 : decode cX5_begin 16 = .ok (.invokevirtual 68, 3) := by decide +kernel
theorem dX5_begin_19 : decode cX5_begin 19 = .ok (.aload_n 0, 1) := by decide +kernel
theorem dX5_begin_20 : decode cX5_begin 20 = .ok (.iconst (-1), 1) := by decide +kernel
theorem dX5_begin_21 : decode cX5_begin 21 = .ok (.putfield 39, 3) := by decide +kernel
theorem dX5_begin_24 : decode cX5_begin 24 = .ok (.aload_n 0, 1) := by decide +kernel
theorem dX5_begin_25 : decode cX5_begin 25 = .ok (.iconst 0, 1) := by decide +kernel
theorem dX5_begin_26 : decode cX5_begin 26 = .ok (.putfield 42, 3) := by decide +kernel
theorem dX5_begin_29 : decode cX5_begin 29 = .ok (.aload_n 0, 1) := by decide +kernel
theorem dX5_begin_30 : decode cX5_begin 30 = .ok (.iconst 0, 1) := by decide +kernel
theorem dX5_begin_31 : decode cX5_begin 31 = .ok (.putfield 45, 3) := by decide +kernel
theorem dX5_begin_34 : decode cX5_begin 34 = .ok (.aload_n 0, 1) := by decide +kernel
theorem dX5_begin_35 : decode cX5_begin 35 = .ok (.iconst 0, 1) := by decide +kernel
theorem dX5_begin_36 : decode cX5_begin 36 = .ok (.putfield 49, 3) := by decide +kernel
theorem dX5_begin_39 : decode cX5_begin 39 = .ok (.aload_n 0, 1) := by decide +kernel
theorem dX5_begin_40 : decode cX5_begin 40 = .ok (.iconst 0, 1) := by decide +kernel
theorem dX5_begin_41 : decode cX5_begin 41 = .ok (.putfield 52, 3) := by decide +kernel
theorem dX5_begin_44 : decode cX5_begin 44 = .ok (.aload_n 0, 1) := by decide +kernel
theorem dX5_begin_45 : decode cX5_begin 45 = .ok (.iconst 0, 1) := by decide +kernel
theorem dX5_begin_46 : decode cX5_begin 46 = .ok (.putfield 55, 3) := by decide +kernel
theorem dX5_begin_49 : decode cX5_begin 49 = .ok (.return_, 1) := by decide +kernel
theorem dX5_beginCall_0 : decode cX5_beginCall 0 = .ok (.aload_n 0, 1) := by decide +kernel
theorem dX5_beginCall_1 : decode cX5_beginCall 1 = .ok (.iconst 1, 1) := by decide +kernel
theorem dX5_beginCall_2 : decode cX5_beginCall 2 = .ok (.invokevirtual 71, 3) := by decide +kernel
theorem dX5_beginCall_5 : decode cX5_beginCall 5 = .ok (.aload_n 0, 1) := by decide +kernel
theorem dX5_beginCall_6 : decode cX5_beginCall 6 = .ok (.aload_n 0, 1) := by decide +kernel
theorem dX5_beginCall_7 : decode cX5_beginCall 7 = .ok (.getfield 12, 3) := by decide +kernel
theorem dX5_beginCall_10 : decode cX5_beginCall 10 = .ok (.getfield 75, 3) := by decide +kernel
theorem dX5_beginCall_13 : decode cX5_beginCall 13 = .ok (.bipush 7, 2) := by decide +kernel
theorem dX5_beginCall_15 : decode cX5_beginCall 15 = .ok (.iand, 1) := by decide +kernel
theorem dX5_beginCall_16 : decode cX5_beginCall 16 = .ok (.putfield 36, 3) := by decide +kernel
theorem dX5_beginCall_19 : decode cX5_beginCall 19 = .ok (.aload_n 0, 1) := by decide +kernel
theorem dX5_beginCall_20 : decode cX5_beginCall 20 = .ok (.getfield 12, 3) := by decide +kernel
theorem dX5_beginCall_23 : decode cX5_beginCall 23 = .ok (.dup, 1) := by decide +kernel
theorem dX5_beginCall_24 : decode cX5_beginCall 24 = .ok (.getfield 75, 3) := by decide +kernel
theorem dX5_beginCall_27 : decode cX5_beginCall 27 = .ok (.iconst 1, 1) := by decide +kernel
theorem dX5_beginCall_28 : decode cX5_beginCall 28 = .ok (.iadd, 1) := by decide +kernel
theorem dX5_beginCall_29 : decode cX5_beginCall 29 = .ok (.putfield 75, 3) := by decide +kernel
theorem dX5_beginCall_32 : decode cX5_beginCall 32 = .ok (.aload_n 0, 1) := by decide +kernel
theorem dX5_beginCall_33 : decode cX5_beginCall 33 = .ok (.getfield 61, 3) := by decide +kernel
theorem dX5_beginCall_36 : decode cX5_beginCall 36 = .ok (.invokevirtual 78, 3) := by decide +kernel
theorem dX5_beginCall_39 : decode cX5_beginCall 39 = .ok (.bipush 7, 2) := by decide +kernel
theorem dX5_beginCall_41 : decode cX5_beginCall 41 = .ok (.aload_n 0, 1) := by decide +kernel
theorem dX5_beginCall_42 : decode cX5_beginCall 42 = .ok (.getfield 36, 3) := by decide +kernel
theorem dX5_beginCall_45 : decode cX5_beginCall 45 = .ok (.invokevirtual 86, 3) := by decide +kernel
theorem dX5_beginCall_48 : decode cX5_beginCall 48 = .ok (.return_, 1) := by decide +kernel
theorem dX5_passTick_0 : decode cX5_passTick 0 = .ok (.aload_n 0, 1) := by decide +kernel
theorem dX5_passTick_1 : decode cX5_passTick 1 = .ok (.getfield 32, 3) := by decide +kernel
theorem dX5_passTick_4 : decode cX5_passTick 4 = .ok (.iconst 1, 1) := by decide +kernel
theorem dX5_passTick_5 : decode cX5_passTick 5 = .ok (.if_icmp .eq 13, 3) := by decide +kernel
theorem dX5_passTick_8 : decode cX5_passTick 8 = .ok (.aload_n 0, 1) := by decide +kernel
theorem dX5_passTick_9 : decode cX5_passTick 9 = .ok (.getfield 21, 3) := by decide +kernel
theorem dX5_passTick_12 : decode cX5_passTick 12 = .ok (.getfield 90, 3) := by decide +kernel
theorem dX5_passTick_15 : decode cX5_passTick 15 = .ok (.ifCond .le 8, 3) := by decide +kernel
theorem dX5_passTick_18 : decode cX5_passTick 18 = .ok (.aload_n 0, 1) := by decide +kernel
theorem dX5_passTick_19 : decode cX5_passTick 19 = .ok (.invokevirtual 93, 3) := by decide +kernel
theorem dX5_passTick_22 : decode cX5_passTick 22 = .ok (.ireturn, 1) := by decide +kernel
theorem dX5_passTick_23 : decode cX5_passTick 23 = .ok (.aload_n 0, 1) := by decide +kernel
theorem dX5_passTick_24 : decode cX5_passTick 24 = .ok (.invokevirtual 97, 3) := by decide +kernel
theorem dX5_passTick_27 : decode cX5_passTick 27 = .ok (.ifCond .eq 27, 3) := by decide +kernel
theorem dX5_passTick_30 : decode cX5_passTick 30 = .ok (.aload_n 0, 1) := by decide +kernel
theorem dX5_passTick_31 : decode cX5_passTick 31 = .ok (.dup, 1) := by decide +kernel
theorem dX5_passTick_32 : decode cX5_passTick 32 = .ok (.getfield 55, 3) := by decide +kernel
theorem dX5_passTick_35 : decode cX5_passTick 35 = .ok (.iconst 1, 1) := by decide +kernel
theorem dX5_passTick_36 : decode cX5_passTick 36 = .ok (.iadd, 1) := by decide +kernel
theorem dX5_passTick_37 : decode cX5_passTick 37 = .ok (.putfield 55, 3) := by decide +kernel
theorem dX5_passTick_40 : decode cX5_passTick 40 = .ok (.aload_n 0, 1) := by decide +kernel
theorem dX5_passTick_41 : decode cX5_passTick 41 = .ok (.getfield 55, 3) := by decide +kernel
theorem dX5_passTick_44 : decode cX5_passTick 44 = .ok (.bipush 41, 2) := by decide +kernel
theorem dX5_passTick_46 : decode cX5_passTick 46 = .ok (.if_icmp .lt 8, 3) := by decide +kernel
theorem dX5_passTick_49 : decode cX5_passTick 49 = .ok (.aload_n 0, 1) := by decide +kernel
theorem dX5_passTick_50 : decode cX5_passTick 50 = .ok (.iconst 0, 1) := by decide +kernel
theorem dX5_passTick_51 : decode cX5_passTick 51 = .ok (.invokevirtual 71, 3) := by decide +kernel
theorem dX5_passTick_54 : decode cX5_passTick 54 = .ok (.iconst 0, 1) := by decide +kernel
theorem dX5_passTick_55 : decode cX5_passTick 55 = .ok (.ireturn, 1) := by decide +kernel
theorem dX5_receive_0 : decode cX5_receive 0 = .ok (.aload_n 1, 1) := by decide +kernel
theorem dX5_receive_1 : decode cX5_receive 1 = .ok (.invokevirtual 101, 3) := by decide +kernel
theorem dX5_receive_4 : decode cX5_receive 4 = .ok (.ifCond .ne 27, 3) := by decide +kernel
theorem dX5_receive_7 : decode cX5_receive 7 = .ok (.aload_n 0, 1) := by decide +kernel
theorem dX5_receive_8 : decode cX5_receive 8 = .ok (.invokevirtual 97, 3) := by decide +kernel
theorem dX5_receive_11 : decode cX5_receive 11 = .ok (.ifCond .eq 18, 3) := by decide +kernel
theorem dX5_receive_14 : decode cX5_receive 14 = .ok (.aload_n 0, 1) := by decide +kernel
theorem dX5_receive_15 : decode cX5_receive 15 = .ok (.getfield 61, 3) := by decide +kernel
theorem dX5_receive_18 : decode cX5_receive 18 = .ok (.invokevirtual 78, 3) := by decide +kernel
theorem dX5_receive_21 : decode cX5_receive 21 = .ok (.iconst 2, 1) := by decide +kernel
theorem dX5_receive_22 : decode cX5_receive 22 = .ok (.aload_n 0, 1) := by decide +kernel
theorem dX5_receive_23 : decode cX5_receive 23 = .ok (.getfield 42, 3) := by decide +kernel
theorem dX5_receive_26 : decode cX5_receive 26 = .ok (.invokevirtual 86, 3) := by decide +kernel
theorem dX5_receive_29 : decode cX5_receive 29 = .ok (.iconst 0, 1) := by decide +kernel
theorem dX5_receive_30 : decode cX5_receive 30 = .ok (.ireturn, 1) := by decide +kernel
theorem dX5_receive_31 : decode cX5_receive 31 = .ok (.aload_n 0, 1) := by decide +kernel
theorem dX5_receive_32 : decode cX5_receive 32 = .ok (.iconst 0, 1) := by decide +kernel
theorem dX5_receive_33 : decode cX5_receive 33 = .ok (.putfield 55, 3) := by decide +kernel
theorem dX5_receive_36 : decode cX5_receive 36 = .ok (.aload_n 1, 1) := by decide +kernel
theorem dX5_receive_37 : decode cX5_receive 37 = .ok (.invokevirtual 104, 3) := by decide +kernel
theorem dX5_receive_40 : decode cX5_receive 40 = .ok (.istore_n 2, 1) := by decide +kernel
theorem dX5_receive_41 : decode cX5_receive 41 = .ok (.aload_n 1, 1) := by decide +kernel
theorem dX5_receive_42 : decode cX5_receive 42 = .ok (.invokevirtual 107, 3) := by decide +kernel
theorem dX5_receive_45 : decode cX5_receive 45 = .ok (.ifCond .eq 18, 3) := by decide +kernel
theorem dX5_receive_48 : decode cX5_receive 48 = .ok (.aload_n 0, 1) := by decide +kernel
theorem dX5_receive_49 : decode cX5_receive 49 = .ok (.invokevirtual 97, 3) := by decide +kernel
theorem dX5_receive_52 : decode cX5_receive 52 = .ok (.ifCond .eq 60, 3) := by decide +kernel
theorem dX5_receive_55 : decode cX5_receive 55 = .ok (.aload_n 0, 1) := by decide +kernel
theorem dX5_receive_56 : decode cX5_receive 56 = .ok (.aload_n 1, 1) := by decide +kernel
theorem dX5_receive_57 : decode cX5_receive 57 = .ok (.invokevirtual 110, 3) := by decide +kernel
theorem dX5_receive_60 : decode cX5_receive 60 = .ok (.goto 52, 3) := by decide +kernel
theorem dX5_receive_63 : decode cX5_receive 63 = .ok (.iload_n 2, 1) := by decide +kernel
theorem dX5_receive_64 : decode cX5_receive 64 = .ok (.bipush 7, 2) := by decide +kernel
theorem dX5_receive_66 : decode cX5_receive 66 = .ok (.if_icmp .ne 14, 3) := by decide +kernel
theorem dX5_receive_69 : decode cX5_receive 69 = .ok (.aload_n 0, 1) := by decide +kernel
theorem dX5_receive_70 : decode cX5_receive 70 = .ok (.aload_n 1, 1) := by decide +kernel
theorem dX5_receive_71 : decode cX5_receive 71 = .ok (.invokevirtual 114, 3) := by decide +kernel
theorem dX5_receive_74 : decode cX5_receive 74 = .ok (.invokevirtual 117, 3) := by decide +kernel
theorem dX5_receive_77 : decode cX5_receive 77 = .ok (.goto 35, 3) := by decide +kernel
theorem dX5_receive_80 : decode cX5_receive 80 = .ok (.iload_n 2, 1) := by decide +kernel
theorem dX5_receive_81 : decode cX5_receive 81 = .ok (.iconst 5, 1) := by decide +kernel
theorem dX5_receive_82 : decode cX5_receive 82 = .ok (.if_icmp .ne 14, 3) := by decide +kernel
theorem dX5_receive_85 : decode cX5_receive 85 = .ok (.aload_n 0, 1) := by decide +kernel
theorem dX5_receive_86 : decode cX5_receive 86 = .ok (.aload_n 1, 1) := by decide +kernel
theorem dX5_receive_87 : decode cX5_receive 87 = .ok (.invokevirtual 114, 3) := by decide +kernel
theorem dX5_receive_90 : decode cX5_receive 90 = .ok (.invokevirtual 120, 3) := by decide +kernel
theorem dX5_receive_93 : decode cX5_receive 93 = .ok (.goto 19, 3) := by decide +kernel
theorem dX5_receive_96 : decode cX5_receive 96 = .ok (.aload_n 0, 1) := by decide +kernel
theorem dX5_receive_97 : decode cX5_receive 97 = .ok (.invokevirtual 97, 3) := by decide +kernel
theorem dX5_receive_100 : decode cX5_receive 100 = .ok (.ifCond .eq 12, 3) := by decide +kernel
theorem dX5_receive_103 : decode cX5_receive 103 = .ok (.aload_n 0, 1) := by decide +kernel
theorem dX5_receive_104 : decode cX5_receive 104 = .ok (.iload_n 2, 1) := by decide +kernel
theorem dX5_receive_105 : decode cX5_receive 105 = .ok (.aload_n 1, 1) := by decide +kernel
theorem dX5_receive_106 : decode cX5_receive 106 = .ok (.invokevirtual 114, 3) := by decide +kernel
theorem dX5_receive_109 : decode cX5_receive 109 = .ok (.invokevirtual 123, 3) := by decide +kernel
theorem dX5_receive_112 : decode cX5_receive 112 = .ok (.aload_n 0, 1) := by decide +kernel
theorem dX5_receive_113 : decode cX5_receive 113 = .ok (.aload_n 0, 1) := by decide +kernel
theorem dX5_receive_114 : decode cX5_receive 114 = .ok (.getfield 21, 3) := by decide +kernel
theorem dX5_receive_117 : decode cX5_receive 117 = .ok (.invokevirtual 126, 3) := by decide +kernel
theorem dX5_receive_120 : decode cX5_receive 120 = .ok (.invokevirtual 129, 3) := by decide +kernel
theorem dX5_receive_123 : decode cX5_receive 123 = .ok (.iconst 1, 1) := by decide +kernel
theorem dX5_receive_124 : decode cX5_receive 124 = .ok (.ireturn, 1) := by decide +kernel
theorem dX5_isOpen_0 : decode cX5_isOpen 0 = .ok (.aload_n 0, 1) := by decide +kernel
theorem dX5_isOpen_1 : decode cX5_isOpen 1 = .ok (.getfield 32, 3) := by decide +kernel
theorem dX5_isOpen_4 : decode cX5_isOpen 4 = .ok (.iconst 2, 1) := by decide +kernel
theorem dX5_isOpen_5 : decode cX5_isOpen 5 = .ok (.if_icmp .eq 11, 3) := by decide +kernel
theorem dX5_isOpen_8 : decode cX5_isOpen 8 = .ok (.aload_n 0, 1) := by decide +kernel
theorem dX5_isOpen_9 : decode cX5_isOpen 9 = .ok (.getfield 32, 3) := by decide +kernel
theorem dX5_isOpen_12 : decode cX5_isOpen 12 = .ok (.iconst 3, 1) := by decide +kernel
theorem dX5_isOpen_13 : decode cX5_isOpen 13 = .ok (.if_icmp .ne 7, 3) := by decide +kernel
theorem dX5_isOpen_16 : decode cX5_isOpen 16 = .ok (.iconst 1, 1) := by decide +kernel
theorem dX5_isOpen_17 : decode cX5_isOpen 17 = .ok (.goto 4, 3) := by decide +kernel
theorem dX5_isOpen_20 : decode cX5_isOpen 20 = .ok (.iconst 0, 1) := by decide +kernel
theorem dX5_isOpen_21 : decode cX5_isOpen 21 = .ok (.ireturn, 1) := by decide +kernel
theorem dX5_passTickUnanswered_0 : decode cX5_passTickUnanswered 0 = .ok (.aload_n 0, 1) := by decide +kernel
theorem dX5_passTickUnanswered_1 : decode cX5_passTickUnanswered 1 = .ok (.dup, 1) := by decide +kernel
theorem dX5_passTickUnanswered_2 : decode cX5_passTickUnanswered 2 = .ok (.getfield 49, 3) := by decide +kernel
theorem dX5_passTickUnanswered_5 : decode cX5_passTickUnanswered 5 = .ok (.iconst 1, 1) := by decide +kernel
theorem dX5_passTickUnanswered_6 : decode cX5_passTickUnanswered 6 = .ok (.iadd, 1) := by decide +kernel
theorem dX5_passTickUnanswered_7 : decode cX5_passTickUnanswered 7 = .ok (.putfield 49, 3) := by decide +kernel
theorem dX5_passTickUnanswered_10 : decode cX5_passTickUnanswered 10 = .ok (.aload_n 0, 1) := by decide +kernel
theorem dX5_passTickUnanswered_11 : decode cX5_passTickUnanswered 11 = .ok (.getfield 49, 3) := by decide +kernel
theorem dX5_passTickUnanswered_14 : decode cX5_passTickUnanswered 14 = .ok (.iconst 4, 1) := by decide +kernel
theorem dX5_passTickUnanswered_15 : decode cX5_passTickUnanswered 15 = .ok (.if_icmp .ge 5, 3) := by decide +kernel
theorem dX5_passTickUnanswered_18 : decode cX5_passTickUnanswered 18 = .ok (.iconst 0, 1) := by decide +kernel
theorem dX5_passTickUnanswered_19 : decode cX5_passTickUnanswered 19 = .ok (.ireturn, 1) := by decide +kernel
theorem dX5_passTickUnanswered_20 : decode cX5_passTickUnanswered 20 = .ok (.aload_n 0, 1) := by decide +kernel
theorem dX5_passTickUnanswered_21 : decode cX5_passTickUnanswered 21 = .ok (.getfield 52, 3) := by decide +kernel
theorem dX5_passTickUnanswered_24 : decode cX5_passTickUnanswered 24 = .ok (.iconst 5, 1) := by decide +kernel
theorem dX5_passTickUnanswered_25 : decode cX5_passTickUnanswered 25 = .ok (.if_icmp .lt 10, 3) := by decide +kernel
theorem dX5_passTickUnanswered_28 : decode cX5_passTickUnanswered 28 = .ok (.aload_n 0, 1) := by decide +kernel
theorem dX5_passTickUnanswered_29 : decode cX5_passTickUnanswered 29 = .ok (.iconst 0, 1) := by decide +kernel
theorem dX5_passTickUnanswered_30 : decode cX5_passTickUnanswered 30 = .ok (.invokevirtual 71, 3) := by decide +kernel
theorem dX5_passTickUnanswered_33 : decode cX5_passTickUnanswered 33 = .ok (.iconst 0, 1) := by decide +kernel
theorem dX5_passTickUnanswered_34 : decode cX5_passTickUnanswered 34 = .ok (.ireturn, 1) := by decide +kernel
theorem dX5_passTickUnanswered_35 : decode cX5_passTickUnanswered 35 = .ok (.aload_n 0, 1) := by decide +kernel
theorem dX5_passTickUnanswered_36 : decode cX5_passTickUnanswered 36 = .ok (.dup, 1) := by decide +kernel
theorem dX5_passTickUnanswered_37 : decode cX5_passTickUnanswered 37 = .ok (.getfield 52, 3) := by decide +kernel
theorem dX5_passTickUnanswered_40 : decode cX5_passTickUnanswered 40 = .ok (.iconst 1, 1) := by decide +kernel
theorem dX5_passTickUnanswered_41 : decode cX5_passTickUnanswered 41 = .ok (.iadd, 1) := by decide +kernel
theorem dX5_passTickUnanswered_42 : decode cX5_passTickUnanswered 42 = .ok (.putfield 52, 3) := by decide +kernel
theorem dX5_passTickUnanswered_45 : decode cX5_passTickUnanswered 45 = .ok (.aload_n 0, 1) := by decide +kernel
theorem dX5_passTickUnanswered_46 : decode cX5_passTickUnanswered 46 = .ok (.iconst 0, 1) := by decide +kernel
theorem dX5_passTickUnanswered_47 : decode cX5_passTickUnanswered 47 = .ok (.putfield 49, 3) := by decide +kernel
theorem dX5_passTickUnanswered_50 : decode cX5_passTickUnanswered 50 = .ok (.aload_n 0, 1) := by decide +kernel
theorem dX5_passTickUnanswered_51 : decode cX5_passTickUnanswered 51 = .ok (.getfield 32, 3) := by decide +kernel
theorem dX5_passTickUnanswered_54 : decode cX5_passTickUnanswered 54 = .ok (.iconst 1, 1) := by decide +kernel
theorem dX5_passTickUnanswered_55 : decode cX5_passTickUnanswered 55 = .ok (.if_icmp .ne 21, 3) := by decide +kernel
theorem dX5_passTickUnanswered_58 : decode cX5_passTickUnanswered 58 = .ok (.aload_n 0, 1) := by decide +kernel
theorem dX5_passTickUnanswered_59 : decode cX5_passTickUnanswered 59 = .ok (.getfield 61, 3) := by decide +kernel
theorem dX5_passTickUnanswered_62 : decode cX5_passTickUnanswered 62 = .ok (.invokevirtual 78, 3) := by decide +kernel
theorem dX5_passTickUnanswered_65 : decode cX5_passTickUnanswered 65 = .ok (.bipush 7, 2) := by decide +kernel
theorem dX5_passTickUnanswered_67 : decode cX5_passTickUnanswered 67 = .ok (.aload_n 0, 1) := by decide +kernel
theorem dX5_passTickUnanswered_68 : decode cX5_passTickUnanswered 68 = .ok (.getfield 36, 3) := by decide +kernel
theorem dX5_passTickUnanswered_71 : decode cX5_passTickUnanswered 71 = .ok (.invokevirtual 86, 3) := by decide +kernel
theorem dX5_passTickUnanswered_74 : decode cX5_passTickUnanswered 74 = .ok (.iconst 1, 1) := by decide +kernel
theorem dX5_passTickUnanswered_75 : decode cX5_passTickUnanswered 75 = .ok (.ireturn, 1) := by decide +kernel
theorem dX5_passTickUnanswered_76 : decode cX5_passTickUnanswered 76 = .ok (.aload_n 0, 1) := by decide +kernel
theorem dX5_passTickUnanswered_77 : decode cX5_passTickUnanswered 77 = .ok (.iconst 0, 1) := by decide +kernel
theorem dX5_passTickUnanswered_78 : decode cX5_passTickUnanswered 78 = .ok (.invokevirtual 129, 3) := by decide +kernel
theorem dX5_passTickUnanswered_81 : decode cX5_passTickUnanswered 81 = .ok (.aload_n 0, 1) := by decide +kernel
theorem dX5_passTickUnanswered_82 : decode cX5_passTickUnanswered 82 = .ok (.getfield 21, 3) := by decide +kernel
theorem dX5_passTickUnanswered_85 : decode cX5_passTickUnanswered 85 = .ok (.getfield 90, 3) := by decide +kernel
theorem dX5_passTickUnanswered_88 : decode cX5_passTickUnanswered 88 = .ok (.ireturn, 1) := by decide +kernel
theorem dX5_sendOutFrom_0 : decode cX5_sendOutFrom 0 = .ok (.iload_n 1, 1) := by decide +kernel
theorem dX5_sendOutFrom_1 : decode cX5_sendOutFrom 1 = .ok (.istore_n 2, 1) := by decide +kernel
theorem dX5_sendOutFrom_2 : decode cX5_sendOutFrom 2 = .ok (.iload_n 2, 1) := by decide +kernel
theorem dX5_sendOutFrom_3 : decode cX5_sendOutFrom 3 = .ok (.aload_n 0, 1) := by decide +kernel
theorem dX5_sendOutFrom_4 : decode cX5_sendOutFrom 4 = .ok (.getfield 21, 3) := by decide +kernel
theorem dX5_sendOutFrom_7 : decode cX5_sendOutFrom 7 = .ok (.getfield 90, 3) := by decide +kernel
theorem dX5_sendOutFrom_10 : decode cX5_sendOutFrom 10 = .ok (.if_icmp .ge 39, 3) := by decide +kernel
theorem dX5_sendOutFrom_13 : decode cX5_sendOutFrom 13 = .ok (.aload_n 0, 1) := by decide +kernel
theorem dX5_sendOutFrom_14 : decode cX5_sendOutFrom 14 = .ok (.getfield 61, 3) := by decide +kernel
theorem dX5_sendOutFrom_17 : decode cX5_sendOutFrom 17 = .ok (.invokevirtual 78, 3) := by decide +kernel
theorem dX5_sendOutFrom_20 : decode cX5_sendOutFrom 20 = .ok (.aload_n 0, 1) := by decide +kernel
theorem dX5_sendOutFrom_21 : decode cX5_sendOutFrom 21 = .ok (.getfield 21, 3) := by decide +kernel
theorem dX5_sendOutFrom_24 : decode cX5_sendOutFrom 24 = .ok (.iload_n 2, 1) := by decide +kernel
theorem dX5_sendOutFrom_25 : decode cX5_sendOutFrom 25 = .ok (.invokevirtual 132, 3) := by decide +kernel
theorem dX5_sendOutFrom_28 : decode cX5_sendOutFrom 28 = .ok (.aload_n 0, 1) := by decide +kernel
theorem dX5_sendOutFrom_29 : decode cX5_sendOutFrom 29 = .ok (.getfield 42, 3) := by decide +kernel
theorem dX5_sendOutFrom_32 : decode cX5_sendOutFrom 32 = .ok (.aload_n 0, 1) := by decide +kernel
theorem dX5_sendOutFrom_33 : decode cX5_sendOutFrom 33 = .ok (.getfield 21, 3) := by decide +kernel
theorem dX5_sendOutFrom_36 : decode cX5_sendOutFrom 36 = .ok (.iload_n 2, 1) := by decide +kernel
theorem dX5_sendOutFrom_37 : decode cX5_sendOutFrom 37 = .ok (.invokevirtual 136, 3) := by decide +kernel
theorem dX5_sendOutFrom_40 : decode cX5_sendOutFrom 40 = .ok (.invokevirtual 140, 3) := by decide +kernel
theorem dX5_sendOutFrom_43 : decode cX5_sendOutFrom 43 = .ok (.iinc 2 1, 3) := by decide +kernel
theorem dX5_sendOutFrom_46 : decode cX5_sendOutFrom 46 = .ok (.goto (-44), 3) := by decide +kernel
theorem dX5_sendOutFrom_49 : decode cX5_sendOutFrom 49 = .ok (.return_, 1) := by decide +kernel
theorem dX5_takeInit_0 : decode cX5_takeInit 0 = .ok (.aload_n 0, 1) := by decide +kernel
theorem dX5_takeInit_1 : decode cX5_takeInit 1 = .ok (.getfield 58, 3) := by decide +kernel
theorem dX5_takeInit_4 : decode cX5_takeInit 4 = .ok (.ifCond .ne 15, 3) := by decide +kernel
theorem dX5_takeInit_7 : decode cX5_takeInit 7 = .ok (.aload_n 0, 1) := by decide +kernel
theorem dX5_takeInit_8 : decode cX5_takeInit 8 = .ok (.getfield 32, 3) := by decide +kernel
theorem dX5_takeInit_11 : decode cX5_takeInit 11 = .ok (.iconst 1, 1) := by decide +kernel
theorem dX5_takeInit_12 : decode cX5_takeInit 12 = .ok (.if_icmp .ne 7, 3) := by decide +kernel
theorem dX5_takeInit_15 : decode cX5_takeInit 15 = .ok (.iconst 1, 1) := by decide +kernel
theorem dX5_takeInit_16 : decode cX5_takeInit 16 = .ok (.goto 4, 3) := by decide +kernel
theorem dX5_takeInit_19 : decode cX5_takeInit 19 = .ok (.iconst 0, 1) := by decide +kernel
theorem dX5_takeInit_20 : decode cX5_takeInit 20 = .ok (.istore_n 2, 1) := by decide +kernel
theorem dX5_takeInit_21 : decode cX5_takeInit 21 = .ok (.aload_n 0, 1) := by decide +kernel
theorem dX5_takeInit_22 : decode cX5_takeInit 22 = .ok (.getfield 32, 3) := by decide +kernel
theorem dX5_takeInit_25 : decode cX5_takeInit 25 = .ok (.iconst 3, 1) := by decide +kernel
theorem dX5_takeInit_26 : decode cX5_takeInit 26 = .ok (.if_icmp .ne 22, 3) := by decide +kernel
theorem dX5_takeInit_29 : decode cX5_takeInit 29 = .ok (.aload_n 0, 1) := by decide +kernel
theorem dX5_takeInit_30 : decode cX5_takeInit 30 = .ok (.getfield 39, 3) := by decide +kernel
theorem dX5_takeInit_33 : decode cX5_takeInit 33 = .ok (.iload_n 1, 1) := by decide +kernel
theorem dX5_takeInit_34 : decode cX5_takeInit 34 = .ok (.if_icmp .ne 14, 3) := by decide +kernel
theorem dX5_takeInit_37 : decode cX5_takeInit 37 = .ok (.aload_n 0, 1) := by decide +kernel
theorem dX5_takeInit_38 : decode cX5_takeInit 38 = .ok (.getfield 45, 3) := by decide +kernel
theorem dX5_takeInit_41 : decode cX5_takeInit 41 = .ok (.ifCond .eq 7, 3) := by decide +kernel
theorem dX5_takeInit_44 : decode cX5_takeInit 44 = .ok (.iconst 1, 1) := by decide +kernel
theorem dX5_takeInit_45 : decode cX5_takeInit 45 = .ok (.goto 4, 3) := by decide +kernel
theorem dX5_takeInit_48 : decode cX5_takeInit 48 = .ok (.iconst 0, 1) := by decide +kernel
theorem dX5_takeInit_49 : decode cX5_takeInit 49 = .ok (.istore_n 3, 1) := by decide +kernel
theorem dX5_takeInit_50 : decode cX5_takeInit 50 = .ok (.iload_n 2, 1) := by decide +kernel
theorem dX5_takeInit_51 : decode cX5_takeInit 51 = .ok (.ifCond .ne 7, 3) := by decide +kernel
theorem dX5_takeInit_54 : decode cX5_takeInit 54 = .ok (.iload_n 3, 1) := by decide +kernel
theorem dX5_takeInit_55 : decode cX5_takeInit 55 = .ok (.ifCond .eq 4, 3) := by decide +kernel
theorem dX5_takeInit_58 : decode cX5_takeInit 58 = .ok (.return_, 1) := by decide +kernel
theorem dX5_takeInit_59 : decode cX5_takeInit 59 = .ok (.aload_n 0, 1) := by decide +kernel
theorem dX5_takeInit_60 : decode cX5_takeInit 60 = .ok (.iconst 3, 1) := by decide +kernel
theorem dX5_takeInit_61 : decode cX5_takeInit 61 = .ok (.invokevirtual 71, 3) := by decide +kernel
theorem dX5_takeInit_64 : decode cX5_takeInit 64 = .ok (.aload_n 0, 1) := by decide +kernel
theorem dX5_takeInit_65 : decode cX5_takeInit 65 = .ok (.iload_n 1, 1) := by decide +kernel
theorem dX5_takeInit_66 : decode cX5_takeInit 66 = .ok (.putfield 39, 3) := by decide +kernel
theorem dX5_takeInit_69 : decode cX5_takeInit 69 = .ok (.aload_n 0, 1) := by decide +kernel
theorem dX5_takeInit_70 : decode cX5_takeInit 70 = .ok (.getfield 61, 3) := by decide +kernel
theorem dX5_takeInit_73 : decode cX5_takeInit 73 = .ok (.invokevirtual 78, 3) := by decide +kernel
theorem dX5_takeInit_76 : decode cX5_takeInit 76 = .ok (.iconst 5, 1) := by decide +kernel
theorem dX5_takeInit_77 : decode cX5_takeInit 77 = .ok (.iload_n 1, 1) := by decide +kernel
theorem dX5_takeInit_78 : decode cX5_takeInit 78 = .ok (.invokevirtual 86, 3) := by decide +kernel
theorem dX5_takeInit_81 : decode cX5_takeInit 81 = .ok (.return_, 1) := by decide +kernel
theorem dX5_takeAnswer_0 : decode cX5_takeAnswer 0 = .ok (.aload_n 0, 1) := by decide +kernel
theorem dX5_takeAnswer_1 : decode cX5_takeAnswer 1 = .ok (.getfield 32, 3) := by decide +kernel
theorem dX5_takeAnswer_4 : decode cX5_takeAnswer 4 = .ok (.iconst 1, 1) := by decide +kernel
theorem dX5_takeAnswer_5 : decode cX5_takeAnswer 5 = .ok (.if_icmp .ne 20, 3) := by decide +kernel
theorem dX5_takeAnswer_8 : decode cX5_takeAnswer 8 = .ok (.aload_n 0, 1) := by decide +kernel
theorem dX5_takeAnswer_9 : decode cX5_takeAnswer 9 = .ok (.getfield 36, 3) := by decide +kernel
theorem dX5_takeAnswer_12 : decode cX5_takeAnswer 12 = .ok (.iload_n 1, 1) := by decide +kernel
theorem dX5_takeAnswer_13 : decode cX5_takeAnswer 13 = .ok (.if_icmp .ne 12, 3) := by decide +kernel
theorem dX5_takeAnswer_16 : decode cX5_takeAnswer 16 = .ok (.aload_n 0, 1) := by decide +kernel
theorem dX5_takeAnswer_17 : decode cX5_takeAnswer 17 = .ok (.iconst 2, 1) := by decide +kernel
theorem dX5_takeAnswer_18 : decode cX5_takeAnswer 18 = .ok (.invokevirtual 71, 3) := by decide +kernel
theorem dX5_takeAnswer_21 : decode cX5_takeAnswer 21 = .ok (.aload_n 0, 1) := by decide +kernel
theorem dX5_takeAnswer_22 : decode cX5_takeAnswer 22 = .ok (.invokevirtual 144, 3) := by decide +kernel
theorem dX5_takeAnswer_25 : decode cX5_takeAnswer 25 = .ok (.return_, 1) := by decide +kernel
theorem dX5_takeControl_0 : decode cX5_takeControl 0 = .ok (.iload_n 1, 1) := by decide +kernel
theorem dX5_takeControl_1 : decode cX5_takeControl 1 = .ok (.iconst 1, 1) := by decide +kernel
theorem dX5_takeControl_2 : decode cX5_takeControl 2 = .ok (.if_icmp .ne 9, 3) := by decide +kernel
theorem dX5_takeControl_5 : decode cX5_takeControl 5 = .ok (.aload_n 0, 1) := by decide +kernel
theorem dX5_takeControl_6 : decode cX5_takeControl 6 = .ok (.iconst 0, 1) := by decide +kernel
theorem dX5_takeControl_7 : decode cX5_takeControl 7 = .ok (.invokevirtual 71, 3) := by decide +kernel
theorem dX5_takeControl_10 : decode cX5_takeControl 10 = .ok (.return_, 1) := by decide +kernel
theorem dX5_takeControl_11 : decode cX5_takeControl 11 = .ok (.aload_n 0, 1) := by decide +kernel
theorem dX5_takeControl_12 : decode cX5_takeControl 12 = .ok (.iload_n 2, 1) := by decide +kernel
theorem dX5_takeControl_13 : decode cX5_takeControl 13 = .ok (.invokevirtual 147, 3) := by decide +kernel
theorem dX5_takeControl_16 : decode cX5_takeControl 16 = .ok (.iload_n 1, 1) := by decide +kernel
theorem dX5_takeControl_17 : decode cX5_takeControl 17 = .ok (.iconst 2, 1) := by decide +kernel
theorem dX5_takeControl_18 : decode cX5_takeControl 18 = .ok (.if_icmp .ne 13, 3) := by decide +kernel
theorem dX5_takeControl_21 : decode cX5_takeControl 21 = .ok (.aload_n 0, 1) := by decide +kernel
theorem dX5_takeControl_22 : decode cX5_takeControl 22 = .ok (.iconst 0, 1) := by decide +kernel
theorem dX5_takeControl_23 : decode cX5_takeControl 23 = .ok (.putfield 49, 3) := by decide +kernel
theorem dX5_takeControl_26 : decode cX5_takeControl 26 = .ok (.aload_n 0, 1) := by decide +kernel
theorem dX5_takeControl_27 : decode cX5_takeControl 27 = .ok (.iconst 0, 1) := by decide +kernel
theorem dX5_takeControl_28 : decode cX5_takeControl 28 = .ok (.invokevirtual 129, 3) := by decide +kernel
theorem dX5_takeControl_31 : decode cX5_takeControl 31 = .ok (.return_, 1) := by decide +kernel
theorem dX5_takeAcknowledgement_0 : decode cX5_takeAcknowledgement 0 = .ok (.aload_n 0, 1) := by decide +kernel
theorem dX5_takeAcknowledgement_1 : decode cX5_takeAcknowledgement 1 = .ok (.getfield 21, 3) := by decide +kernel
theorem dX5_takeAcknowledgement_4 : decode cX5_takeAcknowledgement 4 = .ok (.iload_n 1, 1) := by decide +kernel
theorem dX5_takeAcknowledgement_5 : decode cX5_takeAcknowledgement 5 = .ok (.invokevirtual 150, 3) := by decide +kernel
theorem dX5_takeAcknowledgement_8 : decode cX5_takeAcknowledgement 8 = .ok (.ifCond .eq 13, 3) := by decide +kernel
theorem dX5_takeAcknowledgement_11 : decode cX5_takeAcknowledgement 11 = .ok (.aload_n 0, 1) := by decide +kernel
theorem dX5_takeAcknowledgement_12 : decode cX5_takeAcknowledgement 12 = .ok (.iconst 0, 1) := by decide +kernel
theorem dX5_takeAcknowledgement_13 : decode cX5_takeAcknowledgement 13 = .ok (.putfield 49, 3) := by decide +kernel
theorem dX5_takeAcknowledgement_16 : decode cX5_takeAcknowledgement 16 = .ok (.aload_n 0, 1) := by decide +kernel
theorem dX5_takeAcknowledgement_17 : decode cX5_takeAcknowledgement 17 = .ok (.iconst 0, 1) := by decide +kernel
theorem dX5_takeAcknowledgement_18 : decode cX5_takeAcknowledgement 18 = .ok (.putfield 52, 3) := by decide +kernel
theorem dX5_takeAcknowledgement_21 : decode cX5_takeAcknowledgement 21 = .ok (.return_, 1) := by decide +kernel
theorem dX5_takeData_0 : decode cX5_takeData 0 = .ok (.aload_n 0, 1) := by decide +kernel
theorem dX5_takeData_1 : decode cX5_takeData 1 = .ok (.aload_n 1, 1) := by decide +kernel
theorem dX5_takeData_2 : decode cX5_takeData 2 = .ok (.invokevirtual 114, 3) := by decide +kernel
theorem dX5_takeData_5 : decode cX5_takeData 5 = .ok (.invokevirtual 147, 3) := by decide +kernel
theorem dX5_takeData_8 : decode cX5_takeData 8 = .ok (.aload_n 0, 1) := by decide +kernel
theorem dX5_takeData_9 : decode cX5_takeData 9 = .ok (.aload_n 0, 1) := by decide +kernel
theorem dX5_takeData_10 : decode cX5_takeData 10 = .ok (.getfield 21, 3) := by decide +kernel
theorem dX5_takeData_13 : decode cX5_takeData 13 = .ok (.invokevirtual 126, 3) := by decide +kernel
theorem dX5_takeData_16 : decode cX5_takeData 16 = .ok (.invokevirtual 129, 3) := by decide +kernel
theorem dX5_takeData_19 : decode cX5_takeData 19 = .ok (.aload_n 1, 1) := by decide +kernel
theorem dX5_takeData_20 : decode cX5_takeData 20 = .ok (.invokevirtual 104, 3) := by decide +kernel
theorem dX5_takeData_23 : decode cX5_takeData 23 = .ok (.aload_n 0, 1) := by decide +kernel
theorem dX5_takeData_24 : decode cX5_takeData 24 = .ok (.getfield 42, 3) := by decide +kernel
theorem dX5_takeData_27 : decode cX5_takeData 27 = .ok (.iconst 1, 1) := by decide +kernel
theorem dX5_takeData_28 : decode cX5_takeData 28 = .ok (.iadd, 1) := by decide +kernel
theorem dX5_takeData_29 : decode cX5_takeData 29 = .ok (.bipush 7, 2) := by decide +kernel
theorem dX5_takeData_31 : decode cX5_takeData 31 = .ok (.iand, 1) := by decide +kernel
theorem dX5_takeData_32 : decode cX5_takeData 32 = .ok (.if_icmp .eq 19, 3) := by decide +kernel
theorem dX5_takeData_35 : decode cX5_takeData 35 = .ok (.aload_n 0, 1) := by decide +kernel
theorem dX5_takeData_36 : decode cX5_takeData 36 = .ok (.getfield 61, 3) := by decide +kernel
theorem dX5_takeData_39 : decode cX5_takeData 39 = .ok (.invokevirtual 78, 3) := by decide +kernel
theorem dX5_takeData_42 : decode cX5_takeData 42 = .ok (.iconst 4, 1) := by decide +kernel
theorem dX5_takeData_43 : decode cX5_takeData 43 = .ok (.aload_n 0, 1) := by decide +kernel
theorem dX5_takeData_44 : decode cX5_takeData 44 = .ok (.getfield 42, 3) := by decide +kernel
theorem dX5_takeData_47 : decode cX5_takeData 47 = .ok (.invokevirtual 86, 3) := by decide +kernel
theorem dX5_takeData_50 : decode cX5_takeData 50 = .ok (.return_, 1) := by decide +kernel
theorem dX5_takeData_51 : decode cX5_takeData 51 = .ok (.aload_n 0, 1) := by decide +kernel
theorem dX5_takeData_52 : decode cX5_takeData 52 = .ok (.aload_n 1, 1) := by decide +kernel
theorem dX5_takeData_53 : decode cX5_takeData 53 = .ok (.invokevirtual 104, 3) := by decide +kernel
theorem dX5_takeData_56 : decode cX5_takeData 56 = .ok (.putfield 42, 3) := by decide +kernel
theorem dX5_takeData_59 : decode cX5_takeData 59 = .ok (.aload_n 0, 1) := by decide +kernel
theorem dX5_takeData_60 : decode cX5_takeData 60 = .ok (.iconst 1, 1) := by decide +kernel
theorem dX5_takeData_61 : decode cX5_takeData 61 = .ok (.putfield 45, 3) := by decide +kernel
theorem dX5_takeData_64 : decode cX5_takeData 64 = .ok (.aload_n 0, 1) := by decide +kernel
theorem dX5_takeData_65 : decode cX5_takeData 65 = .ok (.getfield 61, 3) := by decide +kernel
theorem dX5_takeData_68 : decode cX5_takeData 68 = .ok (.invokevirtual 78, 3) := by decide +kernel
theorem dX5_takeData_71 : decode cX5_takeData 71 = .ok (.iconst 4, 1) := by decide +kernel
theorem dX5_takeData_72 : decode cX5_takeData 72 = .ok (.aload_n 0, 1) := by decide +kernel
theorem dX5_takeData_73 : decode cX5_takeData 73 = .ok (.getfield 42, 3) := by decide +kernel
theorem dX5_takeData_76 : decode cX5_takeData 76 = .ok (.invokevirtual 86, 3) := by decide +kernel
theorem dX5_takeData_79 : decode cX5_takeData 79 = .ok (.aload_n 0, 1) := by decide +kernel
theorem dX5_takeData_80 : decode cX5_takeData 80 = .ok (.getfield 32, 3) := by decide +kernel
theorem dX5_takeData_83 : decode cX5_takeData 83 = .ok (.iconst 2, 1) := by decide +kernel
theorem dX5_takeData_84 : decode cX5_takeData 84 = .ok (.if_icmp .ne 11, 3) := by decide +kernel
theorem dX5_takeData_87 : decode cX5_takeData 87 = .ok (.aload_n 0, 1) := by decide +kernel
theorem dX5_takeData_88 : decode cX5_takeData 88 = .ok (.aload_n 1, 1) := by decide +kernel
theorem dX5_takeData_89 : decode cX5_takeData 89 = .ok (.invokevirtual 154, 3) := by decide +kernel
theorem dX5_takeData_92 : decode cX5_takeData 92 = .ok (.goto 12, 3) := by decide +kernel
theorem dX5_takeData_95 : decode cX5_takeData 95 = .ok (.aload_n 0, 1) := by decide +kernel
theorem dX5_takeData_96 : decode cX5_takeData 96 = .ok (.aload_n 1, 1) := by decide +kernel
theorem dX5_takeData_97 : decode cX5_takeData 97 = .ok (.invokevirtual 157, 3) := by decide +kernel
theorem dX5_takeData_100 : decode cX5_takeData 100 = .ok (.aload_n 0, 1) := by decide +kernel
theorem dX5_takeData_101 : decode cX5_takeData 101 = .ok (.invokevirtual 160, 3) := by decide +kernel
theorem dX5_takeData_104 : decode cX5_takeData 104 = .ok (.return_, 1) := by decide +kernel
theorem dX5_doAsMaster_0 : decode cX5_doAsMaster 0 = .ok (.aload_n 1, 1) := by decide +kernel
theorem dX5_doAsMaster_1 : decode cX5_doAsMaster 1 = .ok (.invokevirtual 163, 3) := by decide +kernel
theorem dX5_doAsMaster_4 : decode cX5_doAsMaster 4 = .ok (.iconst 1, 1) := by decide +kernel
theorem dX5_doAsMaster_5 : decode cX5_doAsMaster 5 = .ok (.if_icmp .eq 4, 3) := by decide +kernel
theorem dX5_doAsMaster_8 : decode cX5_doAsMaster 8 = .ok (.return_, 1) := by decide +kernel
theorem dX5_doAsMaster_9 : decode cX5_doAsMaster 9 = .ok (.aload_n 1, 1) := by decide +kernel
theorem dX5_doAsMaster_10 : decode cX5_doAsMaster 10 = .ok (.iconst 0, 1) := by decide +kernel
theorem dX5_doAsMaster_11 : decode cX5_doAsMaster 11 = .ok (.invokevirtual 166, 3) := by decide +kernel
theorem dX5_doAsMaster_14 : decode cX5_doAsMaster 14 = .ok (.lookupswitch 102 #[(67, 50), (72, 74), (78, 50), (84, 94), (89, 67)], 50) := by decide +kernel
theorem dX5_doAsMaster_64 : decode cX5_doAsMaster 64 = .ok (.aload_n 0, 1) := by decide +kernel
theorem dX5_doAsMaster_65 : decode cX5_doAsMaster 65 = .ok (.getfield 12, 3) := by decide +kernel
theorem dX5_doAsMaster_68 : decode cX5_doAsMaster 68 = .ok (.invokevirtual 169, 3) := by decide +kernel
theorem dX5_doAsMaster_71 : decode cX5_doAsMaster 71 = .ok (.ifCond .eq 45, 3) := by decide +kernel
theorem dX5_doAsMaster_74 : decode cX5_doAsMaster 74 = .ok (.aload_n 0, 1) := by decide +kernel
theorem dX5_doAsMaster_75 : decode cX5_doAsMaster 75 = .ok (.invokevirtual 144, 3) := by decide +kernel
theorem dX5_doAsMaster_78 : decode cX5_doAsMaster 78 = .ok (.goto 38, 3) := by decide +kernel
theorem dX5_doAsMaster_81 : decode cX5_doAsMaster 81 = .ok (.aload_n 0, 1) := by decide +kernel
theorem dX5_doAsMaster_82 : decode cX5_doAsMaster 82 = .ok (.invokevirtual 172, 3) := by decide +kernel
theorem dX5_doAsMaster_85 : decode cX5_doAsMaster 85 = .ok (.goto 31, 3) := by decide +kernel
theorem dX5_doAsMaster_88 : decode cX5_doAsMaster 88 = .ok (.aload_n 0, 1) := by decide +kernel
theorem dX5_doAsMaster_89 : decode cX5_doAsMaster 89 = .ok (.getfield 61, 3) := by decide +kernel
theorem dX5_doAsMaster_92 : decode cX5_doAsMaster 92 = .ok (.invokevirtual 78, 3) := by decide +kernel
theorem dX5_doAsMaster_95 : decode cX5_doAsMaster 95 = .ok (.iconst 1, 1) := by decide +kernel
theorem dX5_doAsMaster_96 : decode cX5_doAsMaster 96 = .ok (.iconst 0, 1) := by decide +kernel
theorem dX5_doAsMaster_97 : decode cX5_doAsMaster 97 = .ok (.invokevirtual 86, 3) := by decide +kernel
theorem dX5_doAsMaster_100 : decode cX5_doAsMaster 100 = .ok (.aload_n 0, 1) := by decide +kernel
theorem dX5_doAsMaster_101 : decode cX5_doAsMaster 101 = .ok (.iconst 0, 1) := by decide +kernel
theorem dX5_doAsMaster_102 : decode cX5_doAsMaster 102 = .ok (.invokevirtual 71, 3) := by decide +kernel
theorem dX5_doAsMaster_105 : decode cX5_doAsMaster 105 = .ok (.goto 11, 3) := by decide +kernel
theorem dX5_doAsMaster_108 : decode cX5_doAsMaster 108 = .ok (.aload_n 0, 1) := by decide +kernel
theorem dX5_doAsMaster_109 : decode cX5_doAsMaster 109 = .ok (.iconst 3, 1) := by decide +kernel
theorem dX5_doAsMaster_110 : decode cX5_doAsMaster 110 = .ok (.putfield 32, 3) := by decide +kernel
theorem dX5_doAsMaster_113 : decode cX5_doAsMaster 113 = .ok (.goto 3, 3) := by decide +kernel
theorem dX5_doAsMaster_116 : decode cX5_doAsMaster 116 = .ok (.return_, 1) := by decide +kernel
theorem dX5_doAsSlave_0 : decode cX5_doAsSlave 0 = .ok (.aload_n 1, 1) := by decide +kernel
theorem dX5_doAsSlave_1 : decode cX5_doAsSlave 1 = .ok (.invokevirtual 163, 3) := by decide +kernel
theorem dX5_doAsSlave_4 : decode cX5_doAsSlave 4 = .ok (.istore_n 2, 1) := by decide +kernel
theorem dX5_doAsSlave_5 : decode cX5_doAsSlave 5 = .ok (.aload_n 1, 1) := by decide +kernel
theorem dX5_doAsSlave_6 : decode cX5_doAsSlave 6 = .ok (.iconst 0, 1) := by decide +kernel
theorem dX5_doAsSlave_7 : decode cX5_doAsSlave 7 = .ok (.invokevirtual 166, 3) := by decide +kernel
theorem dX5_doAsSlave_10 : decode cX5_doAsSlave 10 = .ok (.istore_n 3, 1) := by decide +kernel
theorem dX5_doAsSlave_11 : decode cX5_doAsSlave 11 = .ok (.iload_n 3, 1) := by decide +kernel
theorem dX5_doAsSlave_12 : decode cX5_doAsSlave 12 = .ok (.bipush 83, 2) := by decide +kernel
theorem dX5_doAsSlave_14 : decode cX5_doAsSlave 14 = .ok (.if_icmp .ne 25, 3) := by decide +kernel
theorem dX5_doAsSlave_17 : decode cX5_doAsSlave 17 = .ok (.iload_n 2, 1) := by decide +kernel
theorem dX5_doAsSlave_18 : decode cX5_doAsSlave 18 = .ok (.iconst 3, 1) := by decide +kernel
theorem dX5_doAsSlave_19 : decode cX5_doAsSlave 19 = .ok (.if_icmp .ne 20, 3) := by decide +kernel
theorem dX5_doAsSlave_22 : decode cX5_doAsSlave 22 = .ok (.aload_n 0, 1) := by decide +kernel
theorem dX5_doAsSlave_23 : decode cX5_doAsSlave 23 = .ok (.aload_n 1, 1) := by decide +kernel
theorem dX5_doAsSlave_24 : decode cX5_doAsSlave 24 = .ok (.iconst 1, 1) := by decide +kernel
theorem dX5_doAsSlave_25 : decode cX5_doAsSlave 25 = .ok (.invokevirtual 166, 3) := by decide +kernel
theorem dX5_doAsSlave_28 : decode cX5_doAsSlave 28 = .ok (.aload_n 1, 1) := by decide +kernel
theorem dX5_doAsSlave_29 : decode cX5_doAsSlave 29 = .ok (.iconst 2, 1) := by decide +kernel
theorem dX5_doAsSlave_30 : decode cX5_doAsSlave 30 = .ok (.invokevirtual 166, 3) := by decide +kernel
theorem dX5_doAsSlave_33 : decode cX5_doAsSlave 33 = .ok (.invokevirtual 175, 3) := by decide +kernel
theorem dX5_doAsSlave_36 : decode cX5_doAsSlave 36 = .ok (.goto 83, 3) := by decide +kernel
theorem dX5_doAsSlave_39 : decode cX5_doAsSlave 39 = .ok (.iload_n 3, 1) := by decide +kernel
theorem dX5_doAsSlave_40 : decode cX5_doAsSlave 40 = .ok (.bipush 68, 2) := by decide +kernel
theorem dX5_doAsSlave_42 : decode cX5_doAsSlave 42 = .ok (.if_icmp .ne 24, 3) := by decide +kernel
theorem dX5_doAsSlave_45 : decode cX5_doAsSlave 45 = .ok (.aload_n 0, 1) := by decide +kernel
theorem dX5_doAsSlave_46 : decode cX5_doAsSlave 46 = .ok (.getfield 28, 3) := by decide +kernel
theorem dX5_doAsSlave_49 : decode cX5_doAsSlave 49 = .ok (.getfield 178, 3) := by decide +kernel
theorem dX5_doAsSlave_52 : decode cX5_doAsSlave 52 = .ok (.ifCond .eq 67, 3) := by decide +kernel
theorem dX5_doAsSlave_55 : decode cX5_doAsSlave 55 = .ok (.aload_n 0, 1) := by decide +kernel
theorem dX5_doAsSlave_56 : decode cX5_doAsSlave 56 = .ok (.getfield 28, 3) := by decide +kernel
theorem dX5_doAsSlave_59 : decode cX5_doAsSlave 59 = .ok (.aload_n 1, 1) := by decide +kernel
theorem dX5_doAsSlave_60 : decode cX5_doAsSlave 60 = .ok (.invokevirtual 181, 3) := by decide +kernel
theorem dX5_doAsSlave_63 : decode cX5_doAsSlave 63 = .ok (.goto 56, 3) := by decide +kernel
theorem dX5_doAsSlave_66 : decode cX5_doAsSlave 66 = .ok (.iload_n 3, 1) := by decide +kernel
theorem dX5_doAsSlave_67 : decode cX5_doAsSlave 67 = .ok (.bipush 72, 2) := by decide +kernel
theorem dX5_doAsSlave_69 : decode cX5_doAsSlave 69 = .ok (.if_icmp .ne 50, 3) := by decide +kernel
theorem dX5_doAsSlave_72 : decode cX5_doAsSlave 72 = .ok (.iload_n 2, 1) := by decide +kernel
theorem dX5_doAsSlave_73 : decode cX5_doAsSlave 73 = .ok (.iconst 1, 1) := by decide +kernel
theorem dX5_doAsSlave_74 : decode cX5_doAsSlave 74 = .ok (.if_icmp .ne 45, 3) := by decide +kernel
theorem dX5_doAsSlave_77 : decode cX5_doAsSlave 77 = .ok (.aload_n 0, 1) := by decide +kernel
theorem dX5_doAsSlave_78 : decode cX5_doAsSlave 78 = .ok (.getfield 12, 3) := by decide +kernel
theorem dX5_doAsSlave_81 : decode cX5_doAsSlave 81 = .ok (.invokevirtual 184, 3) := by decide +kernel
theorem dX5_doAsSlave_84 : decode cX5_doAsSlave 84 = .ok (.ifCond .ne 16, 3) := by decide +kernel
theorem dX5_doAsSlave_87 : decode cX5_doAsSlave 87 = .ok (.aload_n 0, 1) := by decide +kernel
theorem dX5_doAsSlave_88 : decode cX5_doAsSlave 88 = .ok (.getfield 21, 3) := by decide +kernel
theorem dX5_doAsSlave_91 : decode cX5_doAsSlave 91 = .ok (.bipush 72, 2) := by decide +kernel
theorem dX5_doAsSlave_93 : decode cX5_doAsSlave 93 = .ok (.invokevirtual 187, 3) := by decide +kernel
theorem dX5_doAsSlave_96 : decode cX5_doAsSlave 96 = .ok (.pop, 1) := by decide +kernel
theorem dX5_doAsSlave_97 : decode cX5_doAsSlave 97 = .ok (.goto 22, 3) := by decide +kernel
theorem dX5_doAsSlave_100 : decode cX5_doAsSlave 100 = .ok (.aload_n 0, 1) := by decide +kernel
theorem dX5_doAsSlave_101 : decode cX5_doAsSlave 101 = .ok (.getfield 21, 3) := by decide +kernel
theorem dX5_doAsSlave_104 : decode cX5_doAsSlave 104 = .ok (.bipush 84, 2) := by decide +kernel
theorem dX5_doAsSlave_106 : decode cX5_doAsSlave 106 = .ok (.invokevirtual 187, 3) := by decide +kernel
theorem dX5_doAsSlave_109 : decode cX5_doAsSlave 109 = .ok (.pop, 1) := by decide +kernel
theorem dX5_doAsSlave_110 : decode cX5_doAsSlave 110 = .ok (.aload_n 0, 1) := by decide +kernel
theorem dX5_doAsSlave_111 : decode cX5_doAsSlave 111 = .ok (.iconst 2, 1) := by decide +kernel
theorem dX5_doAsSlave_112 : decode cX5_doAsSlave 112 = .ok (.putfield 32, 3) := by decide +kernel
theorem dX5_doAsSlave_115 : decode cX5_doAsSlave 115 = .ok (.aload_n 0, 1) := by decide +kernel
theorem dX5_doAsSlave_116 : decode cX5_doAsSlave 116 = .ok (.invokevirtual 144, 3) := by decide +kernel
theorem dX5_doAsSlave_119 : decode cX5_doAsSlave 119 = .ok (.return_, 1) := by decide +kernel
theorem dX5_takeOffer_0 : decode cX5_takeOffer 0 = .ok (.iload_n 2, 1) := by decide +kernel
theorem dX5_takeOffer_1 : decode cX5_takeOffer 1 = .ok (.bipush 100, 2) := by decide +kernel
theorem dX5_takeOffer_3 : decode cX5_takeOffer 3 = .ok (.if_icmp .le 4, 3) := by decide +kernel
theorem dX5_takeOffer_6 : decode cX5_takeOffer 6 = .ok (.return_, 1) := by decide +kernel
theorem dX5_takeOffer_7 : decode cX5_takeOffer 7 = .ok (.aload_n 0, 1) := by decide +kernel
theorem dX5_takeOffer_8 : decode cX5_takeOffer 8 = .ok (.getfield 12, 3) := by decide +kernel
theorem dX5_takeOffer_11 : decode cX5_takeOffer 11 = .ok (.iload_n 1, 1) := by decide +kernel
theorem dX5_takeOffer_12 : decode cX5_takeOffer 12 = .ok (.invokevirtual 189, 3) := by decide +kernel
theorem dX5_takeOffer_15 : decode cX5_takeOffer 15 = .ok (.ifCond .eq 16, 3) := by decide +kernel
theorem dX5_takeOffer_18 : decode cX5_takeOffer 18 = .ok (.aload_n 0, 1) := by decide +kernel
theorem dX5_takeOffer_19 : decode cX5_takeOffer 19 = .ok (.getfield 21, 3) := by decide +kernel
theorem dX5_takeOffer_22 : decode cX5_takeOffer 22 = .ok (.bipush 78, 2) := by decide +kernel
theorem dX5_takeOffer_24 : decode cX5_takeOffer 24 = .ok (.invokevirtual 187, 3) := by decide +kernel
theorem dX5_takeOffer_27 : decode cX5_takeOffer 27 = .ok (.pop, 1) := by decide +kernel
theorem dX5_takeOffer_28 : decode cX5_takeOffer 28 = .ok (.goto 22, 3) := by decide +kernel
theorem dX5_takeOffer_31 : decode cX5_takeOffer 31 = .ok (.aload_n 0, 1) := by decide +kernel
theorem dX5_takeOffer_32 : decode cX5_takeOffer 32 = .ok (.getfield 21, 3) := by decide +kernel
theorem dX5_takeOffer_35 : decode cX5_takeOffer 35 = .ok (.bipush 89, 2) := by decide +kernel
theorem dX5_takeOffer_37 : decode cX5_takeOffer 37 = .ok (.invokevirtual 187, 3) := by decide +kernel
theorem dX5_takeOffer_40 : decode cX5_takeOffer 40 = .ok (.pop, 1) := by decide +kernel
theorem dX5_takeOffer_41 : decode cX5_takeOffer 41 = .ok (.aload_n 0, 1) := by decide +kernel
theorem dX5_takeOffer_42 : decode cX5_takeOffer 42 = .ok (.getfield 28, 3) := by decide +kernel
theorem dX5_takeOffer_45 : decode cX5_takeOffer 45 = .ok (.iload_n 1, 1) := by decide +kernel
theorem dX5_takeOffer_46 : decode cX5_takeOffer 46 = .ok (.iload_n 2, 1) := by decide +kernel
theorem dX5_takeOffer_47 : decode cX5_takeOffer 47 = .ok (.invokevirtual 192, 3) := by decide +kernel
theorem dX5_takeOffer_50 : decode cX5_takeOffer 50 = .ok (.return_, 1) := by decide +kernel
theorem dX5_executeWhatIsWhole_0 : decode cX5_executeWhatIsWhole 0 = .ok (.aload_n 0, 1) := by decide +kernel
theorem dX5_executeWhatIsWhole_1 : decode cX5_executeWhatIsWhole 1 = .ok (.getfield 28, 3) := by decide +kernel
theorem dX5_executeWhatIsWhole_4 : decode cX5_executeWhatIsWhole 4 = .ok (.invokevirtual 194, 3) := by decide +kernel
theorem dX5_executeWhatIsWhole_7 : decode cX5_executeWhatIsWhole 7 = .ok (.ifCond .eq 34, 3) := by decide +kernel
theorem dX5_executeWhatIsWhole_10 : decode cX5_executeWhatIsWhole 10 = .ok (.aload_n 0, 1) := by decide +kernel
theorem dX5_executeWhatIsWhole_11 : decode cX5_executeWhatIsWhole 11 = .ok (.getfield 12, 3) := by decide +kernel
theorem dX5_executeWhatIsWhole_14 : decode cX5_executeWhatIsWhole 14 = .ok (.aload_n 0, 1) := by decide +kernel
theorem dX5_executeWhatIsWhole_15 : decode cX5_executeWhatIsWhole 15 = .ok (.getfield 28, 3) := by decide +kernel
theorem dX5_executeWhatIsWhole_18 : decode cX5_executeWhatIsWhole 18 = .ok (.invokevirtual 197, 3) := by decide +kernel
theorem dX5_executeWhatIsWhole_21 : decode cX5_executeWhatIsWhole 21 = .ok (.invokevirtual 201, 3) := by decide +kernel
theorem dX5_executeWhatIsWhole_24 : decode cX5_executeWhatIsWhole 24 = .ok (.aload_n 0, 1) := by decide +kernel
theorem dX5_executeWhatIsWhole_25 : decode cX5_executeWhatIsWhole 25 = .ok (.getfield 28, 3) := by decide +kernel
theorem dX5_executeWhatIsWhole_28 : decode cX5_executeWhatIsWhole 28 = .ok (.invokevirtual 68, 3) := by decide +kernel
theorem dX5_executeWhatIsWhole_31 : decode cX5_executeWhatIsWhole 31 = .ok (.aload_n 0, 1) := by decide +kernel
theorem dX5_executeWhatIsWhole_32 : decode cX5_executeWhatIsWhole 32 = .ok (.getfield 21, 3) := by decide +kernel
theorem dX5_executeWhatIsWhole_35 : decode cX5_executeWhatIsWhole 35 = .ok (.bipush 67, 2) := by decide +kernel
theorem dX5_executeWhatIsWhole_37 : decode cX5_executeWhatIsWhole 37 = .ok (.invokevirtual 187, 3) := by decide +kernel
theorem dX5_executeWhatIsWhole_40 : decode cX5_executeWhatIsWhole 40 = .ok (.pop, 1) := by decide +kernel
theorem dX5_executeWhatIsWhole_41 : decode cX5_executeWhatIsWhole 41 = .ok (.return_, 1) := by decide +kernel
theorem dX5_goOn_0 : decode cX5_goOn 0 = .ok (.aload_n 0, 1) := by decide +kernel
theorem dX5_goOn_1 : decode cX5_goOn 1 = .ok (.getfield 12, 3) := by decide +kernel
theorem dX5_goOn_4 : decode cX5_goOn 4 = .ok (.invokevirtual 205, 3) := by decide +kernel
theorem dX5_goOn_7 : decode cX5_goOn 7 = .ok (.astore_n 1, 1) := by decide +kernel
theorem dX5_goOn_8 : decode cX5_goOn 8 = .ok (.aload_n 1, 1) := by decide +kernel
theorem dX5_goOn_9 : decode cX5_goOn 9 = .ok (.ifnonnull 14, 3) := by decide +kernel
theorem dX5_goOn_12 : decode cX5_goOn 12 = .ok (.aload_n 0, 1) := by decide +kernel
theorem dX5_goOn_13 : decode cX5_goOn 13 = .ok (.getfield 21, 3) := by decide +kernel
theorem dX5_goOn_16 : decode cX5_goOn 16 = .ok (.bipush 72, 2) := by decide +kernel
theorem dX5_goOn_18 : decode cX5_goOn 18 = .ok (.invokevirtual 187, 3) := by decide +kernel
theorem dX5_goOn_21 : decode cX5_goOn 21 = .ok (.pop, 1) := by decide +kernel
theorem dX5_goOn_22 : decode cX5_goOn 22 = .ok (.return_, 1) := by decide +kernel
theorem dX5_goOn_23 : decode cX5_goOn 23 = .ok (.aload_n 0, 1) := by decide +kernel
theorem dX5_goOn_24 : decode cX5_goOn 24 = .ok (.getfield 21, 3) := by decide +kernel
theorem dX5_goOn_27 : decode cX5_goOn 27 = .ok (.bipush 83, 2) := by decide +kernel
theorem dX5_goOn_29 : decode cX5_goOn 29 = .ok (.invokevirtual 187, 3) := by decide +kernel
theorem dX5_goOn_32 : decode cX5_goOn 32 = .ok (.astore_n 2, 1) := by decide +kernel
theorem dX5_goOn_33 : decode cX5_goOn 33 = .ok (.aload_n 2, 1) := by decide +kernel
theorem dX5_goOn_34 : decode cX5_goOn 34 = .ok (.aload_n 1, 1) := by decide +kernel
theorem dX5_goOn_35 : decode cX5_goOn 35 = .ok (.getfield 208, 3) := by decide +kernel
theorem dX5_goOn_38 : decode cX5_goOn 38 = .ok (.invokevirtual 212, 3) := by decide +kernel
theorem dX5_goOn_41 : decode cX5_goOn 41 = .ok (.aload_n 2, 1) := by decide +kernel
theorem dX5_goOn_42 : decode cX5_goOn 42 = .ok (.aload_n 1, 1) := by decide +kernel
theorem dX5_goOn_43 : decode cX5_goOn 43 = .ok (.getfield 217, 3) := by decide +kernel
theorem dX5_goOn_46 : decode cX5_goOn 46 = .ok (.arraylength, 1) := by decide +kernel
theorem dX5_goOn_47 : decode cX5_goOn 47 = .ok (.invokevirtual 212, 3) := by decide +kernel
theorem dX5_goOn_50 : decode cX5_goOn 50 = .ok (.return_, 1) := by decide +kernel
theorem dX5_addFile_0 : decode cX5_addFile 0 = .ok (.aload_n 0, 1) := by decide +kernel
theorem dX5_addFile_1 : decode cX5_addFile 1 = .ok (.getfield 12, 3) := by decide +kernel
theorem dX5_addFile_4 : decode cX5_addFile 4 = .ok (.invokevirtual 205, 3) := by decide +kernel
theorem dX5_addFile_7 : decode cX5_addFile 7 = .ok (.astore_n 1, 1) := by decide +kernel
theorem dX5_addFile_8 : decode cX5_addFile 8 = .ok (.aload_n 1, 1) := by decide +kernel
theorem dX5_addFile_9 : decode cX5_addFile 9 = .ok (.ifnonnull 4, 3) := by decide +kernel
theorem dX5_addFile_12 : decode cX5_addFile 12 = .ok (.return_, 1) := by decide +kernel
theorem dX5_addFile_13 : decode cX5_addFile 13 = .ok (.iconst 0, 1) := by decide +kernel
theorem dX5_addFile_14 : decode cX5_addFile 14 = .ok (.istore_n 2, 1) := by decide +kernel
theorem dX5_addFile_15 : decode cX5_addFile 15 = .ok (.iload_n 2, 1) := by decide +kernel
theorem dX5_addFile_16 : decode cX5_addFile 16 = .ok (.aload_n 1, 1) := by decide +kernel
theorem dX5_addFile_17 : decode cX5_addFile 17 = .ok (.getfield 217, 3) := by decide +kernel
theorem dX5_addFile_20 : decode cX5_addFile 20 = .ok (.arraylength, 1) := by decide +kernel
theorem dX5_addFile_21 : decode cX5_addFile 21 = .ok (.if_icmp .ge 60, 3) := by decide +kernel
theorem dX5_addFile_24 : decode cX5_addFile 24 = .ok (.aload_n 0, 1) := by decide +kernel
theorem dX5_addFile_25 : decode cX5_addFile 25 = .ok (.getfield 21, 3) := by decide +kernel
theorem dX5_addFile_28 : decode cX5_addFile 28 = .ok (.bipush 68, 2) := by decide +kernel
theorem dX5_addFile_30 : decode cX5_addFile 30 = .ok (.invokevirtual 187, 3) := by decide +kernel
theorem dX5_addFile_33 : decode cX5_addFile 33 = .ok (.astore_n 3, 1) := by decide +kernel
theorem dX5_addFile_34 : decode cX5_addFile 34 = .ok (.iload_n 2, 1) := by decide +kernel
theorem dX5_addFile_35 : decode cX5_addFile 35 = .ok (.bipush 30, 2) := by decide +kernel
theorem dX5_addFile_37 : decode cX5_addFile 37 = .ok (.iadd, 1) := by decide +kernel
theorem dX5_addFile_38 : decode cX5_addFile 38 = .ok (.aload_n 1, 1) := by decide +kernel
theorem dX5_addFile_39 : decode cX5_addFile 39 = .ok (.getfield 217, 3) := by decide +kernel
theorem dX5_addFile_42 : decode cX5_addFile 42 = .ok (.arraylength, 1) := by decide +kernel
theorem dX5_addFile_43 : decode cX5_addFile 43 = .ok (.invokestatic 221, 3) := by decide +kernel
theorem dX5_addFile_46 : decode cX5_addFile 46 = .ok (.istore 4, 2) := by decide +kernel
theorem dX5_addFile_48 : decode cX5_addFile 48 = .ok (.iload_n 2, 1) := by decide +kernel
theorem dX5_addFile_49 : decode cX5_addFile 49 = .ok (.istore 5, 2) := by decide +kernel
theorem dX5_addFile_51 : decode cX5_addFile 51 = .ok (.iload 5, 2) := by decide +kernel
theorem dX5_addFile_53 : decode cX5_addFile 53 = .ok (.iload 4, 2) := by decide +kernel
theorem dX5_addFile_55 : decode cX5_addFile 55 = .ok (.if_icmp .ge 20, 3) := by decide +kernel
theorem dX5_addFile_58 : decode cX5_addFile 58 = .ok (.aload_n 3, 1) := by decide +kernel
theorem dX5_addFile_59 : decode cX5_addFile 59 = .ok (.aload_n 1, 1) := by decide +kernel
theorem dX5_addFile_60 : decode cX5_addFile 60 = .ok (.getfield 217, 3) := by decide +kernel
theorem dX5_addFile_63 : decode cX5_addFile 63 = .ok (.iload 5, 2) := by decide +kernel
theorem dX5_addFile_65 : decode cX5_addFile 65 = .ok (.iaload, 1) := by decide +kernel
theorem dX5_addFile_66 : decode cX5_addFile 66 = .ok (.invokevirtual 212, 3) := by decide +kernel
theorem dX5_addFile_69 : decode cX5_addFile 69 = .ok (.iinc 5 1, 3) := by decide +kernel
theorem dX5_addFile_72 : decode cX5_addFile 72 = .ok (.goto (-21), 3) := by decide +kernel
theorem dX5_addFile_75 : decode cX5_addFile 75 = .ok (.iinc 2 30, 3) := by decide +kernel
theorem dX5_addFile_78 : decode cX5_addFile 78 = .ok (.goto (-63), 3) := by decide +kernel
theorem dX5_addFile_81 : decode cX5_addFile 81 = .ok (.return_, 1) := by decide +kernel
end
section
theorem dX6_init_0 : decode cX6_init 0 = .ok (.aload_n 0, 1) := by decide +kernel
theorem dX6_init_1 : decode cX6_init 1 = .ok (.invokespecial 3, 3) := by decide +kernel
theorem dX6_init_4 : decode cX6_init 4 = .ok (.aload_n 0, 1) := by decide +kernel
theorem dX6_init_5 : decode cX6_init 5 = .ok (.iconst 0, 1) := by decide +kernel
theorem dX6_init_6 : decode cX6_init 6 = .ok (.putfield 9, 3) := by decide +kernel
theorem dX6_init_9 : decode cX6_init 9 = .ok (.aload_n 0, 1) := by decide +kernel
theorem dX6_init_10 : decode cX6_init 10 = .ok (.iconst 1, 1) := by decide +kernel
theorem dX6_init_11 : decode cX6_init 11 = .ok (.putfield 13, 3) := by decide +kernel
theorem dX6_init_14 : decode cX6_init 14 = .ok (.aload_n 0, 1) := by decide +kernel
theorem dX6_init_15 : decode cX6_init 15 = .ok (.iconst 0, 1) := by decide +kernel
theorem dX6_init_16 : decode cX6_init 16 = .ok (.putfield 16, 3) := by decide +kernel
theorem dX6_init_19 : decode cX6_init 19 = .ok (.aload_n 0, 1) := by decide +kernel
theorem dX6_init_20 : decode cX6_init 20 = .ok (.iconst 0, 1) := by decide +kernel
theorem dX6_init_21 : decode cX6_init 21 = .ok (.putfield 19, 3) := by decide +kernel
theorem dX6_init_24 : decode cX6_init 24 = .ok (.aload_n 0, 1) := by decide +kernel
theorem dX6_init_25 : decode cX6_init 25 = .ok (.bipush 20, 2) := by decide +kernel
theorem dX6_init_27 : decode cX6_init 27 = .ok (.anewarray 22, 3) := by decide +kernel
theorem dX6_init_30 : decode cX6_init 30 = .ok (.putfield 24, 3) := by decide +kernel
theorem dX6_init_33 : decode cX6_init 33 = .ok (.iconst 0, 1) := by decide +kernel
theorem dX6_init_34 : decode cX6_init 34 = .ok (.istore_n 1, 1) := by decide +kernel
theorem dX6_init_35 : decode cX6_init 35 = .ok (.iload_n 1, 1) := by decide +kernel
theorem dX6_init_36 : decode cX6_init 36 = .ok (.bipush 20, 2) := by decide +kernel
theorem dX6_init_38 : decode cX6_init 38 = .ok (.if_icmp .ge 22, 3) := by decide +kernel
theorem dX6_init_41 : decode cX6_init 41 = .ok (.aload_n 0, 1) := by decide +kernel
theorem dX6_init_42 : decode cX6_init 42 = .ok (.getfield 24, 3) := by decide +kernel
theorem dX6_init_45 : decode cX6_init 45 = .ok (.iload_n 1, 1) := by decide +kernel
theorem dX6_init_46 : decode cX6_init 46 = .ok (.new 22, 3) := by decide +kernel
theorem dX6_init_49 : decode cX6_init 49 = .ok (.dup, 1) := by decide +kernel
theorem dX6_init_50 : decode cX6_init 50 = .ok (.invokespecial 28, 3) := by decide +kernel
theorem dX6_init_53 : decode cX6_init 53 = .ok (.aastore, 1) := by decide +kernel
theorem dX6_init_54 : decode cX6_init 54 = .ok (.iinc 1 1, 3) := by decide +kernel
theorem dX6_init_57 : decode cX6_init 57 = .ok (.goto (-22), 3) := by decide +kernel
theorem dX6_init_60 : decode cX6_init 60 = .ok (.return_, 1) := by decide +kernel
theorem dX6_clear_0 : decode cX6_clear 0 = .ok (.aload_n 0, 1) := by decide +kernel
theorem dX6_clear_1 : decode cX6_clear 1 = .ok (.iconst 1, 1) := by decide +kernel
theorem dX6_clear_2 : decode cX6_clear 2 = .ok (.putfield 13, 3) := by decide +kernel
theorem dX6_clear_5 : decode cX6_clear 5 = .ok (.aload_n 0, 1) := by decide +kernel
theorem dX6_clear_6 : decode cX6_clear 6 = .ok (.iconst 0, 1) := by decide +kernel
theorem dX6_clear_7 : decode cX6_clear 7 = .ok (.putfield 16, 3) := by decide +kernel
theorem dX6_clear_10 : decode cX6_clear 10 = .ok (.aload_n 0, 1) := by decide +kernel
theorem dX6_clear_11 : decode cX6_clear 11 = .ok (.iconst 0, 1) := by decide +kernel
theorem dX6_clear_12 : decode cX6_clear 12 = .ok (.putfield 19, 3) := by decide +kernel
theorem dX6_clear_15 : decode cX6_clear 15 = .ok (.return_, 1) := by decide +kernel
theorem dX6_add_0 : decode cX6_add 0 = .ok (.aload_n 0, 1) := by decide +kernel
theorem dX6_add_1 : decode cX6_add 1 = .ok (.getfield 24, 3) := by decide +kernel
theorem dX6_add_4 : decode cX6_add 4 = .ok (.aload_n 0, 1) := by decide +kernel
theorem dX6_add_5 : decode cX6_add 5 = .ok (.getfield 9, 3) := by decide +kernel
theorem dX6_add_8 : decode cX6_add 8 = .ok (.aload_n 0, 1) := by decide +kernel
theorem dX6_add_9 : decode cX6_add 9 = .ok (.getfield 16, 3) := by decide +kernel
theorem dX6_add_12 : decode cX6_add 12 = .ok (.iadd, 1) := by decide +kernel
theorem dX6_add_13 : decode cX6_add 13 = .ok (.aload_n 0, 1) := by decide +kernel
theorem dX6_add_14 : decode cX6_add 14 = .ok (.getfield 19, 3) := by decide +kernel
theorem dX6_add_17 : decode cX6_add 17 = .ok (.iadd, 1) := by decide +kernel
theorem dX6_add_18 : decode cX6_add 18 = .ok (.bipush 20, 2) := by decide +kernel
theorem dX6_add_20 : decode cX6_add 20 = .ok (.irem, 1) := by decide +kernel
theorem dX6_add_21 : decode cX6_add 21 = .ok (.aaload, 1) := by decide +kernel
theorem dX6_add_22 : decode cX6_add 22 = .ok (.astore_n 2, 1) := by decide +kernel
theorem dX6_add_23 : decode cX6_add 23 = .ok (.aload_n 2, 1) := by decide +kernel
theorem dX6_add_24 : decode cX6_add 24 = .ok (.getfield 29, 3) := by decide +kernel
theorem dX6_add_27 : decode cX6_add 27 = .ok (.iconst 0, 1) := by decide +kernel
theorem dX6_add_28 : decode cX6_add 28 = .ok (.iload_n 1, 1) := by decide +kernel
theorem dX6_add_29 : decode cX6_add 29 = .ok (.iastore, 1) := by decide +kernel
theorem dX6_add_30 : decode cX6_add 30 = .ok (.aload_n 2, 1) := by decide +kernel
theorem dX6_add_31 : decode cX6_add 31 = .ok (.iconst 1, 1) := by decide +kernel
theorem dX6_add_32 : decode cX6_add 32 = .ok (.putfield 33, 3) := by decide +kernel
theorem dX6_add_35 : decode cX6_add 35 = .ok (.aload_n 0, 1) := by decide +kernel
theorem dX6_add_36 : decode cX6_add 36 = .ok (.getfield 16, 3) := by decide +kernel
theorem dX6_add_39 : decode cX6_add 39 = .ok (.aload_n 0, 1) := by decide +kernel
theorem dX6_add_40 : decode cX6_add 40 = .ok (.getfield 19, 3) := by decide +kernel
theorem dX6_add_43 : decode cX6_add 43 = .ok (.iadd, 1) := by decide +kernel
theorem dX6_add_44 : decode cX6_add 44 = .ok (.bipush 19, 2) := by decide +kernel
theorem dX6_add_46 : decode cX6_add 46 = .ok (.if_icmp .ge 13, 3) := by decide +kernel
theorem dX6_add_49 : decode cX6_add 49 = .ok (.aload_n 0, 1) := by decide +kernel
theorem dX6_add_50 : decode cX6_add 50 = .ok (.dup, 1) := by decide +kernel
theorem dX6_add_51 : decode cX6_add 51 = .ok (.getfield 19, 3) := by decide +kernel
theorem dX6_add_54 : decode cX6_add 54 = .ok (.iconst 1, 1) := by decide +kernel
theorem dX6_add_55 : decode cX6_add 55 = .ok (.iadd, 1) := by decide +kernel
theorem dX6_add_56 : decode cX6_add 56 = .ok (.putfield 19, 3) := by decide +kernel
theorem dX6_add_59 : decode cX6_add 59 = .ok (.aload_n 2, 1) := by decide +kernel
theorem dX6_add_60 : decode cX6_add 60 = .ok (.areturn, 1) := by decide +kernel
theorem dX6_letOut_0 : decode cX6_letOut 0 = .ok (.aload_n 0, 1) := by decide +kernel
theorem dX6_letOut_1 : decode cX6_letOut 1 = .ok (.getfield 16, 3) := by decide +kernel
theorem dX6_letOut_4 : decode cX6_letOut 4 = .ok (.istore_n 1, 1) := by decide +kernel
theorem dX6_letOut_5 : decode cX6_letOut 5 = .ok (.aload_n 0, 1) := by decide +kernel
theorem dX6_letOut_6 : decode cX6_letOut 6 = .ok (.getfield 19, 3) := by decide +kernel
theorem dX6_letOut_9 : decode cX6_letOut 9 = .ok (.iconst 3, 1) := by decide +kernel
theorem dX6_letOut_10 : decode cX6_letOut 10 = .ok (.aload_n 0, 1) := by decide +kernel
theorem dX6_letOut_11 : decode cX6_letOut 11 = .ok (.getfield 16, 3) := by decide +kernel
theorem dX6_letOut_14 : decode cX6_letOut 14 = .ok (.isub, 1) := by decide +kernel
theorem dX6_letOut_15 : decode cX6_letOut 15 = .ok (.invokestatic 36, 3) := by decide +kernel
theorem dX6_letOut_18 : decode cX6_letOut 18 = .ok (.istore_n 2, 1) := by decide +kernel
theorem dX6_letOut_19 : decode cX6_letOut 19 = .ok (.aload_n 0, 1) := by decide +kernel
theorem dX6_letOut_20 : decode cX6_letOut 20 = .ok (.dup, 1) := by decide +kernel
theorem dX6_letOut_21 : decode cX6_letOut 21 = .ok (.getfield 16, 3) := by decide +kernel
theorem dX6_letOut_24 : decode cX6_letOut 24 = .ok (.iload_n 2, 1) := by decide +kernel
theorem dX6_letOut_25 : decode cX6_letOut 25 = .ok (.iadd, 1) := by decide +kernel
theorem dX6_letOut_26 : decode cX6_letOut 26 = .ok (.putfield 16, 3) := by decide +kernel
theorem dX6_letOut_29 : decode cX6_letOut 29 = .ok (.aload_n 0, 1) := by decide +kernel
theorem dX6_letOut_30 : decode cX6_letOut 30 = .ok (.dup, 1) := by decide +kernel
theorem dX6_letOut_31 : decode cX6_letOut 31 = .ok (.getfield 19, 3) := by decide +kernel
theorem dX6_letOut_34 : decode cX6_letOut 34 = .ok (.iload_n 2, 1) := by decide +kernel
theorem dX6_letOut_35 : decode cX6_letOut 35 = .ok (.isub, 1) := by decide +kernel
theorem dX6_letOut_36 : decode cX6_letOut 36 = .ok (.putfield 19, 3) := by decide +kernel
theorem dX6_letOut_39 : decode cX6_letOut 39 = .ok (.iload_n 1, 1) := by decide +kernel
theorem dX6_letOut_40 : decode cX6_letOut 40 = .ok (.ireturn, 1) := by decide +kernel
theorem dX6_acknowledge_0 : decode cX6_acknowledge 0 = .ok (.iload_n 1, 1) := by decide +kernel
theorem dX6_acknowledge_1 : decode cX6_acknowledge 1 = .ok (.aload_n 0, 1) := by decide +kernel
theorem dX6_acknowledge_2 : decode cX6_acknowledge 2 = .ok (.getfield 13, 3) := by decide +kernel
theorem dX6_acknowledge_5 : decode cX6_acknowledge 5 = .ok (.isub, 1) := by decide +kernel
theorem dX6_acknowledge_6 : decode cX6_acknowledge 6 = .ok (.bipush 7, 2) := by decide +kernel
theorem dX6_acknowledge_8 : decode cX6_acknowledge 8 = .ok (.iand, 1) := by decide +kernel
theorem dX6_acknowledge_9 : decode cX6_acknowledge 9 = .ok (.iconst 1, 1) := by decide +kernel
theorem dX6_acknowledge_10 : decode cX6_acknowledge 10 = .ok (.iadd, 1) := by decide +kernel
theorem dX6_acknowledge_11 : decode cX6_acknowledge 11 = .ok (.istore_n 2, 1) := by decide +kernel
theorem dX6_acknowledge_12 : decode cX6_acknowledge 12 = .ok (.iload_n 2, 1) := by decide +kernel
theorem dX6_acknowledge_13 : decode cX6_acknowledge 13 = .ok (.aload_n 0, 1) := by decide +kernel
theorem dX6_acknowledge_14 : decode cX6_acknowledge 14 = .ok (.getfield 16, 3) := by decide +kernel
theorem dX6_acknowledge_17 : decode cX6_acknowledge 17 = .ok (.if_icmp .le 5, 3) := by decide +kernel
theorem dX6_acknowledge_20 : decode cX6_acknowledge 20 = .ok (.iconst 0, 1) := by decide +kernel
theorem dX6_acknowledge_21 : decode cX6_acknowledge 21 = .ok (.ireturn, 1) := by decide +kernel
theorem dX6_acknowledge_22 : decode cX6_acknowledge 22 = .ok (.aload_n 0, 1) := by decide +kernel
theorem dX6_acknowledge_23 : decode cX6_acknowledge 23 = .ok (.aload_n 0, 1) := by decide +kernel
theorem dX6_acknowledge_24 : decode cX6_acknowledge 24 = .ok (.getfield 9, 3) := by decide +kernel
theorem dX6_acknowledge_27 : decode cX6_acknowledge 27 = .ok (.iload_n 2, 1) := by decide +kernel
theorem dX6_acknowledge_28 : decode cX6_acknowledge 28 = .ok (.iadd, 1) := by decide +kernel
theorem dX6_acknowledge_29 : decode cX6_acknowledge 29 = .ok (.bipush 20, 2) := by decide +kernel
theorem dX6_acknowledge_31 : decode cX6_acknowledge 31 = .ok (.irem, 1) := by decide +kernel
theorem dX6_acknowledge_32 : decode cX6_acknowledge 32 = .ok (.putfield 9, 3) := by decide +kernel
theorem dX6_acknowledge_35 : decode cX6_acknowledge 35 = .ok (.aload_n 0, 1) := by decide +kernel
theorem dX6_acknowledge_36 : decode cX6_acknowledge 36 = .ok (.aload_n 0, 1) := by decide +kernel
theorem dX6_acknowledge_37 : decode cX6_acknowledge 37 = .ok (.getfield 13, 3) := by decide +kernel
theorem dX6_acknowledge_40 : decode cX6_acknowledge 40 = .ok (.iload_n 2, 1) := by decide +kernel
theorem dX6_acknowledge_41 : decode cX6_acknowledge 41 = .ok (.iadd, 1) := by decide +kernel
theorem dX6_acknowledge_42 : decode cX6_acknowledge 42 = .ok (.bipush 7, 2) := by decide +kernel
theorem dX6_acknowledge_44 : decode cX6_acknowledge 44 = .ok (.iand, 1) := by decide +kernel
theorem dX6_acknowledge_45 : decode cX6_acknowledge 45 = .ok (.putfield 13, 3) := by decide +kernel
theorem dX6_acknowledge_48 : decode cX6_acknowledge 48 = .ok (.aload_n 0, 1) := by decide +kernel
theorem dX6_acknowledge_49 : decode cX6_acknowledge 49 = .ok (.dup, 1) := by decide +kernel
theorem dX6_acknowledge_50 : decode cX6_acknowledge 50 = .ok (.getfield 16, 3) := by decide +kernel
theorem dX6_acknowledge_53 : decode cX6_acknowledge 53 = .ok (.iload_n 2, 1) := by decide +kernel
theorem dX6_acknowledge_54 : decode cX6_acknowledge 54 = .ok (.isub, 1) := by decide +kernel
theorem dX6_acknowledge_55 : decode cX6_acknowledge 55 = .ok (.putfield 16, 3) := by decide +kernel
theorem dX6_acknowledge_58 : decode cX6_acknowledge 58 = .ok (.iconst 1, 1) := by decide +kernel
theorem dX6_acknowledge_59 : decode cX6_acknowledge 59 = .ok (.ireturn, 1) := by decide +kernel
theorem dX6_number_0 : decode cX6_number 0 = .ok (.aload_n 0, 1) := by decide +kernel
theorem dX6_number_1 : decode cX6_number 1 = .ok (.getfield 13, 3) := by decide +kernel
theorem dX6_number_4 : decode cX6_number 4 = .ok (.iload_n 1, 1) := by decide +kernel
theorem dX6_number_5 : decode cX6_number 5 = .ok (.iadd, 1) := by decide +kernel
theorem dX6_number_6 : decode cX6_number 6 = .ok (.bipush 7, 2) := by decide +kernel
theorem dX6_number_8 : decode cX6_number 8 = .ok (.iand, 1) := by decide +kernel
theorem dX6_number_9 : decode cX6_number 9 = .ok (.ireturn, 1) := by decide +kernel
theorem dX6_message_0 : decode cX6_message 0 = .ok (.aload_n 0, 1) := by decide +kernel
theorem dX6_message_1 : decode cX6_message 1 = .ok (.getfield 24, 3) := by decide +kernel
theorem dX6_message_4 : decode cX6_message 4 = .ok (.aload_n 0, 1) := by decide +kernel
theorem dX6_message_5 : decode cX6_message 5 = .ok (.getfield 9, 3) := by decide +kernel
theorem dX6_message_8 : decode cX6_message 8 = .ok (.iload_n 1, 1) := by decide +kernel
theorem dX6_message_9 : decode cX6_message 9 = .ok (.iadd, 1) := by decide +kernel
theorem dX6_message_10 : decode cX6_message 10 = .ok (.bipush 20, 2) := by decide +kernel
theorem dX6_message_12 : decode cX6_message 12 = .ok (.irem, 1) := by decide +kernel
theorem dX6_message_13 : decode cX6_message 13 = .ok (.aaload, 1) := by decide +kernel
theorem dX6_message_14 : decode cX6_message 14 = .ok (.areturn, 1) := by decide +kernel
end
section
theorem dX7_init_0 : decode cX7_init 0 = .ok (.aload_n 0, 1) := by decide +kernel
theorem dX7_init_1 : decode cX7_init 1 = .ok (.invokespecial 1, 3) := by decide +kernel
theorem dX7_init_4 : decode cX7_init 4 = .ok (.aload_n 0, 1) := by decide +kernel
theorem dX7_init_5 : decode cX7_init 5 = .ok (.new 7, 3) := by decide +kernel
theorem dX7_init_8 : decode cX7_init 8 = .ok (.dup, 1) := by decide +kernel
theorem dX7_init_9 : decode cX7_init 9 = .ok (.invokespecial 9, 3) := by decide +kernel
theorem dX7_init_12 : decode cX7_init 12 = .ok (.putfield 10, 3) := by decide +kernel
theorem dX7_init_15 : decode cX7_init 15 = .ok (.aload_n 0, 1) := by decide +kernel
theorem dX7_init_16 : decode cX7_init 16 = .ok (.iconst 0, 1) := by decide +kernel
theorem dX7_init_17 : decode cX7_init 17 = .ok (.putfield 16, 3) := by decide +kernel
theorem dX7_init_20 : decode cX7_init 20 = .ok (.aload_n 0, 1) := by decide +kernel
theorem dX7_init_21 : decode cX7_init 21 = .ok (.iconst 0, 1) := by decide +kernel
theorem dX7_init_22 : decode cX7_init 22 = .ok (.putfield 20, 3) := by decide +kernel
theorem dX7_init_25 : decode cX7_init 25 = .ok (.aload_n 0, 1) := by decide +kernel
theorem dX7_init_26 : decode cX7_init 26 = .ok (.bipush 12, 2) := by decide +kernel
theorem dX7_init_28 : decode cX7_init 28 = .ok (.anewarray 7, 3) := by decide +kernel
theorem dX7_init_31 : decode cX7_init 31 = .ok (.putfield 23, 3) := by decide +kernel
theorem dX7_init_34 : decode cX7_init 34 = .ok (.iconst 0, 1) := by decide +kernel
theorem dX7_init_35 : decode cX7_init 35 = .ok (.istore_n 1, 1) := by decide +kernel
theorem dX7_init_36 : decode cX7_init 36 = .ok (.iload_n 1, 1) := by decide +kernel
theorem dX7_init_37 : decode cX7_init 37 = .ok (.bipush 12, 2) := by decide +kernel
theorem dX7_init_39 : decode cX7_init 39 = .ok (.if_icmp .ge 22, 3) := by decide +kernel
theorem dX7_init_42 : decode cX7_init 42 = .ok (.aload_n 0, 1) := by decide +kernel
theorem dX7_init_43 : decode cX7_init 43 = .ok (.getfield 23, 3) := by decide +kernel
theorem dX7_init_46 : decode cX7_init 46 = .ok (.iload_n 1, 1) := by decide +kernel
theorem dX7_init_47 : decode cX7_init 47 = .ok (.new 7, 3) := by decide +kernel
theorem dX7_init_50 : decode cX7_init 50 = .ok (.dup, 1) := by decide +kernel
theorem dX7_init_51 : decode cX7_init 51 = .ok (.invokespecial 9, 3) := by decide +kernel
theorem dX7_init_54 : decode cX7_init 54 = .ok (.aastore, 1) := by decide +kernel
theorem dX7_init_55 : decode cX7_init 55 = .ok (.iinc 1 1, 3) := by decide +kernel
theorem dX7_init_58 : decode cX7_init 58 = .ok (.goto (-22), 3) := by decide +kernel
theorem dX7_init_61 : decode cX7_init 61 = .ok (.return_, 1) := by decide +kernel
theorem dX7_packet_0 : decode cX7_packet 0 = .ok (.iload_n 1, 1) := by decide +kernel
theorem dX7_packet_1 : decode cX7_packet 1 = .ok (.ifCond .lt 28, 3) := by decide +kernel
theorem dX7_packet_4 : decode cX7_packet 4 = .ok (.iload_n 1, 1) := by decide +kernel
theorem dX7_packet_5 : decode cX7_packet 5 = .ok (.aload_n 0, 1) := by decide +kernel
theorem dX7_packet_6 : decode cX7_packet 6 = .ok (.getfield 20, 3) := by decide +kernel
theorem dX7_packet_9 : decode cX7_packet 9 = .ok (.if_icmp .ge 20, 3) := by decide +kernel
theorem dX7_packet_12 : decode cX7_packet 12 = .ok (.aload_n 0, 1) := by decide +kernel
theorem dX7_packet_13 : decode cX7_packet 13 = .ok (.getfield 23, 3) := by decide +kernel
theorem dX7_packet_16 : decode cX7_packet 16 = .ok (.aload_n 0, 1) := by decide +kernel
theorem dX7_packet_17 : decode cX7_packet 17 = .ok (.getfield 16, 3) := by decide +kernel
theorem dX7_packet_20 : decode cX7_packet 20 = .ok (.iload_n 1, 1) := by decide +kernel
theorem dX7_packet_21 : decode cX7_packet 21 = .ok (.iadd, 1) := by decide +kernel
theorem dX7_packet_22 : decode cX7_packet 22 = .ok (.bipush 12, 2) := by decide +kernel
theorem dX7_packet_24 : decode cX7_packet 24 = .ok (.irem, 1) := by decide +kernel
theorem dX7_packet_25 : decode cX7_packet 25 = .ok (.aaload, 1) := by decide +kernel
theorem dX7_packet_26 : decode cX7_packet 26 = .ok (.goto 4, 3) := by decide +kernel
theorem dX7_packet_29 : decode cX7_packet 29 = .ok (.aconst_null, 1) := by decide +kernel
theorem dX7_packet_30 : decode cX7_packet 30 = .ok (.areturn, 1) := by decide +kernel
theorem dX7_add_0 : decode cX7_add 0 = .ok (.aload_n 0, 1) := by decide +kernel
theorem dX7_add_1 : decode cX7_add 1 = .ok (.getfield 20, 3) := by decide +kernel
theorem dX7_add_4 : decode cX7_add 4 = .ok (.bipush 12, 2) := by decide +kernel
theorem dX7_add_6 : decode cX7_add 6 = .ok (.if_icmp .lt 8, 3) := by decide +kernel
theorem dX7_add_9 : decode cX7_add 9 = .ok (.aload_n 0, 1) := by decide +kernel
theorem dX7_add_10 : decode cX7_add 10 = .ok (.getfield 10, 3) := by decide +kernel
theorem dX7_add_13 : decode cX7_add 13 = .ok (.areturn, 1) := by decide +kernel
theorem dX7_add_14 : decode cX7_add 14 = .ok (.aload_n 0, 1) := by decide +kernel
theorem dX7_add_15 : decode cX7_add 15 = .ok (.dup, 1) := by decide +kernel
theorem dX7_add_16 : decode cX7_add 16 = .ok (.getfield 20, 3) := by decide +kernel
theorem dX7_add_19 : decode cX7_add 19 = .ok (.iconst 1, 1) := by decide +kernel
theorem dX7_add_20 : decode cX7_add 20 = .ok (.iadd, 1) := by decide +kernel
theorem dX7_add_21 : decode cX7_add 21 = .ok (.putfield 20, 3) := by decide +kernel
theorem dX7_add_24 : decode cX7_add 24 = .ok (.aload_n 0, 1) := by decide +kernel
theorem dX7_add_25 : decode cX7_add 25 = .ok (.getfield 23, 3) := by decide +kernel
theorem dX7_add_28 : decode cX7_add 28 = .ok (.aload_n 0, 1) := by decide +kernel
theorem dX7_add_29 : decode cX7_add 29 = .ok (.getfield 16, 3) := by decide +kernel
theorem dX7_add_32 : decode cX7_add 32 = .ok (.aload_n 0, 1) := by decide +kernel
theorem dX7_add_33 : decode cX7_add 33 = .ok (.getfield 20, 3) := by decide +kernel
theorem dX7_add_36 : decode cX7_add 36 = .ok (.iadd, 1) := by decide +kernel
theorem dX7_add_37 : decode cX7_add 37 = .ok (.iconst 1, 1) := by decide +kernel
theorem dX7_add_38 : decode cX7_add 38 = .ok (.isub, 1) := by decide +kernel
theorem dX7_add_39 : decode cX7_add 39 = .ok (.bipush 12, 2) := by decide +kernel
theorem dX7_add_41 : decode cX7_add 41 = .ok (.irem, 1) := by decide +kernel
theorem dX7_add_42 : decode cX7_add 42 = .ok (.aaload, 1) := by decide +kernel
theorem dX7_add_43 : decode cX7_add 43 = .ok (.areturn, 1) := by decide +kernel
theorem dX7_dropFirst_0 : decode cX7_dropFirst 0 = .ok (.aload_n 0, 1) := by decide +kernel
theorem dX7_dropFirst_1 : decode cX7_dropFirst 1 = .ok (.getfield 20, 3) := by decide +kernel
theorem dX7_dropFirst_4 : decode cX7_dropFirst 4 = .ok (.ifCond .le 26, 3) := by decide +kernel
theorem dX7_dropFirst_7 : decode cX7_dropFirst 7 = .ok (.aload_n 0, 1) := by decide +kernel
theorem dX7_dropFirst_8 : decode cX7_dropFirst 8 = .ok (.aload_n 0, 1) := by decide +kernel
theorem dX7_dropFirst_9 : decode cX7_dropFirst 9 = .ok (.getfield 16, 3) := by decide +kernel
theorem dX7_dropFirst_12 : decode cX7_dropFirst 12 = .ok (.iconst 1, 1) := by decide +kernel
theorem dX7_dropFirst_13 : decode cX7_dropFirst 13 = .ok (.iadd, 1) := by decide +kernel
theorem dX7_dropFirst_14 : decode cX7_dropFirst 14 = .ok (.bipush 12, 2) := by decide +kernel
theorem dX7_dropFirst_16 : decode cX7_dropFirst 16 = .ok (.irem, 1) := by decide +kernel
theorem dX7_dropFirst_17 : decode cX7_dropFirst 17 = .ok (.putfield 16, 3) := by decide +kernel
theorem dX7_dropFirst_20 : decode cX7_dropFirst 20 = .ok (.aload_n 0, 1) := by decide +kernel
theorem dX7_dropFirst_21 : decode cX7_dropFirst 21 = .ok (.dup, 1) := by decide +kernel
theorem dX7_dropFirst_22 : decode cX7_dropFirst 22 = .ok (.getfield 20, 3) := by decide +kernel
theorem dX7_dropFirst_25 : decode cX7_dropFirst 25 = .ok (.iconst 1, 1) := by decide +kernel
theorem dX7_dropFirst_26 : decode cX7_dropFirst 26 = .ok (.isub, 1) := by decide +kernel
theorem dX7_dropFirst_27 : decode cX7_dropFirst 27 = .ok (.putfield 20, 3) := by decide +kernel
theorem dX7_dropFirst_30 : decode cX7_dropFirst 30 = .ok (.return_, 1) := by decide +kernel
theorem dX7_clear_0 : decode cX7_clear 0 = .ok (.aload_n 0, 1) := by decide +kernel
theorem dX7_clear_1 : decode cX7_clear 1 = .ok (.iconst 0, 1) := by decide +kernel
theorem dX7_clear_2 : decode cX7_clear 2 = .ok (.putfield 20, 3) := by decide +kernel
theorem dX7_clear_5 : decode cX7_clear 5 = .ok (.return_, 1) := by decide +kernel
end
section
theorem dX8_init_0 : decode cX8_init 0 = .ok (.aload_n 0, 1) := by decide +kernel
theorem dX8_init_1 : decode cX8_init 1 = .ok (.invokespecial 1, 3) := by decide +kernel
theorem dX8_init_4 : decode cX8_init 4 = .ok (.aload_n 0, 1) := by decide +kernel
theorem dX8_init_5 : decode cX8_init 5 = .ok (.iconst 2, 1) := by decide +kernel
theorem dX8_init_6 : decode cX8_init 6 = .ok (.anewarray 7, 3) := by decide +kernel
theorem dX8_init_9 : decode cX8_init 9 = .ok (.dup, 1) := by decide +kernel
theorem dX8_init_10 : decode cX8_init 10 = .ok (.iconst 0, 1) := by decide +kernel
theorem dX8_init_11 : decode cX8_init 11 = .ok (.new 7, 3) := by decide +kernel
theorem dX8_init_14 : decode cX8_init 14 = .ok (.dup, 1) := by decide +kernel
theorem dX8_init_15 : decode cX8_init 15 = .ok (.invokespecial 9, 3) := by decide +kernel
theorem dX8_init_18 : decode cX8_init 18 = .ok (.aastore, 1) := by decide +kernel
theorem dX8_init_19 : decode cX8_init 19 = .ok (.dup, 1) := by decide +kernel
theorem dX8_init_20 : decode cX8_init 20 = .ok (.iconst 1, 1) := by decide +kernel
theorem dX8_init_21 : decode cX8_init 21 = .ok (.new 7, 3) := by decide +kernel
theorem dX8_init_24 : decode cX8_init 24 = .ok (.dup, 1) := by decide +kernel
theorem dX8_init_25 : decode cX8_init 25 = .ok (.invokespecial 9, 3) := by decide +kernel
theorem dX8_init_28 : decode cX8_init 28 = .ok (.aastore, 1) := by decide +kernel
theorem dX8_init_29 : decode cX8_init 29 = .ok (.putfield 10, 3) := by decide +kernel
theorem dX8_init_32 : decode cX8_init 32 = .ok (.aload_n 0, 1) := by decide +kernel
theorem dX8_init_33 : decode cX8_init 33 = .ok (.iconst 2, 1) := by decide +kernel
theorem dX8_init_34 : decode cX8_init 34 = .ok (.anewarray 16, 3) := by decide +kernel
theorem dX8_init_37 : decode cX8_init 37 = .ok (.dup, 1) := by decide +kernel
theorem dX8_init_38 : decode cX8_init 38 = .ok (.iconst 0, 1) := by decide +kernel
theorem dX8_init_39 : decode cX8_init 39 = .ok (.new 16, 3) := by decide +kernel
theorem dX8_init_42 : decode cX8_init 42 = .ok (.dup, 1) := by decide +kernel
theorem dX8_init_43 : decode cX8_init 43 = .ok (.iconst 0, 1) := by decide +kernel
theorem dX8_init_44 : decode cX8_init 44 = .ok (.aload_n 0, 1) := by decide +kernel
theorem dX8_init_45 : decode cX8_init 45 = .ok (.getfield 10, 3) := by decide +kernel
theorem dX8_init_48 : decode cX8_init 48 = .ok (.iconst 0, 1) := by decide +kernel
theorem dX8_init_49 : decode cX8_init 49 = .ok (.aaload, 1) := by decide +kernel
theorem dX8_init_50 : decode cX8_init 50 = .ok (.invokespecial 18, 3) := by decide +kernel
theorem dX8_init_53 : decode cX8_init 53 = .ok (.aastore, 1) := by decide +kernel
theorem dX8_init_54 : decode cX8_init 54 = .ok (.dup, 1) := by decide +kernel
theorem dX8_init_55 : decode cX8_init 55 = .ok (.iconst 1, 1) := by decide +kernel
theorem dX8_init_56 : decode cX8_init 56 = .ok (.new 16, 3) := by decide +kernel
theorem dX8_init_59 : decode cX8_init 59 = .ok (.dup, 1) := by decide +kernel
theorem dX8_init_60 : decode cX8_init 60 = .ok (.iconst 1, 1) := by decide +kernel
theorem dX8_init_61 : decode cX8_init 61 = .ok (.aload_n 0, 1) := by decide +kernel
theorem dX8_init_62 : decode cX8_init 62 = .ok (.getfield 10, 3) := by decide +kernel
theorem dX8_init_65 : decode cX8_init 65 = .ok (.iconst 1, 1) := by decide +kernel
theorem dX8_init_66 : decode cX8_init 66 = .ok (.aaload, 1) := by decide +kernel
theorem dX8_init_67 : decode cX8_init 67 = .ok (.invokespecial 18, 3) := by decide +kernel
theorem dX8_init_70 : decode cX8_init 70 = .ok (.aastore, 1) := by decide +kernel
theorem dX8_init_71 : decode cX8_init 71 = .ok (.putfield 21, 3) := by decide +kernel
theorem dX8_init_74 : decode cX8_init 74 = .ok (.aload_n 0, 1) := by decide +kernel
theorem dX8_init_75 : decode cX8_init 75 = .ok (.bipush 100, 2) := by decide +kernel
theorem dX8_init_77 : decode cX8_init 77 = .ok (.newarray .int, 2) := by decide +kernel
theorem dX8_init_79 : decode cX8_init 79 = .ok (.putfield 25, 3) := by decide +kernel
theorem dX8_init_82 : decode cX8_init 82 = .ok (.aload_n 0, 1) := by decide +kernel
theorem dX8_init_83 : decode cX8_init 83 = .ok (.iconst 0, 1) := by decide +kernel
theorem dX8_init_84 : decode cX8_init 84 = .ok (.putfield 29, 3) := by decide +kernel
theorem dX8_init_87 : decode cX8_init 87 = .ok (.return_, 1) := by decide +kernel
theorem dX8_put_0 : decode cX8_put 0 = .ok (.iload_n 1, 1) := by decide +kernel
theorem dX8_put_1 : decode cX8_put 1 = .ok (.ifCond .lt 19, 3) := by decide +kernel
theorem dX8_put_4 : decode cX8_put 4 = .ok (.iload_n 1, 1) := by decide +kernel
theorem dX8_put_5 : decode cX8_put 5 = .ok (.sipush 255, 3) := by decide +kernel
theorem dX8_put_8 : decode cX8_put 8 = .ok (.if_icmp .gt 12, 3) := by decide +kernel
theorem dX8_put_11 : decode cX8_put 11 = .ok (.aload_n 0, 1) := by decide +kernel
theorem dX8_put_12 : decode cX8_put 12 = .ok (.getfield 29, 3) := by decide +kernel
theorem dX8_put_15 : decode cX8_put 15 = .ok (.bipush 100, 2) := by decide +kernel
theorem dX8_put_17 : decode cX8_put 17 = .ok (.if_icmp .lt 5, 3) := by decide +kernel
theorem dX8_put_20 : decode cX8_put 20 = .ok (.iconst (-1), 1) := by decide +kernel
theorem dX8_put_21 : decode cX8_put 21 = .ok (.ireturn, 1) := by decide +kernel
theorem dX8_put_22 : decode cX8_put 22 = .ok (.aload_n 0, 1) := by decide +kernel
theorem dX8_put_23 : decode cX8_put 23 = .ok (.getfield 25, 3) := by decide +kernel
theorem dX8_put_26 : decode cX8_put 26 = .ok (.aload_n 0, 1) := by decide +kernel
theorem dX8_put_27 : decode cX8_put 27 = .ok (.getfield 29, 3) := by decide +kernel
theorem dX8_put_30 : decode cX8_put 30 = .ok (.iload_n 1, 1) := by decide +kernel
theorem dX8_put_31 : decode cX8_put 31 = .ok (.iastore, 1) := by decide +kernel
theorem dX8_put_32 : decode cX8_put 32 = .ok (.aload_n 0, 1) := by decide +kernel
theorem dX8_put_33 : decode cX8_put 33 = .ok (.dup, 1) := by decide +kernel
theorem dX8_put_34 : decode cX8_put 34 = .ok (.getfield 29, 3) := by decide +kernel
theorem dX8_put_37 : decode cX8_put 37 = .ok (.iconst 1, 1) := by decide +kernel
theorem dX8_put_38 : decode cX8_put 38 = .ok (.iadd, 1) := by decide +kernel
theorem dX8_put_39 : decode cX8_put 39 = .ok (.putfield 29, 3) := by decide +kernel
theorem dX8_put_42 : decode cX8_put 42 = .ok (.aload_n 0, 1) := by decide +kernel
theorem dX8_put_43 : decode cX8_put 43 = .ok (.getfield 29, 3) := by decide +kernel
theorem dX8_put_46 : decode cX8_put 46 = .ok (.ireturn, 1) := by decide +kernel
theorem dX8_queue_0 : decode cX8_queue 0 = .ok (.iload_n 1, 1) := by decide +kernel
theorem dX8_queue_1 : decode cX8_queue 1 = .ok (.invokestatic 33, 3) := by decide +kernel
theorem dX8_queue_4 : decode cX8_queue 4 = .ok (.ifCond .ne 5, 3) := by decide +kernel
theorem dX8_queue_7 : decode cX8_queue 7 = .ok (.iconst (-1), 1) := by decide +kernel
theorem dX8_queue_8 : decode cX8_queue 8 = .ok (.ireturn, 1) := by decide +kernel
theorem dX8_queue_9 : decode cX8_queue 9 = .ok (.aload_n 0, 1) := by decide +kernel
theorem dX8_queue_10 : decode cX8_queue 10 = .ok (.getfield 21, 3) := by decide +kernel
theorem dX8_queue_13 : decode cX8_queue 13 = .ok (.iload_n 1, 1) := by decide +kernel
theorem dX8_queue_14 : decode cX8_queue 14 = .ok (.aaload, 1) := by decide +kernel
theorem dX8_queue_15 : decode cX8_queue 15 = .ok (.getfield 37, 3) := by decide +kernel
theorem dX8_queue_18 : decode cX8_queue 18 = .ok (.aload_n 0, 1) := by decide +kernel
theorem dX8_queue_19 : decode cX8_queue 19 = .ok (.getfield 25, 3) := by decide +kernel
theorem dX8_queue_22 : decode cX8_queue 22 = .ok (.aload_n 0, 1) := by decide +kernel
theorem dX8_queue_23 : decode cX8_queue 23 = .ok (.getfield 29, 3) := by decide +kernel
theorem dX8_queue_26 : decode cX8_queue 26 = .ok (.invokevirtual 41, 3) := by decide +kernel
theorem dX8_queue_29 : decode cX8_queue 29 = .ok (.istore_n 2, 1) := by decide +kernel
theorem dX8_queue_30 : decode cX8_queue 30 = .ok (.iload_n 2, 1) := by decide +kernel
theorem dX8_queue_31 : decode cX8_queue 31 = .ok (.iconst (-1), 1) := by decide +kernel
theorem dX8_queue_32 : decode cX8_queue 32 = .ok (.if_icmp .eq 8, 3) := by decide +kernel
theorem dX8_queue_35 : decode cX8_queue 35 = .ok (.aload_n 0, 1) := by decide +kernel
theorem dX8_queue_36 : decode cX8_queue 36 = .ok (.iconst 0, 1) := by decide +kernel
theorem dX8_queue_37 : decode cX8_queue 37 = .ok (.putfield 29, 3) := by decide +kernel
theorem dX8_queue_40 : decode cX8_queue 40 = .ok (.iload_n 2, 1) := by decide +kernel
theorem dX8_queue_41 : decode cX8_queue 41 = .ok (.ireturn, 1) := by decide +kernel
theorem dX8_call_0 : decode cX8_call 0 = .ok (.iload_n 1, 1) := by decide +kernel
theorem dX8_call_1 : decode cX8_call 1 = .ok (.invokestatic 33, 3) := by decide +kernel
theorem dX8_call_4 : decode cX8_call 4 = .ok (.ifCond .eq 15, 3) := by decide +kernel
theorem dX8_call_7 : decode cX8_call 7 = .ok (.aload_n 0, 1) := by decide +kernel
theorem dX8_call_8 : decode cX8_call 8 = .ok (.getfield 21, 3) := by decide +kernel
theorem dX8_call_11 : decode cX8_call 11 = .ok (.iload_n 1, 1) := by decide +kernel
theorem dX8_call_12 : decode cX8_call 12 = .ok (.aaload, 1) := by decide +kernel
theorem dX8_call_13 : decode cX8_call 13 = .ok (.getfield 47, 3) := by decide +kernel
theorem dX8_call_16 : decode cX8_call 16 = .ok (.ifCond .eq 5, 3) := by decide +kernel
theorem dX8_call_19 : decode cX8_call 19 = .ok (.iconst 0, 1) := by decide +kernel
theorem dX8_call_20 : decode cX8_call 20 = .ok (.ireturn, 1) := by decide +kernel
theorem dX8_call_21 : decode cX8_call 21 = .ok (.aload_n 0, 1) := by decide +kernel
theorem dX8_call_22 : decode cX8_call 22 = .ok (.getfield 10, 3) := by decide +kernel
theorem dX8_call_25 : decode cX8_call 25 = .ok (.iconst 0, 1) := by decide +kernel
theorem dX8_call_26 : decode cX8_call 26 = .ok (.aaload, 1) := by decide +kernel
theorem dX8_call_27 : decode cX8_call 27 = .ok (.invokevirtual 50, 3) := by decide +kernel
theorem dX8_call_30 : decode cX8_call 30 = .ok (.aload_n 0, 1) := by decide +kernel
theorem dX8_call_31 : decode cX8_call 31 = .ok (.getfield 10, 3) := by decide +kernel
theorem dX8_call_34 : decode cX8_call 34 = .ok (.iconst 1, 1) := by decide +kernel
theorem dX8_call_35 : decode cX8_call 35 = .ok (.aaload, 1) := by decide +kernel
theorem dX8_call_36 : decode cX8_call 36 = .ok (.invokevirtual 50, 3) := by decide +kernel
theorem dX8_call_39 : decode cX8_call 39 = .ok (.aload_n 0, 1) := by decide +kernel
theorem dX8_call_40 : decode cX8_call 40 = .ok (.getfield 21, 3) := by decide +kernel
theorem dX8_call_43 : decode cX8_call 43 = .ok (.iload_n 1, 1) := by decide +kernel
theorem dX8_call_44 : decode cX8_call 44 = .ok (.aaload, 1) := by decide +kernel
theorem dX8_call_45 : decode cX8_call 45 = .ok (.invokevirtual 53, 3) := by decide +kernel
theorem dX8_call_48 : decode cX8_call 48 = .ok (.iconst 1, 1) := by decide +kernel
theorem dX8_call_49 : decode cX8_call 49 = .ok (.ireturn, 1) := by decide +kernel
theorem dX8_deliver_0 : decode cX8_deliver 0 = .ok (.iload_n 1, 1) := by decide +kernel
theorem dX8_deliver_1 : decode cX8_deliver 1 = .ok (.invokestatic 33, 3) := by decide +kernel
theorem dX8_deliver_4 : decode cX8_deliver 4 = .ok (.ifCond .eq 11, 3) := by decide +kernel
theorem dX8_deliver_7 : decode cX8_deliver 7 = .ok (.aload_n 0, 1) := by decide +kernel
theorem dX8_deliver_8 : decode cX8_deliver 8 = .ok (.iload_n 1, 1) := by decide +kernel
theorem dX8_deliver_9 : decode cX8_deliver 9 = .ok (.invokevirtual 56, 3) := by decide +kernel
theorem dX8_deliver_12 : decode cX8_deliver 12 = .ok (.goto 4, 3) := by decide +kernel
theorem dX8_deliver_15 : decode cX8_deliver 15 = .ok (.iconst (-1), 1) := by decide +kernel
theorem dX8_deliver_16 : decode cX8_deliver 16 = .ok (.ireturn, 1) := by decide +kernel
theorem dX8_lose_0 : decode cX8_lose 0 = .ok (.aload_n 0, 1) := by decide +kernel
theorem dX8_lose_1 : decode cX8_lose 1 = .ok (.iload_n 1, 1) := by decide +kernel
theorem dX8_lose_2 : decode cX8_lose 2 = .ok (.iconst 0, 1) := by decide +kernel
theorem dX8_lose_3 : decode cX8_lose 3 = .ok (.invokevirtual 60, 3) := by decide +kernel
theorem dX8_lose_6 : decode cX8_lose 6 = .ok (.ifnonnull 5, 3) := by decide +kernel
theorem dX8_lose_9 : decode cX8_lose 9 = .ok (.iconst 0, 1) := by decide +kernel
theorem dX8_lose_10 : decode cX8_lose 10 = .ok (.ireturn, 1) := by decide +kernel
theorem dX8_lose_11 : decode cX8_lose 11 = .ok (.aload_n 0, 1) := by decide +kernel
theorem dX8_lose_12 : decode cX8_lose 12 = .ok (.getfield 10, 3) := by decide +kernel
theorem dX8_lose_15 : decode cX8_lose 15 = .ok (.iload_n 1, 1) := by decide +kernel
theorem dX8_lose_16 : decode cX8_lose 16 = .ok (.aaload, 1) := by decide +kernel
theorem dX8_lose_17 : decode cX8_lose 17 = .ok (.invokevirtual 64, 3) := by decide +kernel
theorem dX8_lose_20 : decode cX8_lose 20 = .ok (.iconst 1, 1) := by decide +kernel
theorem dX8_lose_21 : decode cX8_lose 21 = .ok (.ireturn, 1) := by decide +kernel
theorem dX8_alter_0 : decode cX8_alter 0 = .ok (.aload_n 0, 1) := by decide +kernel
theorem dX8_alter_1 : decode cX8_alter 1 = .ok (.iload_n 1, 1) := by decide +kernel
theorem dX8_alter_2 : decode cX8_alter 2 = .ok (.iconst 0, 1) := by decide +kernel
theorem dX8_alter_3 : decode cX8_alter 3 = .ok (.invokevirtual 60, 3) := by decide +kernel
theorem dX8_alter_6 : decode cX8_alter 6 = .ok (.astore 4, 2) := by decide +kernel
theorem dX8_alter_8 : decode cX8_alter 8 = .ok (.aload 4, 2) := by decide +kernel
theorem dX8_alter_10 : decode cX8_alter 10 = .ok (.ifnull 28, 3) := by decide +kernel
theorem dX8_alter_13 : decode cX8_alter 13 = .ok (.iload_n 2, 1) := by decide +kernel
theorem dX8_alter_14 : decode cX8_alter 14 = .ok (.ifCond .lt 24, 3) := by decide +kernel
theorem dX8_alter_17 : decode cX8_alter 17 = .ok (.iload_n 2, 1) := by decide +kernel
theorem dX8_alter_18 : decode cX8_alter 18 = .ok (.aload 4, 2) := by decide +kernel
theorem dX8_alter_20 : decode cX8_alter 20 = .ok (.getfield 67, 3) := by decide +kernel
theorem dX8_alter_23 : decode cX8_alter 23 = .ok (.if_icmp .ge 15, 3) := by decide +kernel
theorem dX8_alter_26 : decode cX8_alter 26 = .ok (.iload_n 3, 1) := by decide +kernel
theorem dX8_alter_27 : decode cX8_alter 27 = .ok (.iconst 1, 1) := by decide +kernel
theorem dX8_alter_28 : decode cX8_alter 28 = .ok (.if_icmp .lt 10, 3) := by decide +kernel
theorem dX8_alter_31 : decode cX8_alter 31 = .ok (.iload_n 3, 1) := by decide +kernel
theorem dX8_alter_32 : decode cX8_alter 32 = .ok (.sipush 255, 3) := by decide +kernel
theorem dX8_alter_35 : decode cX8_alter 35 = .ok (.if_icmp .le 5, 3) := by decide +kernel
theorem dX8_alter_38 : decode cX8_alter 38 = .ok (.iconst 0, 1) := by decide +kernel
theorem dX8_alter_39 : decode cX8_alter 39 = .ok (.ireturn, 1) := by decide +kernel
theorem dX8_alter_40 : decode cX8_alter 40 = .ok (.aload 4, 2) := by decide +kernel
theorem dX8_alter_42 : decode cX8_alter 42 = .ok (.getfield 72, 3) := by decide +kernel
theorem dX8_alter_45 : decode cX8_alter 45 = .ok (.iload_n 2, 1) := by decide +kernel
theorem dX8_alter_46 : decode cX8_alter 46 = .ok (.dup2, 1) := by decide +kernel
theorem dX8_alter_47 : decode cX8_alter 47 = .ok (.iaload, 1) := by decide +kernel
theorem dX8_alter_48 : decode cX8_alter 48 = .ok (.iload_n 3, 1) := by decide +kernel
theorem dX8_alter_49 : decode cX8_alter 49 = .ok (.ixor, 1) := by decide +kernel
theorem dX8_alter_50 : decode cX8_alter 50 = .ok (.iastore, 1) := by decide +kernel
theorem dX8_alter_51 : decode cX8_alter 51 = .ok (.iconst 1, 1) := by decide +kernel
theorem dX8_alter_52 : decode cX8_alter 52 = .ok (.ireturn, 1) := by decide +kernel
theorem dX8_tick_0 : decode cX8_tick 0 = .ok (.aload_n 0, 1) := by decide +kernel
theorem dX8_tick_1 : decode cX8_tick 1 = .ok (.getfield 21, 3) := by decide +kernel
theorem dX8_tick_4 : decode cX8_tick 4 = .ok (.iconst 0, 1) := by decide +kernel
theorem dX8_tick_5 : decode cX8_tick 5 = .ok (.aaload, 1) := by decide +kernel
theorem dX8_tick_6 : decode cX8_tick 6 = .ok (.invokevirtual 75, 3) := by decide +kernel
theorem dX8_tick_9 : decode cX8_tick 9 = .ok (.istore_n 1, 1) := by decide +kernel
theorem dX8_tick_10 : decode cX8_tick 10 = .ok (.aload_n 0, 1) := by decide +kernel
theorem dX8_tick_11 : decode cX8_tick 11 = .ok (.getfield 21, 3) := by decide +kernel
theorem dX8_tick_14 : decode cX8_tick 14 = .ok (.iconst 1, 1) := by decide +kernel
theorem dX8_tick_15 : decode cX8_tick 15 = .ok (.aaload, 1) := by decide +kernel
theorem dX8_tick_16 : decode cX8_tick 16 = .ok (.invokevirtual 75, 3) := by decide +kernel
theorem dX8_tick_19 : decode cX8_tick 19 = .ok (.istore_n 2, 1) := by decide +kernel
theorem dX8_tick_20 : decode cX8_tick 20 = .ok (.iload_n 1, 1) := by decide +kernel
theorem dX8_tick_21 : decode cX8_tick 21 = .ok (.iload_n 2, 1) := by decide +kernel
theorem dX8_tick_22 : decode cX8_tick 22 = .ok (.iadd, 1) := by decide +kernel
theorem dX8_tick_23 : decode cX8_tick 23 = .ok (.ireturn, 1) := by decide +kernel
theorem dX8_crash_0 : decode cX8_crash 0 = .ok (.iload_n 1, 1) := by decide +kernel
theorem dX8_crash_1 : decode cX8_crash 1 = .ok (.invokestatic 33, 3) := by decide +kernel
theorem dX8_crash_4 : decode cX8_crash 4 = .ok (.ifCond .ne 5, 3) := by decide +kernel
theorem dX8_crash_7 : decode cX8_crash 7 = .ok (.iconst 0, 1) := by decide +kernel
theorem dX8_crash_8 : decode cX8_crash 8 = .ok (.ireturn, 1) := by decide +kernel
theorem dX8_crash_9 : decode cX8_crash 9 = .ok (.aload_n 0, 1) := by decide +kernel
theorem dX8_crash_10 : decode cX8_crash 10 = .ok (.getfield 21, 3) := by decide +kernel
theorem dX8_crash_13 : decode cX8_crash 13 = .ok (.iload_n 1, 1) := by decide +kernel
theorem dX8_crash_14 : decode cX8_crash 14 = .ok (.aaload, 1) := by decide +kernel
theorem dX8_crash_15 : decode cX8_crash 15 = .ok (.iconst 0, 1) := by decide +kernel
theorem dX8_crash_16 : decode cX8_crash 16 = .ok (.invokevirtual 79, 3) := by decide +kernel
theorem dX8_crash_19 : decode cX8_crash 19 = .ok (.iconst 1, 1) := by decide +kernel
theorem dX8_crash_20 : decode cX8_crash 20 = .ok (.ireturn, 1) := by decide +kernel
theorem dX8_settle_0 : decode cX8_settle 0 = .ok (.iload_n 1, 1) := by decide +kernel
theorem dX8_settle_1 : decode cX8_settle 1 = .ok (.iconst 1, 1) := by decide +kernel
theorem dX8_settle_2 : decode cX8_settle 2 = .ok (.if_icmp .lt 10, 3) := by decide +kernel
theorem dX8_settle_5 : decode cX8_settle 5 = .ok (.iload_n 1, 1) := by decide +kernel
theorem dX8_settle_6 : decode cX8_settle 6 = .ok (.sipush 200, 3) := by decide +kernel
theorem dX8_settle_9 : decode cX8_settle 9 = .ok (.if_icmp .le 5, 3) := by decide +kernel
theorem dX8_settle_12 : decode cX8_settle 12 = .ok (.iconst (-1), 1) := by decide +kernel
theorem dX8_settle_13 : decode cX8_settle 13 = .ok (.ireturn, 1) := by decide +kernel
theorem dX8_settle_14 : decode cX8_settle 14 = .ok (.iconst 0, 1) := by decide +kernel
theorem dX8_settle_15 : decode cX8_settle 15 = .ok (.istore_n 2, 1) := by decide +kernel
theorem dX8_settle_16 : decode cX8_settle 16 = .ok (.iconst 0, 1) := by decide +kernel
theorem dX8_settle_17 : decode cX8_settle 17 = .ok (.istore_n 3, 1) := by decide +kernel
theorem dX8_settle_18 : decode cX8_settle 18 = .ok (.iload_n 3, 1) := by decide +kernel
theorem dX8_settle_19 : decode cX8_settle 19 = .ok (.iload_n 1, 1) := by decide +kernel
theorem dX8_settle_20 : decode cX8_settle 20 = .ok (.if_icmp .ge 47, 3) := by decide +kernel
theorem dX8_settle_23 : decode cX8_settle 23 = .ok (.aload_n 0, 1) := by decide +kernel
theorem dX8_settle_24 : decode cX8_settle 24 = .ok (.getfield 10, 3) := by decide +kernel
theorem dX8_settle_27 : decode cX8_settle 27 = .ok (.iload_n 2, 1) := by decide +kernel
theorem dX8_settle_28 : decode cX8_settle 28 = .ok (.aaload, 1) := by decide +kernel
theorem dX8_settle_29 : decode cX8_settle 29 = .ok (.getfield 83, 3) := by decide +kernel
theorem dX8_settle_32 : decode cX8_settle 32 = .ok (.ifCond .le 7, 3) := by decide +kernel
theorem dX8_settle_35 : decode cX8_settle 35 = .ok (.iload_n 2, 1) := by decide +kernel
theorem dX8_settle_36 : decode cX8_settle 36 = .ok (.goto 6, 3) := by decide +kernel
theorem dX8_settle_39 : decode cX8_settle 39 = .ok (.iconst 1, 1) := by decide +kernel
theorem dX8_settle_40 : decode cX8_settle 40 = .ok (.iload_n 2, 1) := by decide +kernel
theorem dX8_settle_41 : decode cX8_settle 41 = .ok (.isub, 1) := by decide +kernel
theorem dX8_settle_42 : decode cX8_settle 42 = .ok (.istore 4, 2) := by decide +kernel
theorem dX8_settle_44 : decode cX8_settle 44 = .ok (.aload_n 0, 1) := by decide +kernel
theorem dX8_settle_45 : decode cX8_settle 45 = .ok (.iload 4, 2) := by decide +kernel
theorem dX8_settle_47 : decode cX8_settle 47 = .ok (.invokevirtual 56, 3) := by decide +kernel
theorem dX8_settle_50 : decode cX8_settle 50 = .ok (.iconst (-1), 1) := by decide +kernel
theorem dX8_settle_51 : decode cX8_settle 51 = .ok (.if_icmp .ne 5, 3) := by decide +kernel
theorem dX8_settle_54 : decode cX8_settle 54 = .ok (.iload_n 3, 1) := by decide +kernel
theorem dX8_settle_55 : decode cX8_settle 55 = .ok (.ireturn, 1) := by decide +kernel
theorem dX8_settle_56 : decode cX8_settle 56 = .ok (.iconst 1, 1) := by decide +kernel
theorem dX8_settle_57 : decode cX8_settle 57 = .ok (.iload 4, 2) := by decide +kernel
theorem dX8_settle_59 : decode cX8_settle 59 = .ok (.isub, 1) := by decide +kernel
theorem dX8_settle_60 : decode cX8_settle 60 = .ok (.istore_n 2, 1) := by decide +kernel
theorem dX8_settle_61 : decode cX8_settle 61 = .ok (.iinc 3 1, 3) := by decide +kernel
theorem dX8_settle_64 : decode cX8_settle 64 = .ok (.goto (-46), 3) := by decide +kernel
theorem dX8_settle_67 : decode cX8_settle 67 = .ok (.iload_n 1, 1) := by decide +kernel
theorem dX8_settle_68 : decode cX8_settle 68 = .ok (.ireturn, 1) := by decide +kernel
theorem dX8_waiting_0 : decode cX8_waiting 0 = .ok (.iload_n 1, 1) := by decide +kernel
theorem dX8_waiting_1 : decode cX8_waiting 1 = .ok (.invokestatic 33, 3) := by decide +kernel
theorem dX8_waiting_4 : decode cX8_waiting 4 = .ok (.ifCond .eq 15, 3) := by decide +kernel
theorem dX8_waiting_7 : decode cX8_waiting 7 = .ok (.aload_n 0, 1) := by decide +kernel
theorem dX8_waiting_8 : decode cX8_waiting 8 = .ok (.getfield 10, 3) := by decide +kernel
theorem dX8_waiting_11 : decode cX8_waiting 11 = .ok (.iload_n 1, 1) := by decide +kernel
theorem dX8_waiting_12 : decode cX8_waiting 12 = .ok (.aaload, 1) := by decide +kernel
theorem dX8_waiting_13 : decode cX8_waiting 13 = .ok (.getfield 83, 3) := by decide +kernel
theorem dX8_waiting_16 : decode cX8_waiting 16 = .ok (.goto 4, 3) := by decide +kernel
theorem dX8_waiting_19 : decode cX8_waiting 19 = .ok (.iconst (-1), 1) := by decide +kernel
theorem dX8_waiting_20 : decode cX8_waiting 20 = .ok (.ireturn, 1) := by decide +kernel
theorem dX8_look_0 : decode cX8_look 0 = .ok (.aload_n 0, 1) := by decide +kernel
theorem dX8_look_1 : decode cX8_look 1 = .ok (.iload_n 1, 1) := by decide +kernel
theorem dX8_look_2 : decode cX8_look 2 = .ok (.iload_n 2, 1) := by decide +kernel
theorem dX8_look_3 : decode cX8_look 3 = .ok (.invokevirtual 60, 3) := by decide +kernel
theorem dX8_look_6 : decode cX8_look 6 = .ok (.astore 4, 2) := by decide +kernel
theorem dX8_look_8 : decode cX8_look 8 = .ok (.aload 4, 2) := by decide +kernel
theorem dX8_look_10 : decode cX8_look 10 = .ok (.ifnull 16, 3) := by decide +kernel
theorem dX8_look_13 : decode cX8_look 13 = .ok (.iload_n 3, 1) := by decide +kernel
theorem dX8_look_14 : decode cX8_look 14 = .ok (.ifCond .lt 12, 3) := by decide +kernel
theorem dX8_look_17 : decode cX8_look 17 = .ok (.iload_n 3, 1) := by decide +kernel
theorem dX8_look_18 : decode cX8_look 18 = .ok (.aload 4, 2) := by decide +kernel
theorem dX8_look_20 : decode cX8_look 20 = .ok (.getfield 67, 3) := by decide +kernel
theorem dX8_look_23 : decode cX8_look 23 = .ok (.if_icmp .lt 5, 3) := by decide +kernel
theorem dX8_look_26 : decode cX8_look 26 = .ok (.iconst (-1), 1) := by decide +kernel
theorem dX8_look_27 : decode cX8_look 27 = .ok (.ireturn, 1) := by decide +kernel
theorem dX8_look_28 : decode cX8_look 28 = .ok (.aload 4, 2) := by decide +kernel
theorem dX8_look_30 : decode cX8_look 30 = .ok (.getfield 72, 3) := by decide +kernel
theorem dX8_look_33 : decode cX8_look 33 = .ok (.iload_n 3, 1) := by decide +kernel
theorem dX8_look_34 : decode cX8_look 34 = .ok (.iaload, 1) := by decide +kernel
theorem dX8_look_35 : decode cX8_look 35 = .ok (.ireturn, 1) := by decide +kernel
theorem dX8_told_0 : decode cX8_told 0 = .ok (.iload_n 1, 1) := by decide +kernel
theorem dX8_told_1 : decode cX8_told 1 = .ok (.invokestatic 33, 3) := by decide +kernel
theorem dX8_told_4 : decode cX8_told 4 = .ok (.ifCond .ne 5, 3) := by decide +kernel
theorem dX8_told_7 : decode cX8_told 7 = .ok (.iconst (-1), 1) := by decide +kernel
theorem dX8_told_8 : decode cX8_told 8 = .ok (.ireturn, 1) := by decide +kernel
theorem dX8_told_9 : decode cX8_told 9 = .ok (.aload_n 0, 1) := by decide +kernel
theorem dX8_told_10 : decode cX8_told 10 = .ok (.getfield 21, 3) := by decide +kernel
theorem dX8_told_13 : decode cX8_told 13 = .ok (.iload_n 1, 1) := by decide +kernel
theorem dX8_told_14 : decode cX8_told 14 = .ok (.aaload, 1) := by decide +kernel
theorem dX8_told_15 : decode cX8_told 15 = .ok (.astore_n 3, 1) := by decide +kernel
theorem dX8_told_16 : decode cX8_told 16 = .ok (.iload_n 2, 1) := by decide +kernel
theorem dX8_told_17 : decode cX8_told 17 = .ok (.tableswitch 84 0 5 #[39, 47, 55, 60, 68, 76], 39) := by decide +kernel
theorem dX8_told_56 : decode cX8_told 56 = .ok (.aload_n 3, 1) := by decide +kernel
theorem dX8_told_57 : decode cX8_told 57 = .ok (.getfield 37, 3) := by decide +kernel
theorem dX8_told_60 : decode cX8_told 60 = .ok (.invokevirtual 86, 3) := by decide +kernel
theorem dX8_told_63 : decode cX8_told 63 = .ok (.ireturn, 1) := by decide +kernel
theorem dX8_told_64 : decode cX8_told 64 = .ok (.aload_n 3, 1) := by decide +kernel
theorem dX8_told_65 : decode cX8_told 65 = .ok (.getfield 37, 3) := by decide +kernel
theorem dX8_told_68 : decode cX8_told 68 = .ok (.getfield 89, 3) := by decide +kernel
theorem dX8_told_71 : decode cX8_told 71 = .ok (.ireturn, 1) := by decide +kernel
theorem dX8_told_72 : decode cX8_told 72 = .ok (.aload_n 3, 1) := by decide +kernel
theorem dX8_told_73 : decode cX8_told 73 = .ok (.getfield 47, 3) := by decide +kernel
theorem dX8_told_76 : decode cX8_told 76 = .ok (.ireturn, 1) := by decide +kernel
theorem dX8_told_77 : decode cX8_told 77 = .ok (.aload_n 3, 1) := by decide +kernel
theorem dX8_told_78 : decode cX8_told 78 = .ok (.getfield 92, 3) := by decide +kernel
theorem dX8_told_81 : decode cX8_told 81 = .ok (.getfield 96, 3) := by decide +kernel
theorem dX8_told_84 : decode cX8_told 84 = .ok (.ireturn, 1) := by decide +kernel
theorem dX8_told_85 : decode cX8_told 85 = .ok (.aload_n 3, 1) := by decide +kernel
theorem dX8_told_86 : decode cX8_told 86 = .ok (.getfield 92, 3) := by decide +kernel
theorem dX8_told_89 : decode cX8_told 89 = .ok (.getfield 101, 3) := by decide +kernel
theorem dX8_told_92 : decode cX8_told 92 = .ok (.ireturn, 1) := by decide +kernel
theorem dX8_told_93 : decode cX8_told 93 = .ok (.aload_n 3, 1) := by decide +kernel
theorem dX8_told_94 : decode cX8_told 94 = .ok (.getfield 37, 3) := by decide +kernel
theorem dX8_told_97 : decode cX8_told 97 = .ok (.getfield 104, 3) := by decide +kernel
theorem dX8_told_100 : decode cX8_told 100 = .ok (.ireturn, 1) := by decide +kernel
theorem dX8_told_101 : decode cX8_told 101 = .ok (.iconst (-1), 1) := by decide +kernel
theorem dX8_told_102 : decode cX8_told 102 = .ok (.ireturn, 1) := by decide +kernel
theorem dX8_queued_0 : decode cX8_queued 0 = .ok (.iload_n 1, 1) := by decide +kernel
theorem dX8_queued_1 : decode cX8_queued 1 = .ok (.invokestatic 33, 3) := by decide +kernel
theorem dX8_queued_4 : decode cX8_queued 4 = .ok (.ifCond .eq 23, 3) := by decide +kernel
theorem dX8_queued_7 : decode cX8_queued 7 = .ok (.iload_n 2, 1) := by decide +kernel
theorem dX8_queued_8 : decode cX8_queued 8 = .ok (.ifCond .lt 19, 3) := by decide +kernel
theorem dX8_queued_11 : decode cX8_queued 11 = .ok (.iload_n 2, 1) := by decide +kernel
theorem dX8_queued_12 : decode cX8_queued 12 = .ok (.aload_n 0, 1) := by decide +kernel
theorem dX8_queued_13 : decode cX8_queued 13 = .ok (.getfield 21, 3) := by decide +kernel
theorem dX8_queued_16 : decode cX8_queued 16 = .ok (.iload_n 1, 1) := by decide +kernel
theorem dX8_queued_17 : decode cX8_queued 17 = .ok (.aaload, 1) := by decide +kernel
theorem dX8_queued_18 : decode cX8_queued 18 = .ok (.getfield 37, 3) := by decide +kernel
theorem dX8_queued_21 : decode cX8_queued 21 = .ok (.invokevirtual 86, 3) := by decide +kernel
theorem dX8_queued_24 : decode cX8_queued 24 = .ok (.if_icmp .lt 5, 3) := by decide +kernel
theorem dX8_queued_27 : decode cX8_queued 27 = .ok (.iconst (-1), 1) := by decide +kernel
theorem dX8_queued_28 : decode cX8_queued 28 = .ok (.ireturn, 1) := by decide +kernel
theorem dX8_queued_29 : decode cX8_queued 29 = .ok (.aload_n 0, 1) := by decide +kernel
theorem dX8_queued_30 : decode cX8_queued 30 = .ok (.getfield 21, 3) := by decide +kernel
theorem dX8_queued_33 : decode cX8_queued 33 = .ok (.iload_n 1, 1) := by decide +kernel
theorem dX8_queued_34 : decode cX8_queued 34 = .ok (.aaload, 1) := by decide +kernel
theorem dX8_queued_35 : decode cX8_queued 35 = .ok (.getfield 37, 3) := by decide +kernel
theorem dX8_queued_38 : decode cX8_queued 38 = .ok (.getfield 107, 3) := by decide +kernel
theorem dX8_queued_41 : decode cX8_queued 41 = .ok (.iload_n 2, 1) := by decide +kernel
theorem dX8_queued_42 : decode cX8_queued 42 = .ok (.iadd, 1) := by decide +kernel
theorem dX8_queued_43 : decode cX8_queued 43 = .ok (.ireturn, 1) := by decide +kernel
theorem dX8_executed_0 : decode cX8_executed 0 = .ok (.aload_n 0, 1) := by decide +kernel
theorem dX8_executed_1 : decode cX8_executed 1 = .ok (.iload_n 1, 1) := by decide +kernel
theorem dX8_executed_2 : decode cX8_executed 2 = .ok (.iload_n 2, 1) := by decide +kernel
theorem dX8_executed_3 : decode cX8_executed 3 = .ok (.invokevirtual 110, 3) := by decide +kernel
theorem dX8_executed_6 : decode cX8_executed 6 = .ok (.astore_n 3, 1) := by decide +kernel
theorem dX8_executed_7 : decode cX8_executed 7 = .ok (.aload_n 3, 1) := by decide +kernel
theorem dX8_executed_8 : decode cX8_executed 8 = .ok (.ifnonnull 7, 3) := by decide +kernel
theorem dX8_executed_11 : decode cX8_executed 11 = .ok (.iconst (-1), 1) := by decide +kernel
theorem dX8_executed_12 : decode cX8_executed 12 = .ok (.goto 7, 3) := by decide +kernel
theorem dX8_executed_15 : decode cX8_executed 15 = .ok (.aload_n 3, 1) := by decide +kernel
theorem dX8_executed_16 : decode cX8_executed 16 = .ok (.getfield 114, 3) := by decide +kernel
theorem dX8_executed_19 : decode cX8_executed 19 = .ok (.ireturn, 1) := by decide +kernel
theorem dX8_file_0 : decode cX8_file 0 = .ok (.aload_n 0, 1) := by decide +kernel
theorem dX8_file_1 : decode cX8_file 1 = .ok (.iload_n 1, 1) := by decide +kernel
theorem dX8_file_2 : decode cX8_file 2 = .ok (.iload_n 2, 1) := by decide +kernel
theorem dX8_file_3 : decode cX8_file 3 = .ok (.invokevirtual 110, 3) := by decide +kernel
theorem dX8_file_6 : decode cX8_file 6 = .ok (.astore 4, 2) := by decide +kernel
theorem dX8_file_8 : decode cX8_file 8 = .ok (.aload 4, 2) := by decide +kernel
theorem dX8_file_10 : decode cX8_file 10 = .ok (.ifnull 17, 3) := by decide +kernel
theorem dX8_file_13 : decode cX8_file 13 = .ok (.iload_n 3, 1) := by decide +kernel
theorem dX8_file_14 : decode cX8_file 14 = .ok (.ifCond .lt 13, 3) := by decide +kernel
theorem dX8_file_17 : decode cX8_file 17 = .ok (.iload_n 3, 1) := by decide +kernel
theorem dX8_file_18 : decode cX8_file 18 = .ok (.aload 4, 2) := by decide +kernel
theorem dX8_file_20 : decode cX8_file 20 = .ok (.getfield 119, 3) := by decide +kernel
theorem dX8_file_23 : decode cX8_file 23 = .ok (.arraylength, 1) := by decide +kernel
theorem dX8_file_24 : decode cX8_file 24 = .ok (.if_icmp .lt 5, 3) := by decide +kernel
theorem dX8_file_27 : decode cX8_file 27 = .ok (.iconst (-1), 1) := by decide +kernel
theorem dX8_file_28 : decode cX8_file 28 = .ok (.ireturn, 1) := by decide +kernel
theorem dX8_file_29 : decode cX8_file 29 = .ok (.aload 4, 2) := by decide +kernel
theorem dX8_file_31 : decode cX8_file 31 = .ok (.getfield 119, 3) := by decide +kernel
theorem dX8_file_34 : decode cX8_file 34 = .ok (.iload_n 3, 1) := by decide +kernel
theorem dX8_file_35 : decode cX8_file 35 = .ok (.iaload, 1) := by decide +kernel
theorem dX8_file_36 : decode cX8_file 36 = .ok (.ireturn, 1) := by decide +kernel
theorem dX8_times_0 : decode cX8_times 0 = .ok (.iload_n 1, 1) := by decide +kernel
theorem dX8_times_1 : decode cX8_times 1 = .ok (.invokestatic 33, 3) := by decide +kernel
theorem dX8_times_4 : decode cX8_times 4 = .ok (.ifCond .eq 23, 3) := by decide +kernel
theorem dX8_times_7 : decode cX8_times 7 = .ok (.iload_n 2, 1) := by decide +kernel
theorem dX8_times_8 : decode cX8_times 8 = .ok (.ifCond .lt 19, 3) := by decide +kernel
theorem dX8_times_11 : decode cX8_times 11 = .ok (.iload_n 2, 1) := by decide +kernel
theorem dX8_times_12 : decode cX8_times 12 = .ok (.aload_n 0, 1) := by decide +kernel
theorem dX8_times_13 : decode cX8_times 13 = .ok (.getfield 21, 3) := by decide +kernel
theorem dX8_times_16 : decode cX8_times 16 = .ok (.iload_n 1, 1) := by decide +kernel
theorem dX8_times_17 : decode cX8_times 17 = .ok (.aaload, 1) := by decide +kernel
theorem dX8_times_18 : decode cX8_times 18 = .ok (.getfield 37, 3) := by decide +kernel
theorem dX8_times_21 : decode cX8_times 21 = .ok (.getfield 120, 3) := by decide +kernel
theorem dX8_times_24 : decode cX8_times 24 = .ok (.if_icmp .lt 5, 3) := by decide +kernel
theorem dX8_times_27 : decode cX8_times 27 = .ok (.iconst (-1), 1) := by decide +kernel
theorem dX8_times_28 : decode cX8_times 28 = .ok (.ireturn, 1) := by decide +kernel
theorem dX8_times_29 : decode cX8_times 29 = .ok (.aload_n 0, 1) := by decide +kernel
theorem dX8_times_30 : decode cX8_times 30 = .ok (.getfield 21, 3) := by decide +kernel
theorem dX8_times_33 : decode cX8_times 33 = .ok (.iconst 1, 1) := by decide +kernel
theorem dX8_times_34 : decode cX8_times 34 = .ok (.iload_n 1, 1) := by decide +kernel
theorem dX8_times_35 : decode cX8_times 35 = .ok (.isub, 1) := by decide +kernel
theorem dX8_times_36 : decode cX8_times 36 = .ok (.aaload, 1) := by decide +kernel
theorem dX8_times_37 : decode cX8_times 37 = .ok (.getfield 37, 3) := by decide +kernel
theorem dX8_times_40 : decode cX8_times 40 = .ok (.iload_n 2, 1) := by decide +kernel
theorem dX8_times_41 : decode cX8_times 41 = .ok (.invokevirtual 123, 3) := by decide +kernel
theorem dX8_times_44 : decode cX8_times 44 = .ok (.ifCond .eq 7, 3) := by decide +kernel
theorem dX8_times_47 : decode cX8_times 47 = .ok (.iconst 1, 1) := by decide +kernel
theorem dX8_times_48 : decode cX8_times 48 = .ok (.goto 4, 3) := by decide +kernel
theorem dX8_times_51 : decode cX8_times 51 = .ok (.iconst 0, 1) := by decide +kernel
theorem dX8_times_52 : decode cX8_times 52 = .ok (.ireturn, 1) := by decide +kernel
theorem dX8_isSite_0 : decode cX8_isSite 0 = .ok (.iload_n 0, 1) := by decide +kernel
theorem dX8_isSite_1 : decode cX8_isSite 1 = .ok (.ifCond .eq 8, 3) := by decide +kernel
theorem dX8_isSite_4 : decode cX8_isSite 4 = .ok (.iload_n 0, 1) := by decide +kernel
theorem dX8_isSite_5 : decode cX8_isSite 5 = .ok (.iconst 1, 1) := by decide +kernel
theorem dX8_isSite_6 : decode cX8_isSite 6 = .ok (.if_icmp .ne 7, 3) := by decide +kernel
theorem dX8_isSite_9 : decode cX8_isSite 9 = .ok (.iconst 1, 1) := by decide +kernel
theorem dX8_isSite_10 : decode cX8_isSite 10 = .ok (.goto 4, 3) := by decide +kernel
theorem dX8_isSite_13 : decode cX8_isSite 13 = .ok (.iconst 0, 1) := by decide +kernel
theorem dX8_isSite_14 : decode cX8_isSite 14 = .ok (.ireturn, 1) := by decide +kernel
theorem dX8_packetOn_0 : decode cX8_packetOn 0 = .ok (.iload_n 1, 1) := by decide +kernel
theorem dX8_packetOn_1 : decode cX8_packetOn 1 = .ok (.invokestatic 33, 3) := by decide +kernel
theorem dX8_packetOn_4 : decode cX8_packetOn 4 = .ok (.ifCond .eq 16, 3) := by decide +kernel
theorem dX8_packetOn_7 : decode cX8_packetOn 7 = .ok (.aload_n 0, 1) := by decide +kernel
theorem dX8_packetOn_8 : decode cX8_packetOn 8 = .ok (.getfield 10, 3) := by decide +kernel
theorem dX8_packetOn_11 : decode cX8_packetOn 11 = .ok (.iload_n 1, 1) := by decide +kernel
theorem dX8_packetOn_12 : decode cX8_packetOn 12 = .ok (.aaload, 1) := by decide +kernel
theorem dX8_packetOn_13 : decode cX8_packetOn 13 = .ok (.iload_n 2, 1) := by decide +kernel
theorem dX8_packetOn_14 : decode cX8_packetOn 14 = .ok (.invokevirtual 126, 3) := by decide +kernel
theorem dX8_packetOn_17 : decode cX8_packetOn 17 = .ok (.goto 4, 3) := by decide +kernel
theorem dX8_packetOn_20 : decode cX8_packetOn 20 = .ok (.aconst_null, 1) := by decide +kernel
theorem dX8_packetOn_21 : decode cX8_packetOn 21 = .ok (.areturn, 1) := by decide +kernel
theorem dX8_doneJob_0 : decode cX8_doneJob 0 = .ok (.iload_n 1, 1) := by decide +kernel
theorem dX8_doneJob_1 : decode cX8_doneJob 1 = .ok (.invokestatic 33, 3) := by decide +kernel
theorem dX8_doneJob_4 : decode cX8_doneJob 4 = .ok (.ifCond .eq 19, 3) := by decide +kernel
theorem dX8_doneJob_7 : decode cX8_doneJob 7 = .ok (.aload_n 0, 1) := by decide +kernel
theorem dX8_doneJob_8 : decode cX8_doneJob 8 = .ok (.getfield 21, 3) := by decide +kernel
theorem dX8_doneJob_11 : decode cX8_doneJob 11 = .ok (.iload_n 1, 1) := by decide +kernel
theorem dX8_doneJob_12 : decode cX8_doneJob 12 = .ok (.aaload, 1) := by decide +kernel
theorem dX8_doneJob_13 : decode cX8_doneJob 13 = .ok (.getfield 37, 3) := by decide +kernel
theorem dX8_doneJob_16 : decode cX8_doneJob 16 = .ok (.iload_n 2, 1) := by decide +kernel
theorem dX8_doneJob_17 : decode cX8_doneJob 17 = .ok (.invokevirtual 130, 3) := by decide +kernel
theorem dX8_doneJob_20 : decode cX8_doneJob 20 = .ok (.goto 4, 3) := by decide +kernel
theorem dX8_doneJob_23 : decode cX8_doneJob 23 = .ok (.aconst_null, 1) := by decide +kernel
theorem dX8_doneJob_24 : decode cX8_doneJob 24 = .ok (.areturn, 1) := by decide +kernel
theorem dX8_handOver_0 : decode cX8_handOver 0 = .ok (.aload_n 0, 1) := by decide +kernel
theorem dX8_handOver_1 : decode cX8_handOver 1 = .ok (.getfield 10, 3) := by decide +kernel
theorem dX8_handOver_4 : decode cX8_handOver 4 = .ok (.iload_n 1, 1) := by decide +kernel
theorem dX8_handOver_5 : decode cX8_handOver 5 = .ok (.aaload, 1) := by decide +kernel
theorem dX8_handOver_6 : decode cX8_handOver 6 = .ok (.iconst 0, 1) := by decide +kernel
theorem dX8_handOver_7 : decode cX8_handOver 7 = .ok (.invokevirtual 126, 3) := by decide +kernel
theorem dX8_handOver_10 : decode cX8_handOver 10 = .ok (.astore_n 2, 1) := by decide +kernel
theorem dX8_handOver_11 : decode cX8_handOver 11 = .ok (.aload_n 2, 1) := by decide +kernel
theorem dX8_handOver_12 : decode cX8_handOver 12 = .ok (.ifnonnull 5, 3) := by decide +kernel
theorem dX8_handOver_15 : decode cX8_handOver 15 = .ok (.iconst (-1), 1) := by decide +kernel
theorem dX8_handOver_16 : decode cX8_handOver 16 = .ok (.ireturn, 1) := by decide +kernel
theorem dX8_handOver_17 : decode cX8_handOver 17 = .ok (.aload_n 0, 1) := by decide +kernel
theorem dX8_handOver_18 : decode cX8_handOver 18 = .ok (.getfield 10, 3) := by decide +kernel
theorem dX8_handOver_21 : decode cX8_handOver 21 = .ok (.iload_n 1, 1) := by decide +kernel
theorem dX8_handOver_22 : decode cX8_handOver 22 = .ok (.aaload, 1) := by decide +kernel
theorem dX8_handOver_23 : decode cX8_handOver 23 = .ok (.invokevirtual 64, 3) := by decide +kernel
theorem dX8_handOver_26 : decode cX8_handOver 26 = .ok (.aload_n 0, 1) := by decide +kernel
theorem dX8_handOver_27 : decode cX8_handOver 27 = .ok (.getfield 21, 3) := by decide +kernel
theorem dX8_handOver_30 : decode cX8_handOver 30 = .ok (.iconst 1, 1) := by decide +kernel
theorem dX8_handOver_31 : decode cX8_handOver 31 = .ok (.iload_n 1, 1) := by decide +kernel
theorem dX8_handOver_32 : decode cX8_handOver 32 = .ok (.isub, 1) := by decide +kernel
theorem dX8_handOver_33 : decode cX8_handOver 33 = .ok (.aaload, 1) := by decide +kernel
theorem dX8_handOver_34 : decode cX8_handOver 34 = .ok (.aload_n 2, 1) := by decide +kernel
theorem dX8_handOver_35 : decode cX8_handOver 35 = .ok (.invokevirtual 133, 3) := by decide +kernel
theorem dX8_handOver_38 : decode cX8_handOver 38 = .ok (.ifCond .eq 7, 3) := by decide +kernel
theorem dX8_handOver_41 : decode cX8_handOver 41 = .ok (.iconst 1, 1) := by decide +kernel
theorem dX8_handOver_42 : decode cX8_handOver 42 = .ok (.goto 4, 3) := by decide +kernel
theorem dX8_handOver_45 : decode cX8_handOver 45 = .ok (.iconst 0, 1) := by decide +kernel
theorem dX8_handOver_46 : decode cX8_handOver 46 = .ok (.ireturn, 1) := by decide +kernel
end
section
theorem dX9_init_0 : decode cX9_init 0 = .ok (.aload_n 0, 1) := by decide +kernel
theorem dX9_init_1 : decode cX9_init 1 = .ok (.invokespecial 1, 3) := by decide +kernel
theorem dX9_init_4 : decode cX9_init 4 = .ok (.aload_n 0, 1) := by decide +kernel
theorem dX9_init_5 : decode cX9_init 5 = .ok (.iconst 2, 1) := by decide +kernel
theorem dX9_init_6 : decode cX9_init 6 = .ok (.newarray .int, 2) := by decide +kernel
theorem dX9_init_8 : decode cX9_init 8 = .ok (.putfield 7, 3) := by decide +kernel
theorem dX9_init_11 : decode cX9_init 11 = .ok (.aload_n 0, 1) := by decide +kernel
theorem dX9_init_12 : decode cX9_init 12 = .ok (.bipush 60, 2) := by decide +kernel
theorem dX9_init_14 : decode cX9_init 14 = .ok (.newarray .int, 2) := by decide +kernel
theorem dX9_init_16 : decode cX9_init 16 = .ok (.putfield 13, 3) := by decide +kernel
theorem dX9_init_19 : decode cX9_init 19 = .ok (.aload_n 0, 1) := by decide +kernel
theorem dX9_init_20 : decode cX9_init 20 = .ok (.sipush 6000, 3) := by decide +kernel
theorem dX9_init_23 : decode cX9_init 23 = .ok (.newarray .int, 2) := by decide +kernel
theorem dX9_init_25 : decode cX9_init 25 = .ok (.putfield 16, 3) := by decide +kernel
theorem dX9_init_28 : decode cX9_init 28 = .ok (.aload_n 0, 1) := by decide +kernel
theorem dX9_init_29 : decode cX9_init 29 = .ok (.iconst 2, 1) := by decide +kernel
theorem dX9_init_30 : decode cX9_init 30 = .ok (.newarray .int, 2) := by decide +kernel
theorem dX9_init_32 : decode cX9_init 32 = .ok (.putfield 19, 3) := by decide +kernel
theorem dX9_init_35 : decode cX9_init 35 = .ok (.aload_n 0, 1) := by decide +kernel
theorem dX9_init_36 : decode cX9_init 36 = .ok (.bipush 60, 2) := by decide +kernel
theorem dX9_init_38 : decode cX9_init 38 = .ok (.newarray .int, 2) := by decide +kernel
theorem dX9_init_40 : decode cX9_init 40 = .ok (.putfield 22, 3) := by decide +kernel
theorem dX9_init_43 : decode cX9_init 43 = .ok (.aload_n 0, 1) := by decide +kernel
theorem dX9_init_44 : decode cX9_init 44 = .ok (.iconst 2, 1) := by decide +kernel
theorem dX9_init_45 : decode cX9_init 45 = .ok (.newarray .int, 2) := by decide +kernel
theorem dX9_init_47 : decode cX9_init 47 = .ok (.putfield 25, 3) := by decide +kernel
theorem dX9_init_50 : decode cX9_init 50 = .ok (.aload_n 0, 1) := by decide +kernel
theorem dX9_init_51 : decode cX9_init 51 = .ok (.sipush 512, 3) := by decide +kernel
theorem dX9_init_54 : decode cX9_init 54 = .ok (.newarray .int, 2) := by decide +kernel
theorem dX9_init_56 : decode cX9_init 56 = .ok (.putfield 28, 3) := by decide +kernel
theorem dX9_init_59 : decode cX9_init 59 = .ok (.aload_n 0, 1) := by decide +kernel
theorem dX9_init_60 : decode cX9_init 60 = .ok (.sipush 512, 3) := by decide +kernel
theorem dX9_init_63 : decode cX9_init 63 = .ok (.newarray .int, 2) := by decide +kernel
theorem dX9_init_65 : decode cX9_init 65 = .ok (.putfield 31, 3) := by decide +kernel
theorem dX9_init_68 : decode cX9_init 68 = .ok (.aload_n 0, 1) := by decide +kernel
theorem dX9_init_69 : decode cX9_init 69 = .ok (.ldc 34, 2) := by decide +kernel
theorem dX9_init_71 : decode cX9_init 71 = .ok (.newarray .int, 2) := by decide +kernel
theorem dX9_init_73 : decode cX9_init 73 = .ok (.putfield 35, 3) := by decide +kernel
theorem dX9_init_76 : decode cX9_init 76 = .ok (.aload_n 0, 1) := by decide +kernel
theorem dX9_init_77 : decode cX9_init 77 = .ok (.iconst 2, 1) := by decide +kernel
theorem dX9_init_78 : decode cX9_init 78 = .ok (.newarray .int, 2) := by decide +kernel
theorem dX9_init_80 : decode cX9_init 80 = .ok (.putfield 38, 3) := by decide +kernel
theorem dX9_init_83 : decode cX9_init 83 = .ok (.aload_n 0, 1) := by decide +kernel
theorem dX9_init_84 : decode cX9_init 84 = .ok (.bipush 100, 2) := by decide +kernel
theorem dX9_init_86 : decode cX9_init 86 = .ok (.newarray .int, 2) := by decide +kernel
theorem dX9_init_88 : decode cX9_init 88 = .ok (.putfield 41, 3) := by decide +kernel
theorem dX9_init_91 : decode cX9_init 91 = .ok (.aload_n 0, 1) := by decide +kernel
theorem dX9_init_92 : decode cX9_init 92 = .ok (.iconst 2, 1) := by decide +kernel
theorem dX9_init_93 : decode cX9_init 93 = .ok (.newarray .int, 2) := by decide +kernel
theorem dX9_init_95 : decode cX9_init 95 = .ok (.putfield 44, 3) := by decide +kernel
theorem dX9_init_98 : decode cX9_init 98 = .ok (.aload_n 0, 1) := by decide +kernel
theorem dX9_init_99 : decode cX9_init 99 = .ok (.sipush 912, 3) := by decide +kernel
theorem dX9_init_102 : decode cX9_init 102 = .ok (.newarray .int, 2) := by decide +kernel
theorem dX9_init_104 : decode cX9_init 104 = .ok (.putfield 47, 3) := by decide +kernel
theorem dX9_init_107 : decode cX9_init 107 = .ok (.aload_n 0, 1) := by decide +kernel
theorem dX9_init_108 : decode cX9_init 108 = .ok (.bipush 24, 2) := by decide +kernel
theorem dX9_init_110 : decode cX9_init 110 = .ok (.newarray .int, 2) := by decide +kernel
theorem dX9_init_112 : decode cX9_init 112 = .ok (.putfield 50, 3) := by decide +kernel
theorem dX9_init_115 : decode cX9_init 115 = .ok (.aload_n 0, 1) := by decide +kernel
theorem dX9_init_116 : decode cX9_init 116 = .ok (.bipush 38, 2) := by decide +kernel
theorem dX9_init_118 : decode cX9_init 118 = .ok (.newarray .int, 2) := by decide +kernel
theorem dX9_init_120 : decode cX9_init 120 = .ok (.putfield 53, 3) := by decide +kernel
theorem dX9_init_123 : decode cX9_init 123 = .ok (.aload_n 0, 1) := by decide +kernel
theorem dX9_init_124 : decode cX9_init 124 = .ok (.iconst 2, 1) := by decide +kernel
theorem dX9_init_125 : decode cX9_init 125 = .ok (.newarray .int, 2) := by decide +kernel
theorem dX9_init_127 : decode cX9_init 127 = .ok (.putfield 56, 3) := by decide +kernel
theorem dX9_init_130 : decode cX9_init 130 = .ok (.aload_n 0, 1) := by decide +kernel
theorem dX9_init_131 : decode cX9_init 131 = .ok (.iconst 2, 1) := by decide +kernel
theorem dX9_init_132 : decode cX9_init 132 = .ok (.newarray .boolean, 2) := by decide +kernel
theorem dX9_init_134 : decode cX9_init 134 = .ok (.putfield 59, 3) := by decide +kernel
theorem dX9_init_137 : decode cX9_init 137 = .ok (.aload_n 0, 1) := by decide +kernel
theorem dX9_init_138 : decode cX9_init 138 = .ok (.iconst 2, 1) := by decide +kernel
theorem dX9_init_139 : decode cX9_init 139 = .ok (.newarray .int, 2) := by decide +kernel
theorem dX9_init_141 : decode cX9_init 141 = .ok (.putfield 63, 3) := by decide +kernel
theorem dX9_init_144 : decode cX9_init 144 = .ok (.aload_n 0, 1) := by decide +kernel
theorem dX9_init_145 : decode cX9_init 145 = .ok (.iconst 2, 1) := by decide +kernel
theorem dX9_init_146 : decode cX9_init 146 = .ok (.newarray .boolean, 2) := by decide +kernel
theorem dX9_init_148 : decode cX9_init 148 = .ok (.putfield 66, 3) := by decide +kernel
theorem dX9_init_151 : decode cX9_init 151 = .ok (.aload_n 0, 1) := by decide +kernel
theorem dX9_init_152 : decode cX9_init 152 = .ok (.iconst 2, 1) := by decide +kernel
theorem dX9_init_153 : decode cX9_init 153 = .ok (.newarray .int, 2) := by decide +kernel
theorem dX9_init_155 : decode cX9_init 155 = .ok (.putfield 69, 3) := by decide +kernel
theorem dX9_init_158 : decode cX9_init 158 = .ok (.aload_n 0, 1) := by decide +kernel
theorem dX9_init_159 : decode cX9_init 159 = .ok (.iconst 2, 1) := by decide +kernel
theorem dX9_init_160 : decode cX9_init 160 = .ok (.newarray .int, 2) := by decide +kernel
theorem dX9_init_162 : decode cX9_init 162 = .ok (.putfield 72, 3) := by decide +kernel
theorem dX9_init_165 : decode cX9_init 165 = .ok (.aload_n 0, 1) := by decide +kernel
theorem dX9_init_166 : decode cX9_init 166 = .ok (.iconst 2, 1) := by decide +kernel
theorem dX9_init_167 : decode cX9_init 167 = .ok (.newarray .int, 2) := by decide +kernel
theorem dX9_init_169 : decode cX9_init 169 = .ok (.putfield 75, 3) := by decide +kernel
theorem dX9_init_172 : decode cX9_init 172 = .ok (.aload_n 0, 1) := by decide +kernel
theorem dX9_init_173 : decode cX9_init 173 = .ok (.bipush 6, 2) := by decide +kernel
theorem dX9_init_175 : decode cX9_init 175 = .ok (.newarray .int, 2) := by decide +kernel
theorem dX9_init_177 : decode cX9_init 177 = .ok (.putfield 78, 3) := by decide +kernel
theorem dX9_init_180 : decode cX9_init 180 = .ok (.aload_n 0, 1) := by decide +kernel
theorem dX9_init_181 : decode cX9_init 181 = .ok (.sipush 192, 3) := by decide +kernel
theorem dX9_init_184 : decode cX9_init 184 = .ok (.newarray .int, 2) := by decide +kernel
theorem dX9_init_186 : decode cX9_init 186 = .ok (.putfield 81, 3) := by decide +kernel
theorem dX9_init_189 : decode cX9_init 189 = .ok (.aload_n 0, 1) := by decide +kernel
theorem dX9_init_190 : decode cX9_init 190 = .ok (.iconst 2, 1) := by decide +kernel
theorem dX9_init_191 : decode cX9_init 191 = .ok (.newarray .int, 2) := by decide +kernel
theorem dX9_init_193 : decode cX9_init 193 = .ok (.putfield 84, 3) := by decide +kernel
theorem dX9_init_196 : decode cX9_init 196 = .ok (.aload_n 0, 1) := by decide +kernel
theorem dX9_init_197 : decode cX9_init 197 = .ok (.sipush 1024, 3) := by decide +kernel
theorem dX9_init_200 : decode cX9_init 200 = .ok (.newarray .int, 2) := by decide +kernel
theorem dX9_init_202 : decode cX9_init 202 = .ok (.putfield 87, 3) := by decide +kernel
theorem dX9_init_205 : decode cX9_init 205 = .ok (.aload_n 0, 1) := by decide +kernel
theorem dX9_init_206 : decode cX9_init 206 = .ok (.iconst 2, 1) := by decide +kernel
theorem dX9_init_207 : decode cX9_init 207 = .ok (.newarray .boolean, 2) := by decide +kernel
theorem dX9_init_209 : decode cX9_init 209 = .ok (.putfield 90, 3) := by decide +kernel
theorem dX9_init_212 : decode cX9_init 212 = .ok (.aload_n 0, 1) := by decide +kernel
theorem dX9_init_213 : decode cX9_init 213 = .ok (.iconst 2, 1) := by decide +kernel
theorem dX9_init_214 : decode cX9_init 214 = .ok (.newarray .int, 2) := by decide +kernel
theorem dX9_init_216 : decode cX9_init 216 = .ok (.putfield 93, 3) := by decide +kernel
theorem dX9_init_219 : decode cX9_init 219 = .ok (.aload_n 0, 1) := by decide +kernel
theorem dX9_init_220 : decode cX9_init 220 = .ok (.iconst 2, 1) := by decide +kernel
theorem dX9_init_221 : decode cX9_init 221 = .ok (.newarray .int, 2) := by decide +kernel
theorem dX9_init_223 : decode cX9_init 223 = .ok (.putfield 96, 3) := by decide +kernel
theorem dX9_init_226 : decode cX9_init 226 = .ok (.aload_n 0, 1) := by decide +kernel
theorem dX9_init_227 : decode cX9_init 227 = .ok (.iconst 2, 1) := by decide +kernel
theorem dX9_init_228 : decode cX9_init 228 = .ok (.newarray .int, 2) := by decide +kernel
theorem dX9_init_230 : decode cX9_init 230 = .ok (.putfield 99, 3) := by decide +kernel
theorem dX9_init_233 : decode cX9_init 233 = .ok (.aload_n 0, 1) := by decide +kernel
theorem dX9_init_234 : decode cX9_init 234 = .ok (.sipush 200, 3) := by decide +kernel
theorem dX9_init_237 : decode cX9_init 237 = .ok (.newarray .int, 2) := by decide +kernel
theorem dX9_init_239 : decode cX9_init 239 = .ok (.putfield 102, 3) := by decide +kernel
theorem dX9_init_242 : decode cX9_init 242 = .ok (.aload_n 0, 1) := by decide +kernel
theorem dX9_init_243 : decode cX9_init 243 = .ok (.iconst 2, 1) := by decide +kernel
theorem dX9_init_244 : decode cX9_init 244 = .ok (.newarray .int, 2) := by decide +kernel
theorem dX9_init_246 : decode cX9_init 246 = .ok (.putfield 105, 3) := by decide +kernel
theorem dX9_init_249 : decode cX9_init 249 = .ok (.aload_n 0, 1) := by decide +kernel
theorem dX9_init_250 : decode cX9_init 250 = .ok (.iconst 2, 1) := by decide +kernel
theorem dX9_init_251 : decode cX9_init 251 = .ok (.newarray .int, 2) := by decide +kernel
theorem dX9_init_253 : decode cX9_init 253 = .ok (.putfield 108, 3) := by decide +kernel
theorem dX9_init_256 : decode cX9_init 256 = .ok (.aload_n 0, 1) := by decide +kernel
theorem dX9_init_257 : decode cX9_init 257 = .ok (.bipush 32, 2) := by decide +kernel
theorem dX9_init_259 : decode cX9_init 259 = .ok (.newarray .int, 2) := by decide +kernel
theorem dX9_init_261 : decode cX9_init 261 = .ok (.putfield 111, 3) := by decide +kernel
theorem dX9_init_264 : decode cX9_init 264 = .ok (.aload_n 0, 1) := by decide +kernel
theorem dX9_init_265 : decode cX9_init 265 = .ok (.bipush 32, 2) := by decide +kernel
theorem dX9_init_267 : decode cX9_init 267 = .ok (.newarray .int, 2) := by decide +kernel
theorem dX9_init_269 : decode cX9_init 269 = .ok (.putfield 114, 3) := by decide +kernel
theorem dX9_init_272 : decode cX9_init 272 = .ok (.return_, 1) := by decide +kernel
theorem dX9_isSite_0 : decode cX9_isSite 0 = .ok (.iload_n 0, 1) := by decide +kernel
theorem dX9_isSite_1 : decode cX9_isSite 1 = .ok (.ifCond .eq 8, 3) := by decide +kernel
theorem dX9_isSite_4 : decode cX9_isSite 4 = .ok (.iload_n 0, 1) := by decide +kernel
theorem dX9_isSite_5 : decode cX9_isSite 5 = .ok (.iconst 1, 1) := by decide +kernel
theorem dX9_isSite_6 : decode cX9_isSite 6 = .ok (.if_icmp .ne 7, 3) := by decide +kernel
theorem dX9_isSite_9 : decode cX9_isSite 9 = .ok (.iconst 1, 1) := by decide +kernel
theorem dX9_isSite_10 : decode cX9_isSite 10 = .ok (.goto 4, 3) := by decide +kernel
theorem dX9_isSite_13 : decode cX9_isSite 13 = .ok (.iconst 0, 1) := by decide +kernel
theorem dX9_isSite_14 : decode cX9_isSite 14 = .ok (.ireturn, 1) := by decide +kernel
theorem dX9_put_0 : decode cX9_put 0 = .ok (.aload_n 0, 1) := by decide +kernel
theorem dX9_put_1 : decode cX9_put 1 = .ok (.getfield 117, 3) := by decide +kernel
theorem dX9_put_4 : decode cX9_put 4 = .ok (.bipush 100, 2) := by decide +kernel
theorem dX9_put_6 : decode cX9_put 6 = .ok (.if_icmp .eq 14, 3) := by decide +kernel
theorem dX9_put_9 : decode cX9_put 9 = .ok (.iload_n 1, 1) := by decide +kernel
theorem dX9_put_10 : decode cX9_put 10 = .ok (.ifCond .lt 10, 3) := by decide +kernel
theorem dX9_put_13 : decode cX9_put 13 = .ok (.iload_n 1, 1) := by decide +kernel
theorem dX9_put_14 : decode cX9_put 14 = .ok (.sipush 255, 3) := by decide +kernel
theorem dX9_put_17 : decode cX9_put 17 = .ok (.if_icmp .le 5, 3) := by decide +kernel
theorem dX9_put_20 : decode cX9_put 20 = .ok (.iconst (-1), 1) := by decide +kernel
theorem dX9_put_21 : decode cX9_put 21 = .ok (.ireturn, 1) := by decide +kernel
theorem dX9_put_22 : decode cX9_put 22 = .ok (.aload_n 0, 1) := by decide +kernel
theorem dX9_put_23 : decode cX9_put 23 = .ok (.getfield 41, 3) := by decide +kernel
theorem dX9_put_26 : decode cX9_put 26 = .ok (.aload_n 0, 1) := by decide +kernel
theorem dX9_put_27 : decode cX9_put 27 = .ok (.getfield 117, 3) := by decide +kernel
theorem dX9_put_30 : decode cX9_put 30 = .ok (.iload_n 1, 1) := by decide +kernel
theorem dX9_put_31 : decode cX9_put 31 = .ok (.iastore, 1) := by decide +kernel
theorem dX9_put_32 : decode cX9_put 32 = .ok (.aload_n 0, 1) := by decide +kernel
theorem dX9_put_33 : decode cX9_put 33 = .ok (.dup, 1) := by decide +kernel
theorem dX9_put_34 : decode cX9_put 34 = .ok (.getfield 117, 3) := by decide +kernel
theorem dX9_put_37 : decode cX9_put 37 = .ok (.iconst 1, 1) := by decide +kernel
theorem dX9_put_38 : decode cX9_put 38 = .ok (.iadd, 1) := by decide +kernel
theorem dX9_put_39 : decode cX9_put 39 = .ok (.putfield 117, 3) := by decide +kernel
theorem dX9_put_42 : decode cX9_put 42 = .ok (.aload_n 0, 1) := by decide +kernel
theorem dX9_put_43 : decode cX9_put 43 = .ok (.getfield 117, 3) := by decide +kernel
theorem dX9_put_46 : decode cX9_put 46 = .ok (.ireturn, 1) := by decide +kernel
theorem dX9_queue_0 : decode cX9_queue 0 = .ok (.iload_n 1, 1) := by decide +kernel
theorem dX9_queue_1 : decode cX9_queue 1 = .ok (.invokestatic 121, 3) := by decide +kernel
theorem dX9_queue_4 : decode cX9_queue 4 = .ok (.ifCond .eq 14, 3) := by decide +kernel
theorem dX9_queue_7 : decode cX9_queue 7 = .ok (.aload_n 0, 1) := by decide +kernel
theorem dX9_queue_8 : decode cX9_queue 8 = .ok (.getfield 7, 3) := by decide +kernel
theorem dX9_queue_11 : decode cX9_queue 11 = .ok (.iload_n 1, 1) := by decide +kernel
theorem dX9_queue_12 : decode cX9_queue 12 = .ok (.iaload, 1) := by decide +kernel
theorem dX9_queue_13 : decode cX9_queue 13 = .ok (.bipush 30, 2) := by decide +kernel
theorem dX9_queue_15 : decode cX9_queue 15 = .ok (.if_icmp .ne 5, 3) := by decide +kernel
theorem dX9_queue_18 : decode cX9_queue 18 = .ok (.iconst (-1), 1) := by decide +kernel
theorem dX9_queue_19 : decode cX9_queue 19 = .ok (.ireturn, 1) := by decide +kernel
theorem dX9_queue_20 : decode cX9_queue 20 = .ok (.aload_n 0, 1) := by decide +kernel
theorem dX9_queue_21 : decode cX9_queue 21 = .ok (.getfield 7, 3) := by decide +kernel
theorem dX9_queue_24 : decode cX9_queue 24 = .ok (.iload_n 1, 1) := by decide +kernel
theorem dX9_queue_25 : decode cX9_queue 25 = .ok (.iaload, 1) := by decide +kernel
theorem dX9_queue_26 : decode cX9_queue 26 = .ok (.istore_n 2, 1) := by decide +kernel
theorem dX9_queue_27 : decode cX9_queue 27 = .ok (.aload_n 0, 1) := by decide +kernel
theorem dX9_queue_28 : decode cX9_queue 28 = .ok (.getfield 13, 3) := by decide +kernel
theorem dX9_queue_31 : decode cX9_queue 31 = .ok (.bipush 30, 2) := by decide +kernel
theorem dX9_queue_33 : decode cX9_queue 33 = .ok (.iload_n 1, 1) := by decide +kernel
theorem dX9_queue_34 : decode cX9_queue 34 = .ok (.imul, 1) := by decide +kernel
theorem dX9_queue_35 : decode cX9_queue 35 = .ok (.iload_n 2, 1) := by decide +kernel
theorem dX9_queue_36 : decode cX9_queue 36 = .ok (.iadd, 1) := by decide +kernel
theorem dX9_queue_37 : decode cX9_queue 37 = .ok (.aload_n 0, 1) := by decide +kernel
theorem dX9_queue_38 : decode cX9_queue 38 = .ok (.getfield 117, 3) := by decide +kernel
theorem dX9_queue_41 : decode cX9_queue 41 = .ok (.iastore, 1) := by decide +kernel
theorem dX9_queue_42 : decode cX9_queue 42 = .ok (.iconst 0, 1) := by decide +kernel
theorem dX9_queue_43 : decode cX9_queue 43 = .ok (.istore_n 3, 1) := by decide +kernel
theorem dX9_queue_44 : decode cX9_queue 44 = .ok (.iload_n 3, 1) := by decide +kernel
theorem dX9_queue_45 : decode cX9_queue 45 = .ok (.aload_n 0, 1) := by decide +kernel
theorem dX9_queue_46 : decode cX9_queue 46 = .ok (.getfield 117, 3) := by decide +kernel
theorem dX9_queue_49 : decode cX9_queue 49 = .ok (.if_icmp .ge 32, 3) := by decide +kernel
theorem dX9_queue_52 : decode cX9_queue 52 = .ok (.aload_n 0, 1) := by decide +kernel
theorem dX9_queue_53 : decode cX9_queue 53 = .ok (.getfield 16, 3) := by decide +kernel
theorem dX9_queue_56 : decode cX9_queue 56 = .ok (.sipush 3000, 3) := by decide +kernel
theorem dX9_queue_59 : decode cX9_queue 59 = .ok (.iload_n 1, 1) := by decide +kernel
theorem dX9_queue_60 : decode cX9_queue 60 = .ok (.imul, 1) := by decide +kernel
theorem dX9_queue_61 : decode cX9_queue 61 = .ok (.bipush 100, 2) := by decide +kernel
theorem dX9_queue_63 : decode cX9_queue 63 = .ok (.iload_n 2, 1) := by decide +kernel
theorem dX9_queue_64 : decode cX9_queue 64 = .ok (.imul, 1) := by decide +kernel
theorem dX9_queue_65 : decode cX9_queue 65 = .ok (.iadd, 1) := by decide +kernel
theorem dX9_queue_66 : decode cX9_queue 66 = .ok (.iload_n 3, 1) := by decide +kernel
theorem dX9_queue_67 : decode cX9_queue 67 = .ok (.iadd, 1) := by decide +kernel
theorem dX9_queue_68 : decode cX9_queue 68 = .ok (.aload_n 0, 1) := by decide +kernel
theorem dX9_queue_69 : decode cX9_queue 69 = .ok (.getfield 41, 3) := by decide +kernel
theorem dX9_queue_72 : decode cX9_queue 72 = .ok (.iload_n 3, 1) := by decide +kernel
theorem dX9_queue_73 : decode cX9_queue 73 = .ok (.iaload, 1) := by decide +kernel
theorem dX9_queue_74 : decode cX9_queue 74 = .ok (.iastore, 1) := by decide +kernel
theorem dX9_queue_75 : decode cX9_queue 75 = .ok (.iinc 3 1, 3) := by decide +kernel
theorem dX9_queue_78 : decode cX9_queue 78 = .ok (.goto (-34), 3) := by decide +kernel
theorem dX9_queue_81 : decode cX9_queue 81 = .ok (.aload_n 0, 1) := by decide +kernel
theorem dX9_queue_82 : decode cX9_queue 82 = .ok (.iconst 0, 1) := by decide +kernel
theorem dX9_queue_83 : decode cX9_queue 83 = .ok (.putfield 117, 3) := by decide +kernel
theorem dX9_queue_86 : decode cX9_queue 86 = .ok (.aload_n 0, 1) := by decide +kernel
theorem dX9_queue_87 : decode cX9_queue 87 = .ok (.getfield 22, 3) := by decide +kernel
theorem dX9_queue_90 : decode cX9_queue 90 = .ok (.bipush 30, 2) := by decide +kernel
theorem dX9_queue_92 : decode cX9_queue 92 = .ok (.iload_n 1, 1) := by decide +kernel
theorem dX9_queue_93 : decode cX9_queue 93 = .ok (.imul, 1) := by decide +kernel
theorem dX9_queue_94 : decode cX9_queue 94 = .ok (.aload_n 0, 1) := by decide +kernel
theorem dX9_queue_95 : decode cX9_queue 95 = .ok (.getfield 19, 3) := by decide +kernel
theorem dX9_queue_98 : decode cX9_queue 98 = .ok (.iload_n 1, 1) := by decide +kernel
theorem dX9_queue_99 : decode cX9_queue 99 = .ok (.iaload, 1) := by decide +kernel
theorem dX9_queue_100 : decode cX9_queue 100 = .ok (.iadd, 1) := by decide +kernel
theorem dX9_queue_101 : decode cX9_queue 101 = .ok (.iload_n 2, 1) := by decide +kernel
theorem dX9_queue_102 : decode cX9_queue 102 = .ok (.iastore, 1) := by decide +kernel
theorem dX9_queue_103 : decode cX9_queue 103 = .ok (.aload_n 0, 1) := by decide +kernel
theorem dX9_queue_104 : decode cX9_queue 104 = .ok (.getfield 19, 3) := by decide +kernel
theorem dX9_queue_107 : decode cX9_queue 107 = .ok (.iload_n 1, 1) := by decide +kernel
theorem dX9_queue_108 : decode cX9_queue 108 = .ok (.dup2, 1) := by decide +kernel
theorem dX9_queue_109 : decode cX9_queue 109 = .ok (.iaload, 1) := by decide +kernel
theorem dX9_queue_110 : decode cX9_queue 110 = .ok (.iconst 1, 1) := by decide +kernel
theorem dX9_queue_111 : decode cX9_queue 111 = .ok (.iadd, 1) := by decide +kernel
theorem dX9_queue_112 : decode cX9_queue 112 = .ok (.iastore, 1) := by decide +kernel
theorem dX9_queue_113 : decode cX9_queue 113 = .ok (.aload_n 0, 1) := by decide +kernel
theorem dX9_queue_114 : decode cX9_queue 114 = .ok (.getfield 7, 3) := by decide +kernel
theorem dX9_queue_117 : decode cX9_queue 117 = .ok (.iload_n 1, 1) := by decide +kernel
theorem dX9_queue_118 : decode cX9_queue 118 = .ok (.dup2, 1) := by decide +kernel
theorem dX9_queue_119 : decode cX9_queue 119 = .ok (.iaload, 1) := by decide +kernel
theorem dX9_queue_120 : decode cX9_queue 120 = .ok (.iconst 1, 1) := by decide +kernel
theorem dX9_queue_121 : decode cX9_queue 121 = .ok (.iadd, 1) := by decide +kernel
theorem dX9_queue_122 : decode cX9_queue 122 = .ok (.iastore, 1) := by decide +kernel
theorem dX9_queue_123 : decode cX9_queue 123 = .ok (.iload_n 2, 1) := by decide +kernel
theorem dX9_queue_124 : decode cX9_queue 124 = .ok (.ireturn, 1) := by decide +kernel
theorem dX9_leave_0 : decode cX9_leave 0 = .ok (.aload_n 0, 1) := by decide +kernel
theorem dX9_leave_1 : decode cX9_leave 1 = .ok (.getfield 19, 3) := by decide +kernel
theorem dX9_leave_4 : decode cX9_leave 4 = .ok (.iload_n 1, 1) := by decide +kernel
theorem dX9_leave_5 : decode cX9_leave 5 = .ok (.dup2, 1) := by decide +kernel
theorem dX9_leave_6 : decode cX9_leave 6 = .ok (.iaload, 1) := by decide +kernel
theorem dX9_leave_7 : decode cX9_leave 7 = .ok (.iconst 1, 1) := by decide +kernel
theorem dX9_leave_8 : decode cX9_leave 8 = .ok (.isub, 1) := by decide +kernel
theorem dX9_leave_9 : decode cX9_leave 9 = .ok (.iastore, 1) := by decide +kernel
theorem dX9_leave_10 : decode cX9_leave 10 = .ok (.iconst 0, 1) := by decide +kernel
theorem dX9_leave_11 : decode cX9_leave 11 = .ok (.istore_n 2, 1) := by decide +kernel
theorem dX9_leave_12 : decode cX9_leave 12 = .ok (.iload_n 2, 1) := by decide +kernel
theorem dX9_leave_13 : decode cX9_leave 13 = .ok (.aload_n 0, 1) := by decide +kernel
theorem dX9_leave_14 : decode cX9_leave 14 = .ok (.getfield 19, 3) := by decide +kernel
theorem dX9_leave_17 : decode cX9_leave 17 = .ok (.iload_n 1, 1) := by decide +kernel
theorem dX9_leave_18 : decode cX9_leave 18 = .ok (.iaload, 1) := by decide +kernel
theorem dX9_leave_19 : decode cX9_leave 19 = .ok (.if_icmp .ge 33, 3) := by decide +kernel
theorem dX9_leave_22 : decode cX9_leave 22 = .ok (.aload_n 0, 1) := by decide +kernel
theorem dX9_leave_23 : decode cX9_leave 23 = .ok (.getfield 22, 3) := by decide +kernel
theorem dX9_leave_26 : decode cX9_leave 26 = .ok (.bipush 30, 2) := by decide +kernel
theorem dX9_leave_28 : decode cX9_leave 28 = .ok (.iload_n 1, 1) := by decide +kernel
theorem dX9_leave_29 : decode cX9_leave 29 = .ok (.imul, 1) := by decide +kernel
theorem dX9_leave_30 : decode cX9_leave 30 = .ok (.iload_n 2, 1) := by decide +kernel
theorem dX9_leave_31 : decode cX9_leave 31 = .ok (.iadd, 1) := by decide +kernel
theorem dX9_leave_32 : decode cX9_leave 32 = .ok (.aload_n 0, 1) := by decide +kernel
theorem dX9_leave_33 : decode cX9_leave 33 = .ok (.getfield 22, 3) := by decide +kernel
theorem dX9_leave_36 : decode cX9_leave 36 = .ok (.bipush 30, 2) := by decide +kernel
theorem dX9_leave_38 : decode cX9_leave 38 = .ok (.iload_n 1, 1) := by decide +kernel
theorem dX9_leave_39 : decode cX9_leave 39 = .ok (.imul, 1) := by decide +kernel
theorem dX9_leave_40 : decode cX9_leave 40 = .ok (.iload_n 2, 1) := by decide +kernel
theorem dX9_leave_41 : decode cX9_leave 41 = .ok (.iadd, 1) := by decide +kernel
theorem dX9_leave_42 : decode cX9_leave 42 = .ok (.iconst 1, 1) := by decide +kernel
theorem dX9_leave_43 : decode cX9_leave 43 = .ok (.iadd, 1) := by decide +kernel
theorem dX9_leave_44 : decode cX9_leave 44 = .ok (.iaload, 1) := by decide +kernel
theorem dX9_leave_45 : decode cX9_leave 45 = .ok (.iastore, 1) := by decide +kernel
theorem dX9_leave_46 : decode cX9_leave 46 = .ok (.iinc 2 1, 3) := by decide +kernel
theorem dX9_leave_49 : decode cX9_leave 49 = .ok (.goto (-37), 3) := by decide +kernel
theorem dX9_leave_52 : decode cX9_leave 52 = .ok (.return_, 1) := by decide +kernel
theorem dX9_isExecuted_0 : decode cX9_isExecuted 0 = .ok (.iconst 0, 1) := by decide +kernel
theorem dX9_isExecuted_1 : decode cX9_isExecuted 1 = .ok (.istore_n 3, 1) := by decide +kernel
theorem dX9_isExecuted_2 : decode cX9_isExecuted 2 = .ok (.iconst 0, 1) := by decide +kernel
theorem dX9_isExecuted_3 : decode cX9_isExecuted 3 = .ok (.istore 4, 2) := by decide +kernel
theorem dX9_isExecuted_5 : decode cX9_isExecuted 5 = .ok (.iload 4, 2) := by decide +kernel
theorem dX9_isExecuted_7 : decode cX9_isExecuted 7 = .ok (.aload_n 0, 1) := by decide +kernel
theorem dX9_isExecuted_8 : decode cX9_isExecuted 8 = .ok (.getfield 25, 3) := by decide +kernel
theorem dX9_isExecuted_11 : decode cX9_isExecuted 11 = .ok (.iload_n 1, 1) := by decide +kernel
theorem dX9_isExecuted_12 : decode cX9_isExecuted 12 = .ok (.iaload, 1) := by decide +kernel
theorem dX9_isExecuted_13 : decode cX9_isExecuted 13 = .ok (.if_icmp .ge 36, 3) := by decide +kernel
theorem dX9_isExecuted_16 : decode cX9_isExecuted 16 = .ok (.iload_n 3, 1) := by decide +kernel
theorem dX9_isExecuted_17 : decode cX9_isExecuted 17 = .ok (.ifCond .ne 20, 3) := by decide +kernel
theorem dX9_isExecuted_20 : decode cX9_isExecuted 20 = .ok (.aload_n 0, 1) := by decide +kernel
theorem dX9_isExecuted_21 : decode cX9_isExecuted 21 = .ok (.getfield 28, 3) := by decide +kernel
theorem dX9_isExecuted_24 : decode cX9_isExecuted 24 = .ok (.sipush 256, 3) := by decide +kernel
theorem dX9_isExecuted_27 : decode cX9_isExecuted 27 = .ok (.iload_n 1, 1) := by decide +kernel
theorem dX9_isExecuted_28 : decode cX9_isExecuted 28 = .ok (.imul, 1) := by decide +kernel
theorem dX9_isExecuted_29 : decode cX9_isExecuted 29 = .ok (.iload 4, 2) := by decide +kernel
theorem dX9_isExecuted_31 : decode cX9_isExecuted 31 = .ok (.iadd, 1) := by decide +kernel
theorem dX9_isExecuted_32 : decode cX9_isExecuted 32 = .ok (.iaload, 1) := by decide +kernel
theorem dX9_isExecuted_33 : decode cX9_isExecuted 33 = .ok (.iload_n 2, 1) := by decide +kernel
theorem dX9_isExecuted_34 : decode cX9_isExecuted 34 = .ok (.if_icmp .ne 7, 3) := by decide +kernel
theorem dX9_isExecuted_37 : decode cX9_isExecuted 37 = .ok (.iconst 1, 1) := by decide +kernel
theorem dX9_isExecuted_38 : decode cX9_isExecuted 38 = .ok (.goto 4, 3) := by decide +kernel
theorem dX9_isExecuted_41 : decode cX9_isExecuted 41 = .ok (.iconst 0, 1) := by decide +kernel
theorem dX9_isExecuted_42 : decode cX9_isExecuted 42 = .ok (.istore_n 3, 1) := by decide +kernel
theorem dX9_isExecuted_43 : decode cX9_isExecuted 43 = .ok (.iinc 4 1, 3) := by decide +kernel
theorem dX9_isExecuted_46 : decode cX9_isExecuted 46 = .ok (.goto (-41), 3) := by decide +kernel
theorem dX9_isExecuted_49 : decode cX9_isExecuted 49 = .ok (.iload_n 3, 1) := by decide +kernel
theorem dX9_isExecuted_50 : decode cX9_isExecuted 50 = .ok (.ireturn, 1) := by decide +kernel
theorem dX9_left_0 : decode cX9_left 0 = .ok (.iload_n 0, 1) := by decide +kernel
theorem dX9_left_1 : decode cX9_left 1 = .ok (.iconst 1, 1) := by decide +kernel
theorem dX9_left_2 : decode cX9_left 2 = .ok (.ishl, 1) := by decide +kernel
theorem dX9_left_3 : decode cX9_left 3 = .ok (.iload_n 0, 1) := by decide +kernel
theorem dX9_left_4 : decode cX9_left 4 = .ok (.bipush 15, 2) := by decide +kernel
theorem dX9_left_6 : decode cX9_left 6 = .ok (.ishr, 1) := by decide +kernel
theorem dX9_left_7 : decode cX9_left 7 = .ok (.ior, 1) := by decide +kernel
theorem dX9_left_8 : decode cX9_left 8 = .ok (.ldc 125, 2) := by decide +kernel
theorem dX9_left_10 : decode cX9_left 10 = .ok (.iand, 1) := by decide +kernel
theorem dX9_left_11 : decode cX9_left 11 = .ok (.ireturn, 1) := by decide +kernel
theorem dX9_sum_0 : decode cX9_sum 0 = .ok (.ldc 125, 2) := by decide +kernel
theorem dX9_sum_2 : decode cX9_sum 2 = .ok (.istore_n 2, 1) := by decide +kernel
theorem dX9_sum_3 : decode cX9_sum 3 = .ok (.iconst 0, 1) := by decide +kernel
theorem dX9_sum_4 : decode cX9_sum 4 = .ok (.istore_n 3, 1) := by decide +kernel
theorem dX9_sum_5 : decode cX9_sum 5 = .ok (.iconst 0, 1) := by decide +kernel
theorem dX9_sum_6 : decode cX9_sum 6 = .ok (.istore 4, 2) := by decide +kernel
theorem dX9_sum_8 : decode cX9_sum 8 = .ok (.iload 4, 2) := by decide +kernel
theorem dX9_sum_10 : decode cX9_sum 10 = .ok (.bipush 32, 2) := by decide +kernel
theorem dX9_sum_12 : decode cX9_sum 12 = .ok (.if_icmp .ge 57, 3) := by decide +kernel
theorem dX9_sum_15 : decode cX9_sum 15 = .ok (.iload_n 2, 1) := by decide +kernel
theorem dX9_sum_16 : decode cX9_sum 16 = .ok (.istore 5, 2) := by decide +kernel
theorem dX9_sum_18 : decode cX9_sum 18 = .ok (.iload_n 2, 1) := by decide +kernel
theorem dX9_sum_19 : decode cX9_sum 19 = .ok (.invokestatic 126, 3) := by decide +kernel
theorem dX9_sum_22 : decode cX9_sum 22 = .ok (.aload_n 0, 1) := by decide +kernel
theorem dX9_sum_23 : decode cX9_sum 23 = .ok (.getfield 53, 3) := by decide +kernel
theorem dX9_sum_26 : decode cX9_sum 26 = .ok (.iload_n 1, 1) := by decide +kernel
theorem dX9_sum_27 : decode cX9_sum 27 = .ok (.iload 4, 2) := by decide +kernel
theorem dX9_sum_29 : decode cX9_sum 29 = .ok (.iadd, 1) := by decide +kernel
theorem dX9_sum_30 : decode cX9_sum 30 = .ok (.iaload, 1) := by decide +kernel
theorem dX9_sum_31 : decode cX9_sum 31 = .ok (.iadd, 1) := by decide +kernel
theorem dX9_sum_32 : decode cX9_sum 32 = .ok (.ldc 125, 2) := by decide +kernel
theorem dX9_sum_34 : decode cX9_sum 34 = .ok (.iand, 1) := by decide +kernel
theorem dX9_sum_35 : decode cX9_sum 35 = .ok (.istore_n 2, 1) := by decide +kernel
theorem dX9_sum_36 : decode cX9_sum 36 = .ok (.iload_n 3, 1) := by decide +kernel
theorem dX9_sum_37 : decode cX9_sum 37 = .ok (.iload_n 2, 1) := by decide +kernel
theorem dX9_sum_38 : decode cX9_sum 38 = .ok (.bipush 32, 2) := by decide +kernel
theorem dX9_sum_40 : decode cX9_sum 40 = .ok (.iload 4, 2) := by decide +kernel
theorem dX9_sum_42 : decode cX9_sum 42 = .ok (.isub, 1) := by decide +kernel
theorem dX9_sum_43 : decode cX9_sum 43 = .ok (.ixor, 1) := by decide +kernel
theorem dX9_sum_44 : decode cX9_sum 44 = .ok (.iadd, 1) := by decide +kernel
theorem dX9_sum_45 : decode cX9_sum 45 = .ok (.ldc 125, 2) := by decide +kernel
theorem dX9_sum_47 : decode cX9_sum 47 = .ok (.iand, 1) := by decide +kernel
theorem dX9_sum_48 : decode cX9_sum 48 = .ok (.istore_n 3, 1) := by decide +kernel
theorem dX9_sum_49 : decode cX9_sum 49 = .ok (.iload_n 2, 1) := by decide +kernel
theorem dX9_sum_50 : decode cX9_sum 50 = .ok (.iload 5, 2) := by decide +kernel
theorem dX9_sum_52 : decode cX9_sum 52 = .ok (.if_icmp .le 7, 3) := by decide +kernel
theorem dX9_sum_55 : decode cX9_sum 55 = .ok (.iload_n 2, 1) := by decide +kernel
theorem dX9_sum_56 : decode cX9_sum 56 = .ok (.goto 6, 3) := by decide +kernel
theorem dX9_sum_59 : decode cX9_sum 59 = .ok (.iload_n 2, 1) := by decide +kernel
theorem dX9_sum_60 : decode cX9_sum 60 = .ok (.iload_n 3, 1) := by decide +kernel
theorem dX9_sum_61 : decode cX9_sum 61 = .ok (.ixor, 1) := by decide +kernel
theorem dX9_sum_62 : decode cX9_sum 62 = .ok (.istore_n 2, 1) := by decide +kernel
theorem dX9_sum_63 : decode cX9_sum 63 = .ok (.iinc 4 1, 3) := by decide +kernel
theorem dX9_sum_66 : decode cX9_sum 66 = .ok (.goto (-58), 3) := by decide +kernel
theorem dX9_sum_69 : decode cX9_sum 69 = .ok (.iload_n 2, 1) := by decide +kernel
theorem dX9_sum_70 : decode cX9_sum 70 = .ok (.ireturn, 1) := by decide +kernel
theorem dX9_head_0 : decode cX9_head 0 = .ok (.iload_n 1, 1) := by decide +kernel
theorem dX9_head_1 : decode cX9_head 1 = .ok (.bipush 9, 2) := by decide +kernel
theorem dX9_head_3 : decode cX9_head 3 = .ok (.if_icmp .ne 13, 3) := by decide +kernel
theorem dX9_head_6 : decode cX9_head 6 = .ok (.ldc 130, 2) := by decide +kernel
theorem dX9_head_8 : decode cX9_head 8 = .ok (.iload_n 2, 1) := by decide +kernel
theorem dX9_head_9 : decode cX9_head 9 = .ok (.isub, 1) := by decide +kernel
theorem dX9_head_10 : decode cX9_head 10 = .ok (.ldc 125, 2) := by decide +kernel
theorem dX9_head_12 : decode cX9_head 12 = .ok (.iand, 1) := by decide +kernel
theorem dX9_head_13 : decode cX9_head 13 = .ok (.goto 17, 3) := by decide +kernel
theorem dX9_head_16 : decode cX9_head 16 = .ok (.ldc 130, 2) := by decide +kernel
theorem dX9_head_18 : decode cX9_head 18 = .ok (.aload_n 0, 1) := by decide +kernel
theorem dX9_head_19 : decode cX9_head 19 = .ok (.bipush 6, 2) := by decide +kernel
theorem dX9_head_21 : decode cX9_head 21 = .ok (.invokevirtual 131, 3) := by decide +kernel
theorem dX9_head_24 : decode cX9_head 24 = .ok (.iload_n 2, 1) := by decide +kernel
theorem dX9_head_25 : decode cX9_head 25 = .ok (.ixor, 1) := by decide +kernel
theorem dX9_head_26 : decode cX9_head 26 = .ok (.isub, 1) := by decide +kernel
theorem dX9_head_27 : decode cX9_head 27 = .ok (.ldc 125, 2) := by decide +kernel
theorem dX9_head_29 : decode cX9_head 29 = .ok (.iand, 1) := by decide +kernel
theorem dX9_head_30 : decode cX9_head 30 = .ok (.istore_n 3, 1) := by decide +kernel
theorem dX9_head_31 : decode cX9_head 31 = .ok (.aload_n 0, 1) := by decide +kernel
theorem dX9_head_32 : decode cX9_head 32 = .ok (.getfield 53, 3) := by decide +kernel
theorem dX9_head_35 : decode cX9_head 35 = .ok (.iconst 0, 1) := by decide +kernel
theorem dX9_head_36 : decode cX9_head 36 = .ok (.bipush 16, 2) := by decide +kernel
theorem dX9_head_38 : decode cX9_head 38 = .ok (.iastore, 1) := by decide +kernel
theorem dX9_head_39 : decode cX9_head 39 = .ok (.aload_n 0, 1) := by decide +kernel
theorem dX9_head_40 : decode cX9_head 40 = .ok (.getfield 53, 3) := by decide +kernel
theorem dX9_head_43 : decode cX9_head 43 = .ok (.iconst 1, 1) := by decide +kernel
theorem dX9_head_44 : decode cX9_head 44 = .ok (.iload_n 1, 1) := by decide +kernel
theorem dX9_head_45 : decode cX9_head 45 = .ok (.iastore, 1) := by decide +kernel
theorem dX9_head_46 : decode cX9_head 46 = .ok (.aload_n 0, 1) := by decide +kernel
theorem dX9_head_47 : decode cX9_head 47 = .ok (.getfield 53, 3) := by decide +kernel
theorem dX9_head_50 : decode cX9_head 50 = .ok (.iconst 2, 1) := by decide +kernel
theorem dX9_head_51 : decode cX9_head 51 = .ok (.iload_n 3, 1) := by decide +kernel
theorem dX9_head_52 : decode cX9_head 52 = .ok (.sipush 255, 3) := by decide +kernel
theorem dX9_head_55 : decode cX9_head 55 = .ok (.iand, 1) := by decide +kernel
theorem dX9_head_56 : decode cX9_head 56 = .ok (.iastore, 1) := by decide +kernel
theorem dX9_head_57 : decode cX9_head 57 = .ok (.aload_n 0, 1) := by decide +kernel
theorem dX9_head_58 : decode cX9_head 58 = .ok (.getfield 53, 3) := by decide +kernel
theorem dX9_head_61 : decode cX9_head 61 = .ok (.iconst 3, 1) := by decide +kernel
theorem dX9_head_62 : decode cX9_head 62 = .ok (.iload_n 3, 1) := by decide +kernel
theorem dX9_head_63 : decode cX9_head 63 = .ok (.bipush 8, 2) := by decide +kernel
theorem dX9_head_65 : decode cX9_head 65 = .ok (.ishr, 1) := by decide +kernel
theorem dX9_head_66 : decode cX9_head 66 = .ok (.iastore, 1) := by decide +kernel
theorem dX9_head_67 : decode cX9_head 67 = .ok (.aload_n 0, 1) := by decide +kernel
theorem dX9_head_68 : decode cX9_head 68 = .ok (.getfield 53, 3) := by decide +kernel
theorem dX9_head_71 : decode cX9_head 71 = .ok (.iconst 4, 1) := by decide +kernel
theorem dX9_head_72 : decode cX9_head 72 = .ok (.iload_n 2, 1) := by decide +kernel
theorem dX9_head_73 : decode cX9_head 73 = .ok (.iastore, 1) := by decide +kernel
theorem dX9_head_74 : decode cX9_head 74 = .ok (.aload_n 0, 1) := by decide +kernel
theorem dX9_head_75 : decode cX9_head 75 = .ok (.getfield 53, 3) := by decide +kernel
theorem dX9_head_78 : decode cX9_head 78 = .ok (.iconst 5, 1) := by decide +kernel
theorem dX9_head_79 : decode cX9_head 79 = .ok (.iload_n 1, 1) := by decide +kernel
theorem dX9_head_80 : decode cX9_head 80 = .ok (.aload_n 0, 1) := by decide +kernel
theorem dX9_head_81 : decode cX9_head 81 = .ok (.getfield 53, 3) := by decide +kernel
theorem dX9_head_84 : decode cX9_head 84 = .ok (.iconst 2, 1) := by decide +kernel
theorem dX9_head_85 : decode cX9_head 85 = .ok (.iaload, 1) := by decide +kernel
theorem dX9_head_86 : decode cX9_head 86 = .ok (.ixor, 1) := by decide +kernel
theorem dX9_head_87 : decode cX9_head 87 = .ok (.aload_n 0, 1) := by decide +kernel
theorem dX9_head_88 : decode cX9_head 88 = .ok (.getfield 53, 3) := by decide +kernel
theorem dX9_head_91 : decode cX9_head 91 = .ok (.iconst 3, 1) := by decide +kernel
theorem dX9_head_92 : decode cX9_head 92 = .ok (.iaload, 1) := by decide +kernel
theorem dX9_head_93 : decode cX9_head 93 = .ok (.ixor, 1) := by decide +kernel
theorem dX9_head_94 : decode cX9_head 94 = .ok (.iload_n 2, 1) := by decide +kernel
theorem dX9_head_95 : decode cX9_head 95 = .ok (.ixor, 1) := by decide +kernel
theorem dX9_head_96 : decode cX9_head 96 = .ok (.iastore, 1) := by decide +kernel
theorem dX9_head_97 : decode cX9_head 97 = .ok (.aload_n 0, 1) := by decide +kernel
theorem dX9_head_98 : decode cX9_head 98 = .ok (.iload_n 1, 1) := by decide +kernel
theorem dX9_head_99 : decode cX9_head 99 = .ok (.bipush 9, 2) := by decide +kernel
theorem dX9_head_101 : decode cX9_head 101 = .ok (.if_icmp .ne 8, 3) := by decide +kernel
theorem dX9_head_104 : decode cX9_head 104 = .ok (.bipush 6, 2) := by decide +kernel
theorem dX9_head_106 : decode cX9_head 106 = .ok (.goto 5, 3) := by decide +kernel
theorem dX9_head_109 : decode cX9_head 109 = .ok (.bipush 38, 2) := by decide +kernel
theorem dX9_head_111 : decode cX9_head 111 = .ok (.putfield 134, 3) := by decide +kernel
theorem dX9_head_114 : decode cX9_head 114 = .ok (.return_, 1) := by decide +kernel
theorem dX9_lay_0 : decode cX9_lay 0 = .ok (.aload_n 0, 1) := by decide +kernel
theorem dX9_lay_1 : decode cX9_lay 1 = .ok (.getfield 44, 3) := by decide +kernel
theorem dX9_lay_4 : decode cX9_lay 4 = .ok (.iload_n 1, 1) := by decide +kernel
theorem dX9_lay_5 : decode cX9_lay 5 = .ok (.iaload, 1) := by decide +kernel
theorem dX9_lay_6 : decode cX9_lay 6 = .ok (.bipush 12, 2) := by decide +kernel
theorem dX9_lay_8 : decode cX9_lay 8 = .ok (.if_icmp .ne 4, 3) := by decide +kernel
theorem dX9_lay_11 : decode cX9_lay 11 = .ok (.return_, 1) := by decide +kernel
theorem dX9_lay_12 : decode cX9_lay 12 = .ok (.bipush 12, 2) := by decide +kernel
theorem dX9_lay_14 : decode cX9_lay 14 = .ok (.iload_n 1, 1) := by decide +kernel
theorem dX9_lay_15 : decode cX9_lay 15 = .ok (.imul, 1) := by decide +kernel
theorem dX9_lay_16 : decode cX9_lay 16 = .ok (.aload_n 0, 1) := by decide +kernel
theorem dX9_lay_17 : decode cX9_lay 17 = .ok (.getfield 44, 3) := by decide +kernel
theorem dX9_lay_20 : decode cX9_lay 20 = .ok (.iload_n 1, 1) := by decide +kernel
theorem dX9_lay_21 : decode cX9_lay 21 = .ok (.iaload, 1) := by decide +kernel
theorem dX9_lay_22 : decode cX9_lay 22 = .ok (.iadd, 1) := by decide +kernel
theorem dX9_lay_23 : decode cX9_lay 23 = .ok (.istore_n 2, 1) := by decide +kernel
theorem dX9_lay_24 : decode cX9_lay 24 = .ok (.aload_n 0, 1) := by decide +kernel
theorem dX9_lay_25 : decode cX9_lay 25 = .ok (.getfield 50, 3) := by decide +kernel
theorem dX9_lay_28 : decode cX9_lay 28 = .ok (.iload_n 2, 1) := by decide +kernel
theorem dX9_lay_29 : decode cX9_lay 29 = .ok (.aload_n 0, 1) := by decide +kernel
theorem dX9_lay_30 : decode cX9_lay 30 = .ok (.getfield 134, 3) := by decide +kernel
theorem dX9_lay_33 : decode cX9_lay 33 = .ok (.iastore, 1) := by decide +kernel
theorem dX9_lay_34 : decode cX9_lay 34 = .ok (.iconst 0, 1) := by decide +kernel
theorem dX9_lay_35 : decode cX9_lay 35 = .ok (.istore_n 3, 1) := by decide +kernel
theorem dX9_lay_36 : decode cX9_lay 36 = .ok (.iload_n 3, 1) := by decide +kernel
theorem dX9_lay_37 : decode cX9_lay 37 = .ok (.bipush 38, 2) := by decide +kernel
theorem dX9_lay_39 : decode cX9_lay 39 = .ok (.if_icmp .ge 38, 3) := by decide +kernel
theorem dX9_lay_42 : decode cX9_lay 42 = .ok (.aload_n 0, 1) := by decide +kernel
theorem dX9_lay_43 : decode cX9_lay 43 = .ok (.getfield 47, 3) := by decide +kernel
theorem dX9_lay_46 : decode cX9_lay 46 = .ok (.bipush 38, 2) := by decide +kernel
theorem dX9_lay_48 : decode cX9_lay 48 = .ok (.iload_n 2, 1) := by decide +kernel
theorem dX9_lay_49 : decode cX9_lay 49 = .ok (.imul, 1) := by decide +kernel
theorem dX9_lay_50 : decode cX9_lay 50 = .ok (.iload_n 3, 1) := by decide +kernel
theorem dX9_lay_51 : decode cX9_lay 51 = .ok (.iadd, 1) := by decide +kernel
theorem dX9_lay_52 : decode cX9_lay 52 = .ok (.iload_n 3, 1) := by decide +kernel
theorem dX9_lay_53 : decode cX9_lay 53 = .ok (.aload_n 0, 1) := by decide +kernel
theorem dX9_lay_54 : decode cX9_lay 54 = .ok (.getfield 134, 3) := by decide +kernel
theorem dX9_lay_57 : decode cX9_lay 57 = .ok (.if_icmp .ge 12, 3) := by decide +kernel
theorem dX9_lay_60 : decode cX9_lay 60 = .ok (.aload_n 0, 1) := by decide +kernel
theorem dX9_lay_61 : decode cX9_lay 61 = .ok (.getfield 53, 3) := by decide +kernel
theorem dX9_lay_64 : decode cX9_lay 64 = .ok (.iload_n 3, 1) := by decide +kernel
theorem dX9_lay_65 : decode cX9_lay 65 = .ok (.iaload, 1) := by decide +kernel
theorem dX9_lay_66 : decode cX9_lay 66 = .ok (.goto 4, 3) := by decide +kernel
theorem dX9_lay_69 : decode cX9_lay 69 = .ok (.iconst 0, 1) := by decide +kernel
theorem dX9_lay_70 : decode cX9_lay 70 = .ok (.iastore, 1) := by decide +kernel
theorem dX9_lay_71 : decode cX9_lay 71 = .ok (.iinc 3 1, 3) := by decide +kernel
theorem dX9_lay_74 : decode cX9_lay 74 = .ok (.goto (-38), 3) := by decide +kernel
theorem dX9_lay_77 : decode cX9_lay 77 = .ok (.aload_n 0, 1) := by decide +kernel
theorem dX9_lay_78 : decode cX9_lay 78 = .ok (.getfield 44, 3) := by decide +kernel
theorem dX9_lay_81 : decode cX9_lay 81 = .ok (.iload_n 1, 1) := by decide +kernel
theorem dX9_lay_82 : decode cX9_lay 82 = .ok (.dup2, 1) := by decide +kernel
theorem dX9_lay_83 : decode cX9_lay 83 = .ok (.iaload, 1) := by decide +kernel
theorem dX9_lay_84 : decode cX9_lay 84 = .ok (.iconst 1, 1) := by decide +kernel
theorem dX9_lay_85 : decode cX9_lay 85 = .ok (.iadd, 1) := by decide +kernel
theorem dX9_lay_86 : decode cX9_lay 86 = .ok (.iastore, 1) := by decide +kernel
theorem dX9_lay_87 : decode cX9_lay 87 = .ok (.return_, 1) := by decide +kernel
theorem dX9_control_0 : decode cX9_control 0 = .ok (.aload_n 0, 1) := by decide +kernel
theorem dX9_control_1 : decode cX9_control 1 = .ok (.bipush 9, 2) := by decide +kernel
theorem dX9_control_3 : decode cX9_control 3 = .ok (.bipush 8, 2) := by decide +kernel
theorem dX9_control_5 : decode cX9_control 5 = .ok (.iload_n 2, 1) := by decide +kernel
theorem dX9_control_6 : decode cX9_control 6 = .ok (.imul, 1) := by decide +kernel
theorem dX9_control_7 : decode cX9_control 7 = .ok (.iload_n 3, 1) := by decide +kernel
theorem dX9_control_8 : decode cX9_control 8 = .ok (.iadd, 1) := by decide +kernel
theorem dX9_control_9 : decode cX9_control 9 = .ok (.invokevirtual 137, 3) := by decide +kernel
theorem dX9_control_12 : decode cX9_control 12 = .ok (.aload_n 0, 1) := by decide +kernel
theorem dX9_control_13 : decode cX9_control 13 = .ok (.iload_n 1, 1) := by decide +kernel
theorem dX9_control_14 : decode cX9_control 14 = .ok (.invokevirtual 141, 3) := by decide +kernel
theorem dX9_control_17 : decode cX9_control 17 = .ok (.return_, 1) := by decide +kernel
theorem dX9_data_0 : decode cX9_data 0 = .ok (.iconst 0, 1) := by decide +kernel
theorem dX9_data_1 : decode cX9_data 1 = .ok (.istore_n 3, 1) := by decide +kernel
theorem dX9_data_2 : decode cX9_data 2 = .ok (.iload_n 3, 1) := by decide +kernel
theorem dX9_data_3 : decode cX9_data 3 = .ok (.bipush 32, 2) := by decide +kernel
theorem dX9_data_5 : decode cX9_data 5 = .ok (.if_icmp .ge 34, 3) := by decide +kernel
theorem dX9_data_8 : decode cX9_data 8 = .ok (.aload_n 0, 1) := by decide +kernel
theorem dX9_data_9 : decode cX9_data 9 = .ok (.getfield 53, 3) := by decide +kernel
theorem dX9_data_12 : decode cX9_data 12 = .ok (.bipush 6, 2) := by decide +kernel
theorem dX9_data_14 : decode cX9_data 14 = .ok (.iload_n 3, 1) := by decide +kernel
theorem dX9_data_15 : decode cX9_data 15 = .ok (.iadd, 1) := by decide +kernel
theorem dX9_data_16 : decode cX9_data 16 = .ok (.aload_n 0, 1) := by decide +kernel
theorem dX9_data_17 : decode cX9_data 17 = .ok (.getfield 81, 3) := by decide +kernel
theorem dX9_data_20 : decode cX9_data 20 = .ok (.bipush 96, 2) := by decide +kernel
theorem dX9_data_22 : decode cX9_data 22 = .ok (.iload_n 1, 1) := by decide +kernel
theorem dX9_data_23 : decode cX9_data 23 = .ok (.imul, 1) := by decide +kernel
theorem dX9_data_24 : decode cX9_data 24 = .ok (.bipush 32, 2) := by decide +kernel
theorem dX9_data_26 : decode cX9_data 26 = .ok (.iload_n 2, 1) := by decide +kernel
theorem dX9_data_27 : decode cX9_data 27 = .ok (.imul, 1) := by decide +kernel
theorem dX9_data_28 : decode cX9_data 28 = .ok (.iadd, 1) := by decide +kernel
theorem dX9_data_29 : decode cX9_data 29 = .ok (.iload_n 3, 1) := by decide +kernel
theorem dX9_data_30 : decode cX9_data 30 = .ok (.iadd, 1) := by decide +kernel
theorem dX9_data_31 : decode cX9_data 31 = .ok (.iaload, 1) := by decide +kernel
theorem dX9_data_32 : decode cX9_data 32 = .ok (.iastore, 1) := by decide +kernel
theorem dX9_data_33 : decode cX9_data 33 = .ok (.iinc 3 1, 3) := by decide +kernel
theorem dX9_data_36 : decode cX9_data 36 = .ok (.goto (-34), 3) := by decide +kernel
theorem dX9_data_39 : decode cX9_data 39 = .ok (.aload_n 0, 1) := by decide +kernel
theorem dX9_data_40 : decode cX9_data 40 = .ok (.iconst 1, 1) := by decide +kernel
theorem dX9_data_41 : decode cX9_data 41 = .ok (.sipush 128, 3) := by decide +kernel
theorem dX9_data_44 : decode cX9_data 44 = .ok (.bipush 8, 2) := by decide +kernel
theorem dX9_data_46 : decode cX9_data 46 = .ok (.aload_n 0, 1) := by decide +kernel
theorem dX9_data_47 : decode cX9_data 47 = .ok (.getfield 78, 3) := by decide +kernel
theorem dX9_data_50 : decode cX9_data 50 = .ok (.iconst 3, 1) := by decide +kernel
theorem dX9_data_51 : decode cX9_data 51 = .ok (.iload_n 1, 1) := by decide +kernel
theorem dX9_data_52 : decode cX9_data 52 = .ok (.imul, 1) := by decide +kernel
theorem dX9_data_53 : decode cX9_data 53 = .ok (.iload_n 2, 1) := by decide +kernel
theorem dX9_data_54 : decode cX9_data 54 = .ok (.iadd, 1) := by decide +kernel
theorem dX9_data_55 : decode cX9_data 55 = .ok (.iaload, 1) := by decide +kernel
theorem dX9_data_56 : decode cX9_data 56 = .ok (.imul, 1) := by decide +kernel
theorem dX9_data_57 : decode cX9_data 57 = .ok (.iadd, 1) := by decide +kernel
theorem dX9_data_58 : decode cX9_data 58 = .ok (.aload_n 0, 1) := by decide +kernel
theorem dX9_data_59 : decode cX9_data 59 = .ok (.getfield 69, 3) := by decide +kernel
theorem dX9_data_62 : decode cX9_data 62 = .ok (.iload_n 1, 1) := by decide +kernel
theorem dX9_data_63 : decode cX9_data 63 = .ok (.iaload, 1) := by decide +kernel
theorem dX9_data_64 : decode cX9_data 64 = .ok (.iadd, 1) := by decide +kernel
theorem dX9_data_65 : decode cX9_data 65 = .ok (.invokevirtual 137, 3) := by decide +kernel
theorem dX9_data_68 : decode cX9_data 68 = .ok (.aload_n 0, 1) := by decide +kernel
theorem dX9_data_69 : decode cX9_data 69 = .ok (.iload_n 1, 1) := by decide +kernel
theorem dX9_data_70 : decode cX9_data 70 = .ok (.invokevirtual 141, 3) := by decide +kernel
theorem dX9_data_73 : decode cX9_data 73 = .ok (.return_, 1) := by decide +kernel
theorem dX9_isGood_0 : decode cX9_isGood 0 = .ok (.aload_n 0, 1) := by decide +kernel
theorem dX9_isGood_1 : decode cX9_isGood 1 = .ok (.getfield 53, 3) := by decide +kernel
theorem dX9_isGood_4 : decode cX9_isGood 4 = .ok (.iconst 1, 1) := by decide +kernel
theorem dX9_isGood_5 : decode cX9_isGood 5 = .ok (.iaload, 1) := by decide +kernel
theorem dX9_isGood_6 : decode cX9_isGood 6 = .ok (.istore_n 1, 1) := by decide +kernel
theorem dX9_isGood_7 : decode cX9_isGood 7 = .ok (.aload_n 0, 1) := by decide +kernel
theorem dX9_isGood_8 : decode cX9_isGood 8 = .ok (.getfield 53, 3) := by decide +kernel
theorem dX9_isGood_11 : decode cX9_isGood 11 = .ok (.iconst 4, 1) := by decide +kernel
theorem dX9_isGood_12 : decode cX9_isGood 12 = .ok (.iaload, 1) := by decide +kernel
theorem dX9_isGood_13 : decode cX9_isGood 13 = .ok (.istore_n 2, 1) := by decide +kernel
theorem dX9_isGood_14 : decode cX9_isGood 14 = .ok (.aload_n 0, 1) := by decide +kernel
theorem dX9_isGood_15 : decode cX9_isGood 15 = .ok (.getfield 53, 3) := by decide +kernel
theorem dX9_isGood_18 : decode cX9_isGood 18 = .ok (.iconst 0, 1) := by decide +kernel
theorem dX9_isGood_19 : decode cX9_isGood 19 = .ok (.iaload, 1) := by decide +kernel
theorem dX9_isGood_20 : decode cX9_isGood 20 = .ok (.bipush 16, 2) := by decide +kernel
theorem dX9_isGood_22 : decode cX9_isGood 22 = .ok (.if_icmp .ne 60, 3) := by decide +kernel
theorem dX9_isGood_25 : decode cX9_isGood 25 = .ok (.aload_n 0, 1) := by decide +kernel
theorem dX9_isGood_26 : decode cX9_isGood 26 = .ok (.getfield 134, 3) := by decide +kernel
theorem dX9_isGood_29 : decode cX9_isGood 29 = .ok (.iload_n 1, 1) := by decide +kernel
theorem dX9_isGood_30 : decode cX9_isGood 30 = .ok (.bipush 9, 2) := by decide +kernel
theorem dX9_isGood_32 : decode cX9_isGood 32 = .ok (.if_icmp .ne 8, 3) := by decide +kernel
theorem dX9_isGood_35 : decode cX9_isGood 35 = .ok (.bipush 6, 2) := by decide +kernel
theorem dX9_isGood_37 : decode cX9_isGood 37 = .ok (.goto 5, 3) := by decide +kernel
theorem dX9_isGood_40 : decode cX9_isGood 40 = .ok (.bipush 38, 2) := by decide +kernel
theorem dX9_isGood_42 : decode cX9_isGood 42 = .ok (.if_icmp .ne 40, 3) := by decide +kernel
theorem dX9_isGood_45 : decode cX9_isGood 45 = .ok (.iload_n 1, 1) := by decide +kernel
theorem dX9_isGood_46 : decode cX9_isGood 46 = .ok (.bipush 9, 2) := by decide +kernel
theorem dX9_isGood_48 : decode cX9_isGood 48 = .ok (.if_icmp .eq 8, 3) := by decide +kernel
theorem dX9_isGood_51 : decode cX9_isGood 51 = .ok (.iload_n 1, 1) := by decide +kernel
theorem dX9_isGood_52 : decode cX9_isGood 52 = .ok (.iconst 1, 1) := by decide +kernel
theorem dX9_isGood_53 : decode cX9_isGood 53 = .ok (.if_icmp .ne 29, 3) := by decide +kernel
theorem dX9_isGood_56 : decode cX9_isGood 56 = .ok (.aload_n 0, 1) := by decide +kernel
theorem dX9_isGood_57 : decode cX9_isGood 57 = .ok (.getfield 53, 3) := by decide +kernel
theorem dX9_isGood_60 : decode cX9_isGood 60 = .ok (.iconst 5, 1) := by decide +kernel
theorem dX9_isGood_61 : decode cX9_isGood 61 = .ok (.iaload, 1) := by decide +kernel
theorem dX9_isGood_62 : decode cX9_isGood 62 = .ok (.iload_n 1, 1) := by decide +kernel
theorem dX9_isGood_63 : decode cX9_isGood 63 = .ok (.aload_n 0, 1) := by decide +kernel
theorem dX9_isGood_64 : decode cX9_isGood 64 = .ok (.getfield 53, 3) := by decide +kernel
theorem dX9_isGood_67 : decode cX9_isGood 67 = .ok (.iconst 2, 1) := by decide +kernel
theorem dX9_isGood_68 : decode cX9_isGood 68 = .ok (.iaload, 1) := by decide +kernel
theorem dX9_isGood_69 : decode cX9_isGood 69 = .ok (.ixor, 1) := by decide +kernel
theorem dX9_isGood_70 : decode cX9_isGood 70 = .ok (.aload_n 0, 1) := by decide +kernel
theorem dX9_isGood_71 : decode cX9_isGood 71 = .ok (.getfield 53, 3) := by decide +kernel
theorem dX9_isGood_74 : decode cX9_isGood 74 = .ok (.iconst 3, 1) := by decide +kernel
theorem dX9_isGood_75 : decode cX9_isGood 75 = .ok (.iaload, 1) := by decide +kernel
theorem dX9_isGood_76 : decode cX9_isGood 76 = .ok (.ixor, 1) := by decide +kernel
theorem dX9_isGood_77 : decode cX9_isGood 77 = .ok (.iload_n 2, 1) := by decide +kernel
theorem dX9_isGood_78 : decode cX9_isGood 78 = .ok (.ixor, 1) := by decide +kernel
theorem dX9_isGood_79 : decode cX9_isGood 79 = .ok (.if_icmp .eq 5, 3) := by decide +kernel
theorem dX9_isGood_82 : decode cX9_isGood 82 = .ok (.iconst 0, 1) := by decide +kernel
theorem dX9_isGood_83 : decode cX9_isGood 83 = .ok (.ireturn, 1) := by decide +kernel
theorem dX9_isGood_84 : decode cX9_isGood 84 = .ok (.aload_n 0, 1) := by decide +kernel
theorem dX9_isGood_85 : decode cX9_isGood 85 = .ok (.getfield 53, 3) := by decide +kernel
theorem dX9_isGood_88 : decode cX9_isGood 88 = .ok (.iconst 2, 1) := by decide +kernel
theorem dX9_isGood_89 : decode cX9_isGood 89 = .ok (.iaload, 1) := by decide +kernel
theorem dX9_isGood_90 : decode cX9_isGood 90 = .ok (.aload_n 0, 1) := by decide +kernel
theorem dX9_isGood_91 : decode cX9_isGood 91 = .ok (.getfield 53, 3) := by decide +kernel
theorem dX9_isGood_94 : decode cX9_isGood 94 = .ok (.iconst 3, 1) := by decide +kernel
theorem dX9_isGood_95 : decode cX9_isGood 95 = .ok (.iaload, 1) := by decide +kernel
theorem dX9_isGood_96 : decode cX9_isGood 96 = .ok (.bipush 8, 2) := by decide +kernel
theorem dX9_isGood_98 : decode cX9_isGood 98 = .ok (.ishl, 1) := by decide +kernel
theorem dX9_isGood_99 : decode cX9_isGood 99 = .ok (.ior, 1) := by decide +kernel
theorem dX9_isGood_100 : decode cX9_isGood 100 = .ok (.istore_n 3, 1) := by decide +kernel
theorem dX9_isGood_101 : decode cX9_isGood 101 = .ok (.iload_n 2, 1) := by decide +kernel
theorem dX9_isGood_102 : decode cX9_isGood 102 = .ok (.iconst 3, 1) := by decide +kernel
theorem dX9_isGood_103 : decode cX9_isGood 103 = .ok (.ishr, 1) := by decide +kernel
theorem dX9_isGood_104 : decode cX9_isGood 104 = .ok (.bipush 7, 2) := by decide +kernel
theorem dX9_isGood_106 : decode cX9_isGood 106 = .ok (.iand, 1) := by decide +kernel
theorem dX9_isGood_107 : decode cX9_isGood 107 = .ok (.istore 4, 2) := by decide +kernel
theorem dX9_isGood_109 : decode cX9_isGood 109 = .ok (.iload_n 1, 1) := by decide +kernel
theorem dX9_isGood_110 : decode cX9_isGood 110 = .ok (.bipush 9, 2) := by decide +kernel
theorem dX9_isGood_112 : decode cX9_isGood 112 = .ok (.if_icmp .ne 57, 3) := by decide +kernel
theorem dX9_isGood_115 : decode cX9_isGood 115 = .ok (.iload_n 2, 1) := by decide +kernel
theorem dX9_isGood_116 : decode cX9_isGood 116 = .ok (.bipush 64, 2) := by decide +kernel
theorem dX9_isGood_118 : decode cX9_isGood 118 = .ok (.if_icmp .ge 49, 3) := by decide +kernel
theorem dX9_isGood_121 : decode cX9_isGood 121 = .ok (.iload 4, 2) := by decide +kernel
theorem dX9_isGood_123 : decode cX9_isGood 123 = .ok (.iconst 1, 1) := by decide +kernel
theorem dX9_isGood_124 : decode cX9_isGood 124 = .ok (.if_icmp .eq 28, 3) := by decide +kernel
theorem dX9_isGood_127 : decode cX9_isGood 127 = .ok (.iload 4, 2) := by decide +kernel
theorem dX9_isGood_129 : decode cX9_isGood 129 = .ok (.iconst 2, 1) := by decide +kernel
theorem dX9_isGood_130 : decode cX9_isGood 130 = .ok (.if_icmp .eq 22, 3) := by decide +kernel
theorem dX9_isGood_133 : decode cX9_isGood 133 = .ok (.iload 4, 2) := by decide +kernel
theorem dX9_isGood_135 : decode cX9_isGood 135 = .ok (.iconst 4, 1) := by decide +kernel
theorem dX9_isGood_136 : decode cX9_isGood 136 = .ok (.if_icmp .eq 16, 3) := by decide +kernel
theorem dX9_isGood_139 : decode cX9_isGood 139 = .ok (.iload 4, 2) := by decide +kernel
theorem dX9_isGood_141 : decode cX9_isGood 141 = .ok (.iconst 5, 1) := by decide +kernel
theorem dX9_isGood_142 : decode cX9_isGood 142 = .ok (.if_icmp .eq 10, 3) := by decide +kernel
theorem dX9_isGood_145 : decode cX9_isGood 145 = .ok (.iload 4, 2) := by decide +kernel
theorem dX9_isGood_147 : decode cX9_isGood 147 = .ok (.bipush 7, 2) := by decide +kernel
theorem dX9_isGood_149 : decode cX9_isGood 149 = .ok (.if_icmp .ne 18, 3) := by decide +kernel
theorem dX9_isGood_152 : decode cX9_isGood 152 = .ok (.iload_n 3, 1) := by decide +kernel
theorem dX9_isGood_153 : decode cX9_isGood 153 = .ok (.ldc 130, 2) := by decide +kernel
theorem dX9_isGood_155 : decode cX9_isGood 155 = .ok (.iload_n 2, 1) := by decide +kernel
theorem dX9_isGood_156 : decode cX9_isGood 156 = .ok (.isub, 1) := by decide +kernel
theorem dX9_isGood_157 : decode cX9_isGood 157 = .ok (.ldc 125, 2) := by decide +kernel
theorem dX9_isGood_159 : decode cX9_isGood 159 = .ok (.iand, 1) := by decide +kernel
theorem dX9_isGood_160 : decode cX9_isGood 160 = .ok (.if_icmp .ne 7, 3) := by decide +kernel
theorem dX9_isGood_163 : decode cX9_isGood 163 = .ok (.iconst 1, 1) := by decide +kernel
theorem dX9_isGood_164 : decode cX9_isGood 164 = .ok (.goto 4, 3) := by decide +kernel
theorem dX9_isGood_167 : decode cX9_isGood 167 = .ok (.iconst 0, 1) := by decide +kernel
theorem dX9_isGood_168 : decode cX9_isGood 168 = .ok (.ireturn, 1) := by decide +kernel
theorem dX9_isGood_169 : decode cX9_isGood 169 = .ok (.aload_n 0, 1) := by decide +kernel
theorem dX9_isGood_170 : decode cX9_isGood 170 = .ok (.getfield 53, 3) := by decide +kernel
theorem dX9_isGood_173 : decode cX9_isGood 173 = .ok (.bipush 6, 2) := by decide +kernel
theorem dX9_isGood_175 : decode cX9_isGood 175 = .ok (.iaload, 1) := by decide +kernel
theorem dX9_isGood_176 : decode cX9_isGood 176 = .ok (.istore 5, 2) := by decide +kernel
theorem dX9_isGood_178 : decode cX9_isGood 178 = .ok (.iload_n 2, 1) := by decide +kernel
theorem dX9_isGood_179 : decode cX9_isGood 179 = .ok (.bipush 6, 2) := by decide +kernel
theorem dX9_isGood_181 : decode cX9_isGood 181 = .ok (.ishr, 1) := by decide +kernel
theorem dX9_isGood_182 : decode cX9_isGood 182 = .ok (.iconst 2, 1) := by decide +kernel
theorem dX9_isGood_183 : decode cX9_isGood 183 = .ok (.if_icmp .ne 38, 3) := by decide +kernel
theorem dX9_isGood_186 : decode cX9_isGood 186 = .ok (.iload_n 3, 1) := by decide +kernel
theorem dX9_isGood_187 : decode cX9_isGood 187 = .ok (.ldc 130, 2) := by decide +kernel
theorem dX9_isGood_189 : decode cX9_isGood 189 = .ok (.aload_n 0, 1) := by decide +kernel
theorem dX9_isGood_190 : decode cX9_isGood 190 = .ok (.bipush 6, 2) := by decide +kernel
theorem dX9_isGood_192 : decode cX9_isGood 192 = .ok (.invokevirtual 131, 3) := by decide +kernel
theorem dX9_isGood_195 : decode cX9_isGood 195 = .ok (.iload_n 2, 1) := by decide +kernel
theorem dX9_isGood_196 : decode cX9_isGood 196 = .ok (.ixor, 1) := by decide +kernel
theorem dX9_isGood_197 : decode cX9_isGood 197 = .ok (.isub, 1) := by decide +kernel
theorem dX9_isGood_198 : decode cX9_isGood 198 = .ok (.ldc 125, 2) := by decide +kernel
theorem dX9_isGood_200 : decode cX9_isGood 200 = .ok (.iand, 1) := by decide +kernel
theorem dX9_isGood_201 : decode cX9_isGood 201 = .ok (.if_icmp .ne 20, 3) := by decide +kernel
theorem dX9_isGood_204 : decode cX9_isGood 204 = .ok (.iload 5, 2) := by decide +kernel
theorem dX9_isGood_206 : decode cX9_isGood 206 = .ok (.iconst 1, 1) := by decide +kernel
theorem dX9_isGood_207 : decode cX9_isGood 207 = .ok (.if_icmp .lt 14, 3) := by decide +kernel
end
section
theorem dX9_isGood_210 : decode cX9_isGood 210 = .ok (.iload 5, 2) := by decide +kernel
theorem dX9_isGood_212 : decode cX9_isGood 212 = .ok (.bipush 31, 2) := by decide +kernel
theorem dX9_isGood_214 : decode cX9_isGood 214 = .ok (.if_icmp .gt 7, 3) := by decide +kernel
theorem dX9_isGood_217 : decode cX9_isGood 217 = .ok (.iconst 1, 1) := by decide +kernel
theorem dX9_isGood_218 : decode cX9_isGood 218 = .ok (.goto 4, 3) := by decide +kernel
theorem dX9_isGood_221 : decode cX9_isGood 221 = .ok (.iconst 0, 1) := by decide +kernel
theorem dX9_isGood_222 : decode cX9_isGood 222 = .ok (.istore 6, 2) := by decide +kernel
theorem dX9_isGood_224 : decode cX9_isGood 224 = .ok (.bipush 7, 2) := by decide +kernel
theorem dX9_isGood_226 : decode cX9_isGood 226 = .ok (.iload 5, 2) := by decide +kernel
theorem dX9_isGood_228 : decode cX9_isGood 228 = .ok (.iadd, 1) := by decide +kernel
theorem dX9_isGood_229 : decode cX9_isGood 229 = .ok (.istore 7, 2) := by decide +kernel
theorem dX9_isGood_231 : decode cX9_isGood 231 = .ok (.iload 7, 2) := by decide +kernel
theorem dX9_isGood_233 : decode cX9_isGood 233 = .ok (.bipush 38, 2) := by decide +kernel
theorem dX9_isGood_235 : decode cX9_isGood 235 = .ok (.if_icmp .ge 31, 3) := by decide +kernel
theorem dX9_isGood_238 : decode cX9_isGood 238 = .ok (.iload 6, 2) := by decide +kernel
theorem dX9_isGood_240 : decode cX9_isGood 240 = .ok (.ifCond .eq 26, 3) := by decide +kernel
theorem dX9_isGood_243 : decode cX9_isGood 243 = .ok (.aload_n 0, 1) := by decide +kernel
theorem dX9_isGood_244 : decode cX9_isGood 244 = .ok (.getfield 53, 3) := by decide +kernel
theorem dX9_isGood_247 : decode cX9_isGood 247 = .ok (.iload 7, 2) := by decide +kernel
theorem dX9_isGood_249 : decode cX9_isGood 249 = .ok (.iaload, 1) := by decide +kernel
theorem dX9_isGood_250 : decode cX9_isGood 250 = .ok (.ifCond .ne 7, 3) := by decide +kernel
theorem dX9_isGood_253 : decode cX9_isGood 253 = .ok (.iconst 1, 1) := by decide +kernel
theorem dX9_isGood_254 : decode cX9_isGood 254 = .ok (.goto 4, 3) := by decide +kernel
theorem dX9_isGood_257 : decode cX9_isGood 257 = .ok (.iconst 0, 1) := by decide +kernel
theorem dX9_isGood_258 : decode cX9_isGood 258 = .ok (.istore 6, 2) := by decide +kernel
theorem dX9_isGood_260 : decode cX9_isGood 260 = .ok (.iinc 7 1, 3) := by decide +kernel
theorem dX9_isGood_263 : decode cX9_isGood 263 = .ok (.goto (-32), 3) := by decide +kernel
theorem dX9_isGood_266 : decode cX9_isGood 266 = .ok (.iload 6, 2) := by decide +kernel
theorem dX9_isGood_268 : decode cX9_isGood 268 = .ok (.ireturn, 1) := by decide +kernel
theorem dX9_forget_0 : decode cX9_forget 0 = .ok (.aload_n 0, 1) := by decide +kernel
theorem dX9_forget_1 : decode cX9_forget 1 = .ok (.getfield 56, 3) := by decide +kernel
theorem dX9_forget_4 : decode cX9_forget 4 = .ok (.iload_n 1, 1) := by decide +kernel
theorem dX9_forget_5 : decode cX9_forget 5 = .ok (.iload_n 2, 1) := by decide +kernel
theorem dX9_forget_6 : decode cX9_forget 6 = .ok (.iastore, 1) := by decide +kernel
theorem dX9_forget_7 : decode cX9_forget 7 = .ok (.aload_n 0, 1) := by decide +kernel
theorem dX9_forget_8 : decode cX9_forget 8 = .ok (.getfield 59, 3) := by decide +kernel
theorem dX9_forget_11 : decode cX9_forget 11 = .ok (.iload_n 1, 1) := by decide +kernel
theorem dX9_forget_12 : decode cX9_forget 12 = .ok (.iconst 0, 1) := by decide +kernel
theorem dX9_forget_13 : decode cX9_forget 13 = .ok (.bastore, 1) := by decide +kernel
theorem dX9_forget_14 : decode cX9_forget 14 = .ok (.aload_n 0, 1) := by decide +kernel
theorem dX9_forget_15 : decode cX9_forget 15 = .ok (.getfield 66, 3) := by decide +kernel
theorem dX9_forget_18 : decode cX9_forget 18 = .ok (.iload_n 1, 1) := by decide +kernel
theorem dX9_forget_19 : decode cX9_forget 19 = .ok (.iconst 0, 1) := by decide +kernel
theorem dX9_forget_20 : decode cX9_forget 20 = .ok (.bastore, 1) := by decide +kernel
theorem dX9_forget_21 : decode cX9_forget 21 = .ok (.aload_n 0, 1) := by decide +kernel
theorem dX9_forget_22 : decode cX9_forget 22 = .ok (.getfield 69, 3) := by decide +kernel
theorem dX9_forget_25 : decode cX9_forget 25 = .ok (.iload_n 1, 1) := by decide +kernel
theorem dX9_forget_26 : decode cX9_forget 26 = .ok (.iconst 0, 1) := by decide +kernel
theorem dX9_forget_27 : decode cX9_forget 27 = .ok (.iastore, 1) := by decide +kernel
theorem dX9_forget_28 : decode cX9_forget 28 = .ok (.aload_n 0, 1) := by decide +kernel
theorem dX9_forget_29 : decode cX9_forget 29 = .ok (.getfield 72, 3) := by decide +kernel
theorem dX9_forget_32 : decode cX9_forget 32 = .ok (.iload_n 1, 1) := by decide +kernel
theorem dX9_forget_33 : decode cX9_forget 33 = .ok (.iconst 0, 1) := by decide +kernel
theorem dX9_forget_34 : decode cX9_forget 34 = .ok (.iastore, 1) := by decide +kernel
theorem dX9_forget_35 : decode cX9_forget 35 = .ok (.aload_n 0, 1) := by decide +kernel
theorem dX9_forget_36 : decode cX9_forget 36 = .ok (.getfield 75, 3) := by decide +kernel
theorem dX9_forget_39 : decode cX9_forget 39 = .ok (.iload_n 1, 1) := by decide +kernel
theorem dX9_forget_40 : decode cX9_forget 40 = .ok (.iconst 0, 1) := by decide +kernel
theorem dX9_forget_41 : decode cX9_forget 41 = .ok (.iastore, 1) := by decide +kernel
theorem dX9_forget_42 : decode cX9_forget 42 = .ok (.aload_n 0, 1) := by decide +kernel
theorem dX9_forget_43 : decode cX9_forget 43 = .ok (.getfield 84, 3) := by decide +kernel
theorem dX9_forget_46 : decode cX9_forget 46 = .ok (.iload_n 1, 1) := by decide +kernel
theorem dX9_forget_47 : decode cX9_forget 47 = .ok (.iconst 0, 1) := by decide +kernel
theorem dX9_forget_48 : decode cX9_forget 48 = .ok (.iastore, 1) := by decide +kernel
theorem dX9_forget_49 : decode cX9_forget 49 = .ok (.aload_n 0, 1) := by decide +kernel
theorem dX9_forget_50 : decode cX9_forget 50 = .ok (.getfield 90, 3) := by decide +kernel
theorem dX9_forget_53 : decode cX9_forget 53 = .ok (.iload_n 1, 1) := by decide +kernel
theorem dX9_forget_54 : decode cX9_forget 54 = .ok (.iconst 0, 1) := by decide +kernel
theorem dX9_forget_55 : decode cX9_forget 55 = .ok (.bastore, 1) := by decide +kernel
theorem dX9_forget_56 : decode cX9_forget 56 = .ok (.aload_n 0, 1) := by decide +kernel
theorem dX9_forget_57 : decode cX9_forget 57 = .ok (.getfield 105, 3) := by decide +kernel
theorem dX9_forget_60 : decode cX9_forget 60 = .ok (.iload_n 1, 1) := by decide +kernel
theorem dX9_forget_61 : decode cX9_forget 61 = .ok (.iconst 0, 1) := by decide +kernel
theorem dX9_forget_62 : decode cX9_forget 62 = .ok (.iastore, 1) := by decide +kernel
theorem dX9_forget_63 : decode cX9_forget 63 = .ok (.aload_n 0, 1) := by decide +kernel
theorem dX9_forget_64 : decode cX9_forget 64 = .ok (.getfield 108, 3) := by decide +kernel
theorem dX9_forget_67 : decode cX9_forget 67 = .ok (.iload_n 1, 1) := by decide +kernel
theorem dX9_forget_68 : decode cX9_forget 68 = .ok (.iconst 0, 1) := by decide +kernel
theorem dX9_forget_69 : decode cX9_forget 69 = .ok (.iastore, 1) := by decide +kernel
theorem dX9_forget_70 : decode cX9_forget 70 = .ok (.return_, 1) := by decide +kernel
theorem dX9_flow_0 : decode cX9_flow 0 = .ok (.aload_n 0, 1) := by decide +kernel
theorem dX9_flow_1 : decode cX9_flow 1 = .ok (.getfield 84, 3) := by decide +kernel
theorem dX9_flow_4 : decode cX9_flow 4 = .ok (.iload_n 1, 1) := by decide +kernel
theorem dX9_flow_5 : decode cX9_flow 5 = .ok (.iaload, 1) := by decide +kernel
theorem dX9_flow_6 : decode cX9_flow 6 = .ok (.ifCond .le 198, 3) := by decide +kernel
theorem dX9_flow_9 : decode cX9_flow 9 = .ok (.aload_n 0, 1) := by decide +kernel
theorem dX9_flow_10 : decode cX9_flow 10 = .ok (.getfield 75, 3) := by decide +kernel
theorem dX9_flow_13 : decode cX9_flow 13 = .ok (.iload_n 1, 1) := by decide +kernel
theorem dX9_flow_14 : decode cX9_flow 14 = .ok (.iaload, 1) := by decide +kernel
theorem dX9_flow_15 : decode cX9_flow 15 = .ok (.iconst 3, 1) := by decide +kernel
theorem dX9_flow_16 : decode cX9_flow 16 = .ok (.if_icmp .ge 188, 3) := by decide +kernel
theorem dX9_flow_19 : decode cX9_flow 19 = .ok (.aload_n 0, 1) := by decide +kernel
theorem dX9_flow_20 : decode cX9_flow 20 = .ok (.getfield 75, 3) := by decide +kernel
theorem dX9_flow_23 : decode cX9_flow 23 = .ok (.iload_n 1, 1) := by decide +kernel
theorem dX9_flow_24 : decode cX9_flow 24 = .ok (.iaload, 1) := by decide +kernel
theorem dX9_flow_25 : decode cX9_flow 25 = .ok (.ifCond .ne 10, 3) := by decide +kernel
theorem dX9_flow_28 : decode cX9_flow 28 = .ok (.aload_n 0, 1) := by decide +kernel
theorem dX9_flow_29 : decode cX9_flow 29 = .ok (.getfield 105, 3) := by decide +kernel
theorem dX9_flow_32 : decode cX9_flow 32 = .ok (.iload_n 1, 1) := by decide +kernel
theorem dX9_flow_33 : decode cX9_flow 33 = .ok (.iconst 0, 1) := by decide +kernel
theorem dX9_flow_34 : decode cX9_flow 34 = .ok (.iastore, 1) := by decide +kernel
theorem dX9_flow_35 : decode cX9_flow 35 = .ok (.aload_n 0, 1) := by decide +kernel
theorem dX9_flow_36 : decode cX9_flow 36 = .ok (.getfield 72, 3) := by decide +kernel
theorem dX9_flow_39 : decode cX9_flow 39 = .ok (.iload_n 1, 1) := by decide +kernel
theorem dX9_flow_40 : decode cX9_flow 40 = .ok (.aload_n 0, 1) := by decide +kernel
theorem dX9_flow_41 : decode cX9_flow 41 = .ok (.getfield 72, 3) := by decide +kernel
theorem dX9_flow_44 : decode cX9_flow 44 = .ok (.iload_n 1, 1) := by decide +kernel
theorem dX9_flow_45 : decode cX9_flow 45 = .ok (.iaload, 1) := by decide +kernel
theorem dX9_flow_46 : decode cX9_flow 46 = .ok (.iconst 1, 1) := by decide +kernel
theorem dX9_flow_47 : decode cX9_flow 47 = .ok (.iadd, 1) := by decide +kernel
theorem dX9_flow_48 : decode cX9_flow 48 = .ok (.bipush 8, 2) := by decide +kernel
theorem dX9_flow_50 : decode cX9_flow 50 = .ok (.irem, 1) := by decide +kernel
theorem dX9_flow_51 : decode cX9_flow 51 = .ok (.iastore, 1) := by decide +kernel
theorem dX9_flow_52 : decode cX9_flow 52 = .ok (.aload_n 0, 1) := by decide +kernel
theorem dX9_flow_53 : decode cX9_flow 53 = .ok (.getfield 78, 3) := by decide +kernel
theorem dX9_flow_56 : decode cX9_flow 56 = .ok (.iconst 3, 1) := by decide +kernel
theorem dX9_flow_57 : decode cX9_flow 57 = .ok (.iload_n 1, 1) := by decide +kernel
theorem dX9_flow_58 : decode cX9_flow 58 = .ok (.imul, 1) := by decide +kernel
theorem dX9_flow_59 : decode cX9_flow 59 = .ok (.aload_n 0, 1) := by decide +kernel
theorem dX9_flow_60 : decode cX9_flow 60 = .ok (.getfield 75, 3) := by decide +kernel
theorem dX9_flow_63 : decode cX9_flow 63 = .ok (.iload_n 1, 1) := by decide +kernel
theorem dX9_flow_64 : decode cX9_flow 64 = .ok (.iaload, 1) := by decide +kernel
theorem dX9_flow_65 : decode cX9_flow 65 = .ok (.iadd, 1) := by decide +kernel
theorem dX9_flow_66 : decode cX9_flow 66 = .ok (.aload_n 0, 1) := by decide +kernel
theorem dX9_flow_67 : decode cX9_flow 67 = .ok (.getfield 72, 3) := by decide +kernel
theorem dX9_flow_70 : decode cX9_flow 70 = .ok (.iload_n 1, 1) := by decide +kernel
theorem dX9_flow_71 : decode cX9_flow 71 = .ok (.iaload, 1) := by decide +kernel
theorem dX9_flow_72 : decode cX9_flow 72 = .ok (.iastore, 1) := by decide +kernel
theorem dX9_flow_73 : decode cX9_flow 73 = .ok (.iconst 0, 1) := by decide +kernel
theorem dX9_flow_74 : decode cX9_flow 74 = .ok (.istore_n 2, 1) := by decide +kernel
theorem dX9_flow_75 : decode cX9_flow 75 = .ok (.iload_n 2, 1) := by decide +kernel
theorem dX9_flow_76 : decode cX9_flow 76 = .ok (.bipush 32, 2) := by decide +kernel
theorem dX9_flow_78 : decode cX9_flow 78 = .ok (.if_icmp .ge 42, 3) := by decide +kernel
theorem dX9_flow_81 : decode cX9_flow 81 = .ok (.aload_n 0, 1) := by decide +kernel
theorem dX9_flow_82 : decode cX9_flow 82 = .ok (.getfield 81, 3) := by decide +kernel
theorem dX9_flow_85 : decode cX9_flow 85 = .ok (.bipush 96, 2) := by decide +kernel
theorem dX9_flow_87 : decode cX9_flow 87 = .ok (.iload_n 1, 1) := by decide +kernel
theorem dX9_flow_88 : decode cX9_flow 88 = .ok (.imul, 1) := by decide +kernel
theorem dX9_flow_89 : decode cX9_flow 89 = .ok (.bipush 32, 2) := by decide +kernel
theorem dX9_flow_91 : decode cX9_flow 91 = .ok (.aload_n 0, 1) := by decide +kernel
theorem dX9_flow_92 : decode cX9_flow 92 = .ok (.getfield 75, 3) := by decide +kernel
theorem dX9_flow_95 : decode cX9_flow 95 = .ok (.iload_n 1, 1) := by decide +kernel
theorem dX9_flow_96 : decode cX9_flow 96 = .ok (.iaload, 1) := by decide +kernel
theorem dX9_flow_97 : decode cX9_flow 97 = .ok (.imul, 1) := by decide +kernel
theorem dX9_flow_98 : decode cX9_flow 98 = .ok (.iadd, 1) := by decide +kernel
theorem dX9_flow_99 : decode cX9_flow 99 = .ok (.iload_n 2, 1) := by decide +kernel
theorem dX9_flow_100 : decode cX9_flow 100 = .ok (.iadd, 1) := by decide +kernel
theorem dX9_flow_101 : decode cX9_flow 101 = .ok (.aload_n 0, 1) := by decide +kernel
theorem dX9_flow_102 : decode cX9_flow 102 = .ok (.getfield 87, 3) := by decide +kernel
theorem dX9_flow_105 : decode cX9_flow 105 = .ok (.sipush 512, 3) := by decide +kernel
theorem dX9_flow_108 : decode cX9_flow 108 = .ok (.iload_n 1, 1) := by decide +kernel
theorem dX9_flow_109 : decode cX9_flow 109 = .ok (.imul, 1) := by decide +kernel
theorem dX9_flow_110 : decode cX9_flow 110 = .ok (.iload_n 2, 1) := by decide +kernel
theorem dX9_flow_111 : decode cX9_flow 111 = .ok (.iadd, 1) := by decide +kernel
theorem dX9_flow_112 : decode cX9_flow 112 = .ok (.iaload, 1) := by decide +kernel
theorem dX9_flow_113 : decode cX9_flow 113 = .ok (.iastore, 1) := by decide +kernel
theorem dX9_flow_114 : decode cX9_flow 114 = .ok (.iinc 2 1, 3) := by decide +kernel
theorem dX9_flow_117 : decode cX9_flow 117 = .ok (.goto (-42), 3) := by decide +kernel
theorem dX9_flow_120 : decode cX9_flow 120 = .ok (.aload_n 0, 1) := by decide +kernel
theorem dX9_flow_121 : decode cX9_flow 121 = .ok (.getfield 75, 3) := by decide +kernel
theorem dX9_flow_124 : decode cX9_flow 124 = .ok (.iload_n 1, 1) := by decide +kernel
theorem dX9_flow_125 : decode cX9_flow 125 = .ok (.dup2, 1) := by decide +kernel
theorem dX9_flow_126 : decode cX9_flow 126 = .ok (.iaload, 1) := by decide +kernel
theorem dX9_flow_127 : decode cX9_flow 127 = .ok (.iconst 1, 1) := by decide +kernel
theorem dX9_flow_128 : decode cX9_flow 128 = .ok (.iadd, 1) := by decide +kernel
theorem dX9_flow_129 : decode cX9_flow 129 = .ok (.iastore, 1) := by decide +kernel
theorem dX9_flow_130 : decode cX9_flow 130 = .ok (.aload_n 0, 1) := by decide +kernel
theorem dX9_flow_131 : decode cX9_flow 131 = .ok (.getfield 84, 3) := by decide +kernel
theorem dX9_flow_134 : decode cX9_flow 134 = .ok (.iload_n 1, 1) := by decide +kernel
theorem dX9_flow_135 : decode cX9_flow 135 = .ok (.dup2, 1) := by decide +kernel
theorem dX9_flow_136 : decode cX9_flow 136 = .ok (.iaload, 1) := by decide +kernel
theorem dX9_flow_137 : decode cX9_flow 137 = .ok (.iconst 1, 1) := by decide +kernel
theorem dX9_flow_138 : decode cX9_flow 138 = .ok (.isub, 1) := by decide +kernel
theorem dX9_flow_139 : decode cX9_flow 139 = .ok (.iastore, 1) := by decide +kernel
theorem dX9_flow_140 : decode cX9_flow 140 = .ok (.iconst 0, 1) := by decide +kernel
theorem dX9_flow_141 : decode cX9_flow 141 = .ok (.istore_n 2, 1) := by decide +kernel
theorem dX9_flow_142 : decode cX9_flow 142 = .ok (.iload_n 2, 1) := by decide +kernel
theorem dX9_flow_143 : decode cX9_flow 143 = .ok (.bipush 32, 2) := by decide +kernel
theorem dX9_flow_145 : decode cX9_flow 145 = .ok (.aload_n 0, 1) := by decide +kernel
theorem dX9_flow_146 : decode cX9_flow 146 = .ok (.getfield 84, 3) := by decide +kernel
theorem dX9_flow_149 : decode cX9_flow 149 = .ok (.iload_n 1, 1) := by decide +kernel
theorem dX9_flow_150 : decode cX9_flow 150 = .ok (.iaload, 1) := by decide +kernel
theorem dX9_flow_151 : decode cX9_flow 151 = .ok (.imul, 1) := by decide +kernel
theorem dX9_flow_152 : decode cX9_flow 152 = .ok (.if_icmp .ge 36, 3) := by decide +kernel
theorem dX9_flow_155 : decode cX9_flow 155 = .ok (.aload_n 0, 1) := by decide +kernel
theorem dX9_flow_156 : decode cX9_flow 156 = .ok (.getfield 87, 3) := by decide +kernel
theorem dX9_flow_159 : decode cX9_flow 159 = .ok (.sipush 512, 3) := by decide +kernel
theorem dX9_flow_162 : decode cX9_flow 162 = .ok (.iload_n 1, 1) := by decide +kernel
theorem dX9_flow_163 : decode cX9_flow 163 = .ok (.imul, 1) := by decide +kernel
theorem dX9_flow_164 : decode cX9_flow 164 = .ok (.iload_n 2, 1) := by decide +kernel
theorem dX9_flow_165 : decode cX9_flow 165 = .ok (.iadd, 1) := by decide +kernel
theorem dX9_flow_166 : decode cX9_flow 166 = .ok (.aload_n 0, 1) := by decide +kernel
theorem dX9_flow_167 : decode cX9_flow 167 = .ok (.getfield 87, 3) := by decide +kernel
theorem dX9_flow_170 : decode cX9_flow 170 = .ok (.sipush 512, 3) := by decide +kernel
theorem dX9_flow_173 : decode cX9_flow 173 = .ok (.iload_n 1, 1) := by decide +kernel
theorem dX9_flow_174 : decode cX9_flow 174 = .ok (.imul, 1) := by decide +kernel
theorem dX9_flow_175 : decode cX9_flow 175 = .ok (.iload_n 2, 1) := by decide +kernel
theorem dX9_flow_176 : decode cX9_flow 176 = .ok (.iadd, 1) := by decide +kernel
theorem dX9_flow_177 : decode cX9_flow 177 = .ok (.bipush 32, 2) := by decide +kernel
theorem dX9_flow_179 : decode cX9_flow 179 = .ok (.iadd, 1) := by decide +kernel
theorem dX9_flow_180 : decode cX9_flow 180 = .ok (.iaload, 1) := by decide +kernel
theorem dX9_flow_181 : decode cX9_flow 181 = .ok (.iastore, 1) := by decide +kernel
theorem dX9_flow_182 : decode cX9_flow 182 = .ok (.iinc 2 1, 3) := by decide +kernel
theorem dX9_flow_185 : decode cX9_flow 185 = .ok (.goto (-43), 3) := by decide +kernel
theorem dX9_flow_188 : decode cX9_flow 188 = .ok (.aload_n 0, 1) := by decide +kernel
theorem dX9_flow_189 : decode cX9_flow 189 = .ok (.iload_n 1, 1) := by decide +kernel
theorem dX9_flow_190 : decode cX9_flow 190 = .ok (.aload_n 0, 1) := by decide +kernel
theorem dX9_flow_191 : decode cX9_flow 191 = .ok (.getfield 75, 3) := by decide +kernel
theorem dX9_flow_194 : decode cX9_flow 194 = .ok (.iload_n 1, 1) := by decide +kernel
theorem dX9_flow_195 : decode cX9_flow 195 = .ok (.iaload, 1) := by decide +kernel
theorem dX9_flow_196 : decode cX9_flow 196 = .ok (.iconst 1, 1) := by decide +kernel
theorem dX9_flow_197 : decode cX9_flow 197 = .ok (.isub, 1) := by decide +kernel
theorem dX9_flow_198 : decode cX9_flow 198 = .ok (.invokevirtual 145, 3) := by decide +kernel
theorem dX9_flow_201 : decode cX9_flow 201 = .ok (.goto (-201), 3) := by decide +kernel
theorem dX9_flow_204 : decode cX9_flow 204 = .ok (.return_, 1) := by decide +kernel
theorem dX9_begin_0 : decode cX9_begin 0 = .ok (.iconst 0, 1) := by decide +kernel
theorem dX9_begin_1 : decode cX9_begin 1 = .ok (.istore_n 2, 1) := by decide +kernel
theorem dX9_begin_2 : decode cX9_begin 2 = .ok (.iload_n 2, 1) := by decide +kernel
theorem dX9_begin_3 : decode cX9_begin 3 = .ok (.bipush 32, 2) := by decide +kernel
theorem dX9_begin_5 : decode cX9_begin 5 = .ok (.if_icmp .ge 16, 3) := by decide +kernel
theorem dX9_begin_8 : decode cX9_begin 8 = .ok (.aload_n 0, 1) := by decide +kernel
theorem dX9_begin_9 : decode cX9_begin 9 = .ok (.getfield 111, 3) := by decide +kernel
theorem dX9_begin_12 : decode cX9_begin 12 = .ok (.iload_n 2, 1) := by decide +kernel
theorem dX9_begin_13 : decode cX9_begin 13 = .ok (.iconst 0, 1) := by decide +kernel
theorem dX9_begin_14 : decode cX9_begin 14 = .ok (.iastore, 1) := by decide +kernel
theorem dX9_begin_15 : decode cX9_begin 15 = .ok (.iinc 2 1, 3) := by decide +kernel
theorem dX9_begin_18 : decode cX9_begin 18 = .ok (.goto (-16), 3) := by decide +kernel
theorem dX9_begin_21 : decode cX9_begin 21 = .ok (.aload_n 0, 1) := by decide +kernel
theorem dX9_begin_22 : decode cX9_begin 22 = .ok (.getfield 111, 3) := by decide +kernel
theorem dX9_begin_25 : decode cX9_begin 25 = .ok (.iconst 0, 1) := by decide +kernel
theorem dX9_begin_26 : decode cX9_begin 26 = .ok (.iconst 1, 1) := by decide +kernel
theorem dX9_begin_27 : decode cX9_begin 27 = .ok (.iastore, 1) := by decide +kernel
theorem dX9_begin_28 : decode cX9_begin 28 = .ok (.aload_n 0, 1) := by decide +kernel
theorem dX9_begin_29 : decode cX9_begin 29 = .ok (.getfield 111, 3) := by decide +kernel
theorem dX9_begin_32 : decode cX9_begin 32 = .ok (.iconst 1, 1) := by decide +kernel
theorem dX9_begin_33 : decode cX9_begin 33 = .ok (.iload_n 1, 1) := by decide +kernel
theorem dX9_begin_34 : decode cX9_begin 34 = .ok (.iastore, 1) := by decide +kernel
theorem dX9_begin_35 : decode cX9_begin 35 = .ok (.return_, 1) := by decide +kernel
theorem dX9_more_0 : decode cX9_more 0 = .ok (.aload_n 0, 1) := by decide +kernel
theorem dX9_more_1 : decode cX9_more 1 = .ok (.getfield 111, 3) := by decide +kernel
theorem dX9_more_4 : decode cX9_more 4 = .ok (.iconst 0, 1) := by decide +kernel
theorem dX9_more_5 : decode cX9_more 5 = .ok (.dup2, 1) := by decide +kernel
theorem dX9_more_6 : decode cX9_more 6 = .ok (.iaload, 1) := by decide +kernel
theorem dX9_more_7 : decode cX9_more 7 = .ok (.iconst 1, 1) := by decide +kernel
theorem dX9_more_8 : decode cX9_more 8 = .ok (.iadd, 1) := by decide +kernel
theorem dX9_more_9 : decode cX9_more 9 = .ok (.iastore, 1) := by decide +kernel
theorem dX9_more_10 : decode cX9_more 10 = .ok (.aload_n 0, 1) := by decide +kernel
theorem dX9_more_11 : decode cX9_more 11 = .ok (.getfield 111, 3) := by decide +kernel
theorem dX9_more_14 : decode cX9_more 14 = .ok (.aload_n 0, 1) := by decide +kernel
theorem dX9_more_15 : decode cX9_more 15 = .ok (.getfield 111, 3) := by decide +kernel
theorem dX9_more_18 : decode cX9_more 18 = .ok (.iconst 0, 1) := by decide +kernel
theorem dX9_more_19 : decode cX9_more 19 = .ok (.iaload, 1) := by decide +kernel
theorem dX9_more_20 : decode cX9_more 20 = .ok (.iload_n 1, 1) := by decide +kernel
theorem dX9_more_21 : decode cX9_more 21 = .ok (.iastore, 1) := by decide +kernel
theorem dX9_more_22 : decode cX9_more 22 = .ok (.return_, 1) := by decide +kernel
theorem dX9_send_0 : decode cX9_send 0 = .ok (.aload_n 0, 1) := by decide +kernel
theorem dX9_send_1 : decode cX9_send 1 = .ok (.getfield 84, 3) := by decide +kernel
theorem dX9_send_4 : decode cX9_send 4 = .ok (.iload_n 1, 1) := by decide +kernel
theorem dX9_send_5 : decode cX9_send 5 = .ok (.iaload, 1) := by decide +kernel
theorem dX9_send_6 : decode cX9_send 6 = .ok (.bipush 16, 2) := by decide +kernel
theorem dX9_send_8 : decode cX9_send 8 = .ok (.if_icmp .ne 4, 3) := by decide +kernel
theorem dX9_send_11 : decode cX9_send 11 = .ok (.return_, 1) := by decide +kernel
theorem dX9_send_12 : decode cX9_send 12 = .ok (.iconst 0, 1) := by decide +kernel
theorem dX9_send_13 : decode cX9_send 13 = .ok (.istore_n 2, 1) := by decide +kernel
theorem dX9_send_14 : decode cX9_send 14 = .ok (.iload_n 2, 1) := by decide +kernel
theorem dX9_send_15 : decode cX9_send 15 = .ok (.bipush 32, 2) := by decide +kernel
theorem dX9_send_17 : decode cX9_send 17 = .ok (.if_icmp .ge 37, 3) := by decide +kernel
theorem dX9_send_20 : decode cX9_send 20 = .ok (.aload_n 0, 1) := by decide +kernel
theorem dX9_send_21 : decode cX9_send 21 = .ok (.getfield 87, 3) := by decide +kernel
theorem dX9_send_24 : decode cX9_send 24 = .ok (.sipush 512, 3) := by decide +kernel
theorem dX9_send_27 : decode cX9_send 27 = .ok (.iload_n 1, 1) := by decide +kernel
theorem dX9_send_28 : decode cX9_send 28 = .ok (.imul, 1) := by decide +kernel
theorem dX9_send_29 : decode cX9_send 29 = .ok (.bipush 32, 2) := by decide +kernel
theorem dX9_send_31 : decode cX9_send 31 = .ok (.aload_n 0, 1) := by decide +kernel
theorem dX9_send_32 : decode cX9_send 32 = .ok (.getfield 84, 3) := by decide +kernel
theorem dX9_send_35 : decode cX9_send 35 = .ok (.iload_n 1, 1) := by decide +kernel
theorem dX9_send_36 : decode cX9_send 36 = .ok (.iaload, 1) := by decide +kernel
theorem dX9_send_37 : decode cX9_send 37 = .ok (.imul, 1) := by decide +kernel
theorem dX9_send_38 : decode cX9_send 38 = .ok (.iadd, 1) := by decide +kernel
theorem dX9_send_39 : decode cX9_send 39 = .ok (.iload_n 2, 1) := by decide +kernel
theorem dX9_send_40 : decode cX9_send 40 = .ok (.iadd, 1) := by decide +kernel
theorem dX9_send_41 : decode cX9_send 41 = .ok (.aload_n 0, 1) := by decide +kernel
theorem dX9_send_42 : decode cX9_send 42 = .ok (.getfield 111, 3) := by decide +kernel
theorem dX9_send_45 : decode cX9_send 45 = .ok (.iload_n 2, 1) := by decide +kernel
theorem dX9_send_46 : decode cX9_send 46 = .ok (.iaload, 1) := by decide +kernel
theorem dX9_send_47 : decode cX9_send 47 = .ok (.iastore, 1) := by decide +kernel
theorem dX9_send_48 : decode cX9_send 48 = .ok (.iinc 2 1, 3) := by decide +kernel
theorem dX9_send_51 : decode cX9_send 51 = .ok (.goto (-37), 3) := by decide +kernel
theorem dX9_send_54 : decode cX9_send 54 = .ok (.aload_n 0, 1) := by decide +kernel
theorem dX9_send_55 : decode cX9_send 55 = .ok (.getfield 84, 3) := by decide +kernel
theorem dX9_send_58 : decode cX9_send 58 = .ok (.iload_n 1, 1) := by decide +kernel
theorem dX9_send_59 : decode cX9_send 59 = .ok (.dup2, 1) := by decide +kernel
theorem dX9_send_60 : decode cX9_send 60 = .ok (.iaload, 1) := by decide +kernel
theorem dX9_send_61 : decode cX9_send 61 = .ok (.iconst 1, 1) := by decide +kernel
theorem dX9_send_62 : decode cX9_send 62 = .ok (.iadd, 1) := by decide +kernel
theorem dX9_send_63 : decode cX9_send 63 = .ok (.iastore, 1) := by decide +kernel
theorem dX9_send_64 : decode cX9_send 64 = .ok (.aload_n 0, 1) := by decide +kernel
theorem dX9_send_65 : decode cX9_send 65 = .ok (.iload_n 1, 1) := by decide +kernel
theorem dX9_send_66 : decode cX9_send 66 = .ok (.invokevirtual 148, 3) := by decide +kernel
theorem dX9_send_69 : decode cX9_send 69 = .ok (.return_, 1) := by decide +kernel
theorem dX9_say_0 : decode cX9_say 0 = .ok (.aload_n 0, 1) := by decide +kernel
theorem dX9_say_1 : decode cX9_say 1 = .ok (.iload_n 2, 1) := by decide +kernel
theorem dX9_say_2 : decode cX9_say 2 = .ok (.invokevirtual 151, 3) := by decide +kernel
theorem dX9_say_5 : decode cX9_say 5 = .ok (.aload_n 0, 1) := by decide +kernel
theorem dX9_say_6 : decode cX9_say 6 = .ok (.iload_n 1, 1) := by decide +kernel
theorem dX9_say_7 : decode cX9_say 7 = .ok (.invokevirtual 154, 3) := by decide +kernel
theorem dX9_say_10 : decode cX9_say 10 = .ok (.return_, 1) := by decide +kernel
theorem dX9_goOn_0 : decode cX9_goOn 0 = .ok (.aload_n 0, 1) := by decide +kernel
theorem dX9_goOn_1 : decode cX9_goOn 1 = .ok (.getfield 19, 3) := by decide +kernel
theorem dX9_goOn_4 : decode cX9_goOn 4 = .ok (.iload_n 1, 1) := by decide +kernel
theorem dX9_goOn_5 : decode cX9_goOn 5 = .ok (.iaload, 1) := by decide +kernel
theorem dX9_goOn_6 : decode cX9_goOn 6 = .ok (.ifCond .ne 11, 3) := by decide +kernel
theorem dX9_goOn_9 : decode cX9_goOn 9 = .ok (.aload_n 0, 1) := by decide +kernel
theorem dX9_goOn_10 : decode cX9_goOn 10 = .ok (.iload_n 1, 1) := by decide +kernel
theorem dX9_goOn_11 : decode cX9_goOn 11 = .ok (.bipush 72, 2) := by decide +kernel
theorem dX9_goOn_13 : decode cX9_goOn 13 = .ok (.invokevirtual 157, 3) := by decide +kernel
theorem dX9_goOn_16 : decode cX9_goOn 16 = .ok (.return_, 1) := by decide +kernel
theorem dX9_goOn_17 : decode cX9_goOn 17 = .ok (.aload_n 0, 1) := by decide +kernel
theorem dX9_goOn_18 : decode cX9_goOn 18 = .ok (.getfield 22, 3) := by decide +kernel
theorem dX9_goOn_21 : decode cX9_goOn 21 = .ok (.bipush 30, 2) := by decide +kernel
theorem dX9_goOn_23 : decode cX9_goOn 23 = .ok (.iload_n 1, 1) := by decide +kernel
theorem dX9_goOn_24 : decode cX9_goOn 24 = .ok (.imul, 1) := by decide +kernel
theorem dX9_goOn_25 : decode cX9_goOn 25 = .ok (.iaload, 1) := by decide +kernel
theorem dX9_goOn_26 : decode cX9_goOn 26 = .ok (.istore_n 2, 1) := by decide +kernel
theorem dX9_goOn_27 : decode cX9_goOn 27 = .ok (.aload_n 0, 1) := by decide +kernel
theorem dX9_goOn_28 : decode cX9_goOn 28 = .ok (.bipush 83, 2) := by decide +kernel
theorem dX9_goOn_30 : decode cX9_goOn 30 = .ok (.invokevirtual 151, 3) := by decide +kernel
theorem dX9_goOn_33 : decode cX9_goOn 33 = .ok (.aload_n 0, 1) := by decide +kernel
theorem dX9_goOn_34 : decode cX9_goOn 34 = .ok (.iload_n 2, 1) := by decide +kernel
theorem dX9_goOn_35 : decode cX9_goOn 35 = .ok (.invokevirtual 160, 3) := by decide +kernel
theorem dX9_goOn_38 : decode cX9_goOn 38 = .ok (.aload_n 0, 1) := by decide +kernel
theorem dX9_goOn_39 : decode cX9_goOn 39 = .ok (.aload_n 0, 1) := by decide +kernel
theorem dX9_goOn_40 : decode cX9_goOn 40 = .ok (.getfield 13, 3) := by decide +kernel
theorem dX9_goOn_43 : decode cX9_goOn 43 = .ok (.bipush 30, 2) := by decide +kernel
theorem dX9_goOn_45 : decode cX9_goOn 45 = .ok (.iload_n 1, 1) := by decide +kernel
theorem dX9_goOn_46 : decode cX9_goOn 46 = .ok (.imul, 1) := by decide +kernel
theorem dX9_goOn_47 : decode cX9_goOn 47 = .ok (.iload_n 2, 1) := by decide +kernel
theorem dX9_goOn_48 : decode cX9_goOn 48 = .ok (.iadd, 1) := by decide +kernel
theorem dX9_goOn_49 : decode cX9_goOn 49 = .ok (.iaload, 1) := by decide +kernel
theorem dX9_goOn_50 : decode cX9_goOn 50 = .ok (.invokevirtual 160, 3) := by decide +kernel
theorem dX9_goOn_53 : decode cX9_goOn 53 = .ok (.aload_n 0, 1) := by decide +kernel
theorem dX9_goOn_54 : decode cX9_goOn 54 = .ok (.iload_n 1, 1) := by decide +kernel
theorem dX9_goOn_55 : decode cX9_goOn 55 = .ok (.invokevirtual 154, 3) := by decide +kernel
theorem dX9_goOn_58 : decode cX9_goOn 58 = .ok (.return_, 1) := by decide +kernel
theorem dX9_sendFile_0 : decode cX9_sendFile 0 = .ok (.aload_n 0, 1) := by decide +kernel
theorem dX9_sendFile_1 : decode cX9_sendFile 1 = .ok (.getfield 22, 3) := by decide +kernel
theorem dX9_sendFile_4 : decode cX9_sendFile 4 = .ok (.bipush 30, 2) := by decide +kernel
theorem dX9_sendFile_6 : decode cX9_sendFile 6 = .ok (.iload_n 1, 1) := by decide +kernel
theorem dX9_sendFile_7 : decode cX9_sendFile 7 = .ok (.imul, 1) := by decide +kernel
theorem dX9_sendFile_8 : decode cX9_sendFile 8 = .ok (.iaload, 1) := by decide +kernel
theorem dX9_sendFile_9 : decode cX9_sendFile 9 = .ok (.istore_n 2, 1) := by decide +kernel
theorem dX9_sendFile_10 : decode cX9_sendFile 10 = .ok (.aload_n 0, 1) := by decide +kernel
theorem dX9_sendFile_11 : decode cX9_sendFile 11 = .ok (.getfield 13, 3) := by decide +kernel
theorem dX9_sendFile_14 : decode cX9_sendFile 14 = .ok (.bipush 30, 2) := by decide +kernel
theorem dX9_sendFile_16 : decode cX9_sendFile 16 = .ok (.iload_n 1, 1) := by decide +kernel
theorem dX9_sendFile_17 : decode cX9_sendFile 17 = .ok (.imul, 1) := by decide +kernel
theorem dX9_sendFile_18 : decode cX9_sendFile 18 = .ok (.iload_n 2, 1) := by decide +kernel
theorem dX9_sendFile_19 : decode cX9_sendFile 19 = .ok (.iadd, 1) := by decide +kernel
theorem dX9_sendFile_20 : decode cX9_sendFile 20 = .ok (.iaload, 1) := by decide +kernel
theorem dX9_sendFile_21 : decode cX9_sendFile 21 = .ok (.istore_n 3, 1) := by decide +kernel
theorem dX9_sendFile_22 : decode cX9_sendFile 22 = .ok (.iconst 0, 1) := by decide +kernel
theorem dX9_sendFile_23 : decode cX9_sendFile 23 = .ok (.istore 4, 2) := by decide +kernel
theorem dX9_sendFile_25 : decode cX9_sendFile 25 = .ok (.iload 4, 2) := by decide +kernel
theorem dX9_sendFile_27 : decode cX9_sendFile 27 = .ok (.iload_n 3, 1) := by decide +kernel
theorem dX9_sendFile_28 : decode cX9_sendFile 28 = .ok (.if_icmp .ge 68, 3) := by decide +kernel
theorem dX9_sendFile_31 : decode cX9_sendFile 31 = .ok (.aload_n 0, 1) := by decide +kernel
theorem dX9_sendFile_32 : decode cX9_sendFile 32 = .ok (.bipush 68, 2) := by decide +kernel
theorem dX9_sendFile_34 : decode cX9_sendFile 34 = .ok (.invokevirtual 151, 3) := by decide +kernel
theorem dX9_sendFile_37 : decode cX9_sendFile 37 = .ok (.iload 4, 2) := by decide +kernel
theorem dX9_sendFile_39 : decode cX9_sendFile 39 = .ok (.istore 5, 2) := by decide +kernel
theorem dX9_sendFile_41 : decode cX9_sendFile 41 = .ok (.iload 5, 2) := by decide +kernel
theorem dX9_sendFile_43 : decode cX9_sendFile 43 = .ok (.iload_n 3, 1) := by decide +kernel
theorem dX9_sendFile_44 : decode cX9_sendFile 44 = .ok (.if_icmp .ge 41, 3) := by decide +kernel
theorem dX9_sendFile_47 : decode cX9_sendFile 47 = .ok (.iload 5, 2) := by decide +kernel
theorem dX9_sendFile_49 : decode cX9_sendFile 49 = .ok (.iload 4, 2) := by decide +kernel
theorem dX9_sendFile_51 : decode cX9_sendFile 51 = .ok (.bipush 30, 2) := by decide +kernel
theorem dX9_sendFile_53 : decode cX9_sendFile 53 = .ok (.iadd, 1) := by decide +kernel
theorem dX9_sendFile_54 : decode cX9_sendFile 54 = .ok (.if_icmp .ge 31, 3) := by decide +kernel
theorem dX9_sendFile_57 : decode cX9_sendFile 57 = .ok (.aload_n 0, 1) := by decide +kernel
theorem dX9_sendFile_58 : decode cX9_sendFile 58 = .ok (.aload_n 0, 1) := by decide +kernel
theorem dX9_sendFile_59 : decode cX9_sendFile 59 = .ok (.getfield 16, 3) := by decide +kernel
theorem dX9_sendFile_62 : decode cX9_sendFile 62 = .ok (.sipush 3000, 3) := by decide +kernel
theorem dX9_sendFile_65 : decode cX9_sendFile 65 = .ok (.iload_n 1, 1) := by decide +kernel
theorem dX9_sendFile_66 : decode cX9_sendFile 66 = .ok (.imul, 1) := by decide +kernel
theorem dX9_sendFile_67 : decode cX9_sendFile 67 = .ok (.bipush 100, 2) := by decide +kernel
theorem dX9_sendFile_69 : decode cX9_sendFile 69 = .ok (.iload_n 2, 1) := by decide +kernel
theorem dX9_sendFile_70 : decode cX9_sendFile 70 = .ok (.imul, 1) := by decide +kernel
theorem dX9_sendFile_71 : decode cX9_sendFile 71 = .ok (.iadd, 1) := by decide +kernel
theorem dX9_sendFile_72 : decode cX9_sendFile 72 = .ok (.iload 5, 2) := by decide +kernel
theorem dX9_sendFile_74 : decode cX9_sendFile 74 = .ok (.iadd, 1) := by decide +kernel
theorem dX9_sendFile_75 : decode cX9_sendFile 75 = .ok (.iaload, 1) := by decide +kernel
theorem dX9_sendFile_76 : decode cX9_sendFile 76 = .ok (.invokevirtual 160, 3) := by decide +kernel
theorem dX9_sendFile_79 : decode cX9_sendFile 79 = .ok (.iinc 5 1, 3) := by decide +kernel
theorem dX9_sendFile_82 : decode cX9_sendFile 82 = .ok (.goto (-41), 3) := by decide +kernel
theorem dX9_sendFile_85 : decode cX9_sendFile 85 = .ok (.aload_n 0, 1) := by decide +kernel
theorem dX9_sendFile_86 : decode cX9_sendFile 86 = .ok (.iload_n 1, 1) := by decide +kernel
theorem dX9_sendFile_87 : decode cX9_sendFile 87 = .ok (.invokevirtual 154, 3) := by decide +kernel
theorem dX9_sendFile_90 : decode cX9_sendFile 90 = .ok (.iinc 4 30, 3) := by decide +kernel
theorem dX9_sendFile_93 : decode cX9_sendFile 93 = .ok (.goto (-68), 3) := by decide +kernel
theorem dX9_sendFile_96 : decode cX9_sendFile 96 = .ok (.return_, 1) := by decide +kernel
theorem dX9_execute_0 : decode cX9_execute 0 = .ok (.sipush 256, 3) := by decide +kernel
theorem dX9_execute_3 : decode cX9_execute 3 = .ok (.iload_n 1, 1) := by decide +kernel
theorem dX9_execute_4 : decode cX9_execute 4 = .ok (.imul, 1) := by decide +kernel
theorem dX9_execute_5 : decode cX9_execute 5 = .ok (.aload_n 0, 1) := by decide +kernel
theorem dX9_execute_6 : decode cX9_execute 6 = .ok (.getfield 25, 3) := by decide +kernel
theorem dX9_execute_9 : decode cX9_execute 9 = .ok (.iload_n 1, 1) := by decide +kernel
theorem dX9_execute_10 : decode cX9_execute 10 = .ok (.iaload, 1) := by decide +kernel
theorem dX9_execute_11 : decode cX9_execute 11 = .ok (.iadd, 1) := by decide +kernel
theorem dX9_execute_12 : decode cX9_execute 12 = .ok (.istore_n 2, 1) := by decide +kernel
theorem dX9_execute_13 : decode cX9_execute 13 = .ok (.aload_n 0, 1) := by decide +kernel
theorem dX9_execute_14 : decode cX9_execute 14 = .ok (.getfield 28, 3) := by decide +kernel
theorem dX9_execute_17 : decode cX9_execute 17 = .ok (.iload_n 2, 1) := by decide +kernel
theorem dX9_execute_18 : decode cX9_execute 18 = .ok (.aload_n 0, 1) := by decide +kernel
theorem dX9_execute_19 : decode cX9_execute 19 = .ok (.getfield 93, 3) := by decide +kernel
theorem dX9_execute_22 : decode cX9_execute 22 = .ok (.iload_n 1, 1) := by decide +kernel
theorem dX9_execute_23 : decode cX9_execute 23 = .ok (.iaload, 1) := by decide +kernel
theorem dX9_execute_24 : decode cX9_execute 24 = .ok (.iastore, 1) := by decide +kernel
theorem dX9_execute_25 : decode cX9_execute 25 = .ok (.aload_n 0, 1) := by decide +kernel
theorem dX9_execute_26 : decode cX9_execute 26 = .ok (.getfield 31, 3) := by decide +kernel
theorem dX9_execute_29 : decode cX9_execute 29 = .ok (.iload_n 2, 1) := by decide +kernel
theorem dX9_execute_30 : decode cX9_execute 30 = .ok (.aload_n 0, 1) := by decide +kernel
theorem dX9_execute_31 : decode cX9_execute 31 = .ok (.getfield 96, 3) := by decide +kernel
theorem dX9_execute_34 : decode cX9_execute 34 = .ok (.iload_n 1, 1) := by decide +kernel
theorem dX9_execute_35 : decode cX9_execute 35 = .ok (.iaload, 1) := by decide +kernel
theorem dX9_execute_36 : decode cX9_execute 36 = .ok (.iastore, 1) := by decide +kernel
theorem dX9_execute_37 : decode cX9_execute 37 = .ok (.iconst 0, 1) := by decide +kernel
theorem dX9_execute_38 : decode cX9_execute 38 = .ok (.istore_n 3, 1) := by decide +kernel
theorem dX9_execute_39 : decode cX9_execute 39 = .ok (.iload_n 3, 1) := by decide +kernel
theorem dX9_execute_40 : decode cX9_execute 40 = .ok (.aload_n 0, 1) := by decide +kernel
theorem dX9_execute_41 : decode cX9_execute 41 = .ok (.getfield 96, 3) := by decide +kernel
theorem dX9_execute_44 : decode cX9_execute 44 = .ok (.iload_n 1, 1) := by decide +kernel
theorem dX9_execute_45 : decode cX9_execute 45 = .ok (.iaload, 1) := by decide +kernel
theorem dX9_execute_46 : decode cX9_execute 46 = .ok (.if_icmp .ge 31, 3) := by decide +kernel
theorem dX9_execute_49 : decode cX9_execute 49 = .ok (.aload_n 0, 1) := by decide +kernel
theorem dX9_execute_50 : decode cX9_execute 50 = .ok (.getfield 35, 3) := by decide +kernel
theorem dX9_execute_53 : decode cX9_execute 53 = .ok (.bipush 100, 2) := by decide +kernel
theorem dX9_execute_55 : decode cX9_execute 55 = .ok (.iload_n 2, 1) := by decide +kernel
theorem dX9_execute_56 : decode cX9_execute 56 = .ok (.imul, 1) := by decide +kernel
theorem dX9_execute_57 : decode cX9_execute 57 = .ok (.iload_n 3, 1) := by decide +kernel
theorem dX9_execute_58 : decode cX9_execute 58 = .ok (.iadd, 1) := by decide +kernel
theorem dX9_execute_59 : decode cX9_execute 59 = .ok (.aload_n 0, 1) := by decide +kernel
theorem dX9_execute_60 : decode cX9_execute 60 = .ok (.getfield 102, 3) := by decide +kernel
theorem dX9_execute_63 : decode cX9_execute 63 = .ok (.bipush 100, 2) := by decide +kernel
theorem dX9_execute_65 : decode cX9_execute 65 = .ok (.iload_n 1, 1) := by decide +kernel
theorem dX9_execute_66 : decode cX9_execute 66 = .ok (.imul, 1) := by decide +kernel
theorem dX9_execute_67 : decode cX9_execute 67 = .ok (.iload_n 3, 1) := by decide +kernel
theorem dX9_execute_68 : decode cX9_execute 68 = .ok (.iadd, 1) := by decide +kernel
theorem dX9_execute_69 : decode cX9_execute 69 = .ok (.iaload, 1) := by decide +kernel
theorem dX9_execute_70 : decode cX9_execute 70 = .ok (.iastore, 1) := by decide +kernel
theorem dX9_execute_71 : decode cX9_execute 71 = .ok (.iinc 3 1, 3) := by decide +kernel
theorem dX9_execute_74 : decode cX9_execute 74 = .ok (.goto (-35), 3) := by decide +kernel
theorem dX9_execute_77 : decode cX9_execute 77 = .ok (.aload_n 0, 1) := by decide +kernel
theorem dX9_execute_78 : decode cX9_execute 78 = .ok (.getfield 25, 3) := by decide +kernel
theorem dX9_execute_81 : decode cX9_execute 81 = .ok (.iload_n 1, 1) := by decide +kernel
theorem dX9_execute_82 : decode cX9_execute 82 = .ok (.dup2, 1) := by decide +kernel
theorem dX9_execute_83 : decode cX9_execute 83 = .ok (.iaload, 1) := by decide +kernel
theorem dX9_execute_84 : decode cX9_execute 84 = .ok (.iconst 1, 1) := by decide +kernel
theorem dX9_execute_85 : decode cX9_execute 85 = .ok (.iadd, 1) := by decide +kernel
theorem dX9_execute_86 : decode cX9_execute 86 = .ok (.iastore, 1) := by decide +kernel
theorem dX9_execute_87 : decode cX9_execute 87 = .ok (.aload_n 0, 1) := by decide +kernel
theorem dX9_execute_88 : decode cX9_execute 88 = .ok (.getfield 90, 3) := by decide +kernel
theorem dX9_execute_91 : decode cX9_execute 91 = .ok (.iload_n 1, 1) := by decide +kernel
theorem dX9_execute_92 : decode cX9_execute 92 = .ok (.iconst 0, 1) := by decide +kernel
theorem dX9_execute_93 : decode cX9_execute 93 = .ok (.bastore, 1) := by decide +kernel
theorem dX9_execute_94 : decode cX9_execute 94 = .ok (.aload_n 0, 1) := by decide +kernel
theorem dX9_execute_95 : decode cX9_execute 95 = .ok (.iload_n 1, 1) := by decide +kernel
theorem dX9_execute_96 : decode cX9_execute 96 = .ok (.bipush 67, 2) := by decide +kernel
theorem dX9_execute_98 : decode cX9_execute 98 = .ok (.invokevirtual 157, 3) := by decide +kernel
theorem dX9_execute_101 : decode cX9_execute 101 = .ok (.return_, 1) := by decide +kernel
theorem dX9_acknowledge_0 : decode cX9_acknowledge 0 = .ok (.iconst (-1), 1) := by decide +kernel
theorem dX9_acknowledge_1 : decode cX9_acknowledge 1 = .ok (.istore_n 3, 1) := by decide +kernel
theorem dX9_acknowledge_2 : decode cX9_acknowledge 2 = .ok (.iconst 0, 1) := by decide +kernel
theorem dX9_acknowledge_3 : decode cX9_acknowledge 3 = .ok (.istore 4, 2) := by decide +kernel
theorem dX9_acknowledge_5 : decode cX9_acknowledge 5 = .ok (.iload 4, 2) := by decide +kernel
theorem dX9_acknowledge_7 : decode cX9_acknowledge 7 = .ok (.aload_n 0, 1) := by decide +kernel
theorem dX9_acknowledge_8 : decode cX9_acknowledge 8 = .ok (.getfield 75, 3) := by decide +kernel
theorem dX9_acknowledge_11 : decode cX9_acknowledge 11 = .ok (.iload_n 1, 1) := by decide +kernel
theorem dX9_acknowledge_12 : decode cX9_acknowledge 12 = .ok (.iaload, 1) := by decide +kernel
theorem dX9_acknowledge_13 : decode cX9_acknowledge 13 = .ok (.if_icmp .ge 31, 3) := by decide +kernel
theorem dX9_acknowledge_16 : decode cX9_acknowledge 16 = .ok (.aload_n 0, 1) := by decide +kernel
theorem dX9_acknowledge_17 : decode cX9_acknowledge 17 = .ok (.getfield 78, 3) := by decide +kernel
theorem dX9_acknowledge_20 : decode cX9_acknowledge 20 = .ok (.iconst 3, 1) := by decide +kernel
theorem dX9_acknowledge_21 : decode cX9_acknowledge 21 = .ok (.iload_n 1, 1) := by decide +kernel
theorem dX9_acknowledge_22 : decode cX9_acknowledge 22 = .ok (.imul, 1) := by decide +kernel
theorem dX9_acknowledge_23 : decode cX9_acknowledge 23 = .ok (.iload 4, 2) := by decide +kernel
theorem dX9_acknowledge_25 : decode cX9_acknowledge 25 = .ok (.iadd, 1) := by decide +kernel
theorem dX9_acknowledge_26 : decode cX9_acknowledge 26 = .ok (.iaload, 1) := by decide +kernel
theorem dX9_acknowledge_27 : decode cX9_acknowledge 27 = .ok (.iload_n 2, 1) := by decide +kernel
theorem dX9_acknowledge_28 : decode cX9_acknowledge 28 = .ok (.if_icmp .ne 8, 3) := by decide +kernel
theorem dX9_acknowledge_31 : decode cX9_acknowledge 31 = .ok (.iload 4, 2) := by decide +kernel
theorem dX9_acknowledge_33 : decode cX9_acknowledge 33 = .ok (.goto 4, 3) := by decide +kernel
theorem dX9_acknowledge_36 : decode cX9_acknowledge 36 = .ok (.iload_n 3, 1) := by decide +kernel
theorem dX9_acknowledge_37 : decode cX9_acknowledge 37 = .ok (.istore_n 3, 1) := by decide +kernel
theorem dX9_acknowledge_38 : decode cX9_acknowledge 38 = .ok (.iinc 4 1, 3) := by decide +kernel
theorem dX9_acknowledge_41 : decode cX9_acknowledge 41 = .ok (.goto (-36), 3) := by decide +kernel
theorem dX9_acknowledge_44 : decode cX9_acknowledge 44 = .ok (.iload_n 3, 1) := by decide +kernel
theorem dX9_acknowledge_45 : decode cX9_acknowledge 45 = .ok (.iconst (-1), 1) := by decide +kernel
theorem dX9_acknowledge_46 : decode cX9_acknowledge 46 = .ok (.if_icmp .ne 4, 3) := by decide +kernel
theorem dX9_acknowledge_49 : decode cX9_acknowledge 49 = .ok (.return_, 1) := by decide +kernel
theorem dX9_acknowledge_50 : decode cX9_acknowledge 50 = .ok (.iload_n 3, 1) := by decide +kernel
theorem dX9_acknowledge_51 : decode cX9_acknowledge 51 = .ok (.iconst 1, 1) := by decide +kernel
theorem dX9_acknowledge_52 : decode cX9_acknowledge 52 = .ok (.iadd, 1) := by decide +kernel
theorem dX9_acknowledge_53 : decode cX9_acknowledge 53 = .ok (.istore 4, 2) := by decide +kernel
theorem dX9_acknowledge_55 : decode cX9_acknowledge 55 = .ok (.aload_n 0, 1) := by decide +kernel
theorem dX9_acknowledge_56 : decode cX9_acknowledge 56 = .ok (.getfield 75, 3) := by decide +kernel
theorem dX9_acknowledge_59 : decode cX9_acknowledge 59 = .ok (.iload_n 1, 1) := by decide +kernel
theorem dX9_acknowledge_60 : decode cX9_acknowledge 60 = .ok (.dup2, 1) := by decide +kernel
theorem dX9_acknowledge_61 : decode cX9_acknowledge 61 = .ok (.iaload, 1) := by decide +kernel
theorem dX9_acknowledge_62 : decode cX9_acknowledge 62 = .ok (.iload 4, 2) := by decide +kernel
theorem dX9_acknowledge_64 : decode cX9_acknowledge 64 = .ok (.isub, 1) := by decide +kernel
theorem dX9_acknowledge_65 : decode cX9_acknowledge 65 = .ok (.iastore, 1) := by decide +kernel
theorem dX9_acknowledge_66 : decode cX9_acknowledge 66 = .ok (.iconst 0, 1) := by decide +kernel
theorem dX9_acknowledge_67 : decode cX9_acknowledge 67 = .ok (.istore 5, 2) := by decide +kernel
theorem dX9_acknowledge_69 : decode cX9_acknowledge 69 = .ok (.iload 5, 2) := by decide +kernel
theorem dX9_acknowledge_71 : decode cX9_acknowledge 71 = .ok (.aload_n 0, 1) := by decide +kernel
theorem dX9_acknowledge_72 : decode cX9_acknowledge 72 = .ok (.getfield 75, 3) := by decide +kernel
theorem dX9_acknowledge_75 : decode cX9_acknowledge 75 = .ok (.iload_n 1, 1) := by decide +kernel
theorem dX9_acknowledge_76 : decode cX9_acknowledge 76 = .ok (.iaload, 1) := by decide +kernel
theorem dX9_acknowledge_77 : decode cX9_acknowledge 77 = .ok (.if_icmp .ge 89, 3) := by decide +kernel
theorem dX9_acknowledge_80 : decode cX9_acknowledge 80 = .ok (.aload_n 0, 1) := by decide +kernel
theorem dX9_acknowledge_81 : decode cX9_acknowledge 81 = .ok (.getfield 78, 3) := by decide +kernel
theorem dX9_acknowledge_84 : decode cX9_acknowledge 84 = .ok (.iconst 3, 1) := by decide +kernel
theorem dX9_acknowledge_85 : decode cX9_acknowledge 85 = .ok (.iload_n 1, 1) := by decide +kernel
theorem dX9_acknowledge_86 : decode cX9_acknowledge 86 = .ok (.imul, 1) := by decide +kernel
theorem dX9_acknowledge_87 : decode cX9_acknowledge 87 = .ok (.iload 5, 2) := by decide +kernel
theorem dX9_acknowledge_89 : decode cX9_acknowledge 89 = .ok (.iadd, 1) := by decide +kernel
theorem dX9_acknowledge_90 : decode cX9_acknowledge 90 = .ok (.aload_n 0, 1) := by decide +kernel
theorem dX9_acknowledge_91 : decode cX9_acknowledge 91 = .ok (.getfield 78, 3) := by decide +kernel
theorem dX9_acknowledge_94 : decode cX9_acknowledge 94 = .ok (.iconst 3, 1) := by decide +kernel
theorem dX9_acknowledge_95 : decode cX9_acknowledge 95 = .ok (.iload_n 1, 1) := by decide +kernel
theorem dX9_acknowledge_96 : decode cX9_acknowledge 96 = .ok (.imul, 1) := by decide +kernel
theorem dX9_acknowledge_97 : decode cX9_acknowledge 97 = .ok (.iload 5, 2) := by decide +kernel
theorem dX9_acknowledge_99 : decode cX9_acknowledge 99 = .ok (.iadd, 1) := by decide +kernel
theorem dX9_acknowledge_100 : decode cX9_acknowledge 100 = .ok (.iload 4, 2) := by decide +kernel
theorem dX9_acknowledge_102 : decode cX9_acknowledge 102 = .ok (.iadd, 1) := by decide +kernel
theorem dX9_acknowledge_103 : decode cX9_acknowledge 103 = .ok (.iaload, 1) := by decide +kernel
theorem dX9_acknowledge_104 : decode cX9_acknowledge 104 = .ok (.iastore, 1) := by decide +kernel
theorem dX9_acknowledge_105 : decode cX9_acknowledge 105 = .ok (.iconst 0, 1) := by decide +kernel
theorem dX9_acknowledge_106 : decode cX9_acknowledge 106 = .ok (.istore 6, 2) := by decide +kernel
theorem dX9_acknowledge_108 : decode cX9_acknowledge 108 = .ok (.iload 6, 2) := by decide +kernel
theorem dX9_acknowledge_110 : decode cX9_acknowledge 110 = .ok (.bipush 32, 2) := by decide +kernel
theorem dX9_acknowledge_112 : decode cX9_acknowledge 112 = .ok (.if_icmp .ge 48, 3) := by decide +kernel
theorem dX9_acknowledge_115 : decode cX9_acknowledge 115 = .ok (.aload_n 0, 1) := by decide +kernel
theorem dX9_acknowledge_116 : decode cX9_acknowledge 116 = .ok (.getfield 81, 3) := by decide +kernel
theorem dX9_acknowledge_119 : decode cX9_acknowledge 119 = .ok (.bipush 96, 2) := by decide +kernel
theorem dX9_acknowledge_121 : decode cX9_acknowledge 121 = .ok (.iload_n 1, 1) := by decide +kernel
theorem dX9_acknowledge_122 : decode cX9_acknowledge 122 = .ok (.imul, 1) := by decide +kernel
theorem dX9_acknowledge_123 : decode cX9_acknowledge 123 = .ok (.bipush 32, 2) := by decide +kernel
theorem dX9_acknowledge_125 : decode cX9_acknowledge 125 = .ok (.iload 5, 2) := by decide +kernel
theorem dX9_acknowledge_127 : decode cX9_acknowledge 127 = .ok (.imul, 1) := by decide +kernel
theorem dX9_acknowledge_128 : decode cX9_acknowledge 128 = .ok (.iadd, 1) := by decide +kernel
theorem dX9_acknowledge_129 : decode cX9_acknowledge 129 = .ok (.iload 6, 2) := by decide +kernel
theorem dX9_acknowledge_131 : decode cX9_acknowledge 131 = .ok (.iadd, 1) := by decide +kernel
theorem dX9_acknowledge_132 : decode cX9_acknowledge 132 = .ok (.aload_n 0, 1) := by decide +kernel
theorem dX9_acknowledge_133 : decode cX9_acknowledge 133 = .ok (.getfield 81, 3) := by decide +kernel
theorem dX9_acknowledge_136 : decode cX9_acknowledge 136 = .ok (.bipush 96, 2) := by decide +kernel
theorem dX9_acknowledge_138 : decode cX9_acknowledge 138 = .ok (.iload_n 1, 1) := by decide +kernel
theorem dX9_acknowledge_139 : decode cX9_acknowledge 139 = .ok (.imul, 1) := by decide +kernel
theorem dX9_acknowledge_140 : decode cX9_acknowledge 140 = .ok (.bipush 32, 2) := by decide +kernel
theorem dX9_acknowledge_142 : decode cX9_acknowledge 142 = .ok (.iload 5, 2) := by decide +kernel
theorem dX9_acknowledge_144 : decode cX9_acknowledge 144 = .ok (.iload 4, 2) := by decide +kernel
theorem dX9_acknowledge_146 : decode cX9_acknowledge 146 = .ok (.iadd, 1) := by decide +kernel
theorem dX9_acknowledge_147 : decode cX9_acknowledge 147 = .ok (.imul, 1) := by decide +kernel
theorem dX9_acknowledge_148 : decode cX9_acknowledge 148 = .ok (.iadd, 1) := by decide +kernel
theorem dX9_acknowledge_149 : decode cX9_acknowledge 149 = .ok (.iload 6, 2) := by decide +kernel
theorem dX9_acknowledge_151 : decode cX9_acknowledge 151 = .ok (.iadd, 1) := by decide +kernel
theorem dX9_acknowledge_152 : decode cX9_acknowledge 152 = .ok (.iaload, 1) := by decide +kernel
theorem dX9_acknowledge_153 : decode cX9_acknowledge 153 = .ok (.iastore, 1) := by decide +kernel
theorem dX9_acknowledge_154 : decode cX9_acknowledge 154 = .ok (.iinc 6 1, 3) := by decide +kernel
theorem dX9_acknowledge_157 : decode cX9_acknowledge 157 = .ok (.goto (-49), 3) := by decide +kernel
theorem dX9_acknowledge_160 : decode cX9_acknowledge 160 = .ok (.iinc 5 1, 3) := by decide +kernel
theorem dX9_acknowledge_163 : decode cX9_acknowledge 163 = .ok (.goto (-94), 3) := by decide +kernel
theorem dX9_acknowledge_166 : decode cX9_acknowledge 166 = .ok (.aload_n 0, 1) := by decide +kernel
theorem dX9_acknowledge_167 : decode cX9_acknowledge 167 = .ok (.getfield 105, 3) := by decide +kernel
theorem dX9_acknowledge_170 : decode cX9_acknowledge 170 = .ok (.iload_n 1, 1) := by decide +kernel
theorem dX9_acknowledge_171 : decode cX9_acknowledge 171 = .ok (.iconst 0, 1) := by decide +kernel
theorem dX9_acknowledge_172 : decode cX9_acknowledge 172 = .ok (.iastore, 1) := by decide +kernel
theorem dX9_acknowledge_173 : decode cX9_acknowledge 173 = .ok (.aload_n 0, 1) := by decide +kernel
theorem dX9_acknowledge_174 : decode cX9_acknowledge 174 = .ok (.getfield 108, 3) := by decide +kernel
theorem dX9_acknowledge_177 : decode cX9_acknowledge 177 = .ok (.iload_n 1, 1) := by decide +kernel
theorem dX9_acknowledge_178 : decode cX9_acknowledge 178 = .ok (.iconst 0, 1) := by decide +kernel
theorem dX9_acknowledge_179 : decode cX9_acknowledge 179 = .ok (.iastore, 1) := by decide +kernel
theorem dX9_acknowledge_180 : decode cX9_acknowledge 180 = .ok (.return_, 1) := by decide +kernel
theorem dX9_sendAgain_0 : decode cX9_sendAgain 0 = .ok (.iconst 0, 1) := by decide +kernel
theorem dX9_sendAgain_1 : decode cX9_sendAgain 1 = .ok (.istore_n 2, 1) := by decide +kernel
theorem dX9_sendAgain_2 : decode cX9_sendAgain 2 = .ok (.iload_n 2, 1) := by decide +kernel
theorem dX9_sendAgain_3 : decode cX9_sendAgain 3 = .ok (.aload_n 0, 1) := by decide +kernel
theorem dX9_sendAgain_4 : decode cX9_sendAgain 4 = .ok (.getfield 75, 3) := by decide +kernel
theorem dX9_sendAgain_7 : decode cX9_sendAgain 7 = .ok (.iload_n 1, 1) := by decide +kernel
theorem dX9_sendAgain_8 : decode cX9_sendAgain 8 = .ok (.iaload, 1) := by decide +kernel
theorem dX9_sendAgain_9 : decode cX9_sendAgain 9 = .ok (.if_icmp .ge 15, 3) := by decide +kernel
theorem dX9_sendAgain_12 : decode cX9_sendAgain 12 = .ok (.aload_n 0, 1) := by decide +kernel
theorem dX9_sendAgain_13 : decode cX9_sendAgain 13 = .ok (.iload_n 1, 1) := by decide +kernel
theorem dX9_sendAgain_14 : decode cX9_sendAgain 14 = .ok (.iload_n 2, 1) := by decide +kernel
theorem dX9_sendAgain_15 : decode cX9_sendAgain 15 = .ok (.invokevirtual 145, 3) := by decide +kernel
theorem dX9_sendAgain_18 : decode cX9_sendAgain 18 = .ok (.iinc 2 1, 3) := by decide +kernel
theorem dX9_sendAgain_21 : decode cX9_sendAgain 21 = .ok (.goto (-19), 3) := by decide +kernel
theorem dX9_sendAgain_24 : decode cX9_sendAgain 24 = .ok (.aload_n 0, 1) := by decide +kernel
theorem dX9_sendAgain_25 : decode cX9_sendAgain 25 = .ok (.getfield 105, 3) := by decide +kernel
theorem dX9_sendAgain_28 : decode cX9_sendAgain 28 = .ok (.iload_n 1, 1) := by decide +kernel
theorem dX9_sendAgain_29 : decode cX9_sendAgain 29 = .ok (.aload_n 0, 1) := by decide +kernel
theorem dX9_sendAgain_30 : decode cX9_sendAgain 30 = .ok (.getfield 75, 3) := by decide +kernel
theorem dX9_sendAgain_33 : decode cX9_sendAgain 33 = .ok (.iload_n 1, 1) := by decide +kernel
theorem dX9_sendAgain_34 : decode cX9_sendAgain 34 = .ok (.iaload, 1) := by decide +kernel
theorem dX9_sendAgain_35 : decode cX9_sendAgain 35 = .ok (.ifCond .le 7, 3) := by decide +kernel
theorem dX9_sendAgain_38 : decode cX9_sendAgain 38 = .ok (.iconst 0, 1) := by decide +kernel
theorem dX9_sendAgain_39 : decode cX9_sendAgain 39 = .ok (.goto 9, 3) := by decide +kernel
theorem dX9_sendAgain_42 : decode cX9_sendAgain 42 = .ok (.aload_n 0, 1) := by decide +kernel
theorem dX9_sendAgain_43 : decode cX9_sendAgain 43 = .ok (.getfield 105, 3) := by decide +kernel
theorem dX9_sendAgain_46 : decode cX9_sendAgain 46 = .ok (.iload_n 1, 1) := by decide +kernel
theorem dX9_sendAgain_47 : decode cX9_sendAgain 47 = .ok (.iaload, 1) := by decide +kernel
theorem dX9_sendAgain_48 : decode cX9_sendAgain 48 = .ok (.iastore, 1) := by decide +kernel
theorem dX9_sendAgain_49 : decode cX9_sendAgain 49 = .ok (.return_, 1) := by decide +kernel
theorem dX9_done_0 : decode cX9_done 0 = .ok (.aload_n 0, 1) := by decide +kernel
theorem dX9_done_1 : decode cX9_done 1 = .ok (.getfield 111, 3) := by decide +kernel
theorem dX9_done_4 : decode cX9_done 4 = .ok (.iconst 0, 1) := by decide +kernel
theorem dX9_done_5 : decode cX9_done 5 = .ok (.iaload, 1) := by decide +kernel
theorem dX9_done_6 : decode cX9_done 6 = .ok (.istore_n 2, 1) := by decide +kernel
theorem dX9_done_7 : decode cX9_done 7 = .ok (.aload_n 0, 1) := by decide +kernel
theorem dX9_done_8 : decode cX9_done 8 = .ok (.getfield 111, 3) := by decide +kernel
theorem dX9_done_11 : decode cX9_done 11 = .ok (.iconst 1, 1) := by decide +kernel
theorem dX9_done_12 : decode cX9_done 12 = .ok (.iaload, 1) := by decide +kernel
theorem dX9_done_13 : decode cX9_done 13 = .ok (.istore_n 3, 1) := by decide +kernel
theorem dX9_done_14 : decode cX9_done 14 = .ok (.aload_n 0, 1) := by decide +kernel
theorem dX9_done_15 : decode cX9_done 15 = .ok (.getfield 59, 3) := by decide +kernel
theorem dX9_done_18 : decode cX9_done 18 = .ok (.iload_n 1, 1) := by decide +kernel
theorem dX9_done_19 : decode cX9_done 19 = .ok (.baload, 1) := by decide +kernel
theorem dX9_done_20 : decode cX9_done 20 = .ok (.ifCond .eq 128, 3) := by decide +kernel
theorem dX9_done_23 : decode cX9_done 23 = .ok (.iload_n 2, 1) := by decide +kernel
theorem dX9_done_24 : decode cX9_done 24 = .ok (.iconst 1, 1) := by decide +kernel
theorem dX9_done_25 : decode cX9_done 25 = .ok (.if_icmp .ne 24, 3) := by decide +kernel
theorem dX9_done_28 : decode cX9_done 28 = .ok (.iload_n 3, 1) := by decide +kernel
theorem dX9_done_29 : decode cX9_done 29 = .ok (.bipush 72, 2) := by decide +kernel
theorem dX9_done_31 : decode cX9_done 31 = .ok (.if_icmp .eq 19, 3) := by decide +kernel
theorem dX9_done_34 : decode cX9_done 34 = .ok (.iload_n 3, 1) := by decide +kernel
theorem dX9_done_35 : decode cX9_done 35 = .ok (.bipush 84, 2) := by decide +kernel
theorem dX9_done_37 : decode cX9_done 37 = .ok (.if_icmp .eq 13, 3) := by decide +kernel
theorem dX9_done_40 : decode cX9_done 40 = .ok (.aload_n 0, 1) := by decide +kernel
theorem dX9_done_41 : decode cX9_done 41 = .ok (.getfield 19, 3) := by decide +kernel
theorem dX9_done_44 : decode cX9_done 44 = .ok (.iload_n 1, 1) := by decide +kernel
theorem dX9_done_45 : decode cX9_done 45 = .ok (.iaload, 1) := by decide +kernel
theorem dX9_done_46 : decode cX9_done 46 = .ok (.ifCond .ne 4, 3) := by decide +kernel
theorem dX9_done_49 : decode cX9_done 49 = .ok (.return_, 1) := by decide +kernel
theorem dX9_done_50 : decode cX9_done 50 = .ok (.iload_n 3, 1) := by decide +kernel
theorem dX9_done_51 : decode cX9_done 51 = .ok (.lookupswitch 96 #[(67, 49), (72, 70), (78, 49), (84, 86), (89, 62)], 49) := by decide +kernel
theorem dX9_done_100 : decode cX9_done 100 = .ok (.aload_n 0, 1) := by decide +kernel
theorem dX9_done_101 : decode cX9_done 101 = .ok (.iload_n 1, 1) := by decide +kernel
theorem dX9_done_102 : decode cX9_done 102 = .ok (.invokevirtual 163, 3) := by decide +kernel
theorem dX9_done_105 : decode cX9_done 105 = .ok (.aload_n 0, 1) := by decide +kernel
theorem dX9_done_106 : decode cX9_done 106 = .ok (.iload_n 1, 1) := by decide +kernel
theorem dX9_done_107 : decode cX9_done 107 = .ok (.invokevirtual 166, 3) := by decide +kernel
theorem dX9_done_110 : decode cX9_done 110 = .ok (.goto 37, 3) := by decide +kernel
theorem dX9_done_113 : decode cX9_done 113 = .ok (.aload_n 0, 1) := by decide +kernel
theorem dX9_done_114 : decode cX9_done 114 = .ok (.iload_n 1, 1) := by decide +kernel
theorem dX9_done_115 : decode cX9_done 115 = .ok (.invokevirtual 169, 3) := by decide +kernel
theorem dX9_done_118 : decode cX9_done 118 = .ok (.goto 29, 3) := by decide +kernel
theorem dX9_done_121 : decode cX9_done 121 = .ok (.aload_n 0, 1) := by decide +kernel
theorem dX9_done_122 : decode cX9_done 122 = .ok (.iload_n 1, 1) := by decide +kernel
theorem dX9_done_123 : decode cX9_done 123 = .ok (.iconst 1, 1) := by decide +kernel
theorem dX9_done_124 : decode cX9_done 124 = .ok (.iconst 0, 1) := by decide +kernel
theorem dX9_done_125 : decode cX9_done 125 = .ok (.invokevirtual 172, 3) := by decide +kernel
theorem dX9_done_128 : decode cX9_done 128 = .ok (.aload_n 0, 1) := by decide +kernel
theorem dX9_done_129 : decode cX9_done 129 = .ok (.iload_n 1, 1) := by decide +kernel
theorem dX9_done_130 : decode cX9_done 130 = .ok (.iconst 0, 1) := by decide +kernel
theorem dX9_done_131 : decode cX9_done 131 = .ok (.invokevirtual 176, 3) := by decide +kernel
theorem dX9_done_134 : decode cX9_done 134 = .ok (.goto 13, 3) := by decide +kernel
theorem dX9_done_137 : decode cX9_done 137 = .ok (.aload_n 0, 1) := by decide +kernel
theorem dX9_done_138 : decode cX9_done 138 = .ok (.getfield 59, 3) := by decide +kernel
theorem dX9_done_141 : decode cX9_done 141 = .ok (.iload_n 1, 1) := by decide +kernel
theorem dX9_done_142 : decode cX9_done 142 = .ok (.iconst 0, 1) := by decide +kernel
theorem dX9_done_143 : decode cX9_done 143 = .ok (.bastore, 1) := by decide +kernel
theorem dX9_done_144 : decode cX9_done 144 = .ok (.goto 3, 3) := by decide +kernel
theorem dX9_done_147 : decode cX9_done 147 = .ok (.return_, 1) := by decide +kernel
theorem dX9_done_148 : decode cX9_done 148 = .ok (.iload_n 3, 1) := by decide +kernel
theorem dX9_done_149 : decode cX9_done 149 = .ok (.bipush 83, 2) := by decide +kernel
theorem dX9_done_151 : decode cX9_done 151 = .ok (.if_icmp .ne 39, 3) := by decide +kernel
theorem dX9_done_154 : decode cX9_done 154 = .ok (.iload_n 2, 1) := by decide +kernel
theorem dX9_done_155 : decode cX9_done 155 = .ok (.iconst 3, 1) := by decide +kernel
theorem dX9_done_156 : decode cX9_done 156 = .ok (.if_icmp .ne 34, 3) := by decide +kernel
theorem dX9_done_159 : decode cX9_done 159 = .ok (.aload_n 0, 1) := by decide +kernel
theorem dX9_done_160 : decode cX9_done 160 = .ok (.getfield 111, 3) := by decide +kernel
theorem dX9_done_163 : decode cX9_done 163 = .ok (.iconst 3, 1) := by decide +kernel
theorem dX9_done_164 : decode cX9_done 164 = .ok (.iaload, 1) := by decide +kernel
theorem dX9_done_165 : decode cX9_done 165 = .ok (.bipush 100, 2) := by decide +kernel
theorem dX9_done_167 : decode cX9_done 167 = .ok (.if_icmp .gt 178, 3) := by decide +kernel
theorem dX9_done_170 : decode cX9_done 170 = .ok (.aload_n 0, 1) := by decide +kernel
theorem dX9_done_171 : decode cX9_done 171 = .ok (.iload_n 1, 1) := by decide +kernel
theorem dX9_done_172 : decode cX9_done 172 = .ok (.aload_n 0, 1) := by decide +kernel
theorem dX9_done_173 : decode cX9_done 173 = .ok (.getfield 111, 3) := by decide +kernel
theorem dX9_done_176 : decode cX9_done 176 = .ok (.iconst 2, 1) := by decide +kernel
theorem dX9_done_177 : decode cX9_done 177 = .ok (.iaload, 1) := by decide +kernel
theorem dX9_done_178 : decode cX9_done 178 = .ok (.aload_n 0, 1) := by decide +kernel
theorem dX9_done_179 : decode cX9_done 179 = .ok (.getfield 111, 3) := by decide +kernel
theorem dX9_done_182 : decode cX9_done 182 = .ok (.iconst 3, 1) := by decide +kernel
theorem dX9_done_183 : decode cX9_done 183 = .ok (.iaload, 1) := by decide +kernel
theorem dX9_done_184 : decode cX9_done 184 = .ok (.invokevirtual 179, 3) := by decide +kernel
theorem dX9_done_187 : decode cX9_done 187 = .ok (.goto 158, 3) := by decide +kernel
theorem dX9_done_190 : decode cX9_done 190 = .ok (.iload_n 3, 1) := by decide +kernel
theorem dX9_done_191 : decode cX9_done 191 = .ok (.bipush 68, 2) := by decide +kernel
theorem dX9_done_193 : decode cX9_done 193 = .ok (.if_icmp .ne 103, 3) := by decide +kernel
end
section
theorem dX9_done_196 : decode cX9_done 196 = .ok (.iload_n 2, 1) := by decide +kernel
theorem dX9_done_197 : decode cX9_done 197 = .ok (.iconst 1, 1) := by decide +kernel
theorem dX9_done_198 : decode cX9_done 198 = .ok (.if_icmp .le 98, 3) := by decide +kernel
theorem dX9_done_201 : decode cX9_done 201 = .ok (.aload_n 0, 1) := by decide +kernel
theorem dX9_done_202 : decode cX9_done 202 = .ok (.getfield 90, 3) := by decide +kernel
theorem dX9_done_205 : decode cX9_done 205 = .ok (.iload_n 1, 1) := by decide +kernel
theorem dX9_done_206 : decode cX9_done 206 = .ok (.baload, 1) := by decide +kernel
theorem dX9_done_207 : decode cX9_done 207 = .ok (.ifCond .eq 89, 3) := by decide +kernel
theorem dX9_done_210 : decode cX9_done 210 = .ok (.iconst 2, 1) := by decide +kernel
theorem dX9_done_211 : decode cX9_done 211 = .ok (.istore 4, 2) := by decide +kernel
theorem dX9_done_213 : decode cX9_done 213 = .ok (.iload 4, 2) := by decide +kernel
theorem dX9_done_215 : decode cX9_done 215 = .ok (.iload_n 2, 1) := by decide +kernel
theorem dX9_done_216 : decode cX9_done 216 = .ok (.if_icmp .gt 57, 3) := by decide +kernel
theorem dX9_done_219 : decode cX9_done 219 = .ok (.aload_n 0, 1) := by decide +kernel
theorem dX9_done_220 : decode cX9_done 220 = .ok (.getfield 99, 3) := by decide +kernel
theorem dX9_done_223 : decode cX9_done 223 = .ok (.iload_n 1, 1) := by decide +kernel
theorem dX9_done_224 : decode cX9_done 224 = .ok (.iaload, 1) := by decide +kernel
theorem dX9_done_225 : decode cX9_done 225 = .ok (.aload_n 0, 1) := by decide +kernel
theorem dX9_done_226 : decode cX9_done 226 = .ok (.getfield 96, 3) := by decide +kernel
theorem dX9_done_229 : decode cX9_done 229 = .ok (.iload_n 1, 1) := by decide +kernel
theorem dX9_done_230 : decode cX9_done 230 = .ok (.iaload, 1) := by decide +kernel
theorem dX9_done_231 : decode cX9_done 231 = .ok (.if_icmp .ge 42, 3) := by decide +kernel
theorem dX9_done_234 : decode cX9_done 234 = .ok (.aload_n 0, 1) := by decide +kernel
theorem dX9_done_235 : decode cX9_done 235 = .ok (.getfield 102, 3) := by decide +kernel
theorem dX9_done_238 : decode cX9_done 238 = .ok (.bipush 100, 2) := by decide +kernel
theorem dX9_done_240 : decode cX9_done 240 = .ok (.iload_n 1, 1) := by decide +kernel
theorem dX9_done_241 : decode cX9_done 241 = .ok (.imul, 1) := by decide +kernel
theorem dX9_done_242 : decode cX9_done 242 = .ok (.aload_n 0, 1) := by decide +kernel
theorem dX9_done_243 : decode cX9_done 243 = .ok (.getfield 99, 3) := by decide +kernel
theorem dX9_done_246 : decode cX9_done 246 = .ok (.iload_n 1, 1) := by decide +kernel
theorem dX9_done_247 : decode cX9_done 247 = .ok (.iaload, 1) := by decide +kernel
theorem dX9_done_248 : decode cX9_done 248 = .ok (.iadd, 1) := by decide +kernel
theorem dX9_done_249 : decode cX9_done 249 = .ok (.aload_n 0, 1) := by decide +kernel
theorem dX9_done_250 : decode cX9_done 250 = .ok (.getfield 111, 3) := by decide +kernel
theorem dX9_done_253 : decode cX9_done 253 = .ok (.iload 4, 2) := by decide +kernel
theorem dX9_done_255 : decode cX9_done 255 = .ok (.iaload, 1) := by decide +kernel
theorem dX9_done_256 : decode cX9_done 256 = .ok (.iastore, 1) := by decide +kernel
theorem dX9_done_257 : decode cX9_done 257 = .ok (.aload_n 0, 1) := by decide +kernel
theorem dX9_done_258 : decode cX9_done 258 = .ok (.getfield 99, 3) := by decide +kernel
theorem dX9_done_261 : decode cX9_done 261 = .ok (.iload_n 1, 1) := by decide +kernel
theorem dX9_done_262 : decode cX9_done 262 = .ok (.dup2, 1) := by decide +kernel
theorem dX9_done_263 : decode cX9_done 263 = .ok (.iaload, 1) := by decide +kernel
theorem dX9_done_264 : decode cX9_done 264 = .ok (.iconst 1, 1) := by decide +kernel
theorem dX9_done_265 : decode cX9_done 265 = .ok (.iadd, 1) := by decide +kernel
theorem dX9_done_266 : decode cX9_done 266 = .ok (.iastore, 1) := by decide +kernel
theorem dX9_done_267 : decode cX9_done 267 = .ok (.iinc 4 1, 3) := by decide +kernel
theorem dX9_done_270 : decode cX9_done 270 = .ok (.goto (-57), 3) := by decide +kernel
theorem dX9_done_273 : decode cX9_done 273 = .ok (.aload_n 0, 1) := by decide +kernel
theorem dX9_done_274 : decode cX9_done 274 = .ok (.getfield 99, 3) := by decide +kernel
theorem dX9_done_277 : decode cX9_done 277 = .ok (.iload_n 1, 1) := by decide +kernel
theorem dX9_done_278 : decode cX9_done 278 = .ok (.iaload, 1) := by decide +kernel
theorem dX9_done_279 : decode cX9_done 279 = .ok (.aload_n 0, 1) := by decide +kernel
theorem dX9_done_280 : decode cX9_done 280 = .ok (.getfield 96, 3) := by decide +kernel
theorem dX9_done_283 : decode cX9_done 283 = .ok (.iload_n 1, 1) := by decide +kernel
theorem dX9_done_284 : decode cX9_done 284 = .ok (.iaload, 1) := by decide +kernel
theorem dX9_done_285 : decode cX9_done 285 = .ok (.if_icmp .ne 60, 3) := by decide +kernel
theorem dX9_done_288 : decode cX9_done 288 = .ok (.aload_n 0, 1) := by decide +kernel
theorem dX9_done_289 : decode cX9_done 289 = .ok (.iload_n 1, 1) := by decide +kernel
theorem dX9_done_290 : decode cX9_done 290 = .ok (.invokevirtual 182, 3) := by decide +kernel
theorem dX9_done_293 : decode cX9_done 293 = .ok (.goto 52, 3) := by decide +kernel
theorem dX9_done_296 : decode cX9_done 296 = .ok (.iload_n 3, 1) := by decide +kernel
theorem dX9_done_297 : decode cX9_done 297 = .ok (.bipush 72, 2) := by decide +kernel
theorem dX9_done_299 : decode cX9_done 299 = .ok (.if_icmp .ne 46, 3) := by decide +kernel
theorem dX9_done_302 : decode cX9_done 302 = .ok (.iload_n 2, 1) := by decide +kernel
theorem dX9_done_303 : decode cX9_done 303 = .ok (.iconst 1, 1) := by decide +kernel
theorem dX9_done_304 : decode cX9_done 304 = .ok (.if_icmp .ne 41, 3) := by decide +kernel
theorem dX9_done_307 : decode cX9_done 307 = .ok (.aload_n 0, 1) := by decide +kernel
theorem dX9_done_308 : decode cX9_done 308 = .ok (.getfield 19, 3) := by decide +kernel
theorem dX9_done_311 : decode cX9_done 311 = .ok (.iload_n 1, 1) := by decide +kernel
theorem dX9_done_312 : decode cX9_done 312 = .ok (.iaload, 1) := by decide +kernel
theorem dX9_done_313 : decode cX9_done 313 = .ok (.ifCond .ne 13, 3) := by decide +kernel
theorem dX9_done_316 : decode cX9_done 316 = .ok (.aload_n 0, 1) := by decide +kernel
theorem dX9_done_317 : decode cX9_done 317 = .ok (.iload_n 1, 1) := by decide +kernel
theorem dX9_done_318 : decode cX9_done 318 = .ok (.bipush 72, 2) := by decide +kernel
theorem dX9_done_320 : decode cX9_done 320 = .ok (.invokevirtual 157, 3) := by decide +kernel
theorem dX9_done_323 : decode cX9_done 323 = .ok (.goto 22, 3) := by decide +kernel
theorem dX9_done_326 : decode cX9_done 326 = .ok (.aload_n 0, 1) := by decide +kernel
theorem dX9_done_327 : decode cX9_done 327 = .ok (.iload_n 1, 1) := by decide +kernel
theorem dX9_done_328 : decode cX9_done 328 = .ok (.bipush 84, 2) := by decide +kernel
theorem dX9_done_330 : decode cX9_done 330 = .ok (.invokevirtual 157, 3) := by decide +kernel
theorem dX9_done_333 : decode cX9_done 333 = .ok (.aload_n 0, 1) := by decide +kernel
theorem dX9_done_334 : decode cX9_done 334 = .ok (.getfield 59, 3) := by decide +kernel
theorem dX9_done_337 : decode cX9_done 337 = .ok (.iload_n 1, 1) := by decide +kernel
theorem dX9_done_338 : decode cX9_done 338 = .ok (.iconst 1, 1) := by decide +kernel
theorem dX9_done_339 : decode cX9_done 339 = .ok (.bastore, 1) := by decide +kernel
theorem dX9_done_340 : decode cX9_done 340 = .ok (.aload_n 0, 1) := by decide +kernel
theorem dX9_done_341 : decode cX9_done 341 = .ok (.iload_n 1, 1) := by decide +kernel
theorem dX9_done_342 : decode cX9_done 342 = .ok (.invokevirtual 166, 3) := by decide +kernel
theorem dX9_done_345 : decode cX9_done 345 = .ok (.return_, 1) := by decide +kernel
theorem dX9_offered_0 : decode cX9_offered 0 = .ok (.aload_n 0, 1) := by decide +kernel
theorem dX9_offered_1 : decode cX9_offered 1 = .ok (.iload_n 1, 1) := by decide +kernel
theorem dX9_offered_2 : decode cX9_offered 2 = .ok (.iload_n 2, 1) := by decide +kernel
theorem dX9_offered_3 : decode cX9_offered 3 = .ok (.invokevirtual 185, 3) := by decide +kernel
theorem dX9_offered_6 : decode cX9_offered 6 = .ok (.ifCond .eq 11, 3) := by decide +kernel
theorem dX9_offered_9 : decode cX9_offered 9 = .ok (.aload_n 0, 1) := by decide +kernel
theorem dX9_offered_10 : decode cX9_offered 10 = .ok (.iload_n 1, 1) := by decide +kernel
theorem dX9_offered_11 : decode cX9_offered 11 = .ok (.bipush 78, 2) := by decide +kernel
theorem dX9_offered_13 : decode cX9_offered 13 = .ok (.invokevirtual 157, 3) := by decide +kernel
theorem dX9_offered_16 : decode cX9_offered 16 = .ok (.return_, 1) := by decide +kernel
theorem dX9_offered_17 : decode cX9_offered 17 = .ok (.aload_n 0, 1) := by decide +kernel
theorem dX9_offered_18 : decode cX9_offered 18 = .ok (.iload_n 1, 1) := by decide +kernel
theorem dX9_offered_19 : decode cX9_offered 19 = .ok (.bipush 89, 2) := by decide +kernel
theorem dX9_offered_21 : decode cX9_offered 21 = .ok (.invokevirtual 157, 3) := by decide +kernel
theorem dX9_offered_24 : decode cX9_offered 24 = .ok (.aload_n 0, 1) := by decide +kernel
theorem dX9_offered_25 : decode cX9_offered 25 = .ok (.getfield 90, 3) := by decide +kernel
theorem dX9_offered_28 : decode cX9_offered 28 = .ok (.iload_n 1, 1) := by decide +kernel
theorem dX9_offered_29 : decode cX9_offered 29 = .ok (.iconst 1, 1) := by decide +kernel
theorem dX9_offered_30 : decode cX9_offered 30 = .ok (.bastore, 1) := by decide +kernel
theorem dX9_offered_31 : decode cX9_offered 31 = .ok (.aload_n 0, 1) := by decide +kernel
theorem dX9_offered_32 : decode cX9_offered 32 = .ok (.getfield 93, 3) := by decide +kernel
theorem dX9_offered_35 : decode cX9_offered 35 = .ok (.iload_n 1, 1) := by decide +kernel
theorem dX9_offered_36 : decode cX9_offered 36 = .ok (.iload_n 2, 1) := by decide +kernel
theorem dX9_offered_37 : decode cX9_offered 37 = .ok (.iastore, 1) := by decide +kernel
theorem dX9_offered_38 : decode cX9_offered 38 = .ok (.aload_n 0, 1) := by decide +kernel
theorem dX9_offered_39 : decode cX9_offered 39 = .ok (.getfield 96, 3) := by decide +kernel
theorem dX9_offered_42 : decode cX9_offered 42 = .ok (.iload_n 1, 1) := by decide +kernel
theorem dX9_offered_43 : decode cX9_offered 43 = .ok (.iload_n 3, 1) := by decide +kernel
theorem dX9_offered_44 : decode cX9_offered 44 = .ok (.iastore, 1) := by decide +kernel
theorem dX9_offered_45 : decode cX9_offered 45 = .ok (.aload_n 0, 1) := by decide +kernel
theorem dX9_offered_46 : decode cX9_offered 46 = .ok (.getfield 99, 3) := by decide +kernel
theorem dX9_offered_49 : decode cX9_offered 49 = .ok (.iload_n 1, 1) := by decide +kernel
theorem dX9_offered_50 : decode cX9_offered 50 = .ok (.iconst 0, 1) := by decide +kernel
theorem dX9_offered_51 : decode cX9_offered 51 = .ok (.iastore, 1) := by decide +kernel
theorem dX9_offered_52 : decode cX9_offered 52 = .ok (.iload_n 3, 1) := by decide +kernel
theorem dX9_offered_53 : decode cX9_offered 53 = .ok (.ifCond .ne 8, 3) := by decide +kernel
theorem dX9_offered_56 : decode cX9_offered 56 = .ok (.aload_n 0, 1) := by decide +kernel
theorem dX9_offered_57 : decode cX9_offered 57 = .ok (.iload_n 1, 1) := by decide +kernel
theorem dX9_offered_58 : decode cX9_offered 58 = .ok (.invokevirtual 182, 3) := by decide +kernel
theorem dX9_offered_61 : decode cX9_offered 61 = .ok (.return_, 1) := by decide +kernel
theorem dX9_come_0 : decode cX9_come 0 = .ok (.aload_n 0, 1) := by decide +kernel
theorem dX9_come_1 : decode cX9_come 1 = .ok (.getfield 53, 3) := by decide +kernel
theorem dX9_come_4 : decode cX9_come 4 = .ok (.iconst 4, 1) := by decide +kernel
theorem dX9_come_5 : decode cX9_come 5 = .ok (.iaload, 1) := by decide +kernel
theorem dX9_come_6 : decode cX9_come 6 = .ok (.istore_n 2, 1) := by decide +kernel
theorem dX9_come_7 : decode cX9_come 7 = .ok (.iload_n 2, 1) := by decide +kernel
theorem dX9_come_8 : decode cX9_come 8 = .ok (.iconst 3, 1) := by decide +kernel
theorem dX9_come_9 : decode cX9_come 9 = .ok (.ishr, 1) := by decide +kernel
theorem dX9_come_10 : decode cX9_come 10 = .ok (.bipush 7, 2) := by decide +kernel
theorem dX9_come_12 : decode cX9_come 12 = .ok (.iand, 1) := by decide +kernel
theorem dX9_come_13 : decode cX9_come 13 = .ok (.istore_n 3, 1) := by decide +kernel
theorem dX9_come_14 : decode cX9_come 14 = .ok (.iload_n 2, 1) := by decide +kernel
theorem dX9_come_15 : decode cX9_come 15 = .ok (.bipush 7, 2) := by decide +kernel
theorem dX9_come_17 : decode cX9_come 17 = .ok (.iand, 1) := by decide +kernel
theorem dX9_come_18 : decode cX9_come 18 = .ok (.istore 4, 2) := by decide +kernel
theorem dX9_come_20 : decode cX9_come 20 = .ok (.aload_n 0, 1) := by decide +kernel
theorem dX9_come_21 : decode cX9_come 21 = .ok (.getfield 53, 3) := by decide +kernel
theorem dX9_come_24 : decode cX9_come 24 = .ok (.iconst 1, 1) := by decide +kernel
theorem dX9_come_25 : decode cX9_come 25 = .ok (.iaload, 1) := by decide +kernel
theorem dX9_come_26 : decode cX9_come 26 = .ok (.iconst 1, 1) := by decide +kernel
theorem dX9_come_27 : decode cX9_come 27 = .ok (.if_icmp .ne 7, 3) := by decide +kernel
theorem dX9_come_30 : decode cX9_come 30 = .ok (.iconst 1, 1) := by decide +kernel
theorem dX9_come_31 : decode cX9_come 31 = .ok (.goto 4, 3) := by decide +kernel
theorem dX9_come_34 : decode cX9_come 34 = .ok (.iconst 0, 1) := by decide +kernel
theorem dX9_come_35 : decode cX9_come 35 = .ok (.istore 5, 2) := by decide +kernel
theorem dX9_come_37 : decode cX9_come 37 = .ok (.iload 5, 2) := by decide +kernel
theorem dX9_come_39 : decode cX9_come 39 = .ok (.ifCond .ne 97, 3) := by decide +kernel
theorem dX9_come_42 : decode cX9_come 42 = .ok (.iload_n 3, 1) := by decide +kernel
theorem dX9_come_43 : decode cX9_come 43 = .ok (.bipush 7, 2) := by decide +kernel
theorem dX9_come_45 : decode cX9_come 45 = .ok (.if_icmp .ne 91, 3) := by decide +kernel
theorem dX9_come_48 : decode cX9_come 48 = .ok (.aload_n 0, 1) := by decide +kernel
theorem dX9_come_49 : decode cX9_come 49 = .ok (.getfield 56, 3) := by decide +kernel
theorem dX9_come_52 : decode cX9_come 52 = .ok (.iload_n 1, 1) := by decide +kernel
theorem dX9_come_53 : decode cX9_come 53 = .ok (.iaload, 1) := by decide +kernel
theorem dX9_come_54 : decode cX9_come 54 = .ok (.iconst 2, 1) := by decide +kernel
theorem dX9_come_55 : decode cX9_come 55 = .ok (.if_icmp .ne 36, 3) := by decide +kernel
theorem dX9_come_58 : decode cX9_come 58 = .ok (.aload_n 0, 1) := by decide +kernel
theorem dX9_come_59 : decode cX9_come 59 = .ok (.getfield 59, 3) := by decide +kernel
theorem dX9_come_62 : decode cX9_come 62 = .ok (.iload_n 1, 1) := by decide +kernel
theorem dX9_come_63 : decode cX9_come 63 = .ok (.baload, 1) := by decide +kernel
theorem dX9_come_64 : decode cX9_come 64 = .ok (.ifCond .ne 27, 3) := by decide +kernel
theorem dX9_come_67 : decode cX9_come 67 = .ok (.aload_n 0, 1) := by decide +kernel
theorem dX9_come_68 : decode cX9_come 68 = .ok (.getfield 63, 3) := by decide +kernel
theorem dX9_come_71 : decode cX9_come 71 = .ok (.iload_n 1, 1) := by decide +kernel
theorem dX9_come_72 : decode cX9_come 72 = .ok (.iaload, 1) := by decide +kernel
theorem dX9_come_73 : decode cX9_come 73 = .ok (.iload 4, 2) := by decide +kernel
theorem dX9_come_75 : decode cX9_come 75 = .ok (.if_icmp .ne 16, 3) := by decide +kernel
theorem dX9_come_78 : decode cX9_come 78 = .ok (.aload_n 0, 1) := by decide +kernel
theorem dX9_come_79 : decode cX9_come 79 = .ok (.getfield 66, 3) := by decide +kernel
theorem dX9_come_82 : decode cX9_come 82 = .ok (.iload_n 1, 1) := by decide +kernel
theorem dX9_come_83 : decode cX9_come 83 = .ok (.baload, 1) := by decide +kernel
theorem dX9_come_84 : decode cX9_come 84 = .ok (.ifCond .eq 7, 3) := by decide +kernel
theorem dX9_come_87 : decode cX9_come 87 = .ok (.iconst 1, 1) := by decide +kernel
theorem dX9_come_88 : decode cX9_come 88 = .ok (.goto 4, 3) := by decide +kernel
theorem dX9_come_91 : decode cX9_come 91 = .ok (.iconst 0, 1) := by decide +kernel
theorem dX9_come_92 : decode cX9_come 92 = .ok (.istore 6, 2) := by decide +kernel
theorem dX9_come_94 : decode cX9_come 94 = .ok (.iload_n 1, 1) := by decide +kernel
theorem dX9_come_95 : decode cX9_come 95 = .ok (.ifCond .ne 13, 3) := by decide +kernel
theorem dX9_come_98 : decode cX9_come 98 = .ok (.aload_n 0, 1) := by decide +kernel
theorem dX9_come_99 : decode cX9_come 99 = .ok (.getfield 56, 3) := by decide +kernel
theorem dX9_come_102 : decode cX9_come 102 = .ok (.iload_n 1, 1) := by decide +kernel
theorem dX9_come_103 : decode cX9_come 103 = .ok (.iaload, 1) := by decide +kernel
theorem dX9_come_104 : decode cX9_come 104 = .ok (.iconst 1, 1) := by decide +kernel
theorem dX9_come_105 : decode cX9_come 105 = .ok (.if_icmp .eq 30, 3) := by decide +kernel
theorem dX9_come_108 : decode cX9_come 108 = .ok (.iload 6, 2) := by decide +kernel
theorem dX9_come_110 : decode cX9_come 110 = .ok (.ifCond .ne 25, 3) := by decide +kernel
theorem dX9_come_113 : decode cX9_come 113 = .ok (.aload_n 0, 1) := by decide +kernel
theorem dX9_come_114 : decode cX9_come 114 = .ok (.iload_n 1, 1) := by decide +kernel
theorem dX9_come_115 : decode cX9_come 115 = .ok (.iconst 2, 1) := by decide +kernel
theorem dX9_come_116 : decode cX9_come 116 = .ok (.invokevirtual 176, 3) := by decide +kernel
theorem dX9_come_119 : decode cX9_come 119 = .ok (.aload_n 0, 1) := by decide +kernel
theorem dX9_come_120 : decode cX9_come 120 = .ok (.getfield 63, 3) := by decide +kernel
theorem dX9_come_123 : decode cX9_come 123 = .ok (.iload_n 1, 1) := by decide +kernel
theorem dX9_come_124 : decode cX9_come 124 = .ok (.iload 4, 2) := by decide +kernel
theorem dX9_come_126 : decode cX9_come 126 = .ok (.iastore, 1) := by decide +kernel
theorem dX9_come_127 : decode cX9_come 127 = .ok (.aload_n 0, 1) := by decide +kernel
theorem dX9_come_128 : decode cX9_come 128 = .ok (.iload_n 1, 1) := by decide +kernel
theorem dX9_come_129 : decode cX9_come 129 = .ok (.iconst 5, 1) := by decide +kernel
theorem dX9_come_130 : decode cX9_come 130 = .ok (.iload 4, 2) := by decide +kernel
theorem dX9_come_132 : decode cX9_come 132 = .ok (.invokevirtual 172, 3) := by decide +kernel
theorem dX9_come_135 : decode cX9_come 135 = .ok (.return_, 1) := by decide +kernel
theorem dX9_come_136 : decode cX9_come 136 = .ok (.iload 5, 2) := by decide +kernel
theorem dX9_come_138 : decode cX9_come 138 = .ok (.ifCond .ne 60, 3) := by decide +kernel
theorem dX9_come_141 : decode cX9_come 141 = .ok (.iload_n 3, 1) := by decide +kernel
theorem dX9_come_142 : decode cX9_come 142 = .ok (.iconst 5, 1) := by decide +kernel
theorem dX9_come_143 : decode cX9_come 143 = .ok (.if_icmp .ne 55, 3) := by decide +kernel
theorem dX9_come_146 : decode cX9_come 146 = .ok (.aload_n 0, 1) := by decide +kernel
theorem dX9_come_147 : decode cX9_come 147 = .ok (.getfield 56, 3) := by decide +kernel
theorem dX9_come_150 : decode cX9_come 150 = .ok (.iload_n 1, 1) := by decide +kernel
theorem dX9_come_151 : decode cX9_come 151 = .ok (.iaload, 1) := by decide +kernel
theorem dX9_come_152 : decode cX9_come 152 = .ok (.iconst 1, 1) := by decide +kernel
theorem dX9_come_153 : decode cX9_come 153 = .ok (.if_icmp .ne 44, 3) := by decide +kernel
theorem dX9_come_156 : decode cX9_come 156 = .ok (.aload_n 0, 1) := by decide +kernel
theorem dX9_come_157 : decode cX9_come 157 = .ok (.getfield 38, 3) := by decide +kernel
theorem dX9_come_160 : decode cX9_come 160 = .ok (.iload_n 1, 1) := by decide +kernel
theorem dX9_come_161 : decode cX9_come 161 = .ok (.iaload, 1) := by decide +kernel
theorem dX9_come_162 : decode cX9_come 162 = .ok (.iconst 1, 1) := by decide +kernel
theorem dX9_come_163 : decode cX9_come 163 = .ok (.isub, 1) := by decide +kernel
theorem dX9_come_164 : decode cX9_come 164 = .ok (.bipush 8, 2) := by decide +kernel
theorem dX9_come_166 : decode cX9_come 166 = .ok (.irem, 1) := by decide +kernel
theorem dX9_come_167 : decode cX9_come 167 = .ok (.iload 4, 2) := by decide +kernel
theorem dX9_come_169 : decode cX9_come 169 = .ok (.if_icmp .ne 28, 3) := by decide +kernel
theorem dX9_come_172 : decode cX9_come 172 = .ok (.aload_n 0, 1) := by decide +kernel
theorem dX9_come_173 : decode cX9_come 173 = .ok (.iload_n 1, 1) := by decide +kernel
theorem dX9_come_174 : decode cX9_come 174 = .ok (.iconst 2, 1) := by decide +kernel
theorem dX9_come_175 : decode cX9_come 175 = .ok (.invokevirtual 176, 3) := by decide +kernel
theorem dX9_come_178 : decode cX9_come 178 = .ok (.aload_n 0, 1) := by decide +kernel
theorem dX9_come_179 : decode cX9_come 179 = .ok (.getfield 59, 3) := by decide +kernel
theorem dX9_come_182 : decode cX9_come 182 = .ok (.iload_n 1, 1) := by decide +kernel
theorem dX9_come_183 : decode cX9_come 183 = .ok (.iconst 1, 1) := by decide +kernel
theorem dX9_come_184 : decode cX9_come 184 = .ok (.bastore, 1) := by decide +kernel
theorem dX9_come_185 : decode cX9_come 185 = .ok (.aload_n 0, 1) := by decide +kernel
theorem dX9_come_186 : decode cX9_come 186 = .ok (.getfield 63, 3) := by decide +kernel
theorem dX9_come_189 : decode cX9_come 189 = .ok (.iload_n 1, 1) := by decide +kernel
theorem dX9_come_190 : decode cX9_come 190 = .ok (.iconst (-1), 1) := by decide +kernel
theorem dX9_come_191 : decode cX9_come 191 = .ok (.iastore, 1) := by decide +kernel
theorem dX9_come_192 : decode cX9_come 192 = .ok (.aload_n 0, 1) := by decide +kernel
theorem dX9_come_193 : decode cX9_come 193 = .ok (.iload_n 1, 1) := by decide +kernel
theorem dX9_come_194 : decode cX9_come 194 = .ok (.invokevirtual 166, 3) := by decide +kernel
theorem dX9_come_197 : decode cX9_come 197 = .ok (.return_, 1) := by decide +kernel
theorem dX9_come_198 : decode cX9_come 198 = .ok (.aload_n 0, 1) := by decide +kernel
theorem dX9_come_199 : decode cX9_come 199 = .ok (.getfield 56, 3) := by decide +kernel
theorem dX9_come_202 : decode cX9_come 202 = .ok (.iload_n 1, 1) := by decide +kernel
theorem dX9_come_203 : decode cX9_come 203 = .ok (.iaload, 1) := by decide +kernel
theorem dX9_come_204 : decode cX9_come 204 = .ok (.iconst 2, 1) := by decide +kernel
theorem dX9_come_205 : decode cX9_come 205 = .ok (.if_icmp .eq 4, 3) := by decide +kernel
theorem dX9_come_208 : decode cX9_come 208 = .ok (.return_, 1) := by decide +kernel
theorem dX9_come_209 : decode cX9_come 209 = .ok (.iload 5, 2) := by decide +kernel
theorem dX9_come_211 : decode cX9_come 211 = .ok (.ifCond .ne 15, 3) := by decide +kernel
theorem dX9_come_214 : decode cX9_come 214 = .ok (.iload_n 3, 1) := by decide +kernel
theorem dX9_come_215 : decode cX9_come 215 = .ok (.iconst 1, 1) := by decide +kernel
theorem dX9_come_216 : decode cX9_come 216 = .ok (.if_icmp .ne 10, 3) := by decide +kernel
theorem dX9_come_219 : decode cX9_come 219 = .ok (.aload_n 0, 1) := by decide +kernel
theorem dX9_come_220 : decode cX9_come 220 = .ok (.iload_n 1, 1) := by decide +kernel
theorem dX9_come_221 : decode cX9_come 221 = .ok (.iconst 0, 1) := by decide +kernel
theorem dX9_come_222 : decode cX9_come 222 = .ok (.invokevirtual 176, 3) := by decide +kernel
theorem dX9_come_225 : decode cX9_come 225 = .ok (.return_, 1) := by decide +kernel
theorem dX9_come_226 : decode cX9_come 226 = .ok (.iconst 0, 1) := by decide +kernel
theorem dX9_come_227 : decode cX9_come 227 = .ok (.istore 6, 2) := by decide +kernel
theorem dX9_come_229 : decode cX9_come 229 = .ok (.iload 6, 2) := by decide +kernel
theorem dX9_come_231 : decode cX9_come 231 = .ok (.bipush 32, 2) := by decide +kernel
theorem dX9_come_233 : decode cX9_come 233 = .ok (.if_icmp .ge 31, 3) := by decide +kernel
theorem dX9_come_236 : decode cX9_come 236 = .ok (.iload 5, 2) := by decide +kernel
theorem dX9_come_238 : decode cX9_come 238 = .ok (.ifCond .eq 26, 3) := by decide +kernel
theorem dX9_come_241 : decode cX9_come 241 = .ok (.aload_n 0, 1) := by decide +kernel
theorem dX9_come_242 : decode cX9_come 242 = .ok (.getfield 111, 3) := by decide +kernel
theorem dX9_come_245 : decode cX9_come 245 = .ok (.iload 6, 2) := by decide +kernel
theorem dX9_come_247 : decode cX9_come 247 = .ok (.aload_n 0, 1) := by decide +kernel
theorem dX9_come_248 : decode cX9_come 248 = .ok (.getfield 53, 3) := by decide +kernel
theorem dX9_come_251 : decode cX9_come 251 = .ok (.bipush 6, 2) := by decide +kernel
theorem dX9_come_253 : decode cX9_come 253 = .ok (.iload 6, 2) := by decide +kernel
theorem dX9_come_255 : decode cX9_come 255 = .ok (.iadd, 1) := by decide +kernel
theorem dX9_come_256 : decode cX9_come 256 = .ok (.iaload, 1) := by decide +kernel
theorem dX9_come_257 : decode cX9_come 257 = .ok (.iastore, 1) := by decide +kernel
theorem dX9_come_258 : decode cX9_come 258 = .ok (.iinc 6 1, 3) := by decide +kernel
theorem dX9_come_261 : decode cX9_come 261 = .ok (.goto (-32), 3) := by decide +kernel
theorem dX9_come_264 : decode cX9_come 264 = .ok (.aload_n 0, 1) := by decide +kernel
theorem dX9_come_265 : decode cX9_come 265 = .ok (.iload_n 1, 1) := by decide +kernel
theorem dX9_come_266 : decode cX9_come 266 = .ok (.iload 4, 2) := by decide +kernel
theorem dX9_come_268 : decode cX9_come 268 = .ok (.invokevirtual 189, 3) := by decide +kernel
theorem dX9_come_271 : decode cX9_come 271 = .ok (.iload 5, 2) := by decide +kernel
theorem dX9_come_273 : decode cX9_come 273 = .ok (.ifCond .ne 13, 3) := by decide +kernel
theorem dX9_come_276 : decode cX9_come 276 = .ok (.iload_n 3, 1) := by decide +kernel
theorem dX9_come_277 : decode cX9_come 277 = .ok (.iconst 2, 1) := by decide +kernel
theorem dX9_come_278 : decode cX9_come 278 = .ok (.if_icmp .ne 8, 3) := by decide +kernel
theorem dX9_come_281 : decode cX9_come 281 = .ok (.aload_n 0, 1) := by decide +kernel
theorem dX9_come_282 : decode cX9_come 282 = .ok (.iload_n 1, 1) := by decide +kernel
theorem dX9_come_283 : decode cX9_come 283 = .ok (.invokevirtual 192, 3) := by decide +kernel
theorem dX9_come_286 : decode cX9_come 286 = .ok (.iload 5, 2) := by decide +kernel
theorem dX9_come_288 : decode cX9_come 288 = .ok (.ifCond .ne 9, 3) := by decide +kernel
theorem dX9_come_291 : decode cX9_come 291 = .ok (.aload_n 0, 1) := by decide +kernel
theorem dX9_come_292 : decode cX9_come 292 = .ok (.iload_n 1, 1) := by decide +kernel
theorem dX9_come_293 : decode cX9_come 293 = .ok (.invokevirtual 148, 3) := by decide +kernel
theorem dX9_come_296 : decode cX9_come 296 = .ok (.return_, 1) := by decide +kernel
theorem dX9_come_297 : decode cX9_come 297 = .ok (.iconst 0, 1) := by decide +kernel
theorem dX9_come_298 : decode cX9_come 298 = .ok (.istore 6, 2) := by decide +kernel
theorem dX9_come_300 : decode cX9_come 300 = .ok (.iload 6, 2) := by decide +kernel
theorem dX9_come_302 : decode cX9_come 302 = .ok (.bipush 32, 2) := by decide +kernel
theorem dX9_come_304 : decode cX9_come 304 = .ok (.if_icmp .ge 23, 3) := by decide +kernel
theorem dX9_come_307 : decode cX9_come 307 = .ok (.aload_n 0, 1) := by decide +kernel
theorem dX9_come_308 : decode cX9_come 308 = .ok (.getfield 114, 3) := by decide +kernel
theorem dX9_come_311 : decode cX9_come 311 = .ok (.iload 6, 2) := by decide +kernel
theorem dX9_come_313 : decode cX9_come 313 = .ok (.aload_n 0, 1) := by decide +kernel
theorem dX9_come_314 : decode cX9_come 314 = .ok (.getfield 111, 3) := by decide +kernel
theorem dX9_come_317 : decode cX9_come 317 = .ok (.iload 6, 2) := by decide +kernel
theorem dX9_come_319 : decode cX9_come 319 = .ok (.iaload, 1) := by decide +kernel
theorem dX9_come_320 : decode cX9_come 320 = .ok (.iastore, 1) := by decide +kernel
theorem dX9_come_321 : decode cX9_come 321 = .ok (.iinc 6 1, 3) := by decide +kernel
theorem dX9_come_324 : decode cX9_come 324 = .ok (.goto (-24), 3) := by decide +kernel
theorem dX9_come_327 : decode cX9_come 327 = .ok (.aload_n 0, 1) := by decide +kernel
theorem dX9_come_328 : decode cX9_come 328 = .ok (.iload_n 1, 1) := by decide +kernel
theorem dX9_come_329 : decode cX9_come 329 = .ok (.invokevirtual 148, 3) := by decide +kernel
theorem dX9_come_332 : decode cX9_come 332 = .ok (.iload_n 3, 1) := by decide +kernel
theorem dX9_come_333 : decode cX9_come 333 = .ok (.aload_n 0, 1) := by decide +kernel
theorem dX9_come_334 : decode cX9_come 334 = .ok (.getfield 69, 3) := by decide +kernel
theorem dX9_come_337 : decode cX9_come 337 = .ok (.iload_n 1, 1) := by decide +kernel
theorem dX9_come_338 : decode cX9_come 338 = .ok (.iaload, 1) := by decide +kernel
theorem dX9_come_339 : decode cX9_come 339 = .ok (.iconst 1, 1) := by decide +kernel
theorem dX9_come_340 : decode cX9_come 340 = .ok (.iadd, 1) := by decide +kernel
theorem dX9_come_341 : decode cX9_come 341 = .ok (.bipush 8, 2) := by decide +kernel
theorem dX9_come_343 : decode cX9_come 343 = .ok (.irem, 1) := by decide +kernel
theorem dX9_come_344 : decode cX9_come 344 = .ok (.if_icmp .ne 62, 3) := by decide +kernel
theorem dX9_come_347 : decode cX9_come 347 = .ok (.aload_n 0, 1) := by decide +kernel
theorem dX9_come_348 : decode cX9_come 348 = .ok (.getfield 69, 3) := by decide +kernel
theorem dX9_come_351 : decode cX9_come 351 = .ok (.iload_n 1, 1) := by decide +kernel
theorem dX9_come_352 : decode cX9_come 352 = .ok (.iload_n 3, 1) := by decide +kernel
theorem dX9_come_353 : decode cX9_come 353 = .ok (.iastore, 1) := by decide +kernel
theorem dX9_come_354 : decode cX9_come 354 = .ok (.aload_n 0, 1) := by decide +kernel
theorem dX9_come_355 : decode cX9_come 355 = .ok (.getfield 66, 3) := by decide +kernel
theorem dX9_come_358 : decode cX9_come 358 = .ok (.iload_n 1, 1) := by decide +kernel
theorem dX9_come_359 : decode cX9_come 359 = .ok (.iconst 1, 1) := by decide +kernel
theorem dX9_come_360 : decode cX9_come 360 = .ok (.bastore, 1) := by decide +kernel
theorem dX9_come_361 : decode cX9_come 361 = .ok (.aload_n 0, 1) := by decide +kernel
theorem dX9_come_362 : decode cX9_come 362 = .ok (.iload_n 1, 1) := by decide +kernel
theorem dX9_come_363 : decode cX9_come 363 = .ok (.iconst 4, 1) := by decide +kernel
theorem dX9_come_364 : decode cX9_come 364 = .ok (.iload_n 3, 1) := by decide +kernel
theorem dX9_come_365 : decode cX9_come 365 = .ok (.invokevirtual 172, 3) := by decide +kernel
theorem dX9_come_368 : decode cX9_come 368 = .ok (.iconst 0, 1) := by decide +kernel
theorem dX9_come_369 : decode cX9_come 369 = .ok (.istore 6, 2) := by decide +kernel
theorem dX9_come_371 : decode cX9_come 371 = .ok (.iload 6, 2) := by decide +kernel
theorem dX9_come_373 : decode cX9_come 373 = .ok (.bipush 32, 2) := by decide +kernel
theorem dX9_come_375 : decode cX9_come 375 = .ok (.if_icmp .ge 23, 3) := by decide +kernel
theorem dX9_come_378 : decode cX9_come 378 = .ok (.aload_n 0, 1) := by decide +kernel
theorem dX9_come_379 : decode cX9_come 379 = .ok (.getfield 111, 3) := by decide +kernel
theorem dX9_come_382 : decode cX9_come 382 = .ok (.iload 6, 2) := by decide +kernel
theorem dX9_come_384 : decode cX9_come 384 = .ok (.aload_n 0, 1) := by decide +kernel
theorem dX9_come_385 : decode cX9_come 385 = .ok (.getfield 114, 3) := by decide +kernel
theorem dX9_come_388 : decode cX9_come 388 = .ok (.iload 6, 2) := by decide +kernel
theorem dX9_come_390 : decode cX9_come 390 = .ok (.iaload, 1) := by decide +kernel
theorem dX9_come_391 : decode cX9_come 391 = .ok (.iastore, 1) := by decide +kernel
theorem dX9_come_392 : decode cX9_come 392 = .ok (.iinc 6 1, 3) := by decide +kernel
theorem dX9_come_395 : decode cX9_come 395 = .ok (.goto (-24), 3) := by decide +kernel
theorem dX9_come_398 : decode cX9_come 398 = .ok (.aload_n 0, 1) := by decide +kernel
theorem dX9_come_399 : decode cX9_come 399 = .ok (.iload_n 1, 1) := by decide +kernel
theorem dX9_come_400 : decode cX9_come 400 = .ok (.invokevirtual 195, 3) := by decide +kernel
theorem dX9_come_403 : decode cX9_come 403 = .ok (.goto 15, 3) := by decide +kernel
theorem dX9_come_406 : decode cX9_come 406 = .ok (.aload_n 0, 1) := by decide +kernel
theorem dX9_come_407 : decode cX9_come 407 = .ok (.iload_n 1, 1) := by decide +kernel
theorem dX9_come_408 : decode cX9_come 408 = .ok (.iconst 4, 1) := by decide +kernel
theorem dX9_come_409 : decode cX9_come 409 = .ok (.aload_n 0, 1) := by decide +kernel
theorem dX9_come_410 : decode cX9_come 410 = .ok (.getfield 69, 3) := by decide +kernel
theorem dX9_come_413 : decode cX9_come 413 = .ok (.iload_n 1, 1) := by decide +kernel
theorem dX9_come_414 : decode cX9_come 414 = .ok (.iaload, 1) := by decide +kernel
theorem dX9_come_415 : decode cX9_come 415 = .ok (.invokevirtual 172, 3) := by decide +kernel
theorem dX9_come_418 : decode cX9_come 418 = .ok (.return_, 1) := by decide +kernel
theorem dX9_takeFirst_0 : decode cX9_takeFirst 0 = .ok (.aload_n 0, 1) := by decide +kernel
theorem dX9_takeFirst_1 : decode cX9_takeFirst 1 = .ok (.aload_n 0, 1) := by decide +kernel
theorem dX9_takeFirst_2 : decode cX9_takeFirst 2 = .ok (.getfield 50, 3) := by decide +kernel
theorem dX9_takeFirst_5 : decode cX9_takeFirst 5 = .ok (.bipush 12, 2) := by decide +kernel
theorem dX9_takeFirst_7 : decode cX9_takeFirst 7 = .ok (.iload_n 1, 1) := by decide +kernel
theorem dX9_takeFirst_8 : decode cX9_takeFirst 8 = .ok (.imul, 1) := by decide +kernel
theorem dX9_takeFirst_9 : decode cX9_takeFirst 9 = .ok (.iaload, 1) := by decide +kernel
theorem dX9_takeFirst_10 : decode cX9_takeFirst 10 = .ok (.putfield 134, 3) := by decide +kernel
theorem dX9_takeFirst_13 : decode cX9_takeFirst 13 = .ok (.iconst 0, 1) := by decide +kernel
theorem dX9_takeFirst_14 : decode cX9_takeFirst 14 = .ok (.istore_n 2, 1) := by decide +kernel
theorem dX9_takeFirst_15 : decode cX9_takeFirst 15 = .ok (.iload_n 2, 1) := by decide +kernel
theorem dX9_takeFirst_16 : decode cX9_takeFirst 16 = .ok (.bipush 38, 2) := by decide +kernel
theorem dX9_takeFirst_18 : decode cX9_takeFirst 18 = .ok (.if_icmp .ge 27, 3) := by decide +kernel
theorem dX9_takeFirst_21 : decode cX9_takeFirst 21 = .ok (.aload_n 0, 1) := by decide +kernel
theorem dX9_takeFirst_22 : decode cX9_takeFirst 22 = .ok (.getfield 53, 3) := by decide +kernel
theorem dX9_takeFirst_25 : decode cX9_takeFirst 25 = .ok (.iload_n 2, 1) := by decide +kernel
theorem dX9_takeFirst_26 : decode cX9_takeFirst 26 = .ok (.aload_n 0, 1) := by decide +kernel
theorem dX9_takeFirst_27 : decode cX9_takeFirst 27 = .ok (.getfield 47, 3) := by decide +kernel
theorem dX9_takeFirst_30 : decode cX9_takeFirst 30 = .ok (.sipush 456, 3) := by decide +kernel
theorem dX9_takeFirst_33 : decode cX9_takeFirst 33 = .ok (.iload_n 1, 1) := by decide +kernel
theorem dX9_takeFirst_34 : decode cX9_takeFirst 34 = .ok (.imul, 1) := by decide +kernel
theorem dX9_takeFirst_35 : decode cX9_takeFirst 35 = .ok (.iload_n 2, 1) := by decide +kernel
theorem dX9_takeFirst_36 : decode cX9_takeFirst 36 = .ok (.iadd, 1) := by decide +kernel
theorem dX9_takeFirst_37 : decode cX9_takeFirst 37 = .ok (.iaload, 1) := by decide +kernel
theorem dX9_takeFirst_38 : decode cX9_takeFirst 38 = .ok (.iastore, 1) := by decide +kernel
theorem dX9_takeFirst_39 : decode cX9_takeFirst 39 = .ok (.iinc 2 1, 3) := by decide +kernel
theorem dX9_takeFirst_42 : decode cX9_takeFirst 42 = .ok (.goto (-27), 3) := by decide +kernel
theorem dX9_takeFirst_45 : decode cX9_takeFirst 45 = .ok (.aload_n 0, 1) := by decide +kernel
theorem dX9_takeFirst_46 : decode cX9_takeFirst 46 = .ok (.getfield 44, 3) := by decide +kernel
theorem dX9_takeFirst_49 : decode cX9_takeFirst 49 = .ok (.iload_n 1, 1) := by decide +kernel
theorem dX9_takeFirst_50 : decode cX9_takeFirst 50 = .ok (.dup2, 1) := by decide +kernel
theorem dX9_takeFirst_51 : decode cX9_takeFirst 51 = .ok (.iaload, 1) := by decide +kernel
theorem dX9_takeFirst_52 : decode cX9_takeFirst 52 = .ok (.iconst 1, 1) := by decide +kernel
theorem dX9_takeFirst_53 : decode cX9_takeFirst 53 = .ok (.isub, 1) := by decide +kernel
theorem dX9_takeFirst_54 : decode cX9_takeFirst 54 = .ok (.iastore, 1) := by decide +kernel
theorem dX9_takeFirst_55 : decode cX9_takeFirst 55 = .ok (.iconst 0, 1) := by decide +kernel
theorem dX9_takeFirst_56 : decode cX9_takeFirst 56 = .ok (.istore_n 2, 1) := by decide +kernel
theorem dX9_takeFirst_57 : decode cX9_takeFirst 57 = .ok (.iload_n 2, 1) := by decide +kernel
theorem dX9_takeFirst_58 : decode cX9_takeFirst 58 = .ok (.aload_n 0, 1) := by decide +kernel
theorem dX9_takeFirst_59 : decode cX9_takeFirst 59 = .ok (.getfield 44, 3) := by decide +kernel
theorem dX9_takeFirst_62 : decode cX9_takeFirst 62 = .ok (.iload_n 1, 1) := by decide +kernel
theorem dX9_takeFirst_63 : decode cX9_takeFirst 63 = .ok (.iaload, 1) := by decide +kernel
theorem dX9_takeFirst_64 : decode cX9_takeFirst 64 = .ok (.if_icmp .ge 83, 3) := by decide +kernel
theorem dX9_takeFirst_67 : decode cX9_takeFirst 67 = .ok (.aload_n 0, 1) := by decide +kernel
theorem dX9_takeFirst_68 : decode cX9_takeFirst 68 = .ok (.getfield 50, 3) := by decide +kernel
theorem dX9_takeFirst_71 : decode cX9_takeFirst 71 = .ok (.bipush 12, 2) := by decide +kernel
theorem dX9_takeFirst_73 : decode cX9_takeFirst 73 = .ok (.iload_n 1, 1) := by decide +kernel
theorem dX9_takeFirst_74 : decode cX9_takeFirst 74 = .ok (.imul, 1) := by decide +kernel
theorem dX9_takeFirst_75 : decode cX9_takeFirst 75 = .ok (.iload_n 2, 1) := by decide +kernel
theorem dX9_takeFirst_76 : decode cX9_takeFirst 76 = .ok (.iadd, 1) := by decide +kernel
theorem dX9_takeFirst_77 : decode cX9_takeFirst 77 = .ok (.aload_n 0, 1) := by decide +kernel
theorem dX9_takeFirst_78 : decode cX9_takeFirst 78 = .ok (.getfield 50, 3) := by decide +kernel
theorem dX9_takeFirst_81 : decode cX9_takeFirst 81 = .ok (.bipush 12, 2) := by decide +kernel
theorem dX9_takeFirst_83 : decode cX9_takeFirst 83 = .ok (.iload_n 1, 1) := by decide +kernel
theorem dX9_takeFirst_84 : decode cX9_takeFirst 84 = .ok (.imul, 1) := by decide +kernel
theorem dX9_takeFirst_85 : decode cX9_takeFirst 85 = .ok (.iload_n 2, 1) := by decide +kernel
theorem dX9_takeFirst_86 : decode cX9_takeFirst 86 = .ok (.iadd, 1) := by decide +kernel
theorem dX9_takeFirst_87 : decode cX9_takeFirst 87 = .ok (.iconst 1, 1) := by decide +kernel
theorem dX9_takeFirst_88 : decode cX9_takeFirst 88 = .ok (.iadd, 1) := by decide +kernel
theorem dX9_takeFirst_89 : decode cX9_takeFirst 89 = .ok (.iaload, 1) := by decide +kernel
theorem dX9_takeFirst_90 : decode cX9_takeFirst 90 = .ok (.iastore, 1) := by decide +kernel
theorem dX9_takeFirst_91 : decode cX9_takeFirst 91 = .ok (.iconst 0, 1) := by decide +kernel
theorem dX9_takeFirst_92 : decode cX9_takeFirst 92 = .ok (.istore_n 3, 1) := by decide +kernel
theorem dX9_takeFirst_93 : decode cX9_takeFirst 93 = .ok (.iload_n 3, 1) := by decide +kernel
theorem dX9_takeFirst_94 : decode cX9_takeFirst 94 = .ok (.bipush 38, 2) := by decide +kernel
theorem dX9_takeFirst_96 : decode cX9_takeFirst 96 = .ok (.if_icmp .ge 45, 3) := by decide +kernel
theorem dX9_takeFirst_99 : decode cX9_takeFirst 99 = .ok (.aload_n 0, 1) := by decide +kernel
theorem dX9_takeFirst_100 : decode cX9_takeFirst 100 = .ok (.getfield 47, 3) := by decide +kernel
theorem dX9_takeFirst_103 : decode cX9_takeFirst 103 = .ok (.sipush 456, 3) := by decide +kernel
theorem dX9_takeFirst_106 : decode cX9_takeFirst 106 = .ok (.iload_n 1, 1) := by decide +kernel
theorem dX9_takeFirst_107 : decode cX9_takeFirst 107 = .ok (.imul, 1) := by decide +kernel
theorem dX9_takeFirst_108 : decode cX9_takeFirst 108 = .ok (.bipush 38, 2) := by decide +kernel
theorem dX9_takeFirst_110 : decode cX9_takeFirst 110 = .ok (.iload_n 2, 1) := by decide +kernel
theorem dX9_takeFirst_111 : decode cX9_takeFirst 111 = .ok (.imul, 1) := by decide +kernel
theorem dX9_takeFirst_112 : decode cX9_takeFirst 112 = .ok (.iadd, 1) := by decide +kernel
theorem dX9_takeFirst_113 : decode cX9_takeFirst 113 = .ok (.iload_n 3, 1) := by decide +kernel
theorem dX9_takeFirst_114 : decode cX9_takeFirst 114 = .ok (.iadd, 1) := by decide +kernel
theorem dX9_takeFirst_115 : decode cX9_takeFirst 115 = .ok (.aload_n 0, 1) := by decide +kernel
theorem dX9_takeFirst_116 : decode cX9_takeFirst 116 = .ok (.getfield 47, 3) := by decide +kernel
theorem dX9_takeFirst_119 : decode cX9_takeFirst 119 = .ok (.sipush 456, 3) := by decide +kernel
theorem dX9_takeFirst_122 : decode cX9_takeFirst 122 = .ok (.iload_n 1, 1) := by decide +kernel
theorem dX9_takeFirst_123 : decode cX9_takeFirst 123 = .ok (.imul, 1) := by decide +kernel
theorem dX9_takeFirst_124 : decode cX9_takeFirst 124 = .ok (.bipush 38, 2) := by decide +kernel
theorem dX9_takeFirst_126 : decode cX9_takeFirst 126 = .ok (.iload_n 2, 1) := by decide +kernel
theorem dX9_takeFirst_127 : decode cX9_takeFirst 127 = .ok (.iconst 1, 1) := by decide +kernel
theorem dX9_takeFirst_128 : decode cX9_takeFirst 128 = .ok (.iadd, 1) := by decide +kernel
theorem dX9_takeFirst_129 : decode cX9_takeFirst 129 = .ok (.imul, 1) := by decide +kernel
theorem dX9_takeFirst_130 : decode cX9_takeFirst 130 = .ok (.iadd, 1) := by decide +kernel
theorem dX9_takeFirst_131 : decode cX9_takeFirst 131 = .ok (.iload_n 3, 1) := by decide +kernel
theorem dX9_takeFirst_132 : decode cX9_takeFirst 132 = .ok (.iadd, 1) := by decide +kernel
theorem dX9_takeFirst_133 : decode cX9_takeFirst 133 = .ok (.iaload, 1) := by decide +kernel
theorem dX9_takeFirst_134 : decode cX9_takeFirst 134 = .ok (.iastore, 1) := by decide +kernel
theorem dX9_takeFirst_135 : decode cX9_takeFirst 135 = .ok (.iinc 3 1, 3) := by decide +kernel
theorem dX9_takeFirst_138 : decode cX9_takeFirst 138 = .ok (.goto (-45), 3) := by decide +kernel
theorem dX9_takeFirst_141 : decode cX9_takeFirst 141 = .ok (.iinc 2 1, 3) := by decide +kernel
theorem dX9_takeFirst_144 : decode cX9_takeFirst 144 = .ok (.goto (-87), 3) := by decide +kernel
theorem dX9_takeFirst_147 : decode cX9_takeFirst 147 = .ok (.return_, 1) := by decide +kernel
theorem dX9_call_0 : decode cX9_call 0 = .ok (.iload_n 1, 1) := by decide +kernel
theorem dX9_call_1 : decode cX9_call 1 = .ok (.invokestatic 121, 3) := by decide +kernel
theorem dX9_call_4 : decode cX9_call 4 = .ok (.ifCond .eq 12, 3) := by decide +kernel
theorem dX9_call_7 : decode cX9_call 7 = .ok (.aload_n 0, 1) := by decide +kernel
theorem dX9_call_8 : decode cX9_call 8 = .ok (.getfield 56, 3) := by decide +kernel
theorem dX9_call_11 : decode cX9_call 11 = .ok (.iload_n 1, 1) := by decide +kernel
theorem dX9_call_12 : decode cX9_call 12 = .ok (.iaload, 1) := by decide +kernel
theorem dX9_call_13 : decode cX9_call 13 = .ok (.ifCond .eq 5, 3) := by decide +kernel
theorem dX9_call_16 : decode cX9_call 16 = .ok (.iconst 0, 1) := by decide +kernel
theorem dX9_call_17 : decode cX9_call 17 = .ok (.ireturn, 1) := by decide +kernel
theorem dX9_call_18 : decode cX9_call 18 = .ok (.aload_n 0, 1) := by decide +kernel
theorem dX9_call_19 : decode cX9_call 19 = .ok (.getfield 44, 3) := by decide +kernel
theorem dX9_call_22 : decode cX9_call 22 = .ok (.iconst 0, 1) := by decide +kernel
theorem dX9_call_23 : decode cX9_call 23 = .ok (.iconst 0, 1) := by decide +kernel
theorem dX9_call_24 : decode cX9_call 24 = .ok (.iastore, 1) := by decide +kernel
theorem dX9_call_25 : decode cX9_call 25 = .ok (.aload_n 0, 1) := by decide +kernel
theorem dX9_call_26 : decode cX9_call 26 = .ok (.getfield 44, 3) := by decide +kernel
theorem dX9_call_29 : decode cX9_call 29 = .ok (.iconst 1, 1) := by decide +kernel
theorem dX9_call_30 : decode cX9_call 30 = .ok (.iconst 0, 1) := by decide +kernel
theorem dX9_call_31 : decode cX9_call 31 = .ok (.iastore, 1) := by decide +kernel
theorem dX9_call_32 : decode cX9_call 32 = .ok (.aload_n 0, 1) := by decide +kernel
theorem dX9_call_33 : decode cX9_call 33 = .ok (.iload_n 1, 1) := by decide +kernel
theorem dX9_call_34 : decode cX9_call 34 = .ok (.iconst 1, 1) := by decide +kernel
theorem dX9_call_35 : decode cX9_call 35 = .ok (.invokevirtual 176, 3) := by decide +kernel
theorem dX9_call_38 : decode cX9_call 38 = .ok (.aload_n 0, 1) := by decide +kernel
theorem dX9_call_39 : decode cX9_call 39 = .ok (.iload_n 1, 1) := by decide +kernel
theorem dX9_call_40 : decode cX9_call 40 = .ok (.bipush 7, 2) := by decide +kernel
theorem dX9_call_42 : decode cX9_call 42 = .ok (.aload_n 0, 1) := by decide +kernel
theorem dX9_call_43 : decode cX9_call 43 = .ok (.getfield 38, 3) := by decide +kernel
theorem dX9_call_46 : decode cX9_call 46 = .ok (.iload_n 1, 1) := by decide +kernel
theorem dX9_call_47 : decode cX9_call 47 = .ok (.iaload, 1) := by decide +kernel
theorem dX9_call_48 : decode cX9_call 48 = .ok (.bipush 8, 2) := by decide +kernel
theorem dX9_call_50 : decode cX9_call 50 = .ok (.irem, 1) := by decide +kernel
theorem dX9_call_51 : decode cX9_call 51 = .ok (.invokevirtual 172, 3) := by decide +kernel
theorem dX9_call_54 : decode cX9_call 54 = .ok (.aload_n 0, 1) := by decide +kernel
theorem dX9_call_55 : decode cX9_call 55 = .ok (.getfield 38, 3) := by decide +kernel
theorem dX9_call_58 : decode cX9_call 58 = .ok (.iload_n 1, 1) := by decide +kernel
theorem dX9_call_59 : decode cX9_call 59 = .ok (.dup2, 1) := by decide +kernel
theorem dX9_call_60 : decode cX9_call 60 = .ok (.iaload, 1) := by decide +kernel
theorem dX9_call_61 : decode cX9_call 61 = .ok (.iconst 1, 1) := by decide +kernel
theorem dX9_call_62 : decode cX9_call 62 = .ok (.iadd, 1) := by decide +kernel
theorem dX9_call_63 : decode cX9_call 63 = .ok (.iastore, 1) := by decide +kernel
theorem dX9_call_64 : decode cX9_call 64 = .ok (.iconst 1, 1) := by decide +kernel
theorem dX9_call_65 : decode cX9_call 65 = .ok (.ireturn, 1) := by decide +kernel
theorem dX9_deliver_0 : decode cX9_deliver 0 = .ok (.iload_n 1, 1) := by decide +kernel
theorem dX9_deliver_1 : decode cX9_deliver 1 = .ok (.invokestatic 121, 3) := by decide +kernel
theorem dX9_deliver_4 : decode cX9_deliver 4 = .ok (.ifCond .eq 12, 3) := by decide +kernel
theorem dX9_deliver_7 : decode cX9_deliver 7 = .ok (.aload_n 0, 1) := by decide +kernel
theorem dX9_deliver_8 : decode cX9_deliver 8 = .ok (.getfield 44, 3) := by decide +kernel
theorem dX9_deliver_11 : decode cX9_deliver 11 = .ok (.iload_n 1, 1) := by decide +kernel
theorem dX9_deliver_12 : decode cX9_deliver 12 = .ok (.iaload, 1) := by decide +kernel
theorem dX9_deliver_13 : decode cX9_deliver 13 = .ok (.ifCond .ne 5, 3) := by decide +kernel
theorem dX9_deliver_16 : decode cX9_deliver 16 = .ok (.iconst (-1), 1) := by decide +kernel
theorem dX9_deliver_17 : decode cX9_deliver 17 = .ok (.ireturn, 1) := by decide +kernel
theorem dX9_deliver_18 : decode cX9_deliver 18 = .ok (.iconst 1, 1) := by decide +kernel
theorem dX9_deliver_19 : decode cX9_deliver 19 = .ok (.iload_n 1, 1) := by decide +kernel
theorem dX9_deliver_20 : decode cX9_deliver 20 = .ok (.isub, 1) := by decide +kernel
theorem dX9_deliver_21 : decode cX9_deliver 21 = .ok (.istore_n 2, 1) := by decide +kernel
theorem dX9_deliver_22 : decode cX9_deliver 22 = .ok (.aload_n 0, 1) := by decide +kernel
theorem dX9_deliver_23 : decode cX9_deliver 23 = .ok (.iload_n 1, 1) := by decide +kernel
theorem dX9_deliver_24 : decode cX9_deliver 24 = .ok (.invokevirtual 198, 3) := by decide +kernel
theorem dX9_deliver_27 : decode cX9_deliver 27 = .ok (.aload_n 0, 1) := by decide +kernel
theorem dX9_deliver_28 : decode cX9_deliver 28 = .ok (.invokevirtual 201, 3) := by decide +kernel
theorem dX9_deliver_31 : decode cX9_deliver 31 = .ok (.ifCond .ne 27, 3) := by decide +kernel
theorem dX9_deliver_34 : decode cX9_deliver 34 = .ok (.aload_n 0, 1) := by decide +kernel
theorem dX9_deliver_35 : decode cX9_deliver 35 = .ok (.getfield 56, 3) := by decide +kernel
theorem dX9_deliver_38 : decode cX9_deliver 38 = .ok (.iload_n 2, 1) := by decide +kernel
theorem dX9_deliver_39 : decode cX9_deliver 39 = .ok (.iaload, 1) := by decide +kernel
theorem dX9_deliver_40 : decode cX9_deliver 40 = .ok (.iconst 2, 1) := by decide +kernel
theorem dX9_deliver_41 : decode cX9_deliver 41 = .ok (.if_icmp .ne 15, 3) := by decide +kernel
theorem dX9_deliver_44 : decode cX9_deliver 44 = .ok (.aload_n 0, 1) := by decide +kernel
theorem dX9_deliver_45 : decode cX9_deliver 45 = .ok (.iload_n 2, 1) := by decide +kernel
theorem dX9_deliver_46 : decode cX9_deliver 46 = .ok (.iconst 2, 1) := by decide +kernel
theorem dX9_deliver_47 : decode cX9_deliver 47 = .ok (.aload_n 0, 1) := by decide +kernel
theorem dX9_deliver_48 : decode cX9_deliver 48 = .ok (.getfield 69, 3) := by decide +kernel
theorem dX9_deliver_51 : decode cX9_deliver 51 = .ok (.iload_n 2, 1) := by decide +kernel
theorem dX9_deliver_52 : decode cX9_deliver 52 = .ok (.iaload, 1) := by decide +kernel
theorem dX9_deliver_53 : decode cX9_deliver 53 = .ok (.invokevirtual 172, 3) := by decide +kernel
theorem dX9_deliver_56 : decode cX9_deliver 56 = .ok (.iconst 0, 1) := by decide +kernel
theorem dX9_deliver_57 : decode cX9_deliver 57 = .ok (.ireturn, 1) := by decide +kernel
theorem dX9_deliver_58 : decode cX9_deliver 58 = .ok (.aload_n 0, 1) := by decide +kernel
theorem dX9_deliver_59 : decode cX9_deliver 59 = .ok (.getfield 105, 3) := by decide +kernel
theorem dX9_deliver_62 : decode cX9_deliver 62 = .ok (.iload_n 2, 1) := by decide +kernel
theorem dX9_deliver_63 : decode cX9_deliver 63 = .ok (.aload_n 0, 1) := by decide +kernel
theorem dX9_deliver_64 : decode cX9_deliver 64 = .ok (.getfield 56, 3) := by decide +kernel
theorem dX9_deliver_67 : decode cX9_deliver 67 = .ok (.iload_n 2, 1) := by decide +kernel
theorem dX9_deliver_68 : decode cX9_deliver 68 = .ok (.iaload, 1) := by decide +kernel
theorem dX9_deliver_69 : decode cX9_deliver 69 = .ok (.iconst 2, 1) := by decide +kernel
theorem dX9_deliver_70 : decode cX9_deliver 70 = .ok (.if_icmp .ne 16, 3) := by decide +kernel
theorem dX9_deliver_73 : decode cX9_deliver 73 = .ok (.aload_n 0, 1) := by decide +kernel
theorem dX9_deliver_74 : decode cX9_deliver 74 = .ok (.getfield 75, 3) := by decide +kernel
theorem dX9_deliver_77 : decode cX9_deliver 77 = .ok (.iload_n 2, 1) := by decide +kernel
theorem dX9_deliver_78 : decode cX9_deliver 78 = .ok (.iaload, 1) := by decide +kernel
theorem dX9_deliver_79 : decode cX9_deliver 79 = .ok (.ifCond .ne 7, 3) := by decide +kernel
theorem dX9_deliver_82 : decode cX9_deliver 82 = .ok (.iconst 0, 1) := by decide +kernel
theorem dX9_deliver_83 : decode cX9_deliver 83 = .ok (.goto 9, 3) := by decide +kernel
theorem dX9_deliver_86 : decode cX9_deliver 86 = .ok (.aload_n 0, 1) := by decide +kernel
theorem dX9_deliver_87 : decode cX9_deliver 87 = .ok (.getfield 105, 3) := by decide +kernel
theorem dX9_deliver_90 : decode cX9_deliver 90 = .ok (.iload_n 2, 1) := by decide +kernel
theorem dX9_deliver_91 : decode cX9_deliver 91 = .ok (.iaload, 1) := by decide +kernel
theorem dX9_deliver_92 : decode cX9_deliver 92 = .ok (.iastore, 1) := by decide +kernel
theorem dX9_deliver_93 : decode cX9_deliver 93 = .ok (.aload_n 0, 1) := by decide +kernel
theorem dX9_deliver_94 : decode cX9_deliver 94 = .ok (.iload_n 2, 1) := by decide +kernel
theorem dX9_deliver_95 : decode cX9_deliver 95 = .ok (.invokevirtual 205, 3) := by decide +kernel
theorem dX9_deliver_98 : decode cX9_deliver 98 = .ok (.iconst 1, 1) := by decide +kernel
theorem dX9_deliver_99 : decode cX9_deliver 99 = .ok (.ireturn, 1) := by decide +kernel
theorem dX9_lose_0 : decode cX9_lose 0 = .ok (.iload_n 1, 1) := by decide +kernel
theorem dX9_lose_1 : decode cX9_lose 1 = .ok (.invokestatic 121, 3) := by decide +kernel
theorem dX9_lose_4 : decode cX9_lose 4 = .ok (.ifCond .eq 12, 3) := by decide +kernel
theorem dX9_lose_7 : decode cX9_lose 7 = .ok (.aload_n 0, 1) := by decide +kernel
theorem dX9_lose_8 : decode cX9_lose 8 = .ok (.getfield 44, 3) := by decide +kernel
theorem dX9_lose_11 : decode cX9_lose 11 = .ok (.iload_n 1, 1) := by decide +kernel
theorem dX9_lose_12 : decode cX9_lose 12 = .ok (.iaload, 1) := by decide +kernel
theorem dX9_lose_13 : decode cX9_lose 13 = .ok (.ifCond .ne 5, 3) := by decide +kernel
theorem dX9_lose_16 : decode cX9_lose 16 = .ok (.iconst 0, 1) := by decide +kernel
theorem dX9_lose_17 : decode cX9_lose 17 = .ok (.ireturn, 1) := by decide +kernel
theorem dX9_lose_18 : decode cX9_lose 18 = .ok (.aload_n 0, 1) := by decide +kernel
theorem dX9_lose_19 : decode cX9_lose 19 = .ok (.iload_n 1, 1) := by decide +kernel
theorem dX9_lose_20 : decode cX9_lose 20 = .ok (.invokevirtual 198, 3) := by decide +kernel
theorem dX9_lose_23 : decode cX9_lose 23 = .ok (.iconst 1, 1) := by decide +kernel
theorem dX9_lose_24 : decode cX9_lose 24 = .ok (.ireturn, 1) := by decide +kernel
theorem dX9_alter_0 : decode cX9_alter 0 = .ok (.iload_n 1, 1) := by decide +kernel
theorem dX9_alter_1 : decode cX9_alter 1 = .ok (.invokestatic 121, 3) := by decide +kernel
theorem dX9_alter_4 : decode cX9_alter 4 = .ok (.ifCond .eq 41, 3) := by decide +kernel
theorem dX9_alter_7 : decode cX9_alter 7 = .ok (.aload_n 0, 1) := by decide +kernel
theorem dX9_alter_8 : decode cX9_alter 8 = .ok (.getfield 44, 3) := by decide +kernel
theorem dX9_alter_11 : decode cX9_alter 11 = .ok (.iload_n 1, 1) := by decide +kernel
theorem dX9_alter_12 : decode cX9_alter 12 = .ok (.iaload, 1) := by decide +kernel
theorem dX9_alter_13 : decode cX9_alter 13 = .ok (.ifCond .eq 32, 3) := by decide +kernel
theorem dX9_alter_16 : decode cX9_alter 16 = .ok (.iload_n 2, 1) := by decide +kernel
theorem dX9_alter_17 : decode cX9_alter 17 = .ok (.ifCond .lt 28, 3) := by decide +kernel
theorem dX9_alter_20 : decode cX9_alter 20 = .ok (.iload_n 2, 1) := by decide +kernel
theorem dX9_alter_21 : decode cX9_alter 21 = .ok (.aload_n 0, 1) := by decide +kernel
theorem dX9_alter_22 : decode cX9_alter 22 = .ok (.getfield 50, 3) := by decide +kernel
theorem dX9_alter_25 : decode cX9_alter 25 = .ok (.bipush 12, 2) := by decide +kernel
theorem dX9_alter_27 : decode cX9_alter 27 = .ok (.iload_n 1, 1) := by decide +kernel
theorem dX9_alter_28 : decode cX9_alter 28 = .ok (.imul, 1) := by decide +kernel
theorem dX9_alter_29 : decode cX9_alter 29 = .ok (.iaload, 1) := by decide +kernel
theorem dX9_alter_30 : decode cX9_alter 30 = .ok (.if_icmp .ge 15, 3) := by decide +kernel
theorem dX9_alter_33 : decode cX9_alter 33 = .ok (.iload_n 3, 1) := by decide +kernel
theorem dX9_alter_34 : decode cX9_alter 34 = .ok (.iconst 1, 1) := by decide +kernel
theorem dX9_alter_35 : decode cX9_alter 35 = .ok (.if_icmp .lt 10, 3) := by decide +kernel
theorem dX9_alter_38 : decode cX9_alter 38 = .ok (.iload_n 3, 1) := by decide +kernel
theorem dX9_alter_39 : decode cX9_alter 39 = .ok (.sipush 255, 3) := by decide +kernel
theorem dX9_alter_42 : decode cX9_alter 42 = .ok (.if_icmp .le 5, 3) := by decide +kernel
theorem dX9_alter_45 : decode cX9_alter 45 = .ok (.iconst 0, 1) := by decide +kernel
theorem dX9_alter_46 : decode cX9_alter 46 = .ok (.ireturn, 1) := by decide +kernel
theorem dX9_alter_47 : decode cX9_alter 47 = .ok (.aload_n 0, 1) := by decide +kernel
theorem dX9_alter_48 : decode cX9_alter 48 = .ok (.getfield 47, 3) := by decide +kernel
theorem dX9_alter_51 : decode cX9_alter 51 = .ok (.sipush 456, 3) := by decide +kernel
theorem dX9_alter_54 : decode cX9_alter 54 = .ok (.iload_n 1, 1) := by decide +kernel
theorem dX9_alter_55 : decode cX9_alter 55 = .ok (.imul, 1) := by decide +kernel
theorem dX9_alter_56 : decode cX9_alter 56 = .ok (.iload_n 2, 1) := by decide +kernel
theorem dX9_alter_57 : decode cX9_alter 57 = .ok (.iadd, 1) := by decide +kernel
theorem dX9_alter_58 : decode cX9_alter 58 = .ok (.aload_n 0, 1) := by decide +kernel
theorem dX9_alter_59 : decode cX9_alter 59 = .ok (.getfield 47, 3) := by decide +kernel
theorem dX9_alter_62 : decode cX9_alter 62 = .ok (.sipush 456, 3) := by decide +kernel
theorem dX9_alter_65 : decode cX9_alter 65 = .ok (.iload_n 1, 1) := by decide +kernel
theorem dX9_alter_66 : decode cX9_alter 66 = .ok (.imul, 1) := by decide +kernel
theorem dX9_alter_67 : decode cX9_alter 67 = .ok (.iload_n 2, 1) := by decide +kernel
theorem dX9_alter_68 : decode cX9_alter 68 = .ok (.iadd, 1) := by decide +kernel
theorem dX9_alter_69 : decode cX9_alter 69 = .ok (.iaload, 1) := by decide +kernel
theorem dX9_alter_70 : decode cX9_alter 70 = .ok (.iload_n 3, 1) := by decide +kernel
theorem dX9_alter_71 : decode cX9_alter 71 = .ok (.ixor, 1) := by decide +kernel
theorem dX9_alter_72 : decode cX9_alter 72 = .ok (.iastore, 1) := by decide +kernel
theorem dX9_alter_73 : decode cX9_alter 73 = .ok (.iconst 1, 1) := by decide +kernel
theorem dX9_alter_74 : decode cX9_alter 74 = .ok (.ireturn, 1) := by decide +kernel
theorem dX9_tickOf_0 : decode cX9_tickOf 0 = .ok (.aload_n 0, 1) := by decide +kernel
theorem dX9_tickOf_1 : decode cX9_tickOf 1 = .ok (.getfield 56, 3) := by decide +kernel
theorem dX9_tickOf_4 : decode cX9_tickOf 4 = .ok (.iload_n 1, 1) := by decide +kernel
theorem dX9_tickOf_5 : decode cX9_tickOf 5 = .ok (.iaload, 1) := by decide +kernel
theorem dX9_tickOf_6 : decode cX9_tickOf 6 = .ok (.ifCond .ne 5, 3) := by decide +kernel
theorem dX9_tickOf_9 : decode cX9_tickOf 9 = .ok (.iconst 0, 1) := by decide +kernel
theorem dX9_tickOf_10 : decode cX9_tickOf 10 = .ok (.ireturn, 1) := by decide +kernel
theorem dX9_tickOf_11 : decode cX9_tickOf 11 = .ok (.aload_n 0, 1) := by decide +kernel
theorem dX9_tickOf_12 : decode cX9_tickOf 12 = .ok (.getfield 105, 3) := by decide +kernel
theorem dX9_tickOf_15 : decode cX9_tickOf 15 = .ok (.iload_n 1, 1) := by decide +kernel
theorem dX9_tickOf_16 : decode cX9_tickOf 16 = .ok (.dup2, 1) := by decide +kernel
theorem dX9_tickOf_17 : decode cX9_tickOf 17 = .ok (.iaload, 1) := by decide +kernel
theorem dX9_tickOf_18 : decode cX9_tickOf 18 = .ok (.iconst 1, 1) := by decide +kernel
theorem dX9_tickOf_19 : decode cX9_tickOf 19 = .ok (.iadd, 1) := by decide +kernel
theorem dX9_tickOf_20 : decode cX9_tickOf 20 = .ok (.iastore, 1) := by decide +kernel
theorem dX9_tickOf_21 : decode cX9_tickOf 21 = .ok (.aload_n 0, 1) := by decide +kernel
theorem dX9_tickOf_22 : decode cX9_tickOf 22 = .ok (.getfield 56, 3) := by decide +kernel
theorem dX9_tickOf_25 : decode cX9_tickOf 25 = .ok (.iload_n 1, 1) := by decide +kernel
theorem dX9_tickOf_26 : decode cX9_tickOf 26 = .ok (.iaload, 1) := by decide +kernel
theorem dX9_tickOf_27 : decode cX9_tickOf 27 = .ok (.iconst 2, 1) := by decide +kernel
theorem dX9_tickOf_28 : decode cX9_tickOf 28 = .ok (.if_icmp .ne 31, 3) := by decide +kernel
theorem dX9_tickOf_31 : decode cX9_tickOf 31 = .ok (.aload_n 0, 1) := by decide +kernel
theorem dX9_tickOf_32 : decode cX9_tickOf 32 = .ok (.getfield 75, 3) := by decide +kernel
theorem dX9_tickOf_35 : decode cX9_tickOf 35 = .ok (.iload_n 1, 1) := by decide +kernel
theorem dX9_tickOf_36 : decode cX9_tickOf 36 = .ok (.iaload, 1) := by decide +kernel
theorem dX9_tickOf_37 : decode cX9_tickOf 37 = .ok (.ifCond .ne 22, 3) := by decide +kernel
theorem dX9_tickOf_40 : decode cX9_tickOf 40 = .ok (.aload_n 0, 1) := by decide +kernel
theorem dX9_tickOf_41 : decode cX9_tickOf 41 = .ok (.getfield 105, 3) := by decide +kernel
theorem dX9_tickOf_44 : decode cX9_tickOf 44 = .ok (.iload_n 1, 1) := by decide +kernel
theorem dX9_tickOf_45 : decode cX9_tickOf 45 = .ok (.iaload, 1) := by decide +kernel
theorem dX9_tickOf_46 : decode cX9_tickOf 46 = .ok (.bipush 41, 2) := by decide +kernel
theorem dX9_tickOf_48 : decode cX9_tickOf 48 = .ok (.if_icmp .ne 9, 3) := by decide +kernel
theorem dX9_tickOf_51 : decode cX9_tickOf 51 = .ok (.aload_n 0, 1) := by decide +kernel
theorem dX9_tickOf_52 : decode cX9_tickOf 52 = .ok (.iload_n 1, 1) := by decide +kernel
theorem dX9_tickOf_53 : decode cX9_tickOf 53 = .ok (.iconst 0, 1) := by decide +kernel
theorem dX9_tickOf_54 : decode cX9_tickOf 54 = .ok (.invokevirtual 176, 3) := by decide +kernel
theorem dX9_tickOf_57 : decode cX9_tickOf 57 = .ok (.iconst 0, 1) := by decide +kernel
theorem dX9_tickOf_58 : decode cX9_tickOf 58 = .ok (.ireturn, 1) := by decide +kernel
theorem dX9_tickOf_59 : decode cX9_tickOf 59 = .ok (.aload_n 0, 1) := by decide +kernel
theorem dX9_tickOf_60 : decode cX9_tickOf 60 = .ok (.getfield 105, 3) := by decide +kernel
theorem dX9_tickOf_63 : decode cX9_tickOf 63 = .ok (.iload_n 1, 1) := by decide +kernel
theorem dX9_tickOf_64 : decode cX9_tickOf 64 = .ok (.iaload, 1) := by decide +kernel
theorem dX9_tickOf_65 : decode cX9_tickOf 65 = .ok (.iconst 4, 1) := by decide +kernel
theorem dX9_tickOf_66 : decode cX9_tickOf 66 = .ok (.if_icmp .ge 5, 3) := by decide +kernel
theorem dX9_tickOf_69 : decode cX9_tickOf 69 = .ok (.iconst 0, 1) := by decide +kernel
theorem dX9_tickOf_70 : decode cX9_tickOf 70 = .ok (.ireturn, 1) := by decide +kernel
theorem dX9_tickOf_71 : decode cX9_tickOf 71 = .ok (.aload_n 0, 1) := by decide +kernel
theorem dX9_tickOf_72 : decode cX9_tickOf 72 = .ok (.getfield 108, 3) := by decide +kernel
theorem dX9_tickOf_75 : decode cX9_tickOf 75 = .ok (.iload_n 1, 1) := by decide +kernel
theorem dX9_tickOf_76 : decode cX9_tickOf 76 = .ok (.iaload, 1) := by decide +kernel
theorem dX9_tickOf_77 : decode cX9_tickOf 77 = .ok (.iconst 5, 1) := by decide +kernel
theorem dX9_tickOf_78 : decode cX9_tickOf 78 = .ok (.if_icmp .ne 11, 3) := by decide +kernel
theorem dX9_tickOf_81 : decode cX9_tickOf 81 = .ok (.aload_n 0, 1) := by decide +kernel
theorem dX9_tickOf_82 : decode cX9_tickOf 82 = .ok (.iload_n 1, 1) := by decide +kernel
theorem dX9_tickOf_83 : decode cX9_tickOf 83 = .ok (.iconst 0, 1) := by decide +kernel
theorem dX9_tickOf_84 : decode cX9_tickOf 84 = .ok (.invokevirtual 176, 3) := by decide +kernel
theorem dX9_tickOf_87 : decode cX9_tickOf 87 = .ok (.iconst 0, 1) := by decide +kernel
theorem dX9_tickOf_88 : decode cX9_tickOf 88 = .ok (.ireturn, 1) := by decide +kernel
theorem dX9_tickOf_89 : decode cX9_tickOf 89 = .ok (.aload_n 0, 1) := by decide +kernel
theorem dX9_tickOf_90 : decode cX9_tickOf 90 = .ok (.getfield 108, 3) := by decide +kernel
theorem dX9_tickOf_93 : decode cX9_tickOf 93 = .ok (.iload_n 1, 1) := by decide +kernel
theorem dX9_tickOf_94 : decode cX9_tickOf 94 = .ok (.dup2, 1) := by decide +kernel
end
section
theorem dX9_tickOf_95 : decode cX9_tickOf 95 = .ok (.iaload, 1) := by decide +kernel
theorem dX9_tickOf_96 : decode cX9_tickOf 96 = .ok (.iconst 1, 1) := by decide +kernel
theorem dX9_tickOf_97 : decode cX9_tickOf 97 = .ok (.iadd, 1) := by decide +kernel
theorem dX9_tickOf_98 : decode cX9_tickOf 98 = .ok (.iastore, 1) := by decide +kernel
theorem dX9_tickOf_99 : decode cX9_tickOf 99 = .ok (.aload_n 0, 1) := by decide +kernel
theorem dX9_tickOf_100 : decode cX9_tickOf 100 = .ok (.getfield 105, 3) := by decide +kernel
theorem dX9_tickOf_103 : decode cX9_tickOf 103 = .ok (.iload_n 1, 1) := by decide +kernel
theorem dX9_tickOf_104 : decode cX9_tickOf 104 = .ok (.iconst 0, 1) := by decide +kernel
theorem dX9_tickOf_105 : decode cX9_tickOf 105 = .ok (.iastore, 1) := by decide +kernel
theorem dX9_tickOf_106 : decode cX9_tickOf 106 = .ok (.aload_n 0, 1) := by decide +kernel
theorem dX9_tickOf_107 : decode cX9_tickOf 107 = .ok (.getfield 56, 3) := by decide +kernel
theorem dX9_tickOf_110 : decode cX9_tickOf 110 = .ok (.iload_n 1, 1) := by decide +kernel
theorem dX9_tickOf_111 : decode cX9_tickOf 111 = .ok (.iaload, 1) := by decide +kernel
theorem dX9_tickOf_112 : decode cX9_tickOf 112 = .ok (.iconst 1, 1) := by decide +kernel
theorem dX9_tickOf_113 : decode cX9_tickOf 113 = .ok (.if_icmp .ne 23, 3) := by decide +kernel
theorem dX9_tickOf_116 : decode cX9_tickOf 116 = .ok (.aload_n 0, 1) := by decide +kernel
theorem dX9_tickOf_117 : decode cX9_tickOf 117 = .ok (.iload_n 1, 1) := by decide +kernel
theorem dX9_tickOf_118 : decode cX9_tickOf 118 = .ok (.bipush 7, 2) := by decide +kernel
theorem dX9_tickOf_120 : decode cX9_tickOf 120 = .ok (.aload_n 0, 1) := by decide +kernel
theorem dX9_tickOf_121 : decode cX9_tickOf 121 = .ok (.getfield 38, 3) := by decide +kernel
theorem dX9_tickOf_124 : decode cX9_tickOf 124 = .ok (.iload_n 1, 1) := by decide +kernel
theorem dX9_tickOf_125 : decode cX9_tickOf 125 = .ok (.iaload, 1) := by decide +kernel
theorem dX9_tickOf_126 : decode cX9_tickOf 126 = .ok (.iconst 1, 1) := by decide +kernel
theorem dX9_tickOf_127 : decode cX9_tickOf 127 = .ok (.isub, 1) := by decide +kernel
theorem dX9_tickOf_128 : decode cX9_tickOf 128 = .ok (.bipush 8, 2) := by decide +kernel
theorem dX9_tickOf_130 : decode cX9_tickOf 130 = .ok (.irem, 1) := by decide +kernel
theorem dX9_tickOf_131 : decode cX9_tickOf 131 = .ok (.invokevirtual 172, 3) := by decide +kernel
theorem dX9_tickOf_134 : decode cX9_tickOf 134 = .ok (.iconst 1, 1) := by decide +kernel
theorem dX9_tickOf_135 : decode cX9_tickOf 135 = .ok (.ireturn, 1) := by decide +kernel
theorem dX9_tickOf_136 : decode cX9_tickOf 136 = .ok (.aload_n 0, 1) := by decide +kernel
theorem dX9_tickOf_137 : decode cX9_tickOf 137 = .ok (.iload_n 1, 1) := by decide +kernel
theorem dX9_tickOf_138 : decode cX9_tickOf 138 = .ok (.invokevirtual 192, 3) := by decide +kernel
theorem dX9_tickOf_141 : decode cX9_tickOf 141 = .ok (.aload_n 0, 1) := by decide +kernel
theorem dX9_tickOf_142 : decode cX9_tickOf 142 = .ok (.getfield 75, 3) := by decide +kernel
theorem dX9_tickOf_145 : decode cX9_tickOf 145 = .ok (.iload_n 1, 1) := by decide +kernel
theorem dX9_tickOf_146 : decode cX9_tickOf 146 = .ok (.iaload, 1) := by decide +kernel
theorem dX9_tickOf_147 : decode cX9_tickOf 147 = .ok (.ireturn, 1) := by decide +kernel
theorem dX9_tick_0 : decode cX9_tick 0 = .ok (.aload_n 0, 1) := by decide +kernel
theorem dX9_tick_1 : decode cX9_tick 1 = .ok (.iconst 0, 1) := by decide +kernel
theorem dX9_tick_2 : decode cX9_tick 2 = .ok (.invokevirtual 208, 3) := by decide +kernel
theorem dX9_tick_5 : decode cX9_tick 5 = .ok (.istore_n 1, 1) := by decide +kernel
theorem dX9_tick_6 : decode cX9_tick 6 = .ok (.iload_n 1, 1) := by decide +kernel
theorem dX9_tick_7 : decode cX9_tick 7 = .ok (.aload_n 0, 1) := by decide +kernel
theorem dX9_tick_8 : decode cX9_tick 8 = .ok (.iconst 1, 1) := by decide +kernel
theorem dX9_tick_9 : decode cX9_tick 9 = .ok (.invokevirtual 208, 3) := by decide +kernel
theorem dX9_tick_12 : decode cX9_tick 12 = .ok (.iadd, 1) := by decide +kernel
theorem dX9_tick_13 : decode cX9_tick 13 = .ok (.ireturn, 1) := by decide +kernel
theorem dX9_crash_0 : decode cX9_crash 0 = .ok (.iload_n 1, 1) := by decide +kernel
theorem dX9_crash_1 : decode cX9_crash 1 = .ok (.invokestatic 121, 3) := by decide +kernel
theorem dX9_crash_4 : decode cX9_crash 4 = .ok (.ifCond .ne 5, 3) := by decide +kernel
theorem dX9_crash_7 : decode cX9_crash 7 = .ok (.iconst 0, 1) := by decide +kernel
theorem dX9_crash_8 : decode cX9_crash 8 = .ok (.ireturn, 1) := by decide +kernel
theorem dX9_crash_9 : decode cX9_crash 9 = .ok (.aload_n 0, 1) := by decide +kernel
theorem dX9_crash_10 : decode cX9_crash 10 = .ok (.iload_n 1, 1) := by decide +kernel
theorem dX9_crash_11 : decode cX9_crash 11 = .ok (.iconst 0, 1) := by decide +kernel
theorem dX9_crash_12 : decode cX9_crash 12 = .ok (.invokevirtual 176, 3) := by decide +kernel
theorem dX9_crash_15 : decode cX9_crash 15 = .ok (.iconst 1, 1) := by decide +kernel
theorem dX9_crash_16 : decode cX9_crash 16 = .ok (.ireturn, 1) := by decide +kernel
theorem dX9_settle_0 : decode cX9_settle 0 = .ok (.iload_n 1, 1) := by decide +kernel
theorem dX9_settle_1 : decode cX9_settle 1 = .ok (.iconst 1, 1) := by decide +kernel
theorem dX9_settle_2 : decode cX9_settle 2 = .ok (.if_icmp .lt 10, 3) := by decide +kernel
theorem dX9_settle_5 : decode cX9_settle 5 = .ok (.iload_n 1, 1) := by decide +kernel
theorem dX9_settle_6 : decode cX9_settle 6 = .ok (.sipush 200, 3) := by decide +kernel
theorem dX9_settle_9 : decode cX9_settle 9 = .ok (.if_icmp .le 5, 3) := by decide +kernel
theorem dX9_settle_12 : decode cX9_settle 12 = .ok (.iconst (-1), 1) := by decide +kernel
theorem dX9_settle_13 : decode cX9_settle 13 = .ok (.ireturn, 1) := by decide +kernel
theorem dX9_settle_14 : decode cX9_settle 14 = .ok (.iconst 0, 1) := by decide +kernel
theorem dX9_settle_15 : decode cX9_settle 15 = .ok (.istore_n 2, 1) := by decide +kernel
theorem dX9_settle_16 : decode cX9_settle 16 = .ok (.iconst 0, 1) := by decide +kernel
theorem dX9_settle_17 : decode cX9_settle 17 = .ok (.istore_n 3, 1) := by decide +kernel
theorem dX9_settle_18 : decode cX9_settle 18 = .ok (.iload_n 2, 1) := by decide +kernel
theorem dX9_settle_19 : decode cX9_settle 19 = .ok (.iload_n 1, 1) := by decide +kernel
theorem dX9_settle_20 : decode cX9_settle 20 = .ok (.if_icmp .ge 53, 3) := by decide +kernel
theorem dX9_settle_23 : decode cX9_settle 23 = .ok (.aload_n 0, 1) := by decide +kernel
theorem dX9_settle_24 : decode cX9_settle 24 = .ok (.getfield 44, 3) := by decide +kernel
theorem dX9_settle_27 : decode cX9_settle 27 = .ok (.iconst 0, 1) := by decide +kernel
theorem dX9_settle_28 : decode cX9_settle 28 = .ok (.iaload, 1) := by decide +kernel
theorem dX9_settle_29 : decode cX9_settle 29 = .ok (.aload_n 0, 1) := by decide +kernel
theorem dX9_settle_30 : decode cX9_settle 30 = .ok (.getfield 44, 3) := by decide +kernel
theorem dX9_settle_33 : decode cX9_settle 33 = .ok (.iconst 1, 1) := by decide +kernel
theorem dX9_settle_34 : decode cX9_settle 34 = .ok (.iaload, 1) := by decide +kernel
theorem dX9_settle_35 : decode cX9_settle 35 = .ok (.iadd, 1) := by decide +kernel
theorem dX9_settle_36 : decode cX9_settle 36 = .ok (.ifCond .le 37, 3) := by decide +kernel
theorem dX9_settle_39 : decode cX9_settle 39 = .ok (.aload_n 0, 1) := by decide +kernel
theorem dX9_settle_40 : decode cX9_settle 40 = .ok (.getfield 44, 3) := by decide +kernel
theorem dX9_settle_43 : decode cX9_settle 43 = .ok (.iload_n 3, 1) := by decide +kernel
theorem dX9_settle_44 : decode cX9_settle 44 = .ok (.iaload, 1) := by decide +kernel
theorem dX9_settle_45 : decode cX9_settle 45 = .ok (.ifCond .ne 9, 3) := by decide +kernel
theorem dX9_settle_48 : decode cX9_settle 48 = .ok (.iconst 1, 1) := by decide +kernel
theorem dX9_settle_49 : decode cX9_settle 49 = .ok (.iload_n 3, 1) := by decide +kernel
theorem dX9_settle_50 : decode cX9_settle 50 = .ok (.isub, 1) := by decide +kernel
theorem dX9_settle_51 : decode cX9_settle 51 = .ok (.goto 4, 3) := by decide +kernel
theorem dX9_settle_54 : decode cX9_settle 54 = .ok (.iload_n 3, 1) := by decide +kernel
theorem dX9_settle_55 : decode cX9_settle 55 = .ok (.istore_n 3, 1) := by decide +kernel
theorem dX9_settle_56 : decode cX9_settle 56 = .ok (.aload_n 0, 1) := by decide +kernel
theorem dX9_settle_57 : decode cX9_settle 57 = .ok (.iload_n 3, 1) := by decide +kernel
theorem dX9_settle_58 : decode cX9_settle 58 = .ok (.invokevirtual 211, 3) := by decide +kernel
theorem dX9_settle_61 : decode cX9_settle 61 = .ok (.istore 4, 2) := by decide +kernel
theorem dX9_settle_63 : decode cX9_settle 63 = .ok (.iinc 2 1, 3) := by decide +kernel
theorem dX9_settle_66 : decode cX9_settle 66 = .ok (.iconst 1, 1) := by decide +kernel
theorem dX9_settle_67 : decode cX9_settle 67 = .ok (.iload_n 3, 1) := by decide +kernel
theorem dX9_settle_68 : decode cX9_settle 68 = .ok (.isub, 1) := by decide +kernel
theorem dX9_settle_69 : decode cX9_settle 69 = .ok (.istore_n 3, 1) := by decide +kernel
theorem dX9_settle_70 : decode cX9_settle 70 = .ok (.goto (-52), 3) := by decide +kernel
theorem dX9_settle_73 : decode cX9_settle 73 = .ok (.iload_n 2, 1) := by decide +kernel
theorem dX9_settle_74 : decode cX9_settle 74 = .ok (.ireturn, 1) := by decide +kernel
theorem dX9_waiting_0 : decode cX9_waiting 0 = .ok (.iload_n 1, 1) := by decide +kernel
theorem dX9_waiting_1 : decode cX9_waiting 1 = .ok (.invokestatic 121, 3) := by decide +kernel
theorem dX9_waiting_4 : decode cX9_waiting 4 = .ok (.ifCond .eq 12, 3) := by decide +kernel
theorem dX9_waiting_7 : decode cX9_waiting 7 = .ok (.aload_n 0, 1) := by decide +kernel
theorem dX9_waiting_8 : decode cX9_waiting 8 = .ok (.getfield 44, 3) := by decide +kernel
theorem dX9_waiting_11 : decode cX9_waiting 11 = .ok (.iload_n 1, 1) := by decide +kernel
theorem dX9_waiting_12 : decode cX9_waiting 12 = .ok (.iaload, 1) := by decide +kernel
theorem dX9_waiting_13 : decode cX9_waiting 13 = .ok (.goto 4, 3) := by decide +kernel
theorem dX9_waiting_16 : decode cX9_waiting 16 = .ok (.iconst (-1), 1) := by decide +kernel
theorem dX9_waiting_17 : decode cX9_waiting 17 = .ok (.ireturn, 1) := by decide +kernel
theorem dX9_look_0 : decode cX9_look 0 = .ok (.iload_n 1, 1) := by decide +kernel
theorem dX9_look_1 : decode cX9_look 1 = .ok (.invokestatic 121, 3) := by decide +kernel
theorem dX9_look_4 : decode cX9_look 4 = .ok (.ifCond .eq 36, 3) := by decide +kernel
theorem dX9_look_7 : decode cX9_look 7 = .ok (.iload_n 2, 1) := by decide +kernel
theorem dX9_look_8 : decode cX9_look 8 = .ok (.ifCond .lt 32, 3) := by decide +kernel
theorem dX9_look_11 : decode cX9_look 11 = .ok (.iload_n 2, 1) := by decide +kernel
theorem dX9_look_12 : decode cX9_look 12 = .ok (.aload_n 0, 1) := by decide +kernel
theorem dX9_look_13 : decode cX9_look 13 = .ok (.getfield 44, 3) := by decide +kernel
theorem dX9_look_16 : decode cX9_look 16 = .ok (.iload_n 1, 1) := by decide +kernel
theorem dX9_look_17 : decode cX9_look 17 = .ok (.iaload, 1) := by decide +kernel
theorem dX9_look_18 : decode cX9_look 18 = .ok (.if_icmp .ge 22, 3) := by decide +kernel
theorem dX9_look_21 : decode cX9_look 21 = .ok (.iload_n 3, 1) := by decide +kernel
theorem dX9_look_22 : decode cX9_look 22 = .ok (.ifCond .lt 18, 3) := by decide +kernel
theorem dX9_look_25 : decode cX9_look 25 = .ok (.iload_n 3, 1) := by decide +kernel
theorem dX9_look_26 : decode cX9_look 26 = .ok (.aload_n 0, 1) := by decide +kernel
theorem dX9_look_27 : decode cX9_look 27 = .ok (.getfield 50, 3) := by decide +kernel
theorem dX9_look_30 : decode cX9_look 30 = .ok (.bipush 12, 2) := by decide +kernel
theorem dX9_look_32 : decode cX9_look 32 = .ok (.iload_n 1, 1) := by decide +kernel
theorem dX9_look_33 : decode cX9_look 33 = .ok (.imul, 1) := by decide +kernel
theorem dX9_look_34 : decode cX9_look 34 = .ok (.iload_n 2, 1) := by decide +kernel
theorem dX9_look_35 : decode cX9_look 35 = .ok (.iadd, 1) := by decide +kernel
theorem dX9_look_36 : decode cX9_look 36 = .ok (.iaload, 1) := by decide +kernel
theorem dX9_look_37 : decode cX9_look 37 = .ok (.if_icmp .lt 7, 3) := by decide +kernel
theorem dX9_look_40 : decode cX9_look 40 = .ok (.iconst (-1), 1) := by decide +kernel
theorem dX9_look_41 : decode cX9_look 41 = .ok (.goto 20, 3) := by decide +kernel
theorem dX9_look_44 : decode cX9_look 44 = .ok (.aload_n 0, 1) := by decide +kernel
theorem dX9_look_45 : decode cX9_look 45 = .ok (.getfield 47, 3) := by decide +kernel
theorem dX9_look_48 : decode cX9_look 48 = .ok (.sipush 456, 3) := by decide +kernel
theorem dX9_look_51 : decode cX9_look 51 = .ok (.iload_n 1, 1) := by decide +kernel
theorem dX9_look_52 : decode cX9_look 52 = .ok (.imul, 1) := by decide +kernel
theorem dX9_look_53 : decode cX9_look 53 = .ok (.bipush 38, 2) := by decide +kernel
theorem dX9_look_55 : decode cX9_look 55 = .ok (.iload_n 2, 1) := by decide +kernel
theorem dX9_look_56 : decode cX9_look 56 = .ok (.imul, 1) := by decide +kernel
theorem dX9_look_57 : decode cX9_look 57 = .ok (.iadd, 1) := by decide +kernel
theorem dX9_look_58 : decode cX9_look 58 = .ok (.iload_n 3, 1) := by decide +kernel
theorem dX9_look_59 : decode cX9_look 59 = .ok (.iadd, 1) := by decide +kernel
theorem dX9_look_60 : decode cX9_look 60 = .ok (.iaload, 1) := by decide +kernel
theorem dX9_look_61 : decode cX9_look 61 = .ok (.ireturn, 1) := by decide +kernel
theorem dX9_told_0 : decode cX9_told 0 = .ok (.iload_n 1, 1) := by decide +kernel
theorem dX9_told_1 : decode cX9_told 1 = .ok (.invokestatic 121, 3) := by decide +kernel
theorem dX9_told_4 : decode cX9_told 4 = .ok (.ifCond .ne 5, 3) := by decide +kernel
theorem dX9_told_7 : decode cX9_told 7 = .ok (.iconst (-1), 1) := by decide +kernel
theorem dX9_told_8 : decode cX9_told 8 = .ok (.ireturn, 1) := by decide +kernel
theorem dX9_told_9 : decode cX9_told 9 = .ok (.iload_n 2, 1) := by decide +kernel
theorem dX9_told_10 : decode cX9_told 10 = .ok (.tableswitch 103 0 5 #[38, 45, 52, 82, 89, 96], 38) := by decide +kernel
theorem dX9_told_48 : decode cX9_told 48 = .ok (.aload_n 0, 1) := by decide +kernel
theorem dX9_told_49 : decode cX9_told 49 = .ok (.getfield 19, 3) := by decide +kernel
theorem dX9_told_52 : decode cX9_told 52 = .ok (.iload_n 1, 1) := by decide +kernel
theorem dX9_told_53 : decode cX9_told 53 = .ok (.iaload, 1) := by decide +kernel
theorem dX9_told_54 : decode cX9_told 54 = .ok (.ireturn, 1) := by decide +kernel
theorem dX9_told_55 : decode cX9_told 55 = .ok (.aload_n 0, 1) := by decide +kernel
theorem dX9_told_56 : decode cX9_told 56 = .ok (.getfield 25, 3) := by decide +kernel
theorem dX9_told_59 : decode cX9_told 59 = .ok (.iload_n 1, 1) := by decide +kernel
theorem dX9_told_60 : decode cX9_told 60 = .ok (.iaload, 1) := by decide +kernel
theorem dX9_told_61 : decode cX9_told 61 = .ok (.ireturn, 1) := by decide +kernel
theorem dX9_told_62 : decode cX9_told 62 = .ok (.aload_n 0, 1) := by decide +kernel
theorem dX9_told_63 : decode cX9_told 63 = .ok (.getfield 56, 3) := by decide +kernel
theorem dX9_told_66 : decode cX9_told 66 = .ok (.iload_n 1, 1) := by decide +kernel
theorem dX9_told_67 : decode cX9_told 67 = .ok (.iaload, 1) := by decide +kernel
theorem dX9_told_68 : decode cX9_told 68 = .ok (.iconst 2, 1) := by decide +kernel
theorem dX9_told_69 : decode cX9_told 69 = .ok (.if_icmp .ne 16, 3) := by decide +kernel
theorem dX9_told_72 : decode cX9_told 72 = .ok (.aload_n 0, 1) := by decide +kernel
theorem dX9_told_73 : decode cX9_told 73 = .ok (.getfield 59, 3) := by decide +kernel
theorem dX9_told_76 : decode cX9_told 76 = .ok (.iload_n 1, 1) := by decide +kernel
theorem dX9_told_77 : decode cX9_told 77 = .ok (.baload, 1) := by decide +kernel
theorem dX9_told_78 : decode cX9_told 78 = .ok (.ifCond .ne 7, 3) := by decide +kernel
theorem dX9_told_81 : decode cX9_told 81 = .ok (.iconst 3, 1) := by decide +kernel
theorem dX9_told_82 : decode cX9_told 82 = .ok (.goto 9, 3) := by decide +kernel
theorem dX9_told_85 : decode cX9_told 85 = .ok (.aload_n 0, 1) := by decide +kernel
theorem dX9_told_86 : decode cX9_told 86 = .ok (.getfield 56, 3) := by decide +kernel
theorem dX9_told_89 : decode cX9_told 89 = .ok (.iload_n 1, 1) := by decide +kernel
theorem dX9_told_90 : decode cX9_told 90 = .ok (.iaload, 1) := by decide +kernel
theorem dX9_told_91 : decode cX9_told 91 = .ok (.ireturn, 1) := by decide +kernel
theorem dX9_told_92 : decode cX9_told 92 = .ok (.aload_n 0, 1) := by decide +kernel
theorem dX9_told_93 : decode cX9_told 93 = .ok (.getfield 75, 3) := by decide +kernel
theorem dX9_told_96 : decode cX9_told 96 = .ok (.iload_n 1, 1) := by decide +kernel
theorem dX9_told_97 : decode cX9_told 97 = .ok (.iaload, 1) := by decide +kernel
theorem dX9_told_98 : decode cX9_told 98 = .ok (.ireturn, 1) := by decide +kernel
theorem dX9_told_99 : decode cX9_told 99 = .ok (.aload_n 0, 1) := by decide +kernel
theorem dX9_told_100 : decode cX9_told 100 = .ok (.getfield 84, 3) := by decide +kernel
theorem dX9_told_103 : decode cX9_told 103 = .ok (.iload_n 1, 1) := by decide +kernel
theorem dX9_told_104 : decode cX9_told 104 = .ok (.iaload, 1) := by decide +kernel
theorem dX9_told_105 : decode cX9_told 105 = .ok (.ireturn, 1) := by decide +kernel
theorem dX9_told_106 : decode cX9_told 106 = .ok (.aload_n 0, 1) := by decide +kernel
theorem dX9_told_107 : decode cX9_told 107 = .ok (.getfield 38, 3) := by decide +kernel
theorem dX9_told_110 : decode cX9_told 110 = .ok (.iload_n 1, 1) := by decide +kernel
theorem dX9_told_111 : decode cX9_told 111 = .ok (.iaload, 1) := by decide +kernel
theorem dX9_told_112 : decode cX9_told 112 = .ok (.ireturn, 1) := by decide +kernel
theorem dX9_told_113 : decode cX9_told 113 = .ok (.iconst (-1), 1) := by decide +kernel
theorem dX9_told_114 : decode cX9_told 114 = .ok (.ireturn, 1) := by decide +kernel
theorem dX9_queued_0 : decode cX9_queued 0 = .ok (.iload_n 1, 1) := by decide +kernel
theorem dX9_queued_1 : decode cX9_queued 1 = .ok (.invokestatic 121, 3) := by decide +kernel
theorem dX9_queued_4 : decode cX9_queued 4 = .ok (.ifCond .eq 17, 3) := by decide +kernel
theorem dX9_queued_7 : decode cX9_queued 7 = .ok (.iload_n 2, 1) := by decide +kernel
theorem dX9_queued_8 : decode cX9_queued 8 = .ok (.ifCond .lt 13, 3) := by decide +kernel
theorem dX9_queued_11 : decode cX9_queued 11 = .ok (.iload_n 2, 1) := by decide +kernel
theorem dX9_queued_12 : decode cX9_queued 12 = .ok (.aload_n 0, 1) := by decide +kernel
theorem dX9_queued_13 : decode cX9_queued 13 = .ok (.getfield 19, 3) := by decide +kernel
theorem dX9_queued_16 : decode cX9_queued 16 = .ok (.iload_n 1, 1) := by decide +kernel
theorem dX9_queued_17 : decode cX9_queued 17 = .ok (.iaload, 1) := by decide +kernel
theorem dX9_queued_18 : decode cX9_queued 18 = .ok (.if_icmp .lt 7, 3) := by decide +kernel
theorem dX9_queued_21 : decode cX9_queued 21 = .ok (.iconst (-1), 1) := by decide +kernel
theorem dX9_queued_22 : decode cX9_queued 22 = .ok (.goto 14, 3) := by decide +kernel
theorem dX9_queued_25 : decode cX9_queued 25 = .ok (.aload_n 0, 1) := by decide +kernel
theorem dX9_queued_26 : decode cX9_queued 26 = .ok (.getfield 22, 3) := by decide +kernel
theorem dX9_queued_29 : decode cX9_queued 29 = .ok (.bipush 30, 2) := by decide +kernel
theorem dX9_queued_31 : decode cX9_queued 31 = .ok (.iload_n 1, 1) := by decide +kernel
theorem dX9_queued_32 : decode cX9_queued 32 = .ok (.imul, 1) := by decide +kernel
theorem dX9_queued_33 : decode cX9_queued 33 = .ok (.iload_n 2, 1) := by decide +kernel
theorem dX9_queued_34 : decode cX9_queued 34 = .ok (.iadd, 1) := by decide +kernel
theorem dX9_queued_35 : decode cX9_queued 35 = .ok (.iaload, 1) := by decide +kernel
theorem dX9_queued_36 : decode cX9_queued 36 = .ok (.ireturn, 1) := by decide +kernel
theorem dX9_executed_0 : decode cX9_executed 0 = .ok (.iload_n 1, 1) := by decide +kernel
theorem dX9_executed_1 : decode cX9_executed 1 = .ok (.invokestatic 121, 3) := by decide +kernel
theorem dX9_executed_4 : decode cX9_executed 4 = .ok (.ifCond .eq 17, 3) := by decide +kernel
theorem dX9_executed_7 : decode cX9_executed 7 = .ok (.iload_n 2, 1) := by decide +kernel
theorem dX9_executed_8 : decode cX9_executed 8 = .ok (.ifCond .lt 13, 3) := by decide +kernel
theorem dX9_executed_11 : decode cX9_executed 11 = .ok (.iload_n 2, 1) := by decide +kernel
theorem dX9_executed_12 : decode cX9_executed 12 = .ok (.aload_n 0, 1) := by decide +kernel
theorem dX9_executed_13 : decode cX9_executed 13 = .ok (.getfield 25, 3) := by decide +kernel
theorem dX9_executed_16 : decode cX9_executed 16 = .ok (.iload_n 1, 1) := by decide +kernel
theorem dX9_executed_17 : decode cX9_executed 17 = .ok (.iaload, 1) := by decide +kernel
theorem dX9_executed_18 : decode cX9_executed 18 = .ok (.if_icmp .lt 7, 3) := by decide +kernel
theorem dX9_executed_21 : decode cX9_executed 21 = .ok (.iconst (-1), 1) := by decide +kernel
theorem dX9_executed_22 : decode cX9_executed 22 = .ok (.goto 15, 3) := by decide +kernel
theorem dX9_executed_25 : decode cX9_executed 25 = .ok (.aload_n 0, 1) := by decide +kernel
theorem dX9_executed_26 : decode cX9_executed 26 = .ok (.getfield 28, 3) := by decide +kernel
theorem dX9_executed_29 : decode cX9_executed 29 = .ok (.sipush 256, 3) := by decide +kernel
theorem dX9_executed_32 : decode cX9_executed 32 = .ok (.iload_n 1, 1) := by decide +kernel
theorem dX9_executed_33 : decode cX9_executed 33 = .ok (.imul, 1) := by decide +kernel
theorem dX9_executed_34 : decode cX9_executed 34 = .ok (.iload_n 2, 1) := by decide +kernel
theorem dX9_executed_35 : decode cX9_executed 35 = .ok (.iadd, 1) := by decide +kernel
theorem dX9_executed_36 : decode cX9_executed 36 = .ok (.iaload, 1) := by decide +kernel
theorem dX9_executed_37 : decode cX9_executed 37 = .ok (.ireturn, 1) := by decide +kernel
theorem dX9_file_0 : decode cX9_file 0 = .ok (.aload_n 0, 1) := by decide +kernel
theorem dX9_file_1 : decode cX9_file 1 = .ok (.iload_n 1, 1) := by decide +kernel
theorem dX9_file_2 : decode cX9_file 2 = .ok (.iload_n 2, 1) := by decide +kernel
theorem dX9_file_3 : decode cX9_file 3 = .ok (.invokevirtual 214, 3) := by decide +kernel
theorem dX9_file_6 : decode cX9_file 6 = .ok (.iconst (-1), 1) := by decide +kernel
theorem dX9_file_7 : decode cX9_file 7 = .ok (.if_icmp .eq 23, 3) := by decide +kernel
theorem dX9_file_10 : decode cX9_file 10 = .ok (.iload_n 3, 1) := by decide +kernel
theorem dX9_file_11 : decode cX9_file 11 = .ok (.ifCond .lt 19, 3) := by decide +kernel
theorem dX9_file_14 : decode cX9_file 14 = .ok (.iload_n 3, 1) := by decide +kernel
theorem dX9_file_15 : decode cX9_file 15 = .ok (.aload_n 0, 1) := by decide +kernel
theorem dX9_file_16 : decode cX9_file 16 = .ok (.getfield 31, 3) := by decide +kernel
theorem dX9_file_19 : decode cX9_file 19 = .ok (.sipush 256, 3) := by decide +kernel
theorem dX9_file_22 : decode cX9_file 22 = .ok (.iload_n 1, 1) := by decide +kernel
theorem dX9_file_23 : decode cX9_file 23 = .ok (.imul, 1) := by decide +kernel
theorem dX9_file_24 : decode cX9_file 24 = .ok (.iload_n 2, 1) := by decide +kernel
theorem dX9_file_25 : decode cX9_file 25 = .ok (.iadd, 1) := by decide +kernel
theorem dX9_file_26 : decode cX9_file 26 = .ok (.iaload, 1) := by decide +kernel
theorem dX9_file_27 : decode cX9_file 27 = .ok (.if_icmp .lt 7, 3) := by decide +kernel
theorem dX9_file_30 : decode cX9_file 30 = .ok (.iconst (-1), 1) := by decide +kernel
theorem dX9_file_31 : decode cX9_file 31 = .ok (.goto 20, 3) := by decide +kernel
theorem dX9_file_34 : decode cX9_file 34 = .ok (.aload_n 0, 1) := by decide +kernel
theorem dX9_file_35 : decode cX9_file 35 = .ok (.getfield 35, 3) := by decide +kernel
theorem dX9_file_38 : decode cX9_file 38 = .ok (.bipush 100, 2) := by decide +kernel
theorem dX9_file_40 : decode cX9_file 40 = .ok (.sipush 256, 3) := by decide +kernel
theorem dX9_file_43 : decode cX9_file 43 = .ok (.iload_n 1, 1) := by decide +kernel
theorem dX9_file_44 : decode cX9_file 44 = .ok (.imul, 1) := by decide +kernel
theorem dX9_file_45 : decode cX9_file 45 = .ok (.iload_n 2, 1) := by decide +kernel
theorem dX9_file_46 : decode cX9_file 46 = .ok (.iadd, 1) := by decide +kernel
theorem dX9_file_47 : decode cX9_file 47 = .ok (.imul, 1) := by decide +kernel
theorem dX9_file_48 : decode cX9_file 48 = .ok (.iload_n 3, 1) := by decide +kernel
theorem dX9_file_49 : decode cX9_file 49 = .ok (.iadd, 1) := by decide +kernel
theorem dX9_file_50 : decode cX9_file 50 = .ok (.iaload, 1) := by decide +kernel
theorem dX9_file_51 : decode cX9_file 51 = .ok (.ireturn, 1) := by decide +kernel
theorem dX9_times_0 : decode cX9_times 0 = .ok (.iload_n 1, 1) := by decide +kernel
theorem dX9_times_1 : decode cX9_times 1 = .ok (.invokestatic 121, 3) := by decide +kernel
theorem dX9_times_4 : decode cX9_times 4 = .ok (.ifCond .eq 17, 3) := by decide +kernel
theorem dX9_times_7 : decode cX9_times 7 = .ok (.iload_n 2, 1) := by decide +kernel
theorem dX9_times_8 : decode cX9_times 8 = .ok (.ifCond .lt 13, 3) := by decide +kernel
theorem dX9_times_11 : decode cX9_times 11 = .ok (.iload_n 2, 1) := by decide +kernel
theorem dX9_times_12 : decode cX9_times 12 = .ok (.aload_n 0, 1) := by decide +kernel
theorem dX9_times_13 : decode cX9_times 13 = .ok (.getfield 7, 3) := by decide +kernel
theorem dX9_times_16 : decode cX9_times 16 = .ok (.iload_n 1, 1) := by decide +kernel
theorem dX9_times_17 : decode cX9_times 17 = .ok (.iaload, 1) := by decide +kernel
theorem dX9_times_18 : decode cX9_times 18 = .ok (.if_icmp .lt 5, 3) := by decide +kernel
theorem dX9_times_21 : decode cX9_times 21 = .ok (.iconst (-1), 1) := by decide +kernel
theorem dX9_times_22 : decode cX9_times 22 = .ok (.ireturn, 1) := by decide +kernel
theorem dX9_times_23 : decode cX9_times 23 = .ok (.iconst 0, 1) := by decide +kernel
theorem dX9_times_24 : decode cX9_times 24 = .ok (.istore_n 3, 1) := by decide +kernel
theorem dX9_times_25 : decode cX9_times 25 = .ok (.iconst 0, 1) := by decide +kernel
theorem dX9_times_26 : decode cX9_times 26 = .ok (.istore 4, 2) := by decide +kernel
theorem dX9_times_28 : decode cX9_times 28 = .ok (.iload 4, 2) := by decide +kernel
theorem dX9_times_30 : decode cX9_times 30 = .ok (.aload_n 0, 1) := by decide +kernel
theorem dX9_times_31 : decode cX9_times 31 = .ok (.getfield 25, 3) := by decide +kernel
theorem dX9_times_34 : decode cX9_times 34 = .ok (.iconst 1, 1) := by decide +kernel
theorem dX9_times_35 : decode cX9_times 35 = .ok (.iload_n 1, 1) := by decide +kernel
theorem dX9_times_36 : decode cX9_times 36 = .ok (.isub, 1) := by decide +kernel
theorem dX9_times_37 : decode cX9_times 37 = .ok (.iaload, 1) := by decide +kernel
theorem dX9_times_38 : decode cX9_times 38 = .ok (.if_icmp .ge 36, 3) := by decide +kernel
theorem dX9_times_41 : decode cX9_times 41 = .ok (.iload_n 3, 1) := by decide +kernel
theorem dX9_times_42 : decode cX9_times 42 = .ok (.aload_n 0, 1) := by decide +kernel
theorem dX9_times_43 : decode cX9_times 43 = .ok (.getfield 28, 3) := by decide +kernel
theorem dX9_times_46 : decode cX9_times 46 = .ok (.sipush 256, 3) := by decide +kernel
theorem dX9_times_49 : decode cX9_times 49 = .ok (.iconst 1, 1) := by decide +kernel
theorem dX9_times_50 : decode cX9_times 50 = .ok (.iload_n 1, 1) := by decide +kernel
theorem dX9_times_51 : decode cX9_times 51 = .ok (.isub, 1) := by decide +kernel
theorem dX9_times_52 : decode cX9_times 52 = .ok (.imul, 1) := by decide +kernel
theorem dX9_times_53 : decode cX9_times 53 = .ok (.iload 4, 2) := by decide +kernel
theorem dX9_times_55 : decode cX9_times 55 = .ok (.iadd, 1) := by decide +kernel
theorem dX9_times_56 : decode cX9_times 56 = .ok (.iaload, 1) := by decide +kernel
theorem dX9_times_57 : decode cX9_times 57 = .ok (.iload_n 2, 1) := by decide +kernel
theorem dX9_times_58 : decode cX9_times 58 = .ok (.if_icmp .ne 7, 3) := by decide +kernel
theorem dX9_times_61 : decode cX9_times 61 = .ok (.iconst 1, 1) := by decide +kernel
theorem dX9_times_62 : decode cX9_times 62 = .ok (.goto 4, 3) := by decide +kernel
theorem dX9_times_65 : decode cX9_times 65 = .ok (.iconst 0, 1) := by decide +kernel
theorem dX9_times_66 : decode cX9_times 66 = .ok (.iadd, 1) := by decide +kernel
theorem dX9_times_67 : decode cX9_times 67 = .ok (.istore_n 3, 1) := by decide +kernel
theorem dX9_times_68 : decode cX9_times 68 = .ok (.iinc 4 1, 3) := by decide +kernel
theorem dX9_times_71 : decode cX9_times 71 = .ok (.goto (-43), 3) := by decide +kernel
theorem dX9_times_74 : decode cX9_times 74 = .ok (.iload_n 3, 1) := by decide +kernel
theorem dX9_times_75 : decode cX9_times 75 = .ok (.ireturn, 1) := by decide +kernel
end
section
theorem dJ9_min_7cf53_0 : decode cJ9_min_7cf53 0 = .ok (.iload_n 0, 1) := by decide +kernel
theorem dJ9_min_7cf53_1 : decode cJ9_min_7cf53 1 = .ok (.iload_n 1, 1) := by decide +kernel
theorem dJ9_min_7cf53_2 : decode cJ9_min_7cf53 2 = .ok (.if_icmp .gt 7, 3) := by decide +kernel
theorem dJ9_min_7cf53_5 : decode cJ9_min_7cf53 5 = .ok (.iload_n 0, 1) := by decide +kernel
theorem dJ9_min_7cf53_6 : decode cJ9_min_7cf53 6 = .ok (.goto 4, 3) := by decide +kernel
theorem dJ9_min_7cf53_9 : decode cJ9_min_7cf53 9 = .ok (.iload_n 1, 1) := by decide +kernel
theorem dJ9_min_7cf53_10 : decode cJ9_min_7cf53 10 = .ok (.ireturn, 1) := by decide +kernel
end
section
theorem dL_law_0 : decode cL_law 0 = .ok (.new 7, 3) := by decide +kernel
theorem dL_law_3 : decode cL_law 3 = .ok (.dup, 1) := by decide +kernel
theorem dL_law_4 : decode cL_law 4 = .ok (.invokespecial 9, 3) := by decide +kernel
theorem dL_law_7 : decode cL_law 7 = .ok (.astore_n 1, 1) := by decide +kernel
theorem dL_law_8 : decode cL_law 8 = .ok (.new 10, 3) := by decide +kernel
theorem dL_law_11 : decode cL_law 11 = .ok (.dup, 1) := by decide +kernel
theorem dL_law_12 : decode cL_law 12 = .ok (.invokespecial 12, 3) := by decide +kernel
theorem dL_law_15 : decode cL_law 15 = .ok (.astore_n 2, 1) := by decide +kernel
theorem dL_law_16 : decode cL_law 16 = .ok (.iconst 0, 1) := by decide +kernel
theorem dL_law_17 : decode cL_law 17 = .ok (.istore_n 3, 1) := by decide +kernel
theorem dL_law_18 : decode cL_law 18 = .ok (.iload_n 3, 1) := by decide +kernel
theorem dL_law_19 : decode cL_law 19 = .ok (.aload_n 0, 1) := by decide +kernel
theorem dL_law_20 : decode cL_law 20 = .ok (.arraylength, 1) := by decide +kernel
theorem dL_law_21 : decode cL_law 21 = .ok (.iconst 4, 1) := by decide +kernel
theorem dL_law_22 : decode cL_law 22 = .ok (.isub, 1) := by decide +kernel
theorem dL_law_23 : decode cL_law 23 = .ok (.if_icmp .gt 553, 3) := by decide +kernel
theorem dL_law_26 : decode cL_law 26 = .ok (.aload_n 0, 1) := by decide +kernel
theorem dL_law_27 : decode cL_law 27 = .ok (.iload_n 3, 1) := by decide +kernel
theorem dL_law_28 : decode cL_law 28 = .ok (.iaload, 1) := by decide +kernel
theorem dL_law_29 : decode cL_law 29 = .ok (.bipush 15, 2) := by decide +kernel
theorem dL_law_31 : decode cL_law 31 = .ok (.iand, 1) := by decide +kernel
theorem dL_law_32 : decode cL_law 32 = .ok (.tableswitch 538 0 15 #[80, 103, 126, 149, 172, 195, 238, 251, 274, 297, 320, 363, 396, 429, 462, 505], 80) := by decide +kernel
theorem dL_law_112 : decode cL_law 112 = .ok (.aload_n 1, 1) := by decide +kernel
theorem dL_law_113 : decode cL_law 113 = .ok (.aload_n 0, 1) := by decide +kernel
theorem dL_law_114 : decode cL_law 114 = .ok (.iload_n 3, 1) := by decide +kernel
theorem dL_law_115 : decode cL_law 115 = .ok (.iconst 1, 1) := by decide +kernel
theorem dL_law_116 : decode cL_law 116 = .ok (.iadd, 1) := by decide +kernel
theorem dL_law_117 : decode cL_law 117 = .ok (.iaload, 1) := by decide +kernel
theorem dL_law_118 : decode cL_law 118 = .ok (.invokevirtual 13, 3) := by decide +kernel
theorem dL_law_121 : decode cL_law 121 = .ok (.aload_n 2, 1) := by decide +kernel
theorem dL_law_122 : decode cL_law 122 = .ok (.aload_n 0, 1) := by decide +kernel
theorem dL_law_123 : decode cL_law 123 = .ok (.iload_n 3, 1) := by decide +kernel
theorem dL_law_124 : decode cL_law 124 = .ok (.iconst 1, 1) := by decide +kernel
theorem dL_law_125 : decode cL_law 125 = .ok (.iadd, 1) := by decide +kernel
theorem dL_law_126 : decode cL_law 126 = .ok (.iaload, 1) := by decide +kernel
theorem dL_law_127 : decode cL_law 127 = .ok (.invokevirtual 17, 3) := by decide +kernel
theorem dL_law_130 : decode cL_law 130 = .ok (.if_icmp .eq 440, 3) := by decide +kernel
theorem dL_law_133 : decode cL_law 133 = .ok (.iconst 0, 1) := by decide +kernel
theorem dL_law_134 : decode cL_law 134 = .ok (.ireturn, 1) := by decide +kernel
theorem dL_law_135 : decode cL_law 135 = .ok (.aload_n 1, 1) := by decide +kernel
theorem dL_law_136 : decode cL_law 136 = .ok (.aload_n 0, 1) := by decide +kernel
theorem dL_law_137 : decode cL_law 137 = .ok (.iload_n 3, 1) := by decide +kernel
theorem dL_law_138 : decode cL_law 138 = .ok (.iconst 1, 1) := by decide +kernel
theorem dL_law_139 : decode cL_law 139 = .ok (.iadd, 1) := by decide +kernel
theorem dL_law_140 : decode cL_law 140 = .ok (.iaload, 1) := by decide +kernel
theorem dL_law_141 : decode cL_law 141 = .ok (.invokevirtual 18, 3) := by decide +kernel
theorem dL_law_144 : decode cL_law 144 = .ok (.aload_n 2, 1) := by decide +kernel
theorem dL_law_145 : decode cL_law 145 = .ok (.aload_n 0, 1) := by decide +kernel
theorem dL_law_146 : decode cL_law 146 = .ok (.iload_n 3, 1) := by decide +kernel
theorem dL_law_147 : decode cL_law 147 = .ok (.iconst 1, 1) := by decide +kernel
theorem dL_law_148 : decode cL_law 148 = .ok (.iadd, 1) := by decide +kernel
theorem dL_law_149 : decode cL_law 149 = .ok (.iaload, 1) := by decide +kernel
theorem dL_law_150 : decode cL_law 150 = .ok (.invokevirtual 21, 3) := by decide +kernel
theorem dL_law_153 : decode cL_law 153 = .ok (.if_icmp .eq 417, 3) := by decide +kernel
theorem dL_law_156 : decode cL_law 156 = .ok (.iconst 0, 1) := by decide +kernel
theorem dL_law_157 : decode cL_law 157 = .ok (.ireturn, 1) := by decide +kernel
theorem dL_law_158 : decode cL_law 158 = .ok (.aload_n 1, 1) := by decide +kernel
theorem dL_law_159 : decode cL_law 159 = .ok (.aload_n 0, 1) := by decide +kernel
theorem dL_law_160 : decode cL_law 160 = .ok (.iload_n 3, 1) := by decide +kernel
theorem dL_law_161 : decode cL_law 161 = .ok (.iconst 1, 1) := by decide +kernel
theorem dL_law_162 : decode cL_law 162 = .ok (.iadd, 1) := by decide +kernel
theorem dL_law_163 : decode cL_law 163 = .ok (.iaload, 1) := by decide +kernel
theorem dL_law_164 : decode cL_law 164 = .ok (.invokevirtual 22, 3) := by decide +kernel
theorem dL_law_167 : decode cL_law 167 = .ok (.aload_n 2, 1) := by decide +kernel
theorem dL_law_168 : decode cL_law 168 = .ok (.aload_n 0, 1) := by decide +kernel
theorem dL_law_169 : decode cL_law 169 = .ok (.iload_n 3, 1) := by decide +kernel
theorem dL_law_170 : decode cL_law 170 = .ok (.iconst 1, 1) := by decide +kernel
theorem dL_law_171 : decode cL_law 171 = .ok (.iadd, 1) := by decide +kernel
theorem dL_law_172 : decode cL_law 172 = .ok (.iaload, 1) := by decide +kernel
theorem dL_law_173 : decode cL_law 173 = .ok (.invokevirtual 26, 3) := by decide +kernel
theorem dL_law_176 : decode cL_law 176 = .ok (.if_icmp .eq 394, 3) := by decide +kernel
theorem dL_law_179 : decode cL_law 179 = .ok (.iconst 0, 1) := by decide +kernel
theorem dL_law_180 : decode cL_law 180 = .ok (.ireturn, 1) := by decide +kernel
theorem dL_law_181 : decode cL_law 181 = .ok (.aload_n 1, 1) := by decide +kernel
theorem dL_law_182 : decode cL_law 182 = .ok (.aload_n 0, 1) := by decide +kernel
theorem dL_law_183 : decode cL_law 183 = .ok (.iload_n 3, 1) := by decide +kernel
theorem dL_law_184 : decode cL_law 184 = .ok (.iconst 1, 1) := by decide +kernel
theorem dL_law_185 : decode cL_law 185 = .ok (.iadd, 1) := by decide +kernel
theorem dL_law_186 : decode cL_law 186 = .ok (.iaload, 1) := by decide +kernel
theorem dL_law_187 : decode cL_law 187 = .ok (.invokevirtual 27, 3) := by decide +kernel
theorem dL_law_190 : decode cL_law 190 = .ok (.aload_n 2, 1) := by decide +kernel
theorem dL_law_191 : decode cL_law 191 = .ok (.aload_n 0, 1) := by decide +kernel
theorem dL_law_192 : decode cL_law 192 = .ok (.iload_n 3, 1) := by decide +kernel
theorem dL_law_193 : decode cL_law 193 = .ok (.iconst 1, 1) := by decide +kernel
theorem dL_law_194 : decode cL_law 194 = .ok (.iadd, 1) := by decide +kernel
theorem dL_law_195 : decode cL_law 195 = .ok (.iaload, 1) := by decide +kernel
theorem dL_law_196 : decode cL_law 196 = .ok (.invokevirtual 30, 3) := by decide +kernel
theorem dL_law_199 : decode cL_law 199 = .ok (.if_icmp .eq 371, 3) := by decide +kernel
theorem dL_law_202 : decode cL_law 202 = .ok (.iconst 0, 1) := by decide +kernel
theorem dL_law_203 : decode cL_law 203 = .ok (.ireturn, 1) := by decide +kernel
theorem dL_law_204 : decode cL_law 204 = .ok (.aload_n 1, 1) := by decide +kernel
theorem dL_law_205 : decode cL_law 205 = .ok (.aload_n 0, 1) := by decide +kernel
theorem dL_law_206 : decode cL_law 206 = .ok (.iload_n 3, 1) := by decide +kernel
theorem dL_law_207 : decode cL_law 207 = .ok (.iconst 1, 1) := by decide +kernel
theorem dL_law_208 : decode cL_law 208 = .ok (.iadd, 1) := by decide +kernel
theorem dL_law_209 : decode cL_law 209 = .ok (.iaload, 1) := by decide +kernel
theorem dL_law_210 : decode cL_law 210 = .ok (.invokevirtual 31, 3) := by decide +kernel
theorem dL_law_213 : decode cL_law 213 = .ok (.aload_n 2, 1) := by decide +kernel
theorem dL_law_214 : decode cL_law 214 = .ok (.aload_n 0, 1) := by decide +kernel
theorem dL_law_215 : decode cL_law 215 = .ok (.iload_n 3, 1) := by decide +kernel
theorem dL_law_216 : decode cL_law 216 = .ok (.iconst 1, 1) := by decide +kernel
theorem dL_law_217 : decode cL_law 217 = .ok (.iadd, 1) := by decide +kernel
theorem dL_law_218 : decode cL_law 218 = .ok (.iaload, 1) := by decide +kernel
theorem dL_law_219 : decode cL_law 219 = .ok (.invokevirtual 34, 3) := by decide +kernel
theorem dL_law_222 : decode cL_law 222 = .ok (.if_icmp .eq 348, 3) := by decide +kernel
theorem dL_law_225 : decode cL_law 225 = .ok (.iconst 0, 1) := by decide +kernel
theorem dL_law_226 : decode cL_law 226 = .ok (.ireturn, 1) := by decide +kernel
theorem dL_law_227 : decode cL_law 227 = .ok (.aload_n 1, 1) := by decide +kernel
theorem dL_law_228 : decode cL_law 228 = .ok (.aload_n 0, 1) := by decide +kernel
theorem dL_law_229 : decode cL_law 229 = .ok (.iload_n 3, 1) := by decide +kernel
theorem dL_law_230 : decode cL_law 230 = .ok (.iconst 1, 1) := by decide +kernel
theorem dL_law_231 : decode cL_law 231 = .ok (.iadd, 1) := by decide +kernel
theorem dL_law_232 : decode cL_law 232 = .ok (.iaload, 1) := by decide +kernel
theorem dL_law_233 : decode cL_law 233 = .ok (.aload_n 0, 1) := by decide +kernel
theorem dL_law_234 : decode cL_law 234 = .ok (.iload_n 3, 1) := by decide +kernel
theorem dL_law_235 : decode cL_law 235 = .ok (.iconst 2, 1) := by decide +kernel
theorem dL_law_236 : decode cL_law 236 = .ok (.iadd, 1) := by decide +kernel
theorem dL_law_237 : decode cL_law 237 = .ok (.iaload, 1) := by decide +kernel
theorem dL_law_238 : decode cL_law 238 = .ok (.aload_n 0, 1) := by decide +kernel
theorem dL_law_239 : decode cL_law 239 = .ok (.iload_n 3, 1) := by decide +kernel
theorem dL_law_240 : decode cL_law 240 = .ok (.iconst 3, 1) := by decide +kernel
theorem dL_law_241 : decode cL_law 241 = .ok (.iadd, 1) := by decide +kernel
theorem dL_law_242 : decode cL_law 242 = .ok (.iaload, 1) := by decide +kernel
theorem dL_law_243 : decode cL_law 243 = .ok (.invokevirtual 35, 3) := by decide +kernel
theorem dL_law_246 : decode cL_law 246 = .ok (.aload_n 2, 1) := by decide +kernel
theorem dL_law_247 : decode cL_law 247 = .ok (.aload_n 0, 1) := by decide +kernel
theorem dL_law_248 : decode cL_law 248 = .ok (.iload_n 3, 1) := by decide +kernel
theorem dL_law_249 : decode cL_law 249 = .ok (.iconst 1, 1) := by decide +kernel
theorem dL_law_250 : decode cL_law 250 = .ok (.iadd, 1) := by decide +kernel
theorem dL_law_251 : decode cL_law 251 = .ok (.iaload, 1) := by decide +kernel
theorem dL_law_252 : decode cL_law 252 = .ok (.aload_n 0, 1) := by decide +kernel
theorem dL_law_253 : decode cL_law 253 = .ok (.iload_n 3, 1) := by decide +kernel
theorem dL_law_254 : decode cL_law 254 = .ok (.iconst 2, 1) := by decide +kernel
theorem dL_law_255 : decode cL_law 255 = .ok (.iadd, 1) := by decide +kernel
theorem dL_law_256 : decode cL_law 256 = .ok (.iaload, 1) := by decide +kernel
theorem dL_law_257 : decode cL_law 257 = .ok (.aload_n 0, 1) := by decide +kernel
theorem dL_law_258 : decode cL_law 258 = .ok (.iload_n 3, 1) := by decide +kernel
theorem dL_law_259 : decode cL_law 259 = .ok (.iconst 3, 1) := by decide +kernel
theorem dL_law_260 : decode cL_law 260 = .ok (.iadd, 1) := by decide +kernel
theorem dL_law_261 : decode cL_law 261 = .ok (.iaload, 1) := by decide +kernel
theorem dL_law_262 : decode cL_law 262 = .ok (.invokevirtual 39, 3) := by decide +kernel
theorem dL_law_265 : decode cL_law 265 = .ok (.if_icmp .eq 305, 3) := by decide +kernel
theorem dL_law_268 : decode cL_law 268 = .ok (.iconst 0, 1) := by decide +kernel
theorem dL_law_269 : decode cL_law 269 = .ok (.ireturn, 1) := by decide +kernel
theorem dL_law_270 : decode cL_law 270 = .ok (.aload_n 1, 1) := by decide +kernel
theorem dL_law_271 : decode cL_law 271 = .ok (.invokevirtual 40, 3) := by decide +kernel
theorem dL_law_274 : decode cL_law 274 = .ok (.aload_n 2, 1) := by decide +kernel
theorem dL_law_275 : decode cL_law 275 = .ok (.invokevirtual 44, 3) := by decide +kernel
theorem dL_law_278 : decode cL_law 278 = .ok (.if_icmp .eq 292, 3) := by decide +kernel
theorem dL_law_281 : decode cL_law 281 = .ok (.iconst 0, 1) := by decide +kernel
theorem dL_law_282 : decode cL_law 282 = .ok (.ireturn, 1) := by decide +kernel
theorem dL_law_283 : decode cL_law 283 = .ok (.aload_n 1, 1) := by decide +kernel
theorem dL_law_284 : decode cL_law 284 = .ok (.aload_n 0, 1) := by decide +kernel
theorem dL_law_285 : decode cL_law 285 = .ok (.iload_n 3, 1) := by decide +kernel
theorem dL_law_286 : decode cL_law 286 = .ok (.iconst 1, 1) := by decide +kernel
theorem dL_law_287 : decode cL_law 287 = .ok (.iadd, 1) := by decide +kernel
theorem dL_law_288 : decode cL_law 288 = .ok (.iaload, 1) := by decide +kernel
theorem dL_law_289 : decode cL_law 289 = .ok (.invokevirtual 45, 3) := by decide +kernel
theorem dL_law_292 : decode cL_law 292 = .ok (.aload_n 2, 1) := by decide +kernel
theorem dL_law_293 : decode cL_law 293 = .ok (.aload_n 0, 1) := by decide +kernel
theorem dL_law_294 : decode cL_law 294 = .ok (.iload_n 3, 1) := by decide +kernel
theorem dL_law_295 : decode cL_law 295 = .ok (.iconst 1, 1) := by decide +kernel
theorem dL_law_296 : decode cL_law 296 = .ok (.iadd, 1) := by decide +kernel
theorem dL_law_297 : decode cL_law 297 = .ok (.iaload, 1) := by decide +kernel
theorem dL_law_298 : decode cL_law 298 = .ok (.invokevirtual 48, 3) := by decide +kernel
theorem dL_law_301 : decode cL_law 301 = .ok (.if_icmp .eq 269, 3) := by decide +kernel
theorem dL_law_304 : decode cL_law 304 = .ok (.iconst 0, 1) := by decide +kernel
theorem dL_law_305 : decode cL_law 305 = .ok (.ireturn, 1) := by decide +kernel
theorem dL_law_306 : decode cL_law 306 = .ok (.aload_n 1, 1) := by decide +kernel
theorem dL_law_307 : decode cL_law 307 = .ok (.aload_n 0, 1) := by decide +kernel
theorem dL_law_308 : decode cL_law 308 = .ok (.iload_n 3, 1) := by decide +kernel
theorem dL_law_309 : decode cL_law 309 = .ok (.iconst 1, 1) := by decide +kernel
theorem dL_law_310 : decode cL_law 310 = .ok (.iadd, 1) := by decide +kernel
theorem dL_law_311 : decode cL_law 311 = .ok (.iaload, 1) := by decide +kernel
theorem dL_law_312 : decode cL_law 312 = .ok (.invokevirtual 49, 3) := by decide +kernel
theorem dL_law_315 : decode cL_law 315 = .ok (.aload_n 2, 1) := by decide +kernel
theorem dL_law_316 : decode cL_law 316 = .ok (.aload_n 0, 1) := by decide +kernel
theorem dL_law_317 : decode cL_law 317 = .ok (.iload_n 3, 1) := by decide +kernel
theorem dL_law_318 : decode cL_law 318 = .ok (.iconst 1, 1) := by decide +kernel
theorem dL_law_319 : decode cL_law 319 = .ok (.iadd, 1) := by decide +kernel
theorem dL_law_320 : decode cL_law 320 = .ok (.iaload, 1) := by decide +kernel
theorem dL_law_321 : decode cL_law 321 = .ok (.invokevirtual 52, 3) := by decide +kernel
theorem dL_law_324 : decode cL_law 324 = .ok (.if_icmp .eq 246, 3) := by decide +kernel
theorem dL_law_327 : decode cL_law 327 = .ok (.iconst 0, 1) := by decide +kernel
theorem dL_law_328 : decode cL_law 328 = .ok (.ireturn, 1) := by decide +kernel
theorem dL_law_329 : decode cL_law 329 = .ok (.aload_n 1, 1) := by decide +kernel
theorem dL_law_330 : decode cL_law 330 = .ok (.aload_n 0, 1) := by decide +kernel
theorem dL_law_331 : decode cL_law 331 = .ok (.iload_n 3, 1) := by decide +kernel
theorem dL_law_332 : decode cL_law 332 = .ok (.iconst 1, 1) := by decide +kernel
theorem dL_law_333 : decode cL_law 333 = .ok (.iadd, 1) := by decide +kernel
theorem dL_law_334 : decode cL_law 334 = .ok (.iaload, 1) := by decide +kernel
theorem dL_law_335 : decode cL_law 335 = .ok (.invokevirtual 53, 3) := by decide +kernel
theorem dL_law_338 : decode cL_law 338 = .ok (.aload_n 2, 1) := by decide +kernel
theorem dL_law_339 : decode cL_law 339 = .ok (.aload_n 0, 1) := by decide +kernel
theorem dL_law_340 : decode cL_law 340 = .ok (.iload_n 3, 1) := by decide +kernel
theorem dL_law_341 : decode cL_law 341 = .ok (.iconst 1, 1) := by decide +kernel
theorem dL_law_342 : decode cL_law 342 = .ok (.iadd, 1) := by decide +kernel
theorem dL_law_343 : decode cL_law 343 = .ok (.iaload, 1) := by decide +kernel
theorem dL_law_344 : decode cL_law 344 = .ok (.invokevirtual 56, 3) := by decide +kernel
theorem dL_law_347 : decode cL_law 347 = .ok (.if_icmp .eq 223, 3) := by decide +kernel
theorem dL_law_350 : decode cL_law 350 = .ok (.iconst 0, 1) := by decide +kernel
theorem dL_law_351 : decode cL_law 351 = .ok (.ireturn, 1) := by decide +kernel
theorem dL_law_352 : decode cL_law 352 = .ok (.aload_n 1, 1) := by decide +kernel
theorem dL_law_353 : decode cL_law 353 = .ok (.aload_n 0, 1) := by decide +kernel
theorem dL_law_354 : decode cL_law 354 = .ok (.iload_n 3, 1) := by decide +kernel
theorem dL_law_355 : decode cL_law 355 = .ok (.iconst 1, 1) := by decide +kernel
theorem dL_law_356 : decode cL_law 356 = .ok (.iadd, 1) := by decide +kernel
theorem dL_law_357 : decode cL_law 357 = .ok (.iaload, 1) := by decide +kernel
theorem dL_law_358 : decode cL_law 358 = .ok (.aload_n 0, 1) := by decide +kernel
theorem dL_law_359 : decode cL_law 359 = .ok (.iload_n 3, 1) := by decide +kernel
theorem dL_law_360 : decode cL_law 360 = .ok (.iconst 2, 1) := by decide +kernel
theorem dL_law_361 : decode cL_law 361 = .ok (.iadd, 1) := by decide +kernel
theorem dL_law_362 : decode cL_law 362 = .ok (.iaload, 1) := by decide +kernel
theorem dL_law_363 : decode cL_law 363 = .ok (.aload_n 0, 1) := by decide +kernel
theorem dL_law_364 : decode cL_law 364 = .ok (.iload_n 3, 1) := by decide +kernel
theorem dL_law_365 : decode cL_law 365 = .ok (.iconst 3, 1) := by decide +kernel
theorem dL_law_366 : decode cL_law 366 = .ok (.iadd, 1) := by decide +kernel
theorem dL_law_367 : decode cL_law 367 = .ok (.iaload, 1) := by decide +kernel
theorem dL_law_368 : decode cL_law 368 = .ok (.invokevirtual 57, 3) := by decide +kernel
theorem dL_law_371 : decode cL_law 371 = .ok (.aload_n 2, 1) := by decide +kernel
theorem dL_law_372 : decode cL_law 372 = .ok (.aload_n 0, 1) := by decide +kernel
theorem dL_law_373 : decode cL_law 373 = .ok (.iload_n 3, 1) := by decide +kernel
theorem dL_law_374 : decode cL_law 374 = .ok (.iconst 1, 1) := by decide +kernel
theorem dL_law_375 : decode cL_law 375 = .ok (.iadd, 1) := by decide +kernel
theorem dL_law_376 : decode cL_law 376 = .ok (.iaload, 1) := by decide +kernel
theorem dL_law_377 : decode cL_law 377 = .ok (.aload_n 0, 1) := by decide +kernel
theorem dL_law_378 : decode cL_law 378 = .ok (.iload_n 3, 1) := by decide +kernel
theorem dL_law_379 : decode cL_law 379 = .ok (.iconst 2, 1) := by decide +kernel
theorem dL_law_380 : decode cL_law 380 = .ok (.iadd, 1) := by decide +kernel
theorem dL_law_381 : decode cL_law 381 = .ok (.iaload, 1) := by decide +kernel
theorem dL_law_382 : decode cL_law 382 = .ok (.aload_n 0, 1) := by decide +kernel
theorem dL_law_383 : decode cL_law 383 = .ok (.iload_n 3, 1) := by decide +kernel
theorem dL_law_384 : decode cL_law 384 = .ok (.iconst 3, 1) := by decide +kernel
theorem dL_law_385 : decode cL_law 385 = .ok (.iadd, 1) := by decide +kernel
theorem dL_law_386 : decode cL_law 386 = .ok (.iaload, 1) := by decide +kernel
theorem dL_law_387 : decode cL_law 387 = .ok (.invokevirtual 61, 3) := by decide +kernel
theorem dL_law_390 : decode cL_law 390 = .ok (.if_icmp .eq 180, 3) := by decide +kernel
theorem dL_law_393 : decode cL_law 393 = .ok (.iconst 0, 1) := by decide +kernel
theorem dL_law_394 : decode cL_law 394 = .ok (.ireturn, 1) := by decide +kernel
theorem dL_law_395 : decode cL_law 395 = .ok (.aload_n 1, 1) := by decide +kernel
theorem dL_law_396 : decode cL_law 396 = .ok (.aload_n 0, 1) := by decide +kernel
theorem dL_law_397 : decode cL_law 397 = .ok (.iload_n 3, 1) := by decide +kernel
theorem dL_law_398 : decode cL_law 398 = .ok (.iconst 1, 1) := by decide +kernel
theorem dL_law_399 : decode cL_law 399 = .ok (.iadd, 1) := by decide +kernel
theorem dL_law_400 : decode cL_law 400 = .ok (.iaload, 1) := by decide +kernel
theorem dL_law_401 : decode cL_law 401 = .ok (.aload_n 0, 1) := by decide +kernel
theorem dL_law_402 : decode cL_law 402 = .ok (.iload_n 3, 1) := by decide +kernel
theorem dL_law_403 : decode cL_law 403 = .ok (.iconst 2, 1) := by decide +kernel
theorem dL_law_404 : decode cL_law 404 = .ok (.iadd, 1) := by decide +kernel
theorem dL_law_405 : decode cL_law 405 = .ok (.iaload, 1) := by decide +kernel
theorem dL_law_406 : decode cL_law 406 = .ok (.invokevirtual 62, 3) := by decide +kernel
theorem dL_law_409 : decode cL_law 409 = .ok (.aload_n 2, 1) := by decide +kernel
theorem dL_law_410 : decode cL_law 410 = .ok (.aload_n 0, 1) := by decide +kernel
theorem dL_law_411 : decode cL_law 411 = .ok (.iload_n 3, 1) := by decide +kernel
theorem dL_law_412 : decode cL_law 412 = .ok (.iconst 1, 1) := by decide +kernel
theorem dL_law_413 : decode cL_law 413 = .ok (.iadd, 1) := by decide +kernel
theorem dL_law_414 : decode cL_law 414 = .ok (.iaload, 1) := by decide +kernel
theorem dL_law_415 : decode cL_law 415 = .ok (.aload_n 0, 1) := by decide +kernel
theorem dL_law_416 : decode cL_law 416 = .ok (.iload_n 3, 1) := by decide +kernel
theorem dL_law_417 : decode cL_law 417 = .ok (.iconst 2, 1) := by decide +kernel
theorem dL_law_418 : decode cL_law 418 = .ok (.iadd, 1) := by decide +kernel
theorem dL_law_419 : decode cL_law 419 = .ok (.iaload, 1) := by decide +kernel
theorem dL_law_420 : decode cL_law 420 = .ok (.invokevirtual 66, 3) := by decide +kernel
theorem dL_law_423 : decode cL_law 423 = .ok (.if_icmp .eq 147, 3) := by decide +kernel
theorem dL_law_426 : decode cL_law 426 = .ok (.iconst 0, 1) := by decide +kernel
theorem dL_law_427 : decode cL_law 427 = .ok (.ireturn, 1) := by decide +kernel
theorem dL_law_428 : decode cL_law 428 = .ok (.aload_n 1, 1) := by decide +kernel
theorem dL_law_429 : decode cL_law 429 = .ok (.aload_n 0, 1) := by decide +kernel
theorem dL_law_430 : decode cL_law 430 = .ok (.iload_n 3, 1) := by decide +kernel
theorem dL_law_431 : decode cL_law 431 = .ok (.iconst 1, 1) := by decide +kernel
theorem dL_law_432 : decode cL_law 432 = .ok (.iadd, 1) := by decide +kernel
theorem dL_law_433 : decode cL_law 433 = .ok (.iaload, 1) := by decide +kernel
theorem dL_law_434 : decode cL_law 434 = .ok (.aload_n 0, 1) := by decide +kernel
theorem dL_law_435 : decode cL_law 435 = .ok (.iload_n 3, 1) := by decide +kernel
theorem dL_law_436 : decode cL_law 436 = .ok (.iconst 2, 1) := by decide +kernel
theorem dL_law_437 : decode cL_law 437 = .ok (.iadd, 1) := by decide +kernel
theorem dL_law_438 : decode cL_law 438 = .ok (.iaload, 1) := by decide +kernel
theorem dL_law_439 : decode cL_law 439 = .ok (.invokevirtual 67, 3) := by decide +kernel
theorem dL_law_442 : decode cL_law 442 = .ok (.aload_n 2, 1) := by decide +kernel
theorem dL_law_443 : decode cL_law 443 = .ok (.aload_n 0, 1) := by decide +kernel
theorem dL_law_444 : decode cL_law 444 = .ok (.iload_n 3, 1) := by decide +kernel
theorem dL_law_445 : decode cL_law 445 = .ok (.iconst 1, 1) := by decide +kernel
theorem dL_law_446 : decode cL_law 446 = .ok (.iadd, 1) := by decide +kernel
theorem dL_law_447 : decode cL_law 447 = .ok (.iaload, 1) := by decide +kernel
theorem dL_law_448 : decode cL_law 448 = .ok (.aload_n 0, 1) := by decide +kernel
theorem dL_law_449 : decode cL_law 449 = .ok (.iload_n 3, 1) := by decide +kernel
theorem dL_law_450 : decode cL_law 450 = .ok (.iconst 2, 1) := by decide +kernel
theorem dL_law_451 : decode cL_law 451 = .ok (.iadd, 1) := by decide +kernel
theorem dL_law_452 : decode cL_law 452 = .ok (.iaload, 1) := by decide +kernel
theorem dL_law_453 : decode cL_law 453 = .ok (.invokevirtual 70, 3) := by decide +kernel
theorem dL_law_456 : decode cL_law 456 = .ok (.if_icmp .eq 114, 3) := by decide +kernel
theorem dL_law_459 : decode cL_law 459 = .ok (.iconst 0, 1) := by decide +kernel
theorem dL_law_460 : decode cL_law 460 = .ok (.ireturn, 1) := by decide +kernel
theorem dL_law_461 : decode cL_law 461 = .ok (.aload_n 1, 1) := by decide +kernel
theorem dL_law_462 : decode cL_law 462 = .ok (.aload_n 0, 1) := by decide +kernel
theorem dL_law_463 : decode cL_law 463 = .ok (.iload_n 3, 1) := by decide +kernel
theorem dL_law_464 : decode cL_law 464 = .ok (.iconst 1, 1) := by decide +kernel
theorem dL_law_465 : decode cL_law 465 = .ok (.iadd, 1) := by decide +kernel
theorem dL_law_466 : decode cL_law 466 = .ok (.iaload, 1) := by decide +kernel
theorem dL_law_467 : decode cL_law 467 = .ok (.aload_n 0, 1) := by decide +kernel
theorem dL_law_468 : decode cL_law 468 = .ok (.iload_n 3, 1) := by decide +kernel
theorem dL_law_469 : decode cL_law 469 = .ok (.iconst 2, 1) := by decide +kernel
theorem dL_law_470 : decode cL_law 470 = .ok (.iadd, 1) := by decide +kernel
theorem dL_law_471 : decode cL_law 471 = .ok (.iaload, 1) := by decide +kernel
theorem dL_law_472 : decode cL_law 472 = .ok (.invokevirtual 71, 3) := by decide +kernel
theorem dL_law_475 : decode cL_law 475 = .ok (.aload_n 2, 1) := by decide +kernel
theorem dL_law_476 : decode cL_law 476 = .ok (.aload_n 0, 1) := by decide +kernel
theorem dL_law_477 : decode cL_law 477 = .ok (.iload_n 3, 1) := by decide +kernel
theorem dL_law_478 : decode cL_law 478 = .ok (.iconst 1, 1) := by decide +kernel
theorem dL_law_479 : decode cL_law 479 = .ok (.iadd, 1) := by decide +kernel
theorem dL_law_480 : decode cL_law 480 = .ok (.iaload, 1) := by decide +kernel
theorem dL_law_481 : decode cL_law 481 = .ok (.aload_n 0, 1) := by decide +kernel
theorem dL_law_482 : decode cL_law 482 = .ok (.iload_n 3, 1) := by decide +kernel
theorem dL_law_483 : decode cL_law 483 = .ok (.iconst 2, 1) := by decide +kernel
theorem dL_law_484 : decode cL_law 484 = .ok (.iadd, 1) := by decide +kernel
theorem dL_law_485 : decode cL_law 485 = .ok (.iaload, 1) := by decide +kernel
theorem dL_law_486 : decode cL_law 486 = .ok (.invokevirtual 74, 3) := by decide +kernel
theorem dL_law_489 : decode cL_law 489 = .ok (.if_icmp .eq 81, 3) := by decide +kernel
theorem dL_law_492 : decode cL_law 492 = .ok (.iconst 0, 1) := by decide +kernel
theorem dL_law_493 : decode cL_law 493 = .ok (.ireturn, 1) := by decide +kernel
theorem dL_law_494 : decode cL_law 494 = .ok (.aload_n 1, 1) := by decide +kernel
theorem dL_law_495 : decode cL_law 495 = .ok (.aload_n 0, 1) := by decide +kernel
theorem dL_law_496 : decode cL_law 496 = .ok (.iload_n 3, 1) := by decide +kernel
theorem dL_law_497 : decode cL_law 497 = .ok (.iconst 1, 1) := by decide +kernel
theorem dL_law_498 : decode cL_law 498 = .ok (.iadd, 1) := by decide +kernel
theorem dL_law_499 : decode cL_law 499 = .ok (.iaload, 1) := by decide +kernel
theorem dL_law_500 : decode cL_law 500 = .ok (.aload_n 0, 1) := by decide +kernel
theorem dL_law_501 : decode cL_law 501 = .ok (.iload_n 3, 1) := by decide +kernel
theorem dL_law_502 : decode cL_law 502 = .ok (.iconst 2, 1) := by decide +kernel
theorem dL_law_503 : decode cL_law 503 = .ok (.iadd, 1) := by decide +kernel
theorem dL_law_504 : decode cL_law 504 = .ok (.iaload, 1) := by decide +kernel
theorem dL_law_505 : decode cL_law 505 = .ok (.aload_n 0, 1) := by decide +kernel
theorem dL_law_506 : decode cL_law 506 = .ok (.iload_n 3, 1) := by decide +kernel
theorem dL_law_507 : decode cL_law 507 = .ok (.iconst 3, 1) := by decide +kernel
theorem dL_law_508 : decode cL_law 508 = .ok (.iadd, 1) := by decide +kernel
theorem dL_law_509 : decode cL_law 509 = .ok (.iaload, 1) := by decide +kernel
theorem dL_law_510 : decode cL_law 510 = .ok (.invokevirtual 75, 3) := by decide +kernel
theorem dL_law_513 : decode cL_law 513 = .ok (.aload_n 2, 1) := by decide +kernel
theorem dL_law_514 : decode cL_law 514 = .ok (.aload_n 0, 1) := by decide +kernel
theorem dL_law_515 : decode cL_law 515 = .ok (.iload_n 3, 1) := by decide +kernel
theorem dL_law_516 : decode cL_law 516 = .ok (.iconst 1, 1) := by decide +kernel
theorem dL_law_517 : decode cL_law 517 = .ok (.iadd, 1) := by decide +kernel
theorem dL_law_518 : decode cL_law 518 = .ok (.iaload, 1) := by decide +kernel
theorem dL_law_519 : decode cL_law 519 = .ok (.aload_n 0, 1) := by decide +kernel
theorem dL_law_520 : decode cL_law 520 = .ok (.iload_n 3, 1) := by decide +kernel
theorem dL_law_521 : decode cL_law 521 = .ok (.iconst 2, 1) := by decide +kernel
theorem dL_law_522 : decode cL_law 522 = .ok (.iadd, 1) := by decide +kernel
theorem dL_law_523 : decode cL_law 523 = .ok (.iaload, 1) := by decide +kernel
theorem dL_law_524 : decode cL_law 524 = .ok (.aload_n 0, 1) := by decide +kernel
theorem dL_law_525 : decode cL_law 525 = .ok (.iload_n 3, 1) := by decide +kernel
theorem dL_law_526 : decode cL_law 526 = .ok (.iconst 3, 1) := by decide +kernel
theorem dL_law_527 : decode cL_law 527 = .ok (.iadd, 1) := by decide +kernel
theorem dL_law_528 : decode cL_law 528 = .ok (.iaload, 1) := by decide +kernel
theorem dL_law_529 : decode cL_law 529 = .ok (.invokevirtual 78, 3) := by decide +kernel
theorem dL_law_532 : decode cL_law 532 = .ok (.if_icmp .eq 38, 3) := by decide +kernel
theorem dL_law_535 : decode cL_law 535 = .ok (.iconst 0, 1) := by decide +kernel
theorem dL_law_536 : decode cL_law 536 = .ok (.ireturn, 1) := by decide +kernel
theorem dL_law_537 : decode cL_law 537 = .ok (.aload_n 1, 1) := by decide +kernel
theorem dL_law_538 : decode cL_law 538 = .ok (.aload_n 0, 1) := by decide +kernel
theorem dL_law_539 : decode cL_law 539 = .ok (.iload_n 3, 1) := by decide +kernel
theorem dL_law_540 : decode cL_law 540 = .ok (.iconst 1, 1) := by decide +kernel
theorem dL_law_541 : decode cL_law 541 = .ok (.iadd, 1) := by decide +kernel
theorem dL_law_542 : decode cL_law 542 = .ok (.iaload, 1) := by decide +kernel
theorem dL_law_543 : decode cL_law 543 = .ok (.aload_n 0, 1) := by decide +kernel
theorem dL_law_544 : decode cL_law 544 = .ok (.iload_n 3, 1) := by decide +kernel
theorem dL_law_545 : decode cL_law 545 = .ok (.iconst 2, 1) := by decide +kernel
theorem dL_law_546 : decode cL_law 546 = .ok (.iadd, 1) := by decide +kernel
theorem dL_law_547 : decode cL_law 547 = .ok (.iaload, 1) := by decide +kernel
theorem dL_law_548 : decode cL_law 548 = .ok (.invokevirtual 79, 3) := by decide +kernel
theorem dL_law_551 : decode cL_law 551 = .ok (.aload_n 2, 1) := by decide +kernel
theorem dL_law_552 : decode cL_law 552 = .ok (.aload_n 0, 1) := by decide +kernel
theorem dL_law_553 : decode cL_law 553 = .ok (.iload_n 3, 1) := by decide +kernel
theorem dL_law_554 : decode cL_law 554 = .ok (.iconst 1, 1) := by decide +kernel
theorem dL_law_555 : decode cL_law 555 = .ok (.iadd, 1) := by decide +kernel
theorem dL_law_556 : decode cL_law 556 = .ok (.iaload, 1) := by decide +kernel
theorem dL_law_557 : decode cL_law 557 = .ok (.aload_n 0, 1) := by decide +kernel
theorem dL_law_558 : decode cL_law 558 = .ok (.iload_n 3, 1) := by decide +kernel
theorem dL_law_559 : decode cL_law 559 = .ok (.iconst 2, 1) := by decide +kernel
theorem dL_law_560 : decode cL_law 560 = .ok (.iadd, 1) := by decide +kernel
theorem dL_law_561 : decode cL_law 561 = .ok (.iaload, 1) := by decide +kernel
theorem dL_law_562 : decode cL_law 562 = .ok (.invokevirtual 82, 3) := by decide +kernel
theorem dL_law_565 : decode cL_law 565 = .ok (.if_icmp .eq 5, 3) := by decide +kernel
theorem dL_law_568 : decode cL_law 568 = .ok (.iconst 0, 1) := by decide +kernel
theorem dL_law_569 : decode cL_law 569 = .ok (.ireturn, 1) := by decide +kernel
theorem dL_law_570 : decode cL_law 570 = .ok (.iinc 3 4, 3) := by decide +kernel
theorem dL_law_573 : decode cL_law 573 = .ok (.goto (-555), 3) := by decide +kernel
theorem dL_law_576 : decode cL_law 576 = .ok (.iconst 1, 1) := by decide +kernel
theorem dL_law_577 : decode cL_law 577 = .ok (.ireturn, 1) := by decide +kernel
end
section
/-! The heap as functions: what each address holds (T), its ints (I), its references (R), the next address, slots made. Operations are partial: none where the machine would throw. -/
abbrev hT : Type := Option (Nat ⊕ Nat × Nat)
abbrev hp : Type := (Nat → hT) × (Nat → Nat → Int32) × (Nat → Nat → Option Nat) × Nat × Nat
def up2 {α : Type} (f : Nat → Nat → α) (a k : Nat) (x : α) : Nat → Nat → α := fun b j => if b = a ∧ j = k then x else f b j
def sI (σ : hp) (I : Nat → Nat → Int32) : hp := (σ.1, I, σ.2.2)
def sR (σ : hp) (R : Nat → Nat → Option Nat) : hp := (σ.1, σ.2.1, R, σ.2.2.2)
def hp_new (σ : hp) (x : Nat ⊕ Nat × Nat) (n : Nat) : hp := (va_up σ.1 σ.2.2.2.1 (some x), va_up σ.2.1 σ.2.2.2.1 (fun _ => 0), va_up σ.2.2.1 σ.2.2.2.1 (fun _ => none), σ.2.2.2.1 + 1, σ.2.2.2.2 + n)
/-- what the heap holds: class table D, array classes dA, which slots of a class are references (rk); arrays of type 0 and 1 hold ints, others references -/
def hp_v (rk : Nat → Nat → Bool) (c : Nat) (σ : hp) (a k : Nat) : Value := if rk c k = true then va_rf (σ.2.2.1 a k) else .int (σ.2.1 a k)
def hp_c (dA : Nat → ClassId) (σ : hp) (a t n : Nat) : Cell := if t < 2 then vp_cell (dA t) (n, .inl (σ.2.1 a)) else vp_cell (dA t) (n, .inr (.inr (.inr (.inr (σ.2.2.1 a)))))
def hp_at (D : va_G) (dA : Nat → ClassId) (cl : List vw_C) (rk : Nat → Nat → Bool) (σ : hp) (a : Nat) (H : Heap) : Prop := match σ.1 a with
  | none => True
  | some (.inl c) => ∃ r : vw_C, cl[c]? = some r ∧ t_OB a (D.1 c) r.2.2 (D.2 c) H (hp_v rk c σ a)
  | some (.inr q) => H[a]? = some (hp_c dA σ a q.1 q.2)
def hp_w (D : va_G) (dA : Nat → ClassId) (cl : List vw_C) (rk : Nat → Nat → Bool) (base : Nat) (σ : hp) (H : Heap) : Prop :=
  H.size = σ.2.2.2.1 ∧ base ≤ σ.2.2.2.1 ∧ (∀ a, σ.1 a ≠ none → base ≤ a) ∧ ∀ a, hp_at D dA cl rk σ a H
-- operations
def o_gI (σ : hp) (c k : Nat) (r : Option Nat) : Option Int32 := match r with
  | none => none
  | some a => if σ.1 a = some (.inl c) then some (σ.2.1 a k) else none
def o_gR (σ : hp) (c k : Nat) (r : Option Nat) : Option (Option Nat) := match r with
  | none => none
  | some a => if σ.1 a = some (.inl c) then some (σ.2.2.1 a k) else none
def o_pI (σ : hp) (c k : Nat) (r : Option Nat) (x : Int32) : Option hp := match r with
  | none => none
  | some a => if σ.1 a = some (.inl c) then some (sI σ (up2 σ.2.1 a k x)) else none
def o_pR (σ : hp) (c k : Nat) (r : Option Nat) (x : Option Nat) : Option hp := match r with
  | none => none
  | some a => if σ.1 a = some (.inl c) then some (sR σ (up2 σ.2.2.1 a k x)) else none
/-- a boolean -/
def o_z (x : Int32) : Option Int32 := if x = 0 ∨ x = 1 then some x else none
/-- an array of type t: its length -/
def o_a (σ : hp) (t : Nat) (r : Option Nat) : Option (Nat × Nat) := match r with
  | none => none
  | some a => match σ.1 a with
    | some (.inr q) => if q.1 = t then some (a, q.2) else none
    | _ => none
def o_ix (n : Nat) (i : Int32) : Option Nat := if i < 0 ∨ n ≤ i.toNatClampNeg then none else some i.toNatClampNeg
def o_len (σ : hp) (t : Nat) (r : Option Nat) : Option Int32 := (o_a σ t r).bind fun q => some (Int32.ofNat q.2)
def o_ldI (σ : hp) (t : Nat) (r : Option Nat) (i : Int32) : Option Int32 := (o_a σ t r).bind fun q => (o_ix q.2 i).bind fun k => some (σ.2.1 q.1 k)
def o_stI (σ : hp) (t : Nat) (r : Option Nat) (i x : Int32) : Option hp := (o_a σ t r).bind fun q => (o_ix q.2 i).bind fun k => some (sI σ (up2 σ.2.1 q.1 k x))
def o_ldQ (σ : hp) (t : Nat) (r : Option Nat) (i : Int32) : Option (Option Nat) := (o_a σ t r).bind fun q => (o_ix q.2 i).bind fun k => some (σ.2.2.1 q.1 k)
def o_is (σ : hp) (c : Nat) (x : Option Nat) : Option Unit := match x with
  | none => none
  | some v => if σ.1 v = some (.inl c) then some () else none
def o_stQ (σ : hp) (t c : Nat) (r : Option Nat) (i : Int32) (x : Option Nat) : Option hp := (o_a σ t r).bind fun q => (o_ix q.2 i).bind fun k => (o_is σ c x).bind fun _ => some (sR σ (up2 σ.2.2.1 q.1 k x))
def o_na (σ : hp) (t : Nat) (n : Int32) : Option (Option Nat × hp) :=
  if n < 0 ∨ 100000 < n.toNatClampNeg then none else some (some σ.2.2.2.1, hp_new σ (.inr (t, n.toNatClampNeg)) n.toNatClampNeg)
def o_new (σ : hp) (c n : Nat) : Option (Option Nat × hp) := some (some σ.2.2.2.1, hp_new σ (.inl c) n)
def o_nz (x : Int32) : Option Unit := if x = 0 then none else some ()
def o_cpy (σ : hp) (t : Nat) (r : Option Nat) (sp : Int32) (r1 : Option Nat) (dp n : Int32) : Option hp :=
  (o_a σ t r).bind fun q => (o_a σ t r1).bind fun q1 => if ¬ sp < 0 ∧ ¬ dp < 0 ∧ ¬ n < 0 ∧ sp.toNatClampNeg + n.toNatClampNeg ≤ q.2 ∧ dp.toNatClampNeg + n.toNatClampNeg ≤ q1.2 then
    some (sI σ (va_up σ.2.1 q1.1 (va_cpy (σ.2.1 q.1) (σ.2.1 q1.1) sp.toNatClampNeg dp.toNatClampNeg n.toNatClampNeg))) else none
-- what an operation that went well says
theorem o_b {α β : Type} {o : Option α} {f : α → Option β} {z : β} (h : o.bind f = some z) : ∃ x, o = some x ∧ f x = some z := Option.bind_eq_some_iff.mp h
theorem o_gI_s {σ : hp} {c k : Nat} {r : Option Nat} {x : Int32} (h : o_gI σ c k r = some x) : ∃ a, r = some a ∧ σ.1 a = some (.inl c) ∧ σ.2.1 a k = x := by
  cases r with
  | none => cases h
  | some a =>
    unfold o_gI at h
    dsimp only at h
    split at h
    · exact ⟨a, rfl, by assumption, Option.some.inj h⟩
    · cases h
theorem o_gR_s {σ : hp} {c k : Nat} {r x : Option Nat} (h : o_gR σ c k r = some x) : ∃ a, r = some a ∧ σ.1 a = some (.inl c) ∧ σ.2.2.1 a k = x := by
  cases r with
  | none => cases h
  | some a =>
    unfold o_gR at h
    dsimp only at h
    split at h
    · exact ⟨a, rfl, by assumption, Option.some.inj h⟩
    · cases h
theorem o_pI_s {σ σ1 : hp} {c k : Nat} {r : Option Nat} {x : Int32} (h : o_pI σ c k r x = some σ1) : ∃ a, r = some a ∧ σ.1 a = some (.inl c) ∧ σ1 = sI σ (up2 σ.2.1 a k x) := by
  cases r with
  | none => cases h
  | some a =>
    unfold o_pI at h
    dsimp only at h
    split at h
    · exact ⟨a, rfl, by assumption, (Option.some.inj h).symm⟩
    · cases h
theorem o_pR_s {σ σ1 : hp} {c k : Nat} {r x : Option Nat} (h : o_pR σ c k r x = some σ1) : ∃ a, r = some a ∧ σ.1 a = some (.inl c) ∧ σ1 = sR σ (up2 σ.2.2.1 a k x) := by
  cases r with
  | none => cases h
  | some a =>
    unfold o_pR at h
    dsimp only at h
    split at h
    · exact ⟨a, rfl, by assumption, (Option.some.inj h).symm⟩
    · cases h
theorem o_a_s {σ : hp} {t : Nat} {r : Option Nat} {q : Nat × Nat} (h : o_a σ t r = some q) : r = some q.1 ∧ σ.1 q.1 = some (.inr (t, q.2)) := by
  cases r with
  | none => cases h
  | some a =>
    unfold o_a at h
    dsimp only at h
    split at h
    · rename_i q0 hq
      split at h
      · rename_i ht
        cases h
        exact ⟨rfl, by rw [hq, ← ht]⟩
      · cases h
    · cases h
theorem o_ix_s {n : Nat} {i : Int32} {k : Nat} (h : o_ix n i = some k) : vp_in i n ∧ k = i.toNatClampNeg := by
  unfold o_ix at h
  split at h
  · cases h
  · rename_i hc
    exact ⟨hc, (Option.some.inj h).symm⟩
theorem o_z_s {x y : Int32} (h : o_z x = some y) : y = x ∧ (x = 0 ∨ x = 1) := by
  unfold o_z at h
  split at h
  · rename_i hc
    cases h
    exact ⟨rfl, hc⟩
  · cases h
theorem o_is_s {σ : hp} {c : Nat} {x : Option Nat} {z : Unit} (h : o_is σ c x = some z) : ∃ v, x = some v ∧ σ.1 v = some (.inl c) := by
  cases x with
  | none => cases h
  | some a =>
    unfold o_is at h
    dsimp only at h
    split at h
    · exact ⟨a, rfl, by assumption⟩
    · cases h
theorem o_na_s {σ : hp} {t : Nat} {n : Int32} {z : Option Nat × hp} (h : o_na σ t n = some z) : ¬ n < 0 ∧ n.toNatClampNeg ≤ 100000 ∧ z = (some σ.2.2.2.1, hp_new σ (.inr (t, n.toNatClampNeg)) n.toNatClampNeg) := by
  unfold o_na at h
  split at h
  · cases h
  · rename_i hc
    exact ⟨fun q => hc (Or.inl q), Nat.not_lt.mp fun q => hc (Or.inr q), (Option.some.inj h).symm⟩
theorem o_nz_s {x : Int32} {z : Unit} (h : o_nz x = some z) : ¬ x = 0 := by
  unfold o_nz at h
  split at h
  · cases h
  · assumption
section HPW
variable {D : va_G} {dA : Nat → ClassId} {cl : List vw_C} {rk : Nat → Nat → Bool} {base : Nat} {σ σ1 : hp} {H H1 : Heap} {a : Nat}
theorem hp_at.obj (h : hp_at D dA cl rk σ a H) {c : Nat} (hx : σ.1 a = some (.inl c)) : ∃ r : vw_C, cl[c]? = some r ∧ t_OB a (D.1 c) r.2.2 (D.2 c) H (hp_v rk c σ a) := by
  unfold hp_at at h
  rw [hx] at h
  exact h
theorem hp_at.arr (h : hp_at D dA cl rk σ a H) {t n : Nat} (hx : σ.1 a = some (.inr (t, n))) : H[a]? = some (hp_c dA σ a t n) := by
  unfold hp_at at h
  rw [hx] at h
  exact h
theorem hp_at.lt (h : hp_at D dA cl rk σ a H) (hx : σ.1 a ≠ none) : a < H.size := by
  unfold hp_at at h
  split at h
  · rename_i q
    exact absurd q hx
  · obtain ⟨r, -, cell, h2, -⟩ := h
    exact (Array.getElem?_eq_some_iff.mp h2).1
  · exact (Array.getElem?_eq_some_iff.mp h).1
theorem hp_at.kept (h : hp_at D dA cl rk σ a H) (hq : σ.1 a ≠ none → H1[a]? = H[a]?) (h1 : σ1.1 a = σ.1 a) (h2 : σ1.2.1 a = σ.2.1 a) (h3 : σ1.2.2.1 a = σ.2.2.1 a) : hp_at D dA cl rk σ1 a H1 := by
  unfold hp_at at h ⊢
  rw [h1]
  split
  · trivial
  · rename_i c hc
    rw [hc] at h hq
    obtain ⟨r, g1, g2⟩ := h
    exact ⟨r, g1, (g2.kept (hq (by simp))).to (fun k _ => by unfold hp_v; rw [h2, h3])⟩
  · rename_i q hc
    rw [hc] at h hq
    rw [hq (by simp)]
    refine Eq.trans h ?_
    unfold hp_c
    rw [h2, h3]
/-- one cell changes -/
theorem hp_w.chg (h : hp_w D dA cl rk base σ H) (hz : H1.size = H.size) (oq : ∀ q : Nat, q ≠ a → H1[q]? = H[q]?) (h1 : σ1.1 = σ.1) (h2 : ∀ b, b ≠ a → σ1.2.1 b = σ.2.1 b) (h3 : ∀ b, b ≠ a → σ1.2.2.1 b = σ.2.2.1 b) (h4 : σ1.2.2.2 = σ.2.2.2) (ha : hp_at D dA cl rk σ1 a H1) : hp_w D dA cl rk base σ1 H1 := by
  refine ⟨by rw [hz, h4]; exact h.1, by rw [h4]; exact h.2.1, fun b hb => h.2.2.1 b (by rw [← h1]; exact hb), fun b => ?_⟩
  by_cases hba : b = a
  · subst hba
    exact ha
  · exact (h.2.2.2 b).kept (fun _ => oq b hba) (by rw [h1]) (h2 b hba) (h3 b hba)
/-- one cell more -/
theorem hp_w.new (h : hp_w D dA cl rk base σ H) {x : Nat ⊕ Nat × Nat} {n : Nat} (hz : H1.size = H.size + 1) (oq : ∀ q : Nat, q < H.size → H1[q]? = H[q]?) (ha : hp_at D dA cl rk (hp_new σ x n) H.size H1) : hp_w D dA cl rk base (hp_new σ x n) H1 := by
  have h1 := h.1
  refine ⟨by rw [hz, h1]; rfl, Nat.le_succ_of_le h.2.1, fun b hb => ?_, fun b => ?_⟩
  · by_cases hba : b = σ.2.2.2.1
    · rw [hba]; exact h.2.1
    · exact h.2.2.1 b (fun q => hb ((va_up_ne _ _ hba).trans q))
  · by_cases hba : b = σ.2.2.2.1
    · rw [hba, ← h1]; exact ha
    · exact (h.2.2.2 b).kept (fun q => oq b ((h.2.2.2 b).lt q)) (va_up_ne _ _ hba) (va_up_ne _ _ hba) (va_up_ne _ _ hba)
theorem up2_ne {α : Type} {f : Nat → Nat → α} {a k b : Nat} {x : α} (h : b ≠ a) : up2 f a k x b = f b := by
  funext j
  simp [up2, h]
theorem up2_at {α : Type} {f : Nat → Nat → α} {a k j : Nat} {x : α} : up2 f a k x a j = if j = k then x else f a j := by
  simp [up2]
end HPW
end
section
/-! A row an instruction, over the heap as functions. -/
def rkX (c k : Nat) : Bool := (([[0,3], [0], [1], [0], [0], [1,2,3,4], [0], [0,1], [0,1,2], [0,1,2,3,4,5,6,7,8,9,10,12,13,14,15,17,18,19,20,21,22,23,24,25,26,27,28,29,30,31,32,33,34,35,36]] : List (List Nat)).getD c []).contains k
abbrev TY (dA : Nat → ClassId) : List (ClassId × FieldType) := [(dA 0, .int), (dA 1, .boolean), (dA 2, .object "SpoolLink$Wire"), (dA 3, .object "SpoolLink$Packet"), (dA 4, .object "SpoolLink$Site"), (dA 5, .object "SpoolLink$Job"), (dA 6, .object "SpoolLink$Message")]
def aoL : List String := ["SpoolLink$Wire", "SpoolLink$Packet", "SpoolLink$Site", "SpoolLink$Job", "SpoolLink$Message"]
abbrev nw0 : Cond := .methodLinkNest "SpoolLink$Site" 11 yX0_init "SpoolLink"
abbrev nw1 : Cond := .methodLinkNest "SpoolLink$Site" 27 yX1_init "SpoolLink"
abbrev nw2 : Cond := .methodLinkNest "SpoolLink$Window" 28 yX3_init "SpoolLink"
abbrev nw3 : Cond := .methodLinkNest "SpoolLink$Wire" 9 yX4_init "SpoolLink"
abbrev nw4 : Cond := .fieldLinkNest "SpoolLink$Site" 178 "SpoolLink$Intake" "taking" "Z" "SpoolLink"
def NW (U : State) : Prop := va_Nw nw0 U ∧ va_Nw nw1 U ∧ va_Nw nw2 U ∧ va_Nw nw3 U ∧ va_Nw nw4 U
def KK (D : va_G) (dA : Nat → ClassId) (U : State) : Prop := va_K D vwCl (TY dA) U ∧ (∀ C ∈ aoL, va_AO C U) ∧ NW U
theorem KK.warm {D : va_G} {dA : Nat → ClassId} {s U : State} (hW : s.WarmedH U.vm) (h : KK D dA s) : KK D dA U :=
  ⟨h.1.moved hW.alike, fun C hC => (h.2.1 C hC).moved hW.alike, h.2.2.1.warmM hW, h.2.2.2.1.warmM hW, h.2.2.2.2.1.warmM hW, h.2.2.2.2.2.1.warmM hW, h.2.2.2.2.2.2.warmF hW⟩
theorem KK.calling {D : va_G} {dA : Nat → ClassId} {U : State} {g : JFrame} {mk : MethodId} {a : Array Value} (h : KK D dA U) : KK D dA (U.calling g mk a) :=
  ⟨va_K.moved (u := U) (U := U.calling g mk a) (Vm.Alike.refl U.vm) h.1, fun C hC => va_AO.moved (u := U) (U := U.calling g mk a) (Vm.Alike.refl U.vm) (h.2.1 C hC), va_Nw.same rfl (u := U) rfl h.2.2.1, va_Nw.same rfl (u := U) rfl h.2.2.2.1, va_Nw.same rfl (u := U) rfl h.2.2.2.2.1, va_Nw.same rfl (u := U) rfl h.2.2.2.2.2.1, va_Nw.same rfl (u := U) rfl h.2.2.2.2.2.2⟩
abbrev hw (D : va_G) (dA : Nat → ClassId) (base : Nat) (σ : hp) (H : Heap) : Prop := hp_w D dA vwCl rkX base σ H
abbrev hs (base : Nat) (H0 H : Heap) (locs : List Loc) : Prop := va_S (fun q => base ≤ q) H0 H locs
/-- what is fixed in a method's body -/
def cx (p : Program) (s : State) (m : MethodId) (args : Array Value) (c : Code) (cc : ByteArray) (own : String) (nL : Nat) (D : va_G) (dA : Nat → ClassId) : Prop :=
  p.tables.exec = Jvm.exec ∧ c.code = cc ∧ s.vm.findClass own = some m.cls ∧ c.maxLocals = nL ∧ (∀ w ∈ G, w.before args s = true) ∧ KK D dA s
-- locals
abbrev vk : Type := Int32 ⊕ Option Nat
def vv (x : vk) : Value := match x with
  | .inl i => .int i
  | .inr r => va_rf r
theorem vv_cat (x : vk) : (vv x).category = 1 := by
  cases x with
  | inl i => rfl
  | inr r => cases r <;> rfl
def lkm (q : Nat × vk) : Nat × Value := (q.1, vv q.2)
def lk (ls : Array Slot) (n : Nat) (l : List (Nat × vk)) : Prop := lv_has ls n (l.map lkm)
theorem lk_at {ls : Array Slot} {n : Nat} {l : List (Nat × vk)} (h : lk ls n l) (k : Nat) {i : Nat} {x : vk} (hk : l[k]? = some (i, x)) : ls[i]? = some (.val (vv x)) := lv_at h k (by rw [List.getElem?_map, hk]; rfl)
theorem lk_sub {ls : Array Slot} {n : Nat} {l l' : List (Nat × vk)} (h : lk ls n l) (ks : List Nat) (hl : ks.filterMap (fun k => l[k]?) = l') : lk ls n l' := by
  refine ⟨h.1, h.2.1, fun q hq => ?_⟩
  obtain ⟨q0, h0, rfl⟩ := List.mem_map.mp hq
  rw [← hl] at h0
  obtain ⟨k, -, hk⟩ := List.mem_filterMap.mp h0
  exact lk_at h k hk
theorem lk_put {ls : Array Slot} {n i : Nat} {x : vk} {l l' : List (Nat × vk)} (h : lv_has ls n ((i, vv x) :: (l.map lkm).filter (fun q => !(q.1 == i) && !(q.1 + 1 == i && q.2.category == 2)))) (hl : (i, x) :: l.filter (fun q => !(q.1 == i)) = l') : lk ls n l' := by
  subst hl
  unfold lk
  rw [List.map_cons, show (l.filter (fun q => !(q.1 == i))).map lkm = (l.map lkm).filter (fun q => !(q.1 == i) && !(q.1 + 1 == i && q.2.category == 2)) from ?_]
  · exact h
  · rw [List.filter_map]
    congr 1
    apply List.filter_congr
    intro q _
    simp [lkm, vv_cat]
section RW
variable {p : Program} {l : Launch} {e : Env} {R : Room} {s : State} {m : MethodId} {args : Array Value} {below : List Frame} {meth : Method} {c : Code} {H : Heap} {locs : List Loc} {cells slots : Nat} {Q : State → Prop}
variable {cc : ByteArray} {pc : Nat} {ls : Array Slot} {rest : List Value} {D : va_G} {dA : Nat → ClassId} {base nL : Nat} {σ σ1 : hp} {H0 : Heap} {own : String} {lv lv' : List (Nat × vk)}
theorem q_iload_n (X : cx p s m args c cc own nL D dA) {k : Fin 4} {i : Nat} {x : Int32} (hdg : decode cc pc = .ok (.iload_n k, 1)) (hi : (k : Nat) = i) (h : lk ls nL lv) (j : Nat) (hj : lv[j]? = some (i, .inl x))
    (kk : W p l e R s m args below meth c H locs cells slots Q (F0 m (pc + 1) ls (.int x :: rest))) : W p l e R s m args below meth c H locs cells slots Q (F0 m pc ls rest) := lv_iload_n X.1 X.2.1 hdg hi (lk_at h j hj) kk
theorem q_iload (X : cx p s m args c cc own nL D dA) {i : Nat} {x : Int32} (hdg : decode cc pc = .ok (.iload i, 2)) (h : lk ls nL lv) (j : Nat) (hj : lv[j]? = some (i, .inl x))
    (kk : W p l e R s m args below meth c H locs cells slots Q (F0 m (pc + 2) ls (.int x :: rest))) : W p l e R s m args below meth c H locs cells slots Q (F0 m pc ls rest) := lv_iload X.1 X.2.1 hdg (lk_at h j hj) kk
theorem q_aload_n (X : cx p s m args c cc own nL D dA) {k : Fin 4} {i : Nat} {x : Option Nat} (hdg : decode cc pc = .ok (.aload_n k, 1)) (hi : (k : Nat) = i) (h : lk ls nL lv) (j : Nat) (hj : lv[j]? = some (i, .inr x))
    (kk : W p l e R s m args below meth c H locs cells slots Q (F0 m (pc + 1) ls (va_rf x :: rest))) : W p l e R s m args below meth c H locs cells slots Q (F0 m pc ls rest) := by
  have h1 := lk_at h j hj
  cases x with
  | none => exact lv_aload_nN X.1 X.2.1 hdg hi h1 kk
  | some a => exact lv_aload_n X.1 X.2.1 hdg hi h1 kk
theorem q_aload (X : cx p s m args c cc own nL D dA) {i : Nat} {x : Option Nat} (hdg : decode cc pc = .ok (.aload i, 2)) (h : lk ls nL lv) (j : Nat) (hj : lv[j]? = some (i, .inr x))
    (kk : W p l e R s m args below meth c H locs cells slots Q (F0 m (pc + 2) ls (va_rf x :: rest))) : W p l e R s m args below meth c H locs cells slots Q (F0 m pc ls rest) := by
  have h1 := lk_at h j hj
  cases x with
  | none => exact lv_aloadN X.1 X.2.1 hdg h1 kk
  | some a => exact lv_aload X.1 X.2.1 hdg h1 kk
theorem q_istore_n (X : cx p s m args c cc own nL D dA) {k : Fin 4} {i : Nat} {x : Int32} (hdg : decode cc pc = .ok (.istore_n k, 1)) (hi : (k : Nat) = i) (h : lk ls nL lv) (hn : i < nL) (hl : (i, .inl x) :: lv.filter (fun q => !(q.1 == i)) = lv')
    (kk : ∀ ls' : Array Slot, lk ls' nL lv' → W p l e R s m args below meth c H locs cells slots Q (F0 m (pc + 1) ls' rest)) : W p l e R s m args below meth c H locs cells slots Q (F0 m pc ls (.int x :: rest)) :=
  lv_istore_n X.1 X.2.1 hdg hi h hn rfl fun ls' h' => kk ls' (lk_put (x := .inl x) h' hl)
theorem q_istore (X : cx p s m args c cc own nL D dA) {i : Nat} {x : Int32} (hdg : decode cc pc = .ok (.istore i, 2)) (h : lk ls nL lv) (hn : i < nL) (hl : (i, .inl x) :: lv.filter (fun q => !(q.1 == i)) = lv')
    (kk : ∀ ls' : Array Slot, lk ls' nL lv' → W p l e R s m args below meth c H locs cells slots Q (F0 m (pc + 2) ls' rest)) : W p l e R s m args below meth c H locs cells slots Q (F0 m pc ls (.int x :: rest)) :=
  lv_istore X.1 X.2.1 hdg h hn rfl fun ls' h' => kk ls' (lk_put (x := .inl x) h' hl)
theorem q_astore_n (X : cx p s m args c cc own nL D dA) {k : Fin 4} {i : Nat} {x : Option Nat} (hdg : decode cc pc = .ok (.astore_n k, 1)) (hi : (k : Nat) = i) (h : lk ls nL lv) (hn : i < nL) (hl : (i, .inr x) :: lv.filter (fun q => !(q.1 == i)) = lv')
    (kk : ∀ ls' : Array Slot, lk ls' nL lv' → W p l e R s m args below meth c H locs cells slots Q (F0 m (pc + 1) ls' rest)) : W p l e R s m args below meth c H locs cells slots Q (F0 m pc ls (va_rf x :: rest)) := by
  cases x with
  | none => exact lv_astore_nN X.1 X.2.1 hdg hi h hn rfl fun ls' h' => kk ls' (lk_put (x := .inr none) h' hl)
  | some a => exact lv_astore_n X.1 X.2.1 hdg hi h hn rfl fun ls' h' => kk ls' (lk_put (x := .inr (some a)) h' hl)
theorem q_astore (X : cx p s m args c cc own nL D dA) {i : Nat} {x : Option Nat} (hdg : decode cc pc = .ok (.astore i, 2)) (h : lk ls nL lv) (hn : i < nL) (hl : (i, .inr x) :: lv.filter (fun q => !(q.1 == i)) = lv')
    (kk : ∀ ls' : Array Slot, lk ls' nL lv' → W p l e R s m args below meth c H locs cells slots Q (F0 m (pc + 2) ls' rest)) : W p l e R s m args below meth c H locs cells slots Q (F0 m pc ls (va_rf x :: rest)) := by
  cases x with
  | none => exact lv_astoreN X.1 X.2.1 hdg h hn rfl fun ls' h' => kk ls' (lk_put (x := .inr none) h' hl)
  | some a => exact lv_astore X.1 X.2.1 hdg h hn rfl fun ls' h' => kk ls' (lk_put (x := .inr (some a)) h' hl)
theorem q_iinc (X : cx p s m args c cc own nL D dA) {i : Nat} {n : Int} {x v : Int32} (hdg : decode cc pc = .ok (.iinc i n, 3)) (h : lk ls nL lv) (j : Nat) (hj : lv[j]? = some (i, .inl x)) (hv : Int32.ofInt n = v) (hn : i < nL) (hl : (i, .inl (x + v)) :: lv.filter (fun q => !(q.1 == i)) = lv')
    (kk : ∀ ls' : Array Slot, lk ls' nL lv' → W p l e R s m args below meth c H locs cells slots Q (F0 m (pc + 3) ls' rest)) : W p l e R s m args below meth c H locs cells slots Q (F0 m pc ls rest) :=
  lv_iinc (k := j) (x := x) X.1 X.2.1 hdg h (by rw [List.getElem?_map, hj]; rfl) (by rw [hv]) hn rfl fun ls' h' => kk ls' (lk_put (x := .inl (x + v)) h' hl)
theorem q_ifnull (X : cx p s m args c cc own nL D dA) {r : Option Nat} {off : Int} {tgt : Nat} (hdg : decode cc pc = .ok (.ifnull off, 3)) (ht : (pc : Int) + off = (tgt : Int)) (kt : r = none → W p l e R s m args below meth c H locs cells slots Q (F0 m tgt ls rest)) (kf : ¬ r = none → W p l e R s m args below meth c H locs cells slots Q (F0 m (pc + 3) ls rest)) : W p l e R s m args below meth c H locs cells slots Q (F0 m pc ls (va_rf r :: rest)) := by
  cases r with
  | none => exact lv_ifnullN X.1 X.2.1 hdg ht (kt rfl)
  | some a => exact lv_ifnull X.1 X.2.1 hdg (kf (by simp))
theorem q_ifnonnull (X : cx p s m args c cc own nL D dA) {r : Option Nat} {off : Int} {tgt : Nat} (hdg : decode cc pc = .ok (.ifnonnull off, 3)) (ht : (pc : Int) + off = (tgt : Int)) (kt : ¬ r = none → W p l e R s m args below meth c H locs cells slots Q (F0 m tgt ls rest)) (kf : r = none → W p l e R s m args below meth c H locs cells slots Q (F0 m (pc + 3) ls rest)) : W p l e R s m args below meth c H locs cells slots Q (F0 m pc ls (va_rf r :: rest)) := by
  cases r with
  | none => exact lv_ifnonnullN X.1 X.2.1 hdg (kf rfl)
  | some a => exact lv_ifnonnull X.1 X.2.1 hdg ht (kt (by simp))
-- fields
def f_A (own : String) (ix cN k : Nat) : Prop := ∃ (C : String) (T : u_T) (N : Nat), vwCl[cN]? = some (C, T, N) ∧ k < N ∧ (∀ w ∈ u_ws C T N, w ∈ G) ∧ Cond.fieldLink own ix (T k).1 (T k).2.1 (T k).2.2.1 ∈ G
def f_P (own : String) (ix cN k : Nat) (ty : FieldType) (fin : Bool) : Prop := ∃ (C : String) (T : u_T) (N : Nat) (ty0 : Nat → FieldType), vwCl[cN]? = some (C, T, N) ∧ k < N ∧ (∀ w ∈ u_ws C T N, w ∈ G) ∧ Cond.fieldLink own ix (T k).1 (T k).2.1 (T k).2.2.1 ∈ G ∧ (∀ k, k < N → parseFieldDescriptor (T k).2.2.1 = some (ty0 k)) ∧ (∀ a, a < N → ∀ b, b < N → a ≠ b → (T a).2.1 ≠ (T b).2.1) ∧ (T k).2.2.2 = fin ∧ (fin = true → (T k).1 = own) ∧ parseFieldDescriptor (T k).2.2.1 = some ty
theorem q_get (X : cx p s m args c cc own nL D dA) (hh : hw D dA base σ H) {ix cN k a : Nat} (hF : f_A own ix cN k) (ha : σ.1 a = some (.inl cN)) (hdg : decode cc pc = .ok (.getfield ix, 3)) (kk : W p l e R s m args below meth c H locs cells slots Q (F0 m (pc + 3) ls (hp_v rkX cN σ a k :: rest))) : W p l e R s m args below meth c H locs cells slots Q (F0 m pc ls (.ref a :: rest)) := by
  obtain ⟨hx, hb, hown, -, hts, hK, -⟩ := X
  obtain ⟨C, T, N, hc, hk, hin, hl⟩ := hF
  obtain ⟨r, h1, cell, q1, q2, q3, q4⟩ := (hh.2.2.2 a).obj ha
  have hr : r = (C, T, N) := Option.some.inj (h1.symm.trans hc)
  subst hr
  obtain ⟨hS, hfc, kC, hkC, hkind⟩ := hK.1 cN _ hc
  obtain ⟨cf, kf, fi, f, hi, hsl⟩ := hS k hk
  refine W.getf hx hb hown (hts _ hl) hi (u_facts hfc hkC (u_lays hts hin hk) hi).1 q1 (by rw [q3]; exact fun h => by cases h) (v := hp_v rkX cN σ a k) ?_ rfl rfl hdg kk
  rw [hsl, q4 k hk]
theorem q_gI (X : cx p s m args c cc own nL D dA) (hh : hw D dA base σ H) {ix cN k : Nat} (hF : f_A own ix cN k) (hk : rkX cN k = false) {r : Option Nat} {x : Int32} (h : o_gI σ cN k r = some x) (hdg : decode cc pc = .ok (.getfield ix, 3)) (kk : W p l e R s m args below meth c H locs cells slots Q (F0 m (pc + 3) ls (.int x :: rest))) : W p l e R s m args below meth c H locs cells slots Q (F0 m pc ls (va_rf r :: rest)) := by
  obtain ⟨a, rfl, ha, rfl⟩ := o_gI_s h
  refine q_get X hh hF ha hdg ?_
  rw [show hp_v rkX cN σ a k = .int (σ.2.1 a k) by unfold hp_v; rw [if_neg (by rw [hk]; decide)]]
  exact kk
theorem q_gR (X : cx p s m args c cc own nL D dA) (hh : hw D dA base σ H) {ix cN k : Nat} (hF : f_A own ix cN k) (hk : rkX cN k = true) {r x : Option Nat} (h : o_gR σ cN k r = some x) (hdg : decode cc pc = .ok (.getfield ix, 3)) (kk : W p l e R s m args below meth c H locs cells slots Q (F0 m (pc + 3) ls (va_rf x :: rest))) : W p l e R s m args below meth c H locs cells slots Q (F0 m pc ls (va_rf r :: rest)) := by
  obtain ⟨a, rfl, ha, rfl⟩ := o_gR_s h
  refine q_get X hh hF ha hdg ?_
  rw [show hp_v rkX cN σ a k = va_rf (σ.2.2.1 a k) by unfold hp_v; rw [if_pos hk]]
  exact kk
/-- Intake.taking, read by Site -/
theorem q_gIN (X : cx p s m args c cc "SpoolLink$Site" nL D dA) (hh : hw D dA base σ H) {r : Option Nat} {x : Int32} (h : o_gI σ 1 1 r = some x) (hdg : decode cc pc = .ok (.getfield 178, 3)) (kk : W p l e R s m args below meth c H locs cells slots Q (F0 m (pc + 3) ls (.int x :: rest))) : W p l e R s m args below meth c H locs cells slots Q (F0 m pc ls (va_rf r :: rest)) := by
  obtain ⟨a, rfl, ha, rfl⟩ := o_gI_s h
  obtain ⟨hx, hb, hown, -, hts, hK, -, hN⟩ := X
  obtain ⟨r, h1, cell, q1, q2, q3, q4⟩ := (hh.2.2.2 a).obj ha
  have hr : r = (RX1, TX1, 5) := Option.some.inj (h1.symm.trans rfl)
  subst hr
  obtain ⟨hS, hfc, kC, hkC, hkind⟩ := hK.1 1 _ rfl
  obtain ⟨cf, kf, fi, f, hi, hsl⟩ := hS 1 (by decide)
  refine va_Wgetf hx hb hown (va_Nw.use rfl hN.2.2.2.2) hi (u_facts hfc hkC (u_lays hts inX1 (by decide)) hi).1 q1 (by rw [q3]; exact fun h => by cases h) (v := .int (σ.2.1 a 1)) ?_ rfl rfl hdg kk
  rw [hsl, q4 1 (by decide)]
  rfl
theorem q_put (X : cx p s m args c cc own nL D dA) (hh : hw D dA base σ H) (hS0 : hs base H0 H locs) {ix cN k a : Nat} {ty : FieldType} {fin : Bool} (hF : f_P own ix cN k ty fin) (hm : fin = true → meth.name = "<init>") (ha : σ.1 a = some (.inl cN)) {v : Value} (hn : narrow ty v = v) (hfit : fits ty v = true)
    (h1 : σ1.1 = σ.1) (h2 : ∀ b, b ≠ a → σ1.2.1 b = σ.2.1 b) (h3 : ∀ b, b ≠ a → σ1.2.2.1 b = σ.2.2.1 b) (h4 : σ1.2.2.2 = σ.2.2.2) (h5 : ∀ j, updV (hp_v rkX cN σ a) k v j = hp_v rkX cN σ1 a j)
    (hdg : decode cc pc = .ok (.putfield ix, 3)) (kk : ∀ (H1 : Heap) (locs1 : List Loc), hw D dA base σ1 H1 → hs base H0 H1 locs1 → W p l e R s m args below meth c H1 locs1 cells slots Q (F0 m (pc + 3) ls rest)) : W p l e R s m args below meth c H locs cells slots Q (F0 m pc ls (v :: .ref a :: rest)) := by
  obtain ⟨hx, hb, hown, -, hts, hK, -⟩ := X
  obtain ⟨C, T, N, ty0, hc, hk, hin, hl, hty, hnm, hfin, hdecl, hd⟩ := hF
  have hap := va_apart (own := own) hts hin ty0 hty hnm hK hc
  obtain ⟨r, g1, cell, q1, q2, q3, q4⟩ := (hh.2.2.2 a).obj ha
  have hr : r = (C, T, N) := Option.some.inj (g1.symm.trans hc)
  subst hr
  obtain ⟨hS, hfc, kC, hkC, hkind⟩ := hK.1 cN _ hc
  obtain ⟨cf, kf, fi, f, hi, hsl⟩ := hS k hk
  have hlay := hts _ (hin _ (u_in_lay hk))
  unfold u_lay at hlay
  have hst := (u_facts hfc hkC (u_lays hts hin hk) hi).1
  have key : ∀ H' : Heap, H'[a]? = some (cell.setSlot f.slot v) → H'.size = H.size → (∀ q, q ≠ a → H'[q]? = H[q]?) → W p l e R s m args below meth c H' (locs ++ [⟨a, f.slot⟩]) cells slots Q (F0 m (pc + 3) ls rest) := by
    intro H' e1 e2 e3
    rw [hsl] at e1 ⊢
    refine kk H' _ (hh.chg e2 e3 h1 h2 h3 h4 ?_) (hS0.put e2 e3 (hh.2.2.1 a (by rw [ha]; simp)))
    unfold hp_at
    rw [h1, ha]
    exact ⟨_, hc, t_OB.to (V := updV (hp_v rkX cN σ a) k v) ⟨_, e1, q2, q3, t_set q4 hap hk v⟩ (fun j _ => h5 j)⟩
  cases fin with
  | false =>
    rw [if_neg (by rw [hfin]; decide)] at hlay
    have h6 := u_store hfc hkC hkind hlay hi hd hn hfit
    exact W.putK hx hb (f := f) ⟨hown, hts _ hl, ⟨_, _, _, hi⟩, hst⟩ (by rw [q2]; exact h6) q1 q3 (by rw [hsl]; exact k2_hasslot (q4 k hk)) rfl rfl hdg key
  | true =>
    rw [if_pos hfin] at hlay
    have hcf : m.cls = cf := by
      obtain ⟨_, _, c', _, _, _, -, -, hf', -, -, -, hown2, -⟩ := Cond.laysFinal_spec hlay
      have e1 : c' = cf := by have := hi.symm.trans hf'; simp at this; exact this.1.symm
      rw [hdecl rfl] at hown2
      rw [← e1]; exact Option.some.inj (hown.symm.trans hown2)
    have h6 := u_fits hfc hkC hkind (Or.inr hlay) hi hd hn hfit
    exact W.putFinK hx hb hown (hts _ hl) hi hst hcf (hm rfl) (by rw [q2]; exact h6) q1 q3 (by rw [hsl]; exact k2_hasslot (q4 k hk)) rfl rfl hdg key
theorem hpv_I {cN k a : Nat} {x : Int32} (hk : rkX cN k = false) (j : Nat) : updV (hp_v rkX cN σ a) k (.int x) j = hp_v rkX cN (sI σ (up2 σ.2.1 a k x)) a j := by
  unfold updV hp_v sI
  by_cases hj : j = k
  · subst hj
    simp [hk, up2]
  · simp [hj, up2]
theorem hpv_R {cN k a : Nat} {x : Option Nat} (hk : rkX cN k = true) (j : Nat) : updV (hp_v rkX cN σ a) k (va_rf x) j = hp_v rkX cN (sR σ (up2 σ.2.2.1 a k x)) a j := by
  unfold updV hp_v sR
  by_cases hj : j = k
  · subst hj
    simp [hk, up2]
  · simp [hj, up2]
theorem q_pI (X : cx p s m args c cc own nL D dA) (hh : hw D dA base σ H) (hS : hs base H0 H locs) {ix cN k : Nat} {fin : Bool} (hF : f_P own ix cN k .int fin) (hm : fin = true → meth.name = "<init>") (hk : rkX cN k = false) {r : Option Nat} {x : Int32} (h : o_pI σ cN k r x = some σ1)
    (hdg : decode cc pc = .ok (.putfield ix, 3)) (kk : ∀ (H1 : Heap) (locs1 : List Loc), hw D dA base σ1 H1 → hs base H0 H1 locs1 → W p l e R s m args below meth c H1 locs1 cells slots Q (F0 m (pc + 3) ls rest)) : W p l e R s m args below meth c H locs cells slots Q (F0 m pc ls (.int x :: va_rf r :: rest)) := by
  obtain ⟨a, rfl, ha, rfl⟩ := o_pI_s h
  exact q_put (σ1 := sI σ (up2 σ.2.1 a k x)) X hh hS hF hm ha rfl rfl rfl (fun b hb => up2_ne hb) (fun b hb => rfl) rfl (hpv_I hk) hdg kk
theorem q_pZ (X : cx p s m args c cc own nL D dA) (hh : hw D dA base σ H) (hS : hs base H0 H locs) {ix cN k : Nat} {fin : Bool} (hF : f_P own ix cN k .boolean fin) (hm : fin = true → meth.name = "<init>") (hk : rkX cN k = false) {r : Option Nat} {x y : Int32} (hz : o_z x = some y) (h : o_pI σ cN k r y = some σ1)
    (hdg : decode cc pc = .ok (.putfield ix, 3)) (kk : ∀ (H1 : Heap) (locs1 : List Loc), hw D dA base σ1 H1 → hs base H0 H1 locs1 → W p l e R s m args below meth c H1 locs1 cells slots Q (F0 m (pc + 3) ls rest)) : W p l e R s m args below meth c H locs cells slots Q (F0 m pc ls (.int x :: va_rf r :: rest)) := by
  obtain ⟨rfl, hz⟩ := o_z_s hz
  obtain ⟨a, rfl, ha, rfl⟩ := o_pI_s h
  exact q_put (σ1 := sI σ (up2 σ.2.1 a k _)) X hh hS hF hm ha (by rcases hz with rfl | rfl <;> rfl) (by rcases hz with rfl | rfl <;> rfl) rfl (fun b hb => up2_ne hb) (fun b hb => rfl) rfl (hpv_I hk) hdg kk
theorem q_pR (X : cx p s m args c cc own nL D dA) (hh : hw D dA base σ H) (hS : hs base H0 H locs) {ix cN k : Nat} {ty : FieldType} {fin : Bool} (hF : f_P own ix cN k ty fin) (hm : fin = true → meth.name = "<init>") (hk : rkX cN k = true) (hty : (∃ n, ty = .object n) ∨ ∃ t, ty = .array t) {r x : Option Nat} (h : o_pR σ cN k r x = some σ1)
    (hdg : decode cc pc = .ok (.putfield ix, 3)) (kk : ∀ (H1 : Heap) (locs1 : List Loc), hw D dA base σ1 H1 → hs base H0 H1 locs1 → W p l e R s m args below meth c H1 locs1 cells slots Q (F0 m (pc + 3) ls rest)) : W p l e R s m args below meth c H locs cells slots Q (F0 m pc ls (va_rf x :: va_rf r :: rest)) := by
  obtain ⟨a, rfl, ha, rfl⟩ := o_pR_s h
  exact q_put (σ1 := sR σ (up2 σ.2.2.1 a k x)) X hh hS hF hm ha (by rcases hty with ⟨n, rfl⟩ | ⟨t, rfl⟩ <;> cases x <;> rfl) (by rcases hty with ⟨n, rfl⟩ | ⟨t, rfl⟩ <;> cases x <;> rfl) rfl (fun b hb => rfl) (fun b hb => up2_ne hb) rfl (hpv_R hk) hdg kk
end RW
end
section
/-! Rows: arrays, making, calls, ends. -/
theorem o_ldI_s {σ : hp} {t : Nat} {r : Option Nat} {i x : Int32} (h : o_ldI σ t r i = some x) : ∃ a n, r = some a ∧ σ.1 a = some (.inr (t, n)) ∧ vp_in i n ∧ σ.2.1 a i.toNatClampNeg = x := by
  obtain ⟨q, h1, h⟩ := o_b h
  obtain ⟨k, h2, h⟩ := o_b h
  obtain ⟨g1, g2⟩ := o_a_s h1
  obtain ⟨g3, rfl⟩ := o_ix_s h2
  exact ⟨q.1, q.2, g1, g2, g3, Option.some.inj h⟩
theorem o_ldQ_s {σ : hp} {t : Nat} {r x : Option Nat} {i : Int32} (h : o_ldQ σ t r i = some x) : ∃ a n, r = some a ∧ σ.1 a = some (.inr (t, n)) ∧ vp_in i n ∧ σ.2.2.1 a i.toNatClampNeg = x := by
  obtain ⟨q, h1, h⟩ := o_b h
  obtain ⟨k, h2, h⟩ := o_b h
  obtain ⟨g1, g2⟩ := o_a_s h1
  obtain ⟨g3, rfl⟩ := o_ix_s h2
  exact ⟨q.1, q.2, g1, g2, g3, Option.some.inj h⟩
theorem o_len_s {σ : hp} {t : Nat} {r : Option Nat} {x : Int32} (h : o_len σ t r = some x) : ∃ a n, r = some a ∧ σ.1 a = some (.inr (t, n)) ∧ Int32.ofNat n = x := by
  obtain ⟨q, h1, h⟩ := o_b h
  obtain ⟨g1, g2⟩ := o_a_s h1
  exact ⟨q.1, q.2, g1, g2, Option.some.inj h⟩
theorem o_stI_s {σ σ1 : hp} {t : Nat} {r : Option Nat} {i x : Int32} (h : o_stI σ t r i x = some σ1) : ∃ a n, r = some a ∧ σ.1 a = some (.inr (t, n)) ∧ vp_in i n ∧ σ1 = sI σ (up2 σ.2.1 a i.toNatClampNeg x) := by
  obtain ⟨q, h1, h⟩ := o_b h
  obtain ⟨k, h2, h⟩ := o_b h
  obtain ⟨g1, g2⟩ := o_a_s h1
  obtain ⟨g3, rfl⟩ := o_ix_s h2
  exact ⟨q.1, q.2, g1, g2, g3, (Option.some.inj h).symm⟩
theorem o_stQ_s {σ σ1 : hp} {t c : Nat} {r x : Option Nat} {i : Int32} (h : o_stQ σ t c r i x = some σ1) : ∃ a n v, r = some a ∧ σ.1 a = some (.inr (t, n)) ∧ vp_in i n ∧ x = some v ∧ σ.1 v = some (.inl c) ∧ σ1 = sR σ (up2 σ.2.2.1 a i.toNatClampNeg x) := by
  obtain ⟨q, h1, h⟩ := o_b h
  obtain ⟨k, h2, h⟩ := o_b h
  obtain ⟨u, h3, h⟩ := o_b h
  obtain ⟨g1, g2⟩ := o_a_s h1
  obtain ⟨g3, rfl⟩ := o_ix_s h2
  obtain ⟨v, g4, g5⟩ := o_is_s h3
  exact ⟨q.1, q.2, v, g1, g2, g3, g4, g5, (Option.some.inj h).symm⟩
section RW
variable {p : Program} {l : Launch} {e : Env} {R : Room} {s : State} {m : MethodId} {args : Array Value} {below : List Frame} {meth : Method} {c : Code} {H : Heap} {locs : List Loc} {cells slots : Nat} {Q : State → Prop}
variable {cc : ByteArray} {pc : Nat} {ls : Array Slot} {rest : List Value} {D : va_G} {dA : Nat → ClassId} {base nL : Nat} {σ σ1 : hp} {H0 : Heap} {own : String} {lv lv' : List (Nat × vk)}
theorem hpc_i {a t n : Nat} (ht : t < 2) : hp_c dA σ a t n = arrV (dA t) n (fun j => .int (σ.2.1 a j)) := by
  unfold hp_c
  rw [if_pos ht]
  rfl
theorem hpc_q {a t n : Nat} (ht : ¬ t < 2) : hp_c dA σ a t n = arrV (dA t) n (fun j => va_rf (σ.2.2.1 a j)) := by
  unfold hp_c
  rw [if_neg ht]
  rfl
theorem q_ldI (X : cx p s m args c cc own nL D dA) (hh : hw D dA base σ H) {r : Option Nat} {i x : Int32} (h : o_ldI σ 0 r i = some x) (hdg : decode cc pc = .ok (.iaload, 1)) (kk : W p l e R s m args below meth c H locs cells slots Q (F0 m (pc + 1) ls (.int x :: rest))) : W p l e R s m args below meth c H locs cells slots Q (F0 m pc ls (.int i :: va_rf r :: rest)) := by
  obtain ⟨a, n, rfl, ha, hin, rfl⟩ := o_ldI_s h
  have hcell := (hh.2.2.2 a).arr ha
  rw [hpc_i (by decide)] at hcell
  have hlt : i.toNatClampNeg < n := Nat.not_le.mp fun q => hin (Or.inr q)
  exact W.iald (v := .int (σ.2.1 a i.toNatClampNeg)) X.1 X.2.1 hcell ((X.2.2.2.2.2.1.2 0 (dA 0, .int) rfl).1 n _) (fun q => by cases q) (by rw [arrV_size]; exact hin) (by rw [arrV_read _ _ hlt]) rfl rfl hdg kk
theorem q_ldZ (X : cx p s m args c cc own nL D dA) (hh : hw D dA base σ H) {r : Option Nat} {i x : Int32} (h : o_ldI σ 1 r i = some x) (hdg : decode cc pc = .ok (.baload, 1)) (kk : W p l e R s m args below meth c H locs cells slots Q (F0 m (pc + 1) ls (.int x :: rest))) : W p l e R s m args below meth c H locs cells slots Q (F0 m pc ls (.int i :: va_rf r :: rest)) := by
  obtain ⟨a, n, rfl, ha, hin, rfl⟩ := o_ldI_s h
  have hcell := (hh.2.2.2 a).arr ha
  rw [hpc_i (by decide)] at hcell
  have hlt : i.toNatClampNeg < n := Nat.not_le.mp fun q => hin (Or.inr q)
  exact W.zald (v := .int (σ.2.1 a i.toNatClampNeg)) X.1 X.2.1 hcell ((X.2.2.2.2.2.1.2 1 (dA 1, .boolean) rfl).1 n _) (fun q => by cases q) (by rw [arrV_size]; exact hin) (by rw [arrV_read _ _ hlt]) rfl rfl hdg kk
theorem q_ldQ (X : cx p s m args c cc own nL D dA) (hh : hw D dA base σ H) {t : Nat} {C : String} (ht : ¬ t < 2) (hty : (TY dA)[t]? = some (dA t, .object C)) {r x : Option Nat} {i : Int32} (h : o_ldQ σ t r i = some x) (hdg : decode cc pc = .ok (.aaload, 1)) (kk : W p l e R s m args below meth c H locs cells slots Q (F0 m (pc + 1) ls (va_rf x :: rest))) : W p l e R s m args below meth c H locs cells slots Q (F0 m pc ls (.int i :: va_rf r :: rest)) := by
  obtain ⟨a, n, rfl, ha, hin, rfl⟩ := o_ldQ_s h
  have hcell := (hh.2.2.2 a).arr ha
  rw [hpc_q ht] at hcell
  have hlt : i.toNatClampNeg < n := Nat.not_le.mp fun q => hin (Or.inr q)
  exact W.aald (v := va_rf (σ.2.2.1 a i.toNatClampNeg)) (ty := .object C) X.1 X.2.1 hcell ((X.2.2.2.2.2.1.2 t _ hty).1 n _) rfl (fun q => by cases q) (by rw [arrV_size]; exact hin) (by rw [arrV_read _ _ hlt]) rfl rfl hdg kk
theorem q_len (X : cx p s m args c cc own nL D dA) (hh : hw D dA base σ H) {t : Nat} {ty : FieldType} (hty : (TY dA)[t]? = some (dA t, ty)) {r : Option Nat} {x : Int32} (h : o_len σ t r = some x) (hdg : decode cc pc = .ok (.arraylength, 1)) (kk : W p l e R s m args below meth c H locs cells slots Q (F0 m (pc + 1) ls (.int x :: rest))) : W p l e R s m args below meth c H locs cells slots Q (F0 m pc ls (va_rf r :: rest)) := by
  obtain ⟨a, n, rfl, ha, rfl⟩ := o_len_s h
  have hcell := (hh.2.2.2 a).arr ha
  by_cases ht : t < 2
  · rw [hpc_i ht] at hcell
    exact W.alen (n := Int32.ofNat n) X.1 X.2.1 hcell ((X.2.2.2.2.2.1.2 t _ hty).1 n _) (by rw [arrV_size]) rfl rfl hdg kk
  · rw [hpc_q ht] at hcell
    exact W.alen (n := Int32.ofNat n) X.1 X.2.1 hcell ((X.2.2.2.2.2.1.2 t _ hty).1 n _) (by rw [arrV_size]) rfl rfl hdg kk
theorem hp_stI {a t n k : Nat} {x : Int32} {H1 : Heap} {locs1 : List Loc} (hh : hw D dA base σ H) (ha : σ.1 a = some (.inr (t, n))) (ht : t < 2) (e : H1[a]? = some ((arrV (dA t) n (fun j => .int (σ.2.1 a j))).setSlot k (.int x))) (z : H1.size = H.size) (oq : ∀ q, q ≠ a → H1[q]? = H[q]?) : hw D dA base (sI σ (up2 σ.2.1 a k x)) H1 := by
  refine hh.chg z oq rfl (fun b hb => up2_ne hb) (fun b hb => rfl) rfl ?_
  unfold hp_at
  rw [show (sI σ (up2 σ.2.1 a k x)).1 a = some (.inr (t, n)) from ha]
  dsimp only
  rw [e, hpc_i ht, arrV_store]
  congr 2
  funext q
  by_cases hq : q = k
  · subst hq
    simp [updV, up2, sI]
  · simp [updV, up2, sI, hq]
theorem q_stI (X : cx p s m args c cc own nL D dA) (hh : hw D dA base σ H) (hS : hs base H0 H locs) {r : Option Nat} {i x : Int32} (h : o_stI σ 0 r i x = some σ1) (hdg : decode cc pc = .ok (.iastore, 1)) (kk : ∀ (H1 : Heap) (locs1 : List Loc), hw D dA base σ1 H1 → hs base H0 H1 locs1 → W p l e R s m args below meth c H1 locs1 cells slots Q (F0 m (pc + 1) ls rest)) : W p l e R s m args below meth c H locs cells slots Q (F0 m pc ls (.int x :: .int i :: va_rf r :: rest)) := by
  obtain ⟨a, n, rfl, ha, hin, rfl⟩ := o_stI_s h
  have hcell := (hh.2.2.2 a).arr ha
  rw [hpc_i (by decide)] at hcell
  exact W.iast X.1 X.2.1 hcell ((X.2.2.2.2.2.1.2 0 (dA 0, .int) rfl).1 n _) (fun q => by cases q) (by rw [arrV_size]; exact hin) rfl rfl hdg fun H1 e z oq => kk H1 _ (hp_stI (locs1 := locs) hh ha (by decide) e z oq) (hS.put z oq (hh.2.2.1 a (by rw [ha]; simp)))
theorem q_stZ (X : cx p s m args c cc own nL D dA) (hh : hw D dA base σ H) (hS : hs base H0 H locs) {r : Option Nat} {i x y : Int32} (hz : o_z x = some y) (h : o_stI σ 1 r i y = some σ1) (hdg : decode cc pc = .ok (.bastore, 1)) (kk : ∀ (H1 : Heap) (locs1 : List Loc), hw D dA base σ1 H1 → hs base H0 H1 locs1 → W p l e R s m args below meth c H1 locs1 cells slots Q (F0 m (pc + 1) ls rest)) : W p l e R s m args below meth c H locs cells slots Q (F0 m pc ls (.int x :: .int i :: va_rf r :: rest)) := by
  obtain ⟨rfl, hz⟩ := o_z_s hz
  obtain ⟨a, n, rfl, ha, hin, rfl⟩ := o_stI_s h
  have hcell := (hh.2.2.2 a).arr ha
  rw [hpc_i (by decide)] at hcell
  exact W.zast X.1 X.2.1 hcell ((X.2.2.2.2.2.1.2 1 (dA 1, .boolean) rfl).1 n _) (fun q => by cases q) (by rw [arrV_size]; exact hin) rfl rfl hdg fun H1 e z oq => kk H1 _ (hp_stI (locs1 := locs) hh ha (by decide) (by rw [e]; rcases hz with rfl | rfl <;> rfl) z oq) (hS.put z oq (hh.2.2.1 a (by rw [ha]; simp)))
theorem q_stQ (X : cx p s m args c cc own nL D dA) (hh : hw D dA base σ H) (hS : hs base H0 H locs) {t cN : Nat} {w : vw_C} (ht : ¬ t < 2) (hc : vwCl[cN]? = some w) (hty : (TY dA)[t]? = some (dA t, .object w.1)) {r x : Option Nat} {i : Int32} (h : o_stQ σ t cN r i x = some σ1) (hdg : decode cc pc = .ok (.aastore, 1)) (kk : ∀ (H1 : Heap) (locs1 : List Loc), hw D dA base σ1 H1 → hs base H0 H1 locs1 → W p l e R s m args below meth c H1 locs1 cells slots Q (F0 m (pc + 1) ls rest)) : W p l e R s m args below meth c H locs cells slots Q (F0 m pc ls (va_rf x :: .int i :: va_rf r :: rest)) := by
  obtain ⟨a, n, v, rfl, ha, hin, rfl, hv, rfl⟩ := o_stQ_s h
  have hcell := (hh.2.2.2 a).arr ha
  rw [hpc_q ht] at hcell
  have hK := X.2.2.2.2.2.1
  have hlt : i.toNatClampNeg < n := Nat.not_le.mp fun q => hin (Or.inr q)
  have h0 : ¬ i < 0 := fun q => hin (Or.inl q)
  obtain ⟨r', hr', cellV, g1, g2, g3, -⟩ := (hh.2.2.2 v).obj hv
  have hcls := (hK.1 cN w hc).2
  obtain ⟨kA, comp, k1, k2, k3, -⟩ := (hK.2 t _ hty).2
  have hcomp : comp = D.1 cN := Option.some.inj (k3.symm.trans hcls.1)
  subst hcomp
  obtain ⟨kC, hkC, -⟩ := hcls.2
  refine W.aast X.1 X.2.1 hcell (fun q h => by cases h) (fun h => by cases h) k1 k2 rfl hkC ⟨h0, by rw [arrV_size]; exact hlt⟩ g1 (fun q h => by rw [g3] at h; cases h) (by rw [g2]; exact hkC) (by rw [g2]; exact va_assign hcls) rfl rfl hdg fun H1 e z oq => ?_
  refine kk H1 _ (hh.chg z oq rfl (fun b hb => rfl) (fun b hb => up2_ne hb) rfl ?_) (hS.put z oq (hh.2.2.1 a (by rw [ha]; simp)))
  unfold hp_at
  rw [show (sR σ (up2 σ.2.2.1 a i.toNatClampNeg (some v))).1 a = some (.inr (t, n)) from ha]
  dsimp only
  rw [e, hpc_q ht, arrV_store]
  congr 2
  funext q
  by_cases hq : q = i.toNatClampNeg
  · subst hq
    simp [updV, up2, sR, va_rf]
  · simp [updV, up2, sR, hq]
theorem q_naI (X : cx p s m args c cc own nL D dA) (hh : hw D dA base σ H) (hS : hs base H0 H locs) {t : Nat} {atype : ArrayType} (ht : t < 2) (hty : (TY dA)[t]? = some (dA t, newarray.typeOf atype)) (hd : defaultValue (newarray.typeOf atype) = .int 0) (hRA : ∀ (U : State) (cA : ClassId), va_RA U cA (newarray.typeOf atype) = (U.vm.findClass ("[" ++ (newarray.typeOf atype).toString) = some cA)) (hb8 : componentBytes (newarray.typeOf atype) ≤ 4) (hac : Cond.arrayClass (newarray.typeOf atype) ∈ G) {n : Int32} {z : Option Nat × hp} (h : o_na σ t n = some z) (hdg : decode cc pc = .ok (.newarray atype, 2)) (hcells : cells + 1 ≤ R.cells) (hslots : slots + n.toNatClampNeg ≤ R.slots)
    (kk : ∀ (H1 : Heap), hw D dA base z.2 H1 → hs base H0 H1 locs → W p l e R s m args below meth c H1 locs (cells + 1) (slots + n.toNatClampNeg) Q (F0 m (pc + 2) ls (va_rf z.1 :: rest))) : W p l e R s m args below meth c H locs cells slots Q (F0 m pc ls (.int n :: rest)) := by
  obtain ⟨hn, hle, rfl⟩ := o_na_s h
  have hK := X.2.2.2.2.2.1
  refine va_newaK X.1 X.2.1 (X.2.2.2.2.1 _ hac) rfl hdg rfl hn rfl (Nat.le_trans (Nat.mul_le_mul_left _ hb8) (by omega)) hcells hslots (h := σ.2.2.2.1) hh.1 fun H1 cA e1 z1 o1 hAr hNm => ?_
  have hcA : cA = dA t := by
    have h1 := (hK.2 t _ hty).2
    rw [hRA] at h1
    exact Option.some.inj (hNm.symm.trans h1)
  subst hcA
  refine kk H1 (hh.new (by rw [z1, hh.1]) (fun q hq => o1 q (by rw [← hh.1]; exact hq)) ?_) ⟨Nat.le_trans hS.1 (by rw [z1, hh.1]; omega), fun x h1 h2 => (o1 x (by rw [← hh.1]; exact Nat.lt_of_lt_of_le h1 hS.1)).trans (hS.2.1 x h1 h2), hS.2.2⟩
  unfold hp_at
  rw [hh.1, show (hp_new σ (.inr (t, n.toNatClampNeg)) n.toNatClampNeg).1 σ.2.2.2.1 = some (.inr (t, n.toNatClampNeg)) from va_up_self _ _ _]
  dsimp only
  rw [hpc_i ht, e1, hd, show (hp_new σ (.inr (t, n.toNatClampNeg)) n.toNatClampNeg).2.1 σ.2.2.2.1 = fun _ => 0 from va_up_self _ _ _]
theorem q_naQ (X : cx p s m args c cc own nL D dA) (hh : hw D dA base σ H) (hS : hs base H0 H locs) {t ix : Nat} {C : String} (ht : ¬ t < 2) (hty : (TY dA)[t]? = some (dA t, .object C)) (hl : Cond.classLink own ix C ∈ G) (hao : C ∈ aoL) {n : Int32} {z : Option Nat × hp} (h : o_na σ t n = some z) (hdg : decode cc pc = .ok (.anewarray ix, 3)) (hcells : cells + 1 ≤ R.cells) (hslots : slots + n.toNatClampNeg ≤ R.slots)
    (kk : ∀ (H1 : Heap), hw D dA base z.2 H1 → hs base H0 H1 locs → W p l e R s m args below meth c H1 locs (cells + 1) (slots + n.toNatClampNeg) Q (F0 m (pc + 3) ls (va_rf z.1 :: rest))) : W p l e R s m args below meth c H locs cells slots Q (F0 m pc ls (.int n :: rest)) := by
  obtain ⟨hn, hle, rfl⟩ := o_na_s h
  have hK := X.2.2.2.2.2.1
  refine W.anew X.1 X.2.1 X.2.2.1 (X.2.2.2.2.1 _ hl) (va_AO.use (X.2.2.2.2.2.2.1 C hao)) rfl hdg rfl hn (by omega) hcells hslots fun cA kA comp f1 f2 f3 f4 => ?_
  generalize hH1 : H.push ({ cls := cA, slots := Array.replicate n.toNatClampNeg .null, vm := .none } : Cell) = H1
  have z1 : H1.size = H.size + 1 := by rw [← hH1, Array.size_push]
  have e1 : H1[H.size]? = some (arrV cA n.toNatClampNeg (fun _ => .null)) := by rw [← hH1, Array.getElem?_push_size, ← arrV_new]
  have o1 : ∀ q : Nat, q < H.size → H1[q]? = H[q]? := fun q hq => by rw [← hH1, Array.getElem?_push, if_neg (Nat.ne_of_lt hq)]
  have hcA : cA = dA t := by
    obtain ⟨kA', comp', -, -, -, h1⟩ := (hK.2 t _ hty).2
    exact Option.some.inj (f1.symm.trans h1)
  subst hcA
  have key := kk H1 (hh.new z1 o1 (by
    unfold hp_at
    rw [hh.1, show (hp_new σ (.inr (t, n.toNatClampNeg)) n.toNatClampNeg).1 σ.2.2.2.1 = some (.inr (t, n.toNatClampNeg)) from va_up_self _ _ _]
    dsimp only
    rw [hpc_q ht, ← hh.1, e1, hh.1, show (hp_new σ (.inr (t, n.toNatClampNeg)) n.toNatClampNeg).2.2.1 σ.2.2.2.1 = fun _ => none from va_up_self _ _ _]
    rfl)) ⟨Nat.le_trans hS.1 (by omega), fun x h1 h2 => (o1 x (Nat.lt_of_lt_of_le h1 hS.1)).trans (hS.2.1 x h1 h2), hS.2.2⟩
  rw [hh.1]
  exact key
def f_N (own : String) (ix cN n : Nat) : Prop := ∃ (C : String) (T : u_T) (ty : Nat → FieldType), vwCl[cN]? = some (C, T, n) ∧ (∀ w ∈ u_ws C T n, w ∈ G) ∧ (∀ k, k < n → parseFieldDescriptor (T k).2.2.1 = some (ty k)) ∧ Cond.classLink own ix C ∈ G ∧ Cond.instantiable C n ∈ G ∧ Cond.initialized C ∈ G ∧ (∀ k, k < n → defaultValue (ty k) = if rkX cN k = true then .null else .int 0)
theorem q_new (X : cx p s m args c cc own nL D dA) (hh : hw D dA base σ H) (hS : hs base H0 H locs) {ix cN n : Nat} (hF : f_N own ix cN n) {z : Option Nat × hp} (h : o_new σ cN n = some z) (hdg : decode cc pc = .ok (.new ix, 3)) (hcells : cells + 1 ≤ R.cells) (hslots : slots + n ≤ R.slots)
    (kk : ∀ (H1 : Heap), hw D dA base z.2 H1 → hs base H0 H1 locs → W p l e R s m args below meth c H1 locs (cells + 1) (slots + n) Q (F0 m (pc + 3) ls (va_rf z.1 :: rest))) : W p l e R s m args below meth c H locs cells slots Q (F0 m pc ls rest) := by
  cases h
  obtain ⟨C, T, ty, hc, hin, hty, h1, h2, h3, hdv⟩ := hF
  obtain ⟨hx, hb, hown, -, hts, hK, -⟩ := X
  have hKn := hK.1 cN _ hc
  refine W.newcK hx hb hown (hts _ h1) (hts _ h2) (hts _ h3) rfl hdg hcells hslots hKn.2.1 (h := σ.2.2.2.1) hh.1 fun H1 kC hkC e1 z1 o1 => ?_
  refine kk H1 (hh.new (by rw [z1, hh.1]) (fun q hq => o1 q (by rw [← hh.1]; exact hq)) ?_) ⟨Nat.le_trans hS.1 (by rw [z1, hh.1]; omega), fun x h1 h2 => (o1 x (by rw [← hh.1]; exact Nat.lt_of_lt_of_le h1 hS.1)).trans (hS.2.1 x h1 h2), hS.2.2⟩
  unfold hp_at
  rw [hh.1, show (hp_new σ (.inl cN) n).1 σ.2.2.2.1 = some (.inl cN) from va_up_self _ _ _]
  refine ⟨_, hc, (u_born ty hts hin hKn hkC e1 hty).to (fun j hj => ?_)⟩
  rw [hdv j hj]
  unfold hp_v
  rw [show (hp_new σ (.inl cN) n).2.1 σ.2.2.2.1 = fun _ => 0 from va_up_self _ _ _, show (hp_new σ (.inl cN) n).2.2.1 σ.2.2.2.1 = fun _ => none from va_up_self _ _ _]
  rfl
end RW
end
section
/-! Contracts, calls, ends. -/
def qG (D : va_G) (dA : Nat → ClassId) (base : Nat) (vo : Option Value) (σ' : hp) : Array Value → State → Outcome → State → Prop := fun _ st o t => o = .returned vo ∧ hw D dA base σ' t.heap ∧ va_F (fun q => base ≤ q) st t
def pG (D : va_G) (dA : Nat → ClassId) (base : Nat) (σ : hp) (as : List Value) : Array Value → State → Prop := va_Pc as (fun U => hw D dA base σ U.heap ∧ KK D dA U)
/-- a method's contract: from the heap σ with these arguments it answers vo and leaves the heap σ' -/
def mt (l : Launch) (y : MethodName) (cc : ByteArray) (maxL : Nat) (ret : Option FieldType) (fr lo : Nat) (D : va_G) (dA : Nat → ClassId) (base : Nat) (σ : hp) (as : List Value) (vo : Option Value) (σ' : hp) (mc ms : Nat) : Prop :=
  Met l y (.code y cc maxL ret :: G) { frames := fr, cells := mc, slots := ms, locals := lo } (pG D dA base σ as) (qG D dA base vo σ') mc ms (fun q => base ≤ q)
theorem pG_blind {D : va_G} {dA : Nat → ClassId} {base : Nat} {σ : hp} {as : List Value} : FrameBlind (pG D dA base σ as) := fun a U g mk h => ⟨h.1, h.2.1, h.2.2.calling⟩
def c_V (own : String) (ix : Nat) (y : MethodName) (bytes : ByteArray) (maxL : Nat) (ret : Option FieldType) (n : Nat) : Prop :=
  Cond.methodLink own ix y ∈ G ∧ Cond.instanceMethod y ∈ G ∧ Cond.selects y.cls y y ∈ G ∧ Cond.initialized y.cls ∈ G ∧ Cond.code y bytes maxL ret ∈ G ∧ y.cls ≠ "java/lang/invoke/MethodHandle" ∧ y.cls ≠ "java/lang/invoke/VarHandle" ∧ (parseMethodDescriptor y.desc).map (fun d => d.parameters.length) = some n
def c_S (own : String) (ix : Nat) (y : MethodName) (bytes : ByteArray) (maxL : Nat) (ret : Option FieldType) (n : Nat) : Prop :=
  Cond.methodLink own ix y ∈ G ∧ Cond.static y ∈ G ∧ Cond.initialized y.cls ∈ G ∧ Cond.code y bytes maxL ret ∈ G ∧ y.cls ≠ "java/lang/invoke/MethodHandle" ∧ y.cls ≠ "java/lang/invoke/VarHandle" ∧ (parseMethodDescriptor y.desc).map (fun d => d.parameters.length) = some n
def c_I (own : String) (ix : Nat) (y : MethodName) (bytes : ByteArray) (maxL : Nat) (n : Nat) : Prop :=
  Cond.methodLink own ix y ∈ G ∧ y.name = "<init>" ∧ Cond.instanceMethod y ∈ G ∧ Cond.initialized y.cls ∈ G ∧ Cond.code y bytes maxL none ∈ G ∧ y.cls ≠ "java/lang/invoke/MethodHandle" ∧ y.cls ≠ "java/lang/invoke/VarHandle" ∧ (parseMethodDescriptor y.desc).map (fun d => d.parameters.length) = some n
def c_N (own : String) (ix : Nat) (y : MethodName) (bytes : ByteArray) (maxL : Nat) (n : Nat) : Prop :=
  (∀ U, NW U → va_Nw (.methodLinkNest own ix y "SpoolLink") U) ∧ y.name = "<init>" ∧ Cond.instanceMethod y ∈ G ∧ Cond.initialized y.cls ∈ G ∧ Cond.code y bytes maxL none ∈ G ∧ y.cls ≠ "java/lang/invoke/MethodHandle" ∧ y.cls ≠ "java/lang/invoke/VarHandle" ∧ (parseMethodDescriptor y.desc).map (fun d => d.parameters.length) = some n
section RW
variable {p : Program} {l : Launch} {e : Env} {R : Room} {s : State} {m : MethodId} {args : Array Value} {below : List Frame} {meth : Method} {c : Code} {H : Heap} {locs : List Loc} {cells slots : Nat} {Q : State → Prop}
variable {cc : ByteArray} {pc : Nat} {ls : Array Slot} {rest : List Value} {D : va_G} {dA : Nat → ClassId} {base nL : Nat} {σ σ1 : hp} {H0 : Heap} {own : String} {lv lv' : List (Nat × vk)}
variable {y : MethodName} {bytes : ByteArray} {maxL fr lo ix n mc ms : Nat} {ret : Option FieldType} {vo : Option Value}
theorem q_run {g : List Value} {a : Array Value} (hr : va_Run p l e R s m args below meth c H locs cells slots mc ms (F0 m pc ls g) rest (qG D dA base vo σ1 a) (fun q => base ≤ q)) (hS : hs base H0 H locs)
    (kk : ∀ (H1 : Heap) (locs1 : List Loc), hw D dA base σ1 H1 → hs base H0 H1 locs1 → W p l e R s m args below meth c H1 locs1 (cells + mc) (slots + ms) Q (F0 m (pc + 3) ls (vo.toList ++ rest))) : W p l e R s m args below meth c H locs cells slots Q (F0 m pc ls g) := by
  intro T hT X
  obtain ⟨v, st₀, t, T', L, h0, X', hL, e1, e2, ⟨hv, hp, hz, hk⟩, st⟩ := hr T hT X
  cases hv
  rw [h0] at hz hk
  obtain ⟨t2, a1, b1⟩ := kk T'.heap (locs ++ L) (by rw [e1]; exact hp)
    ⟨Nat.le_trans hS.1 (by rw [e1]; exact hz), fun q h1 h2 => by rw [e1, hk q (Nat.lt_of_lt_of_le h1 hS.1) h2]; exact hS.2.1 q h1 h2, fun q hq => by
      rcases List.mem_append.mp hq with h | h
      · exact hS.2.2 q h
      · exact hL q h⟩ T' rfl X'
  exact ⟨t2, st t2 a1, b1⟩
theorem q_callB (X : cx p s m args c cc own nL D dA) {rm : Room} (hrc : rm.cells = mc) (hrs : rm.slots = ms) (h1 : Cond.methodLink own ix y ∈ G) (h2 : Cond.initialized y.cls ∈ G) (h3 : Cond.code y bytes maxL ret ∈ G) (hd : y.cls ≠ "java/lang/invoke/MethodHandle" ∧ y.cls ≠ "java/lang/invoke/VarHandle" ∧ (parseMethodDescriptor y.desc).map (fun d => d.parameters.length) = some n) (hR : rm.frames + 1 ≤ R.frames ∧ 8 + (maxL + 11) + rm.locals ≤ R.locals) :
    CallB R s args own ix y bytes maxL ret (.code y bytes maxL ret :: G) rm mc ms n :=
  callB_of n X.2.2.2.2.1 (gG _ h3 G (fun _ h => h)) rfl hrc hrs (X.2.2.2.2.1 _ h2) (X.2.2.2.2.1 _ h1) hd hR
theorem q_callV (X : cx p s m args c cc own nL D dA) (hh : hw D dA base σ H) (hS : hs base H0 H locs) (hls : lk ls nL lv) (cf : c_V own ix y bytes maxL ret n) {b cN : Nat} {w : vw_C} (hc : vwCl[cN]? = some w) (hw1 : w.1 = y.cls) (hb : σ.1 b = some (.inl cN)) {As : List Value} (hn : As.length = n)
    (hM : mt l y bytes maxL ret fr lo D dA base σ (.ref b :: As) vo σ1 mc ms) (hR : fr + 1 ≤ R.frames ∧ 8 + (maxL + 11) + lo ≤ R.locals) (hr8 : (rest.map fun v => v.category).sum ≤ 8) (hdg : decode cc pc = .ok (.invokevirtual ix, 3)) (hf : cells + mc ≤ R.cells ∧ slots + ms ≤ R.slots)
    (kk : ∀ (H1 : Heap) (locs1 : List Loc), hw D dA base σ1 H1 → hs base H0 H1 locs1 → W p l e R s m args below meth c H1 locs1 (cells + mc) (slots + ms) Q (F0 m (pc + 3) ls (vo.toList ++ rest))) : W p l e R s m args below meth c H locs cells slots Q (F0 m pc ls (As.reverse ++ va_rf (some b) :: rest)) := by
  obtain ⟨h1, h2, h3, h4, h5, hd⟩ := cf
  obtain ⟨r, g1, cell, q1, q2, q3, -⟩ := (hh.2.2.2 b).obj hb
  have hcls : s.vm.findClass y.cls = some cell.cls := by rw [q2, ← hw1]; exact (X.2.2.2.2.2.1.1 cN w hc).2.1
  refine q_run (va_runV (As := As) (rest := rest) ⟨X.1, X.2.1, X.2.2.2.1, X.2.2.1, X.2.2.2.2.1⟩ hM ⟨q_callB X rfl rfl h1 h4 h5 hd hR, X.2.2.2.2.1 _ h2, X.2.2.2.2.1 _ h3⟩ ⟨pG_blind, ⟨cell, q1, by rw [q3]; rfl, hcls⟩, fun U hU hW => ⟨rfl, by rw [hU]; exact hh, X.2.2.2.2.2.warm hW⟩⟩ rfl hn hls.1 rfl (lv_room hr8) hdg hf) hS kk
theorem q_callS (X : cx p s m args c cc own nL D dA) (hh : hw D dA base σ H) (hS : hs base H0 H locs) (hls : lk ls nL lv) (cf : c_S own ix y bytes maxL ret n) {As : List Value} (hn : As.length = n)
    (hM : mt l y bytes maxL ret fr lo D dA base σ As vo σ1 mc ms) (hR : fr + 1 ≤ R.frames ∧ 8 + (maxL + 11) + lo ≤ R.locals) (hr8 : (rest.map fun v => v.category).sum ≤ 8) (hdg : decode cc pc = .ok (.invokestatic ix, 3)) (hf : cells + mc ≤ R.cells ∧ slots + ms ≤ R.slots)
    (kk : ∀ (H1 : Heap) (locs1 : List Loc), hw D dA base σ1 H1 → hs base H0 H1 locs1 → W p l e R s m args below meth c H1 locs1 (cells + mc) (slots + ms) Q (F0 m (pc + 3) ls (vo.toList ++ rest))) : W p l e R s m args below meth c H locs cells slots Q (F0 m pc ls (As.reverse ++ rest)) := by
  obtain ⟨h1, h2, h4, h5, hd⟩ := cf
  refine q_run (va_runS (As := As) (rest := rest) ⟨X.1, X.2.1, X.2.2.2.1, X.2.2.1, X.2.2.2.2.1⟩ hM ⟨q_callB X rfl rfl h1 h4 h5 hd hR, X.2.2.2.2.1 _ h2⟩ ⟨pG_blind, fun U hU hW => ⟨rfl, by rw [hU]; exact hh, X.2.2.2.2.2.warm hW⟩⟩ rfl hn hls.1 rfl (lv_room hr8) hdg hf) hS kk
theorem q_callI (X : cx p s m args c cc own nL D dA) (hh : hw D dA base σ H) (hS : hs base H0 H locs) (hls : lk ls nL lv) (cf : c_I own ix y bytes maxL n) {b : Nat} {As : List Value} (hn : As.length = n)
    (hM : mt l y bytes maxL none fr lo D dA base σ (.ref b :: As) none σ1 mc ms) (hR : fr + 1 ≤ R.frames ∧ 8 + (maxL + 11) + lo ≤ R.locals) (hr8 : (rest.map fun v => v.category).sum ≤ 8) (hdg : decode cc pc = .ok (.invokespecial ix, 3)) (hf : cells + mc ≤ R.cells ∧ slots + ms ≤ R.slots)
    (kk : ∀ (H1 : Heap) (locs1 : List Loc), hw D dA base σ1 H1 → hs base H0 H1 locs1 → W p l e R s m args below meth c H1 locs1 (cells + mc) (slots + ms) Q (F0 m (pc + 3) ls rest)) : W p l e R s m args below meth c H locs cells slots Q (F0 m pc ls (As.reverse ++ va_rf (some b) :: rest)) := by
  obtain ⟨h1, h0, h2, h4, h5, hd⟩ := cf
  refine q_run (vo := none) (va_runI (As := As) (rest := rest) ⟨X.1, X.2.1, X.2.2.2.1, X.2.2.1, X.2.2.2.2.1⟩ hM ⟨q_callB X rfl rfl h1 h4 h5 hd hR, h0, X.2.2.2.2.1 _ h2⟩ ⟨pG_blind, fun U hU hW => ⟨rfl, by rw [hU]; exact hh, X.2.2.2.2.2.warm hW⟩⟩ rfl hn hls.1 rfl (lv_room hr8) hdg hf) hS kk
theorem q_callN (X : cx p s m args c cc own nL D dA) (hh : hw D dA base σ H) (hS : hs base H0 H locs) (hls : lk ls nL lv) (cf : c_N own ix y bytes maxL n) {b : Nat} {As : List Value} (hn : As.length = n)
    (hM : mt l y bytes maxL none fr lo D dA base σ (.ref b :: As) none σ1 mc ms) (hR : fr + 1 ≤ R.frames ∧ 8 + (maxL + 11) + lo ≤ R.locals) (hr8 : (rest.map fun v => v.category).sum ≤ 8) (hdg : decode cc pc = .ok (.invokespecial ix, 3)) (hf : cells + mc ≤ R.cells ∧ slots + ms ≤ R.slots)
    (kk : ∀ (H1 : Heap) (locs1 : List Loc), hw D dA base σ1 H1 → hs base H0 H1 locs1 → W p l e R s m args below meth c H1 locs1 (cells + mc) (slots + ms) Q (F0 m (pc + 3) ls rest)) : W p l e R s m args below meth c H locs cells slots Q (F0 m pc ls (As.reverse ++ va_rf (some b) :: rest)) := by
  obtain ⟨h1, h0, h2, h4, h5, hd⟩ := cf
  refine q_run (vo := none) (va_runIN (host := "SpoolLink") (As := As) (rest := rest) ⟨X.1, X.2.1, X.2.2.2.1, X.2.2.1, X.2.2.2.2.1⟩ hM ⟨va_cnB n X.2.2.2.2.1 (gG _ h5 G (fun _ h => h)) rfl rfl rfl (h1 s X.2.2.2.2.2.2.2) (X.2.2.2.2.1 _ h4) hd hR, h0, X.2.2.2.2.1 _ h2⟩ ⟨pG_blind, fun U hU hW => ⟨rfl, by rw [hU]; exact hh, X.2.2.2.2.2.warm hW⟩⟩ rfl hn hls.1 rfl (lv_room hr8) hdg hf) hS kk
-- ends
theorem q_end {vo : Option Value} (hh : hw D dA base σ H) (hS : hs base s.heap H locs) (t : State) (ht : t.heap = H) : qG D dA base vo σ args s (.returned vo) t := ⟨rfl, by rw [ht]; exact hh, hS.F ht⟩
theorem q_iret (X : cx p s m args c cc own nL D dA) (hr : meth.sig.returnType = some .int) (hlk : meth.locks = false) (hh : hw D dA base σ H) (hS : hs base s.heap H locs) {v : Int32} (hdg : decode cc pc = .ok (.ireturn, 1)) : W p l e R s m args below meth c H locs cells slots (MQ below (qG D dA base (some (.int v)) σ) args s cells slots (fun q => base ≤ q)) (F0 m pc ls [.int v]) :=
  W.iret X.1 X.2.1 hr (fun t ht _ => q_end hh hS t ht) hS.2.2 hdg hlk
theorem q_zret (X : cx p s m args c cc own nL D dA) (hr : meth.sig.returnType = some .boolean) (hlk : meth.locks = false) (hh : hw D dA base σ H) (hS : hs base s.heap H locs) {x v : Int32} (hz : o_z x = some v) (hdg : decode cc pc = .ok (.ireturn, 1)) : W p l e R s m args below meth c H locs cells slots (MQ below (qG D dA base (some (.int v)) σ) args s cells slots (fun q => base ≤ q)) (F0 m pc ls [.int x]) := by
  obtain ⟨rfl, hz⟩ := o_z_s hz
  exact W.zret X.1 X.2.1 hr (by rcases hz with rfl | rfl <;> rfl) (fun t ht _ => q_end hh hS t ht) hS.2.2 hdg hlk
theorem q_aret (X : cx p s m args c cc own nL D dA) {C : String} (hr : meth.sig.returnType = some (.object C)) (hlk : meth.locks = false) (hh : hw D dA base σ H) (hS : hs base s.heap H locs) {v : Option Nat} (hdg : decode cc pc = .ok (.areturn, 1)) : W p l e R s m args below meth c H locs cells slots (MQ below (qG D dA base (some (va_rf v)) σ) args s cells slots (fun q => base ≤ q)) (F0 m pc ls [va_rf v]) :=
  W.aret X.1 X.2.1 hr (Or.inl ⟨C, rfl⟩) (by cases v with | none => exact Or.inl rfl | some a => exact Or.inr ⟨a, rfl⟩) (fun t ht _ => q_end hh hS t ht) hS.2.2 hdg hlk
theorem q_vret (X : cx p s m args c cc own nL D dA) (hr : meth.sig.returnType = none) (hlk : meth.locks = false) (hh : hw D dA base σ H) (hS : hs base s.heap H locs) (hdg : decode cc pc = .ok (.return_, 1)) : W p l e R s m args below meth c H locs cells slots (MQ below (qG D dA base none σ) args s cells slots (fun q => base ≤ q)) (F0 m pc ls []) :=
  W.vret X.1 X.2.1 hr (fun t ht _ => q_end hh hS t ht) hS.2.2 hdg hlk
-- the JDK's
theorem q_objInit (X : cx p s m args c cc own nL D dA) (hls : lk ls nL lv) (h1 : Cond.methodLink own ix objectInit ∈ G) (h2 : Cond.instanceMethod objectInit ∈ G) (h3 : Cond.code objectInit ⟨#[0xb1]⟩ 1 none ∈ G) {b : Nat} (hdg : decode cc pc = .ok (.invokespecial ix, 3)) (hR : 1 ≤ R.frames ∧ 20 ≤ R.locals) (hr8 : (rest.map fun v => v.category).sum ≤ 8)
    (kk : W p l e R s m args below meth c H locs cells slots Q (F0 m (pc + 3) ls rest)) : W p l e R s m args below meth c H locs cells slots Q (F0 m pc ls (va_rf (some b) :: rest)) := by
  refine W.objInit X.1 X.2.1 X.2.2.1 (X.2.2.2.2.1 _ h1) (X.2.2.2.2.1 _ h2) (X.2.2.2.2.1 _ h3) rfl (by rw [X.2.2.2.1]; exact hls.1) rfl hdg hR.1 ?_ kk
  show 2 * 0 + _ + 12 ≤ _
  omega
theorem q_ldc (X : cx p s m args c cc own nL D dA) {v : Int32} (h : Cond.constant own ix v ∈ G) (hdg : decode cc pc = .ok (.ldc ix, 2)) (kk : W p l e R s m args below meth c H locs cells slots Q (F0 m (pc + 2) ls (.int v :: rest))) : W p l e R s m args below meth c H locs cells slots Q (F0 m pc ls rest) := lv_ldc X.1 X.2.1 X.2.2.1 (X.2.2.2.2.1 _ h) hdg kk
theorem q_min (X : cx p s m args c cc own nL D dA) (hls : lk ls nL lv) (h1 : Cond.methodLink own ix Lib.Math.min.name ∈ G) (h2 : Cond.static Lib.Math.min.name ∈ G) (h3 : Cond.initialized "java/lang/Math" ∈ G) (h4 : Cond.code Lib.Math.min.name Lib.Math.min.code 2 (some .int) ∈ G) (hR : 1 ≤ R.frames ∧ 21 ≤ R.locals) (hr8 : (rest.map fun v => v.category).sum ≤ 8) (hc : cells ≤ R.cells) (hs : slots ≤ R.slots) {x y : Int32} (hdg : decode cc pc = .ok (.invokestatic ix, 3))
    (kk : W p l e R s m args below meth c H locs cells slots Q (F0 m (pc + 3) ls (.int (if y < x then y else x) :: rest))) : W p l e R s m args below meth c H locs cells slots Q (F0 m pc ls (.int y :: .int x :: rest)) :=
  va_mmin X.1 X.2.1 (X.2.2.2.1.trans hls.1.symm) X.2.2.1 (X.2.2.2.2.1 _ h1) (X.2.2.2.2.1 _ h2) (X.2.2.2.2.1 _ h3) (X.2.2.2.2.1 _ h4) hR.1 (by omega) hc hs hdg kk
end RW
end
section
/-! System.arraycopy between int arrays. -/
theorem o_cpy_s {σ σ1 : hp} {t : Nat} {r r1 : Option Nat} {sp dp n : Int32} (h : o_cpy σ t r sp r1 dp n = some σ1) : ∃ a n0 b n1, r = some a ∧ σ.1 a = some (.inr (t, n0)) ∧ r1 = some b ∧ σ.1 b = some (.inr (t, n1)) ∧ (¬ sp < 0 ∧ ¬ dp < 0 ∧ ¬ n < 0 ∧ sp.toNatClampNeg + n.toNatClampNeg ≤ n0 ∧ dp.toNatClampNeg + n.toNatClampNeg ≤ n1) ∧ σ1 = sI σ (va_up σ.2.1 b (va_cpy (σ.2.1 a) (σ.2.1 b) sp.toNatClampNeg dp.toNatClampNeg n.toNatClampNeg)) := by
  obtain ⟨q, h1, h⟩ := o_b h
  obtain ⟨q1, h2, h⟩ := o_b h
  obtain ⟨g1, g2⟩ := o_a_s h1
  obtain ⟨g3, g4⟩ := o_a_s h2
  split at h
  · rename_i hc
    exact ⟨q.1, q.2, q1.1, q1.2, g1, g2, g3, g4, hc, (Option.some.inj h).symm⟩
  · cases h
section RW
variable {p : Program} {l : Launch} {e : Env} {R : Room} {s : State} {m : MethodId} {args : Array Value} {below : List Frame} {meth : Method} {c : Code} {H : Heap} {locs : List Loc} {cells slots : Nat} {Q : State → Prop}
variable {cc : ByteArray} {pc : Nat} {ls : Array Slot} {rest : List Value} {D : va_G} {dA : Nat → ClassId} {base nL : Nat} {σ σ1 : hp} {H0 : Heap} {own : String} {lv lv' : List (Nat × vk)}
theorem q_cpy {ix : Nat} (X : cx p s m args c cc own nL D dA) (hh : hw D dA base σ H) (hS : hs base H0 H locs) (hls : lk ls nL lv) (w1 : Cond.methodLink own ix arraycopyName ∈ G) (w2 : Cond.native arraycopyName ∈ G) (w3 : Cond.static arraycopyName ∈ G) (w4 : Cond.initialized "java/lang/System" ∈ G) {r r1 : Option Nat} {sp dp n : Int32} (h : o_cpy σ 0 r sp r1 dp n = some σ1)
    (hframes : 1 ≤ R.frames) (hlocals : (rest.map fun v => v.category).sum + (nativeFrameWords "java/lang/System" "arraycopy" 5 + 11) ≤ R.locals) (hdg : decode cc pc = .ok (.invokestatic ix, 3))
    (kk : ∀ (H1 : Heap) (locs1 : List Loc), hw D dA base σ1 H1 → hs base H0 H1 locs1 → W p l e R s m args below meth c H1 locs1 cells slots Q (F0 m (pc + 3) ls rest)) : W p l e R s m args below meth c H locs cells slots Q (F0 m pc ls (.int n :: .int dp :: va_rf r1 :: .int sp :: va_rf r :: rest)) := by
  obtain ⟨a0, n0, a, n1, rfl, ha0, rfl, ha1, ⟨h1, h2, h3, h4, h5⟩, rfl⟩ := o_cpy_s h
  have nn : ∀ z : Int32, ¬ z < 0 → z.toInt = (z.toNatClampNeg : Int) := by
    intro z hz
    have hz0 : (0 : Int) ≤ z.toInt := by
      have := Int32.not_lt.mp hz
      simpa using Int32.le_iff_toInt_le.mp this
    show z.toInt = ((z.toInt.toNat : Nat) : Int)
    omega
  have hx := X.1
  have hb := X.2.1
  have hK := X.2.2.2.2.2.1
  have hty := hK.2 0 (dA 0, .int) rfl
  have hc0 := (hh.2.2.2 a0).arr ha0
  have hc1 := (hh.2.2.2 a).arr ha1
  rw [hpc_i (by decide)] at hc0 hc1
  intro T hT XS
  obtain ⟨-, k0, hk0, cm0, hkk0⟩ := hty.1 n0 (fun j => .int (σ.2.1 a0 j))
  obtain ⟨-, k1, hk1, cm1, hkk1⟩ := hty.1 n1 (fun j => .int (σ.2.1 a j))
  obtain ⟨vm', X', step⟩ := XS.arraycopy hx X.2.2.1 (X.2.2.2.2.1 _ w1) (X.2.2.2.2.1 _ w2) (X.2.2.2.2.1 _ w3) (X.2.2.2.2.1 _ w4) (src := a0) (dst := a) (cs := arrV (dA 0) n0 (fun j => .int (σ.2.1 a0 j))) (cd := arrV (dA 0) n1 (fun j => .int (σ.2.1 a j))) (srcPos := sp) (destPos := dp) (n := n) (by rw [hT]; exact hc0) (by rw [hT]; exact hc1)
    (fun _ h => by cases h) (fun _ h => by cases h) (fun h => by cases h) (fun h => by cases h) hk0 hk1 hkk0 hkk1 (by simp [refKind]) h1 h2 h3
    (by rw [nn sp h1, nn n h3, arrV_size]; omega)
    (by rw [nn dp h2, nn n h3, arrV_size]; omega)
    (fun vm₁ _ i hi => by
      have e : (arrV (dA 0) n0 (fun j => .int (σ.2.1 a0 j))).slots.getD (sp.toNatClampNeg + i) .null = .int (σ.2.1 a0 (sp.toNatClampNeg + i)) := by
        rw [Array.getD_eq_getD_getElem?, arrV_read _ _ (by omega)]
        rfl
      refine ⟨?_, ?_⟩
      · rw [e]
        rfl
      · rw [e]
        exact trivial)
    (g := F0 m pc ls (.int n :: .int dp :: .ref a :: .int sp :: .ref a0 :: rest)) rfl (by rw [X.2.2.2.1]; exact hls.1) (rest := rest) rfl (by rw [hb]; exact hdg) hframes (by show 2 * 0 + _ + _ ≤ _; omega)
  have e1 : copied (arrV (dA 0) n0 (fun j => .int (σ.2.1 a0 j))) (arrV (dA 0) n1 (fun j => .int (σ.2.1 a j))) sp dp n = arrV (dA 0) n1 (fun j => .int (va_cpy (σ.2.1 a0) (σ.2.1 a) sp.toNatClampNeg dp.toNatClampNeg n.toNatClampNeg j)) := va_copied (fun z => .int z) (dA 0) (dA 0) (σ.2.1 a0) (σ.2.1 a) h4
  rw [e1] at X' step
  have hl : a < H.size := (Array.getElem?_eq_some_iff.mp hc1).1
  generalize hcell : arrV (dA 0) n1 (fun j => Value.int (va_cpy (σ.2.1 a0) (σ.2.1 a) sp.toNatClampNeg dp.toNatClampNeg n.toNatClampNeg j)) = cell at X' step
  have hheap : ((T.setVm vm').setCell a cell).heap = H.setIfInBounds a cell := by rw [← hT]; rfl
  have oq : ∀ q : Nat, q ≠ a → (H.setIfInBounds a cell)[q]? = H[q]? := fun q hq => by simp [Array.getElem?_setIfInBounds, Ne.symm hq]
  have hA : base ≤ a := hh.2.2.1 a (by rw [ha1]; simp)
  obtain ⟨t, a1, b1⟩ := kk (H.setIfInBounds a cell) _ (hh.chg (a := a) (by simp) oq rfl (fun b hb => va_up_ne _ _ hb) (fun b hb => rfl) rfl (by
    unfold hp_at
    rw [show (sI σ (va_up σ.2.1 a (va_cpy (σ.2.1 a0) (σ.2.1 a) sp.toNatClampNeg dp.toNatClampNeg n.toNatClampNeg))).1 a = some (.inr (0, n1)) from ha1]
    dsimp only
    rw [hpc_i (by decide), show (sI σ (va_up σ.2.1 a (va_cpy (σ.2.1 a0) (σ.2.1 a) sp.toNatClampNeg dp.toNatClampNeg n.toNatClampNeg))).2.1 a = va_cpy (σ.2.1 a0) (σ.2.1 a) sp.toNatClampNeg dp.toNatClampNeg n.toNatClampNeg from va_up_self _ _ _, hcell]
    simp [Array.getElem?_setIfInBounds, hl])) ⟨by simp; exact hS.1, fun q g1 g2 => by
      rw [oq q (fun e => g2 (by rw [e]; exact hA))]
      exact hS.2.1 q g1 g2, fun q hq => by
      rcases List.mem_append.mp hq with h | h
      · exact hS.2.2 q h
      · obtain ⟨z, -, hz⟩ := List.mem_map.mp h
        rw [← hz]
        exact hA⟩ _ hheap X'
  exact ⟨t, step t a1, b1⟩
end RW
end
section
/-! Receivers, making, switches, the order of heaps, a method's entry. -/
abbrev FU : Nat := 1000
def o_rcv (σ : hp) (c : Nat) (r : Option Nat) : Option Nat := match r with
  | none => none
  | some b => if σ.1 b = some (.inl c) then some b else none
theorem o_rcv_s {σ : hp} {c b : Nat} {r : Option Nat} (h : o_rcv σ c r = some b) : r = some b ∧ σ.1 b = some (.inl c) := by
  cases r with
  | none => cases h
  | some a =>
    unfold o_rcv at h
    dsimp only at h
    split at h
    · cases h
      exact ⟨rfl, by assumption⟩
    · cases h
def o_nw (σ : hp) (c n : Nat) : Option (Nat × hp) := some (σ.2.2.2.1, hp_new σ (.inl c) n)
theorem cat8 (vs : List vk) (h : vs.length ≤ 8) : ((vs.map vv).map fun v => v.category).sum ≤ 8 := by
  have key : ∀ vs : List vk, ((vs.map vv).map fun v => v.category).sum = vs.length := by
    intro vs
    induction vs with
    | nil => rfl
    | cons a t ih =>
      rw [List.map_cons, List.map_cons, List.sum_cons, ih, vv_cat, List.length_cons]
      omega
  rw [key]
  exact h
def le4 (a b : hp) : Prop := a.2.2.2.1 ≤ b.2.2.2.1 ∧ a.2.2.2.2 ≤ b.2.2.2.2
def eq4 (a b : hp) : Prop := b.2.2.2 = a.2.2.2
theorem le4.rf (a : hp) : le4 a a := ⟨Nat.le_refl _, Nat.le_refl _⟩
theorem eq4.rf (a : hp) : eq4 a a := rfl
theorem le4.tr {a b c : hp} (h : le4 a b) (k : le4 b c) : le4 a c := ⟨Nat.le_trans h.1 k.1, Nat.le_trans h.2 k.2⟩
theorem eq4.tr {a b c : hp} (h : eq4 a b) (k : eq4 b c) : eq4 a c := Eq.trans k h
theorem eq4.le {a b : hp} (h : eq4 a b) : le4 a b := by unfold eq4 at h; unfold le4; rw [h]; exact ⟨Nat.le_refl _, Nat.le_refl _⟩
theorem e_pI {σ σ1 : hp} {c k : Nat} {r : Option Nat} {x : Int32} (h : o_pI σ c k r x = some σ1) : eq4 σ σ1 := by
  obtain ⟨a, -, -, rfl⟩ := o_pI_s h
  rfl
theorem e_pR {σ σ1 : hp} {c k : Nat} {r x : Option Nat} (h : o_pR σ c k r x = some σ1) : eq4 σ σ1 := by
  obtain ⟨a, -, -, rfl⟩ := o_pR_s h
  rfl
theorem e_stI {σ σ1 : hp} {t : Nat} {r : Option Nat} {i x : Int32} (h : o_stI σ t r i x = some σ1) : eq4 σ σ1 := by
  obtain ⟨a, n, -, -, -, rfl⟩ := o_stI_s h
  rfl
theorem e_stQ {σ σ1 : hp} {t c : Nat} {r x : Option Nat} {i : Int32} (h : o_stQ σ t c r i x = some σ1) : eq4 σ σ1 := by
  obtain ⟨a, n, v, -, -, -, -, -, rfl⟩ := o_stQ_s h
  rfl
theorem e_cpy {σ σ1 : hp} {t : Nat} {r r1 : Option Nat} {sp dp n : Int32} (h : o_cpy σ t r sp r1 dp n = some σ1) : eq4 σ σ1 := by
  obtain ⟨a, n0, b, n1, -, -, -, -, -, rfl⟩ := o_cpy_s h
  rfl
theorem l_na {σ : hp} {t : Nat} {n : Int32} {z : Option Nat × hp} (h : o_na σ t n = some z) : z.2.2.2.2.1 = σ.2.2.2.1 + 1 ∧ z.2.2.2.2.2 = σ.2.2.2.2 + n.toNatClampNeg := by
  obtain ⟨-, -, rfl⟩ := o_na_s h
  exact ⟨rfl, rfl⟩
theorem l_nw {σ : hp} {c n : Nat} {z : Nat × hp} (h : o_nw σ c n = some z) : z.2.2.2.2.1 = σ.2.2.2.1 + 1 ∧ z.2.2.2.2.2 = σ.2.2.2.2 + n := by
  cases h
  exact ⟨rfl, rfl⟩
section RW
variable {p : Program} {l : Launch} {e : Env} {R : Room} {s : State} {m : MethodId} {args : Array Value} {below : List Frame} {meth : Method} {c : Code} {H : Heap} {locs : List Loc} {cells slots : Nat} {Q : State → Prop}
variable {cc : ByteArray} {pc : Nat} {ls : Array Slot} {rest st st2 : List Value} {D : va_G} {dA : Nat → ClassId} {base nL : Nat} {σ σ1 : hp} {H0 : Heap} {own : String} {lv lv' : List (Nat × vk)}
variable {y : MethodName} {bytes : ByteArray} {maxL fr lo ix n mc ms : Nat} {ret : Option FieldType} {vo : Option Value}
theorem q_cV (X : cx p s m args c cc own nL D dA) (hh : hw D dA base σ H) (hS : hs base H0 H locs) (hls : lk ls nL lv) (cf : c_V own ix y bytes maxL ret n) {b cN : Nat} {w : vw_C} (hc : vwCl[cN]? = some w) (hw1 : w.1 = y.cls) {r : Option Nat} (hb : o_rcv σ cN r = some b) {As : List Value} (hn : As.length = n)
    (hM : mt l y bytes maxL ret fr lo D dA base σ (.ref b :: As) vo σ1 mc ms) (hR : fr + 1 ≤ R.frames ∧ 8 + (maxL + 11) + lo ≤ R.locals) (hr8 : (rest.map fun v => v.category).sum ≤ 8) (hdg : decode cc pc = .ok (.invokevirtual ix, 3)) (hf : cells + mc ≤ R.cells ∧ slots + ms ≤ R.slots) (hst : st = As.reverse ++ va_rf r :: rest) (hst2 : vo.toList ++ rest = st2)
    (kk : ∀ (H1 : Heap) (locs1 : List Loc), hw D dA base σ1 H1 → hs base H0 H1 locs1 → W p l e R s m args below meth c H1 locs1 (cells + mc) (slots + ms) Q (F0 m (pc + 3) ls st2)) : W p l e R s m args below meth c H locs cells slots Q (F0 m pc ls st) := by
  subst hst
  subst hst2
  obtain ⟨rfl, hb1⟩ := o_rcv_s hb
  exact q_callV X hh hS hls cf hc hw1 hb1 hn hM hR hr8 hdg hf kk
theorem q_cS (X : cx p s m args c cc own nL D dA) (hh : hw D dA base σ H) (hS : hs base H0 H locs) (hls : lk ls nL lv) (cf : c_S own ix y bytes maxL ret n) {As : List Value} (hn : As.length = n)
    (hM : mt l y bytes maxL ret fr lo D dA base σ As vo σ1 mc ms) (hR : fr + 1 ≤ R.frames ∧ 8 + (maxL + 11) + lo ≤ R.locals) (hr8 : (rest.map fun v => v.category).sum ≤ 8) (hdg : decode cc pc = .ok (.invokestatic ix, 3)) (hf : cells + mc ≤ R.cells ∧ slots + ms ≤ R.slots) (hst : st = As.reverse ++ rest) (hst2 : vo.toList ++ rest = st2)
    (kk : ∀ (H1 : Heap) (locs1 : List Loc), hw D dA base σ1 H1 → hs base H0 H1 locs1 → W p l e R s m args below meth c H1 locs1 (cells + mc) (slots + ms) Q (F0 m (pc + 3) ls st2)) : W p l e R s m args below meth c H locs cells slots Q (F0 m pc ls st) := by
  subst hst
  subst hst2
  exact q_callS X hh hS hls cf hn hM hR hr8 hdg hf kk
theorem q_cI (X : cx p s m args c cc own nL D dA) (hh : hw D dA base σ H) (hS : hs base H0 H locs) (hls : lk ls nL lv) (cf : c_I own ix y bytes maxL n) {b cN : Nat} {r : Option Nat} (hb : o_rcv σ cN r = some b) {As : List Value} (hn : As.length = n)
    (hM : mt l y bytes maxL none fr lo D dA base σ (.ref b :: As) none σ1 mc ms) (hR : fr + 1 ≤ R.frames ∧ 8 + (maxL + 11) + lo ≤ R.locals) (hr8 : (rest.map fun v => v.category).sum ≤ 8) (hdg : decode cc pc = .ok (.invokespecial ix, 3)) (hf : cells + mc ≤ R.cells ∧ slots + ms ≤ R.slots) (hst : st = As.reverse ++ va_rf r :: rest)
    (kk : ∀ (H1 : Heap) (locs1 : List Loc), hw D dA base σ1 H1 → hs base H0 H1 locs1 → W p l e R s m args below meth c H1 locs1 (cells + mc) (slots + ms) Q (F0 m (pc + 3) ls rest)) : W p l e R s m args below meth c H locs cells slots Q (F0 m pc ls st) := by
  subst hst
  obtain ⟨rfl, hb1⟩ := o_rcv_s hb
  exact q_callI X hh hS hls cf hn hM hR hr8 hdg hf kk
theorem q_cN (X : cx p s m args c cc own nL D dA) (hh : hw D dA base σ H) (hS : hs base H0 H locs) (hls : lk ls nL lv) (cf : c_N own ix y bytes maxL n) {b cN : Nat} {r : Option Nat} (hb : o_rcv σ cN r = some b) {As : List Value} (hn : As.length = n)
    (hM : mt l y bytes maxL none fr lo D dA base σ (.ref b :: As) none σ1 mc ms) (hR : fr + 1 ≤ R.frames ∧ 8 + (maxL + 11) + lo ≤ R.locals) (hr8 : (rest.map fun v => v.category).sum ≤ 8) (hdg : decode cc pc = .ok (.invokespecial ix, 3)) (hf : cells + mc ≤ R.cells ∧ slots + ms ≤ R.slots) (hst : st = As.reverse ++ va_rf r :: rest)
    (kk : ∀ (H1 : Heap) (locs1 : List Loc), hw D dA base σ1 H1 → hs base H0 H1 locs1 → W p l e R s m args below meth c H1 locs1 (cells + mc) (slots + ms) Q (F0 m (pc + 3) ls rest)) : W p l e R s m args below meth c H locs cells slots Q (F0 m pc ls st) := by
  subst hst
  obtain ⟨rfl, hb1⟩ := o_rcv_s hb
  exact q_callN X hh hS hls cf hn hM hR hr8 hdg hf kk
theorem q_nw (X : cx p s m args c cc own nL D dA) (hh : hw D dA base σ H) (hS : hs base H0 H locs) {cN : Nat} (hF : f_N own ix cN n) {z : Nat × hp} (h : o_nw σ cN n = some z) (hdg : decode cc pc = .ok (.new ix, 3)) (hcells : cells + 1 ≤ R.cells) (hslots : slots + n ≤ R.slots)
    (kk : ∀ (H1 : Heap), hw D dA base z.2 H1 → hs base H0 H1 locs → W p l e R s m args below meth c H1 locs (cells + 1) (slots + n) Q (F0 m (pc + 3) ls (va_rf (some z.1) :: rest))) : W p l e R s m args below meth c H locs cells slots Q (F0 m pc ls rest) := by
  cases h
  exact q_new X hh hS hF rfl hdg hcells hslots kk
theorem q_tin (X : cx p s m args c cc own nL D dA) {dflt lo hi : Int} {offs : Array Int} {len : Nat} {x v : Int32} {off : Int} {tgt : Nat} (hdg : decode cc pc = .ok (.tableswitch dflt lo hi offs, len)) (hx : x = v) (h1 : ¬ v.toInt < lo) (h2 : ¬ hi < v.toInt) (ho : offs[(v.toInt - lo).toNat]? = some off) (ht : (pc : Int) + off = (tgt : Int))
    (k : W p l e R s m args below meth c H locs cells slots Q (F0 m tgt ls rest)) : W p l e R s m args below meth c H locs cells slots Q (F0 m pc ls (.int x :: rest)) := by
  subst hx
  exact lv_tableIn X.1 X.2.1 hdg h1 h2 ho ht k
theorem q_lin (X : cx p s m args c cc own nL D dA) {dflt : Int} {ps : Array (Int × Int)} {len : Nat} {x v : Int32} {off : Int} {tgt : Nat} (hdg : decode cc pc = .ok (.lookupswitch dflt ps, len)) (hx : x = v) (hp : (ps.toList.zip (ps.toList.drop 1)).all (fun (a, next) => a.1 < next.1) = true) (ho : Op.lookupswitch.offset ps.toList dflt v.toInt = off) (ht : (pc : Int) + off = (tgt : Int))
    (k : W p l e R s m args below meth c H locs cells slots Q (F0 m tgt ls rest)) : W p l e R s m args below meth c H locs cells slots Q (F0 m pc ls (.int x :: rest)) := by
  subst hx
  exact lv_lookup X.1 X.2.1 hdg hp ho ht k
theorem q_nul (X : cx p s m args c cc own nL D dA) (hdg : decode cc pc = .ok (.aconst_null, 1)) (k : W p l e R s m args below meth c H locs cells slots Q (F0 m (pc + 1) ls (va_rf none :: rest))) : W p l e R s m args below meth c H locs cells slots Q (F0 m pc ls rest) := lv_null X.1 X.2.1 hdg k
end RW
theorem lk_entry (vs : List vk) {n : Nat} (h : vs.length ≤ n) : lk ((lg_sl (vs.map vv) ++ List.replicate (n - (lg_sl (vs.map vv)).length) Slot.unset).toArray) n (vs.zipIdx.map fun q => (q.2, q.1)) := by
  have e1 : ∀ vs : List vk, (lg_sl (vs.map vv)).length = vs.length := by
    intro vs
    induction vs with
    | nil => rfl
    | cons a t ih =>
      unfold lg_sl at ih ⊢
      rw [List.map_cons, List.flatMap_cons, if_neg (by rw [vv_cat]; decide), List.length_append, ih]
      simp
      omega
  have e2 : ∀ (vs : List vk) (i : Nat), lv_args i (vs.map vv) = ((vs.zipIdx i).map fun q => (q.2, q.1)).map lkm := by
    intro vs
    induction vs with
    | nil => intro i; rfl
    | cons a t ih =>
      intro i
      rw [List.map_cons, List.zipIdx_cons, List.map_cons, List.map_cons, ← ih (i + 1)]
      show (i, vv a) :: lv_args (if (vv a).category = 2 then i + 2 else i + 1) (t.map vv) = _
      rw [if_neg (by rw [vv_cat]; decide)]
      rfl
  have h1 := lv_entry (vs.map vv) (n := n) (by rw [e1]; exact h)
  rw [e2] at h1
  exact h1
theorem m_na {σ : hp} {t : Nat} {n : Int32} {z : Option Nat × hp} (h : o_na σ t n = some z) : le4 σ z.2 := by
  have := l_na h
  unfold le4
  omega
theorem m_nw {σ : hp} {c n : Nat} {z : Nat × hp} (h : o_nw σ c n = some z) : le4 σ z.2 := by
  have := l_nw h
  unfold le4
  omega
end
section
/-! The methods as functions over the heap: written by wip/whole/gen/emit.py out of the bytecode. -/
def S_X0_init_30 (σ : hp) (t0 : Nat) (w0 : Option Nat) (w1 : Option Nat) : Option (hp) :=
  (o_pR σ 0 3 w0 w1).bind fun s30 =>
  (o_pI s30 0 4 (some t0) (0 : Int32)).bind fun s35 =>
  (o_pI s35 0 5 (some t0) (0 : Int32)).bind fun s40 =>
  some s40
def S_X0_init_10 (σ : hp) (t0 : Nat) (w0 : Option Nat) (w1 : Option Nat) : Option (hp) :=
  (o_pR σ 0 0 w0 w1).bind fun s10 =>
  (o_pI s10 0 1 (some t0) (0 : Int32)).bind fun s15 =>
  (o_pI s15 0 2 (some t0) (0 : Int32)).bind fun s20 =>
  (o_na s20 5 (256 : Int32)).bind fun q27 =>
  S_X0_init_30 q27.2 t0 (some t0) q27.1
def S_X0_init (σ : hp) (t0 : Nat) : Option (hp) :=
  (o_na σ 5 (30 : Int32)).bind fun q7 =>
  S_X0_init_10 q7.2 t0 (some t0) q7.1
def S_X0_jobsLeft (σ : hp) (t0 : Nat) : Option (Int32) :=
  (o_gI σ 0 2 (some t0)).bind fun t1 =>
  (o_gI σ 0 1 (some t0)).bind fun t5 =>
  some (t1 - t5)
def S_X2_init_13 (σ : hp) (t0 : Nat) (v2 : Option Nat) (v3 : Int32) (w0 : Option Nat) (w1 : Option Nat) : Option (hp) :=
  (o_pR σ 2 1 w0 w1).bind fun s13 =>
  (o_gR s13 2 1 (some t0)).bind fun t19 =>
  (o_cpy s13 0 v2 (0 : Int32) t19 (0 : Int32) v3).bind fun s24 =>
  some s24
def S_X2_init (σ : hp) (t0 : Nat) (v1 : Int32) (v2 : Option Nat) (v3 : Int32) : Option (hp) :=
  (o_pI σ 2 0 (some t0) v1).bind fun s6 =>
  (o_na s6 0 v3).bind fun q11 =>
  S_X2_init_13 q11.2 t0 v2 v3 (some t0) q11.1
def S_X0_addJob_31 (σ : hp) (t0 : Nat) (v3 : Int32) (w0 : Option Nat) (w1 : Int32) (w2 : Option Nat) : Option (Int32 × hp) :=
  (o_stQ σ 5 2 w0 w1 w2).bind fun s31 =>
  (o_gI s31 0 2 (some t0)).bind fun t34 =>
  (o_pI s31 0 2 (some t0) (t34 + (1 : Int32))).bind fun s39 =>
  some (v3, s39)
def S_X0_addJob_24 (σ : hp) (t0 : Nat) (v1 : Option Nat) (v2 : Int32) (v3 : Int32) (w0 : Option Nat) (w1 : Int32) (w2 : Option Nat) : Option (Int32 × hp) :=
  (o_rcv σ 2 w2).bind fun b28 =>
  (S_X2_init σ b28 v3 v1 v2).bind fun q28 =>
  S_X0_addJob_31 q28 t0 v3 w0 w1 w2
def S_X0_addJob (σ : hp) (t0 : Nat) (v1 : Option Nat) (v2 : Int32) : Option (Int32 × hp) :=
  (o_gI σ 0 2 (some t0)).bind fun t1 =>
  if t1 < (30 : Int32) then ((o_gI σ 0 2 (some t0)).bind fun t12 =>
  (o_gR σ 0 0 (some t0)).bind fun t17 =>
  (o_nw σ 2 2).bind fun q21 =>
  S_X0_addJob_24 q21.2 t0 v1 v2 t12 t17 t12 (some q21.1))
  else (some ((-1 : Int32), σ))
def S_X0_firstJob_24 (σ : hp) (w0 : Option Nat) : Option (Option Nat) :=
  some w0
def S_X0_firstJob (σ : hp) (t0 : Nat) : Option (Option Nat) :=
  (o_gI σ 0 1 (some t0)).bind fun t1 =>
  (o_gI σ 0 2 (some t0)).bind fun t5 =>
  if t5 ≤ t1 then (S_X0_firstJob_24 σ none)
  else ((o_gR σ 0 0 (some t0)).bind fun t12 =>
  (o_gI σ 0 1 (some t0)).bind fun t16 =>
  (o_ldQ σ 5 t12 t16).bind fun t19 =>
  S_X0_firstJob_24 σ t19)
def S_X0_dropFirstJob (σ : hp) (t0 : Nat) : Option (Int32 × hp) :=
  (o_gI σ 0 1 (some t0)).bind fun t1 =>
  (o_gI σ 0 2 (some t0)).bind fun t5 =>
  if t1 < t5 then ((o_gI σ 0 1 (some t0)).bind fun t15 =>
  (o_pI σ 0 1 (some t0) (t15 + (1 : Int32))).bind fun s20 =>
  some ((1 : Int32), s20))
  else (some ((0 : Int32), σ))
def S_X0_hasDone_2_b (rec2 : hp → Nat → Int32 → Int32 → Option (Int32)) (σ : hp) (t0 : Nat) (v1 : Int32) (v2 : Int32) : Option (Int32) :=
  (o_gI σ 0 4 (some t0)).bind fun t4 =>
  if t4 ≤ v2 then (some (0 : Int32))
  else ((o_gR σ 0 3 (some t0)).bind fun t11 =>
  (o_ldQ σ 5 t11 v2).bind fun t15 =>
  (o_gI σ 2 0 t15).bind fun t16 =>
  if t16 = v1 then (some (1 : Int32))
  else (rec2 σ t0 v1 (v2 + (1 : Int32))))
def S_X0_hasDone_2 : Nat → hp → Nat → Int32 → Int32 → Option (Int32)
  | 0, _, _, _, _ => none
  | n + 1, σ, t0, v1, v2 => S_X0_hasDone_2_b (S_X0_hasDone_2 n) σ t0 v1 v2
def S_X0_hasDone (σ : hp) (t0 : Nat) (v1 : Int32) : Option (Int32) :=
  S_X0_hasDone_2 FU σ t0 v1 (0 : Int32)
def S_X0_addDone_30 (σ : hp) : Option (hp) :=
  some σ
def S_X0_addDone (σ : hp) (t0 : Nat) (v1 : Option Nat) : Option (hp) :=
  (o_gI σ 0 4 (some t0)).bind fun t1 =>
  if (256 : Int32) ≤ t1 then (S_X0_addDone_30 σ)
  else ((o_gR σ 0 3 (some t0)).bind fun t11 =>
  (o_gI σ 0 4 (some t0)).bind fun t15 =>
  (o_stQ σ 5 2 t11 t15 v1).bind fun s19 =>
  (o_gI s19 0 4 (some t0)).bind fun t22 =>
  (o_pI s19 0 4 (some t0) (t22 + (1 : Int32))).bind fun s27 =>
  S_X0_addDone_30 s27)
def S_X0_doneJob_22 (σ : hp) (w0 : Option Nat) : Option (Option Nat) :=
  some w0
def S_X0_doneJob_21 (σ : hp) : Option (Option Nat) :=
  S_X0_doneJob_22 σ none
def S_X0_doneJob (σ : hp) (t0 : Nat) (v1 : Int32) : Option (Option Nat) :=
  if v1 < (0 : Int32) then (S_X0_doneJob_21 σ)
  else ((o_gI σ 0 4 (some t0)).bind fun t6 =>
  if t6 ≤ v1 then (S_X0_doneJob_21 σ)
  else ((o_gR σ 0 3 (some t0)).bind fun t13 =>
  (o_ldQ σ 5 t13 v1).bind fun t17 =>
  S_X0_doneJob_22 σ t17))
def S_X1_init_9 (σ : hp) (t0 : Nat) (w0 : Option Nat) (w1 : Option Nat) : Option (hp) :=
  (o_pR σ 1 0 w0 w1).bind fun s9 =>
  (o_z (0 : Int32)).bind fun z14 =>
  (o_pI s9 1 1 (some t0) z14).bind fun s14 =>
  (o_pI s14 1 2 (some t0) (0 : Int32)).bind fun s19 =>
  (o_pI s19 1 3 (some t0) (0 : Int32)).bind fun s24 =>
  (o_pI s24 1 4 (some t0) (0 : Int32)).bind fun s29 =>
  some s29
def S_X1_init (σ : hp) (t0 : Nat) : Option (hp) :=
  (o_na σ 0 (100 : Int32)).bind fun q7 =>
  S_X1_init_9 q7.2 t0 (some t0) q7.1
def S_X1_forget (σ : hp) (t0 : Nat) : Option (hp) :=
  (o_z (0 : Int32)).bind fun z2 =>
  (o_pI σ 1 1 (some t0) z2).bind fun s2 =>
  some s2
def S_X1_begin (σ : hp) (t0 : Nat) (v1 : Int32) (v2 : Int32) : Option (hp) :=
  (o_z (1 : Int32)).bind fun z2 =>
  (o_pI σ 1 1 (some t0) z2).bind fun s2 =>
  (o_pI s2 1 2 (some t0) v1).bind fun s7 =>
  (o_pI s7 1 3 (some t0) v2).bind fun s12 =>
  (o_pI s12 1 4 (some t0) (0 : Int32)).bind fun s17 =>
  some s17
def S_X4_messageLength (σ : hp) (t0 : Nat) : Option (Int32) :=
  (o_gR σ 4 0 (some t0)).bind fun t1 =>
  (o_ldI σ 0 t1 (6 : Int32)).bind fun t6 =>
  some t6
def S_X4_messageByte_23 (σ : hp) (w0 : Int32) : Option (Int32) :=
  some w0
def S_X4_messageByte_22 (σ : hp) : Option (Int32) :=
  S_X4_messageByte_23 σ (0 : Int32)
def S_X4_messageByte (σ : hp) (t0 : Nat) (v1 : Int32) : Option (Int32) :=
  if v1 < (0 : Int32) then (S_X4_messageByte_22 σ)
  else (if (31 : Int32) ≤ v1 then (S_X4_messageByte_22 σ)
  else ((o_gR σ 4 0 (some t0)).bind fun t11 =>
  (o_ldI σ 0 t11 ((7 : Int32) + v1)).bind fun t18 =>
  S_X4_messageByte_23 σ t18))
def S_X1_takePart_60 (σ : hp) : Option (hp) :=
  some σ
def S_X1_takePart_2_b (rec2 : hp → Nat → Option Nat → Int32 → Option (hp)) (σ : hp) (t0 : Nat) (v1 : Option Nat) (v2 : Int32) : Option (hp) :=
  (o_rcv σ 4 v1).bind fun b4 =>
  (S_X4_messageLength σ b4 ).bind fun q4 =>
  if q4 ≤ v2 then (S_X1_takePart_60 σ)
  else ((o_gI σ 1 4 (some t0)).bind fun t11 =>
  (o_gI σ 1 3 (some t0)).bind fun t15 =>
  if t15 ≤ t11 then (S_X1_takePart_60 σ)
  else ((o_gI σ 1 4 (some t0)).bind fun t22 =>
  if (100 : Int32) ≤ t22 then (S_X1_takePart_60 σ)
  else ((o_gR σ 1 0 (some t0)).bind fun t31 =>
  (o_gI σ 1 4 (some t0)).bind fun t35 =>
  (o_rcv σ 4 v1).bind fun b40 =>
  (S_X4_messageByte σ b40 v2).bind fun q40 =>
  (o_stI σ 0 t31 t35 q40).bind fun s43 =>
  (o_gI s43 1 4 (some t0)).bind fun t46 =>
  (o_pI s43 1 4 (some t0) (t46 + (1 : Int32))).bind fun s51 =>
  rec2 s51 t0 v1 (v2 + (1 : Int32)))))
def S_X1_takePart_2 : Nat → hp → Nat → Option Nat → Int32 → Option (hp)
  | 0, _, _, _, _ => none
  | n + 1, σ, t0, v1, v2 => S_X1_takePart_2_b (S_X1_takePart_2 n) σ t0 v1 v2
def S_X1_takePart (σ : hp) (t0 : Nat) (v1 : Option Nat) : Option (hp) :=
  S_X1_takePart_2 FU σ t0 v1 (1 : Int32)
def S_X1_isWhole_23 (σ : hp) (w0 : Int32) : Option (Int32) :=
  (o_z w0).bind fun z23 =>
  some z23
def S_X1_isWhole_22 (σ : hp) : Option (Int32) :=
  S_X1_isWhole_23 σ (0 : Int32)
def S_X1_isWhole (σ : hp) (t0 : Nat) : Option (Int32) :=
  (o_gI σ 1 1 (some t0)).bind fun t1 =>
  if t1 = (0 : Int32) then (S_X1_isWhole_22 σ)
  else ((o_gI σ 1 4 (some t0)).bind fun t8 =>
  (o_gI σ 1 3 (some t0)).bind fun t12 =>
  if t8 = t12 then (S_X1_isWhole_23 σ (1 : Int32))
  else (S_X1_isWhole_22 σ))
def S_X1_job_19 (σ : hp) (w0 : Option Nat) : Option (Option Nat × hp) :=
  some (w0, σ)
def S_X1_job_3 (σ : hp) (t0 : Nat) (w0 : Option Nat) : Option (Option Nat × hp) :=
  (o_gI σ 1 2 (some t0)).bind fun t5 =>
  (o_gR σ 1 0 (some t0)).bind fun t9 =>
  (o_gI σ 1 3 (some t0)).bind fun t13 =>
  (o_rcv σ 2 w0).bind fun b16 =>
  (S_X2_init σ b16 t5 t9 t13).bind fun q16 =>
  S_X1_job_19 q16 w0
def S_X1_job (σ : hp) (t0 : Nat) : Option (Option Nat × hp) :=
  (o_nw σ 2 2).bind fun q0 =>
  S_X1_job_3 q0.2 t0 (some q0.1)
def S_X3_init_9 (σ : hp) (t0 : Nat) (w0 : Option Nat) (w1 : Option Nat) : Option (hp) :=
  (o_pR σ 3 0 w0 w1).bind fun s9 =>
  (o_pI s9 3 1 (some t0) (0 : Int32)).bind fun s14 =>
  some s14
def S_X3_init (σ : hp) (t0 : Nat) : Option (hp) :=
  (o_na σ 0 (31 : Int32)).bind fun q7 =>
  S_X3_init_9 q7.2 t0 (some t0) q7.1
def S_X3_append_29 (σ : hp) : Option (hp) :=
  some σ
def S_X3_append (σ : hp) (t0 : Nat) (v1 : Int32) : Option (hp) :=
  (o_gI σ 3 1 (some t0)).bind fun t1 =>
  if (31 : Int32) ≤ t1 then (S_X3_append_29 σ)
  else ((o_gR σ 3 0 (some t0)).bind fun t10 =>
  (o_gI σ 3 1 (some t0)).bind fun t14 =>
  (o_stI σ 0 t10 t14 v1).bind fun s18 =>
  (o_gI s18 3 1 (some t0)).bind fun t21 =>
  (o_pI s18 3 1 (some t0) (t21 + (1 : Int32))).bind fun s26 =>
  S_X3_append_29 s26)
def S_X4_init_9 (σ : hp) (t0 : Nat) (w0 : Option Nat) (w1 : Option Nat) : Option (hp) :=
  (o_pR σ 4 0 w0 w1).bind fun s9 =>
  (o_pI s9 4 1 (some t0) (0 : Int32)).bind fun s14 =>
  some s14
def S_X4_init (σ : hp) (t0 : Nat) : Option (hp) :=
  (o_na σ 0 (38 : Int32)).bind fun q7 =>
  S_X4_init_9 q7.2 t0 (some t0) q7.1
def S_X4_fillHead (σ : hp) (t0 : Nat) (v1 : Int32) (v2 : Int32) (v3 : Int32) : Option (hp) :=
  (o_gR σ 4 0 (some t0)).bind fun t18 =>
  (o_stI σ 0 t18 (0 : Int32) (16 : Int32)).bind fun s24 =>
  (o_gR s24 4 0 (some t0)).bind fun t26 =>
  (o_stI s24 0 t26 (1 : Int32) v1).bind fun s31 =>
  (o_gR s31 4 0 (some t0)).bind fun t33 =>
  (o_stI s31 0 t33 (2 : Int32) (v3 &&& (255 : Int32))).bind fun s39 =>
  (o_gR s39 4 0 (some t0)).bind fun t41 =>
  (o_stI s39 0 t41 (3 : Int32) ((v3 >>> ((8 : Int32) &&& 31)) &&& (255 : Int32))).bind fun s47 =>
  (o_gR s47 4 0 (some t0)).bind fun t49 =>
  (o_stI s47 0 t49 (4 : Int32) v2).bind fun s54 =>
  (o_gR s54 4 0 (some t0)).bind fun t56 =>
  (o_stI s54 0 t56 (5 : Int32) (((v1 ^^^ (v3 &&& (255 : Int32))) ^^^ ((v3 >>> ((8 : Int32) &&& 31)) &&& (255 : Int32))) ^^^ v2)).bind fun s69 =>
  some s69
def S_X4_fillControl (σ : hp) (t0 : Nat) (v1 : Int32) (v2 : Int32) : Option (hp) :=
  (o_pI σ 4 1 (some t0) (6 : Int32)).bind fun s3 =>
  (o_rcv s3 4 (some t0)).bind fun b21 =>
  (S_X4_fillHead s3 b21 (9 : Int32) (((8 : Int32) * v1) + v2) ((43690 : Int32) - (((8 : Int32) * v1) + v2))).bind fun q21 =>
  some q21
def S_X4_sum_63 (rec8 : hp → Nat → Int32 → Int32 → Int32 → Option (Int32)) (σ : hp) (t0 : Nat) (v1 : Int32) (v2 : Int32) (v3 : Int32) : Option (Int32) :=
  rec8 σ t0 v1 v2 (v3 + (-1 : Int32))
def S_X4_sum_8_b (rec8 : hp → Nat → Int32 → Int32 → Int32 → Option (Int32)) (σ : hp) (t0 : Nat) (v1 : Int32) (v2 : Int32) (v3 : Int32) : Option (Int32) :=
  if v3 ≤ (0 : Int32) then (some v1)
  else ((o_gR σ 4 0 (some t0)).bind fun t31 =>
  (o_ldI σ 0 t31 ((38 : Int32) - v3)).bind fun t38 =>
  if v1 < (((((v1 <<< ((1 : Int32) &&& 31)) ||| (v1 >>> ((15 : Int32) &&& 31))) &&& (65535 : Int32)) + t38) &&& (65535 : Int32)) then (S_X4_sum_63 rec8 σ t0 (((((v1 <<< ((1 : Int32) &&& 31)) ||| (v1 >>> ((15 : Int32) &&& 31))) &&& (65535 : Int32)) + t38) &&& (65535 : Int32)) ((v2 + ((((((v1 <<< ((1 : Int32) &&& 31)) ||| (v1 >>> ((15 : Int32) &&& 31))) &&& (65535 : Int32)) + t38) &&& (65535 : Int32)) ^^^ v3)) &&& (65535 : Int32)) v3)
  else (S_X4_sum_63 rec8 σ t0 ((((((v1 <<< ((1 : Int32) &&& 31)) ||| (v1 >>> ((15 : Int32) &&& 31))) &&& (65535 : Int32)) + t38) &&& (65535 : Int32)) ^^^ ((v2 + ((((((v1 <<< ((1 : Int32) &&& 31)) ||| (v1 >>> ((15 : Int32) &&& 31))) &&& (65535 : Int32)) + t38) &&& (65535 : Int32)) ^^^ v3)) &&& (65535 : Int32))) ((v2 + ((((((v1 <<< ((1 : Int32) &&& 31)) ||| (v1 >>> ((15 : Int32) &&& 31))) &&& (65535 : Int32)) + t38) &&& (65535 : Int32)) ^^^ v3)) &&& (65535 : Int32)) v3))
def S_X4_sum_8 : Nat → hp → Nat → Int32 → Int32 → Int32 → Option (Int32)
  | 0, _, _, _, _, _ => none
  | n + 1, σ, t0, v1, v2, v3 => S_X4_sum_8_b (S_X4_sum_8 n) σ t0 v1 v2 v3
def S_X4_sum (σ : hp) (t0 : Nat) : Option (Int32) :=
  S_X4_sum_8 FU σ t0 (65535 : Int32) (0 : Int32) (32 : Int32)
def S_X4_fillData_56 (rec20 : hp → Nat → Int32 → Int32 → Option Nat → Int32 → Option (hp)) (σ : hp) (t0 : Nat) (v1 : Int32) (v2 : Int32) (v3 : Option Nat) (v4 : Int32) (w0 : Option Nat) (w1 : Int32) (w2 : Int32) : Option (hp) :=
  (o_stI σ 0 w0 w1 w2).bind fun s56 =>
  rec20 s56 t0 v1 v2 v3 (v4 + (1 : Int32))
def S_X4_fillData_20_b (rec20 : hp → Nat → Int32 → Int32 → Option Nat → Int32 → Option (hp)) (σ : hp) (t0 : Nat) (v1 : Int32) (v2 : Int32) (v3 : Option Nat) (v4 : Int32) : Option (hp) :=
  if (31 : Int32) ≤ v4 then ((o_rcv σ 4 (some t0)).bind fun b82 =>
  (S_X4_sum σ b82 ).bind fun q82 =>
  (o_rcv σ 4 (some t0)).bind fun b89 =>
  (S_X4_fillHead σ b89 (1 : Int32) (((128 : Int32) + ((8 : Int32) * v1)) + v2) ((43690 : Int32) - (q82 ^^^ (((128 : Int32) + ((8 : Int32) * v1)) + v2)))).bind fun q89 =>
  some q89)
  else ((o_gR σ 4 0 (some t0)).bind fun t28 =>
  (o_gI σ 3 1 v3).bind fun t39 =>
  if t39 ≤ v4 then (S_X4_fillData_56 rec20 σ t0 v1 v2 v3 v4 t28 ((7 : Int32) + v4) (0 : Int32))
  else ((o_gR σ 3 0 v3).bind fun t46 =>
  (o_ldI σ 0 t46 v4).bind fun t51 =>
  S_X4_fillData_56 rec20 σ t0 v1 v2 v3 v4 t28 ((7 : Int32) + v4) t51))
def S_X4_fillData_20 : Nat → hp → Nat → Int32 → Int32 → Option Nat → Int32 → Option (hp)
  | 0, _, _, _, _, _, _ => none
  | n + 1, σ, t0, v1, v2, v3, v4 => S_X4_fillData_20_b (S_X4_fillData_20 n) σ t0 v1 v2 v3 v4
def S_X4_fillData (σ : hp) (t0 : Nat) (v1 : Int32) (v2 : Int32) (v3 : Option Nat) : Option (hp) :=
  (o_pI σ 4 1 (some t0) (38 : Int32)).bind fun s3 =>
  (o_gR s3 4 0 (some t0)).bind fun t7 =>
  (o_gI s3 3 1 v3).bind fun t13 =>
  (o_stI s3 0 t7 (6 : Int32) t13).bind fun s16 =>
  S_X4_fillData_20 FU s16 t0 v1 v2 v3 (0 : Int32)
def S_X4_isData_14 (σ : hp) (w0 : Int32) : Option (Int32) :=
  (o_z w0).bind fun z14 =>
  some z14
def S_X4_isData (σ : hp) (t0 : Nat) : Option (Int32) :=
  (o_gI σ 4 1 (some t0)).bind fun t1 =>
  if t1 ≤ (6 : Int32) then (S_X4_isData_14 σ (0 : Int32))
  else (S_X4_isData_14 σ (1 : Int32))
def S_X4_x (σ : hp) (t0 : Nat) : Option (Int32) :=
  (o_gR σ 4 0 (some t0)).bind fun t1 =>
  (o_ldI σ 0 t1 (4 : Int32)).bind fun t5 =>
  some ((t5 >>> ((3 : Int32) &&& 31)) &&& (7 : Int32))
def S_X4_y (σ : hp) (t0 : Nat) : Option (Int32) :=
  (o_gR σ 4 0 (some t0)).bind fun t1 =>
  (o_ldI σ 0 t1 (4 : Int32)).bind fun t5 =>
  some (t5 &&& (7 : Int32))
def S_X4_isMessageWellFormed_19 (σ : hp) : Option (Int32) :=
  some (0 : Int32)
def S_X4_isMessageWellFormed_26_b (rec26 : hp → Nat → Int32 → Option (Int32)) (σ : hp) (t0 : Nat) (v2 : Int32) : Option (Int32) :=
  if (38 : Int32) ≤ v2 then (some (1 : Int32))
  else ((o_gR σ 4 0 (some t0)).bind fun t33 =>
  (o_ldI σ 0 t33 v2).bind fun t37 =>
  if t37 = (0 : Int32) then (rec26 σ t0 (v2 + (1 : Int32)))
  else (some (0 : Int32)))
def S_X4_isMessageWellFormed_26 : Nat → hp → Nat → Int32 → Option (Int32)
  | 0, _, _, _ => none
  | n + 1, σ, t0, v2 => S_X4_isMessageWellFormed_26_b (S_X4_isMessageWellFormed_26 n) σ t0 v2
def S_X4_isMessageWellFormed (σ : hp) (t0 : Nat) : Option (Int32) :=
  (o_gR σ 4 0 (some t0)).bind fun t1 =>
  (o_ldI σ 0 t1 (6 : Int32)).bind fun t6 =>
  if t6 < (1 : Int32) then (S_X4_isMessageWellFormed_19 σ)
  else (if t6 ≤ (31 : Int32) then (S_X4_isMessageWellFormed_26 FU σ t0 ((7 : Int32) + t6))
  else (S_X4_isMessageWellFormed_19 σ))
def S_X4_hasHead_72 (σ : hp) (w0 : Int32) : Option (Int32) :=
  (o_z w0).bind fun z72 =>
  some z72
def S_X4_hasHead_71 (σ : hp) : Option (Int32) :=
  S_X4_hasHead_72 σ (0 : Int32)
def S_X4_hasHead (σ : hp) (t0 : Nat) (v1 : Int32) (v2 : Int32) (v3 : Int32) : Option (Int32) :=
  (o_gR σ 4 0 (some t0)).bind fun t18 =>
  (o_ldI σ 0 t18 (1 : Int32)).bind fun t22 =>
  if t22 = v1 then ((o_gR σ 4 0 (some t0)).bind fun t28 =>
  (o_ldI σ 0 t28 (2 : Int32)).bind fun t32 =>
  if t32 = (v3 &&& (255 : Int32)) then ((o_gR σ 4 0 (some t0)).bind fun t39 =>
  (o_ldI σ 0 t39 (3 : Int32)).bind fun t43 =>
  if t43 = ((v3 >>> ((8 : Int32) &&& 31)) &&& (255 : Int32)) then ((o_gR σ 4 0 (some t0)).bind fun t50 =>
  (o_ldI σ 0 t50 (5 : Int32)).bind fun t54 =>
  if t54 = (((v1 ^^^ (v3 &&& (255 : Int32))) ^^^ ((v3 >>> ((8 : Int32) &&& 31)) &&& (255 : Int32))) ^^^ v2) then (S_X4_hasHead_72 σ (1 : Int32))
  else (S_X4_hasHead_71 σ))
  else (S_X4_hasHead_71 σ))
  else (S_X4_hasHead_71 σ))
  else (S_X4_hasHead_71 σ)
def S_X4_isControl_31 (σ : hp) (w0 : Int32) : Option (Int32) :=
  (o_z w0).bind fun z31 =>
  some z31
def S_X4_isControl_26 (σ : hp) : Option (Int32) :=
  S_X4_isControl_31 σ (1 : Int32)
def S_X4_isControl (σ : hp) (v0 : Int32) : Option (Int32) :=
  if v0 = (1 : Int32) then (S_X4_isControl_26 σ)
  else (if v0 = (2 : Int32) then (S_X4_isControl_26 σ)
  else (if v0 = (4 : Int32) then (S_X4_isControl_26 σ)
  else (if v0 = (5 : Int32) then (S_X4_isControl_26 σ)
  else (if v0 = (7 : Int32) then (S_X4_isControl_26 σ)
  else (S_X4_isControl_31 σ (0 : Int32))))))
def S_X4_isGood_65 (σ : hp) (w0 : Int32) : Option (Int32) :=
  (o_z w0).bind fun z65 =>
  some z65
def S_X4_isGood_64 (σ : hp) : Option (Int32) :=
  S_X4_isGood_65 σ (0 : Int32)
def S_X4_isGood_102 (σ : hp) (w0 : Int32) : Option (Int32) :=
  (o_z w0).bind fun z102 =>
  some z102
def S_X4_isGood_101 (σ : hp) : Option (Int32) :=
  S_X4_isGood_102 σ (0 : Int32)
def S_X4_isGood (σ : hp) (t0 : Nat) : Option (Int32) :=
  (o_gR σ 4 0 (some t0)).bind fun t1 =>
  (o_ldI σ 0 t1 (0 : Int32)).bind fun t5 =>
  if t5 = (16 : Int32) then ((o_gR σ 4 0 (some t0)).bind fun t14 =>
  (o_ldI σ 0 t14 (4 : Int32)).bind fun t18 =>
  (o_rcv σ 4 (some t0)).bind fun b21 =>
  (S_X4_isData σ b21 ).bind fun q21 =>
  if q21 = (0 : Int32) then (if (t18 >>> ((6 : Int32) &&& 31)) = (0 : Int32) then ((o_rcv σ 4 (some t0)).bind fun b74 =>
  (S_X4_x σ b74 ).bind fun q74 =>
  (S_X4_isControl σ q74).bind fun q77 =>
  if q77 = (0 : Int32) then (S_X4_isGood_101 σ)
  else ((o_rcv σ 4 (some t0)).bind fun b91 =>
  (S_X4_hasHead σ b91 (9 : Int32) t18 ((43690 : Int32) - t18)).bind fun q91 =>
  if q91 = (0 : Int32) then (S_X4_isGood_101 σ)
  else (S_X4_isGood_102 σ (1 : Int32))))
  else (S_X4_isGood_101 σ))
  else (if (t18 >>> ((6 : Int32) &&& 31)) = (2 : Int32) then ((o_rcv σ 4 (some t0)).bind fun b36 =>
  (S_X4_isMessageWellFormed σ b36 ).bind fun q36 =>
  if q36 = (0 : Int32) then (S_X4_isGood_64 σ)
  else ((o_rcv σ 4 (some t0)).bind fun b48 =>
  (S_X4_sum σ b48 ).bind fun q48 =>
  (o_rcv σ 4 (some t0)).bind fun b54 =>
  (S_X4_hasHead σ b54 (1 : Int32) t18 ((43690 : Int32) - (q48 ^^^ t18))).bind fun q54 =>
  if q54 = (0 : Int32) then (S_X4_isGood_64 σ)
  else (S_X4_isGood_65 σ (1 : Int32))))
  else (S_X4_isGood_64 σ)))
  else (some (0 : Int32))
def S_X6_init_53 (rec35 : hp → Nat → Int32 → Option (hp)) (σ : hp) (t0 : Nat) (v1 : Int32) (w0 : Option Nat) (w1 : Int32) (w2 : Option Nat) : Option (hp) :=
  (o_stQ σ 6 3 w0 w1 w2).bind fun s53 =>
  rec35 s53 t0 (v1 + (1 : Int32))
def S_X6_init_49 (rec35 : hp → Nat → Int32 → Option (hp)) (σ : hp) (t0 : Nat) (v1 : Int32) (w0 : Option Nat) (w1 : Int32) (w2 : Option Nat) : Option (hp) :=
  (o_rcv σ 3 w2).bind fun b50 =>
  (S_X3_init σ b50 ).bind fun q50 =>
  S_X6_init_53 rec35 q50 t0 v1 w0 w1 w2
def S_X6_init_35_b (rec35 : hp → Nat → Int32 → Option (hp)) (σ : hp) (t0 : Nat) (v1 : Int32) : Option (hp) :=
  if (20 : Int32) ≤ v1 then (some σ)
  else ((o_gR σ 6 0 (some t0)).bind fun t42 =>
  (o_nw σ 3 2).bind fun q46 =>
  S_X6_init_49 rec35 q46.2 t0 v1 t42 v1 (some q46.1))
def S_X6_init_35 : Nat → hp → Nat → Int32 → Option (hp)
  | 0, _, _, _ => none
  | n + 1, σ, t0, v1 => S_X6_init_35_b (S_X6_init_35 n) σ t0 v1
def S_X6_init_30 (σ : hp) (t0 : Nat) (w0 : Option Nat) (w1 : Option Nat) : Option (hp) :=
  (o_pR σ 6 0 w0 w1).bind fun s30 =>
  S_X6_init_35 FU s30 t0 (0 : Int32)
def S_X6_init (σ : hp) (t0 : Nat) : Option (hp) :=
  (o_pI σ 6 1 (some t0) (0 : Int32)).bind fun s6 =>
  (o_pI s6 6 2 (some t0) (1 : Int32)).bind fun s11 =>
  (o_pI s11 6 3 (some t0) (0 : Int32)).bind fun s16 =>
  (o_pI s16 6 4 (some t0) (0 : Int32)).bind fun s21 =>
  (o_na s21 6 (20 : Int32)).bind fun q27 =>
  S_X6_init_30 q27.2 t0 (some t0) q27.1
def S_X5_init_34 (σ : hp) (t0 : Nat) (v1 : Int32) (v2 : Option Nat) (w0 : Option Nat) (w1 : Option Nat) : Option (hp) :=
  (o_pR σ 5 4 w0 w1).bind fun s34 =>
  (o_pI s34 5 5 (some t0) (0 : Int32)).bind fun s39 =>
  (o_pI s39 5 6 (some t0) (0 : Int32)).bind fun s44 =>
  (o_pI s44 5 7 (some t0) (-1 : Int32)).bind fun s49 =>
  (o_pI s49 5 8 (some t0) (0 : Int32)).bind fun s54 =>
  (o_z (0 : Int32)).bind fun z59 =>
  (o_pI s54 5 9 (some t0) z59).bind fun s59 =>
  (o_pI s59 5 10 (some t0) (0 : Int32)).bind fun s64 =>
  (o_pI s64 5 11 (some t0) (0 : Int32)).bind fun s69 =>
  (o_pI s69 5 12 (some t0) (0 : Int32)).bind fun s74 =>
  (o_pI s74 5 0 (some t0) v1).bind fun s79 =>
  (o_pR s79 5 1 (some t0) v2).bind fun s84 =>
  some s84
def S_X5_init_30 (σ : hp) (t0 : Nat) (v1 : Int32) (v2 : Option Nat) (w0 : Option Nat) (w1 : Option Nat) : Option (hp) :=
  (o_rcv σ 1 w1).bind fun b31 =>
  (S_X1_init σ b31 ).bind fun q31 =>
  S_X5_init_34 q31 t0 v1 v2 w0 w1
def S_X5_init_23 (σ : hp) (t0 : Nat) (v1 : Int32) (v2 : Option Nat) (w0 : Option Nat) (w1 : Option Nat) : Option (hp) :=
  (o_pR σ 5 3 w0 w1).bind fun s23 =>
  (o_nw s23 1 5).bind fun q27 =>
  S_X5_init_30 q27.2 t0 v1 v2 (some t0) (some q27.1)
def S_X5_init_19 (σ : hp) (t0 : Nat) (v1 : Int32) (v2 : Option Nat) (w0 : Option Nat) (w1 : Option Nat) : Option (hp) :=
  (o_rcv σ 6 w1).bind fun b20 =>
  (S_X6_init σ b20 ).bind fun q20 =>
  S_X5_init_23 q20 t0 v1 v2 w0 w1
def S_X5_init_12 (σ : hp) (t0 : Nat) (v1 : Int32) (v2 : Option Nat) (w0 : Option Nat) (w1 : Option Nat) : Option (hp) :=
  (o_pR σ 5 2 w0 w1).bind fun s12 =>
  (o_nw s12 6 5).bind fun q16 =>
  S_X5_init_19 q16.2 t0 v1 v2 (some t0) (some q16.1)
def S_X5_init_8 (σ : hp) (t0 : Nat) (v1 : Int32) (v2 : Option Nat) (w0 : Option Nat) (w1 : Option Nat) : Option (hp) :=
  (o_rcv σ 0 w1).bind fun b9 =>
  (S_X0_init σ b9 ).bind fun q9 =>
  S_X5_init_12 q9 t0 v1 v2 w0 w1
def S_X5_init (σ : hp) (t0 : Nat) (v1 : Int32) (v2 : Option Nat) : Option (hp) :=
  (o_nw σ 0 6).bind fun q5 =>
  S_X5_init_8 q5.2 t0 v1 v2 (some t0) (some q5.1)
def S_X6_clear (σ : hp) (t0 : Nat) : Option (hp) :=
  (o_pI σ 6 2 (some t0) (1 : Int32)).bind fun s2 =>
  (o_pI s2 6 3 (some t0) (0 : Int32)).bind fun s7 =>
  (o_pI s7 6 4 (some t0) (0 : Int32)).bind fun s12 =>
  some s12
def S_X5_begin (σ : hp) (t0 : Nat) (v1 : Int32) : Option (hp) :=
  (o_pI σ 5 5 (some t0) v1).bind fun s2 =>
  (o_gR s2 5 3 (some t0)).bind fun t6 =>
  (o_rcv s2 6 t6).bind fun b9 =>
  (S_X6_clear s2 b9 ).bind fun q9 =>
  (o_gR q9 5 4 (some t0)).bind fun t13 =>
  (o_rcv q9 1 t13).bind fun b16 =>
  (S_X1_forget q9 b16 ).bind fun q16 =>
  (o_pI q16 5 7 (some t0) (-1 : Int32)).bind fun s21 =>
  (o_pI s21 5 8 (some t0) (0 : Int32)).bind fun s26 =>
  (o_z (0 : Int32)).bind fun z31 =>
  (o_pI s26 5 9 (some t0) z31).bind fun s31 =>
  (o_pI s31 5 10 (some t0) (0 : Int32)).bind fun s36 =>
  (o_pI s36 5 11 (some t0) (0 : Int32)).bind fun s41 =>
  (o_pI s41 5 12 (some t0) (0 : Int32)).bind fun s46 =>
  some s46
def S_X7_add (σ : hp) (t0 : Nat) : Option (Option Nat × hp) :=
  (o_gI σ 7 3 (some t0)).bind fun t1 =>
  if t1 < (12 : Int32) then ((o_gI σ 7 3 (some t0)).bind fun t16 =>
  (o_pI σ 7 3 (some t0) (t16 + (1 : Int32))).bind fun s21 =>
  (o_gR s21 7 0 (some t0)).bind fun t25 =>
  (o_gI s21 7 2 (some t0)).bind fun t29 =>
  (o_gI s21 7 3 (some t0)).bind fun t33 =>
  (o_ldQ s21 3 t25 (((t29 + t33) - (1 : Int32)) - ((t29 + t33) - (1 : Int32)) / (12 : Int32) * (12 : Int32))).bind fun t42 =>
  some (t42, s21))
  else ((o_gR σ 7 1 (some t0)).bind fun t10 =>
  some (t10, σ))
def S_X5_beginCall (σ : hp) (t0 : Nat) : Option (hp) :=
  (o_rcv σ 5 (some t0)).bind fun b2 =>
  (S_X5_begin σ b2 (1 : Int32)).bind fun q2 =>
  (o_gR q2 5 2 (some t0)).bind fun t7 =>
  (o_gI q2 0 5 t7).bind fun t10 =>
  (o_pI q2 5 6 (some t0) (t10 &&& (7 : Int32))).bind fun s16 =>
  (o_gR s16 5 2 (some t0)).bind fun t20 =>
  (o_gI s16 0 5 t20).bind fun t24 =>
  (o_pI s16 0 5 t20 (t24 + (1 : Int32))).bind fun s29 =>
  (o_gR s29 5 1 (some t0)).bind fun t33 =>
  (o_rcv s29 7 t33).bind fun b36 =>
  (S_X7_add s29 b36 ).bind fun q36 =>
  (o_gI q36.2 5 6 (some t0)).bind fun t42 =>
  (o_rcv q36.2 4 q36.1).bind fun b45 =>
  (S_X4_fillControl q36.2 b45 (7 : Int32) t42).bind fun q45 =>
  some q45
def S_X6_number (σ : hp) (t0 : Nat) (v1 : Int32) : Option (Int32) :=
  (o_gI σ 6 2 (some t0)).bind fun t1 =>
  some ((t1 + v1) &&& (7 : Int32))
def S_X6_message (σ : hp) (t0 : Nat) (v1 : Int32) : Option (Option Nat) :=
  (o_gR σ 6 0 (some t0)).bind fun t1 =>
  (o_gI σ 6 1 (some t0)).bind fun t5 =>
  (o_ldQ σ 6 t1 ((t5 + v1) - (t5 + v1) / (20 : Int32) * (20 : Int32))).bind fun t13 =>
  some t13
def S_X5_sendOutFrom_2_b (rec2 : hp → Nat → Int32 → Option (hp)) (σ : hp) (t0 : Nat) (v2 : Int32) : Option (hp) :=
  (o_gR σ 5 3 (some t0)).bind fun t4 =>
  (o_gI σ 6 3 t4).bind fun t7 =>
  if t7 ≤ v2 then (some σ)
  else ((o_gR σ 5 1 (some t0)).bind fun t14 =>
  (o_rcv σ 7 t14).bind fun b17 =>
  (S_X7_add σ b17 ).bind fun q17 =>
  (o_gR q17.2 5 3 (some t0)).bind fun t21 =>
  (o_rcv q17.2 6 t21).bind fun b25 =>
  (S_X6_number q17.2 b25 v2).bind fun q25 =>
  (o_gI q17.2 5 8 (some t0)).bind fun t29 =>
  (o_gR q17.2 5 3 (some t0)).bind fun t33 =>
  (o_rcv q17.2 6 t33).bind fun b37 =>
  (S_X6_message q17.2 b37 v2).bind fun q37 =>
  (o_rcv q17.2 4 q17.1).bind fun b40 =>
  (S_X4_fillData q17.2 b40 q25 t29 q37).bind fun q40 =>
  rec2 q40 t0 (v2 + (1 : Int32)))
def S_X5_sendOutFrom_2 : Nat → hp → Nat → Int32 → Option (hp)
  | 0, _, _, _ => none
  | n + 1, σ, t0, v2 => S_X5_sendOutFrom_2_b (S_X5_sendOutFrom_2 n) σ t0 v2
def S_X5_sendOutFrom (σ : hp) (t0 : Nat) (v1 : Int32) : Option (hp) :=
  S_X5_sendOutFrom_2 FU σ t0 v1
def S_X5_passTickUnanswered (σ : hp) (t0 : Nat) : Option (Int32 × hp) :=
  (o_gI σ 5 10 (some t0)).bind fun t2 =>
  (o_pI σ 5 10 (some t0) (t2 + (1 : Int32))).bind fun s7 =>
  (o_gI s7 5 10 (some t0)).bind fun t11 =>
  if (4 : Int32) ≤ t11 then ((o_gI s7 5 11 (some t0)).bind fun t21 =>
  if t21 < (5 : Int32) then ((o_gI s7 5 11 (some t0)).bind fun t37 =>
  (o_pI s7 5 11 (some t0) (t37 + (1 : Int32))).bind fun s42 =>
  (o_pI s42 5 10 (some t0) (0 : Int32)).bind fun s47 =>
  (o_gI s47 5 5 (some t0)).bind fun t51 =>
  if t51 = (1 : Int32) then ((o_gR s47 5 1 (some t0)).bind fun t59 =>
  (o_rcv s47 7 t59).bind fun b62 =>
  (S_X7_add s47 b62 ).bind fun q62 =>
  (o_gI q62.2 5 6 (some t0)).bind fun t68 =>
  (o_rcv q62.2 4 q62.1).bind fun b71 =>
  (S_X4_fillControl q62.2 b71 (7 : Int32) t68).bind fun q71 =>
  some ((1 : Int32), q71))
  else ((o_rcv s47 5 (some t0)).bind fun b78 =>
  (S_X5_sendOutFrom s47 b78 (0 : Int32)).bind fun q78 =>
  (o_gR q78 5 3 (some t0)).bind fun t82 =>
  (o_gI q78 6 3 t82).bind fun t85 =>
  some (t85, q78)))
  else ((o_rcv s7 5 (some t0)).bind fun b30 =>
  (S_X5_begin s7 b30 (0 : Int32)).bind fun q30 =>
  some ((0 : Int32), q30)))
  else (some ((0 : Int32), s7))
def S_X5_isOpen_21 (σ : hp) (w0 : Int32) : Option (Int32) :=
  (o_z w0).bind fun z21 =>
  some z21
def S_X5_isOpen_16 (σ : hp) : Option (Int32) :=
  S_X5_isOpen_21 σ (1 : Int32)
def S_X5_isOpen (σ : hp) (t0 : Nat) : Option (Int32) :=
  (o_gI σ 5 5 (some t0)).bind fun t1 =>
  if t1 = (2 : Int32) then (S_X5_isOpen_16 σ)
  else ((o_gI σ 5 5 (some t0)).bind fun t9 =>
  if t9 = (3 : Int32) then (S_X5_isOpen_16 σ)
  else (S_X5_isOpen_21 σ (0 : Int32)))
def S_X5_passTick_18 (σ : hp) (t0 : Nat) : Option (Int32 × hp) :=
  (o_rcv σ 5 (some t0)).bind fun b19 =>
  (S_X5_passTickUnanswered σ b19 ).bind fun q19 =>
  some (q19.1, q19.2)
def S_X5_passTick_54 (σ : hp) : Option (Int32 × hp) :=
  some ((0 : Int32), σ)
def S_X5_passTick (σ : hp) (t0 : Nat) : Option (Int32 × hp) :=
  (o_gI σ 5 5 (some t0)).bind fun t1 =>
  if t1 = (1 : Int32) then (S_X5_passTick_18 σ t0)
  else ((o_gR σ 5 3 (some t0)).bind fun t9 =>
  (o_gI σ 6 3 t9).bind fun t12 =>
  if t12 ≤ (0 : Int32) then ((o_rcv σ 5 (some t0)).bind fun b24 =>
  (S_X5_isOpen σ b24 ).bind fun q24 =>
  if q24 = (0 : Int32) then (S_X5_passTick_54 σ)
  else ((o_gI σ 5 12 (some t0)).bind fun t32 =>
  (o_pI σ 5 12 (some t0) (t32 + (1 : Int32))).bind fun s37 =>
  (o_gI s37 5 12 (some t0)).bind fun t41 =>
  if t41 < (41 : Int32) then (S_X5_passTick_54 s37)
  else ((o_rcv s37 5 (some t0)).bind fun b51 =>
  (S_X5_begin s37 b51 (0 : Int32)).bind fun q51 =>
  S_X5_passTick_54 q51)))
  else (S_X5_passTick_18 σ t0))
def S_X6_acknowledge (σ : hp) (t0 : Nat) (v1 : Int32) : Option (Int32 × hp) :=
  (o_gI σ 6 2 (some t0)).bind fun t2 =>
  (o_gI σ 6 3 (some t0)).bind fun t14 =>
  if (((v1 - t2) &&& (7 : Int32)) + (1 : Int32)) ≤ t14 then ((o_gI σ 6 1 (some t0)).bind fun t24 =>
  (o_pI σ 6 1 (some t0) ((t24 + (((v1 - t2) &&& (7 : Int32)) + (1 : Int32))) - (t24 + (((v1 - t2) &&& (7 : Int32)) + (1 : Int32))) / (20 : Int32) * (20 : Int32))).bind fun s32 =>
  (o_gI s32 6 2 (some t0)).bind fun t37 =>
  (o_pI s32 6 2 (some t0) ((t37 + (((v1 - t2) &&& (7 : Int32)) + (1 : Int32))) &&& (7 : Int32))).bind fun s45 =>
  (o_gI s45 6 3 (some t0)).bind fun t50 =>
  (o_pI s45 6 3 (some t0) (t50 - (((v1 - t2) &&& (7 : Int32)) + (1 : Int32)))).bind fun s55 =>
  some ((1 : Int32), s55))
  else (some ((0 : Int32), σ))
def S_X5_takeAcknowledgement_21 (σ : hp) : Option (hp) :=
  some σ
def S_X5_takeAcknowledgement (σ : hp) (t0 : Nat) (v1 : Int32) : Option (hp) :=
  (o_gR σ 5 3 (some t0)).bind fun t1 =>
  (o_rcv σ 6 t1).bind fun b5 =>
  (S_X6_acknowledge σ b5 v1).bind fun q5 =>
  if q5.1 = (0 : Int32) then (S_X5_takeAcknowledgement_21 q5.2)
  else ((o_pI q5.2 5 10 (some t0) (0 : Int32)).bind fun s13 =>
  (o_pI s13 5 11 (some t0) (0 : Int32)).bind fun s18 =>
  S_X5_takeAcknowledgement_21 s18)
def S_X6_letOut (σ : hp) (t0 : Nat) : Option (Int32 × hp) :=
  (o_gI σ 6 3 (some t0)).bind fun t1 =>
  (o_gI σ 6 4 (some t0)).bind fun t6 =>
  (o_gI σ 6 3 (some t0)).bind fun t11 =>
  (o_gI σ 6 3 (some t0)).bind fun t21 =>
  (o_pI σ 6 3 (some t0) (t21 + (if ((3 : Int32) - t11) < t6 then ((3 : Int32) - t11) else t6))).bind fun s26 =>
  (o_gI s26 6 4 (some t0)).bind fun t31 =>
  (o_pI s26 6 4 (some t0) (t31 - (if ((3 : Int32) - t11) < t6 then ((3 : Int32) - t11) else t6))).bind fun s36 =>
  some (t1, s36)
def S_X6_add_59 (σ : hp) (v2 : Option Nat) : Option (Option Nat × hp) :=
  some (v2, σ)
def S_X6_add (σ : hp) (t0 : Nat) (v1 : Int32) : Option (Option Nat × hp) :=
  (o_gR σ 6 0 (some t0)).bind fun t1 =>
  (o_gI σ 6 1 (some t0)).bind fun t5 =>
  (o_gI σ 6 3 (some t0)).bind fun t9 =>
  (o_gI σ 6 4 (some t0)).bind fun t14 =>
  (o_ldQ σ 6 t1 (((t5 + t9) + t14) - ((t5 + t9) + t14) / (20 : Int32) * (20 : Int32))).bind fun t21 =>
  (o_gR σ 3 0 t21).bind fun t24 =>
  (o_stI σ 0 t24 (0 : Int32) v1).bind fun s29 =>
  (o_pI s29 3 1 t21 (1 : Int32)).bind fun s32 =>
  (o_gI s32 6 3 (some t0)).bind fun t36 =>
  (o_gI s32 6 4 (some t0)).bind fun t40 =>
  if (19 : Int32) ≤ (t36 + t40) then (S_X6_add_59 s32 t21)
  else ((o_gI s32 6 4 (some t0)).bind fun t51 =>
  (o_pI s32 6 4 (some t0) (t51 + (1 : Int32))).bind fun s56 =>
  S_X6_add_59 s56 t21)
def S_X5_goOn (σ : hp) (t0 : Nat) : Option (hp) :=
  (o_gR σ 5 2 (some t0)).bind fun t1 =>
  (o_rcv σ 0 t1).bind fun b4 =>
  (S_X0_firstJob σ b4 ).bind fun q4 =>
  if q4 = none then ((o_gR σ 5 3 (some t0)).bind fun t13 =>
  (o_rcv σ 6 t13).bind fun b18 =>
  (S_X6_add σ b18 (72 : Int32)).bind fun q18 =>
  some q18.2)
  else ((o_gR σ 5 3 (some t0)).bind fun t24 =>
  (o_rcv σ 6 t24).bind fun b29 =>
  (S_X6_add σ b29 (83 : Int32)).bind fun q29 =>
  (o_gI q29.2 2 0 q4).bind fun t35 =>
  (o_rcv q29.2 3 q29.1).bind fun b38 =>
  (S_X3_append q29.2 b38 t35).bind fun q38 =>
  (o_gR q38 2 1 q4).bind fun t43 =>
  (o_len q38 0 t43).bind fun t46 =>
  (o_rcv q38 3 q29.1).bind fun b47 =>
  (S_X3_append q38 b47 t46).bind fun q47 =>
  some q47)
def S_X5_addFile_51_b (rec15 : hp → Nat → Option Nat → Int32 → Option (hp)) (rec51 : hp → Nat → Option Nat → Int32 → Option Nat → Int32 → Int32 → Option (hp)) (σ : hp) (t0 : Nat) (v1 : Option Nat) (v2 : Int32) (v3 : Option Nat) (v4 : Int32) (v5 : Int32) : Option (hp) :=
  if v4 ≤ v5 then (rec15 σ t0 v1 (v2 + (30 : Int32)))
  else ((o_gR σ 2 1 v1).bind fun t60 =>
  (o_ldI σ 0 t60 v5).bind fun t65 =>
  (o_rcv σ 3 v3).bind fun b66 =>
  (S_X3_append σ b66 t65).bind fun q66 =>
  rec51 q66 t0 v1 v2 v3 v4 (v5 + (1 : Int32)))
def S_X5_addFile_51 (rec15 : hp → Nat → Option Nat → Int32 → Option (hp)) : Nat → hp → Nat → Option Nat → Int32 → Option Nat → Int32 → Int32 → Option (hp)
  | 0, _, _, _, _, _, _, _ => none
  | n + 1, σ, t0, v1, v2, v3, v4, v5 => S_X5_addFile_51_b rec15 (S_X5_addFile_51 rec15 n) σ t0 v1 v2 v3 v4 v5
def S_X5_addFile_15_b (rec15 : hp → Nat → Option Nat → Int32 → Option (hp)) (σ : hp) (t0 : Nat) (v1 : Option Nat) (v2 : Int32) : Option (hp) :=
  (o_gR σ 2 1 v1).bind fun t17 =>
  (o_len σ 0 t17).bind fun t20 =>
  if t20 ≤ v2 then (some σ)
  else ((o_gR σ 5 3 (some t0)).bind fun t25 =>
  (o_rcv σ 6 t25).bind fun b30 =>
  (S_X6_add σ b30 (68 : Int32)).bind fun q30 =>
  (o_gR q30.2 2 1 v1).bind fun t39 =>
  (o_len q30.2 0 t39).bind fun t42 =>
  S_X5_addFile_51 rec15 FU q30.2 t0 v1 v2 q30.1 (if t42 < (v2 + (30 : Int32)) then t42 else (v2 + (30 : Int32))) v2)
def S_X5_addFile_15 : Nat → hp → Nat → Option Nat → Int32 → Option (hp)
  | 0, _, _, _, _ => none
  | n + 1, σ, t0, v1, v2 => S_X5_addFile_15_b (S_X5_addFile_15 n) σ t0 v1 v2
def S_X5_addFile (σ : hp) (t0 : Nat) : Option (hp) :=
  (o_gR σ 5 2 (some t0)).bind fun t1 =>
  (o_rcv σ 0 t1).bind fun b4 =>
  (S_X0_firstJob σ b4 ).bind fun q4 =>
  if q4 = none then (some σ)
  else (S_X5_addFile_15 FU σ t0 q4 (0 : Int32))
def S_X5_doAsMaster_116 (σ : hp) : Option (hp) :=
  some σ
def S_X5_doAsMaster_64 (σ : hp) (t0 : Nat) : Option (hp) :=
  (o_gR σ 5 2 (some t0)).bind fun t65 =>
  (o_rcv σ 0 t65).bind fun b68 =>
  (S_X0_dropFirstJob σ b68 ).bind fun q68 =>
  if q68.1 = (0 : Int32) then (S_X5_doAsMaster_116 q68.2)
  else ((o_rcv q68.2 5 (some t0)).bind fun b75 =>
  (S_X5_goOn q68.2 b75 ).bind fun q75 =>
  S_X5_doAsMaster_116 q75)
def S_X5_doAsMaster (σ : hp) (t0 : Nat) (v1 : Option Nat) : Option (hp) :=
  (o_rcv σ 4 v1).bind fun b1 =>
  (S_X4_messageLength σ b1 ).bind fun q1 =>
  if q1 = (1 : Int32) then ((o_rcv σ 4 v1).bind fun b11 =>
  (S_X4_messageByte σ b11 (0 : Int32)).bind fun q11 =>
  if q11 = (67 : Int32) then (S_X5_doAsMaster_64 σ t0)
  else if q11 = (72 : Int32) then ((o_gR σ 5 1 (some t0)).bind fun t89 =>
  (o_rcv σ 7 t89).bind fun b92 =>
  (S_X7_add σ b92 ).bind fun q92 =>
  (o_rcv q92.2 4 q92.1).bind fun b97 =>
  (S_X4_fillControl q92.2 b97 (1 : Int32) (0 : Int32)).bind fun q97 =>
  (o_rcv q97 5 (some t0)).bind fun b102 =>
  (S_X5_begin q97 b102 (0 : Int32)).bind fun q102 =>
  S_X5_doAsMaster_116 q102)
  else if q11 = (78 : Int32) then (S_X5_doAsMaster_64 σ t0)
  else if q11 = (84 : Int32) then ((o_pI σ 5 5 (some t0) (3 : Int32)).bind fun s110 =>
  S_X5_doAsMaster_116 s110)
  else if q11 = (89 : Int32) then ((o_rcv σ 5 (some t0)).bind fun b82 =>
  (S_X5_addFile σ b82 ).bind fun q82 =>
  S_X5_doAsMaster_116 q82)
  else (S_X5_doAsMaster_116 σ))
  else (some σ)
def S_X5_takeOffer_50 (σ : hp) : Option (hp) :=
  some σ
def S_X5_takeOffer (σ : hp) (t0 : Nat) (v1 : Int32) (v2 : Int32) : Option (hp) :=
  if v2 ≤ (100 : Int32) then ((o_gR σ 5 2 (some t0)).bind fun t8 =>
  (o_rcv σ 0 t8).bind fun b12 =>
  (S_X0_hasDone σ b12 v1).bind fun q12 =>
  if q12 = (0 : Int32) then ((o_gR σ 5 3 (some t0)).bind fun t32 =>
  (o_rcv σ 6 t32).bind fun b37 =>
  (S_X6_add σ b37 (89 : Int32)).bind fun q37 =>
  (o_gR q37.2 5 4 (some t0)).bind fun t42 =>
  (o_rcv q37.2 1 t42).bind fun b47 =>
  (S_X1_begin q37.2 b47 v1 v2).bind fun q47 =>
  S_X5_takeOffer_50 q47)
  else ((o_gR σ 5 3 (some t0)).bind fun t19 =>
  (o_rcv σ 6 t19).bind fun b24 =>
  (S_X6_add σ b24 (78 : Int32)).bind fun q24 =>
  S_X5_takeOffer_50 q24.2))
  else (some σ)
def S_X5_doAsSlave_119 (σ : hp) : Option (hp) :=
  some σ
def S_X5_doAsSlave_39 (σ : hp) (t0 : Nat) (v1 : Option Nat) (v2 : Int32) (v3 : Int32) : Option (hp) :=
  if v3 = (68 : Int32) then ((o_gR σ 5 4 (some t0)).bind fun t46 =>
  (o_gI σ 1 1 t46).bind fun t49 =>
  if t49 = (0 : Int32) then (S_X5_doAsSlave_119 σ)
  else ((o_gR σ 5 4 (some t0)).bind fun t56 =>
  (o_rcv σ 1 t56).bind fun b60 =>
  (S_X1_takePart σ b60 v1).bind fun q60 =>
  S_X5_doAsSlave_119 q60))
  else (if v3 = (72 : Int32) then (if v2 = (1 : Int32) then ((o_gR σ 5 2 (some t0)).bind fun t78 =>
  (o_rcv σ 0 t78).bind fun b81 =>
  (S_X0_jobsLeft σ b81 ).bind fun q81 =>
  if q81 = (0 : Int32) then ((o_gR σ 5 3 (some t0)).bind fun t88 =>
  (o_rcv σ 6 t88).bind fun b93 =>
  (S_X6_add σ b93 (72 : Int32)).bind fun q93 =>
  S_X5_doAsSlave_119 q93.2)
  else ((o_gR σ 5 3 (some t0)).bind fun t101 =>
  (o_rcv σ 6 t101).bind fun b106 =>
  (S_X6_add σ b106 (84 : Int32)).bind fun q106 =>
  (o_pI q106.2 5 5 (some t0) (2 : Int32)).bind fun s112 =>
  (o_rcv s112 5 (some t0)).bind fun b116 =>
  (S_X5_goOn s112 b116 ).bind fun q116 =>
  S_X5_doAsSlave_119 q116))
  else (S_X5_doAsSlave_119 σ))
  else (S_X5_doAsSlave_119 σ))
def S_X5_doAsSlave (σ : hp) (t0 : Nat) (v1 : Option Nat) : Option (hp) :=
  (o_rcv σ 4 v1).bind fun b1 =>
  (S_X4_messageLength σ b1 ).bind fun q1 =>
  (o_rcv σ 4 v1).bind fun b7 =>
  (S_X4_messageByte σ b7 (0 : Int32)).bind fun q7 =>
  if q7 = (83 : Int32) then (if q1 = (3 : Int32) then ((o_rcv σ 4 v1).bind fun b25 =>
  (S_X4_messageByte σ b25 (1 : Int32)).bind fun q25 =>
  (o_rcv σ 4 v1).bind fun b30 =>
  (S_X4_messageByte σ b30 (2 : Int32)).bind fun q30 =>
  (o_rcv σ 5 (some t0)).bind fun b33 =>
  (S_X5_takeOffer σ b33 q25 q30).bind fun q33 =>
  S_X5_doAsSlave_119 q33)
  else (S_X5_doAsSlave_39 σ t0 v1 q1 q7))
  else (S_X5_doAsSlave_39 σ t0 v1 q1 q7)
def S_X5_executeWhatIsWhole_41 (σ : hp) : Option (hp) :=
  some σ
def S_X5_executeWhatIsWhole_21 (σ : hp) (t0 : Nat) (w0 : Option Nat) (w1 : Option Nat) : Option (hp) :=
  (o_rcv σ 0 w0).bind fun b21 =>
  (S_X0_addDone σ b21 w1).bind fun q21 =>
  (o_gR q21 5 4 (some t0)).bind fun t25 =>
  (o_rcv q21 1 t25).bind fun b28 =>
  (S_X1_forget q21 b28 ).bind fun q28 =>
  (o_gR q28 5 3 (some t0)).bind fun t32 =>
  (o_rcv q28 6 t32).bind fun b37 =>
  (S_X6_add q28 b37 (67 : Int32)).bind fun q37 =>
  S_X5_executeWhatIsWhole_41 q37.2
def S_X5_executeWhatIsWhole (σ : hp) (t0 : Nat) : Option (hp) :=
  (o_gR σ 5 4 (some t0)).bind fun t1 =>
  (o_rcv σ 1 t1).bind fun b4 =>
  (S_X1_isWhole σ b4 ).bind fun q4 =>
  if q4 = (0 : Int32) then (S_X5_executeWhatIsWhole_41 σ)
  else ((o_gR σ 5 2 (some t0)).bind fun t11 =>
  (o_gR σ 5 4 (some t0)).bind fun t15 =>
  (o_rcv σ 1 t15).bind fun b18 =>
  (S_X1_job σ b18 ).bind fun q18 =>
  S_X5_executeWhatIsWhole_21 q18.2 t0 t11 q18.1)
def S_X5_takeData_104 (σ : hp) : Option (hp) :=
  some σ
def S_X5_takeData (σ : hp) (t0 : Nat) (v1 : Option Nat) : Option (hp) :=
  (o_rcv σ 4 v1).bind fun b2 =>
  (S_X4_y σ b2 ).bind fun q2 =>
  (o_rcv σ 5 (some t0)).bind fun b5 =>
  (S_X5_takeAcknowledgement σ b5 q2).bind fun q5 =>
  (o_gR q5 5 3 (some t0)).bind fun t10 =>
  (o_rcv q5 6 t10).bind fun b13 =>
  (S_X6_letOut q5 b13 ).bind fun q13 =>
  (o_rcv q13.2 5 (some t0)).bind fun b16 =>
  (S_X5_sendOutFrom q13.2 b16 q13.1).bind fun q16 =>
  (o_rcv q16 4 v1).bind fun b20 =>
  (S_X4_x q16 b20 ).bind fun q20 =>
  (o_gI q16 5 8 (some t0)).bind fun t24 =>
  if q20 = ((t24 + (1 : Int32)) &&& (7 : Int32)) then ((o_rcv q16 4 v1).bind fun b53 =>
  (S_X4_x q16 b53 ).bind fun q53 =>
  (o_pI q16 5 8 (some t0) q53).bind fun s56 =>
  (o_z (1 : Int32)).bind fun z61 =>
  (o_pI s56 5 9 (some t0) z61).bind fun s61 =>
  (o_gR s61 5 1 (some t0)).bind fun t65 =>
  (o_rcv s61 7 t65).bind fun b68 =>
  (S_X7_add s61 b68 ).bind fun q68 =>
  (o_gI q68.2 5 8 (some t0)).bind fun t73 =>
  (o_rcv q68.2 4 q68.1).bind fun b76 =>
  (S_X4_fillControl q68.2 b76 (4 : Int32) t73).bind fun q76 =>
  (o_gI q76 5 5 (some t0)).bind fun t80 =>
  if t80 = (2 : Int32) then ((o_rcv q76 5 (some t0)).bind fun b89 =>
  (S_X5_doAsMaster q76 b89 v1).bind fun q89 =>
  S_X5_takeData_104 q89)
  else ((o_rcv q76 5 (some t0)).bind fun b97 =>
  (S_X5_doAsSlave q76 b97 v1).bind fun q97 =>
  (o_rcv q97 5 (some t0)).bind fun b101 =>
  (S_X5_executeWhatIsWhole q97 b101 ).bind fun q101 =>
  S_X5_takeData_104 q101))
  else ((o_gR q16 5 1 (some t0)).bind fun t36 =>
  (o_rcv q16 7 t36).bind fun b39 =>
  (S_X7_add q16 b39 ).bind fun q39 =>
  (o_gI q39.2 5 8 (some t0)).bind fun t44 =>
  (o_rcv q39.2 4 q39.1).bind fun b47 =>
  (S_X4_fillControl q39.2 b47 (4 : Int32) t44).bind fun q47 =>
  some q47)
def S_X5_takeInit_58 (σ : hp) : Option (hp) :=
  some σ
def S_X5_takeInit_49 (σ : hp) (t0 : Nat) (v1 : Int32) (v2 : Int32) (w0 : Int32) : Option (hp) :=
  if v2 = (0 : Int32) then (if w0 = (0 : Int32) then ((o_rcv σ 5 (some t0)).bind fun b61 =>
  (S_X5_begin σ b61 (3 : Int32)).bind fun q61 =>
  (o_pI q61 5 7 (some t0) v1).bind fun s66 =>
  (o_gR s66 5 1 (some t0)).bind fun t70 =>
  (o_rcv s66 7 t70).bind fun b73 =>
  (S_X7_add s66 b73 ).bind fun q73 =>
  (o_rcv q73.2 4 q73.1).bind fun b78 =>
  (S_X4_fillControl q73.2 b78 (5 : Int32) v1).bind fun q78 =>
  some q78)
  else (S_X5_takeInit_58 σ))
  else (S_X5_takeInit_58 σ)
def S_X5_takeInit_48 (σ : hp) (t0 : Nat) (v1 : Int32) (v2 : Int32) : Option (hp) :=
  S_X5_takeInit_49 σ t0 v1 v2 (0 : Int32)
def S_X5_takeInit_20 (σ : hp) (t0 : Nat) (v1 : Int32) (w0 : Int32) : Option (hp) :=
  (o_gI σ 5 5 (some t0)).bind fun t22 =>
  if t22 = (3 : Int32) then ((o_gI σ 5 7 (some t0)).bind fun t30 =>
  if t30 = v1 then ((o_gI σ 5 9 (some t0)).bind fun t38 =>
  if t38 = (0 : Int32) then (S_X5_takeInit_48 σ t0 v1 w0)
  else (S_X5_takeInit_49 σ t0 v1 w0 (1 : Int32)))
  else (S_X5_takeInit_48 σ t0 v1 w0))
  else (S_X5_takeInit_48 σ t0 v1 w0)
def S_X5_takeInit_19 (σ : hp) (t0 : Nat) (v1 : Int32) : Option (hp) :=
  S_X5_takeInit_20 σ t0 v1 (0 : Int32)
def S_X5_takeInit (σ : hp) (t0 : Nat) (v1 : Int32) : Option (hp) :=
  (o_gI σ 5 0 (some t0)).bind fun t1 =>
  if t1 = (0 : Int32) then ((o_gI σ 5 5 (some t0)).bind fun t8 =>
  if t8 = (1 : Int32) then (S_X5_takeInit_20 σ t0 v1 (1 : Int32))
  else (S_X5_takeInit_19 σ t0 v1))
  else (S_X5_takeInit_19 σ t0 v1)
def S_X5_takeAnswer_25 (σ : hp) : Option (hp) :=
  some σ
def S_X5_takeAnswer (σ : hp) (t0 : Nat) (v1 : Int32) : Option (hp) :=
  (o_gI σ 5 5 (some t0)).bind fun t1 =>
  if t1 = (1 : Int32) then ((o_gI σ 5 6 (some t0)).bind fun t9 =>
  if t9 = v1 then ((o_rcv σ 5 (some t0)).bind fun b18 =>
  (S_X5_begin σ b18 (2 : Int32)).bind fun q18 =>
  (o_rcv q18 5 (some t0)).bind fun b22 =>
  (S_X5_goOn q18 b22 ).bind fun q22 =>
  S_X5_takeAnswer_25 q22)
  else (S_X5_takeAnswer_25 σ))
  else (S_X5_takeAnswer_25 σ)
def S_X5_takeControl_31 (σ : hp) : Option (hp) :=
  some σ
def S_X5_takeControl (σ : hp) (t0 : Nat) (v1 : Int32) (v2 : Int32) : Option (hp) :=
  if v1 = (1 : Int32) then ((o_rcv σ 5 (some t0)).bind fun b7 =>
  (S_X5_begin σ b7 (0 : Int32)).bind fun q7 =>
  some q7)
  else ((o_rcv σ 5 (some t0)).bind fun b13 =>
  (S_X5_takeAcknowledgement σ b13 v2).bind fun q13 =>
  if v1 = (2 : Int32) then ((o_pI q13 5 10 (some t0) (0 : Int32)).bind fun s23 =>
  (o_rcv s23 5 (some t0)).bind fun b28 =>
  (S_X5_sendOutFrom s23 b28 (0 : Int32)).bind fun q28 =>
  S_X5_takeControl_31 q28)
  else (S_X5_takeControl_31 q13))
def S_X5_receive_29 (σ : hp) : Option (Int32 × hp) :=
  some ((0 : Int32), σ)
def S_X5_receive_112 (σ : hp) (t0 : Nat) : Option (Int32 × hp) :=
  (o_gR σ 5 3 (some t0)).bind fun t114 =>
  (o_rcv σ 6 t114).bind fun b117 =>
  (S_X6_letOut σ b117 ).bind fun q117 =>
  (o_rcv q117.2 5 (some t0)).bind fun b120 =>
  (S_X5_sendOutFrom q117.2 b120 q117.1).bind fun q120 =>
  some ((1 : Int32), q120)
def S_X5_receive_60 (σ : hp) (t0 : Nat) : Option (Int32 × hp) :=
  S_X5_receive_112 σ t0
def S_X5_receive (σ : hp) (t0 : Nat) (v1 : Option Nat) : Option (Int32 × hp) :=
  (o_rcv σ 4 v1).bind fun b1 =>
  (S_X4_isGood σ b1 ).bind fun q1 =>
  if q1 = (0 : Int32) then ((o_rcv σ 5 (some t0)).bind fun b8 =>
  (S_X5_isOpen σ b8 ).bind fun q8 =>
  if q8 = (0 : Int32) then (S_X5_receive_29 σ)
  else ((o_gR σ 5 1 (some t0)).bind fun t15 =>
  (o_rcv σ 7 t15).bind fun b18 =>
  (S_X7_add σ b18 ).bind fun q18 =>
  (o_gI q18.2 5 8 (some t0)).bind fun t23 =>
  (o_rcv q18.2 4 q18.1).bind fun b26 =>
  (S_X4_fillControl q18.2 b26 (2 : Int32) t23).bind fun q26 =>
  S_X5_receive_29 q26))
  else ((o_pI σ 5 12 (some t0) (0 : Int32)).bind fun s33 =>
  (o_rcv s33 4 v1).bind fun b37 =>
  (S_X4_x s33 b37 ).bind fun q37 =>
  (o_rcv s33 4 v1).bind fun b42 =>
  (S_X4_isData s33 b42 ).bind fun q42 =>
  if q42 = (0 : Int32) then (if q37 = (7 : Int32) then ((o_rcv s33 4 v1).bind fun b71 =>
  (S_X4_y s33 b71 ).bind fun q71 =>
  (o_rcv s33 5 (some t0)).bind fun b74 =>
  (S_X5_takeInit s33 b74 q71).bind fun q74 =>
  S_X5_receive_112 q74 t0)
  else (if q37 = (5 : Int32) then ((o_rcv s33 4 v1).bind fun b87 =>
  (S_X4_y s33 b87 ).bind fun q87 =>
  (o_rcv s33 5 (some t0)).bind fun b90 =>
  (S_X5_takeAnswer s33 b90 q87).bind fun q90 =>
  S_X5_receive_112 q90 t0)
  else ((o_rcv s33 5 (some t0)).bind fun b97 =>
  (S_X5_isOpen s33 b97 ).bind fun q97 =>
  if q97 = (0 : Int32) then (S_X5_receive_112 s33 t0)
  else ((o_rcv s33 4 v1).bind fun b106 =>
  (S_X4_y s33 b106 ).bind fun q106 =>
  (o_rcv s33 5 (some t0)).bind fun b109 =>
  (S_X5_takeControl s33 b109 q37 q106).bind fun q109 =>
  S_X5_receive_112 q109 t0))))
  else ((o_rcv s33 5 (some t0)).bind fun b49 =>
  (S_X5_isOpen s33 b49 ).bind fun q49 =>
  if q49 = (0 : Int32) then (S_X5_receive_112 s33 t0)
  else ((o_rcv s33 5 (some t0)).bind fun b57 =>
  (S_X5_takeData s33 b57 v1).bind fun q57 =>
  S_X5_receive_60 q57 t0)))
def S_X7_init_54 (rec36 : hp → Nat → Int32 → Option (hp)) (σ : hp) (t0 : Nat) (v1 : Int32) (w0 : Option Nat) (w1 : Int32) (w2 : Option Nat) : Option (hp) :=
  (o_stQ σ 3 4 w0 w1 w2).bind fun s54 =>
  rec36 s54 t0 (v1 + (1 : Int32))
def S_X7_init_50 (rec36 : hp → Nat → Int32 → Option (hp)) (σ : hp) (t0 : Nat) (v1 : Int32) (w0 : Option Nat) (w1 : Int32) (w2 : Option Nat) : Option (hp) :=
  (o_rcv σ 4 w2).bind fun b51 =>
  (S_X4_init σ b51 ).bind fun q51 =>
  S_X7_init_54 rec36 q51 t0 v1 w0 w1 w2
def S_X7_init_36_b (rec36 : hp → Nat → Int32 → Option (hp)) (σ : hp) (t0 : Nat) (v1 : Int32) : Option (hp) :=
  if (12 : Int32) ≤ v1 then (some σ)
  else ((o_gR σ 7 0 (some t0)).bind fun t43 =>
  (o_nw σ 4 2).bind fun q47 =>
  S_X7_init_50 rec36 q47.2 t0 v1 t43 v1 (some q47.1))
def S_X7_init_36 : Nat → hp → Nat → Int32 → Option (hp)
  | 0, _, _, _ => none
  | n + 1, σ, t0, v1 => S_X7_init_36_b (S_X7_init_36 n) σ t0 v1
def S_X7_init_31 (σ : hp) (t0 : Nat) (w0 : Option Nat) (w1 : Option Nat) : Option (hp) :=
  (o_pR σ 7 0 w0 w1).bind fun s31 =>
  S_X7_init_36 FU s31 t0 (0 : Int32)
def S_X7_init_12 (σ : hp) (t0 : Nat) (w0 : Option Nat) (w1 : Option Nat) : Option (hp) :=
  (o_pR σ 7 1 w0 w1).bind fun s12 =>
  (o_pI s12 7 2 (some t0) (0 : Int32)).bind fun s17 =>
  (o_pI s17 7 3 (some t0) (0 : Int32)).bind fun s22 =>
  (o_na s22 3 (12 : Int32)).bind fun q28 =>
  S_X7_init_31 q28.2 t0 (some t0) q28.1
def S_X7_init_8 (σ : hp) (t0 : Nat) (w0 : Option Nat) (w1 : Option Nat) : Option (hp) :=
  (o_rcv σ 4 w1).bind fun b9 =>
  (S_X4_init σ b9 ).bind fun q9 =>
  S_X7_init_12 q9 t0 w0 w1
def S_X7_init (σ : hp) (t0 : Nat) : Option (hp) :=
  (o_nw σ 4 2).bind fun q5 =>
  S_X7_init_8 q5.2 t0 (some t0) (some q5.1)
def S_X7_packet_30 (σ : hp) (w0 : Option Nat) : Option (Option Nat) :=
  some w0
def S_X7_packet_29 (σ : hp) : Option (Option Nat) :=
  S_X7_packet_30 σ none
def S_X7_packet (σ : hp) (t0 : Nat) (v1 : Int32) : Option (Option Nat) :=
  if v1 < (0 : Int32) then (S_X7_packet_29 σ)
  else ((o_gI σ 7 3 (some t0)).bind fun t6 =>
  if t6 ≤ v1 then (S_X7_packet_29 σ)
  else ((o_gR σ 7 0 (some t0)).bind fun t13 =>
  (o_gI σ 7 2 (some t0)).bind fun t17 =>
  (o_ldQ σ 3 t13 ((t17 + v1) - (t17 + v1) / (12 : Int32) * (12 : Int32))).bind fun t25 =>
  S_X7_packet_30 σ t25))
def S_X7_dropFirst_30 (σ : hp) : Option (hp) :=
  some σ
def S_X7_dropFirst (σ : hp) (t0 : Nat) : Option (hp) :=
  (o_gI σ 7 3 (some t0)).bind fun t1 =>
  if t1 ≤ (0 : Int32) then (S_X7_dropFirst_30 σ)
  else ((o_gI σ 7 2 (some t0)).bind fun t9 =>
  (o_pI σ 7 2 (some t0) ((t9 + (1 : Int32)) - (t9 + (1 : Int32)) / (12 : Int32) * (12 : Int32))).bind fun s17 =>
  (o_gI s17 7 3 (some t0)).bind fun t22 =>
  (o_pI s17 7 3 (some t0) (t22 - (1 : Int32))).bind fun s27 =>
  S_X7_dropFirst_30 s27)
def S_X7_clear (σ : hp) (t0 : Nat) : Option (hp) :=
  (o_pI σ 7 3 (some t0) (0 : Int32)).bind fun s2 =>
  some s2
def S_X8_init_79 (σ : hp) (t0 : Nat) (w0 : Option Nat) (w1 : Option Nat) : Option (hp) :=
  (o_pR σ 8 2 w0 w1).bind fun s79 =>
  (o_pI s79 8 3 (some t0) (0 : Int32)).bind fun s84 =>
  some s84
def S_X8_init_70 (σ : hp) (t0 : Nat) (w0 : Option Nat) (w1 : Option Nat) (w2 : Option Nat) (w3 : Int32) (w4 : Option Nat) : Option (hp) :=
  (o_stQ σ 4 5 w2 w3 w4).bind fun s70 =>
  (o_pR s70 8 1 w0 w1).bind fun s71 =>
  (o_na s71 0 (100 : Int32)).bind fun q77 =>
  S_X8_init_79 q77.2 t0 (some t0) q77.1
def S_X8_init_59 (σ : hp) (t0 : Nat) (w0 : Option Nat) (w1 : Option Nat) (w2 : Option Nat) (w3 : Int32) (w4 : Option Nat) : Option (hp) :=
  (o_gR σ 8 0 (some t0)).bind fun t62 =>
  (o_ldQ σ 2 t62 (1 : Int32)).bind fun t66 =>
  (o_rcv σ 5 w4).bind fun b67 =>
  (S_X5_init σ b67 (1 : Int32) t66).bind fun q67 =>
  S_X8_init_70 q67 t0 w0 w1 w2 w3 w4
def S_X8_init_53 (σ : hp) (t0 : Nat) (w0 : Option Nat) (w1 : Option Nat) (w2 : Option Nat) (w3 : Int32) (w4 : Option Nat) : Option (hp) :=
  (o_stQ σ 4 5 w2 w3 w4).bind fun s53 =>
  (o_nw s53 5 13).bind fun q56 =>
  S_X8_init_59 q56.2 t0 w0 w1 w1 (1 : Int32) (some q56.1)
def S_X8_init_42 (σ : hp) (t0 : Nat) (w0 : Option Nat) (w1 : Option Nat) (w2 : Option Nat) (w3 : Int32) (w4 : Option Nat) : Option (hp) :=
  (o_gR σ 8 0 (some t0)).bind fun t45 =>
  (o_ldQ σ 2 t45 (0 : Int32)).bind fun t49 =>
  (o_rcv σ 5 w4).bind fun b50 =>
  (S_X5_init σ b50 (0 : Int32) t49).bind fun q50 =>
  S_X8_init_53 q50 t0 w0 w1 w2 w3 w4
def S_X8_init_37 (σ : hp) (t0 : Nat) (w0 : Option Nat) (w1 : Option Nat) : Option (hp) :=
  (o_nw σ 5 13).bind fun q39 =>
  S_X8_init_42 q39.2 t0 w0 w1 w1 (0 : Int32) (some q39.1)
def S_X8_init_28 (σ : hp) (t0 : Nat) (w0 : Option Nat) (w1 : Option Nat) (w2 : Option Nat) (w3 : Int32) (w4 : Option Nat) : Option (hp) :=
  (o_stQ σ 2 7 w2 w3 w4).bind fun s28 =>
  (o_pR s28 8 0 w0 w1).bind fun s29 =>
  (o_na s29 4 (2 : Int32)).bind fun q34 =>
  S_X8_init_37 q34.2 t0 (some t0) q34.1
def S_X8_init_24 (σ : hp) (t0 : Nat) (w0 : Option Nat) (w1 : Option Nat) (w2 : Option Nat) (w3 : Int32) (w4 : Option Nat) : Option (hp) :=
  (o_rcv σ 7 w4).bind fun b25 =>
  (S_X7_init σ b25 ).bind fun q25 =>
  S_X8_init_28 q25 t0 w0 w1 w2 w3 w4
def S_X8_init_18 (σ : hp) (t0 : Nat) (w0 : Option Nat) (w1 : Option Nat) (w2 : Option Nat) (w3 : Int32) (w4 : Option Nat) : Option (hp) :=
  (o_stQ σ 2 7 w2 w3 w4).bind fun s18 =>
  (o_nw s18 7 4).bind fun q21 =>
  S_X8_init_24 q21.2 t0 w0 w1 w1 (1 : Int32) (some q21.1)
def S_X8_init_14 (σ : hp) (t0 : Nat) (w0 : Option Nat) (w1 : Option Nat) (w2 : Option Nat) (w3 : Int32) (w4 : Option Nat) : Option (hp) :=
  (o_rcv σ 7 w4).bind fun b15 =>
  (S_X7_init σ b15 ).bind fun q15 =>
  S_X8_init_18 q15 t0 w0 w1 w2 w3 w4
def S_X8_init_9 (σ : hp) (t0 : Nat) (w0 : Option Nat) (w1 : Option Nat) : Option (hp) :=
  (o_nw σ 7 4).bind fun q11 =>
  S_X8_init_14 q11.2 t0 w0 w1 w1 (0 : Int32) (some q11.1)
def S_X8_init (σ : hp) (t0 : Nat) : Option (hp) :=
  (o_na σ 2 (2 : Int32)).bind fun q6 =>
  S_X8_init_9 q6.2 t0 (some t0) q6.1
def S_X8_put_20 (σ : hp) : Option (Int32 × hp) :=
  some ((-1 : Int32), σ)
def S_X8_put (σ : hp) (t0 : Nat) (v1 : Int32) : Option (Int32 × hp) :=
  if v1 < (0 : Int32) then (S_X8_put_20 σ)
  else (if (255 : Int32) < v1 then (S_X8_put_20 σ)
  else ((o_gI σ 8 3 (some t0)).bind fun t12 =>
  if t12 < (100 : Int32) then ((o_gR σ 8 2 (some t0)).bind fun t23 =>
  (o_gI σ 8 3 (some t0)).bind fun t27 =>
  (o_stI σ 0 t23 t27 v1).bind fun s31 =>
  (o_gI s31 8 3 (some t0)).bind fun t34 =>
  (o_pI s31 8 3 (some t0) (t34 + (1 : Int32))).bind fun s39 =>
  (o_gI s39 8 3 (some t0)).bind fun t43 =>
  some (t43, s39))
  else (S_X8_put_20 σ)))
def S_X8_isSite_14 (σ : hp) (w0 : Int32) : Option (Int32) :=
  (o_z w0).bind fun z14 =>
  some z14
def S_X8_isSite_9 (σ : hp) : Option (Int32) :=
  S_X8_isSite_14 σ (1 : Int32)
def S_X8_isSite (σ : hp) (v0 : Int32) : Option (Int32) :=
  if v0 = (0 : Int32) then (S_X8_isSite_9 σ)
  else (if v0 = (1 : Int32) then (S_X8_isSite_9 σ)
  else (S_X8_isSite_14 σ (0 : Int32)))
def S_X8_queue_40 (σ : hp) (v2 : Int32) : Option (Int32 × hp) :=
  some (v2, σ)
def S_X8_queue_29 (σ : hp) (t0 : Nat) (w0 : Int32) : Option (Int32 × hp) :=
  if w0 = (-1 : Int32) then (S_X8_queue_40 σ w0)
  else ((o_pI σ 8 3 (some t0) (0 : Int32)).bind fun s37 =>
  S_X8_queue_40 s37 w0)
def S_X8_queue (σ : hp) (t0 : Nat) (v1 : Int32) : Option (Int32 × hp) :=
  (S_X8_isSite σ v1).bind fun q1 =>
  if q1 = (0 : Int32) then (some ((-1 : Int32), σ))
  else ((o_gR σ 8 1 (some t0)).bind fun t10 =>
  (o_ldQ σ 4 t10 v1).bind fun t14 =>
  (o_gR σ 5 2 t14).bind fun t15 =>
  (o_gR σ 8 2 (some t0)).bind fun t19 =>
  (o_gI σ 8 3 (some t0)).bind fun t23 =>
  (o_rcv σ 0 t15).bind fun b26 =>
  (S_X0_addJob σ b26 t19 t23).bind fun q26 =>
  S_X8_queue_29 q26.2 t0 q26.1)
def S_X8_call_19 (σ : hp) : Option (Int32 × hp) :=
  some ((0 : Int32), σ)
def S_X8_call (σ : hp) (t0 : Nat) (v1 : Int32) : Option (Int32 × hp) :=
  (S_X8_isSite σ v1).bind fun q1 =>
  if q1 = (0 : Int32) then (S_X8_call_19 σ)
  else ((o_gR σ 8 1 (some t0)).bind fun t8 =>
  (o_ldQ σ 4 t8 v1).bind fun t12 =>
  (o_gI σ 5 5 t12).bind fun t13 =>
  if t13 = (0 : Int32) then ((o_gR σ 8 0 (some t0)).bind fun t22 =>
  (o_ldQ σ 2 t22 (0 : Int32)).bind fun t26 =>
  (o_rcv σ 7 t26).bind fun b27 =>
  (S_X7_clear σ b27 ).bind fun q27 =>
  (o_gR q27 8 0 (some t0)).bind fun t31 =>
  (o_ldQ q27 2 t31 (1 : Int32)).bind fun t35 =>
  (o_rcv q27 7 t35).bind fun b36 =>
  (S_X7_clear q27 b36 ).bind fun q36 =>
  (o_gR q36 8 1 (some t0)).bind fun t40 =>
  (o_ldQ q36 4 t40 v1).bind fun t44 =>
  (o_rcv q36 5 t44).bind fun b45 =>
  (S_X5_beginCall q36 b45 ).bind fun q45 =>
  some ((1 : Int32), q45))
  else (S_X8_call_19 σ))
def S_X8_handOver_46 (σ : hp) (w0 : Int32) : Option (Int32 × hp) :=
  some (w0, σ)
def S_X8_handOver_38 (σ : hp) (w0 : Int32) : Option (Int32 × hp) :=
  if w0 = (0 : Int32) then (S_X8_handOver_46 σ (0 : Int32))
  else (S_X8_handOver_46 σ (1 : Int32))
def S_X8_handOver (σ : hp) (t0 : Nat) (v1 : Int32) : Option (Int32 × hp) :=
  (o_gR σ 8 0 (some t0)).bind fun t1 =>
  (o_ldQ σ 2 t1 v1).bind fun t5 =>
  (o_rcv σ 7 t5).bind fun b7 =>
  (S_X7_packet σ b7 (0 : Int32)).bind fun q7 =>
  if q7 = none then (some ((-1 : Int32), σ))
  else ((o_gR σ 8 0 (some t0)).bind fun t18 =>
  (o_ldQ σ 2 t18 v1).bind fun t22 =>
  (o_rcv σ 7 t22).bind fun b23 =>
  (S_X7_dropFirst σ b23 ).bind fun q23 =>
  (o_gR q23 8 1 (some t0)).bind fun t27 =>
  (o_ldQ q23 4 t27 ((1 : Int32) - v1)).bind fun t33 =>
  (o_rcv q23 5 t33).bind fun b35 =>
  (S_X5_receive q23 b35 q7).bind fun q35 =>
  S_X8_handOver_38 q35.2 q35.1)
def S_X8_deliver_16 (σ : hp) (w0 : Int32) : Option (Int32 × hp) :=
  some (w0, σ)
def S_X8_deliver_12 (σ : hp) (w0 : Int32) : Option (Int32 × hp) :=
  S_X8_deliver_16 σ w0
def S_X8_deliver (σ : hp) (t0 : Nat) (v1 : Int32) : Option (Int32 × hp) :=
  (S_X8_isSite σ v1).bind fun q1 =>
  if q1 = (0 : Int32) then (S_X8_deliver_16 σ (-1 : Int32))
  else ((o_rcv σ 8 (some t0)).bind fun b9 =>
  (S_X8_handOver σ b9 v1).bind fun q9 =>
  S_X8_deliver_12 q9.2 q9.1)
def S_X8_packetOn_21 (σ : hp) (w0 : Option Nat) : Option (Option Nat) :=
  some w0
def S_X8_packetOn (σ : hp) (t0 : Nat) (v1 : Int32) (v2 : Int32) : Option (Option Nat) :=
  (S_X8_isSite σ v1).bind fun q1 =>
  if q1 = (0 : Int32) then (S_X8_packetOn_21 σ none)
  else ((o_gR σ 8 0 (some t0)).bind fun t8 =>
  (o_ldQ σ 2 t8 v1).bind fun t12 =>
  (o_rcv σ 7 t12).bind fun b14 =>
  (S_X7_packet σ b14 v2).bind fun q14 =>
  S_X8_packetOn_21 σ q14)
def S_X8_lose (σ : hp) (t0 : Nat) (v1 : Int32) : Option (Int32 × hp) :=
  (o_rcv σ 8 (some t0)).bind fun b3 =>
  (S_X8_packetOn σ b3 v1 (0 : Int32)).bind fun q3 =>
  if q3 = none then (some ((0 : Int32), σ))
  else ((o_gR σ 8 0 (some t0)).bind fun t12 =>
  (o_ldQ σ 2 t12 v1).bind fun t16 =>
  (o_rcv σ 7 t16).bind fun b17 =>
  (S_X7_dropFirst σ b17 ).bind fun q17 =>
  some ((1 : Int32), q17))
def S_X8_alter_38 (σ : hp) : Option (Int32 × hp) :=
  some ((0 : Int32), σ)
def S_X8_alter (σ : hp) (t0 : Nat) (v1 : Int32) (v2 : Int32) (v3 : Int32) : Option (Int32 × hp) :=
  (o_rcv σ 8 (some t0)).bind fun b3 =>
  (S_X8_packetOn σ b3 v1 (0 : Int32)).bind fun q3 =>
  if q3 = none then (S_X8_alter_38 σ)
  else (if v2 < (0 : Int32) then (S_X8_alter_38 σ)
  else ((o_gI σ 4 1 q3).bind fun t20 =>
  if t20 ≤ v2 then (S_X8_alter_38 σ)
  else (if v3 < (1 : Int32) then (S_X8_alter_38 σ)
  else (if v3 ≤ (255 : Int32) then ((o_gR σ 4 0 q3).bind fun t42 =>
  (o_ldI σ 0 t42 v2).bind fun t47 =>
  (o_stI σ 0 t42 v2 (t47 ^^^ v3)).bind fun s50 =>
  some ((1 : Int32), s50))
  else (S_X8_alter_38 σ)))))
def S_X8_tick (σ : hp) (t0 : Nat) : Option (Int32 × hp) :=
  (o_gR σ 8 1 (some t0)).bind fun t1 =>
  (o_ldQ σ 4 t1 (0 : Int32)).bind fun t5 =>
  (o_rcv σ 5 t5).bind fun b6 =>
  (S_X5_passTick σ b6 ).bind fun q6 =>
  (o_gR q6.2 8 1 (some t0)).bind fun t11 =>
  (o_ldQ q6.2 4 t11 (1 : Int32)).bind fun t15 =>
  (o_rcv q6.2 5 t15).bind fun b16 =>
  (S_X5_passTick q6.2 b16 ).bind fun q16 =>
  some ((q6.1 + q16.1), q16.2)
def S_X8_crash (σ : hp) (t0 : Nat) (v1 : Int32) : Option (Int32 × hp) :=
  (S_X8_isSite σ v1).bind fun q1 =>
  if q1 = (0 : Int32) then (some ((0 : Int32), σ))
  else ((o_gR σ 8 1 (some t0)).bind fun t10 =>
  (o_ldQ σ 4 t10 v1).bind fun t14 =>
  (o_rcv σ 5 t14).bind fun b16 =>
  (S_X5_begin σ b16 (0 : Int32)).bind fun q16 =>
  some ((1 : Int32), q16))
def S_X8_settle_12 (σ : hp) : Option (Int32 × hp) :=
  some ((-1 : Int32), σ)
def S_X8_settle_50 (rec18 : hp → Nat → Int32 → Int32 → Int32 → Option (Int32 × hp)) (σ : hp) (t0 : Nat) (v1 : Int32) (v3 : Int32) (v4 : Int32) (w0 : Int32) : Option (Int32 × hp) :=
  if w0 = (-1 : Int32) then (some (v3, σ))
  else (rec18 σ t0 v1 ((1 : Int32) - v4) (v3 + (1 : Int32)))
def S_X8_settle_42 (rec18 : hp → Nat → Int32 → Int32 → Int32 → Option (Int32 × hp)) (σ : hp) (t0 : Nat) (v1 : Int32) (v3 : Int32) (w0 : Int32) : Option (Int32 × hp) :=
  (o_rcv σ 8 (some t0)).bind fun b47 =>
  (S_X8_handOver σ b47 w0).bind fun q47 =>
  S_X8_settle_50 rec18 q47.2 t0 v1 v3 w0 q47.1
def S_X8_settle_18_b (rec18 : hp → Nat → Int32 → Int32 → Int32 → Option (Int32 × hp)) (σ : hp) (t0 : Nat) (v1 : Int32) (v2 : Int32) (v3 : Int32) : Option (Int32 × hp) :=
  if v1 ≤ v3 then (some (v1, σ))
  else ((o_gR σ 8 0 (some t0)).bind fun t24 =>
  (o_ldQ σ 2 t24 v2).bind fun t28 =>
  (o_gI σ 7 3 t28).bind fun t29 =>
  if t29 ≤ (0 : Int32) then (S_X8_settle_42 rec18 σ t0 v1 v3 ((1 : Int32) - v2))
  else (S_X8_settle_42 rec18 σ t0 v1 v3 v2))
def S_X8_settle_18 : Nat → hp → Nat → Int32 → Int32 → Int32 → Option (Int32 × hp)
  | 0, _, _, _, _, _ => none
  | n + 1, σ, t0, v1, v2, v3 => S_X8_settle_18_b (S_X8_settle_18 n) σ t0 v1 v2 v3
def S_X8_settle (σ : hp) (t0 : Nat) (v1 : Int32) : Option (Int32 × hp) :=
  if v1 < (1 : Int32) then (S_X8_settle_12 σ)
  else (if v1 ≤ (200 : Int32) then (S_X8_settle_18 FU σ t0 v1 (0 : Int32) (0 : Int32))
  else (S_X8_settle_12 σ))
def S_X8_waiting_20 (σ : hp) (w0 : Int32) : Option (Int32) :=
  some w0
def S_X8_waiting (σ : hp) (t0 : Nat) (v1 : Int32) : Option (Int32) :=
  (S_X8_isSite σ v1).bind fun q1 =>
  if q1 = (0 : Int32) then (S_X8_waiting_20 σ (-1 : Int32))
  else ((o_gR σ 8 0 (some t0)).bind fun t8 =>
  (o_ldQ σ 2 t8 v1).bind fun t12 =>
  (o_gI σ 7 3 t12).bind fun t13 =>
  S_X8_waiting_20 σ t13)
def S_X8_look_26 (σ : hp) : Option (Int32) :=
  some (-1 : Int32)
def S_X8_look (σ : hp) (t0 : Nat) (v1 : Int32) (v2 : Int32) (v3 : Int32) : Option (Int32) :=
  (o_rcv σ 8 (some t0)).bind fun b3 =>
  (S_X8_packetOn σ b3 v1 v2).bind fun q3 =>
  if q3 = none then (S_X8_look_26 σ)
  else (if v3 < (0 : Int32) then (S_X8_look_26 σ)
  else ((o_gI σ 4 1 q3).bind fun t20 =>
  if v3 < t20 then ((o_gR σ 4 0 q3).bind fun t30 =>
  (o_ldI σ 0 t30 v3).bind fun t34 =>
  some t34)
  else (S_X8_look_26 σ)))
def S_X8_told (σ : hp) (t0 : Nat) (v1 : Int32) (v2 : Int32) : Option (Int32) :=
  (S_X8_isSite σ v1).bind fun q1 =>
  if q1 = (0 : Int32) then (some (-1 : Int32))
  else ((o_gR σ 8 1 (some t0)).bind fun t10 =>
  (o_ldQ σ 4 t10 v1).bind fun t14 =>
  if v2 = (0 : Int32) then ((o_gR σ 5 2 t14).bind fun t57 =>
  (o_rcv σ 0 t57).bind fun b60 =>
  (S_X0_jobsLeft σ b60 ).bind fun q60 =>
  some q60)
  else if v2 = (1 : Int32) then ((o_gR σ 5 2 t14).bind fun t65 =>
  (o_gI σ 0 4 t65).bind fun t68 =>
  some t68)
  else if v2 = (2 : Int32) then ((o_gI σ 5 5 t14).bind fun t73 =>
  some t73)
  else if v2 = (3 : Int32) then ((o_gR σ 5 3 t14).bind fun t78 =>
  (o_gI σ 6 3 t78).bind fun t81 =>
  some t81)
  else if v2 = (4 : Int32) then ((o_gR σ 5 3 t14).bind fun t86 =>
  (o_gI σ 6 4 t86).bind fun t89 =>
  some t89)
  else if v2 = (5 : Int32) then ((o_gR σ 5 2 t14).bind fun t94 =>
  (o_gI σ 0 5 t94).bind fun t97 =>
  some t97)
  else (some (-1 : Int32)))
def S_X8_queued_27 (σ : hp) : Option (Int32) :=
  some (-1 : Int32)
def S_X8_queued (σ : hp) (t0 : Nat) (v1 : Int32) (v2 : Int32) : Option (Int32) :=
  (S_X8_isSite σ v1).bind fun q1 =>
  if q1 = (0 : Int32) then (S_X8_queued_27 σ)
  else (if v2 < (0 : Int32) then (S_X8_queued_27 σ)
  else ((o_gR σ 8 1 (some t0)).bind fun t13 =>
  (o_ldQ σ 4 t13 v1).bind fun t17 =>
  (o_gR σ 5 2 t17).bind fun t18 =>
  (o_rcv σ 0 t18).bind fun b21 =>
  (S_X0_jobsLeft σ b21 ).bind fun q21 =>
  if v2 < q21 then ((o_gR σ 8 1 (some t0)).bind fun t30 =>
  (o_ldQ σ 4 t30 v1).bind fun t34 =>
  (o_gR σ 5 2 t34).bind fun t35 =>
  (o_gI σ 0 1 t35).bind fun t38 =>
  some (t38 + v2))
  else (S_X8_queued_27 σ)))
def S_X8_doneJob_24 (σ : hp) (w0 : Option Nat) : Option (Option Nat) :=
  some w0
def S_X8_doneJob (σ : hp) (t0 : Nat) (v1 : Int32) (v2 : Int32) : Option (Option Nat) :=
  (S_X8_isSite σ v1).bind fun q1 =>
  if q1 = (0 : Int32) then (S_X8_doneJob_24 σ none)
  else ((o_gR σ 8 1 (some t0)).bind fun t8 =>
  (o_ldQ σ 4 t8 v1).bind fun t12 =>
  (o_gR σ 5 2 t12).bind fun t13 =>
  (o_rcv σ 0 t13).bind fun b17 =>
  (S_X0_doneJob σ b17 v2).bind fun q17 =>
  S_X8_doneJob_24 σ q17)
def S_X8_executed_19 (σ : hp) (w0 : Int32) : Option (Int32) :=
  some w0
def S_X8_executed (σ : hp) (t0 : Nat) (v1 : Int32) (v2 : Int32) : Option (Int32) :=
  (o_rcv σ 8 (some t0)).bind fun b3 =>
  (S_X8_doneJob σ b3 v1 v2).bind fun q3 =>
  if q3 = none then (S_X8_executed_19 σ (-1 : Int32))
  else ((o_gI σ 2 0 q3).bind fun t16 =>
  S_X8_executed_19 σ t16)
def S_X8_file_27 (σ : hp) : Option (Int32) :=
  some (-1 : Int32)
def S_X8_file (σ : hp) (t0 : Nat) (v1 : Int32) (v2 : Int32) (v3 : Int32) : Option (Int32) :=
  (o_rcv σ 8 (some t0)).bind fun b3 =>
  (S_X8_doneJob σ b3 v1 v2).bind fun q3 =>
  if q3 = none then (S_X8_file_27 σ)
  else (if v3 < (0 : Int32) then (S_X8_file_27 σ)
  else ((o_gR σ 2 1 q3).bind fun t20 =>
  (o_len σ 0 t20).bind fun t23 =>
  if v3 < t23 then ((o_gR σ 2 1 q3).bind fun t31 =>
  (o_ldI σ 0 t31 v3).bind fun t35 =>
  some t35)
  else (S_X8_file_27 σ)))
def S_X8_times_27 (σ : hp) : Option (Int32) :=
  some (-1 : Int32)
def S_X8_times_52 (σ : hp) (w0 : Int32) : Option (Int32) :=
  some w0
def S_X8_times (σ : hp) (t0 : Nat) (v1 : Int32) (v2 : Int32) : Option (Int32) :=
  (S_X8_isSite σ v1).bind fun q1 =>
  if q1 = (0 : Int32) then (S_X8_times_27 σ)
  else (if v2 < (0 : Int32) then (S_X8_times_27 σ)
  else ((o_gR σ 8 1 (some t0)).bind fun t13 =>
  (o_ldQ σ 4 t13 v1).bind fun t17 =>
  (o_gR σ 5 2 t17).bind fun t18 =>
  (o_gI σ 0 2 t18).bind fun t21 =>
  if v2 < t21 then ((o_gR σ 8 1 (some t0)).bind fun t30 =>
  (o_ldQ σ 4 t30 ((1 : Int32) - v1)).bind fun t36 =>
  (o_gR σ 5 2 t36).bind fun t37 =>
  (o_rcv σ 0 t37).bind fun b41 =>
  (S_X0_hasDone σ b41 v2).bind fun q41 =>
  if q41 = (0 : Int32) then (S_X8_times_52 σ (0 : Int32))
  else (S_X8_times_52 σ (1 : Int32)))
  else (S_X8_times_27 σ)))
def S_X9_init_269 (σ : hp) (w0 : Option Nat) (w1 : Option Nat) : Option (hp) :=
  (o_pR σ 9 36 w0 w1).bind fun s269 =>
  some s269
def S_X9_init_261 (σ : hp) (t0 : Nat) (w0 : Option Nat) (w1 : Option Nat) : Option (hp) :=
  (o_pR σ 9 35 w0 w1).bind fun s261 =>
  (o_na s261 0 (32 : Int32)).bind fun q267 =>
  S_X9_init_269 q267.2 (some t0) q267.1
def S_X9_init_253 (σ : hp) (t0 : Nat) (w0 : Option Nat) (w1 : Option Nat) : Option (hp) :=
  (o_pR σ 9 34 w0 w1).bind fun s253 =>
  (o_na s253 0 (32 : Int32)).bind fun q259 =>
  S_X9_init_261 q259.2 t0 (some t0) q259.1
def S_X9_init_246 (σ : hp) (t0 : Nat) (w0 : Option Nat) (w1 : Option Nat) : Option (hp) :=
  (o_pR σ 9 33 w0 w1).bind fun s246 =>
  (o_na s246 0 (2 : Int32)).bind fun q251 =>
  S_X9_init_253 q251.2 t0 (some t0) q251.1
def S_X9_init_239 (σ : hp) (t0 : Nat) (w0 : Option Nat) (w1 : Option Nat) : Option (hp) :=
  (o_pR σ 9 32 w0 w1).bind fun s239 =>
  (o_na s239 0 (2 : Int32)).bind fun q244 =>
  S_X9_init_246 q244.2 t0 (some t0) q244.1
def S_X9_init_230 (σ : hp) (t0 : Nat) (w0 : Option Nat) (w1 : Option Nat) : Option (hp) :=
  (o_pR σ 9 31 w0 w1).bind fun s230 =>
  (o_na s230 0 (200 : Int32)).bind fun q237 =>
  S_X9_init_239 q237.2 t0 (some t0) q237.1
def S_X9_init_223 (σ : hp) (t0 : Nat) (w0 : Option Nat) (w1 : Option Nat) : Option (hp) :=
  (o_pR σ 9 30 w0 w1).bind fun s223 =>
  (o_na s223 0 (2 : Int32)).bind fun q228 =>
  S_X9_init_230 q228.2 t0 (some t0) q228.1
def S_X9_init_216 (σ : hp) (t0 : Nat) (w0 : Option Nat) (w1 : Option Nat) : Option (hp) :=
  (o_pR σ 9 29 w0 w1).bind fun s216 =>
  (o_na s216 0 (2 : Int32)).bind fun q221 =>
  S_X9_init_223 q221.2 t0 (some t0) q221.1
def S_X9_init_209 (σ : hp) (t0 : Nat) (w0 : Option Nat) (w1 : Option Nat) : Option (hp) :=
  (o_pR σ 9 28 w0 w1).bind fun s209 =>
  (o_na s209 0 (2 : Int32)).bind fun q214 =>
  S_X9_init_216 q214.2 t0 (some t0) q214.1
def S_X9_init_202 (σ : hp) (t0 : Nat) (w0 : Option Nat) (w1 : Option Nat) : Option (hp) :=
  (o_pR σ 9 27 w0 w1).bind fun s202 =>
  (o_na s202 1 (2 : Int32)).bind fun q207 =>
  S_X9_init_209 q207.2 t0 (some t0) q207.1
def S_X9_init_193 (σ : hp) (t0 : Nat) (w0 : Option Nat) (w1 : Option Nat) : Option (hp) :=
  (o_pR σ 9 26 w0 w1).bind fun s193 =>
  (o_na s193 0 (1024 : Int32)).bind fun q200 =>
  S_X9_init_202 q200.2 t0 (some t0) q200.1
def S_X9_init_186 (σ : hp) (t0 : Nat) (w0 : Option Nat) (w1 : Option Nat) : Option (hp) :=
  (o_pR σ 9 25 w0 w1).bind fun s186 =>
  (o_na s186 0 (2 : Int32)).bind fun q191 =>
  S_X9_init_193 q191.2 t0 (some t0) q191.1
def S_X9_init_177 (σ : hp) (t0 : Nat) (w0 : Option Nat) (w1 : Option Nat) : Option (hp) :=
  (o_pR σ 9 24 w0 w1).bind fun s177 =>
  (o_na s177 0 (192 : Int32)).bind fun q184 =>
  S_X9_init_186 q184.2 t0 (some t0) q184.1
def S_X9_init_169 (σ : hp) (t0 : Nat) (w0 : Option Nat) (w1 : Option Nat) : Option (hp) :=
  (o_pR σ 9 23 w0 w1).bind fun s169 =>
  (o_na s169 0 (6 : Int32)).bind fun q175 =>
  S_X9_init_177 q175.2 t0 (some t0) q175.1
def S_X9_init_162 (σ : hp) (t0 : Nat) (w0 : Option Nat) (w1 : Option Nat) : Option (hp) :=
  (o_pR σ 9 22 w0 w1).bind fun s162 =>
  (o_na s162 0 (2 : Int32)).bind fun q167 =>
  S_X9_init_169 q167.2 t0 (some t0) q167.1
def S_X9_init_155 (σ : hp) (t0 : Nat) (w0 : Option Nat) (w1 : Option Nat) : Option (hp) :=
  (o_pR σ 9 21 w0 w1).bind fun s155 =>
  (o_na s155 0 (2 : Int32)).bind fun q160 =>
  S_X9_init_162 q160.2 t0 (some t0) q160.1
def S_X9_init_148 (σ : hp) (t0 : Nat) (w0 : Option Nat) (w1 : Option Nat) : Option (hp) :=
  (o_pR σ 9 20 w0 w1).bind fun s148 =>
  (o_na s148 0 (2 : Int32)).bind fun q153 =>
  S_X9_init_155 q153.2 t0 (some t0) q153.1
def S_X9_init_141 (σ : hp) (t0 : Nat) (w0 : Option Nat) (w1 : Option Nat) : Option (hp) :=
  (o_pR σ 9 19 w0 w1).bind fun s141 =>
  (o_na s141 1 (2 : Int32)).bind fun q146 =>
  S_X9_init_148 q146.2 t0 (some t0) q146.1
def S_X9_init_134 (σ : hp) (t0 : Nat) (w0 : Option Nat) (w1 : Option Nat) : Option (hp) :=
  (o_pR σ 9 18 w0 w1).bind fun s134 =>
  (o_na s134 0 (2 : Int32)).bind fun q139 =>
  S_X9_init_141 q139.2 t0 (some t0) q139.1
def S_X9_init_127 (σ : hp) (t0 : Nat) (w0 : Option Nat) (w1 : Option Nat) : Option (hp) :=
  (o_pR σ 9 17 w0 w1).bind fun s127 =>
  (o_na s127 1 (2 : Int32)).bind fun q132 =>
  S_X9_init_134 q132.2 t0 (some t0) q132.1
def S_X9_init_120 (σ : hp) (t0 : Nat) (w0 : Option Nat) (w1 : Option Nat) : Option (hp) :=
  (o_pR σ 9 15 w0 w1).bind fun s120 =>
  (o_na s120 0 (2 : Int32)).bind fun q125 =>
  S_X9_init_127 q125.2 t0 (some t0) q125.1
def S_X9_init_112 (σ : hp) (t0 : Nat) (w0 : Option Nat) (w1 : Option Nat) : Option (hp) :=
  (o_pR σ 9 14 w0 w1).bind fun s112 =>
  (o_na s112 0 (38 : Int32)).bind fun q118 =>
  S_X9_init_120 q118.2 t0 (some t0) q118.1
def S_X9_init_104 (σ : hp) (t0 : Nat) (w0 : Option Nat) (w1 : Option Nat) : Option (hp) :=
  (o_pR σ 9 13 w0 w1).bind fun s104 =>
  (o_na s104 0 (24 : Int32)).bind fun q110 =>
  S_X9_init_112 q110.2 t0 (some t0) q110.1
def S_X9_init_95 (σ : hp) (t0 : Nat) (w0 : Option Nat) (w1 : Option Nat) : Option (hp) :=
  (o_pR σ 9 12 w0 w1).bind fun s95 =>
  (o_na s95 0 (912 : Int32)).bind fun q102 =>
  S_X9_init_104 q102.2 t0 (some t0) q102.1
def S_X9_init_88 (σ : hp) (t0 : Nat) (w0 : Option Nat) (w1 : Option Nat) : Option (hp) :=
  (o_pR σ 9 10 w0 w1).bind fun s88 =>
  (o_na s88 0 (2 : Int32)).bind fun q93 =>
  S_X9_init_95 q93.2 t0 (some t0) q93.1
def S_X9_init_80 (σ : hp) (t0 : Nat) (w0 : Option Nat) (w1 : Option Nat) : Option (hp) :=
  (o_pR σ 9 9 w0 w1).bind fun s80 =>
  (o_na s80 0 (100 : Int32)).bind fun q86 =>
  S_X9_init_88 q86.2 t0 (some t0) q86.1
def S_X9_init_73 (σ : hp) (t0 : Nat) (w0 : Option Nat) (w1 : Option Nat) : Option (hp) :=
  (o_pR σ 9 8 w0 w1).bind fun s73 =>
  (o_na s73 0 (2 : Int32)).bind fun q78 =>
  S_X9_init_80 q78.2 t0 (some t0) q78.1
def S_X9_init_65 (σ : hp) (t0 : Nat) (w0 : Option Nat) (w1 : Option Nat) : Option (hp) :=
  (o_pR σ 9 7 w0 w1).bind fun s65 =>
  (o_na s65 0 (51200 : Int32)).bind fun q71 =>
  S_X9_init_73 q71.2 t0 (some t0) q71.1
def S_X9_init_56 (σ : hp) (t0 : Nat) (w0 : Option Nat) (w1 : Option Nat) : Option (hp) :=
  (o_pR σ 9 6 w0 w1).bind fun s56 =>
  (o_na s56 0 (512 : Int32)).bind fun q63 =>
  S_X9_init_65 q63.2 t0 (some t0) q63.1
def S_X9_init_47 (σ : hp) (t0 : Nat) (w0 : Option Nat) (w1 : Option Nat) : Option (hp) :=
  (o_pR σ 9 5 w0 w1).bind fun s47 =>
  (o_na s47 0 (512 : Int32)).bind fun q54 =>
  S_X9_init_56 q54.2 t0 (some t0) q54.1
def S_X9_init_40 (σ : hp) (t0 : Nat) (w0 : Option Nat) (w1 : Option Nat) : Option (hp) :=
  (o_pR σ 9 4 w0 w1).bind fun s40 =>
  (o_na s40 0 (2 : Int32)).bind fun q45 =>
  S_X9_init_47 q45.2 t0 (some t0) q45.1
def S_X9_init_32 (σ : hp) (t0 : Nat) (w0 : Option Nat) (w1 : Option Nat) : Option (hp) :=
  (o_pR σ 9 3 w0 w1).bind fun s32 =>
  (o_na s32 0 (60 : Int32)).bind fun q38 =>
  S_X9_init_40 q38.2 t0 (some t0) q38.1
def S_X9_init_25 (σ : hp) (t0 : Nat) (w0 : Option Nat) (w1 : Option Nat) : Option (hp) :=
  (o_pR σ 9 2 w0 w1).bind fun s25 =>
  (o_na s25 0 (2 : Int32)).bind fun q30 =>
  S_X9_init_32 q30.2 t0 (some t0) q30.1
def S_X9_init_16 (σ : hp) (t0 : Nat) (w0 : Option Nat) (w1 : Option Nat) : Option (hp) :=
  (o_pR σ 9 1 w0 w1).bind fun s16 =>
  (o_na s16 0 (6000 : Int32)).bind fun q23 =>
  S_X9_init_25 q23.2 t0 (some t0) q23.1
def S_X9_init_8 (σ : hp) (t0 : Nat) (w0 : Option Nat) (w1 : Option Nat) : Option (hp) :=
  (o_pR σ 9 0 w0 w1).bind fun s8 =>
  (o_na s8 0 (60 : Int32)).bind fun q14 =>
  S_X9_init_16 q14.2 t0 (some t0) q14.1
def S_X9_init (σ : hp) (t0 : Nat) : Option (hp) :=
  (o_na σ 0 (2 : Int32)).bind fun q6 =>
  S_X9_init_8 q6.2 t0 (some t0) q6.1
def S_X9_isSite_14 (σ : hp) (w0 : Int32) : Option (Int32) :=
  (o_z w0).bind fun z14 =>
  some z14
def S_X9_isSite_9 (σ : hp) : Option (Int32) :=
  S_X9_isSite_14 σ (1 : Int32)
def S_X9_isSite (σ : hp) (v0 : Int32) : Option (Int32) :=
  if v0 = (0 : Int32) then (S_X9_isSite_9 σ)
  else (if v0 = (1 : Int32) then (S_X9_isSite_9 σ)
  else (S_X9_isSite_14 σ (0 : Int32)))
def S_X9_put_20 (σ : hp) : Option (Int32 × hp) :=
  some ((-1 : Int32), σ)
def S_X9_put (σ : hp) (t0 : Nat) (v1 : Int32) : Option (Int32 × hp) :=
  (o_gI σ 9 11 (some t0)).bind fun t1 =>
  if t1 = (100 : Int32) then (S_X9_put_20 σ)
  else (if v1 < (0 : Int32) then (S_X9_put_20 σ)
  else (if v1 ≤ (255 : Int32) then ((o_gR σ 9 10 (some t0)).bind fun t23 =>
  (o_gI σ 9 11 (some t0)).bind fun t27 =>
  (o_stI σ 0 t23 t27 v1).bind fun s31 =>
  (o_gI s31 9 11 (some t0)).bind fun t34 =>
  (o_pI s31 9 11 (some t0) (t34 + (1 : Int32))).bind fun s39 =>
  (o_gI s39 9 11 (some t0)).bind fun t43 =>
  some (t43, s39))
  else (S_X9_put_20 σ)))
def S_X9_queue_18 (σ : hp) : Option (Int32 × hp) :=
  some ((-1 : Int32), σ)
def S_X9_queue_44_b (rec44 : hp → Nat → Int32 → Int32 → Int32 → Option (Int32 × hp)) (σ : hp) (t0 : Nat) (v1 : Int32) (v2 : Int32) (v3 : Int32) : Option (Int32 × hp) :=
  (o_gI σ 9 11 (some t0)).bind fun t46 =>
  if t46 ≤ v3 then ((o_pI σ 9 11 (some t0) (0 : Int32)).bind fun s83 =>
  (o_gR s83 9 4 (some t0)).bind fun t87 =>
  (o_gR s83 9 3 (some t0)).bind fun t95 =>
  (o_ldI s83 0 t95 v1).bind fun t99 =>
  (o_stI s83 0 t87 (((30 : Int32) * v1) + t99) v2).bind fun s102 =>
  (o_gR s102 9 3 (some t0)).bind fun t104 =>
  (o_ldI s102 0 t104 v1).bind fun t109 =>
  (o_stI s102 0 t104 v1 (t109 + (1 : Int32))).bind fun s112 =>
  (o_gR s112 9 0 (some t0)).bind fun t114 =>
  (o_ldI s112 0 t114 v1).bind fun t119 =>
  (o_stI s112 0 t114 v1 (t119 + (1 : Int32))).bind fun s122 =>
  some (v2, s122))
  else ((o_gR σ 9 2 (some t0)).bind fun t53 =>
  (o_gR σ 9 10 (some t0)).bind fun t69 =>
  (o_ldI σ 0 t69 v3).bind fun t73 =>
  (o_stI σ 0 t53 ((((3000 : Int32) * v1) + ((100 : Int32) * v2)) + v3) t73).bind fun s74 =>
  rec44 s74 t0 v1 v2 (v3 + (1 : Int32)))
def S_X9_queue_44 : Nat → hp → Nat → Int32 → Int32 → Int32 → Option (Int32 × hp)
  | 0, _, _, _, _, _ => none
  | n + 1, σ, t0, v1, v2, v3 => S_X9_queue_44_b (S_X9_queue_44 n) σ t0 v1 v2 v3
def S_X9_queue (σ : hp) (t0 : Nat) (v1 : Int32) : Option (Int32 × hp) :=
  (S_X9_isSite σ v1).bind fun q1 =>
  if q1 = (0 : Int32) then (S_X9_queue_18 σ)
  else ((o_gR σ 9 0 (some t0)).bind fun t8 =>
  (o_ldI σ 0 t8 v1).bind fun t12 =>
  if t12 = (30 : Int32) then (S_X9_queue_18 σ)
  else ((o_gR σ 9 0 (some t0)).bind fun t21 =>
  (o_ldI σ 0 t21 v1).bind fun t25 =>
  (o_gR σ 9 1 (some t0)).bind fun t28 =>
  (o_gI σ 9 11 (some t0)).bind fun t38 =>
  (o_stI σ 0 t28 (((30 : Int32) * v1) + t25) t38).bind fun s41 =>
  S_X9_queue_44 FU s41 t0 v1 t25 (0 : Int32)))
def S_X9_leave_12_b (rec12 : hp → Nat → Int32 → Int32 → Option (hp)) (σ : hp) (t0 : Nat) (v1 : Int32) (v2 : Int32) : Option (hp) :=
  (o_gR σ 9 3 (some t0)).bind fun t14 =>
  (o_ldI σ 0 t14 v1).bind fun t18 =>
  if t18 ≤ v2 then (some σ)
  else ((o_gR σ 9 4 (some t0)).bind fun t23 =>
  (o_gR σ 9 4 (some t0)).bind fun t33 =>
  (o_ldI σ 0 t33 ((((30 : Int32) * v1) + v2) + (1 : Int32))).bind fun t44 =>
  (o_stI σ 0 t23 (((30 : Int32) * v1) + v2) t44).bind fun s45 =>
  rec12 s45 t0 v1 (v2 + (1 : Int32)))
def S_X9_leave_12 : Nat → hp → Nat → Int32 → Int32 → Option (hp)
  | 0, _, _, _, _ => none
  | n + 1, σ, t0, v1, v2 => S_X9_leave_12_b (S_X9_leave_12 n) σ t0 v1 v2
def S_X9_leave (σ : hp) (t0 : Nat) (v1 : Int32) : Option (hp) :=
  (o_gR σ 9 3 (some t0)).bind fun t1 =>
  (o_ldI σ 0 t1 v1).bind fun t6 =>
  (o_stI σ 0 t1 v1 (t6 - (1 : Int32))).bind fun s9 =>
  S_X9_leave_12 FU s9 t0 v1 (0 : Int32)
def S_X9_isExecuted_42 (rec5 : hp → Nat → Int32 → Int32 → Int32 → Int32 → Option (Int32)) (σ : hp) (t0 : Nat) (v1 : Int32) (v2 : Int32) (v4 : Int32) (w0 : Int32) : Option (Int32) :=
  rec5 σ t0 v1 v2 w0 (v4 + (1 : Int32))
def S_X9_isExecuted_37 (rec5 : hp → Nat → Int32 → Int32 → Int32 → Int32 → Option (Int32)) (σ : hp) (t0 : Nat) (v1 : Int32) (v2 : Int32) (v4 : Int32) : Option (Int32) :=
  S_X9_isExecuted_42 rec5 σ t0 v1 v2 v4 (1 : Int32)
def S_X9_isExecuted_5_b (rec5 : hp → Nat → Int32 → Int32 → Int32 → Int32 → Option (Int32)) (σ : hp) (t0 : Nat) (v1 : Int32) (v2 : Int32) (v3 : Int32) (v4 : Int32) : Option (Int32) :=
  (o_gR σ 9 5 (some t0)).bind fun t8 =>
  (o_ldI σ 0 t8 v1).bind fun t12 =>
  if t12 ≤ v4 then ((o_z v3).bind fun z50 =>
  some z50)
  else (if v3 = (0 : Int32) then ((o_gR σ 9 6 (some t0)).bind fun t21 =>
  (o_ldI σ 0 t21 (((256 : Int32) * v1) + v4)).bind fun t32 =>
  if t32 = v2 then (S_X9_isExecuted_37 rec5 σ t0 v1 v2 v4)
  else (S_X9_isExecuted_42 rec5 σ t0 v1 v2 v4 (0 : Int32)))
  else (S_X9_isExecuted_37 rec5 σ t0 v1 v2 v4))
def S_X9_isExecuted_5 : Nat → hp → Nat → Int32 → Int32 → Int32 → Int32 → Option (Int32)
  | 0, _, _, _, _, _, _ => none
  | n + 1, σ, t0, v1, v2, v3, v4 => S_X9_isExecuted_5_b (S_X9_isExecuted_5 n) σ t0 v1 v2 v3 v4
def S_X9_isExecuted (σ : hp) (t0 : Nat) (v1 : Int32) (v2 : Int32) : Option (Int32) :=
  S_X9_isExecuted_5 FU σ t0 v1 v2 (0 : Int32) (0 : Int32)
def S_X9_left (σ : hp) (v0 : Int32) : Option (Int32) :=
  some (((v0 <<< ((1 : Int32) &&& 31)) ||| (v0 >>> ((15 : Int32) &&& 31))) &&& (65535 : Int32))
def S_X9_sum_62 (rec8 : hp → Nat → Int32 → Int32 → Int32 → Int32 → Option (Int32)) (σ : hp) (t0 : Nat) (v1 : Int32) (v3 : Int32) (v4 : Int32) (w0 : Int32) : Option (Int32) :=
  rec8 σ t0 v1 w0 v3 (v4 + (1 : Int32))
def S_X9_sum_8_b (rec8 : hp → Nat → Int32 → Int32 → Int32 → Int32 → Option (Int32)) (σ : hp) (t0 : Nat) (v1 : Int32) (v2 : Int32) (v3 : Int32) (v4 : Int32) : Option (Int32) :=
  if (32 : Int32) ≤ v4 then (some v2)
  else ((S_X9_left σ v2).bind fun q19 =>
  (o_gR σ 9 15 (some t0)).bind fun t23 =>
  (o_ldI σ 0 t23 (v1 + v4)).bind fun t30 =>
  if ((q19 + t30) &&& (65535 : Int32)) ≤ v2 then (S_X9_sum_62 rec8 σ t0 v1 ((v3 + (((q19 + t30) &&& (65535 : Int32)) ^^^ ((32 : Int32) - v4))) &&& (65535 : Int32)) v4 (((q19 + t30) &&& (65535 : Int32)) ^^^ ((v3 + (((q19 + t30) &&& (65535 : Int32)) ^^^ ((32 : Int32) - v4))) &&& (65535 : Int32))))
  else (S_X9_sum_62 rec8 σ t0 v1 ((v3 + (((q19 + t30) &&& (65535 : Int32)) ^^^ ((32 : Int32) - v4))) &&& (65535 : Int32)) v4 ((q19 + t30) &&& (65535 : Int32))))
def S_X9_sum_8 : Nat → hp → Nat → Int32 → Int32 → Int32 → Int32 → Option (Int32)
  | 0, _, _, _, _, _, _ => none
  | n + 1, σ, t0, v1, v2, v3, v4 => S_X9_sum_8_b (S_X9_sum_8 n) σ t0 v1 v2 v3 v4
def S_X9_sum (σ : hp) (t0 : Nat) (v1 : Int32) : Option (Int32) :=
  S_X9_sum_8 FU σ t0 v1 (65535 : Int32) (0 : Int32) (0 : Int32)
def S_X9_head_111 (σ : hp) (w0 : Option Nat) (w1 : Int32) : Option (hp) :=
  (o_pI σ 9 16 w0 w1).bind fun s111 =>
  some s111
def S_X9_head_30 (σ : hp) (t0 : Nat) (v1 : Int32) (v2 : Int32) (w0 : Int32) : Option (hp) :=
  (o_gR σ 9 15 (some t0)).bind fun t32 =>
  (o_stI σ 0 t32 (0 : Int32) (16 : Int32)).bind fun s38 =>
  (o_gR s38 9 15 (some t0)).bind fun t40 =>
  (o_stI s38 0 t40 (1 : Int32) v1).bind fun s45 =>
  (o_gR s45 9 15 (some t0)).bind fun t47 =>
  (o_stI s45 0 t47 (2 : Int32) (w0 &&& (255 : Int32))).bind fun s56 =>
  (o_gR s56 9 15 (some t0)).bind fun t58 =>
  (o_stI s56 0 t58 (3 : Int32) (w0 >>> ((8 : Int32) &&& 31))).bind fun s66 =>
  (o_gR s66 9 15 (some t0)).bind fun t68 =>
  (o_stI s66 0 t68 (4 : Int32) v2).bind fun s73 =>
  (o_gR s73 9 15 (some t0)).bind fun t75 =>
  (o_gR s73 9 15 (some t0)).bind fun t81 =>
  (o_ldI s73 0 t81 (2 : Int32)).bind fun t85 =>
  (o_gR s73 9 15 (some t0)).bind fun t88 =>
  (o_ldI s73 0 t88 (3 : Int32)).bind fun t92 =>
  (o_stI s73 0 t75 (5 : Int32) (((v1 ^^^ t85) ^^^ t92) ^^^ v2)).bind fun s96 =>
  if v1 = (9 : Int32) then (S_X9_head_111 s96 (some t0) (6 : Int32))
  else (S_X9_head_111 s96 (some t0) (38 : Int32))
def S_X9_head (σ : hp) (t0 : Nat) (v1 : Int32) (v2 : Int32) : Option (hp) :=
  if v1 = (9 : Int32) then (S_X9_head_30 σ t0 v1 v2 (((43690 : Int32) - v2) &&& (65535 : Int32)))
  else ((o_rcv σ 9 (some t0)).bind fun b21 =>
  (S_X9_sum σ b21 (6 : Int32)).bind fun q21 =>
  S_X9_head_30 σ t0 v1 v2 (((43690 : Int32) - (q21 ^^^ v2)) &&& (65535 : Int32)))
def S_X9_lay_70 (rec36 : hp → Nat → Int32 → Int32 → Int32 → Option (hp)) (σ : hp) (t0 : Nat) (v1 : Int32) (v2 : Int32) (v3 : Int32) (w0 : Option Nat) (w1 : Int32) (w2 : Int32) : Option (hp) :=
  (o_stI σ 0 w0 w1 w2).bind fun s70 =>
  rec36 s70 t0 v1 v2 (v3 + (1 : Int32))
def S_X9_lay_36_b (rec36 : hp → Nat → Int32 → Int32 → Int32 → Option (hp)) (σ : hp) (t0 : Nat) (v1 : Int32) (v2 : Int32) (v3 : Int32) : Option (hp) :=
  if (38 : Int32) ≤ v3 then ((o_gR σ 9 12 (some t0)).bind fun t78 =>
  (o_ldI σ 0 t78 v1).bind fun t83 =>
  (o_stI σ 0 t78 v1 (t83 + (1 : Int32))).bind fun s86 =>
  some s86)
  else ((o_gR σ 9 13 (some t0)).bind fun t43 =>
  (o_gI σ 9 16 (some t0)).bind fun t54 =>
  if t54 ≤ v3 then (S_X9_lay_70 rec36 σ t0 v1 v2 v3 t43 (((38 : Int32) * v2) + v3) (0 : Int32))
  else ((o_gR σ 9 15 (some t0)).bind fun t61 =>
  (o_ldI σ 0 t61 v3).bind fun t65 =>
  S_X9_lay_70 rec36 σ t0 v1 v2 v3 t43 (((38 : Int32) * v2) + v3) t65))
def S_X9_lay_36 : Nat → hp → Nat → Int32 → Int32 → Int32 → Option (hp)
  | 0, _, _, _, _, _ => none
  | n + 1, σ, t0, v1, v2, v3 => S_X9_lay_36_b (S_X9_lay_36 n) σ t0 v1 v2 v3
def S_X9_lay (σ : hp) (t0 : Nat) (v1 : Int32) : Option (hp) :=
  (o_gR σ 9 12 (some t0)).bind fun t1 =>
  (o_ldI σ 0 t1 v1).bind fun t5 =>
  if t5 = (12 : Int32) then (some σ)
  else ((o_gR σ 9 12 (some t0)).bind fun t17 =>
  (o_ldI σ 0 t17 v1).bind fun t21 =>
  (o_gR σ 9 14 (some t0)).bind fun t25 =>
  (o_gI σ 9 16 (some t0)).bind fun t30 =>
  (o_stI σ 0 t25 (((12 : Int32) * v1) + t21) t30).bind fun s33 =>
  S_X9_lay_36 FU s33 t0 v1 (((12 : Int32) * v1) + t21) (0 : Int32))
def S_X9_control (σ : hp) (t0 : Nat) (v1 : Int32) (v2 : Int32) (v3 : Int32) : Option (hp) :=
  (o_rcv σ 9 (some t0)).bind fun b9 =>
  (S_X9_head σ b9 (9 : Int32) (((8 : Int32) * v2) + v3)).bind fun q9 =>
  (o_rcv q9 9 (some t0)).bind fun b14 =>
  (S_X9_lay q9 b14 v1).bind fun q14 =>
  some q14
def S_X9_data_2_b (rec2 : hp → Nat → Int32 → Int32 → Int32 → Option (hp)) (σ : hp) (t0 : Nat) (v1 : Int32) (v2 : Int32) (v3 : Int32) : Option (hp) :=
  if (32 : Int32) ≤ v3 then ((o_gR σ 9 24 (some t0)).bind fun t47 =>
  (o_ldI σ 0 t47 (((3 : Int32) * v1) + v2)).bind fun t55 =>
  (o_gR σ 9 21 (some t0)).bind fun t59 =>
  (o_ldI σ 0 t59 v1).bind fun t63 =>
  (o_rcv σ 9 (some t0)).bind fun b65 =>
  (S_X9_head σ b65 (1 : Int32) (((128 : Int32) + ((8 : Int32) * t55)) + t63)).bind fun q65 =>
  (o_rcv q65 9 (some t0)).bind fun b70 =>
  (S_X9_lay q65 b70 v1).bind fun q70 =>
  some q70)
  else ((o_gR σ 9 15 (some t0)).bind fun t9 =>
  (o_gR σ 9 25 (some t0)).bind fun t17 =>
  (o_ldI σ 0 t17 ((((96 : Int32) * v1) + ((32 : Int32) * v2)) + v3)).bind fun t31 =>
  (o_stI σ 0 t9 ((6 : Int32) + v3) t31).bind fun s32 =>
  rec2 s32 t0 v1 v2 (v3 + (1 : Int32)))
def S_X9_data_2 : Nat → hp → Nat → Int32 → Int32 → Int32 → Option (hp)
  | 0, _, _, _, _, _ => none
  | n + 1, σ, t0, v1, v2, v3 => S_X9_data_2_b (S_X9_data_2 n) σ t0 v1 v2 v3
def S_X9_data (σ : hp) (t0 : Nat) (v1 : Int32) (v2 : Int32) : Option (hp) :=
  S_X9_data_2 FU σ t0 v1 v2 (0 : Int32)
def S_X9_isGood_82 (σ : hp) : Option (Int32) :=
  some (0 : Int32)
def S_X9_isGood_168 (σ : hp) (w0 : Int32) : Option (Int32) :=
  (o_z w0).bind fun z168 =>
  some z168
def S_X9_isGood_167 (σ : hp) : Option (Int32) :=
  S_X9_isGood_168 σ (0 : Int32)
def S_X9_isGood_152 (σ : hp) (v2 : Int32) (v3 : Int32) : Option (Int32) :=
  if v3 = (((43690 : Int32) - v2) &&& (65535 : Int32)) then (S_X9_isGood_168 σ (1 : Int32))
  else (S_X9_isGood_167 σ)
def S_X9_isGood_258 (rec231 : hp → Nat → Int32 → Int32 → Option (Int32)) (σ : hp) (t0 : Nat) (v7 : Int32) (w0 : Int32) : Option (Int32) :=
  rec231 σ t0 w0 (v7 + (1 : Int32))
def S_X9_isGood_266 (σ : hp) (v6 : Int32) : Option (Int32) :=
  (o_z v6).bind fun z268 =>
  some z268
def S_X9_isGood_231_b (rec231 : hp → Nat → Int32 → Int32 → Option (Int32)) (σ : hp) (t0 : Nat) (v6 : Int32) (v7 : Int32) : Option (Int32) :=
  if (38 : Int32) ≤ v7 then (S_X9_isGood_266 σ v6)
  else (if v6 = (0 : Int32) then (S_X9_isGood_266 σ v6)
  else ((o_gR σ 9 15 (some t0)).bind fun t244 =>
  (o_ldI σ 0 t244 v7).bind fun t249 =>
  if t249 = (0 : Int32) then (S_X9_isGood_258 rec231 σ t0 v7 (1 : Int32))
  else (S_X9_isGood_258 rec231 σ t0 v7 (0 : Int32))))
def S_X9_isGood_231 : Nat → hp → Nat → Int32 → Int32 → Option (Int32)
  | 0, _, _, _, _ => none
  | n + 1, σ, t0, v6, v7 => S_X9_isGood_231_b (S_X9_isGood_231 n) σ t0 v6 v7
def S_X9_isGood_222 (σ : hp) (t0 : Nat) (v5 : Int32) (w0 : Int32) : Option (Int32) :=
  S_X9_isGood_231 FU σ t0 w0 ((7 : Int32) + v5)
def S_X9_isGood_221 (σ : hp) (t0 : Nat) (v5 : Int32) : Option (Int32) :=
  S_X9_isGood_222 σ t0 v5 (0 : Int32)
def S_X9_isGood_56 (σ : hp) (t0 : Nat) (v1 : Int32) (v2 : Int32) : Option (Int32) :=
  (o_gR σ 9 15 (some t0)).bind fun t57 =>
  (o_ldI σ 0 t57 (5 : Int32)).bind fun t61 =>
  (o_gR σ 9 15 (some t0)).bind fun t64 =>
  (o_ldI σ 0 t64 (2 : Int32)).bind fun t68 =>
  (o_gR σ 9 15 (some t0)).bind fun t71 =>
  (o_ldI σ 0 t71 (3 : Int32)).bind fun t75 =>
  if t61 = (((v1 ^^^ t68) ^^^ t75) ^^^ v2) then ((o_gR σ 9 15 (some t0)).bind fun t85 =>
  (o_ldI σ 0 t85 (2 : Int32)).bind fun t89 =>
  (o_gR σ 9 15 (some t0)).bind fun t91 =>
  (o_ldI σ 0 t91 (3 : Int32)).bind fun t95 =>
  if v1 = (9 : Int32) then (if (64 : Int32) ≤ v2 then (S_X9_isGood_167 σ)
  else (if ((v2 >>> ((3 : Int32) &&& 31)) &&& (7 : Int32)) = (1 : Int32) then (S_X9_isGood_152 σ v2 (t89 ||| (t95 <<< ((8 : Int32) &&& 31))))
  else (if ((v2 >>> ((3 : Int32) &&& 31)) &&& (7 : Int32)) = (2 : Int32) then (S_X9_isGood_152 σ v2 (t89 ||| (t95 <<< ((8 : Int32) &&& 31))))
  else (if ((v2 >>> ((3 : Int32) &&& 31)) &&& (7 : Int32)) = (4 : Int32) then (S_X9_isGood_152 σ v2 (t89 ||| (t95 <<< ((8 : Int32) &&& 31))))
  else (if ((v2 >>> ((3 : Int32) &&& 31)) &&& (7 : Int32)) = (5 : Int32) then (S_X9_isGood_152 σ v2 (t89 ||| (t95 <<< ((8 : Int32) &&& 31))))
  else (if ((v2 >>> ((3 : Int32) &&& 31)) &&& (7 : Int32)) = (7 : Int32) then (S_X9_isGood_152 σ v2 (t89 ||| (t95 <<< ((8 : Int32) &&& 31))))
  else (S_X9_isGood_167 σ)))))))
  else ((o_gR σ 9 15 (some t0)).bind fun t170 =>
  (o_ldI σ 0 t170 (6 : Int32)).bind fun t175 =>
  if (v2 >>> ((6 : Int32) &&& 31)) = (2 : Int32) then ((o_rcv σ 9 (some t0)).bind fun b192 =>
  (S_X9_sum σ b192 (6 : Int32)).bind fun q192 =>
  if (t89 ||| (t95 <<< ((8 : Int32) &&& 31))) = (((43690 : Int32) - (q192 ^^^ v2)) &&& (65535 : Int32)) then (if t175 < (1 : Int32) then (S_X9_isGood_221 σ t0 t175)
  else (if (31 : Int32) < t175 then (S_X9_isGood_221 σ t0 t175)
  else (S_X9_isGood_222 σ t0 t175 (1 : Int32))))
  else (S_X9_isGood_221 σ t0 t175))
  else (S_X9_isGood_221 σ t0 t175)))
  else (S_X9_isGood_82 σ)
def S_X9_isGood_42 (σ : hp) (t0 : Nat) (v1 : Int32) (v2 : Int32) (w0 : Int32) (w1 : Int32) : Option (Int32) :=
  if w0 = w1 then (if v1 = (9 : Int32) then (S_X9_isGood_56 σ t0 v1 v2)
  else (if v1 = (1 : Int32) then (S_X9_isGood_56 σ t0 v1 v2)
  else (S_X9_isGood_82 σ)))
  else (S_X9_isGood_82 σ)
def S_X9_isGood (σ : hp) (t0 : Nat) : Option (Int32) :=
  (o_gR σ 9 15 (some t0)).bind fun t1 =>
  (o_ldI σ 0 t1 (1 : Int32)).bind fun t5 =>
  (o_gR σ 9 15 (some t0)).bind fun t8 =>
  (o_ldI σ 0 t8 (4 : Int32)).bind fun t12 =>
  (o_gR σ 9 15 (some t0)).bind fun t15 =>
  (o_ldI σ 0 t15 (0 : Int32)).bind fun t19 =>
  if t19 = (16 : Int32) then ((o_gI σ 9 16 (some t0)).bind fun t26 =>
  if t5 = (9 : Int32) then (S_X9_isGood_42 σ t0 t5 t12 t26 (6 : Int32))
  else (S_X9_isGood_42 σ t0 t5 t12 t26 (38 : Int32)))
  else (S_X9_isGood_82 σ)
def S_X9_forget (σ : hp) (t0 : Nat) (v1 : Int32) (v2 : Int32) : Option (hp) :=
  (o_gR σ 9 17 (some t0)).bind fun t1 =>
  (o_stI σ 0 t1 v1 v2).bind fun s6 =>
  (o_gR s6 9 18 (some t0)).bind fun t8 =>
  (o_z (0 : Int32)).bind fun z13 =>
  (o_stI s6 1 t8 v1 z13).bind fun s13 =>
  (o_gR s13 9 20 (some t0)).bind fun t15 =>
  (o_z (0 : Int32)).bind fun z20 =>
  (o_stI s13 1 t15 v1 z20).bind fun s20 =>
  (o_gR s20 9 21 (some t0)).bind fun t22 =>
  (o_stI s20 0 t22 v1 (0 : Int32)).bind fun s27 =>
  (o_gR s27 9 22 (some t0)).bind fun t29 =>
  (o_stI s27 0 t29 v1 (0 : Int32)).bind fun s34 =>
  (o_gR s34 9 23 (some t0)).bind fun t36 =>
  (o_stI s34 0 t36 v1 (0 : Int32)).bind fun s41 =>
  (o_gR s41 9 26 (some t0)).bind fun t43 =>
  (o_stI s41 0 t43 v1 (0 : Int32)).bind fun s48 =>
  (o_gR s48 9 28 (some t0)).bind fun t50 =>
  (o_z (0 : Int32)).bind fun z55 =>
  (o_stI s48 1 t50 v1 z55).bind fun s55 =>
  (o_gR s55 9 33 (some t0)).bind fun t57 =>
  (o_stI s55 0 t57 v1 (0 : Int32)).bind fun s62 =>
  (o_gR s62 9 34 (some t0)).bind fun t64 =>
  (o_stI s62 0 t64 v1 (0 : Int32)).bind fun s69 =>
  some s69
def S_X9_flow_142_b (rec0 : hp → Nat → Int32 → Option (hp)) (rec142 : hp → Nat → Int32 → Int32 → Option (hp)) (σ : hp) (t0 : Nat) (v1 : Int32) (v2 : Int32) : Option (hp) :=
  (o_gR σ 9 26 (some t0)).bind fun t146 =>
  (o_ldI σ 0 t146 v1).bind fun t150 =>
  if ((32 : Int32) * t150) ≤ v2 then ((o_gR σ 9 23 (some t0)).bind fun t191 =>
  (o_ldI σ 0 t191 v1).bind fun t195 =>
  (o_rcv σ 9 (some t0)).bind fun b198 =>
  (S_X9_data σ b198 v1 (t195 - (1 : Int32))).bind fun q198 =>
  rec0 q198 t0 v1)
  else ((o_gR σ 9 27 (some t0)).bind fun t156 =>
  (o_gR σ 9 27 (some t0)).bind fun t167 =>
  (o_ldI σ 0 t167 ((((512 : Int32) * v1) + v2) + (32 : Int32))).bind fun t180 =>
  (o_stI σ 0 t156 (((512 : Int32) * v1) + v2) t180).bind fun s181 =>
  rec142 s181 t0 v1 (v2 + (1 : Int32)))
def S_X9_flow_142 (rec0 : hp → Nat → Int32 → Option (hp)) : Nat → hp → Nat → Int32 → Int32 → Option (hp)
  | 0, _, _, _, _ => none
  | n + 1, σ, t0, v1, v2 => S_X9_flow_142_b rec0 (S_X9_flow_142 rec0 n) σ t0 v1 v2
def S_X9_flow_75_b (rec0 : hp → Nat → Int32 → Option (hp)) (rec75 : hp → Nat → Int32 → Int32 → Option (hp)) (σ : hp) (t0 : Nat) (v1 : Int32) (v2 : Int32) : Option (hp) :=
  if (32 : Int32) ≤ v2 then ((o_gR σ 9 23 (some t0)).bind fun t121 =>
  (o_ldI σ 0 t121 v1).bind fun t126 =>
  (o_stI σ 0 t121 v1 (t126 + (1 : Int32))).bind fun s129 =>
  (o_gR s129 9 26 (some t0)).bind fun t131 =>
  (o_ldI s129 0 t131 v1).bind fun t136 =>
  (o_stI s129 0 t131 v1 (t136 - (1 : Int32))).bind fun s139 =>
  S_X9_flow_142 rec0 FU s139 t0 v1 (0 : Int32))
  else ((o_gR σ 9 25 (some t0)).bind fun t82 =>
  (o_gR σ 9 23 (some t0)).bind fun t92 =>
  (o_ldI σ 0 t92 v1).bind fun t96 =>
  (o_gR σ 9 27 (some t0)).bind fun t102 =>
  (o_ldI σ 0 t102 (((512 : Int32) * v1) + v2)).bind fun t112 =>
  (o_stI σ 0 t82 ((((96 : Int32) * v1) + ((32 : Int32) * t96)) + v2) t112).bind fun s113 =>
  rec75 s113 t0 v1 (v2 + (1 : Int32)))
def S_X9_flow_75 (rec0 : hp → Nat → Int32 → Option (hp)) : Nat → hp → Nat → Int32 → Int32 → Option (hp)
  | 0, _, _, _, _ => none
  | n + 1, σ, t0, v1, v2 => S_X9_flow_75_b rec0 (S_X9_flow_75 rec0 n) σ t0 v1 v2
def S_X9_flow_35 (rec0 : hp → Nat → Int32 → Option (hp)) (σ : hp) (t0 : Nat) (v1 : Int32) : Option (hp) :=
  (o_gR σ 9 22 (some t0)).bind fun t36 =>
  (o_gR σ 9 22 (some t0)).bind fun t41 =>
  (o_ldI σ 0 t41 v1).bind fun t45 =>
  (o_stI σ 0 t36 v1 ((t45 + (1 : Int32)) - (t45 + (1 : Int32)) / (8 : Int32) * (8 : Int32))).bind fun s51 =>
  (o_gR s51 9 24 (some t0)).bind fun t53 =>
  (o_gR s51 9 23 (some t0)).bind fun t60 =>
  (o_ldI s51 0 t60 v1).bind fun t64 =>
  (o_gR s51 9 22 (some t0)).bind fun t67 =>
  (o_ldI s51 0 t67 v1).bind fun t71 =>
  (o_stI s51 0 t53 (((3 : Int32) * v1) + t64) t71).bind fun s72 =>
  S_X9_flow_75 rec0 FU s72 t0 v1 (0 : Int32)
def S_X9_flow_204 (σ : hp) : Option (hp) :=
  some σ
def S_X9_flow_h0_b (rec0 : hp → Nat → Int32 → Option (hp)) (σ : hp) (t0 : Nat) (v1 : Int32) : Option (hp) :=
  (o_gR σ 9 26 (some t0)).bind fun t1 =>
  (o_ldI σ 0 t1 v1).bind fun t5 =>
  if t5 ≤ (0 : Int32) then (S_X9_flow_204 σ)
  else ((o_gR σ 9 23 (some t0)).bind fun t10 =>
  (o_ldI σ 0 t10 v1).bind fun t14 =>
  if (3 : Int32) ≤ t14 then (S_X9_flow_204 σ)
  else ((o_gR σ 9 23 (some t0)).bind fun t20 =>
  (o_ldI σ 0 t20 v1).bind fun t24 =>
  if t24 = (0 : Int32) then ((o_gR σ 9 33 (some t0)).bind fun t29 =>
  (o_stI σ 0 t29 v1 (0 : Int32)).bind fun s34 =>
  S_X9_flow_35 rec0 s34 t0 v1)
  else (S_X9_flow_35 rec0 σ t0 v1)))
def S_X9_flow_h0 : Nat → hp → Nat → Int32 → Option (hp)
  | 0, _, _, _ => none
  | n + 1, σ, t0, v1 => S_X9_flow_h0_b (S_X9_flow_h0 n) σ t0 v1
def S_X9_flow (σ : hp) (t0 : Nat) (v1 : Int32) : Option (hp) := S_X9_flow_h0 FU σ t0 v1
def S_X9_begin_2_b (rec2 : hp → Nat → Int32 → Int32 → Option (hp)) (σ : hp) (t0 : Nat) (v1 : Int32) (v2 : Int32) : Option (hp) :=
  if (32 : Int32) ≤ v2 then ((o_gR σ 9 35 (some t0)).bind fun t22 =>
  (o_stI σ 0 t22 (0 : Int32) (1 : Int32)).bind fun s27 =>
  (o_gR s27 9 35 (some t0)).bind fun t29 =>
  (o_stI s27 0 t29 (1 : Int32) v1).bind fun s34 =>
  some s34)
  else ((o_gR σ 9 35 (some t0)).bind fun t9 =>
  (o_stI σ 0 t9 v2 (0 : Int32)).bind fun s14 =>
  rec2 s14 t0 v1 (v2 + (1 : Int32)))
def S_X9_begin_2 : Nat → hp → Nat → Int32 → Int32 → Option (hp)
  | 0, _, _, _, _ => none
  | n + 1, σ, t0, v1, v2 => S_X9_begin_2_b (S_X9_begin_2 n) σ t0 v1 v2
def S_X9_begin (σ : hp) (t0 : Nat) (v1 : Int32) : Option (hp) :=
  S_X9_begin_2 FU σ t0 v1 (0 : Int32)
def S_X9_more (σ : hp) (t0 : Nat) (v1 : Int32) : Option (hp) :=
  (o_gR σ 9 35 (some t0)).bind fun t1 =>
  (o_ldI σ 0 t1 (0 : Int32)).bind fun t6 =>
  (o_stI σ 0 t1 (0 : Int32) (t6 + (1 : Int32))).bind fun s9 =>
  (o_gR s9 9 35 (some t0)).bind fun t11 =>
  (o_gR s9 9 35 (some t0)).bind fun t15 =>
  (o_ldI s9 0 t15 (0 : Int32)).bind fun t19 =>
  (o_stI s9 0 t11 t19 v1).bind fun s21 =>
  some s21
def S_X9_send_14_b (rec14 : hp → Nat → Int32 → Int32 → Option (hp)) (σ : hp) (t0 : Nat) (v1 : Int32) (v2 : Int32) : Option (hp) :=
  if (32 : Int32) ≤ v2 then ((o_gR σ 9 26 (some t0)).bind fun t55 =>
  (o_ldI σ 0 t55 v1).bind fun t60 =>
  (o_stI σ 0 t55 v1 (t60 + (1 : Int32))).bind fun s63 =>
  (o_rcv s63 9 (some t0)).bind fun b66 =>
  (S_X9_flow s63 b66 v1).bind fun q66 =>
  some q66)
  else ((o_gR σ 9 27 (some t0)).bind fun t21 =>
  (o_gR σ 9 26 (some t0)).bind fun t32 =>
  (o_ldI σ 0 t32 v1).bind fun t36 =>
  (o_gR σ 9 35 (some t0)).bind fun t42 =>
  (o_ldI σ 0 t42 v2).bind fun t46 =>
  (o_stI σ 0 t21 ((((512 : Int32) * v1) + ((32 : Int32) * t36)) + v2) t46).bind fun s47 =>
  rec14 s47 t0 v1 (v2 + (1 : Int32)))
def S_X9_send_14 : Nat → hp → Nat → Int32 → Int32 → Option (hp)
  | 0, _, _, _, _ => none
  | n + 1, σ, t0, v1, v2 => S_X9_send_14_b (S_X9_send_14 n) σ t0 v1 v2
def S_X9_send (σ : hp) (t0 : Nat) (v1 : Int32) : Option (hp) :=
  (o_gR σ 9 26 (some t0)).bind fun t1 =>
  (o_ldI σ 0 t1 v1).bind fun t5 =>
  if t5 = (16 : Int32) then (some σ)
  else (S_X9_send_14 FU σ t0 v1 (0 : Int32))
def S_X9_say (σ : hp) (t0 : Nat) (v1 : Int32) (v2 : Int32) : Option (hp) :=
  (o_rcv σ 9 (some t0)).bind fun b2 =>
  (S_X9_begin σ b2 v2).bind fun q2 =>
  (o_rcv q2 9 (some t0)).bind fun b7 =>
  (S_X9_send q2 b7 v1).bind fun q7 =>
  some q7
def S_X9_goOn (σ : hp) (t0 : Nat) (v1 : Int32) : Option (hp) :=
  (o_gR σ 9 3 (some t0)).bind fun t1 =>
  (o_ldI σ 0 t1 v1).bind fun t5 =>
  if t5 = (0 : Int32) then ((o_rcv σ 9 (some t0)).bind fun b13 =>
  (S_X9_say σ b13 v1 (72 : Int32)).bind fun q13 =>
  some q13)
  else ((o_gR σ 9 4 (some t0)).bind fun t18 =>
  (o_ldI σ 0 t18 ((30 : Int32) * v1)).bind fun t25 =>
  (o_rcv σ 9 (some t0)).bind fun b30 =>
  (S_X9_begin σ b30 (83 : Int32)).bind fun q30 =>
  (o_rcv q30 9 (some t0)).bind fun b35 =>
  (S_X9_more q30 b35 t25).bind fun q35 =>
  (o_gR q35 9 1 (some t0)).bind fun t40 =>
  (o_ldI q35 0 t40 (((30 : Int32) * v1) + t25)).bind fun t49 =>
  (o_rcv q35 9 (some t0)).bind fun b50 =>
  (S_X9_more q35 b50 t49).bind fun q50 =>
  (o_rcv q50 9 (some t0)).bind fun b55 =>
  (S_X9_send q50 b55 v1).bind fun q55 =>
  some q55)
def S_X9_sendFile_85 (rec25 : hp → Nat → Int32 → Int32 → Int32 → Int32 → Option (hp)) (σ : hp) (t0 : Nat) (v1 : Int32) (v2 : Int32) (v3 : Int32) (v4 : Int32) : Option (hp) :=
  (o_rcv σ 9 (some t0)).bind fun b87 =>
  (S_X9_send σ b87 v1).bind fun q87 =>
  rec25 q87 t0 v1 v2 v3 (v4 + (30 : Int32))
def S_X9_sendFile_41_b (rec25 : hp → Nat → Int32 → Int32 → Int32 → Int32 → Option (hp)) (rec41 : hp → Nat → Int32 → Int32 → Int32 → Int32 → Int32 → Option (hp)) (σ : hp) (t0 : Nat) (v1 : Int32) (v2 : Int32) (v3 : Int32) (v4 : Int32) (v5 : Int32) : Option (hp) :=
  if v3 ≤ v5 then (S_X9_sendFile_85 rec25 σ t0 v1 v2 v3 v4)
  else (if (v4 + (30 : Int32)) ≤ v5 then (S_X9_sendFile_85 rec25 σ t0 v1 v2 v3 v4)
  else ((o_gR σ 9 2 (some t0)).bind fun t59 =>
  (o_ldI σ 0 t59 ((((3000 : Int32) * v1) + ((100 : Int32) * v2)) + v5)).bind fun t75 =>
  (o_rcv σ 9 (some t0)).bind fun b76 =>
  (S_X9_more σ b76 t75).bind fun q76 =>
  rec41 q76 t0 v1 v2 v3 v4 (v5 + (1 : Int32))))
def S_X9_sendFile_41 (rec25 : hp → Nat → Int32 → Int32 → Int32 → Int32 → Option (hp)) : Nat → hp → Nat → Int32 → Int32 → Int32 → Int32 → Int32 → Option (hp)
  | 0, _, _, _, _, _, _, _ => none
  | n + 1, σ, t0, v1, v2, v3, v4, v5 => S_X9_sendFile_41_b rec25 (S_X9_sendFile_41 rec25 n) σ t0 v1 v2 v3 v4 v5
def S_X9_sendFile_25_b (rec25 : hp → Nat → Int32 → Int32 → Int32 → Int32 → Option (hp)) (σ : hp) (t0 : Nat) (v1 : Int32) (v2 : Int32) (v3 : Int32) (v4 : Int32) : Option (hp) :=
  if v3 ≤ v4 then (some σ)
  else ((o_rcv σ 9 (some t0)).bind fun b34 =>
  (S_X9_begin σ b34 (68 : Int32)).bind fun q34 =>
  S_X9_sendFile_41 rec25 FU q34 t0 v1 v2 v3 v4 v4)
def S_X9_sendFile_25 : Nat → hp → Nat → Int32 → Int32 → Int32 → Int32 → Option (hp)
  | 0, _, _, _, _, _, _ => none
  | n + 1, σ, t0, v1, v2, v3, v4 => S_X9_sendFile_25_b (S_X9_sendFile_25 n) σ t0 v1 v2 v3 v4
def S_X9_sendFile (σ : hp) (t0 : Nat) (v1 : Int32) : Option (hp) :=
  (o_gR σ 9 4 (some t0)).bind fun t1 =>
  (o_ldI σ 0 t1 ((30 : Int32) * v1)).bind fun t8 =>
  (o_gR σ 9 1 (some t0)).bind fun t11 =>
  (o_ldI σ 0 t11 (((30 : Int32) * v1) + t8)).bind fun t20 =>
  S_X9_sendFile_25 FU σ t0 v1 t8 t20 (0 : Int32)
def S_X9_execute_39_b (rec39 : hp → Nat → Int32 → Int32 → Int32 → Option (hp)) (σ : hp) (t0 : Nat) (v1 : Int32) (v2 : Int32) (v3 : Int32) : Option (hp) :=
  (o_gR σ 9 30 (some t0)).bind fun t41 =>
  (o_ldI σ 0 t41 v1).bind fun t45 =>
  if t45 ≤ v3 then ((o_gR σ 9 5 (some t0)).bind fun t78 =>
  (o_ldI σ 0 t78 v1).bind fun t83 =>
  (o_stI σ 0 t78 v1 (t83 + (1 : Int32))).bind fun s86 =>
  (o_gR s86 9 28 (some t0)).bind fun t88 =>
  (o_z (0 : Int32)).bind fun z93 =>
  (o_stI s86 1 t88 v1 z93).bind fun s93 =>
  (o_rcv s93 9 (some t0)).bind fun b98 =>
  (S_X9_say s93 b98 v1 (67 : Int32)).bind fun q98 =>
  some q98)
  else ((o_gR σ 9 8 (some t0)).bind fun t50 =>
  (o_gR σ 9 32 (some t0)).bind fun t60 =>
  (o_ldI σ 0 t60 (((100 : Int32) * v1) + v3)).bind fun t69 =>
  (o_stI σ 0 t50 (((100 : Int32) * v2) + v3) t69).bind fun s70 =>
  rec39 s70 t0 v1 v2 (v3 + (1 : Int32)))
def S_X9_execute_39 : Nat → hp → Nat → Int32 → Int32 → Int32 → Option (hp)
  | 0, _, _, _, _, _ => none
  | n + 1, σ, t0, v1, v2, v3 => S_X9_execute_39_b (S_X9_execute_39 n) σ t0 v1 v2 v3
def S_X9_execute (σ : hp) (t0 : Nat) (v1 : Int32) : Option (hp) :=
  (o_gR σ 9 5 (some t0)).bind fun t6 =>
  (o_ldI σ 0 t6 v1).bind fun t10 =>
  (o_gR σ 9 6 (some t0)).bind fun t14 =>
  (o_gR σ 9 29 (some t0)).bind fun t19 =>
  (o_ldI σ 0 t19 v1).bind fun t23 =>
  (o_stI σ 0 t14 (((256 : Int32) * v1) + t10) t23).bind fun s24 =>
  (o_gR s24 9 7 (some t0)).bind fun t26 =>
  (o_gR s24 9 30 (some t0)).bind fun t31 =>
  (o_ldI s24 0 t31 v1).bind fun t35 =>
  (o_stI s24 0 t26 (((256 : Int32) * v1) + t10) t35).bind fun s36 =>
  S_X9_execute_39 FU s36 t0 v1 (((256 : Int32) * v1) + t10) (0 : Int32)
def S_X9_acknowledge_37 (rec5 : hp → Nat → Int32 → Int32 → Int32 → Int32 → Option (hp)) (σ : hp) (t0 : Nat) (v1 : Int32) (v2 : Int32) (v4 : Int32) (w0 : Int32) : Option (hp) :=
  rec5 σ t0 v1 v2 w0 (v4 + (1 : Int32))
def S_X9_acknowledge_108_b (rec69 : hp → Nat → Int32 → Int32 → Int32 → Option (hp)) (rec108 : hp → Nat → Int32 → Int32 → Int32 → Int32 → Option (hp)) (σ : hp) (t0 : Nat) (v1 : Int32) (v4 : Int32) (v5 : Int32) (v6 : Int32) : Option (hp) :=
  if (32 : Int32) ≤ v6 then (rec69 σ t0 v1 v4 (v5 + (1 : Int32)))
  else ((o_gR σ 9 25 (some t0)).bind fun t116 =>
  (o_gR σ 9 25 (some t0)).bind fun t133 =>
  (o_ldI σ 0 t133 ((((96 : Int32) * v1) + ((32 : Int32) * (v5 + v4))) + v6)).bind fun t152 =>
  (o_stI σ 0 t116 ((((96 : Int32) * v1) + ((32 : Int32) * v5)) + v6) t152).bind fun s153 =>
  rec108 s153 t0 v1 v4 v5 (v6 + (1 : Int32)))
def S_X9_acknowledge_108 (rec69 : hp → Nat → Int32 → Int32 → Int32 → Option (hp)) : Nat → hp → Nat → Int32 → Int32 → Int32 → Int32 → Option (hp)
  | 0, _, _, _, _, _, _ => none
  | n + 1, σ, t0, v1, v4, v5, v6 => S_X9_acknowledge_108_b rec69 (S_X9_acknowledge_108 rec69 n) σ t0 v1 v4 v5 v6
def S_X9_acknowledge_69_b (rec69 : hp → Nat → Int32 → Int32 → Int32 → Option (hp)) (σ : hp) (t0 : Nat) (v1 : Int32) (v4 : Int32) (v5 : Int32) : Option (hp) :=
  (o_gR σ 9 23 (some t0)).bind fun t72 =>
  (o_ldI σ 0 t72 v1).bind fun t76 =>
  if t76 ≤ v5 then ((o_gR σ 9 33 (some t0)).bind fun t167 =>
  (o_stI σ 0 t167 v1 (0 : Int32)).bind fun s172 =>
  (o_gR s172 9 34 (some t0)).bind fun t174 =>
  (o_stI s172 0 t174 v1 (0 : Int32)).bind fun s179 =>
  some s179)
  else ((o_gR σ 9 24 (some t0)).bind fun t81 =>
  (o_gR σ 9 24 (some t0)).bind fun t91 =>
  (o_ldI σ 0 t91 ((((3 : Int32) * v1) + v5) + v4)).bind fun t103 =>
  (o_stI σ 0 t81 (((3 : Int32) * v1) + v5) t103).bind fun s104 =>
  S_X9_acknowledge_108 rec69 FU s104 t0 v1 v4 v5 (0 : Int32))
def S_X9_acknowledge_69 : Nat → hp → Nat → Int32 → Int32 → Int32 → Option (hp)
  | 0, _, _, _, _, _ => none
  | n + 1, σ, t0, v1, v4, v5 => S_X9_acknowledge_69_b (S_X9_acknowledge_69 n) σ t0 v1 v4 v5
def S_X9_acknowledge_5_b (rec5 : hp → Nat → Int32 → Int32 → Int32 → Int32 → Option (hp)) (σ : hp) (t0 : Nat) (v1 : Int32) (v2 : Int32) (v3 : Int32) (v4 : Int32) : Option (hp) :=
  (o_gR σ 9 23 (some t0)).bind fun t8 =>
  (o_ldI σ 0 t8 v1).bind fun t12 =>
  if t12 ≤ v4 then (if v3 = (-1 : Int32) then (some σ)
  else ((o_gR σ 9 23 (some t0)).bind fun t56 =>
  (o_ldI σ 0 t56 v1).bind fun t61 =>
  (o_stI σ 0 t56 v1 (t61 - (v3 + (1 : Int32)))).bind fun s65 =>
  S_X9_acknowledge_69 FU s65 t0 v1 (v3 + (1 : Int32)) (0 : Int32)))
  else ((o_gR σ 9 24 (some t0)).bind fun t17 =>
  (o_ldI σ 0 t17 (((3 : Int32) * v1) + v4)).bind fun t26 =>
  if t26 = v2 then (S_X9_acknowledge_37 rec5 σ t0 v1 v2 v4 v4)
  else (S_X9_acknowledge_37 rec5 σ t0 v1 v2 v4 v3))
def S_X9_acknowledge_5 : Nat → hp → Nat → Int32 → Int32 → Int32 → Int32 → Option (hp)
  | 0, _, _, _, _, _, _ => none
  | n + 1, σ, t0, v1, v2, v3, v4 => S_X9_acknowledge_5_b (S_X9_acknowledge_5 n) σ t0 v1 v2 v3 v4
def S_X9_acknowledge (σ : hp) (t0 : Nat) (v1 : Int32) (v2 : Int32) : Option (hp) :=
  S_X9_acknowledge_5 FU σ t0 v1 v2 (-1 : Int32) (0 : Int32)
def S_X9_sendAgain_48 (σ : hp) (w0 : Option Nat) (w1 : Int32) (w2 : Int32) : Option (hp) :=
  (o_stI σ 0 w0 w1 w2).bind fun s48 =>
  some s48
def S_X9_sendAgain_2_b (rec2 : hp → Nat → Int32 → Int32 → Option (hp)) (σ : hp) (t0 : Nat) (v1 : Int32) (v2 : Int32) : Option (hp) :=
  (o_gR σ 9 23 (some t0)).bind fun t4 =>
  (o_ldI σ 0 t4 v1).bind fun t8 =>
  if t8 ≤ v2 then ((o_gR σ 9 33 (some t0)).bind fun t25 =>
  (o_gR σ 9 23 (some t0)).bind fun t30 =>
  (o_ldI σ 0 t30 v1).bind fun t34 =>
  if t34 ≤ (0 : Int32) then ((o_gR σ 9 33 (some t0)).bind fun t43 =>
  (o_ldI σ 0 t43 v1).bind fun t47 =>
  S_X9_sendAgain_48 σ t25 v1 t47)
  else (S_X9_sendAgain_48 σ t25 v1 (0 : Int32)))
  else ((o_rcv σ 9 (some t0)).bind fun b15 =>
  (S_X9_data σ b15 v1 v2).bind fun q15 =>
  rec2 q15 t0 v1 (v2 + (1 : Int32)))
def S_X9_sendAgain_2 : Nat → hp → Nat → Int32 → Int32 → Option (hp)
  | 0, _, _, _, _ => none
  | n + 1, σ, t0, v1, v2 => S_X9_sendAgain_2_b (S_X9_sendAgain_2 n) σ t0 v1 v2
def S_X9_sendAgain (σ : hp) (t0 : Nat) (v1 : Int32) : Option (hp) :=
  S_X9_sendAgain_2 FU σ t0 v1 (0 : Int32)
def S_X9_offered_61 (σ : hp) : Option (hp) :=
  some σ
def S_X9_offered (σ : hp) (t0 : Nat) (v1 : Int32) (v2 : Int32) (v3 : Int32) : Option (hp) :=
  (o_rcv σ 9 (some t0)).bind fun b3 =>
  (S_X9_isExecuted σ b3 v1 v2).bind fun q3 =>
  if q3 = (0 : Int32) then ((o_rcv σ 9 (some t0)).bind fun b21 =>
  (S_X9_say σ b21 v1 (89 : Int32)).bind fun q21 =>
  (o_gR q21 9 28 (some t0)).bind fun t25 =>
  (o_z (1 : Int32)).bind fun z30 =>
  (o_stI q21 1 t25 v1 z30).bind fun s30 =>
  (o_gR s30 9 29 (some t0)).bind fun t32 =>
  (o_stI s30 0 t32 v1 v2).bind fun s37 =>
  (o_gR s37 9 30 (some t0)).bind fun t39 =>
  (o_stI s37 0 t39 v1 v3).bind fun s44 =>
  (o_gR s44 9 31 (some t0)).bind fun t46 =>
  (o_stI s44 0 t46 v1 (0 : Int32)).bind fun s51 =>
  if v3 = (0 : Int32) then ((o_rcv s51 9 (some t0)).bind fun b58 =>
  (S_X9_execute s51 b58 v1).bind fun q58 =>
  S_X9_offered_61 q58)
  else (S_X9_offered_61 s51))
  else ((o_rcv σ 9 (some t0)).bind fun b13 =>
  (S_X9_say σ b13 v1 (78 : Int32)).bind fun q13 =>
  some q13)
def S_X9_done_49 (σ : hp) : Option (hp) :=
  some σ
def S_X9_done_147 (σ : hp) : Option (hp) :=
  some σ
def S_X9_done_100 (σ : hp) (t0 : Nat) (v1 : Int32) : Option (hp) :=
  (o_rcv σ 9 (some t0)).bind fun b102 =>
  (S_X9_leave σ b102 v1).bind fun q102 =>
  (o_rcv q102 9 (some t0)).bind fun b107 =>
  (S_X9_goOn q102 b107 v1).bind fun q107 =>
  S_X9_done_147 q107
def S_X9_done_50 (σ : hp) (t0 : Nat) (v1 : Int32) (v3 : Int32) : Option (hp) :=
  if v3 = (67 : Int32) then (S_X9_done_100 σ t0 v1)
  else if v3 = (72 : Int32) then ((o_rcv σ 9 (some t0)).bind fun b125 =>
  (S_X9_control σ b125 v1 (1 : Int32) (0 : Int32)).bind fun q125 =>
  (o_rcv q125 9 (some t0)).bind fun b131 =>
  (S_X9_forget q125 b131 v1 (0 : Int32)).bind fun q131 =>
  S_X9_done_147 q131)
  else if v3 = (78 : Int32) then (S_X9_done_100 σ t0 v1)
  else if v3 = (84 : Int32) then ((o_gR σ 9 18 (some t0)).bind fun t138 =>
  (o_z (0 : Int32)).bind fun z143 =>
  (o_stI σ 1 t138 v1 z143).bind fun s143 =>
  S_X9_done_147 s143)
  else if v3 = (89 : Int32) then ((o_rcv σ 9 (some t0)).bind fun b115 =>
  (S_X9_sendFile σ b115 v1).bind fun q115 =>
  S_X9_done_147 q115)
  else (S_X9_done_147 σ)
def S_X9_done_345 (σ : hp) : Option (hp) :=
  some σ
def S_X9_done_273 (σ : hp) (t0 : Nat) (v1 : Int32) : Option (hp) :=
  (o_gR σ 9 31 (some t0)).bind fun t274 =>
  (o_ldI σ 0 t274 v1).bind fun t278 =>
  (o_gR σ 9 30 (some t0)).bind fun t280 =>
  (o_ldI σ 0 t280 v1).bind fun t284 =>
  if t278 = t284 then ((o_rcv σ 9 (some t0)).bind fun b290 =>
  (S_X9_execute σ b290 v1).bind fun q290 =>
  S_X9_done_345 q290)
  else (S_X9_done_345 σ)
def S_X9_done_213_b (rec213 : hp → Nat → Int32 → Int32 → Int32 → Option (hp)) (σ : hp) (t0 : Nat) (v1 : Int32) (v2 : Int32) (v4 : Int32) : Option (hp) :=
  if v2 < v4 then (S_X9_done_273 σ t0 v1)
  else ((o_gR σ 9 31 (some t0)).bind fun t220 =>
  (o_ldI σ 0 t220 v1).bind fun t224 =>
  (o_gR σ 9 30 (some t0)).bind fun t226 =>
  (o_ldI σ 0 t226 v1).bind fun t230 =>
  if t230 ≤ t224 then (S_X9_done_273 σ t0 v1)
  else ((o_gR σ 9 32 (some t0)).bind fun t235 =>
  (o_gR σ 9 31 (some t0)).bind fun t243 =>
  (o_ldI σ 0 t243 v1).bind fun t247 =>
  (o_gR σ 9 35 (some t0)).bind fun t250 =>
  (o_ldI σ 0 t250 v4).bind fun t255 =>
  (o_stI σ 0 t235 (((100 : Int32) * v1) + t247) t255).bind fun s256 =>
  (o_gR s256 9 31 (some t0)).bind fun t258 =>
  (o_ldI s256 0 t258 v1).bind fun t263 =>
  (o_stI s256 0 t258 v1 (t263 + (1 : Int32))).bind fun s266 =>
  rec213 s266 t0 v1 v2 (v4 + (1 : Int32))))
def S_X9_done_213 : Nat → hp → Nat → Int32 → Int32 → Int32 → Option (hp)
  | 0, _, _, _, _, _ => none
  | n + 1, σ, t0, v1, v2, v4 => S_X9_done_213_b (S_X9_done_213 n) σ t0 v1 v2 v4
def S_X9_done_296 (σ : hp) (t0 : Nat) (v1 : Int32) (v2 : Int32) (v3 : Int32) : Option (hp) :=
  if v3 = (72 : Int32) then (if v2 = (1 : Int32) then ((o_gR σ 9 3 (some t0)).bind fun t308 =>
  (o_ldI σ 0 t308 v1).bind fun t312 =>
  if t312 = (0 : Int32) then ((o_rcv σ 9 (some t0)).bind fun b320 =>
  (S_X9_say σ b320 v1 (72 : Int32)).bind fun q320 =>
  S_X9_done_345 q320)
  else ((o_rcv σ 9 (some t0)).bind fun b330 =>
  (S_X9_say σ b330 v1 (84 : Int32)).bind fun q330 =>
  (o_gR q330 9 18 (some t0)).bind fun t334 =>
  (o_z (1 : Int32)).bind fun z339 =>
  (o_stI q330 1 t334 v1 z339).bind fun s339 =>
  (o_rcv s339 9 (some t0)).bind fun b342 =>
  (S_X9_goOn s339 b342 v1).bind fun q342 =>
  S_X9_done_345 q342))
  else (S_X9_done_345 σ))
  else (S_X9_done_345 σ)
def S_X9_done_190 (σ : hp) (t0 : Nat) (v1 : Int32) (v2 : Int32) (v3 : Int32) : Option (hp) :=
  if v3 = (68 : Int32) then (if v2 ≤ (1 : Int32) then (S_X9_done_296 σ t0 v1 v2 v3)
  else ((o_gR σ 9 28 (some t0)).bind fun t202 =>
  (o_ldI σ 1 t202 v1).bind fun t206 =>
  if t206 = (0 : Int32) then (S_X9_done_296 σ t0 v1 v2 v3)
  else (S_X9_done_213 FU σ t0 v1 v2 (2 : Int32))))
  else (S_X9_done_296 σ t0 v1 v2 v3)
def S_X9_done (σ : hp) (t0 : Nat) (v1 : Int32) : Option (hp) :=
  (o_gR σ 9 35 (some t0)).bind fun t1 =>
  (o_ldI σ 0 t1 (0 : Int32)).bind fun t5 =>
  (o_gR σ 9 35 (some t0)).bind fun t8 =>
  (o_ldI σ 0 t8 (1 : Int32)).bind fun t12 =>
  (o_gR σ 9 18 (some t0)).bind fun t15 =>
  (o_ldI σ 1 t15 v1).bind fun t19 =>
  if t19 = (0 : Int32) then (if t12 = (83 : Int32) then (if t5 = (3 : Int32) then ((o_gR σ 9 35 (some t0)).bind fun t160 =>
  (o_ldI σ 0 t160 (3 : Int32)).bind fun t164 =>
  if (100 : Int32) < t164 then (S_X9_done_345 σ)
  else ((o_gR σ 9 35 (some t0)).bind fun t173 =>
  (o_ldI σ 0 t173 (2 : Int32)).bind fun t177 =>
  (o_gR σ 9 35 (some t0)).bind fun t179 =>
  (o_ldI σ 0 t179 (3 : Int32)).bind fun t183 =>
  (o_rcv σ 9 (some t0)).bind fun b184 =>
  (S_X9_offered σ b184 v1 t177 t183).bind fun q184 =>
  S_X9_done_345 q184))
  else (S_X9_done_190 σ t0 v1 t5 t12))
  else (S_X9_done_190 σ t0 v1 t5 t12))
  else (if t5 = (1 : Int32) then (if t12 = (72 : Int32) then (S_X9_done_50 σ t0 v1 t12)
  else (if t12 = (84 : Int32) then (S_X9_done_50 σ t0 v1 t12)
  else ((o_gR σ 9 3 (some t0)).bind fun t41 =>
  (o_ldI σ 0 t41 v1).bind fun t45 =>
  if t45 = (0 : Int32) then (S_X9_done_49 σ)
  else (S_X9_done_50 σ t0 v1 t12))))
  else (S_X9_done_49 σ))
def S_X9_come_135 (σ : hp) : Option (hp) :=
  some σ
def S_X9_come_108 (σ : hp) (t0 : Nat) (v1 : Int32) (v4 : Int32) (v6 : Int32) : Option (hp) :=
  if v6 = (0 : Int32) then ((o_rcv σ 9 (some t0)).bind fun b116 =>
  (S_X9_forget σ b116 v1 (2 : Int32)).bind fun q116 =>
  (o_gR q116 9 19 (some t0)).bind fun t120 =>
  (o_stI q116 0 t120 v1 v4).bind fun s126 =>
  (o_rcv s126 9 (some t0)).bind fun b132 =>
  (S_X9_control s126 b132 v1 (5 : Int32) v4).bind fun q132 =>
  S_X9_come_135 q132)
  else (S_X9_come_135 σ)
def S_X9_come_92 (σ : hp) (t0 : Nat) (v1 : Int32) (v4 : Int32) (w0 : Int32) : Option (hp) :=
  if v1 = (0 : Int32) then ((o_gR σ 9 17 (some t0)).bind fun t99 =>
  (o_ldI σ 0 t99 v1).bind fun t103 =>
  if t103 = (1 : Int32) then (S_X9_come_135 σ)
  else (S_X9_come_108 σ t0 v1 v4 w0))
  else (S_X9_come_108 σ t0 v1 v4 w0)
def S_X9_come_91 (σ : hp) (t0 : Nat) (v1 : Int32) (v4 : Int32) : Option (hp) :=
  S_X9_come_92 σ t0 v1 v4 (0 : Int32)
def S_X9_come_197 (σ : hp) : Option (hp) :=
  some σ
def S_X9_come_418 (σ : hp) : Option (hp) :=
  some σ
def S_X9_come_371_b (rec371 : hp → Nat → Int32 → Int32 → Option (hp)) (σ : hp) (t0 : Nat) (v1 : Int32) (v6 : Int32) : Option (hp) :=
  if (32 : Int32) ≤ v6 then ((o_rcv σ 9 (some t0)).bind fun b400 =>
  (S_X9_done σ b400 v1).bind fun q400 =>
  S_X9_come_418 q400)
  else ((o_gR σ 9 35 (some t0)).bind fun t379 =>
  (o_gR σ 9 36 (some t0)).bind fun t385 =>
  (o_ldI σ 0 t385 v6).bind fun t390 =>
  (o_stI σ 0 t379 v6 t390).bind fun s391 =>
  rec371 s391 t0 v1 (v6 + (1 : Int32)))
def S_X9_come_371 : Nat → hp → Nat → Int32 → Int32 → Option (hp)
  | 0, _, _, _, _ => none
  | n + 1, σ, t0, v1, v6 => S_X9_come_371_b (S_X9_come_371 n) σ t0 v1 v6
def S_X9_come_300_b (rec300 : hp → Nat → Int32 → Int32 → Int32 → Option (hp)) (σ : hp) (t0 : Nat) (v1 : Int32) (v3 : Int32) (v6 : Int32) : Option (hp) :=
  if (32 : Int32) ≤ v6 then ((o_rcv σ 9 (some t0)).bind fun b329 =>
  (S_X9_flow σ b329 v1).bind fun q329 =>
  (o_gR q329 9 21 (some t0)).bind fun t334 =>
  (o_ldI q329 0 t334 v1).bind fun t338 =>
  if v3 = ((t338 + (1 : Int32)) - (t338 + (1 : Int32)) / (8 : Int32) * (8 : Int32)) then ((o_gR q329 9 21 (some t0)).bind fun t348 =>
  (o_stI q329 0 t348 v1 v3).bind fun s353 =>
  (o_gR s353 9 20 (some t0)).bind fun t355 =>
  (o_z (1 : Int32)).bind fun z360 =>
  (o_stI s353 1 t355 v1 z360).bind fun s360 =>
  (o_rcv s360 9 (some t0)).bind fun b365 =>
  (S_X9_control s360 b365 v1 (4 : Int32) v3).bind fun q365 =>
  S_X9_come_371 FU q365 t0 v1 (0 : Int32))
  else ((o_gR q329 9 21 (some t0)).bind fun t410 =>
  (o_ldI q329 0 t410 v1).bind fun t414 =>
  (o_rcv q329 9 (some t0)).bind fun b415 =>
  (S_X9_control q329 b415 v1 (4 : Int32) t414).bind fun q415 =>
  S_X9_come_418 q415))
  else ((o_gR σ 9 36 (some t0)).bind fun t308 =>
  (o_gR σ 9 35 (some t0)).bind fun t314 =>
  (o_ldI σ 0 t314 v6).bind fun t319 =>
  (o_stI σ 0 t308 v6 t319).bind fun s320 =>
  rec300 s320 t0 v1 v3 (v6 + (1 : Int32)))
def S_X9_come_300 : Nat → hp → Nat → Int32 → Int32 → Int32 → Option (hp)
  | 0, _, _, _, _, _ => none
  | n + 1, σ, t0, v1, v3, v6 => S_X9_come_300_b (S_X9_come_300 n) σ t0 v1 v3 v6
def S_X9_come_286 (σ : hp) (t0 : Nat) (v1 : Int32) (v3 : Int32) (v5 : Int32) : Option (hp) :=
  if v5 = (0 : Int32) then ((o_rcv σ 9 (some t0)).bind fun b293 =>
  (S_X9_flow σ b293 v1).bind fun q293 =>
  some q293)
  else (S_X9_come_300 FU σ t0 v1 v3 (0 : Int32))
def S_X9_come_264 (σ : hp) (t0 : Nat) (v1 : Int32) (v3 : Int32) (v4 : Int32) (v5 : Int32) : Option (hp) :=
  (o_rcv σ 9 (some t0)).bind fun b268 =>
  (S_X9_acknowledge σ b268 v1 v4).bind fun q268 =>
  if v5 = (0 : Int32) then (if v3 = (2 : Int32) then ((o_rcv q268 9 (some t0)).bind fun b283 =>
  (S_X9_sendAgain q268 b283 v1).bind fun q283 =>
  S_X9_come_286 q283 t0 v1 v3 v5)
  else (S_X9_come_286 q268 t0 v1 v3 v5))
  else (S_X9_come_286 q268 t0 v1 v3 v5)
def S_X9_come_229_b (rec229 : hp → Nat → Int32 → Int32 → Int32 → Int32 → Int32 → Option (hp)) (σ : hp) (t0 : Nat) (v1 : Int32) (v3 : Int32) (v4 : Int32) (v5 : Int32) (v6 : Int32) : Option (hp) :=
  if (32 : Int32) ≤ v6 then (S_X9_come_264 σ t0 v1 v3 v4 v5)
  else (if v5 = (0 : Int32) then (S_X9_come_264 σ t0 v1 v3 v4 v5)
  else ((o_gR σ 9 35 (some t0)).bind fun t242 =>
  (o_gR σ 9 15 (some t0)).bind fun t248 =>
  (o_ldI σ 0 t248 ((6 : Int32) + v6)).bind fun t256 =>
  (o_stI σ 0 t242 v6 t256).bind fun s257 =>
  rec229 s257 t0 v1 v3 v4 v5 (v6 + (1 : Int32))))
def S_X9_come_229 : Nat → hp → Nat → Int32 → Int32 → Int32 → Int32 → Int32 → Option (hp)
  | 0, _, _, _, _, _, _, _ => none
  | n + 1, σ, t0, v1, v3, v4, v5, v6 => S_X9_come_229_b (S_X9_come_229 n) σ t0 v1 v3 v4 v5 v6
def S_X9_come_226 (σ : hp) (t0 : Nat) (v1 : Int32) (v3 : Int32) (v4 : Int32) (v5 : Int32) : Option (hp) :=
  S_X9_come_229 FU σ t0 v1 v3 v4 v5 (0 : Int32)
def S_X9_come_198 (σ : hp) (t0 : Nat) (v1 : Int32) (v3 : Int32) (v4 : Int32) (v5 : Int32) : Option (hp) :=
  (o_gR σ 9 17 (some t0)).bind fun t199 =>
  (o_ldI σ 0 t199 v1).bind fun t203 =>
  if t203 = (2 : Int32) then (if v5 = (0 : Int32) then (if v3 = (1 : Int32) then ((o_rcv σ 9 (some t0)).bind fun b222 =>
  (S_X9_forget σ b222 v1 (0 : Int32)).bind fun q222 =>
  some q222)
  else (S_X9_come_226 σ t0 v1 v3 v4 v5))
  else (S_X9_come_226 σ t0 v1 v3 v4 v5))
  else (some σ)
def S_X9_come_136 (σ : hp) (t0 : Nat) (v1 : Int32) (v3 : Int32) (v4 : Int32) (v5 : Int32) : Option (hp) :=
  if v5 = (0 : Int32) then (if v3 = (5 : Int32) then ((o_gR σ 9 17 (some t0)).bind fun t147 =>
  (o_ldI σ 0 t147 v1).bind fun t151 =>
  if t151 = (1 : Int32) then ((o_gR σ 9 9 (some t0)).bind fun t157 =>
  (o_ldI σ 0 t157 v1).bind fun t161 =>
  if ((t161 - (1 : Int32)) - (t161 - (1 : Int32)) / (8 : Int32) * (8 : Int32)) = v4 then ((o_rcv σ 9 (some t0)).bind fun b175 =>
  (S_X9_forget σ b175 v1 (2 : Int32)).bind fun q175 =>
  (o_gR q175 9 18 (some t0)).bind fun t179 =>
  (o_z (1 : Int32)).bind fun z184 =>
  (o_stI q175 1 t179 v1 z184).bind fun s184 =>
  (o_gR s184 9 19 (some t0)).bind fun t186 =>
  (o_stI s184 0 t186 v1 (-1 : Int32)).bind fun s191 =>
  (o_rcv s191 9 (some t0)).bind fun b194 =>
  (S_X9_goOn s191 b194 v1).bind fun q194 =>
  S_X9_come_197 q194)
  else (S_X9_come_197 σ))
  else (S_X9_come_197 σ))
  else (S_X9_come_198 σ t0 v1 v3 v4 v5))
  else (S_X9_come_198 σ t0 v1 v3 v4 v5)
def S_X9_come_35 (σ : hp) (t0 : Nat) (v1 : Int32) (v3 : Int32) (v4 : Int32) (w0 : Int32) : Option (hp) :=
  if w0 = (0 : Int32) then (if v3 = (7 : Int32) then ((o_gR σ 9 17 (some t0)).bind fun t49 =>
  (o_ldI σ 0 t49 v1).bind fun t53 =>
  if t53 = (2 : Int32) then ((o_gR σ 9 18 (some t0)).bind fun t59 =>
  (o_ldI σ 1 t59 v1).bind fun t63 =>
  if t63 = (0 : Int32) then ((o_gR σ 9 19 (some t0)).bind fun t68 =>
  (o_ldI σ 0 t68 v1).bind fun t72 =>
  if t72 = v4 then ((o_gR σ 9 20 (some t0)).bind fun t79 =>
  (o_ldI σ 1 t79 v1).bind fun t83 =>
  if t83 = (0 : Int32) then (S_X9_come_91 σ t0 v1 v4)
  else (S_X9_come_92 σ t0 v1 v4 (1 : Int32)))
  else (S_X9_come_91 σ t0 v1 v4))
  else (S_X9_come_91 σ t0 v1 v4))
  else (S_X9_come_91 σ t0 v1 v4))
  else (S_X9_come_136 σ t0 v1 v3 v4 w0))
  else (S_X9_come_136 σ t0 v1 v3 v4 w0)
def S_X9_come (σ : hp) (t0 : Nat) (v1 : Int32) : Option (hp) :=
  (o_gR σ 9 15 (some t0)).bind fun t1 =>
  (o_ldI σ 0 t1 (4 : Int32)).bind fun t5 =>
  (o_gR σ 9 15 (some t0)).bind fun t21 =>
  (o_ldI σ 0 t21 (1 : Int32)).bind fun t25 =>
  if t25 = (1 : Int32) then (S_X9_come_35 σ t0 v1 ((t5 >>> ((3 : Int32) &&& 31)) &&& (7 : Int32)) (t5 &&& (7 : Int32)) (1 : Int32))
  else (S_X9_come_35 σ t0 v1 ((t5 >>> ((3 : Int32) &&& 31)) &&& (7 : Int32)) (t5 &&& (7 : Int32)) (0 : Int32))
def S_X9_takeFirst_93_b (rec57 : hp → Nat → Int32 → Int32 → Option (hp)) (rec93 : hp → Nat → Int32 → Int32 → Int32 → Option (hp)) (σ : hp) (t0 : Nat) (v1 : Int32) (v2 : Int32) (v3 : Int32) : Option (hp) :=
  if (38 : Int32) ≤ v3 then (rec57 σ t0 v1 (v2 + (1 : Int32)))
  else ((o_gR σ 9 13 (some t0)).bind fun t100 =>
  (o_gR σ 9 13 (some t0)).bind fun t116 =>
  (o_ldI σ 0 t116 ((((456 : Int32) * v1) + ((38 : Int32) * (v2 + (1 : Int32)))) + v3)).bind fun t133 =>
  (o_stI σ 0 t100 ((((456 : Int32) * v1) + ((38 : Int32) * v2)) + v3) t133).bind fun s134 =>
  rec93 s134 t0 v1 v2 (v3 + (1 : Int32)))
def S_X9_takeFirst_93 (rec57 : hp → Nat → Int32 → Int32 → Option (hp)) : Nat → hp → Nat → Int32 → Int32 → Int32 → Option (hp)
  | 0, _, _, _, _, _ => none
  | n + 1, σ, t0, v1, v2, v3 => S_X9_takeFirst_93_b rec57 (S_X9_takeFirst_93 rec57 n) σ t0 v1 v2 v3
def S_X9_takeFirst_57_b (rec57 : hp → Nat → Int32 → Int32 → Option (hp)) (σ : hp) (t0 : Nat) (v1 : Int32) (v2 : Int32) : Option (hp) :=
  (o_gR σ 9 12 (some t0)).bind fun t59 =>
  (o_ldI σ 0 t59 v1).bind fun t63 =>
  if t63 ≤ v2 then (some σ)
  else ((o_gR σ 9 14 (some t0)).bind fun t68 =>
  (o_gR σ 9 14 (some t0)).bind fun t78 =>
  (o_ldI σ 0 t78 ((((12 : Int32) * v1) + v2) + (1 : Int32))).bind fun t89 =>
  (o_stI σ 0 t68 (((12 : Int32) * v1) + v2) t89).bind fun s90 =>
  S_X9_takeFirst_93 rec57 FU s90 t0 v1 v2 (0 : Int32))
def S_X9_takeFirst_57 : Nat → hp → Nat → Int32 → Int32 → Option (hp)
  | 0, _, _, _, _ => none
  | n + 1, σ, t0, v1, v2 => S_X9_takeFirst_57_b (S_X9_takeFirst_57 n) σ t0 v1 v2
def S_X9_takeFirst_15_b (rec15 : hp → Nat → Int32 → Int32 → Option (hp)) (σ : hp) (t0 : Nat) (v1 : Int32) (v2 : Int32) : Option (hp) :=
  if (38 : Int32) ≤ v2 then ((o_gR σ 9 12 (some t0)).bind fun t46 =>
  (o_ldI σ 0 t46 v1).bind fun t51 =>
  (o_stI σ 0 t46 v1 (t51 - (1 : Int32))).bind fun s54 =>
  S_X9_takeFirst_57 FU s54 t0 v1 (0 : Int32))
  else ((o_gR σ 9 15 (some t0)).bind fun t22 =>
  (o_gR σ 9 13 (some t0)).bind fun t27 =>
  (o_ldI σ 0 t27 (((456 : Int32) * v1) + v2)).bind fun t37 =>
  (o_stI σ 0 t22 v2 t37).bind fun s38 =>
  rec15 s38 t0 v1 (v2 + (1 : Int32)))
def S_X9_takeFirst_15 : Nat → hp → Nat → Int32 → Int32 → Option (hp)
  | 0, _, _, _, _ => none
  | n + 1, σ, t0, v1, v2 => S_X9_takeFirst_15_b (S_X9_takeFirst_15 n) σ t0 v1 v2
def S_X9_takeFirst (σ : hp) (t0 : Nat) (v1 : Int32) : Option (hp) :=
  (o_gR σ 9 14 (some t0)).bind fun t2 =>
  (o_ldI σ 0 t2 ((12 : Int32) * v1)).bind fun t9 =>
  (o_pI σ 9 16 (some t0) t9).bind fun s10 =>
  S_X9_takeFirst_15 FU s10 t0 v1 (0 : Int32)
def S_X9_call_16 (σ : hp) : Option (Int32 × hp) :=
  some ((0 : Int32), σ)
def S_X9_call (σ : hp) (t0 : Nat) (v1 : Int32) : Option (Int32 × hp) :=
  (S_X9_isSite σ v1).bind fun q1 =>
  if q1 = (0 : Int32) then (S_X9_call_16 σ)
  else ((o_gR σ 9 17 (some t0)).bind fun t8 =>
  (o_ldI σ 0 t8 v1).bind fun t12 =>
  if t12 = (0 : Int32) then ((o_gR σ 9 12 (some t0)).bind fun t19 =>
  (o_stI σ 0 t19 (0 : Int32) (0 : Int32)).bind fun s24 =>
  (o_gR s24 9 12 (some t0)).bind fun t26 =>
  (o_stI s24 0 t26 (1 : Int32) (0 : Int32)).bind fun s31 =>
  (o_rcv s31 9 (some t0)).bind fun b35 =>
  (S_X9_forget s31 b35 v1 (1 : Int32)).bind fun q35 =>
  (o_gR q35 9 9 (some t0)).bind fun t43 =>
  (o_ldI q35 0 t43 v1).bind fun t47 =>
  (o_rcv q35 9 (some t0)).bind fun b51 =>
  (S_X9_control q35 b51 v1 (7 : Int32) (t47 - t47 / (8 : Int32) * (8 : Int32))).bind fun q51 =>
  (o_gR q51 9 9 (some t0)).bind fun t55 =>
  (o_ldI q51 0 t55 v1).bind fun t60 =>
  (o_stI q51 0 t55 v1 (t60 + (1 : Int32))).bind fun s63 =>
  some ((1 : Int32), s63))
  else (S_X9_call_16 σ))
def S_X9_deliver_16 (σ : hp) : Option (Int32 × hp) :=
  some ((-1 : Int32), σ)
def S_X9_deliver_56 (σ : hp) : Option (Int32 × hp) :=
  some ((0 : Int32), σ)
def S_X9_deliver_92 (σ : hp) (t0 : Nat) (v2 : Int32) (w0 : Option Nat) (w1 : Int32) (w2 : Int32) : Option (Int32 × hp) :=
  (o_stI σ 0 w0 w1 w2).bind fun s92 =>
  (o_rcv s92 9 (some t0)).bind fun b95 =>
  (S_X9_come s92 b95 v2).bind fun q95 =>
  some ((1 : Int32), q95)
def S_X9_deliver_86 (σ : hp) (t0 : Nat) (v2 : Int32) (w0 : Option Nat) (w1 : Int32) : Option (Int32 × hp) :=
  (o_gR σ 9 33 (some t0)).bind fun t87 =>
  (o_ldI σ 0 t87 v2).bind fun t91 =>
  S_X9_deliver_92 σ t0 v2 w0 w1 t91
def S_X9_deliver (σ : hp) (t0 : Nat) (v1 : Int32) : Option (Int32 × hp) :=
  (S_X9_isSite σ v1).bind fun q1 =>
  if q1 = (0 : Int32) then (S_X9_deliver_16 σ)
  else ((o_gR σ 9 12 (some t0)).bind fun t8 =>
  (o_ldI σ 0 t8 v1).bind fun t12 =>
  if t12 = (0 : Int32) then (S_X9_deliver_16 σ)
  else ((o_rcv σ 9 (some t0)).bind fun b24 =>
  (S_X9_takeFirst σ b24 v1).bind fun q24 =>
  (o_rcv q24 9 (some t0)).bind fun b28 =>
  (S_X9_isGood q24 b28 ).bind fun q28 =>
  if q28 = (0 : Int32) then ((o_gR q24 9 17 (some t0)).bind fun t35 =>
  (o_ldI q24 0 t35 ((1 : Int32) - v1)).bind fun t39 =>
  if t39 = (2 : Int32) then ((o_gR q24 9 21 (some t0)).bind fun t48 =>
  (o_ldI q24 0 t48 ((1 : Int32) - v1)).bind fun t52 =>
  (o_rcv q24 9 (some t0)).bind fun b53 =>
  (S_X9_control q24 b53 ((1 : Int32) - v1) (2 : Int32) t52).bind fun q53 =>
  S_X9_deliver_56 q53)
  else (S_X9_deliver_56 q24))
  else ((o_gR q24 9 33 (some t0)).bind fun t59 =>
  (o_gR q24 9 17 (some t0)).bind fun t64 =>
  (o_ldI q24 0 t64 ((1 : Int32) - v1)).bind fun t68 =>
  if t68 = (2 : Int32) then ((o_gR q24 9 23 (some t0)).bind fun t74 =>
  (o_ldI q24 0 t74 ((1 : Int32) - v1)).bind fun t78 =>
  if t78 = (0 : Int32) then (S_X9_deliver_92 q24 t0 ((1 : Int32) - v1) t59 ((1 : Int32) - v1) (0 : Int32))
  else (S_X9_deliver_86 q24 t0 ((1 : Int32) - v1) t59 ((1 : Int32) - v1)))
  else (S_X9_deliver_86 q24 t0 ((1 : Int32) - v1) t59 ((1 : Int32) - v1)))))
def S_X9_lose_16 (σ : hp) : Option (Int32 × hp) :=
  some ((0 : Int32), σ)
def S_X9_lose (σ : hp) (t0 : Nat) (v1 : Int32) : Option (Int32 × hp) :=
  (S_X9_isSite σ v1).bind fun q1 =>
  if q1 = (0 : Int32) then (S_X9_lose_16 σ)
  else ((o_gR σ 9 12 (some t0)).bind fun t8 =>
  (o_ldI σ 0 t8 v1).bind fun t12 =>
  if t12 = (0 : Int32) then (S_X9_lose_16 σ)
  else ((o_rcv σ 9 (some t0)).bind fun b20 =>
  (S_X9_takeFirst σ b20 v1).bind fun q20 =>
  some ((1 : Int32), q20)))
def S_X9_alter_45 (σ : hp) : Option (Int32 × hp) :=
  some ((0 : Int32), σ)
def S_X9_alter (σ : hp) (t0 : Nat) (v1 : Int32) (v2 : Int32) (v3 : Int32) : Option (Int32 × hp) :=
  (S_X9_isSite σ v1).bind fun q1 =>
  if q1 = (0 : Int32) then (S_X9_alter_45 σ)
  else ((o_gR σ 9 12 (some t0)).bind fun t8 =>
  (o_ldI σ 0 t8 v1).bind fun t12 =>
  if t12 = (0 : Int32) then (S_X9_alter_45 σ)
  else (if v2 < (0 : Int32) then (S_X9_alter_45 σ)
  else ((o_gR σ 9 14 (some t0)).bind fun t22 =>
  (o_ldI σ 0 t22 ((12 : Int32) * v1)).bind fun t29 =>
  if t29 ≤ v2 then (S_X9_alter_45 σ)
  else (if v3 < (1 : Int32) then (S_X9_alter_45 σ)
  else (if v3 ≤ (255 : Int32) then ((o_gR σ 9 13 (some t0)).bind fun t48 =>
  (o_gR σ 9 13 (some t0)).bind fun t59 =>
  (o_ldI σ 0 t59 (((456 : Int32) * v1) + v2)).bind fun t69 =>
  (o_stI σ 0 t48 (((456 : Int32) * v1) + v2) (t69 ^^^ v3)).bind fun s72 =>
  some ((1 : Int32), s72))
  else (S_X9_alter_45 σ))))))
def S_X9_tickOf_57 (σ : hp) : Option (Int32 × hp) :=
  some ((0 : Int32), σ)
def S_X9_tickOf_59 (σ : hp) (t0 : Nat) (v1 : Int32) : Option (Int32 × hp) :=
  (o_gR σ 9 33 (some t0)).bind fun t60 =>
  (o_ldI σ 0 t60 v1).bind fun t64 =>
  if (4 : Int32) ≤ t64 then ((o_gR σ 9 34 (some t0)).bind fun t72 =>
  (o_ldI σ 0 t72 v1).bind fun t76 =>
  if t76 = (5 : Int32) then ((o_rcv σ 9 (some t0)).bind fun b84 =>
  (S_X9_forget σ b84 v1 (0 : Int32)).bind fun q84 =>
  some ((0 : Int32), q84))
  else ((o_gR σ 9 34 (some t0)).bind fun t90 =>
  (o_ldI σ 0 t90 v1).bind fun t95 =>
  (o_stI σ 0 t90 v1 (t95 + (1 : Int32))).bind fun s98 =>
  (o_gR s98 9 33 (some t0)).bind fun t100 =>
  (o_stI s98 0 t100 v1 (0 : Int32)).bind fun s105 =>
  (o_gR s105 9 17 (some t0)).bind fun t107 =>
  (o_ldI s105 0 t107 v1).bind fun t111 =>
  if t111 = (1 : Int32) then ((o_gR s105 9 9 (some t0)).bind fun t121 =>
  (o_ldI s105 0 t121 v1).bind fun t125 =>
  (o_rcv s105 9 (some t0)).bind fun b131 =>
  (S_X9_control s105 b131 v1 (7 : Int32) ((t125 - (1 : Int32)) - (t125 - (1 : Int32)) / (8 : Int32) * (8 : Int32))).bind fun q131 =>
  some ((1 : Int32), q131))
  else ((o_rcv s105 9 (some t0)).bind fun b138 =>
  (S_X9_sendAgain s105 b138 v1).bind fun q138 =>
  (o_gR q138 9 23 (some t0)).bind fun t142 =>
  (o_ldI q138 0 t142 v1).bind fun t146 =>
  some (t146, q138))))
  else (some ((0 : Int32), σ))
def S_X9_tickOf (σ : hp) (t0 : Nat) (v1 : Int32) : Option (Int32 × hp) :=
  (o_gR σ 9 17 (some t0)).bind fun t1 =>
  (o_ldI σ 0 t1 v1).bind fun t5 =>
  if t5 = (0 : Int32) then (some ((0 : Int32), σ))
  else ((o_gR σ 9 33 (some t0)).bind fun t12 =>
  (o_ldI σ 0 t12 v1).bind fun t17 =>
  (o_stI σ 0 t12 v1 (t17 + (1 : Int32))).bind fun s20 =>
  (o_gR s20 9 17 (some t0)).bind fun t22 =>
  (o_ldI s20 0 t22 v1).bind fun t26 =>
  if t26 = (2 : Int32) then ((o_gR s20 9 23 (some t0)).bind fun t32 =>
  (o_ldI s20 0 t32 v1).bind fun t36 =>
  if t36 = (0 : Int32) then ((o_gR s20 9 33 (some t0)).bind fun t41 =>
  (o_ldI s20 0 t41 v1).bind fun t45 =>
  if t45 = (41 : Int32) then ((o_rcv s20 9 (some t0)).bind fun b54 =>
  (S_X9_forget s20 b54 v1 (0 : Int32)).bind fun q54 =>
  S_X9_tickOf_57 q54)
  else (S_X9_tickOf_57 s20))
  else (S_X9_tickOf_59 s20 t0 v1))
  else (S_X9_tickOf_59 s20 t0 v1))
def S_X9_tick (σ : hp) (t0 : Nat) : Option (Int32 × hp) :=
  (o_rcv σ 9 (some t0)).bind fun b2 =>
  (S_X9_tickOf σ b2 (0 : Int32)).bind fun q2 =>
  (o_rcv q2.2 9 (some t0)).bind fun b9 =>
  (S_X9_tickOf q2.2 b9 (1 : Int32)).bind fun q9 =>
  some ((q2.1 + q9.1), q9.2)
def S_X9_crash (σ : hp) (t0 : Nat) (v1 : Int32) : Option (Int32 × hp) :=
  (S_X9_isSite σ v1).bind fun q1 =>
  if q1 = (0 : Int32) then (some ((0 : Int32), σ))
  else ((o_rcv σ 9 (some t0)).bind fun b12 =>
  (S_X9_forget σ b12 v1 (0 : Int32)).bind fun q12 =>
  some ((1 : Int32), q12))
def S_X9_settle_12 (σ : hp) : Option (Int32 × hp) :=
  some ((-1 : Int32), σ)
def S_X9_settle_55 (rec18 : hp → Nat → Int32 → Int32 → Int32 → Option (Int32 × hp)) (σ : hp) (t0 : Nat) (v1 : Int32) (v2 : Int32) (w0 : Int32) : Option (Int32 × hp) :=
  (o_rcv σ 9 (some t0)).bind fun b58 =>
  (S_X9_deliver σ b58 w0).bind fun q58 =>
  rec18 q58.2 t0 v1 (v2 + (1 : Int32)) ((1 : Int32) - w0)
def S_X9_settle_73 (σ : hp) (v2 : Int32) : Option (Int32 × hp) :=
  some (v2, σ)
def S_X9_settle_18_b (rec18 : hp → Nat → Int32 → Int32 → Int32 → Option (Int32 × hp)) (σ : hp) (t0 : Nat) (v1 : Int32) (v2 : Int32) (v3 : Int32) : Option (Int32 × hp) :=
  if v1 ≤ v2 then (S_X9_settle_73 σ v2)
  else ((o_gR σ 9 12 (some t0)).bind fun t24 =>
  (o_ldI σ 0 t24 (0 : Int32)).bind fun t28 =>
  (o_gR σ 9 12 (some t0)).bind fun t30 =>
  (o_ldI σ 0 t30 (1 : Int32)).bind fun t34 =>
  if (t28 + t34) ≤ (0 : Int32) then (S_X9_settle_73 σ v2)
  else ((o_gR σ 9 12 (some t0)).bind fun t40 =>
  (o_ldI σ 0 t40 v3).bind fun t44 =>
  if t44 = (0 : Int32) then (S_X9_settle_55 rec18 σ t0 v1 v2 ((1 : Int32) - v3))
  else (S_X9_settle_55 rec18 σ t0 v1 v2 v3)))
def S_X9_settle_18 : Nat → hp → Nat → Int32 → Int32 → Int32 → Option (Int32 × hp)
  | 0, _, _, _, _, _ => none
  | n + 1, σ, t0, v1, v2, v3 => S_X9_settle_18_b (S_X9_settle_18 n) σ t0 v1 v2 v3
def S_X9_settle (σ : hp) (t0 : Nat) (v1 : Int32) : Option (Int32 × hp) :=
  if v1 < (1 : Int32) then (S_X9_settle_12 σ)
  else (if v1 ≤ (200 : Int32) then (S_X9_settle_18 FU σ t0 v1 (0 : Int32) (0 : Int32))
  else (S_X9_settle_12 σ))
def S_X9_waiting_17 (σ : hp) (w0 : Int32) : Option (Int32) :=
  some w0
def S_X9_waiting (σ : hp) (t0 : Nat) (v1 : Int32) : Option (Int32) :=
  (S_X9_isSite σ v1).bind fun q1 =>
  if q1 = (0 : Int32) then (S_X9_waiting_17 σ (-1 : Int32))
  else ((o_gR σ 9 12 (some t0)).bind fun t8 =>
  (o_ldI σ 0 t8 v1).bind fun t12 =>
  S_X9_waiting_17 σ t12)
def S_X9_look_61 (σ : hp) (w0 : Int32) : Option (Int32) :=
  some w0
def S_X9_look_40 (σ : hp) : Option (Int32) :=
  S_X9_look_61 σ (-1 : Int32)
def S_X9_look (σ : hp) (t0 : Nat) (v1 : Int32) (v2 : Int32) (v3 : Int32) : Option (Int32) :=
  (S_X9_isSite σ v1).bind fun q1 =>
  if q1 = (0 : Int32) then (S_X9_look_40 σ)
  else (if v2 < (0 : Int32) then (S_X9_look_40 σ)
  else ((o_gR σ 9 12 (some t0)).bind fun t13 =>
  (o_ldI σ 0 t13 v1).bind fun t17 =>
  if t17 ≤ v2 then (S_X9_look_40 σ)
  else (if v3 < (0 : Int32) then (S_X9_look_40 σ)
  else ((o_gR σ 9 14 (some t0)).bind fun t27 =>
  (o_ldI σ 0 t27 (((12 : Int32) * v1) + v2)).bind fun t36 =>
  if v3 < t36 then ((o_gR σ 9 13 (some t0)).bind fun t45 =>
  (o_ldI σ 0 t45 ((((456 : Int32) * v1) + ((38 : Int32) * v2)) + v3)).bind fun t60 =>
  S_X9_look_61 σ t60)
  else (S_X9_look_40 σ)))))
def S_X9_told_91 (σ : hp) (w0 : Int32) : Option (Int32) :=
  some w0
def S_X9_told_85 (σ : hp) (t0 : Nat) (v1 : Int32) : Option (Int32) :=
  (o_gR σ 9 17 (some t0)).bind fun t86 =>
  (o_ldI σ 0 t86 v1).bind fun t90 =>
  S_X9_told_91 σ t90
def S_X9_told (σ : hp) (t0 : Nat) (v1 : Int32) (v2 : Int32) : Option (Int32) :=
  (S_X9_isSite σ v1).bind fun q1 =>
  if q1 = (0 : Int32) then (some (-1 : Int32))
  else (if v2 = (0 : Int32) then ((o_gR σ 9 3 (some t0)).bind fun t49 =>
  (o_ldI σ 0 t49 v1).bind fun t53 =>
  some t53)
  else if v2 = (1 : Int32) then ((o_gR σ 9 5 (some t0)).bind fun t56 =>
  (o_ldI σ 0 t56 v1).bind fun t60 =>
  some t60)
  else if v2 = (2 : Int32) then ((o_gR σ 9 17 (some t0)).bind fun t63 =>
  (o_ldI σ 0 t63 v1).bind fun t67 =>
  if t67 = (2 : Int32) then ((o_gR σ 9 18 (some t0)).bind fun t73 =>
  (o_ldI σ 1 t73 v1).bind fun t77 =>
  if t77 = (0 : Int32) then (S_X9_told_91 σ (3 : Int32))
  else (S_X9_told_85 σ t0 v1))
  else (S_X9_told_85 σ t0 v1))
  else if v2 = (3 : Int32) then ((o_gR σ 9 23 (some t0)).bind fun t93 =>
  (o_ldI σ 0 t93 v1).bind fun t97 =>
  some t97)
  else if v2 = (4 : Int32) then ((o_gR σ 9 26 (some t0)).bind fun t100 =>
  (o_ldI σ 0 t100 v1).bind fun t104 =>
  some t104)
  else if v2 = (5 : Int32) then ((o_gR σ 9 9 (some t0)).bind fun t107 =>
  (o_ldI σ 0 t107 v1).bind fun t111 =>
  some t111)
  else (some (-1 : Int32)))
def S_X9_queued_36 (σ : hp) (w0 : Int32) : Option (Int32) :=
  some w0
def S_X9_queued_21 (σ : hp) : Option (Int32) :=
  S_X9_queued_36 σ (-1 : Int32)
def S_X9_queued (σ : hp) (t0 : Nat) (v1 : Int32) (v2 : Int32) : Option (Int32) :=
  (S_X9_isSite σ v1).bind fun q1 =>
  if q1 = (0 : Int32) then (S_X9_queued_21 σ)
  else (if v2 < (0 : Int32) then (S_X9_queued_21 σ)
  else ((o_gR σ 9 3 (some t0)).bind fun t13 =>
  (o_ldI σ 0 t13 v1).bind fun t17 =>
  if v2 < t17 then ((o_gR σ 9 4 (some t0)).bind fun t26 =>
  (o_ldI σ 0 t26 (((30 : Int32) * v1) + v2)).bind fun t35 =>
  S_X9_queued_36 σ t35)
  else (S_X9_queued_21 σ)))
def S_X9_executed_37 (σ : hp) (w0 : Int32) : Option (Int32) :=
  some w0
def S_X9_executed_21 (σ : hp) : Option (Int32) :=
  S_X9_executed_37 σ (-1 : Int32)
def S_X9_executed (σ : hp) (t0 : Nat) (v1 : Int32) (v2 : Int32) : Option (Int32) :=
  (S_X9_isSite σ v1).bind fun q1 =>
  if q1 = (0 : Int32) then (S_X9_executed_21 σ)
  else (if v2 < (0 : Int32) then (S_X9_executed_21 σ)
  else ((o_gR σ 9 5 (some t0)).bind fun t13 =>
  (o_ldI σ 0 t13 v1).bind fun t17 =>
  if v2 < t17 then ((o_gR σ 9 6 (some t0)).bind fun t26 =>
  (o_ldI σ 0 t26 (((256 : Int32) * v1) + v2)).bind fun t36 =>
  S_X9_executed_37 σ t36)
  else (S_X9_executed_21 σ)))
def S_X9_file_51 (σ : hp) (w0 : Int32) : Option (Int32) :=
  some w0
def S_X9_file_30 (σ : hp) : Option (Int32) :=
  S_X9_file_51 σ (-1 : Int32)
def S_X9_file (σ : hp) (t0 : Nat) (v1 : Int32) (v2 : Int32) (v3 : Int32) : Option (Int32) :=
  (o_rcv σ 9 (some t0)).bind fun b3 =>
  (S_X9_executed σ b3 v1 v2).bind fun q3 =>
  if q3 = (-1 : Int32) then (S_X9_file_30 σ)
  else (if v3 < (0 : Int32) then (S_X9_file_30 σ)
  else ((o_gR σ 9 7 (some t0)).bind fun t16 =>
  (o_ldI σ 0 t16 (((256 : Int32) * v1) + v2)).bind fun t26 =>
  if v3 < t26 then ((o_gR σ 9 8 (some t0)).bind fun t35 =>
  (o_ldI σ 0 t35 (((100 : Int32) * (((256 : Int32) * v1) + v2)) + v3)).bind fun t50 =>
  S_X9_file_51 σ t50)
  else (S_X9_file_30 σ)))
def S_X9_times_21 (σ : hp) : Option (Int32) :=
  some (-1 : Int32)
def S_X9_times_66 (rec28 : hp → Nat → Int32 → Int32 → Int32 → Int32 → Option (Int32)) (σ : hp) (t0 : Nat) (v1 : Int32) (v2 : Int32) (v4 : Int32) (w0 : Int32) (w1 : Int32) : Option (Int32) :=
  rec28 σ t0 v1 v2 (w0 + w1) (v4 + (1 : Int32))
def S_X9_times_28_b (rec28 : hp → Nat → Int32 → Int32 → Int32 → Int32 → Option (Int32)) (σ : hp) (t0 : Nat) (v1 : Int32) (v2 : Int32) (v3 : Int32) (v4 : Int32) : Option (Int32) :=
  (o_gR σ 9 5 (some t0)).bind fun t31 =>
  (o_ldI σ 0 t31 ((1 : Int32) - v1)).bind fun t37 =>
  if t37 ≤ v4 then (some v3)
  else ((o_gR σ 9 6 (some t0)).bind fun t43 =>
  (o_ldI σ 0 t43 (((256 : Int32) * ((1 : Int32) - v1)) + v4)).bind fun t56 =>
  if t56 = v2 then (S_X9_times_66 rec28 σ t0 v1 v2 v4 v3 (1 : Int32))
  else (S_X9_times_66 rec28 σ t0 v1 v2 v4 v3 (0 : Int32)))
def S_X9_times_28 : Nat → hp → Nat → Int32 → Int32 → Int32 → Int32 → Option (Int32)
  | 0, _, _, _, _, _, _ => none
  | n + 1, σ, t0, v1, v2, v3, v4 => S_X9_times_28_b (S_X9_times_28 n) σ t0 v1 v2 v3 v4
def S_X9_times (σ : hp) (t0 : Nat) (v1 : Int32) (v2 : Int32) : Option (Int32) :=
  (S_X9_isSite σ v1).bind fun q1 =>
  if q1 = (0 : Int32) then (S_X9_times_21 σ)
  else (if v2 < (0 : Int32) then (S_X9_times_21 σ)
  else ((o_gR σ 9 0 (some t0)).bind fun t13 =>
  (o_ldI σ 0 t13 v1).bind fun t17 =>
  if v2 < t17 then (S_X9_times_28 FU σ t0 v1 v2 (0 : Int32) (0 : Int32))
  else (S_X9_times_21 σ)))
end
section
/-! Words that fields, calls and constants need. -/
theorem fp_X0_24 : f_P RX0 24 0 3 (.array (.object "SpoolLink$Job")) true := ⟨RX0, TX0, 6, tyX0, rfl, by decide, inX0, gm 79 (by decide +kernel) rfl, tyX0_ok, nmX0, rfl, (fun _ => rfl), by decide +kernel⟩
theorem fp_X0_27 : f_P RX0 27 0 4 .int false := ⟨RX0, TX0, 6, tyX0, rfl, by decide, inX0, gm 80 (by decide +kernel) rfl, tyX0_ok, nmX0, rfl, (fun h => by cases h), by decide +kernel⟩
theorem fp_X0_30 : f_P RX0 30 0 5 .int false := ⟨RX0, TX0, 6, tyX0, rfl, by decide, inX0, gm 82 (by decide +kernel) rfl, tyX0_ok, nmX0, rfl, (fun h => by cases h), by decide +kernel⟩
theorem fp_X0_13 : f_P RX0 13 0 0 (.array (.object "SpoolLink$Job")) true := ⟨RX0, TX0, 6, tyX0, rfl, by decide, inX0, gm 74 (by decide +kernel) rfl, tyX0_ok, nmX0, rfl, (fun _ => rfl), by decide +kernel⟩
theorem fp_X0_17 : f_P RX0 17 0 1 .int false := ⟨RX0, TX0, 6, tyX0, rfl, by decide, inX0, gm 75 (by decide +kernel) rfl, tyX0_ok, nmX0, rfl, (fun h => by cases h), by decide +kernel⟩
theorem fp_X0_21 : f_P RX0 21 0 2 .int false := ⟨RX0, TX0, 6, tyX0, rfl, by decide, inX0, gm 77 (by decide +kernel) rfl, tyX0_ok, nmX0, rfl, (fun h => by cases h), by decide +kernel⟩
theorem cj_X0_3 : Cond.methodLink RX0 3 objectInit ∈ G := gm 71 (by decide +kernel) rfl
theorem gj_o1 : Cond.instanceMethod objectInit ∈ G := gm 19 (by decide +kernel) rfl
theorem gj_o2 : Cond.code objectInit ⟨#[0xb1]⟩ 1 none ∈ G := gm 20 rfl rfl
theorem fa_X0_21 : f_A RX0 21 0 2 := ⟨RX0, TX0, 6, rfl, by decide, inX0, gm 77 (by decide +kernel) rfl⟩
theorem fa_X0_17 : f_A RX0 17 0 1 := ⟨RX0, TX0, 6, rfl, by decide, inX0, gm 75 (by decide +kernel) rfl⟩
theorem fp_X2_13 : f_P RX2 13 2 1 (.array .int) true := ⟨RX2, TX2, 2, tyX2, rfl, by decide, inX2, gm 247 (by decide +kernel) rfl, tyX2_ok, nmX2, rfl, (fun _ => rfl), by decide +kernel⟩
theorem fa_X2_13 : f_A RX2 13 2 1 := ⟨RX2, TX2, 2, rfl, by decide, inX2, gm 247 (by decide +kernel) rfl⟩
theorem cj_X2_17 : Cond.methodLink RX2 17 arraycopyName ∈ G := gm 240 (by decide +kernel) rfl
theorem gj_a1 : Cond.native arraycopyName ∈ G := gm 242 (by decide +kernel) rfl
theorem gj_a2 : Cond.static arraycopyName ∈ G := gm 241 (by decide +kernel) rfl
theorem gj_a3 : Cond.initialized "java/lang/System" ∈ G := gm 11 (by decide +kernel) rfl
theorem cj_X2_1 : Cond.methodLink RX2 1 objectInit ∈ G := gm 239 (by decide +kernel) rfl
theorem fp_X2_7 : f_P RX2 7 2 0 .int true := ⟨RX2, TX2, 2, tyX2, rfl, by decide, inX2, gm 243 (by decide +kernel) rfl, tyX2_ok, nmX2, rfl, (fun _ => rfl), by decide +kernel⟩
set_option maxRecDepth 100000 in
theorem cd_X2_init : Cond.code yX2_init cX2_init 4 (none) ∈ G := gm 238 rfl rfl
theorem cf_X0_33 : c_I RX0 33 yX2_init cX2_init 4 3 := ⟨(gm 236 (by decide +kernel) rfl), rfl, (gm 237 (by decide +kernel) rfl), (gm 10 (by decide +kernel) rfl), cd_X2_init, by decide +kernel, by decide +kernel, by decide +kernel⟩
theorem fn_X0_11 : f_N RX0 11 2 2 := ⟨RX2, TX2, tyX2, rfl, inX2, tyX2_ok, gm 72 (by decide +kernel) rfl, gm 235 (by decide +kernel) rfl, gm 10 (by decide +kernel) rfl, by decide +kernel⟩
theorem fa_X0_13 : f_A RX0 13 0 0 := ⟨RX0, TX0, 6, rfl, by decide, inX0, gm 74 (by decide +kernel) rfl⟩
theorem fa_X0_27 : f_A RX0 27 0 4 := ⟨RX0, TX0, 6, rfl, by decide, inX0, gm 80 (by decide +kernel) rfl⟩
theorem fa_X0_24 : f_A RX0 24 0 3 := ⟨RX0, TX0, 6, rfl, by decide, inX0, gm 79 (by decide +kernel) rfl⟩
theorem fa_X0_36 : f_A RX0 36 2 0 := ⟨RX2, TX2, 2, rfl, by decide, inX2, gm 244 (by decide +kernel) rfl⟩
theorem fp_X1_9 : f_P RX1 9 1 0 (.array .int) true := ⟨RX1, TX1, 5, tyX1, rfl, by decide, inX1, gm 147 (by decide +kernel) rfl, tyX1_ok, nmX1, rfl, (fun _ => rfl), by decide +kernel⟩
theorem fp_X1_15 : f_P RX1 15 1 1 .boolean false := ⟨RX1, TX1, 5, tyX1, rfl, by decide, inX1, gm 148 (by decide +kernel) rfl, tyX1_ok, nmX1, rfl, (fun h => by cases h), by decide +kernel⟩
theorem fp_X1_19 : f_P RX1 19 1 2 .int false := ⟨RX1, TX1, 5, tyX1, rfl, by decide, inX1, gm 150 (by decide +kernel) rfl, tyX1_ok, nmX1, rfl, (fun h => by cases h), by decide +kernel⟩
theorem fp_X1_23 : f_P RX1 23 1 3 .int false := ⟨RX1, TX1, 5, tyX1, rfl, by decide, inX1, gm 151 (by decide +kernel) rfl, tyX1_ok, nmX1, rfl, (fun h => by cases h), by decide +kernel⟩
theorem fp_X1_26 : f_P RX1 26 1 4 .int false := ⟨RX1, TX1, 5, tyX1, rfl, by decide, inX1, gm 152 (by decide +kernel) rfl, tyX1_ok, nmX1, rfl, (fun h => by cases h), by decide +kernel⟩
theorem cj_X1_3 : Cond.methodLink RX1 3 objectInit ∈ G := gm 146 (by decide +kernel) rfl
theorem fa_X4_9 : f_A RX4 9 4 0 := ⟨RX4, TX4, 2, rfl, by decide, inX4, gm 34 (by decide +kernel) rfl⟩
set_option maxRecDepth 100000 in
theorem cd_X4_messageLength : Cond.code yX4_messageLength cX4_messageLength 1 (some .int) ∈ G := gm 392 rfl rfl
theorem cf_X1_29 : c_V RX1 29 yX4_messageLength cX4_messageLength 1 (some .int) 0 := ⟨(gm 442 (by decide +kernel) rfl), (gm 390 (by decide +kernel) rfl), (gm 391 (by decide +kernel) rfl), (gm 3 (by decide +kernel) rfl), cd_X4_messageLength, by decide +kernel, by decide +kernel, by decide +kernel⟩
theorem fa_X1_26 : f_A RX1 26 1 4 := ⟨RX1, TX1, 5, rfl, by decide, inX1, gm 152 (by decide +kernel) rfl⟩
theorem fa_X1_23 : f_A RX1 23 1 3 := ⟨RX1, TX1, 5, rfl, by decide, inX1, gm 151 (by decide +kernel) rfl⟩
theorem fa_X1_9 : f_A RX1 9 1 0 := ⟨RX1, TX1, 5, rfl, by decide, inX1, gm 147 (by decide +kernel) rfl⟩
set_option maxRecDepth 100000 in
theorem cd_X4_messageByte : Cond.code yX4_messageByte cX4_messageByte 2 (some .int) ∈ G := gm 396 rfl rfl
theorem cf_X1_35 : c_V RX1 35 yX4_messageByte cX4_messageByte 2 (some .int) 1 := ⟨(gm 443 (by decide +kernel) rfl), (gm 394 (by decide +kernel) rfl), (gm 395 (by decide +kernel) rfl), (gm 3 (by decide +kernel) rfl), cd_X4_messageByte, by decide +kernel, by decide +kernel, by decide +kernel⟩
theorem fa_X1_15 : f_A RX1 15 1 1 := ⟨RX1, TX1, 5, rfl, by decide, inX1, gm 148 (by decide +kernel) rfl⟩
theorem fa_X1_19 : f_A RX1 19 1 2 := ⟨RX1, TX1, 5, rfl, by decide, inX1, gm 150 (by decide +kernel) rfl⟩
theorem cf_X1_41 : c_I RX1 41 yX2_init cX2_init 4 3 := ⟨(gm 461 (by decide +kernel) rfl), rfl, (gm 237 (by decide +kernel) rfl), (gm 10 (by decide +kernel) rfl), cd_X2_init, by decide +kernel, by decide +kernel, by decide +kernel⟩
theorem fn_X1_39 : f_N RX1 39 2 2 := ⟨RX2, TX2, tyX2, rfl, inX2, tyX2_ok, gm 460 (by decide +kernel) rfl, gm 235 (by decide +kernel) rfl, gm 10 (by decide +kernel) rfl, by decide +kernel⟩
theorem fp_X3_9 : f_P RX3 9 3 0 (.array .int) true := ⟨RX3, TX3, 2, tyX3, rfl, by decide, inX3, gm 111 (by decide +kernel) rfl, tyX3_ok, nmX3, rfl, (fun _ => rfl), by decide +kernel⟩
theorem fp_X3_13 : f_P RX3 13 3 1 .int false := ⟨RX3, TX3, 2, tyX3, rfl, by decide, inX3, gm 114 (by decide +kernel) rfl, tyX3_ok, nmX3, rfl, (fun h => by cases h), by decide +kernel⟩
theorem cj_X3_1 : Cond.methodLink RX3 1 objectInit ∈ G := gm 110 (by decide +kernel) rfl
theorem fa_X3_13 : f_A RX3 13 3 1 := ⟨RX3, TX3, 2, rfl, by decide, inX3, gm 114 (by decide +kernel) rfl⟩
theorem fa_X3_9 : f_A RX3 9 3 0 := ⟨RX3, TX3, 2, rfl, by decide, inX3, gm 111 (by decide +kernel) rfl⟩
theorem fp_X4_9 : f_P RX4 9 4 0 (.array .int) true := ⟨RX4, TX4, 2, tyX4, rfl, by decide, inX4, gm 34 (by decide +kernel) rfl, tyX4_ok, nmX4, rfl, (fun _ => rfl), by decide +kernel⟩
theorem fp_X4_13 : f_P RX4 13 4 1 .int false := ⟨RX4, TX4, 2, tyX4, rfl, by decide, inX4, gm 36 (by decide +kernel) rfl, tyX4_ok, nmX4, rfl, (fun h => by cases h), by decide +kernel⟩
theorem cj_X4_1 : Cond.methodLink RX4 1 objectInit ∈ G := gm 33 (by decide +kernel) rfl
theorem ck_X4_17 : Cond.constant RX4 17 (43690 : Int32) ∈ G := gm 287 (by decide +kernel) rfl
set_option maxRecDepth 100000 in
theorem cd_X4_fillHead : Cond.code yX4_fillHead cX4_fillHead 6 (none) ∈ G := gm 291 rfl rfl
theorem cf_X4_18 : c_V RX4 18 yX4_fillHead cX4_fillHead 6 (none) 3 := ⟨(gm 288 (by decide +kernel) rfl), (gm 290 (by decide +kernel) rfl), (gs 0 (by decide +kernel) rfl), (gm 3 (by decide +kernel) rfl), cd_X4_fillHead, by decide +kernel, by decide +kernel, by decide +kernel⟩
theorem ck_X4_48 : Cond.constant RX4 48 (65535 : Int32) ∈ G := gm 328 (by decide +kernel) rfl
set_option maxRecDepth 100000 in
theorem cd_X4_sum : Cond.code yX4_sum cX4_sum 6 (some .int) ∈ G := gm 327 rfl rfl
theorem cf_X4_26 : c_V RX4 26 yX4_sum cX4_sum 6 (some .int) 0 := ⟨(gm 324 (by decide +kernel) rfl), (gm 326 (by decide +kernel) rfl), (gs 3 (by decide +kernel) rfl), (gm 3 (by decide +kernel) rfl), cd_X4_sum, by decide +kernel, by decide +kernel, by decide +kernel⟩
theorem fa_X4_22 : f_A RX4 22 3 1 := ⟨RX3, TX3, 2, rfl, by decide, inX3, gm 115 (by decide +kernel) rfl⟩
theorem fa_X4_25 : f_A RX4 25 3 0 := ⟨RX3, TX3, 2, rfl, by decide, inX3, gm 113 (by decide +kernel) rfl⟩
theorem fa_X4_13 : f_A RX4 13 4 1 := ⟨RX4, TX4, 2, rfl, by decide, inX4, gm 36 (by decide +kernel) rfl⟩
set_option maxRecDepth 100000 in
theorem cd_X4_isData : Cond.code yX4_isData cX4_isData 1 (some .boolean) ∈ G := gm 319 rfl rfl
theorem cf_X4_30 : c_V RX4 30 yX4_isData cX4_isData 1 (some .boolean) 0 := ⟨(gm 316 (by decide +kernel) rfl), (gm 317 (by decide +kernel) rfl), (gm 318 (by decide +kernel) rfl), (gm 3 (by decide +kernel) rfl), cd_X4_isData, by decide +kernel, by decide +kernel, by decide +kernel⟩
set_option maxRecDepth 100000 in
theorem cd_X4_x : Cond.code yX4_x cX4_x 1 (some .int) ∈ G := gm 336 rfl rfl
theorem cf_X4_41 : c_V RX4 41 yX4_x cX4_x 1 (some .int) 0 := ⟨(gm 333 (by decide +kernel) rfl), (gm 334 (by decide +kernel) rfl), (gm 335 (by decide +kernel) rfl), (gm 3 (by decide +kernel) rfl), cd_X4_x, by decide +kernel, by decide +kernel, by decide +kernel⟩
set_option maxRecDepth 100000 in
theorem cd_X4_isControl : Cond.code yX4_isControl cX4_isControl 1 (some .boolean) ∈ G := gm 339 rfl rfl
theorem cf_X4_44 : c_S RX4 44 yX4_isControl cX4_isControl 1 (some .boolean) 1 := ⟨(gm 337 (by decide +kernel) rfl), (gm 338 (by decide +kernel) rfl), (gm 3 (by decide +kernel) rfl), cd_X4_isControl, by decide +kernel, by decide +kernel, by decide +kernel⟩
set_option maxRecDepth 100000 in
theorem cd_X4_hasHead : Cond.code yX4_hasHead cX4_hasHead 6 (some .boolean) ∈ G := gm 332 rfl rfl
theorem cf_X4_37 : c_V RX4 37 yX4_hasHead cX4_hasHead 6 (some .boolean) 3 := ⟨(gm 329 (by decide +kernel) rfl), (gm 331 (by decide +kernel) rfl), (gs 4 (by decide +kernel) rfl), (gm 3 (by decide +kernel) rfl), cd_X4_hasHead, by decide +kernel, by decide +kernel, by decide +kernel⟩
set_option maxRecDepth 100000 in
theorem cd_X4_isMessageWellFormed : Cond.code yX4_isMessageWellFormed cX4_isMessageWellFormed 3 (some .boolean) ∈ G := gm 323 rfl rfl
theorem cf_X4_34 : c_V RX4 34 yX4_isMessageWellFormed cX4_isMessageWellFormed 3 (some .boolean) 0 := ⟨(gm 320 (by decide +kernel) rfl), (gm 322 (by decide +kernel) rfl), (gs 2 (by decide +kernel) rfl), (gm 3 (by decide +kernel) rfl), cd_X4_isMessageWellFormed, by decide +kernel, by decide +kernel, by decide +kernel⟩
set_option maxRecDepth 100000 in
theorem cd_X3_init : Cond.code yX3_init cX3_init 1 (none) ∈ G := gm 109 rfl rfl
theorem cf_X6_28 : c_N RX6 28 yX3_init cX3_init 1 0 := ⟨fun _ h => h.2.2.1, rfl, (gm 108 (by decide +kernel) rfl), (gm 7 (by decide +kernel) rfl), cd_X3_init, by decide +kernel, by decide +kernel, by decide +kernel⟩
theorem fn_X6_22 : f_N RX6 22 3 2 := ⟨RX3, TX3, tyX3, rfl, inX3, tyX3_ok, gm 104 (by decide +kernel) rfl, gm 106 (by decide +kernel) rfl, gm 7 (by decide +kernel) rfl, by decide +kernel⟩
theorem fa_X6_24 : f_A RX6 24 6 0 := ⟨RX6, TX6, 5, rfl, by decide, inX6, gm 122 (by decide +kernel) rfl⟩
theorem fp_X6_24 : f_P RX6 24 6 0 (.array (.object "SpoolLink$Message")) true := ⟨RX6, TX6, 5, tyX6, rfl, by decide, inX6, gm 122 (by decide +kernel) rfl, tyX6_ok, nmX6, rfl, (fun _ => rfl), by decide +kernel⟩
theorem cj_X6_3 : Cond.methodLink RX6 3 objectInit ∈ G := gm 103 (by decide +kernel) rfl
theorem fp_X6_9 : f_P RX6 9 6 1 .int false := ⟨RX6, TX6, 5, tyX6, rfl, by decide, inX6, gm 123 (by decide +kernel) rfl, tyX6_ok, nmX6, rfl, (fun h => by cases h), by decide +kernel⟩
theorem fp_X6_13 : f_P RX6 13 6 2 .int false := ⟨RX6, TX6, 5, tyX6, rfl, by decide, inX6, gm 124 (by decide +kernel) rfl, tyX6_ok, nmX6, rfl, (fun h => by cases h), by decide +kernel⟩
theorem fp_X6_16 : f_P RX6 16 6 3 .int false := ⟨RX6, TX6, 5, tyX6, rfl, by decide, inX6, gm 125 (by decide +kernel) rfl, tyX6_ok, nmX6, rfl, (fun h => by cases h), by decide +kernel⟩
theorem fp_X6_19 : f_P RX6 19 6 4 .int false := ⟨RX6, TX6, 5, tyX6, rfl, by decide, inX6, gm 128 (by decide +kernel) rfl, tyX6_ok, nmX6, rfl, (fun h => by cases h), by decide +kernel⟩
theorem fp_X5_28 : f_P RX5 28 5 4 (.object "SpoolLink$Intake") true := ⟨RX5, TX5, 13, tyX5, rfl, by decide, inX5, gm 170 (by decide +kernel) rfl, tyX5_ok, nmX5, rfl, (fun _ => rfl), by decide +kernel⟩
theorem fp_X5_32 : f_P RX5 32 5 5 .int false := ⟨RX5, TX5, 13, tyX5, rfl, by decide, inX5, gm 171 (by decide +kernel) rfl, tyX5_ok, nmX5, rfl, (fun h => by cases h), by decide +kernel⟩
theorem fp_X5_36 : f_P RX5 36 5 6 .int false := ⟨RX5, TX5, 13, tyX5, rfl, by decide, inX5, gm 173 (by decide +kernel) rfl, tyX5_ok, nmX5, rfl, (fun h => by cases h), by decide +kernel⟩
theorem fp_X5_39 : f_P RX5 39 5 7 .int false := ⟨RX5, TX5, 13, tyX5, rfl, by decide, inX5, gm 174 (by decide +kernel) rfl, tyX5_ok, nmX5, rfl, (fun h => by cases h), by decide +kernel⟩
theorem fp_X5_42 : f_P RX5 42 5 8 .int false := ⟨RX5, TX5, 13, tyX5, rfl, by decide, inX5, gm 175 (by decide +kernel) rfl, tyX5_ok, nmX5, rfl, (fun h => by cases h), by decide +kernel⟩
theorem fp_X5_45 : f_P RX5 45 5 9 .boolean false := ⟨RX5, TX5, 13, tyX5, rfl, by decide, inX5, gm 176 (by decide +kernel) rfl, tyX5_ok, nmX5, rfl, (fun h => by cases h), by decide +kernel⟩
theorem fp_X5_49 : f_P RX5 49 5 10 .int false := ⟨RX5, TX5, 13, tyX5, rfl, by decide, inX5, gm 177 (by decide +kernel) rfl, tyX5_ok, nmX5, rfl, (fun h => by cases h), by decide +kernel⟩
theorem fp_X5_52 : f_P RX5 52 5 11 .int false := ⟨RX5, TX5, 13, tyX5, rfl, by decide, inX5, gm 178 (by decide +kernel) rfl, tyX5_ok, nmX5, rfl, (fun h => by cases h), by decide +kernel⟩
theorem fp_X5_55 : f_P RX5 55 5 12 .int false := ⟨RX5, TX5, 13, tyX5, rfl, by decide, inX5, gm 179 (by decide +kernel) rfl, tyX5_ok, nmX5, rfl, (fun h => by cases h), by decide +kernel⟩
theorem fp_X5_58 : f_P RX5 58 5 0 .int true := ⟨RX5, TX5, 13, tyX5, rfl, by decide, inX5, gm 164 (by decide +kernel) rfl, tyX5_ok, nmX5, rfl, (fun _ => rfl), by decide +kernel⟩
theorem fp_X5_61 : f_P RX5 61 5 1 (.object "SpoolLink$Wire") true := ⟨RX5, TX5, 13, tyX5, rfl, by decide, inX5, gm 165 (by decide +kernel) rfl, tyX5_ok, nmX5, rfl, (fun _ => rfl), by decide +kernel⟩
set_option maxRecDepth 100000 in
theorem cd_X1_init : Cond.code yX1_init cX1_init 1 (none) ∈ G := gm 145 rfl rfl
theorem cf_X5_27 : c_N RX5 27 yX1_init cX1_init 1 0 := ⟨fun _ h => h.2.1, rfl, (gm 144 (by decide +kernel) rfl), (gm 8 (by decide +kernel) rfl), cd_X1_init, by decide +kernel, by decide +kernel, by decide +kernel⟩
theorem fn_X5_25 : f_N RX5 25 1 5 := ⟨RX1, TX1, tyX1, rfl, inX1, tyX1_ok, gm 141 (by decide +kernel) rfl, gm 142 (by decide +kernel) rfl, gm 8 (by decide +kernel) rfl, by decide +kernel⟩
theorem fp_X5_21 : f_P RX5 21 5 3 (.object "SpoolLink$Window") true := ⟨RX5, TX5, 13, tyX5, rfl, by decide, inX5, gm 168 (by decide +kernel) rfl, tyX5_ok, nmX5, rfl, (fun _ => rfl), by decide +kernel⟩
set_option maxRecDepth 100000 in
theorem cd_X6_init : Cond.code yX6_init cX6_init 2 (none) ∈ G := gm 102 rfl rfl
theorem cf_X5_20 : c_I RX5 20 yX6_init cX6_init 2 0 := ⟨(gm 100 (by decide +kernel) rfl), rfl, (gm 101 (by decide +kernel) rfl), (gm 6 (by decide +kernel) rfl), cd_X6_init, by decide +kernel, by decide +kernel, by decide +kernel⟩
theorem fn_X5_18 : f_N RX5 18 6 5 := ⟨RX6, TX6, tyX6, rfl, inX6, tyX6_ok, gm 98 (by decide +kernel) rfl, gm 99 (by decide +kernel) rfl, gm 6 (by decide +kernel) rfl, by decide +kernel⟩
theorem fp_X5_12 : f_P RX5 12 5 2 (.object "SpoolLink$Disk") true := ⟨RX5, TX5, 13, tyX5, rfl, by decide, inX5, gm 166 (by decide +kernel) rfl, tyX5_ok, nmX5, rfl, (fun _ => rfl), by decide +kernel⟩
set_option maxRecDepth 100000 in
theorem cd_X0_init : Cond.code yX0_init cX0_init 1 (none) ∈ G := gm 70 rfl rfl
theorem cf_X5_11 : c_N RX5 11 yX0_init cX0_init 1 0 := ⟨fun _ h => h.1, rfl, (gm 69 (by decide +kernel) rfl), (gm 5 (by decide +kernel) rfl), cd_X0_init, by decide +kernel, by decide +kernel, by decide +kernel⟩
theorem fn_X5_9 : f_N RX5 9 0 6 := ⟨RX0, TX0, tyX0, rfl, inX0, tyX0_ok, gm 66 (by decide +kernel) rfl, gm 67 (by decide +kernel) rfl, gm 5 (by decide +kernel) rfl, by decide +kernel⟩
theorem cj_X5_3 : Cond.methodLink RX5 3 objectInit ∈ G := gm 65 (by decide +kernel) rfl
theorem fa_X5_21 : f_A RX5 21 5 3 := ⟨RX5, TX5, 13, rfl, by decide, inX5, gm 168 (by decide +kernel) rfl⟩
set_option maxRecDepth 100000 in
theorem cd_X6_clear : Cond.code yX6_clear cX6_clear 1 (none) ∈ G := gm 274 rfl rfl
theorem cf_X5_65 : c_V RX5 65 yX6_clear cX6_clear 1 (none) 0 := ⟨(gm 271 (by decide +kernel) rfl), (gm 272 (by decide +kernel) rfl), (gm 273 (by decide +kernel) rfl), (gm 6 (by decide +kernel) rfl), cd_X6_clear, by decide +kernel, by decide +kernel, by decide +kernel⟩
theorem fa_X5_28 : f_A RX5 28 5 4 := ⟨RX5, TX5, 13, rfl, by decide, inX5, gm 170 (by decide +kernel) rfl⟩
set_option maxRecDepth 100000 in
theorem cd_X1_forget : Cond.code yX1_forget cX1_forget 1 (none) ∈ G := gm 278 rfl rfl
theorem cf_X5_68 : c_V RX5 68 yX1_forget cX1_forget 1 (none) 0 := ⟨(gm 275 (by decide +kernel) rfl), (gm 276 (by decide +kernel) rfl), (gm 277 (by decide +kernel) rfl), (gm 8 (by decide +kernel) rfl), cd_X1_forget, by decide +kernel, by decide +kernel, by decide +kernel⟩
theorem fa_X7_20 : f_A RX7 20 7 3 := ⟨RX7, TX7, 4, rfl, by decide, inX7, gm 48 (by decide +kernel) rfl⟩
theorem fp_X7_20 : f_P RX7 20 7 3 .int false := ⟨RX7, TX7, 4, tyX7, rfl, by decide, inX7, gm 48 (by decide +kernel) rfl, tyX7_ok, nmX7, rfl, (fun h => by cases h), by decide +kernel⟩
theorem fa_X7_23 : f_A RX7 23 7 0 := ⟨RX7, TX7, 4, rfl, by decide, inX7, gm 45 (by decide +kernel) rfl⟩
theorem fa_X7_16 : f_A RX7 16 7 2 := ⟨RX7, TX7, 4, rfl, by decide, inX7, gm 47 (by decide +kernel) rfl⟩
theorem fa_X7_10 : f_A RX7 10 7 1 := ⟨RX7, TX7, 4, rfl, by decide, inX7, gm 46 (by decide +kernel) rfl⟩
set_option maxRecDepth 100000 in
theorem cd_X5_begin : Cond.code yX5_begin cX5_begin 2 (none) ∈ G := gm 270 rfl rfl
theorem cf_X5_71 : c_V RX5 71 yX5_begin cX5_begin 2 (none) 1 := ⟨(gm 267 (by decide +kernel) rfl), (gm 268 (by decide +kernel) rfl), (gm 269 (by decide +kernel) rfl), (gm 4 (by decide +kernel) rfl), cd_X5_begin, by decide +kernel, by decide +kernel, by decide +kernel⟩
theorem fa_X5_12 : f_A RX5 12 5 2 := ⟨RX5, TX5, 13, rfl, by decide, inX5, gm 166 (by decide +kernel) rfl⟩
theorem fa_X5_75 : f_A RX5 75 0 5 := ⟨RX0, TX0, 6, rfl, by decide, inX0, gm 83 (by decide +kernel) rfl⟩
theorem fp_X5_75 : f_P RX5 75 0 5 .int false := ⟨RX0, TX0, 6, tyX0, rfl, by decide, inX0, gm 83 (by decide +kernel) rfl, tyX0_ok, nmX0, rfl, (fun h => by cases h), by decide +kernel⟩
theorem fa_X5_61 : f_A RX5 61 5 1 := ⟨RX5, TX5, 13, rfl, by decide, inX5, gm 165 (by decide +kernel) rfl⟩
set_option maxRecDepth 100000 in
theorem cd_X7_add : Cond.code yX7_add cX7_add 1 (some (.object "SpoolLink$Packet")) ∈ G := gm 282 rfl rfl
theorem cf_X5_78 : c_V RX5 78 yX7_add cX7_add 1 (some (.object "SpoolLink$Packet")) 0 := ⟨(gm 279 (by decide +kernel) rfl), (gm 280 (by decide +kernel) rfl), (gm 281 (by decide +kernel) rfl), (gm 2 (by decide +kernel) rfl), cd_X7_add, by decide +kernel, by decide +kernel, by decide +kernel⟩
theorem fa_X5_36 : f_A RX5 36 5 6 := ⟨RX5, TX5, 13, rfl, by decide, inX5, gm 173 (by decide +kernel) rfl⟩
set_option maxRecDepth 100000 in
theorem cd_X4_fillControl : Cond.code yX4_fillControl cX4_fillControl 4 (none) ∈ G := gm 286 rfl rfl
theorem cf_X5_86 : c_V RX5 86 yX4_fillControl cX4_fillControl 4 (none) 2 := ⟨(gm 283 (by decide +kernel) rfl), (gm 284 (by decide +kernel) rfl), (gm 285 (by decide +kernel) rfl), (gm 3 (by decide +kernel) rfl), cd_X4_fillControl, by decide +kernel, by decide +kernel, by decide +kernel⟩
theorem fa_X6_13 : f_A RX6 13 6 2 := ⟨RX6, TX6, 5, rfl, by decide, inX6, gm 124 (by decide +kernel) rfl⟩
theorem fa_X6_9 : f_A RX6 9 6 1 := ⟨RX6, TX6, 5, rfl, by decide, inX6, gm 123 (by decide +kernel) rfl⟩
theorem fa_X5_90 : f_A RX5 90 6 3 := ⟨RX6, TX6, 5, rfl, by decide, inX6, gm 126 (by decide +kernel) rfl⟩
set_option maxRecDepth 100000 in
theorem cd_X6_number : Cond.code yX6_number cX6_number 2 (some .int) ∈ G := gm 376 rfl rfl
theorem cf_X5_132 : c_V RX5 132 yX6_number cX6_number 2 (some .int) 1 := ⟨(gm 373 (by decide +kernel) rfl), (gm 374 (by decide +kernel) rfl), (gm 375 (by decide +kernel) rfl), (gm 6 (by decide +kernel) rfl), cd_X6_number, by decide +kernel, by decide +kernel, by decide +kernel⟩
theorem fa_X5_42 : f_A RX5 42 5 8 := ⟨RX5, TX5, 13, rfl, by decide, inX5, gm 175 (by decide +kernel) rfl⟩
set_option maxRecDepth 100000 in
theorem cd_X6_message : Cond.code yX6_message cX6_message 2 (some (.object "SpoolLink$Message")) ∈ G := gm 380 rfl rfl
theorem cf_X5_136 : c_V RX5 136 yX6_message cX6_message 2 (some (.object "SpoolLink$Message")) 1 := ⟨(gm 377 (by decide +kernel) rfl), (gm 378 (by decide +kernel) rfl), (gm 379 (by decide +kernel) rfl), (gm 6 (by decide +kernel) rfl), cd_X6_message, by decide +kernel, by decide +kernel, by decide +kernel⟩
set_option maxRecDepth 100000 in
theorem cd_X4_fillData : Cond.code yX4_fillData cX4_fillData 5 (none) ∈ G := gm 384 rfl rfl
theorem cf_X5_140 : c_V RX5 140 yX4_fillData cX4_fillData 5 (none) 3 := ⟨(gm 381 (by decide +kernel) rfl), (gm 382 (by decide +kernel) rfl), (gm 383 (by decide +kernel) rfl), (gm 3 (by decide +kernel) rfl), cd_X4_fillData, by decide +kernel, by decide +kernel, by decide +kernel⟩
theorem fa_X5_49 : f_A RX5 49 5 10 := ⟨RX5, TX5, 13, rfl, by decide, inX5, gm 177 (by decide +kernel) rfl⟩
theorem fa_X5_52 : f_A RX5 52 5 11 := ⟨RX5, TX5, 13, rfl, by decide, inX5, gm 178 (by decide +kernel) rfl⟩
theorem fa_X5_32 : f_A RX5 32 5 5 := ⟨RX5, TX5, 13, rfl, by decide, inX5, gm 171 (by decide +kernel) rfl⟩
set_option maxRecDepth 100000 in
theorem cd_X5_sendOutFrom : Cond.code yX5_sendOutFrom cX5_sendOutFrom 3 (none) ∈ G := gm 372 rfl rfl
theorem cf_X5_129 : c_V RX5 129 yX5_sendOutFrom cX5_sendOutFrom 3 (none) 1 := ⟨(gm 369 (by decide +kernel) rfl), (gm 371 (by decide +kernel) rfl), (gs 8 (by decide +kernel) rfl), (gm 4 (by decide +kernel) rfl), cd_X5_sendOutFrom, by decide +kernel, by decide +kernel, by decide +kernel⟩
set_option maxRecDepth 100000 in
theorem cd_X5_passTickUnanswered : Cond.code yX5_passTickUnanswered cX5_passTickUnanswered 1 (some .int) ∈ G := gm 501 rfl rfl
theorem cf_X5_93 : c_V RX5 93 yX5_passTickUnanswered cX5_passTickUnanswered 1 (some .int) 0 := ⟨(gm 498 (by decide +kernel) rfl), (gm 500 (by decide +kernel) rfl), (gs 19 (by decide +kernel) rfl), (gm 4 (by decide +kernel) rfl), cd_X5_passTickUnanswered, by decide +kernel, by decide +kernel, by decide +kernel⟩
set_option maxRecDepth 100000 in
theorem cd_X5_isOpen : Cond.code yX5_isOpen cX5_isOpen 1 (some .boolean) ∈ G := gm 343 rfl rfl
theorem cf_X5_97 : c_V RX5 97 yX5_isOpen cX5_isOpen 1 (some .boolean) 0 := ⟨(gm 340 (by decide +kernel) rfl), (gm 342 (by decide +kernel) rfl), (gs 5 (by decide +kernel) rfl), (gm 4 (by decide +kernel) rfl), cd_X5_isOpen, by decide +kernel, by decide +kernel, by decide +kernel⟩
theorem fa_X5_55 : f_A RX5 55 5 12 := ⟨RX5, TX5, 13, rfl, by decide, inX5, gm 179 (by decide +kernel) rfl⟩
theorem fa_X6_16 : f_A RX6 16 6 3 := ⟨RX6, TX6, 5, rfl, by decide, inX6, gm 125 (by decide +kernel) rfl⟩
set_option maxRecDepth 100000 in
theorem cd_X6_acknowledge : Cond.code yX6_acknowledge cX6_acknowledge 3 (some .boolean) ∈ G := gm 361 rfl rfl
theorem cf_X5_150 : c_V RX5 150 yX6_acknowledge cX6_acknowledge 3 (some .boolean) 1 := ⟨(gm 358 (by decide +kernel) rfl), (gm 359 (by decide +kernel) rfl), (gm 360 (by decide +kernel) rfl), (gm 6 (by decide +kernel) rfl), cd_X6_acknowledge, by decide +kernel, by decide +kernel, by decide +kernel⟩
theorem fa_X6_19 : f_A RX6 19 6 4 := ⟨RX6, TX6, 5, rfl, by decide, inX6, gm 128 (by decide +kernel) rfl⟩
theorem cj_X6_36 : Cond.methodLink RX6 36 Lib.Math.min.name ∈ G := gm 366 (by decide +kernel) rfl
theorem gj_m1 : Cond.static Lib.Math.min.name ∈ G := gm 367 (by decide +kernel) rfl
theorem gj_m2 : Cond.initialized "java/lang/Math" ∈ G := gm 12 (by decide +kernel) rfl
theorem gj_m3 : Cond.code Lib.Math.min.name Lib.Math.min.code 2 (some .int) ∈ G := gm 368 rfl rfl
theorem fa_X6_29 : f_A RX6 29 3 0 := ⟨RX3, TX3, 2, rfl, by decide, inX3, gm 112 (by decide +kernel) rfl⟩
theorem fp_X6_33 : f_P RX6 33 3 1 .int false := ⟨RX3, TX3, 2, tyX3, rfl, by decide, inX3, gm 116 (by decide +kernel) rfl, tyX3_ok, nmX3, rfl, (fun h => by cases h), by decide +kernel⟩
set_option maxRecDepth 100000 in
theorem cd_X0_firstJob : Cond.code yX0_firstJob cX0_firstJob 1 (some (.object "SpoolLink$Job")) ∈ G := gm 408 rfl rfl
theorem cf_X5_205 : c_V RX5 205 yX0_firstJob cX0_firstJob 1 (some (.object "SpoolLink$Job")) 0 := ⟨(gm 405 (by decide +kernel) rfl), (gm 406 (by decide +kernel) rfl), (gm 407 (by decide +kernel) rfl), (gm 5 (by decide +kernel) rfl), cd_X0_firstJob, by decide +kernel, by decide +kernel, by decide +kernel⟩
set_option maxRecDepth 100000 in
theorem cd_X6_add : Cond.code yX6_add cX6_add 3 (some (.object "SpoolLink$Message")) ∈ G := gm 412 rfl rfl
theorem cf_X5_187 : c_V RX5 187 yX6_add cX6_add 3 (some (.object "SpoolLink$Message")) 1 := ⟨(gm 409 (by decide +kernel) rfl), (gm 410 (by decide +kernel) rfl), (gm 411 (by decide +kernel) rfl), (gm 6 (by decide +kernel) rfl), cd_X6_add, by decide +kernel, by decide +kernel, by decide +kernel⟩
theorem fa_X5_208 : f_A RX5 208 2 0 := ⟨RX2, TX2, 2, rfl, by decide, inX2, gm 246 (by decide +kernel) rfl⟩
set_option maxRecDepth 100000 in
theorem cd_X3_append : Cond.code yX3_append cX3_append 2 (none) ∈ G := gm 416 rfl rfl
theorem cf_X5_212 : c_V RX5 212 yX3_append cX3_append 2 (none) 1 := ⟨(gm 413 (by decide +kernel) rfl), (gm 414 (by decide +kernel) rfl), (gm 415 (by decide +kernel) rfl), (gm 7 (by decide +kernel) rfl), cd_X3_append, by decide +kernel, by decide +kernel, by decide +kernel⟩
theorem fa_X5_217 : f_A RX5 217 2 1 := ⟨RX2, TX2, 2, rfl, by decide, inX2, gm 249 (by decide +kernel) rfl⟩
theorem cj_X5_221 : Cond.methodLink RX5 221 Lib.Math.min.name ∈ G := gm 421 (by decide +kernel) rfl
set_option maxRecDepth 100000 in
theorem cd_X0_dropFirstJob : Cond.code yX0_dropFirstJob cX0_dropFirstJob 1 (some .boolean) ∈ G := gm 400 rfl rfl
theorem cf_X5_169 : c_V RX5 169 yX0_dropFirstJob cX0_dropFirstJob 1 (some .boolean) 0 := ⟨(gm 397 (by decide +kernel) rfl), (gm 398 (by decide +kernel) rfl), (gm 399 (by decide +kernel) rfl), (gm 5 (by decide +kernel) rfl), cd_X0_dropFirstJob, by decide +kernel, by decide +kernel, by decide +kernel⟩
set_option maxRecDepth 100000 in
theorem cd_X5_goOn : Cond.code yX5_goOn cX5_goOn 3 (none) ∈ G := gm 404 rfl rfl
theorem cf_X5_144 : c_V RX5 144 yX5_goOn cX5_goOn 3 (none) 0 := ⟨(gm 401 (by decide +kernel) rfl), (gm 403 (by decide +kernel) rfl), (gs 10 (by decide +kernel) rfl), (gm 4 (by decide +kernel) rfl), cd_X5_goOn, by decide +kernel, by decide +kernel, by decide +kernel⟩
theorem cf_X5_163 : c_V RX5 163 yX4_messageLength cX4_messageLength 1 (some .int) 0 := ⟨(gm 389 (by decide +kernel) rfl), (gm 390 (by decide +kernel) rfl), (gm 391 (by decide +kernel) rfl), (gm 3 (by decide +kernel) rfl), cd_X4_messageLength, by decide +kernel, by decide +kernel, by decide +kernel⟩
theorem cf_X5_166 : c_V RX5 166 yX4_messageByte cX4_messageByte 2 (some .int) 1 := ⟨(gm 393 (by decide +kernel) rfl), (gm 394 (by decide +kernel) rfl), (gm 395 (by decide +kernel) rfl), (gm 3 (by decide +kernel) rfl), cd_X4_messageByte, by decide +kernel, by decide +kernel, by decide +kernel⟩
set_option maxRecDepth 100000 in
theorem cd_X5_addFile : Cond.code yX5_addFile cX5_addFile 6 (none) ∈ G := gm 420 rfl rfl
theorem cf_X5_172 : c_V RX5 172 yX5_addFile cX5_addFile 6 (none) 0 := ⟨(gm 417 (by decide +kernel) rfl), (gm 419 (by decide +kernel) rfl), (gs 11 (by decide +kernel) rfl), (gm 4 (by decide +kernel) rfl), cd_X5_addFile, by decide +kernel, by decide +kernel, by decide +kernel⟩
set_option maxRecDepth 100000 in
theorem cd_X0_hasDone : Cond.code yX0_hasDone cX0_hasDone 3 (some .boolean) ∈ G := gm 433 rfl rfl
theorem cf_X5_189 : c_V RX5 189 yX0_hasDone cX0_hasDone 3 (some .boolean) 1 := ⟨(gm 430 (by decide +kernel) rfl), (gm 431 (by decide +kernel) rfl), (gm 432 (by decide +kernel) rfl), (gm 5 (by decide +kernel) rfl), cd_X0_hasDone, by decide +kernel, by decide +kernel, by decide +kernel⟩
set_option maxRecDepth 100000 in
theorem cd_X1_begin : Cond.code yX1_begin cX1_begin 3 (none) ∈ G := gm 437 rfl rfl
theorem cf_X5_192 : c_V RX5 192 yX1_begin cX1_begin 3 (none) 2 := ⟨(gm 434 (by decide +kernel) rfl), (gm 435 (by decide +kernel) rfl), (gm 436 (by decide +kernel) rfl), (gm 8 (by decide +kernel) rfl), cd_X1_begin, by decide +kernel, by decide +kernel, by decide +kernel⟩
set_option maxRecDepth 100000 in
theorem cd_X0_jobsLeft : Cond.code yX0_jobsLeft cX0_jobsLeft 1 (some .int) ∈ G := gm 447 rfl rfl
theorem cf_X5_184 : c_V RX5 184 yX0_jobsLeft cX0_jobsLeft 1 (some .int) 0 := ⟨(gm 444 (by decide +kernel) rfl), (gm 445 (by decide +kernel) rfl), (gm 446 (by decide +kernel) rfl), (gm 5 (by decide +kernel) rfl), cd_X0_jobsLeft, by decide +kernel, by decide +kernel, by decide +kernel⟩
set_option maxRecDepth 100000 in
theorem cd_X1_takePart : Cond.code yX1_takePart cX1_takePart 3 (none) ∈ G := gm 441 rfl rfl
theorem cf_X5_181 : c_V RX5 181 yX1_takePart cX1_takePart 3 (none) 1 := ⟨(gm 438 (by decide +kernel) rfl), (gm 439 (by decide +kernel) rfl), (gm 440 (by decide +kernel) rfl), (gm 8 (by decide +kernel) rfl), cd_X1_takePart, by decide +kernel, by decide +kernel, by decide +kernel⟩
set_option maxRecDepth 100000 in
theorem cd_X5_takeOffer : Cond.code yX5_takeOffer cX5_takeOffer 3 (none) ∈ G := gm 429 rfl rfl
theorem cf_X5_175 : c_V RX5 175 yX5_takeOffer cX5_takeOffer 3 (none) 2 := ⟨(gm 426 (by decide +kernel) rfl), (gm 428 (by decide +kernel) rfl), (gs 13 (by decide +kernel) rfl), (gm 4 (by decide +kernel) rfl), cd_X5_takeOffer, by decide +kernel, by decide +kernel, by decide +kernel⟩
set_option maxRecDepth 100000 in
theorem cd_X0_addDone : Cond.code yX0_addDone cX0_addDone 2 (none) ∈ G := gm 465 rfl rfl
theorem cf_X5_201 : c_V RX5 201 yX0_addDone cX0_addDone 2 (none) 1 := ⟨(gm 462 (by decide +kernel) rfl), (gm 463 (by decide +kernel) rfl), (gm 464 (by decide +kernel) rfl), (gm 5 (by decide +kernel) rfl), cd_X0_addDone, by decide +kernel, by decide +kernel, by decide +kernel⟩
set_option maxRecDepth 100000 in
theorem cd_X1_isWhole : Cond.code yX1_isWhole cX1_isWhole 1 (some .boolean) ∈ G := gm 455 rfl rfl
theorem cf_X5_194 : c_V RX5 194 yX1_isWhole cX1_isWhole 1 (some .boolean) 0 := ⟨(gm 452 (by decide +kernel) rfl), (gm 453 (by decide +kernel) rfl), (gm 454 (by decide +kernel) rfl), (gm 8 (by decide +kernel) rfl), cd_X1_isWhole, by decide +kernel, by decide +kernel, by decide +kernel⟩
set_option maxRecDepth 100000 in
theorem cd_X1_job : Cond.code yX1_job cX1_job 1 (some (.object "SpoolLink$Job")) ∈ G := gm 459 rfl rfl
theorem cf_X5_197 : c_V RX5 197 yX1_job cX1_job 1 (some (.object "SpoolLink$Job")) 0 := ⟨(gm 456 (by decide +kernel) rfl), (gm 457 (by decide +kernel) rfl), (gm 458 (by decide +kernel) rfl), (gm 8 (by decide +kernel) rfl), cd_X1_job, by decide +kernel, by decide +kernel, by decide +kernel⟩
set_option maxRecDepth 100000 in
theorem cd_X4_y : Cond.code yX4_y cX4_y 1 (some .int) ∈ G := gm 353 rfl rfl
theorem cf_X5_114 : c_V RX5 114 yX4_y cX4_y 1 (some .int) 0 := ⟨(gm 350 (by decide +kernel) rfl), (gm 351 (by decide +kernel) rfl), (gm 352 (by decide +kernel) rfl), (gm 3 (by decide +kernel) rfl), cd_X4_y, by decide +kernel, by decide +kernel, by decide +kernel⟩
set_option maxRecDepth 100000 in
theorem cd_X5_takeAcknowledgement : Cond.code yX5_takeAcknowledgement cX5_takeAcknowledgement 2 (none) ∈ G := gm 357 rfl rfl
theorem cf_X5_147 : c_V RX5 147 yX5_takeAcknowledgement cX5_takeAcknowledgement 2 (none) 1 := ⟨(gm 354 (by decide +kernel) rfl), (gm 356 (by decide +kernel) rfl), (gs 7 (by decide +kernel) rfl), (gm 4 (by decide +kernel) rfl), cd_X5_takeAcknowledgement, by decide +kernel, by decide +kernel, by decide +kernel⟩
set_option maxRecDepth 100000 in
theorem cd_X6_letOut : Cond.code yX6_letOut cX6_letOut 3 (some .int) ∈ G := gm 365 rfl rfl
theorem cf_X5_126 : c_V RX5 126 yX6_letOut cX6_letOut 3 (some .int) 0 := ⟨(gm 362 (by decide +kernel) rfl), (gm 363 (by decide +kernel) rfl), (gm 364 (by decide +kernel) rfl), (gm 6 (by decide +kernel) rfl), cd_X6_letOut, by decide +kernel, by decide +kernel, by decide +kernel⟩
theorem cf_X5_104 : c_V RX5 104 yX4_x cX4_x 1 (some .int) 0 := ⟨(gm 344 (by decide +kernel) rfl), (gm 334 (by decide +kernel) rfl), (gm 335 (by decide +kernel) rfl), (gm 3 (by decide +kernel) rfl), cd_X4_x, by decide +kernel, by decide +kernel, by decide +kernel⟩
set_option maxRecDepth 100000 in
theorem cd_X5_doAsSlave : Cond.code yX5_doAsSlave cX5_doAsSlave 4 (none) ∈ G := gm 425 rfl rfl
theorem cf_X5_157 : c_V RX5 157 yX5_doAsSlave cX5_doAsSlave 4 (none) 1 := ⟨(gm 422 (by decide +kernel) rfl), (gm 424 (by decide +kernel) rfl), (gs 12 (by decide +kernel) rfl), (gm 4 (by decide +kernel) rfl), cd_X5_doAsSlave, by decide +kernel, by decide +kernel, by decide +kernel⟩
set_option maxRecDepth 100000 in
theorem cd_X5_executeWhatIsWhole : Cond.code yX5_executeWhatIsWhole cX5_executeWhatIsWhole 1 (none) ∈ G := gm 451 rfl rfl
theorem cf_X5_160 : c_V RX5 160 yX5_executeWhatIsWhole cX5_executeWhatIsWhole 1 (none) 0 := ⟨(gm 448 (by decide +kernel) rfl), (gm 450 (by decide +kernel) rfl), (gs 14 (by decide +kernel) rfl), (gm 4 (by decide +kernel) rfl), cd_X5_executeWhatIsWhole, by decide +kernel, by decide +kernel, by decide +kernel⟩
set_option maxRecDepth 100000 in
theorem cd_X5_doAsMaster : Cond.code yX5_doAsMaster cX5_doAsMaster 2 (none) ∈ G := gm 388 rfl rfl
theorem cf_X5_154 : c_V RX5 154 yX5_doAsMaster cX5_doAsMaster 2 (none) 1 := ⟨(gm 385 (by decide +kernel) rfl), (gm 387 (by decide +kernel) rfl), (gs 9 (by decide +kernel) rfl), (gm 4 (by decide +kernel) rfl), cd_X5_doAsMaster, by decide +kernel, by decide +kernel, by decide +kernel⟩
theorem fa_X5_39 : f_A RX5 39 5 7 := ⟨RX5, TX5, 13, rfl, by decide, inX5, gm 174 (by decide +kernel) rfl⟩
theorem fa_X5_45 : f_A RX5 45 5 9 := ⟨RX5, TX5, 13, rfl, by decide, inX5, gm 176 (by decide +kernel) rfl⟩
theorem fa_X5_58 : f_A RX5 58 5 0 := ⟨RX5, TX5, 13, rfl, by decide, inX5, gm 164 (by decide +kernel) rfl⟩
set_option maxRecDepth 100000 in
theorem cd_X4_isGood : Cond.code yX4_isGood cX4_isGood 2 (some .boolean) ∈ G := gm 315 rfl rfl
theorem cf_X5_101 : c_V RX5 101 yX4_isGood cX4_isGood 2 (some .boolean) 0 := ⟨(gm 312 (by decide +kernel) rfl), (gm 313 (by decide +kernel) rfl), (gm 314 (by decide +kernel) rfl), (gm 3 (by decide +kernel) rfl), cd_X4_isGood, by decide +kernel, by decide +kernel, by decide +kernel⟩
theorem cf_X5_107 : c_V RX5 107 yX4_isData cX4_isData 1 (some .boolean) 0 := ⟨(gm 345 (by decide +kernel) rfl), (gm 317 (by decide +kernel) rfl), (gm 318 (by decide +kernel) rfl), (gm 3 (by decide +kernel) rfl), cd_X4_isData, by decide +kernel, by decide +kernel, by decide +kernel⟩
set_option maxRecDepth 100000 in
theorem cd_X5_takeControl : Cond.code yX5_takeControl cX5_takeControl 3 (none) ∈ G := gm 477 rfl rfl
theorem cf_X5_123 : c_V RX5 123 yX5_takeControl cX5_takeControl 3 (none) 2 := ⟨(gm 474 (by decide +kernel) rfl), (gm 476 (by decide +kernel) rfl), (gs 17 (by decide +kernel) rfl), (gm 4 (by decide +kernel) rfl), cd_X5_takeControl, by decide +kernel, by decide +kernel, by decide +kernel⟩
set_option maxRecDepth 100000 in
theorem cd_X5_takeAnswer : Cond.code yX5_takeAnswer cX5_takeAnswer 2 (none) ∈ G := gm 473 rfl rfl
theorem cf_X5_120 : c_V RX5 120 yX5_takeAnswer cX5_takeAnswer 2 (none) 1 := ⟨(gm 470 (by decide +kernel) rfl), (gm 472 (by decide +kernel) rfl), (gs 16 (by decide +kernel) rfl), (gm 4 (by decide +kernel) rfl), cd_X5_takeAnswer, by decide +kernel, by decide +kernel, by decide +kernel⟩
set_option maxRecDepth 100000 in
theorem cd_X5_takeInit : Cond.code yX5_takeInit cX5_takeInit 4 (none) ∈ G := gm 469 rfl rfl
theorem cf_X5_117 : c_V RX5 117 yX5_takeInit cX5_takeInit 4 (none) 1 := ⟨(gm 466 (by decide +kernel) rfl), (gm 468 (by decide +kernel) rfl), (gs 15 (by decide +kernel) rfl), (gm 4 (by decide +kernel) rfl), cd_X5_takeInit, by decide +kernel, by decide +kernel, by decide +kernel⟩
set_option maxRecDepth 100000 in
theorem cd_X5_takeData : Cond.code yX5_takeData cX5_takeData 2 (none) ∈ G := gm 349 rfl rfl
theorem cf_X5_110 : c_V RX5 110 yX5_takeData cX5_takeData 2 (none) 1 := ⟨(gm 346 (by decide +kernel) rfl), (gm 348 (by decide +kernel) rfl), (gs 6 (by decide +kernel) rfl), (gm 4 (by decide +kernel) rfl), cd_X5_takeData, by decide +kernel, by decide +kernel, by decide +kernel⟩
set_option maxRecDepth 100000 in
theorem cd_X4_init : Cond.code yX4_init cX4_init 1 (none) ∈ G := gm 32 rfl rfl
theorem cf_X7_9 : c_N RX7 9 yX4_init cX4_init 1 0 := ⟨fun _ h => h.2.2.2.1, rfl, (gm 31 (by decide +kernel) rfl), (gm 3 (by decide +kernel) rfl), cd_X4_init, by decide +kernel, by decide +kernel, by decide +kernel⟩
theorem fn_X7_7 : f_N RX7 7 4 2 := ⟨RX4, TX4, tyX4, rfl, inX4, tyX4_ok, gm 28 (by decide +kernel) rfl, gm 29 (by decide +kernel) rfl, gm 3 (by decide +kernel) rfl, by decide +kernel⟩
theorem fp_X7_23 : f_P RX7 23 7 0 (.array (.object "SpoolLink$Packet")) true := ⟨RX7, TX7, 4, tyX7, rfl, by decide, inX7, gm 45 (by decide +kernel) rfl, tyX7_ok, nmX7, rfl, (fun _ => rfl), by decide +kernel⟩
theorem fp_X7_10 : f_P RX7 10 7 1 (.object "SpoolLink$Packet") true := ⟨RX7, TX7, 4, tyX7, rfl, by decide, inX7, gm 46 (by decide +kernel) rfl, tyX7_ok, nmX7, rfl, (fun _ => rfl), by decide +kernel⟩
theorem fp_X7_16 : f_P RX7 16 7 2 .int false := ⟨RX7, TX7, 4, tyX7, rfl, by decide, inX7, gm 47 (by decide +kernel) rfl, tyX7_ok, nmX7, rfl, (fun h => by cases h), by decide +kernel⟩
theorem cj_X7_1 : Cond.methodLink RX7 1 objectInit ∈ G := gm 27 (by decide +kernel) rfl
theorem fp_X8_25 : f_P RX8 25 8 2 (.array .int) true := ⟨RX8, TX8, 4, tyX8, rfl, by decide, inX8, gm 209 (by decide +kernel) rfl, tyX8_ok, nmX8, rfl, (fun _ => rfl), by decide +kernel⟩
theorem fp_X8_29 : f_P RX8 29 8 3 .int false := ⟨RX8, TX8, 4, tyX8, rfl, by decide, inX8, gm 210 (by decide +kernel) rfl, tyX8_ok, nmX8, rfl, (fun h => by cases h), by decide +kernel⟩
theorem fp_X8_21 : f_P RX8 21 8 1 (.array (.object "SpoolLink$Site")) true := ⟨RX8, TX8, 4, tyX8, rfl, by decide, inX8, gm 208 (by decide +kernel) rfl, tyX8_ok, nmX8, rfl, (fun _ => rfl), by decide +kernel⟩
theorem fa_X8_10 : f_A RX8 10 8 0 := ⟨RX8, TX8, 4, rfl, by decide, inX8, gm 207 (by decide +kernel) rfl⟩
set_option maxRecDepth 100000 in
theorem cd_X5_init : Cond.code yX5_init cX5_init 3 (none) ∈ G := gm 64 rfl rfl
theorem cf_X8_18 : c_I RX8 18 yX5_init cX5_init 3 2 := ⟨(gm 62 (by decide +kernel) rfl), rfl, (gm 63 (by decide +kernel) rfl), (gm 4 (by decide +kernel) rfl), cd_X5_init, by decide +kernel, by decide +kernel, by decide +kernel⟩
theorem fn_X8_16 : f_N RX8 16 5 13 := ⟨RX5, TX5, tyX5, rfl, inX5, tyX5_ok, gm 59 (by decide +kernel) rfl, gm 61 (by decide +kernel) rfl, gm 4 (by decide +kernel) rfl, by decide +kernel⟩
theorem fp_X8_10 : f_P RX8 10 8 0 (.array (.object "SpoolLink$Wire")) true := ⟨RX8, TX8, 4, tyX8, rfl, by decide, inX8, gm 207 (by decide +kernel) rfl, tyX8_ok, nmX8, rfl, (fun _ => rfl), by decide +kernel⟩
set_option maxRecDepth 100000 in
theorem cd_X7_init : Cond.code yX7_init cX7_init 2 (none) ∈ G := gm 26 rfl rfl
theorem cf_X8_9 : c_I RX8 9 yX7_init cX7_init 2 0 := ⟨(gm 24 (by decide +kernel) rfl), rfl, (gm 25 (by decide +kernel) rfl), (gm 2 (by decide +kernel) rfl), cd_X7_init, by decide +kernel, by decide +kernel, by decide +kernel⟩
theorem fn_X8_7 : f_N RX8 7 7 4 := ⟨RX7, TX7, tyX7, rfl, inX7, tyX7_ok, gm 21 (by decide +kernel) rfl, gm 23 (by decide +kernel) rfl, gm 2 (by decide +kernel) rfl, by decide +kernel⟩
theorem cj_X8_1 : Cond.methodLink RX8 1 objectInit ∈ G := gm 18 (by decide +kernel) rfl
theorem fa_X8_29 : f_A RX8 29 8 3 := ⟨RX8, TX8, 4, rfl, by decide, inX8, gm 210 (by decide +kernel) rfl⟩
theorem fa_X8_25 : f_A RX8 25 8 2 := ⟨RX8, TX8, 4, rfl, by decide, inX8, gm 209 (by decide +kernel) rfl⟩
set_option maxRecDepth 100000 in
theorem cd_X8_isSite : Cond.code yX8_isSite cX8_isSite 1 (some .boolean) ∈ G := gm 230 rfl rfl
theorem cf_X8_33 : c_S RX8 33 yX8_isSite cX8_isSite 1 (some .boolean) 1 := ⟨(gm 228 (by decide +kernel) rfl), (gm 229 (by decide +kernel) rfl), (gm 1 (by decide +kernel) rfl), cd_X8_isSite, by decide +kernel, by decide +kernel, by decide +kernel⟩
theorem fa_X8_21 : f_A RX8 21 8 1 := ⟨RX8, TX8, 4, rfl, by decide, inX8, gm 208 (by decide +kernel) rfl⟩
theorem fa_X8_37 : f_A RX8 37 5 2 := ⟨RX5, TX5, 13, rfl, by decide, inX5, gm 167 (by decide +kernel) rfl⟩
set_option maxRecDepth 100000 in
theorem cd_X0_addJob : Cond.code yX0_addJob cX0_addJob 4 (some .int) ∈ G := gm 234 rfl rfl
theorem cf_X8_41 : c_V RX8 41 yX0_addJob cX0_addJob 4 (some .int) 2 := ⟨(gm 231 (by decide +kernel) rfl), (gm 232 (by decide +kernel) rfl), (gm 233 (by decide +kernel) rfl), (gm 5 (by decide +kernel) rfl), cd_X0_addJob, by decide +kernel, by decide +kernel, by decide +kernel⟩
theorem fa_X8_47 : f_A RX8 47 5 5 := ⟨RX5, TX5, 13, rfl, by decide, inX5, gm 172 (by decide +kernel) rfl⟩
set_option maxRecDepth 100000 in
theorem cd_X7_clear : Cond.code yX7_clear cX7_clear 1 (none) ∈ G := gm 262 rfl rfl
theorem cf_X8_50 : c_V RX8 50 yX7_clear cX7_clear 1 (none) 0 := ⟨(gm 259 (by decide +kernel) rfl), (gm 260 (by decide +kernel) rfl), (gm 261 (by decide +kernel) rfl), (gm 2 (by decide +kernel) rfl), cd_X7_clear, by decide +kernel, by decide +kernel, by decide +kernel⟩
set_option maxRecDepth 100000 in
theorem cd_X5_beginCall : Cond.code yX5_beginCall cX5_beginCall 1 (none) ∈ G := gm 266 rfl rfl
theorem cf_X8_53 : c_V RX8 53 yX5_beginCall cX5_beginCall 1 (none) 0 := ⟨(gm 263 (by decide +kernel) rfl), (gm 264 (by decide +kernel) rfl), (gm 265 (by decide +kernel) rfl), (gm 4 (by decide +kernel) rfl), cd_X5_beginCall, by decide +kernel, by decide +kernel, by decide +kernel⟩
set_option maxRecDepth 100000 in
theorem cd_X7_packet : Cond.code yX7_packet cX7_packet 2 (some (.object "SpoolLink$Packet")) ∈ G := gm 303 rfl rfl
theorem cf_X8_126 : c_V RX8 126 yX7_packet cX7_packet 2 (some (.object "SpoolLink$Packet")) 1 := ⟨(gm 300 (by decide +kernel) rfl), (gm 301 (by decide +kernel) rfl), (gm 302 (by decide +kernel) rfl), (gm 2 (by decide +kernel) rfl), cd_X7_packet, by decide +kernel, by decide +kernel, by decide +kernel⟩
set_option maxRecDepth 100000 in
theorem cd_X7_dropFirst : Cond.code yX7_dropFirst cX7_dropFirst 1 (none) ∈ G := gm 307 rfl rfl
theorem cf_X8_64 : c_V RX8 64 yX7_dropFirst cX7_dropFirst 1 (none) 0 := ⟨(gm 304 (by decide +kernel) rfl), (gm 305 (by decide +kernel) rfl), (gm 306 (by decide +kernel) rfl), (gm 2 (by decide +kernel) rfl), cd_X7_dropFirst, by decide +kernel, by decide +kernel, by decide +kernel⟩
set_option maxRecDepth 100000 in
theorem cd_X5_receive : Cond.code yX5_receive cX5_receive 3 (some .boolean) ∈ G := gm 311 rfl rfl
theorem cf_X8_133 : c_V RX8 133 yX5_receive cX5_receive 3 (some .boolean) 1 := ⟨(gm 308 (by decide +kernel) rfl), (gm 309 (by decide +kernel) rfl), (gm 310 (by decide +kernel) rfl), (gm 4 (by decide +kernel) rfl), cd_X5_receive, by decide +kernel, by decide +kernel, by decide +kernel⟩
set_option maxRecDepth 100000 in
theorem cd_X8_handOver : Cond.code yX8_handOver cX8_handOver 3 (some .int) ∈ G := gm 299 rfl rfl
theorem cf_X8_56 : c_V RX8 56 yX8_handOver cX8_handOver 3 (some .int) 1 := ⟨(gm 296 (by decide +kernel) rfl), (gm 298 (by decide +kernel) rfl), (gs 1 (by decide +kernel) rfl), (gm 1 (by decide +kernel) rfl), cd_X8_handOver, by decide +kernel, by decide +kernel, by decide +kernel⟩
set_option maxRecDepth 100000 in
theorem cd_X8_packetOn : Cond.code yX8_packetOn cX8_packetOn 3 (some (.object "SpoolLink$Packet")) ∈ G := gm 485 rfl rfl
theorem cf_X8_60 : c_V RX8 60 yX8_packetOn cX8_packetOn 3 (some (.object "SpoolLink$Packet")) 2 := ⟨(gm 482 (by decide +kernel) rfl), (gm 484 (by decide +kernel) rfl), (gs 18 (by decide +kernel) rfl), (gm 1 (by decide +kernel) rfl), cd_X8_packetOn, by decide +kernel, by decide +kernel, by decide +kernel⟩
theorem fa_X8_67 : f_A RX8 67 4 1 := ⟨RX4, TX4, 2, rfl, by decide, inX4, gm 37 (by decide +kernel) rfl⟩
theorem fa_X8_72 : f_A RX8 72 4 0 := ⟨RX4, TX4, 2, rfl, by decide, inX4, gm 35 (by decide +kernel) rfl⟩
set_option maxRecDepth 100000 in
theorem cd_X5_passTick : Cond.code yX5_passTick cX5_passTick 1 (some .int) ∈ G := gm 497 rfl rfl
theorem cf_X8_75 : c_V RX8 75 yX5_passTick cX5_passTick 1 (some .int) 0 := ⟨(gm 494 (by decide +kernel) rfl), (gm 495 (by decide +kernel) rfl), (gm 496 (by decide +kernel) rfl), (gm 4 (by decide +kernel) rfl), cd_X5_passTick, by decide +kernel, by decide +kernel, by decide +kernel⟩
theorem cf_X8_79 : c_V RX8 79 yX5_begin cX5_begin 2 (none) 1 := ⟨(gm 506 (by decide +kernel) rfl), (gm 268 (by decide +kernel) rfl), (gm 269 (by decide +kernel) rfl), (gm 4 (by decide +kernel) rfl), cd_X5_begin, by decide +kernel, by decide +kernel, by decide +kernel⟩
theorem fa_X8_83 : f_A RX8 83 7 3 := ⟨RX7, TX7, 4, rfl, by decide, inX7, gm 49 (by decide +kernel) rfl⟩
theorem cf_X8_86 : c_V RX8 86 yX0_jobsLeft cX0_jobsLeft 1 (some .int) 0 := ⟨(gm 523 (by decide +kernel) rfl), (gm 445 (by decide +kernel) rfl), (gm 446 (by decide +kernel) rfl), (gm 5 (by decide +kernel) rfl), cd_X0_jobsLeft, by decide +kernel, by decide +kernel, by decide +kernel⟩
theorem fa_X8_89 : f_A RX8 89 0 4 := ⟨RX0, TX0, 6, rfl, by decide, inX0, gm 81 (by decide +kernel) rfl⟩
theorem fa_X8_92 : f_A RX8 92 5 3 := ⟨RX5, TX5, 13, rfl, by decide, inX5, gm 169 (by decide +kernel) rfl⟩
theorem fa_X8_96 : f_A RX8 96 6 3 := ⟨RX6, TX6, 5, rfl, by decide, inX6, gm 127 (by decide +kernel) rfl⟩
theorem fa_X8_101 : f_A RX8 101 6 4 := ⟨RX6, TX6, 5, rfl, by decide, inX6, gm 129 (by decide +kernel) rfl⟩
theorem fa_X8_104 : f_A RX8 104 0 5 := ⟨RX0, TX0, 6, rfl, by decide, inX0, gm 84 (by decide +kernel) rfl⟩
theorem fa_X8_107 : f_A RX8 107 0 1 := ⟨RX0, TX0, 6, rfl, by decide, inX0, gm 76 (by decide +kernel) rfl⟩
set_option maxRecDepth 100000 in
theorem cd_X0_doneJob : Cond.code yX0_doneJob cX0_doneJob 2 (some (.object "SpoolLink$Job")) ∈ G := gm 539 rfl rfl
theorem cf_X8_130 : c_V RX8 130 yX0_doneJob cX0_doneJob 2 (some (.object "SpoolLink$Job")) 1 := ⟨(gm 536 (by decide +kernel) rfl), (gm 537 (by decide +kernel) rfl), (gm 538 (by decide +kernel) rfl), (gm 5 (by decide +kernel) rfl), cd_X0_doneJob, by decide +kernel, by decide +kernel, by decide +kernel⟩
set_option maxRecDepth 100000 in
theorem cd_X8_doneJob : Cond.code yX8_doneJob cX8_doneJob 3 (some (.object "SpoolLink$Job")) ∈ G := gm 535 rfl rfl
theorem cf_X8_110 : c_V RX8 110 yX8_doneJob cX8_doneJob 3 (some (.object "SpoolLink$Job")) 2 := ⟨(gm 532 (by decide +kernel) rfl), (gm 534 (by decide +kernel) rfl), (gs 20 (by decide +kernel) rfl), (gm 1 (by decide +kernel) rfl), cd_X8_doneJob, by decide +kernel, by decide +kernel, by decide +kernel⟩
theorem fa_X8_114 : f_A RX8 114 2 0 := ⟨RX2, TX2, 2, rfl, by decide, inX2, gm 245 (by decide +kernel) rfl⟩
theorem fa_X8_119 : f_A RX8 119 2 1 := ⟨RX2, TX2, 2, rfl, by decide, inX2, gm 248 (by decide +kernel) rfl⟩
theorem fa_X8_120 : f_A RX8 120 0 2 := ⟨RX0, TX0, 6, rfl, by decide, inX0, gm 78 (by decide +kernel) rfl⟩
theorem cf_X8_123 : c_V RX8 123 yX0_hasDone cX0_hasDone 3 (some .boolean) 1 := ⟨(gm 548 (by decide +kernel) rfl), (gm 431 (by decide +kernel) rfl), (gm 432 (by decide +kernel) rfl), (gm 5 (by decide +kernel) rfl), cd_X0_hasDone, by decide +kernel, by decide +kernel, by decide +kernel⟩
theorem fp_X9_114 : f_P RX9 114 9 36 (.array .int) true := ⟨RX9, TX9, 37, tyX9, rfl, by decide, inX9, gm 592 (by decide +kernel) rfl, tyX9_ok, nmX9, rfl, (fun _ => rfl), by decide +kernel⟩
theorem fp_X9_111 : f_P RX9 111 9 35 (.array .int) true := ⟨RX9, TX9, 37, tyX9, rfl, by decide, inX9, gm 591 (by decide +kernel) rfl, tyX9_ok, nmX9, rfl, (fun _ => rfl), by decide +kernel⟩
theorem fp_X9_108 : f_P RX9 108 9 34 (.array .int) true := ⟨RX9, TX9, 37, tyX9, rfl, by decide, inX9, gm 590 (by decide +kernel) rfl, tyX9_ok, nmX9, rfl, (fun _ => rfl), by decide +kernel⟩
theorem fp_X9_105 : f_P RX9 105 9 33 (.array .int) true := ⟨RX9, TX9, 37, tyX9, rfl, by decide, inX9, gm 589 (by decide +kernel) rfl, tyX9_ok, nmX9, rfl, (fun _ => rfl), by decide +kernel⟩
theorem fp_X9_102 : f_P RX9 102 9 32 (.array .int) true := ⟨RX9, TX9, 37, tyX9, rfl, by decide, inX9, gm 588 (by decide +kernel) rfl, tyX9_ok, nmX9, rfl, (fun _ => rfl), by decide +kernel⟩
theorem fp_X9_99 : f_P RX9 99 9 31 (.array .int) true := ⟨RX9, TX9, 37, tyX9, rfl, by decide, inX9, gm 587 (by decide +kernel) rfl, tyX9_ok, nmX9, rfl, (fun _ => rfl), by decide +kernel⟩
theorem fp_X9_96 : f_P RX9 96 9 30 (.array .int) true := ⟨RX9, TX9, 37, tyX9, rfl, by decide, inX9, gm 586 (by decide +kernel) rfl, tyX9_ok, nmX9, rfl, (fun _ => rfl), by decide +kernel⟩
theorem fp_X9_93 : f_P RX9 93 9 29 (.array .int) true := ⟨RX9, TX9, 37, tyX9, rfl, by decide, inX9, gm 585 (by decide +kernel) rfl, tyX9_ok, nmX9, rfl, (fun _ => rfl), by decide +kernel⟩
theorem fp_X9_90 : f_P RX9 90 9 28 (.array .boolean) true := ⟨RX9, TX9, 37, tyX9, rfl, by decide, inX9, gm 584 (by decide +kernel) rfl, tyX9_ok, nmX9, rfl, (fun _ => rfl), by decide +kernel⟩
theorem fp_X9_87 : f_P RX9 87 9 27 (.array .int) true := ⟨RX9, TX9, 37, tyX9, rfl, by decide, inX9, gm 583 (by decide +kernel) rfl, tyX9_ok, nmX9, rfl, (fun _ => rfl), by decide +kernel⟩
theorem fp_X9_84 : f_P RX9 84 9 26 (.array .int) true := ⟨RX9, TX9, 37, tyX9, rfl, by decide, inX9, gm 582 (by decide +kernel) rfl, tyX9_ok, nmX9, rfl, (fun _ => rfl), by decide +kernel⟩
theorem fp_X9_81 : f_P RX9 81 9 25 (.array .int) true := ⟨RX9, TX9, 37, tyX9, rfl, by decide, inX9, gm 581 (by decide +kernel) rfl, tyX9_ok, nmX9, rfl, (fun _ => rfl), by decide +kernel⟩
theorem fp_X9_78 : f_P RX9 78 9 24 (.array .int) true := ⟨RX9, TX9, 37, tyX9, rfl, by decide, inX9, gm 580 (by decide +kernel) rfl, tyX9_ok, nmX9, rfl, (fun _ => rfl), by decide +kernel⟩
theorem fp_X9_75 : f_P RX9 75 9 23 (.array .int) true := ⟨RX9, TX9, 37, tyX9, rfl, by decide, inX9, gm 579 (by decide +kernel) rfl, tyX9_ok, nmX9, rfl, (fun _ => rfl), by decide +kernel⟩
theorem fp_X9_72 : f_P RX9 72 9 22 (.array .int) true := ⟨RX9, TX9, 37, tyX9, rfl, by decide, inX9, gm 578 (by decide +kernel) rfl, tyX9_ok, nmX9, rfl, (fun _ => rfl), by decide +kernel⟩
theorem fp_X9_69 : f_P RX9 69 9 21 (.array .int) true := ⟨RX9, TX9, 37, tyX9, rfl, by decide, inX9, gm 577 (by decide +kernel) rfl, tyX9_ok, nmX9, rfl, (fun _ => rfl), by decide +kernel⟩
theorem fp_X9_66 : f_P RX9 66 9 20 (.array .boolean) true := ⟨RX9, TX9, 37, tyX9, rfl, by decide, inX9, gm 576 (by decide +kernel) rfl, tyX9_ok, nmX9, rfl, (fun _ => rfl), by decide +kernel⟩
theorem fp_X9_63 : f_P RX9 63 9 19 (.array .int) true := ⟨RX9, TX9, 37, tyX9, rfl, by decide, inX9, gm 575 (by decide +kernel) rfl, tyX9_ok, nmX9, rfl, (fun _ => rfl), by decide +kernel⟩
theorem fp_X9_59 : f_P RX9 59 9 18 (.array .boolean) true := ⟨RX9, TX9, 37, tyX9, rfl, by decide, inX9, gm 574 (by decide +kernel) rfl, tyX9_ok, nmX9, rfl, (fun _ => rfl), by decide +kernel⟩
theorem fp_X9_56 : f_P RX9 56 9 17 (.array .int) true := ⟨RX9, TX9, 37, tyX9, rfl, by decide, inX9, gm 573 (by decide +kernel) rfl, tyX9_ok, nmX9, rfl, (fun _ => rfl), by decide +kernel⟩
theorem fp_X9_53 : f_P RX9 53 9 15 (.array .int) true := ⟨RX9, TX9, 37, tyX9, rfl, by decide, inX9, gm 571 (by decide +kernel) rfl, tyX9_ok, nmX9, rfl, (fun _ => rfl), by decide +kernel⟩
theorem fp_X9_50 : f_P RX9 50 9 14 (.array .int) true := ⟨RX9, TX9, 37, tyX9, rfl, by decide, inX9, gm 570 (by decide +kernel) rfl, tyX9_ok, nmX9, rfl, (fun _ => rfl), by decide +kernel⟩
theorem fp_X9_47 : f_P RX9 47 9 13 (.array .int) true := ⟨RX9, TX9, 37, tyX9, rfl, by decide, inX9, gm 569 (by decide +kernel) rfl, tyX9_ok, nmX9, rfl, (fun _ => rfl), by decide +kernel⟩
theorem fp_X9_44 : f_P RX9 44 9 12 (.array .int) true := ⟨RX9, TX9, 37, tyX9, rfl, by decide, inX9, gm 568 (by decide +kernel) rfl, tyX9_ok, nmX9, rfl, (fun _ => rfl), by decide +kernel⟩
theorem fp_X9_41 : f_P RX9 41 9 10 (.array .int) true := ⟨RX9, TX9, 37, tyX9, rfl, by decide, inX9, gm 566 (by decide +kernel) rfl, tyX9_ok, nmX9, rfl, (fun _ => rfl), by decide +kernel⟩
theorem fp_X9_38 : f_P RX9 38 9 9 (.array .int) true := ⟨RX9, TX9, 37, tyX9, rfl, by decide, inX9, gm 565 (by decide +kernel) rfl, tyX9_ok, nmX9, rfl, (fun _ => rfl), by decide +kernel⟩
theorem fp_X9_35 : f_P RX9 35 9 8 (.array .int) true := ⟨RX9, TX9, 37, tyX9, rfl, by decide, inX9, gm 564 (by decide +kernel) rfl, tyX9_ok, nmX9, rfl, (fun _ => rfl), by decide +kernel⟩
theorem ck_X9_34 : Cond.constant RX9 34 (51200 : Int32) ∈ G := gm 555 (by decide +kernel) rfl
theorem fp_X9_31 : f_P RX9 31 9 7 (.array .int) true := ⟨RX9, TX9, 37, tyX9, rfl, by decide, inX9, gm 563 (by decide +kernel) rfl, tyX9_ok, nmX9, rfl, (fun _ => rfl), by decide +kernel⟩
theorem fp_X9_28 : f_P RX9 28 9 6 (.array .int) true := ⟨RX9, TX9, 37, tyX9, rfl, by decide, inX9, gm 562 (by decide +kernel) rfl, tyX9_ok, nmX9, rfl, (fun _ => rfl), by decide +kernel⟩
theorem fp_X9_25 : f_P RX9 25 9 5 (.array .int) true := ⟨RX9, TX9, 37, tyX9, rfl, by decide, inX9, gm 561 (by decide +kernel) rfl, tyX9_ok, nmX9, rfl, (fun _ => rfl), by decide +kernel⟩
theorem fp_X9_22 : f_P RX9 22 9 4 (.array .int) true := ⟨RX9, TX9, 37, tyX9, rfl, by decide, inX9, gm 560 (by decide +kernel) rfl, tyX9_ok, nmX9, rfl, (fun _ => rfl), by decide +kernel⟩
theorem fp_X9_19 : f_P RX9 19 9 3 (.array .int) true := ⟨RX9, TX9, 37, tyX9, rfl, by decide, inX9, gm 559 (by decide +kernel) rfl, tyX9_ok, nmX9, rfl, (fun _ => rfl), by decide +kernel⟩
theorem fp_X9_16 : f_P RX9 16 9 2 (.array .int) true := ⟨RX9, TX9, 37, tyX9, rfl, by decide, inX9, gm 558 (by decide +kernel) rfl, tyX9_ok, nmX9, rfl, (fun _ => rfl), by decide +kernel⟩
theorem fp_X9_13 : f_P RX9 13 9 1 (.array .int) true := ⟨RX9, TX9, 37, tyX9, rfl, by decide, inX9, gm 557 (by decide +kernel) rfl, tyX9_ok, nmX9, rfl, (fun _ => rfl), by decide +kernel⟩
theorem fp_X9_7 : f_P RX9 7 9 0 (.array .int) true := ⟨RX9, TX9, 37, tyX9, rfl, by decide, inX9, gm 556 (by decide +kernel) rfl, tyX9_ok, nmX9, rfl, (fun _ => rfl), by decide +kernel⟩
theorem cj_X9_1 : Cond.methodLink RX9 1 objectInit ∈ G := gm 554 (by decide +kernel) rfl
theorem fa_X9_117 : f_A RX9 117 9 11 := ⟨RX9, TX9, 37, rfl, by decide, inX9, gm 567 (by decide +kernel) rfl⟩
theorem fa_X9_41 : f_A RX9 41 9 10 := ⟨RX9, TX9, 37, rfl, by decide, inX9, gm 566 (by decide +kernel) rfl⟩
theorem fp_X9_117 : f_P RX9 117 9 11 .int false := ⟨RX9, TX9, 37, tyX9, rfl, by decide, inX9, gm 567 (by decide +kernel) rfl, tyX9_ok, nmX9, rfl, (fun h => by cases h), by decide +kernel⟩
theorem fa_X9_22 : f_A RX9 22 9 4 := ⟨RX9, TX9, 37, rfl, by decide, inX9, gm 560 (by decide +kernel) rfl⟩
theorem fa_X9_19 : f_A RX9 19 9 3 := ⟨RX9, TX9, 37, rfl, by decide, inX9, gm 559 (by decide +kernel) rfl⟩
theorem fa_X9_7 : f_A RX9 7 9 0 := ⟨RX9, TX9, 37, rfl, by decide, inX9, gm 556 (by decide +kernel) rfl⟩
theorem fa_X9_16 : f_A RX9 16 9 2 := ⟨RX9, TX9, 37, rfl, by decide, inX9, gm 558 (by decide +kernel) rfl⟩
set_option maxRecDepth 100000 in
theorem cd_X9_isSite : Cond.code yX9_isSite cX9_isSite 1 (some .boolean) ∈ G := gm 679 rfl rfl
theorem cf_X9_121 : c_S RX9 121 yX9_isSite cX9_isSite 1 (some .boolean) 1 := ⟨(gm 677 (by decide +kernel) rfl), (gm 678 (by decide +kernel) rfl), (gm 9 (by decide +kernel) rfl), cd_X9_isSite, by decide +kernel, by decide +kernel, by decide +kernel⟩
theorem fa_X9_13 : f_A RX9 13 9 1 := ⟨RX9, TX9, 37, rfl, by decide, inX9, gm 557 (by decide +kernel) rfl⟩
theorem fa_X9_25 : f_A RX9 25 9 5 := ⟨RX9, TX9, 37, rfl, by decide, inX9, gm 561 (by decide +kernel) rfl⟩
theorem fa_X9_28 : f_A RX9 28 9 6 := ⟨RX9, TX9, 37, rfl, by decide, inX9, gm 562 (by decide +kernel) rfl⟩
theorem ck_X9_125 : Cond.constant RX9 125 (65535 : Int32) ∈ G := gm 697 (by decide +kernel) rfl
set_option maxRecDepth 100000 in
theorem cd_X9_left : Cond.code yX9_left cX9_left 1 (some .int) ∈ G := gm 704 rfl rfl
theorem cf_X9_126 : c_S RX9 126 yX9_left cX9_left 1 (some .int) 1 := ⟨(gm 702 (by decide +kernel) rfl), (gm 703 (by decide +kernel) rfl), (gm 9 (by decide +kernel) rfl), cd_X9_left, by decide +kernel, by decide +kernel, by decide +kernel⟩
theorem fa_X9_53 : f_A RX9 53 9 15 := ⟨RX9, TX9, 37, rfl, by decide, inX9, gm 571 (by decide +kernel) rfl⟩
theorem fp_X9_134 : f_P RX9 134 9 16 .int false := ⟨RX9, TX9, 37, tyX9, rfl, by decide, inX9, gm 572 (by decide +kernel) rfl, tyX9_ok, nmX9, rfl, (fun h => by cases h), by decide +kernel⟩
theorem ck_X9_130 : Cond.constant RX9 130 (43690 : Int32) ∈ G := gm 696 (by decide +kernel) rfl
set_option maxRecDepth 100000 in
theorem cd_X9_sum : Cond.code yX9_sum cX9_sum 6 (some .int) ∈ G := gm 701 rfl rfl
theorem cf_X9_131 : c_V RX9 131 yX9_sum cX9_sum 6 (some .int) 1 := ⟨(gm 698 (by decide +kernel) rfl), (gm 700 (by decide +kernel) rfl), (gs 24 (by decide +kernel) rfl), (gm 9 (by decide +kernel) rfl), cd_X9_sum, by decide +kernel, by decide +kernel, by decide +kernel⟩
theorem fa_X9_44 : f_A RX9 44 9 12 := ⟨RX9, TX9, 37, rfl, by decide, inX9, gm 568 (by decide +kernel) rfl⟩
theorem fa_X9_47 : f_A RX9 47 9 13 := ⟨RX9, TX9, 37, rfl, by decide, inX9, gm 569 (by decide +kernel) rfl⟩
theorem fa_X9_134 : f_A RX9 134 9 16 := ⟨RX9, TX9, 37, rfl, by decide, inX9, gm 572 (by decide +kernel) rfl⟩
theorem fa_X9_50 : f_A RX9 50 9 14 := ⟨RX9, TX9, 37, rfl, by decide, inX9, gm 570 (by decide +kernel) rfl⟩
set_option maxRecDepth 100000 in
theorem cd_X9_head : Cond.code yX9_head cX9_head 4 (none) ∈ G := gm 695 rfl rfl
theorem cf_X9_137 : c_V RX9 137 yX9_head cX9_head 4 (none) 2 := ⟨(gm 692 (by decide +kernel) rfl), (gm 694 (by decide +kernel) rfl), (gs 23 (by decide +kernel) rfl), (gm 9 (by decide +kernel) rfl), cd_X9_head, by decide +kernel, by decide +kernel, by decide +kernel⟩
set_option maxRecDepth 100000 in
theorem cd_X9_lay : Cond.code yX9_lay cX9_lay 4 (none) ∈ G := gm 708 rfl rfl
theorem cf_X9_141 : c_V RX9 141 yX9_lay cX9_lay 4 (none) 1 := ⟨(gm 705 (by decide +kernel) rfl), (gm 707 (by decide +kernel) rfl), (gs 25 (by decide +kernel) rfl), (gm 9 (by decide +kernel) rfl), cd_X9_lay, by decide +kernel, by decide +kernel, by decide +kernel⟩
theorem fa_X9_78 : f_A RX9 78 9 24 := ⟨RX9, TX9, 37, rfl, by decide, inX9, gm 580 (by decide +kernel) rfl⟩
theorem fa_X9_69 : f_A RX9 69 9 21 := ⟨RX9, TX9, 37, rfl, by decide, inX9, gm 577 (by decide +kernel) rfl⟩
theorem fa_X9_81 : f_A RX9 81 9 25 := ⟨RX9, TX9, 37, rfl, by decide, inX9, gm 581 (by decide +kernel) rfl⟩
theorem fa_X9_56 : f_A RX9 56 9 17 := ⟨RX9, TX9, 37, rfl, by decide, inX9, gm 573 (by decide +kernel) rfl⟩
theorem fa_X9_59 : f_A RX9 59 9 18 := ⟨RX9, TX9, 37, rfl, by decide, inX9, gm 574 (by decide +kernel) rfl⟩
theorem fa_X9_66 : f_A RX9 66 9 20 := ⟨RX9, TX9, 37, rfl, by decide, inX9, gm 576 (by decide +kernel) rfl⟩
theorem fa_X9_72 : f_A RX9 72 9 22 := ⟨RX9, TX9, 37, rfl, by decide, inX9, gm 578 (by decide +kernel) rfl⟩
theorem fa_X9_75 : f_A RX9 75 9 23 := ⟨RX9, TX9, 37, rfl, by decide, inX9, gm 579 (by decide +kernel) rfl⟩
theorem fa_X9_84 : f_A RX9 84 9 26 := ⟨RX9, TX9, 37, rfl, by decide, inX9, gm 582 (by decide +kernel) rfl⟩
theorem fa_X9_90 : f_A RX9 90 9 28 := ⟨RX9, TX9, 37, rfl, by decide, inX9, gm 584 (by decide +kernel) rfl⟩
theorem fa_X9_105 : f_A RX9 105 9 33 := ⟨RX9, TX9, 37, rfl, by decide, inX9, gm 589 (by decide +kernel) rfl⟩
theorem fa_X9_108 : f_A RX9 108 9 34 := ⟨RX9, TX9, 37, rfl, by decide, inX9, gm 590 (by decide +kernel) rfl⟩
set_option maxRecDepth 100000 in
theorem cd_X9_data : Cond.code yX9_data cX9_data 4 (none) ∈ G := gm 748 rfl rfl
theorem cf_X9_145 : c_V RX9 145 yX9_data cX9_data 4 (none) 2 := ⟨(gm 745 (by decide +kernel) rfl), (gm 747 (by decide +kernel) rfl), (gs 34 (by decide +kernel) rfl), (gm 9 (by decide +kernel) rfl), cd_X9_data, by decide +kernel, by decide +kernel, by decide +kernel⟩
theorem fa_X9_87 : f_A RX9 87 9 27 := ⟨RX9, TX9, 37, rfl, by decide, inX9, gm 583 (by decide +kernel) rfl⟩
theorem fa_X9_111 : f_A RX9 111 9 35 := ⟨RX9, TX9, 37, rfl, by decide, inX9, gm 591 (by decide +kernel) rfl⟩
set_option maxRecDepth 100000 in
theorem cd_X9_flow : Cond.code yX9_flow cX9_flow 3 (none) ∈ G := gm 744 rfl rfl
theorem cf_X9_148 : c_V RX9 148 yX9_flow cX9_flow 3 (none) 1 := ⟨(gm 741 (by decide +kernel) rfl), (gm 743 (by decide +kernel) rfl), (gs 33 (by decide +kernel) rfl), (gm 9 (by decide +kernel) rfl), cd_X9_flow, by decide +kernel, by decide +kernel, by decide +kernel⟩
set_option maxRecDepth 100000 in
theorem cd_X9_begin : Cond.code yX9_begin cX9_begin 3 (none) ∈ G := gm 736 rfl rfl
theorem cf_X9_151 : c_V RX9 151 yX9_begin cX9_begin 3 (none) 1 := ⟨(gm 733 (by decide +kernel) rfl), (gm 735 (by decide +kernel) rfl), (gs 31 (by decide +kernel) rfl), (gm 9 (by decide +kernel) rfl), cd_X9_begin, by decide +kernel, by decide +kernel, by decide +kernel⟩
set_option maxRecDepth 100000 in
theorem cd_X9_send : Cond.code yX9_send cX9_send 3 (none) ∈ G := gm 740 rfl rfl
theorem cf_X9_154 : c_V RX9 154 yX9_send cX9_send 3 (none) 1 := ⟨(gm 737 (by decide +kernel) rfl), (gm 739 (by decide +kernel) rfl), (gs 32 (by decide +kernel) rfl), (gm 9 (by decide +kernel) rfl), cd_X9_send, by decide +kernel, by decide +kernel, by decide +kernel⟩
set_option maxRecDepth 100000 in
theorem cd_X9_more : Cond.code yX9_more cX9_more 2 (none) ∈ G := gm 752 rfl rfl
theorem cf_X9_160 : c_V RX9 160 yX9_more cX9_more 2 (none) 1 := ⟨(gm 749 (by decide +kernel) rfl), (gm 751 (by decide +kernel) rfl), (gs 35 (by decide +kernel) rfl), (gm 9 (by decide +kernel) rfl), cd_X9_more, by decide +kernel, by decide +kernel, by decide +kernel⟩
set_option maxRecDepth 100000 in
theorem cd_X9_say : Cond.code yX9_say cX9_say 3 (none) ∈ G := gm 732 rfl rfl
theorem cf_X9_157 : c_V RX9 157 yX9_say cX9_say 3 (none) 2 := ⟨(gm 729 (by decide +kernel) rfl), (gm 731 (by decide +kernel) rfl), (gs 30 (by decide +kernel) rfl), (gm 9 (by decide +kernel) rfl), cd_X9_say, by decide +kernel, by decide +kernel, by decide +kernel⟩
theorem fa_X9_96 : f_A RX9 96 9 30 := ⟨RX9, TX9, 37, rfl, by decide, inX9, gm 586 (by decide +kernel) rfl⟩
theorem fa_X9_35 : f_A RX9 35 9 8 := ⟨RX9, TX9, 37, rfl, by decide, inX9, gm 564 (by decide +kernel) rfl⟩
theorem fa_X9_102 : f_A RX9 102 9 32 := ⟨RX9, TX9, 37, rfl, by decide, inX9, gm 588 (by decide +kernel) rfl⟩
theorem fa_X9_93 : f_A RX9 93 9 29 := ⟨RX9, TX9, 37, rfl, by decide, inX9, gm 585 (by decide +kernel) rfl⟩
theorem fa_X9_31 : f_A RX9 31 9 7 := ⟨RX9, TX9, 37, rfl, by decide, inX9, gm 563 (by decide +kernel) rfl⟩
set_option maxRecDepth 100000 in
theorem cd_X9_isExecuted : Cond.code yX9_isExecuted cX9_isExecuted 5 (some .boolean) ∈ G := gm 780 rfl rfl
theorem cf_X9_185 : c_V RX9 185 yX9_isExecuted cX9_isExecuted 5 (some .boolean) 2 := ⟨(gm 777 (by decide +kernel) rfl), (gm 779 (by decide +kernel) rfl), (gs 42 (by decide +kernel) rfl), (gm 9 (by decide +kernel) rfl), cd_X9_isExecuted, by decide +kernel, by decide +kernel, by decide +kernel⟩
theorem fa_X9_99 : f_A RX9 99 9 31 := ⟨RX9, TX9, 37, rfl, by decide, inX9, gm 587 (by decide +kernel) rfl⟩
set_option maxRecDepth 100000 in
theorem cd_X9_execute : Cond.code yX9_execute cX9_execute 4 (none) ∈ G := gm 784 rfl rfl
theorem cf_X9_182 : c_V RX9 182 yX9_execute cX9_execute 4 (none) 1 := ⟨(gm 781 (by decide +kernel) rfl), (gm 783 (by decide +kernel) rfl), (gs 43 (by decide +kernel) rfl), (gm 9 (by decide +kernel) rfl), cd_X9_execute, by decide +kernel, by decide +kernel, by decide +kernel⟩
set_option maxRecDepth 100000 in
theorem cd_X9_leave : Cond.code yX9_leave cX9_leave 3 (none) ∈ G := gm 768 rfl rfl
theorem cf_X9_163 : c_V RX9 163 yX9_leave cX9_leave 3 (none) 1 := ⟨(gm 765 (by decide +kernel) rfl), (gm 767 (by decide +kernel) rfl), (gs 39 (by decide +kernel) rfl), (gm 9 (by decide +kernel) rfl), cd_X9_leave, by decide +kernel, by decide +kernel, by decide +kernel⟩
set_option maxRecDepth 100000 in
theorem cd_X9_goOn : Cond.code yX9_goOn cX9_goOn 3 (none) ∈ G := gm 728 rfl rfl
theorem cf_X9_166 : c_V RX9 166 yX9_goOn cX9_goOn 3 (none) 1 := ⟨(gm 725 (by decide +kernel) rfl), (gm 727 (by decide +kernel) rfl), (gs 29 (by decide +kernel) rfl), (gm 9 (by decide +kernel) rfl), cd_X9_goOn, by decide +kernel, by decide +kernel, by decide +kernel⟩
set_option maxRecDepth 100000 in
theorem cd_X9_control : Cond.code yX9_control cX9_control 4 (none) ∈ G := gm 691 rfl rfl
theorem cf_X9_172 : c_V RX9 172 yX9_control cX9_control 4 (none) 3 := ⟨(gm 688 (by decide +kernel) rfl), (gm 690 (by decide +kernel) rfl), (gs 22 (by decide +kernel) rfl), (gm 9 (by decide +kernel) rfl), cd_X9_control, by decide +kernel, by decide +kernel, by decide +kernel⟩
set_option maxRecDepth 100000 in
theorem cd_X9_forget : Cond.code yX9_forget cX9_forget 3 (none) ∈ G := gm 687 rfl rfl
theorem cf_X9_176 : c_V RX9 176 yX9_forget cX9_forget 3 (none) 2 := ⟨(gm 684 (by decide +kernel) rfl), (gm 686 (by decide +kernel) rfl), (gs 21 (by decide +kernel) rfl), (gm 9 (by decide +kernel) rfl), cd_X9_forget, by decide +kernel, by decide +kernel, by decide +kernel⟩
set_option maxRecDepth 100000 in
theorem cd_X9_sendFile : Cond.code yX9_sendFile cX9_sendFile 6 (none) ∈ G := gm 772 rfl rfl
theorem cf_X9_169 : c_V RX9 169 yX9_sendFile cX9_sendFile 6 (none) 1 := ⟨(gm 769 (by decide +kernel) rfl), (gm 771 (by decide +kernel) rfl), (gs 40 (by decide +kernel) rfl), (gm 9 (by decide +kernel) rfl), cd_X9_sendFile, by decide +kernel, by decide +kernel, by decide +kernel⟩
set_option maxRecDepth 100000 in
theorem cd_X9_offered : Cond.code yX9_offered cX9_offered 4 (none) ∈ G := gm 776 rfl rfl
theorem cf_X9_179 : c_V RX9 179 yX9_offered cX9_offered 4 (none) 3 := ⟨(gm 773 (by decide +kernel) rfl), (gm 775 (by decide +kernel) rfl), (gs 41 (by decide +kernel) rfl), (gm 9 (by decide +kernel) rfl), cd_X9_offered, by decide +kernel, by decide +kernel, by decide +kernel⟩
theorem fa_X9_63 : f_A RX9 63 9 19 := ⟨RX9, TX9, 37, rfl, by decide, inX9, gm 575 (by decide +kernel) rfl⟩
set_option maxRecDepth 100000 in
theorem cd_X9_done : Cond.code yX9_done cX9_done 5 (none) ∈ G := gm 764 rfl rfl
theorem cf_X9_195 : c_V RX9 195 yX9_done cX9_done 5 (none) 1 := ⟨(gm 761 (by decide +kernel) rfl), (gm 763 (by decide +kernel) rfl), (gs 38 (by decide +kernel) rfl), (gm 9 (by decide +kernel) rfl), cd_X9_done, by decide +kernel, by decide +kernel, by decide +kernel⟩
theorem fa_X9_114 : f_A RX9 114 9 36 := ⟨RX9, TX9, 37, rfl, by decide, inX9, gm 592 (by decide +kernel) rfl⟩
set_option maxRecDepth 100000 in
theorem cd_X9_acknowledge : Cond.code yX9_acknowledge cX9_acknowledge 7 (none) ∈ G := gm 756 rfl rfl
theorem cf_X9_189 : c_V RX9 189 yX9_acknowledge cX9_acknowledge 7 (none) 2 := ⟨(gm 753 (by decide +kernel) rfl), (gm 755 (by decide +kernel) rfl), (gs 36 (by decide +kernel) rfl), (gm 9 (by decide +kernel) rfl), cd_X9_acknowledge, by decide +kernel, by decide +kernel, by decide +kernel⟩
set_option maxRecDepth 100000 in
theorem cd_X9_sendAgain : Cond.code yX9_sendAgain cX9_sendAgain 3 (none) ∈ G := gm 760 rfl rfl
theorem cf_X9_192 : c_V RX9 192 yX9_sendAgain cX9_sendAgain 3 (none) 1 := ⟨(gm 757 (by decide +kernel) rfl), (gm 759 (by decide +kernel) rfl), (gs 37 (by decide +kernel) rfl), (gm 9 (by decide +kernel) rfl), cd_X9_sendAgain, by decide +kernel, by decide +kernel, by decide +kernel⟩
theorem fa_X9_38 : f_A RX9 38 9 9 := ⟨RX9, TX9, 37, rfl, by decide, inX9, gm 565 (by decide +kernel) rfl⟩
set_option maxRecDepth 100000 in
theorem cd_X9_come : Cond.code yX9_come cX9_come 7 (none) ∈ G := gm 724 rfl rfl
theorem cf_X9_205 : c_V RX9 205 yX9_come cX9_come 7 (none) 1 := ⟨(gm 721 (by decide +kernel) rfl), (gm 723 (by decide +kernel) rfl), (gs 28 (by decide +kernel) rfl), (gm 9 (by decide +kernel) rfl), cd_X9_come, by decide +kernel, by decide +kernel, by decide +kernel⟩
set_option maxRecDepth 100000 in
theorem cd_X9_takeFirst : Cond.code yX9_takeFirst cX9_takeFirst 4 (none) ∈ G := gm 716 rfl rfl
theorem cf_X9_198 : c_V RX9 198 yX9_takeFirst cX9_takeFirst 4 (none) 1 := ⟨(gm 713 (by decide +kernel) rfl), (gm 715 (by decide +kernel) rfl), (gs 26 (by decide +kernel) rfl), (gm 9 (by decide +kernel) rfl), cd_X9_takeFirst, by decide +kernel, by decide +kernel, by decide +kernel⟩
set_option maxRecDepth 100000 in
theorem cd_X9_isGood : Cond.code yX9_isGood cX9_isGood 8 (some .boolean) ∈ G := gm 720 rfl rfl
theorem cf_X9_201 : c_V RX9 201 yX9_isGood cX9_isGood 8 (some .boolean) 0 := ⟨(gm 717 (by decide +kernel) rfl), (gm 719 (by decide +kernel) rfl), (gs 27 (by decide +kernel) rfl), (gm 9 (by decide +kernel) rfl), cd_X9_isGood, by decide +kernel, by decide +kernel, by decide +kernel⟩
set_option maxRecDepth 100000 in
theorem cd_X9_tickOf : Cond.code yX9_tickOf cX9_tickOf 2 (some .int) ∈ G := gm 800 rfl rfl
theorem cf_X9_208 : c_V RX9 208 yX9_tickOf cX9_tickOf 2 (some .int) 1 := ⟨(gm 797 (by decide +kernel) rfl), (gm 799 (by decide +kernel) rfl), (gs 44 (by decide +kernel) rfl), (gm 9 (by decide +kernel) rfl), cd_X9_tickOf, by decide +kernel, by decide +kernel, by decide +kernel⟩
set_option maxRecDepth 100000 in
theorem cd_X9_deliver : Cond.code yX9_deliver cX9_deliver 3 (some .int) ∈ G := gm 712 rfl rfl
theorem cf_X9_211 : c_V RX9 211 yX9_deliver cX9_deliver 3 (some .int) 1 := ⟨(gm 809 (by decide +kernel) rfl), (gm 710 (by decide +kernel) rfl), (gm 711 (by decide +kernel) rfl), (gm 9 (by decide +kernel) rfl), cd_X9_deliver, by decide +kernel, by decide +kernel, by decide +kernel⟩
set_option maxRecDepth 100000 in
theorem cd_X9_executed : Cond.code yX9_executed cX9_executed 3 (some .int) ∈ G := gm 829 rfl rfl
theorem cf_X9_214 : c_V RX9 214 yX9_executed cX9_executed 3 (some .int) 2 := ⟨(gm 834 (by decide +kernel) rfl), (gm 827 (by decide +kernel) rfl), (gm 828 (by decide +kernel) rfl), (gm 9 (by decide +kernel) rfl), cd_X9_executed, by decide +kernel, by decide +kernel, by decide +kernel⟩
end
