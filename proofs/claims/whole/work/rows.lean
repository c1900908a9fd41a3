section
-- ===== PART A: goes FIRST, ahead of the names: the tables' words, and 'selects' of the private methods out of them =====
/-- a private method of a class that the tables say can be made, by its rows of tables_1 -/
def lw_okq (q : MethodName × Nat) : Prop := (q.1.cls ≠ "java/lang/invoke/MethodHandle" ∧ q.1.cls ≠ "java/lang/invoke/VarHandle") ∧ Cond.instantiable q.1.cls q.2 ∈ tables_1 ∧ Cond.privateMethod q.1 ∈ tables_1 ∧ Cond.instanceMethod q.1 ∈ tables_1
theorem lw_p0 : lw_okq (⟨"RingGroup", "nodeAt", "(I)LRingGroup$Node;"⟩, 4) := ⟨⟨by decide +kernel, by decide +kernel⟩, List.mem_of_getElem? (i := 18) (by decide +kernel), List.mem_of_getElem? (i := 215) (by decide +kernel), List.mem_of_getElem? (i := 216) (by decide +kernel)⟩
theorem lw_p1 : lw_okq (⟨"java/lang/Throwable", "fillInStackTrace", "(I)Ljava/lang/Throwable;"⟩, 6) := ⟨⟨by decide +kernel, by decide +kernel⟩, List.mem_of_getElem? (i := 257) (by decide +kernel), List.mem_of_getElem? (i := 255) (by decide +kernel), List.mem_of_getElem? (i := 256) (by decide +kernel)⟩
theorem lw_p2 : lw_okq (⟨"RingGroup", "receiversOf", "(LRingGroup$Node;)I"⟩, 4) := ⟨⟨by decide +kernel, by decide +kernel⟩, List.mem_of_getElem? (i := 18) (by decide +kernel), List.mem_of_getElem? (i := 348) (by decide +kernel), List.mem_of_getElem? (i := 349) (by decide +kernel)⟩
theorem lw_p3 : lw_okq (⟨"RingGroup", "sendRequested", "(LRingGroup$Node;I)V"⟩, 4) := ⟨⟨by decide +kernel, by decide +kernel⟩, List.mem_of_getElem? (i := 18) (by decide +kernel), List.mem_of_getElem? (i := 355) (by decide +kernel), List.mem_of_getElem? (i := 356) (by decide +kernel)⟩
theorem lw_p4 : lw_okq (⟨"RingGroup", "giveTo", "(IILRingGroup$Message;)V"⟩, 4) := ⟨⟨by decide +kernel, by decide +kernel⟩, List.mem_of_getElem? (i := 18) (by decide +kernel), List.mem_of_getElem? (i := 359) (by decide +kernel), List.mem_of_getElem? (i := 360) (by decide +kernel)⟩
theorem lw_p5 : lw_okq (⟨"RingGroup", "sendPending", "(LRingGroup$Node;I)V"⟩, 4) := ⟨⟨by decide +kernel, by decide +kernel⟩, List.mem_of_getElem? (i := 18) (by decide +kernel), List.mem_of_getElem? (i := 374) (by decide +kernel), List.mem_of_getElem? (i := 375) (by decide +kernel)⟩
theorem lw_p6 : lw_okq (⟨"RingGroup", "handOn", "(LRingGroup$Node;)V"⟩, 4) := ⟨⟨by decide +kernel, by decide +kernel⟩, List.mem_of_getElem? (i := 18) (by decide +kernel), List.mem_of_getElem? (i := 415) (by decide +kernel), List.mem_of_getElem? (i := 416) (by decide +kernel)⟩
theorem lw_p7 : lw_okq (⟨"RingGroup", "upInGroup", "(I)I"⟩, 4) := ⟨⟨by decide +kernel, by decide +kernel⟩, List.mem_of_getElem? (i := 18) (by decide +kernel), List.mem_of_getElem? (i := 431) (by decide +kernel), List.mem_of_getElem? (i := 432) (by decide +kernel)⟩
theorem lw_p8 : lw_okq (⟨"RingGroup", "isWhole", "(LRingGroup$Ring;I)Z"⟩, 4) := ⟨⟨by decide +kernel, by decide +kernel⟩, List.mem_of_getElem? (i := 18) (by decide +kernel), List.mem_of_getElem? (i := 435) (by decide +kernel), List.mem_of_getElem? (i := 436) (by decide +kernel)⟩
theorem lw_p9 : lw_okq (⟨"RingGroup", "ofRing", "(LRingGroup$Ring;I)I"⟩, 4) := ⟨⟨by decide +kernel, by decide +kernel⟩, List.mem_of_getElem? (i := 18) (by decide +kernel), List.mem_of_getElem? (i := 439) (by decide +kernel), List.mem_of_getElem? (i := 440) (by decide +kernel)⟩
theorem lw_p10 : lw_okq (⟨"RingGroup", "foremost", "(LRingGroup$Node;I)LRingGroup$Node;"⟩, 4) := ⟨⟨by decide +kernel, by decide +kernel⟩, List.mem_of_getElem? (i := 18) (by decide +kernel), List.mem_of_getElem? (i := 443) (by decide +kernel), List.mem_of_getElem? (i := 444) (by decide +kernel)⟩
theorem lw_p11 : lw_okq (⟨"RingGroup", "endOldRings", "(I)V"⟩, 4) := ⟨⟨by decide +kernel, by decide +kernel⟩, List.mem_of_getElem? (i := 18) (by decide +kernel), List.mem_of_getElem? (i := 463) (by decide +kernel), List.mem_of_getElem? (i := 464) (by decide +kernel)⟩
theorem lw_p12 : lw_okq (⟨"RingGroup", "endRing", "(I)V"⟩, 4) := ⟨⟨by decide +kernel, by decide +kernel⟩, List.mem_of_getElem? (i := 18) (by decide +kernel), List.mem_of_getElem? (i := 467) (by decide +kernel), List.mem_of_getElem? (i := 468) (by decide +kernel)⟩
theorem lw_p13 : lw_okq (⟨"RingGroup", "shareAll", "(I)V"⟩, 4) := ⟨⟨by decide +kernel, by decide +kernel⟩, List.mem_of_getElem? (i := 18) (by decide +kernel), List.mem_of_getElem? (i := 471) (by decide +kernel), List.mem_of_getElem? (i := 472) (by decide +kernel)⟩
theorem lw_p14 : lw_okq (⟨"RingGroup", "bringTablesUpToDate", "(LRingGroup$Node;I)V"⟩, 4) := ⟨⟨by decide +kernel, by decide +kernel⟩, List.mem_of_getElem? (i := 18) (by decide +kernel), List.mem_of_getElem? (i := 481) (by decide +kernel), List.mem_of_getElem? (i := 482) (by decide +kernel)⟩
theorem lw_p15 : lw_okq (⟨"RingGroup", "keptByOne", "(III)LRingGroup$Message;"⟩, 4) := ⟨⟨by decide +kernel, by decide +kernel⟩, List.mem_of_getElem? (i := 18) (by decide +kernel), List.mem_of_getElem? (i := 485) (by decide +kernel), List.mem_of_getElem? (i := 486) (by decide +kernel)⟩
def lw_privs_1 : List (MethodName × Nat) := [(⟨"RingGroup", "nodeAt", "(I)LRingGroup$Node;"⟩, 4), (⟨"java/lang/Throwable", "fillInStackTrace", "(I)Ljava/lang/Throwable;"⟩, 6), (⟨"RingGroup", "receiversOf", "(LRingGroup$Node;)I"⟩, 4), (⟨"RingGroup", "sendRequested", "(LRingGroup$Node;I)V"⟩, 4), (⟨"RingGroup", "giveTo", "(IILRingGroup$Message;)V"⟩, 4), (⟨"RingGroup", "sendPending", "(LRingGroup$Node;I)V"⟩, 4), (⟨"RingGroup", "handOn", "(LRingGroup$Node;)V"⟩, 4), (⟨"RingGroup", "upInGroup", "(I)I"⟩, 4), (⟨"RingGroup", "isWhole", "(LRingGroup$Ring;I)Z"⟩, 4), (⟨"RingGroup", "ofRing", "(LRingGroup$Ring;I)I"⟩, 4), (⟨"RingGroup", "foremost", "(LRingGroup$Node;I)LRingGroup$Node;"⟩, 4), (⟨"RingGroup", "endOldRings", "(I)V"⟩, 4), (⟨"RingGroup", "endRing", "(I)V"⟩, 4), (⟨"RingGroup", "shareAll", "(I)V"⟩, 4), (⟨"RingGroup", "bringTablesUpToDate", "(LRingGroup$Node;I)V"⟩, 4), (⟨"RingGroup", "keptByOne", "(III)LRingGroup$Message;"⟩, 4)]
theorem lw_r1 : ∀ q ∈ lw_privs_1, lw_okq q := List.forall_mem_cons.mpr ⟨lw_p0, List.forall_mem_cons.mpr ⟨lw_p1, List.forall_mem_cons.mpr ⟨lw_p2, List.forall_mem_cons.mpr ⟨lw_p3, List.forall_mem_cons.mpr ⟨lw_p4, List.forall_mem_cons.mpr ⟨lw_p5, List.forall_mem_cons.mpr ⟨lw_p6, List.forall_mem_cons.mpr ⟨lw_p7, List.forall_mem_cons.mpr ⟨lw_p8, List.forall_mem_cons.mpr ⟨lw_p9, List.forall_mem_cons.mpr ⟨lw_p10, List.forall_mem_cons.mpr ⟨lw_p11, List.forall_mem_cons.mpr ⟨lw_p12, List.forall_mem_cons.mpr ⟨lw_p13, List.forall_mem_cons.mpr ⟨lw_p14, List.forall_mem_cons.mpr ⟨lw_p15, fun _ h => absurd h List.not_mem_nil⟩⟩⟩⟩⟩⟩⟩⟩⟩⟩⟩⟩⟩⟩⟩⟩
theorem lw_p16 : lw_okq (⟨"RingGroup", "beginRing", "(IZ)I"⟩, 4) := ⟨⟨by decide +kernel, by decide +kernel⟩, List.mem_of_getElem? (i := 18) (by decide +kernel), List.mem_of_getElem? (i := 494) (by decide +kernel), List.mem_of_getElem? (i := 495) (by decide +kernel)⟩
theorem lw_p17 : lw_okq (⟨"RingGroup", "unusedRing", "()LRingGroup$Ring;"⟩, 4) := ⟨⟨by decide +kernel, by decide +kernel⟩, List.mem_of_getElem? (i := 18) (by decide +kernel), List.mem_of_getElem? (i := 502) (by decide +kernel), List.mem_of_getElem? (i := 503) (by decide +kernel)⟩
theorem lw_p18 : lw_okq (⟨"RingGroupModel", "noNode", "(I)Z"⟩, 36) := ⟨⟨by decide +kernel, by decide +kernel⟩, List.mem_of_getElem? (i := 611) (by decide +kernel), List.mem_of_getElem? (i := 734) (by decide +kernel), List.mem_of_getElem? (i := 735) (by decide +kernel)⟩
theorem lw_p19 : lw_okq (⟨"RingGroupModel", "holds", "(I)Z"⟩, 36) := ⟨⟨by decide +kernel, by decide +kernel⟩, List.mem_of_getElem? (i := 611) (by decide +kernel), List.mem_of_getElem? (i := 742) (by decide +kernel), List.mem_of_getElem? (i := 743) (by decide +kernel)⟩
theorem lw_p20 : lw_okq (⟨"RingGroupModel", "full", "(I)I"⟩, 36) := ⟨⟨by decide +kernel, by decide +kernel⟩, List.mem_of_getElem? (i := 611) (by decide +kernel), List.mem_of_getElem? (i := 746) (by decide +kernel), List.mem_of_getElem? (i := 747) (by decide +kernel)⟩
theorem lw_p21 : lw_okq (⟨"RingGroupModel", "hasPlace", "(II)Z"⟩, 36) := ⟨⟨by decide +kernel, by decide +kernel⟩, List.mem_of_getElem? (i := 611) (by decide +kernel), List.mem_of_getElem? (i := 750) (by decide +kernel), List.mem_of_getElem? (i := 751) (by decide +kernel)⟩
theorem lw_p22 : lw_okq (⟨"RingGroupModel", "comes", "(III)V"⟩, 36) := ⟨⟨by decide +kernel, by decide +kernel⟩, List.mem_of_getElem? (i := 611) (by decide +kernel), List.mem_of_getElem? (i := 760) (by decide +kernel), List.mem_of_getElem? (i := 761) (by decide +kernel)⟩
theorem lw_p23 : lw_okq (⟨"RingGroupModel", "gets", "(II)V"⟩, 36) := ⟨⟨by decide +kernel, by decide +kernel⟩, List.mem_of_getElem? (i := 611) (by decide +kernel), List.mem_of_getElem? (i := 764) (by decide +kernel), List.mem_of_getElem? (i := 765) (by decide +kernel)⟩
theorem lw_p24 : lw_okq (⟨"RingGroupModel", "give", "(II)V"⟩, 36) := ⟨⟨by decide +kernel, by decide +kernel⟩, List.mem_of_getElem? (i := 611) (by decide +kernel), List.mem_of_getElem? (i := 768) (by decide +kernel), List.mem_of_getElem? (i := 769) (by decide +kernel)⟩
theorem lw_p25 : lw_okq (⟨"RingGroupModel", "deliverAll", "(I)I"⟩, 36) := ⟨⟨by decide +kernel, by decide +kernel⟩, List.mem_of_getElem? (i := 611) (by decide +kernel), List.mem_of_getElem? (i := 772) (by decide +kernel), List.mem_of_getElem? (i := 773) (by decide +kernel)⟩
theorem lw_p26 : lw_okq (⟨"RingGroupModel", "deliver", "(IIZ)V"⟩, 36) := ⟨⟨by decide +kernel, by decide +kernel⟩, List.mem_of_getElem? (i := 611) (by decide +kernel), List.mem_of_getElem? (i := 776) (by decide +kernel), List.mem_of_getElem? (i := 777) (by decide +kernel)⟩
theorem lw_p27 : lw_okq (⟨"RingGroupModel", "tell", "(IJJJJJJ)V"⟩, 36) := ⟨⟨by decide +kernel, by decide +kernel⟩, List.mem_of_getElem? (i := 611) (by decide +kernel), List.mem_of_getElem? (i := 780) (by decide +kernel), List.mem_of_getElem? (i := 781) (by decide +kernel)⟩
theorem lw_p28 : lw_okq (⟨"RingGroupModel", "apply", "(IIIJ)V"⟩, 36) := ⟨⟨by decide +kernel, by decide +kernel⟩, List.mem_of_getElem? (i := 611) (by decide +kernel), List.mem_of_getElem? (i := 784) (by decide +kernel), List.mem_of_getElem? (i := 785) (by decide +kernel)⟩
theorem lw_p29 : lw_okq (⟨"RingGroupModel", "goesOn", "(I)V"⟩, 36) := ⟨⟨by decide +kernel, by decide +kernel⟩, List.mem_of_getElem? (i := 611) (by decide +kernel), List.mem_of_getElem? (i := 790) (by decide +kernel), List.mem_of_getElem? (i := 791) (by decide +kernel)⟩
theorem lw_p30 : lw_okq (⟨"RingGroupModel", "together", "(I)I"⟩, 36) := ⟨⟨by decide +kernel, by decide +kernel⟩, List.mem_of_getElem? (i := 611) (by decide +kernel), List.mem_of_getElem? (i := 798) (by decide +kernel), List.mem_of_getElem? (i := 799) (by decide +kernel)⟩
theorem lw_p31 : lw_okq (⟨"RingGroupModel", "isWhole", "(I)Z"⟩, 36) := ⟨⟨by decide +kernel, by decide +kernel⟩, List.mem_of_getElem? (i := 611) (by decide +kernel), List.mem_of_getElem? (i := 802) (by decide +kernel), List.mem_of_getElem? (i := 803) (by decide +kernel)⟩
def lw_privs_2 : List (MethodName × Nat) := [(⟨"RingGroup", "beginRing", "(IZ)I"⟩, 4), (⟨"RingGroup", "unusedRing", "()LRingGroup$Ring;"⟩, 4), (⟨"RingGroupModel", "noNode", "(I)Z"⟩, 36), (⟨"RingGroupModel", "holds", "(I)Z"⟩, 36), (⟨"RingGroupModel", "full", "(I)I"⟩, 36), (⟨"RingGroupModel", "hasPlace", "(II)Z"⟩, 36), (⟨"RingGroupModel", "comes", "(III)V"⟩, 36), (⟨"RingGroupModel", "gets", "(II)V"⟩, 36), (⟨"RingGroupModel", "give", "(II)V"⟩, 36), (⟨"RingGroupModel", "deliverAll", "(I)I"⟩, 36), (⟨"RingGroupModel", "deliver", "(IIZ)V"⟩, 36), (⟨"RingGroupModel", "tell", "(IJJJJJJ)V"⟩, 36), (⟨"RingGroupModel", "apply", "(IIIJ)V"⟩, 36), (⟨"RingGroupModel", "goesOn", "(I)V"⟩, 36), (⟨"RingGroupModel", "together", "(I)I"⟩, 36), (⟨"RingGroupModel", "isWhole", "(I)Z"⟩, 36)]
theorem lw_r2 : ∀ q ∈ lw_privs_2, lw_okq q := List.forall_mem_cons.mpr ⟨lw_p16, List.forall_mem_cons.mpr ⟨lw_p17, List.forall_mem_cons.mpr ⟨lw_p18, List.forall_mem_cons.mpr ⟨lw_p19, List.forall_mem_cons.mpr ⟨lw_p20, List.forall_mem_cons.mpr ⟨lw_p21, List.forall_mem_cons.mpr ⟨lw_p22, List.forall_mem_cons.mpr ⟨lw_p23, List.forall_mem_cons.mpr ⟨lw_p24, List.forall_mem_cons.mpr ⟨lw_p25, List.forall_mem_cons.mpr ⟨lw_p26, List.forall_mem_cons.mpr ⟨lw_p27, List.forall_mem_cons.mpr ⟨lw_p28, List.forall_mem_cons.mpr ⟨lw_p29, List.forall_mem_cons.mpr ⟨lw_p30, List.forall_mem_cons.mpr ⟨lw_p31, fun _ h => absurd h List.not_mem_nil⟩⟩⟩⟩⟩⟩⟩⟩⟩⟩⟩⟩⟩⟩⟩⟩
theorem lw_p32 : lw_okq (⟨"RingGroupModel", "isPrimary", "(I)Z"⟩, 36) := ⟨⟨by decide +kernel, by decide +kernel⟩, List.mem_of_getElem? (i := 611) (by decide +kernel), List.mem_of_getElem? (i := 809) (by decide +kernel), List.mem_of_getElem? (i := 810) (by decide +kernel)⟩
theorem lw_p33 : lw_okq (⟨"RingGroupModel", "voter", "(I)I"⟩, 36) := ⟨⟨by decide +kernel, by decide +kernel⟩, List.mem_of_getElem? (i := 611) (by decide +kernel), List.mem_of_getElem? (i := 813) (by decide +kernel), List.mem_of_getElem? (i := 814) (by decide +kernel)⟩
theorem lw_p34 : lw_okq (⟨"RingGroupModel", "nextRing", "(II)I"⟩, 36) := ⟨⟨by decide +kernel, by decide +kernel⟩, List.mem_of_getElem? (i := 611) (by decide +kernel), List.mem_of_getElem? (i := 820) (by decide +kernel), List.mem_of_getElem? (i := 821) (by decide +kernel)⟩
theorem lw_p35 : lw_okq (⟨"RingGroupModel", "of", "(II)I"⟩, 36) := ⟨⟨by decide +kernel, by decide +kernel⟩, List.mem_of_getElem? (i := 611) (by decide +kernel), List.mem_of_getElem? (i := 824) (by decide +kernel), List.mem_of_getElem? (i := 825) (by decide +kernel)⟩
theorem lw_p36 : lw_okq (⟨"RingGroupModel", "isBefore", "(II)Z"⟩, 36) := ⟨⟨by decide +kernel, by decide +kernel⟩, List.mem_of_getElem? (i := 611) (by decide +kernel), List.mem_of_getElem? (i := 828) (by decide +kernel), List.mem_of_getElem? (i := 829) (by decide +kernel)⟩
theorem lw_p37 : lw_okq (⟨"RingGroupModel", "end", "(II)V"⟩, 36) := ⟨⟨by decide +kernel, by decide +kernel⟩, List.mem_of_getElem? (i := 611) (by decide +kernel), List.mem_of_getElem? (i := 832) (by decide +kernel), List.mem_of_getElem? (i := 833) (by decide +kernel)⟩
theorem lw_p38 : lw_okq (⟨"RingGroupModel", "share", "(I)V"⟩, 36) := ⟨⟨by decide +kernel, by decide +kernel⟩, List.mem_of_getElem? (i := 611) (by decide +kernel), List.mem_of_getElem? (i := 837) (by decide +kernel), List.mem_of_getElem? (i := 838) (by decide +kernel)⟩
theorem lw_p39 : lw_okq (⟨"RingGroupModel", "form", "(IZ)I"⟩, 36) := ⟨⟨by decide +kernel, by decide +kernel⟩, List.mem_of_getElem? (i := 611) (by decide +kernel), List.mem_of_getElem? (i := 841) (by decide +kernel), List.mem_of_getElem? (i := 842) (by decide +kernel)⟩
theorem lw_p40 : lw_okq (⟨"RingGroupModel", "freeSlot", "()I"⟩, 36) := ⟨⟨by decide +kernel, by decide +kernel⟩, List.mem_of_getElem? (i := 611) (by decide +kernel), List.mem_of_getElem? (i := 845) (by decide +kernel), List.mem_of_getElem? (i := 846) (by decide +kernel)⟩
theorem lw_p41 : lw_okq (⟨"RingGroupModel", "forget", "(I)V"⟩, 36) := ⟨⟨by decide +kernel, by decide +kernel⟩, List.mem_of_getElem? (i := 611) (by decide +kernel), List.mem_of_getElem? (i := 849) (by decide +kernel), List.mem_of_getElem? (i := 850) (by decide +kernel)⟩
def lw_privs_3 : List (MethodName × Nat) := [(⟨"RingGroupModel", "isPrimary", "(I)Z"⟩, 36), (⟨"RingGroupModel", "voter", "(I)I"⟩, 36), (⟨"RingGroupModel", "nextRing", "(II)I"⟩, 36), (⟨"RingGroupModel", "of", "(II)I"⟩, 36), (⟨"RingGroupModel", "isBefore", "(II)Z"⟩, 36), (⟨"RingGroupModel", "end", "(II)V"⟩, 36), (⟨"RingGroupModel", "share", "(I)V"⟩, 36), (⟨"RingGroupModel", "form", "(IZ)I"⟩, 36), (⟨"RingGroupModel", "freeSlot", "()I"⟩, 36), (⟨"RingGroupModel", "forget", "(I)V"⟩, 36)]
theorem lw_r3 : ∀ q ∈ lw_privs_3, lw_okq q := List.forall_mem_cons.mpr ⟨lw_p32, List.forall_mem_cons.mpr ⟨lw_p33, List.forall_mem_cons.mpr ⟨lw_p34, List.forall_mem_cons.mpr ⟨lw_p35, List.forall_mem_cons.mpr ⟨lw_p36, List.forall_mem_cons.mpr ⟨lw_p37, List.forall_mem_cons.mpr ⟨lw_p38, List.forall_mem_cons.mpr ⟨lw_p39, List.forall_mem_cons.mpr ⟨lw_p40, List.forall_mem_cons.mpr ⟨lw_p41, fun _ h => absurd h List.not_mem_nil⟩⟩⟩⟩⟩⟩⟩⟩⟩⟩
def lw_privs : List (MethodName × Nat) := lw_privs_1 ++ (lw_privs_2 ++ (lw_privs_3))
def lw_tbl : List Cond := k2_sels lw_privs ++ tables_1
theorem lw_privs_ok : ∀ q ∈ lw_privs, lw_okq q := by
  show ∀ q ∈ lw_privs_1 ++ (lw_privs_2 ++ (lw_privs_3)), lw_okq q
  exact List.forall_mem_append.mpr ⟨lw_r1, List.forall_mem_append.mpr ⟨lw_r2, lw_r3⟩⟩
-- ===== end of PART A; then your names; then what follows =====
end
section
/-! ===== BEGIN words of one list among another's, by their places ===== -/
theorem goodIn_r {big : List Cond} (ws : List Cond) (ps : List Nat) (hp : ws = ps.filterMap (fun i => big[i]?)) (h : ws.all goodWord = true) : GoodIn big ws := by
  intro w hw
  have h1 := List.all_eq_true.mp h w hw
  rw [hp] at hw
  obtain ⟨i, -, hi⟩ := List.mem_filterMap.mp hw
  have hm : w ∈ big := by first | exact List.mem_of_getElem? hi | exact List.getElem?_mem hi
  exact ⟨hm, good_of_word h1⟩
theorem goodIn_app {big a b : List Cond} (ha : GoodIn big a) (hb : GoodIn big b) : GoodIn big (a ++ b) := fun w h => (List.mem_append.mp h).elim (ha w) (hb w)
theorem goodIn_ca {big a b : List Cond} {c : Cond} (ha : GoodIn big (c :: a)) (hb : GoodIn big b) : GoodIn big (c :: (a ++ b)) := fun w h => (List.mem_cons.mp h).elim (fun e => ha w (List.mem_cons.mpr (Or.inl e))) (fun h => (List.mem_append.mp h).elim (fun h => ha w (List.mem_cons.mpr (Or.inr h))) (hb w))
theorem goodIn_sub {big ws : List Cond} (hm : ∀ w ∈ ws, w ∈ big) (h : ws.all goodWord = true) : GoodIn big ws := fun w hw => ⟨hm w hw, good_of_word (List.all_eq_true.mp h w hw)⟩
/-! ===== END ===== -/

/-! ===== BEGIN exceptions that leave a method, and their catching by the caller (launches without stack traces) ===== -/
section VXA
/-! The laws vx_back, vx_callV, vx_callS, vx_callSW, vx_throw0, vx_throwS follow proofs of the library, with one case more: JvmDerived/Free/Laws.lean (Back.of_free), Shelf42/LK1.lean (callV, callS), Shelf/KitTraced.lean (throwNew0V, throwNewS). -/
/-- where a method has thrown q: the class by its name, the cell, what was written, the world -/
def vx_T (XC : String → State → State → Prop) (st : State) (q : Addr) (t : State) (mc ms : Nat) (free : Addr → Prop) : Prop :=
  ∃ (E : String) (ce : Cell) (L : List Loc), XC E st t ∧ t.heap[q]? = some ce ∧ ce.vm = .none ∧ st.vm.findClass E = some ce.cls ∧ st.WarmedH t.vm ∧ st.sameButNew ({ t with vm := st.vm } : State) L mc ms ∧ ∀ z ∈ L, free z.base
def vx_Q (Qc : Array Value → State → Outcome → State → Prop) (XC : String → State → State → Prop) (mc ms : Nat) (free : Addr → Prop) : Array Value → State → Outcome → State → Prop := fun a st o t =>
  (Qc a st o t ∧ ∃ L, FrameEnd st o t L mc ms ∧ ∀ q ∈ L, free q.base) ∨ ∃ q, o = .threw q ∧ vx_T XC st q t mc ms free
/-- a callee that returns or throws -/
def vx_Met (l : Launch) (y : MethodName) (ws : List Cond) (rm : Room) (Pc : Array Value → State → Prop) (Qc : Array Value → State → Outcome → State → Prop) (XC : String → State → State → Prop) (mc ms : Nat) (free : Addr → Prop) : Prop :=
  MetFree l y (headSpec ws rm) Pc (fun _ _ _ _ _ => True) (vx_Q Qc XC mc ms free)
def vx_Post (XC : String → State → State → Prop) (mc ms : Nat) (free : Addr → Prop) : Pt → Array Value → Addr → Pt → Prop := fun A a q B =>
  ∃ (g : JFrame) (mk : MethodId) (t : State) (L : List Loc) (E : String) (ce : Cell), B.U.heap = t.heap ∧ B.U.vm = t.vm ∧ XC E (A.U.calling g mk a) t ∧ t.heap[q]? = some ce ∧ ce.vm = .none ∧ A.U.vm.findClass E = some ce.cls ∧ B.locs = A.locs ++ L ∧ (∀ z ∈ L, free z.base) ∧ B.cells = A.cells + mc ∧ B.slots = A.slots + ms
def vx_Back (l : Launch) (R : Room) (p : Program) (e : Env) (below : List Frame) (s : State) (sargs : Array Value) (y : MethodName) (len W9 : Nat)
    (Pre : Pt → Array Value → Prop) (Post : Pt → Array Value → Option Value → Pt → Prop) (PostX : Pt → Array Value → Addr → Pt → Prop) : Prop :=
  ∀ (m : MethodId) (meth : Method) (c : Code) (A : Pt) (g : JFrame) (ig : Instr) (mk : MethodId) (a : Array Value),
    Stand p l e R s m sargs below meth c A.U A.locs A.cells A.slots → g.method = m → g.locals.size = c.maxLocals → decode c.code g.pc = .ok (ig, len) →
    2 * g.monitorRoom + (g.stack.map fun v => v.category).sum ≤ W9 → A.U.methodNamed? y = some mk → Pre A a →
    (∃ (v : Option Value) (B : Pt), Stand p l e R s m sargs below meth c B.U B.locs B.cells B.slots ∧ Post A a v B ∧
      Steps p.tables e below (doInvoke e (A.U.setTop g) [] mk a).1 (B.U.setTop { g with pc := g.pc + len, stack := v.toList ++ g.stack })) ∨
    (∃ (q : Addr) (B : Pt), Stand p l e R s m sargs below meth c B.U B.locs B.cells B.slots ∧ PostX A a q B ∧
      Steps p.tables e below (doInvoke e (A.U.setTop g) [] mk a).1 ((B.U.setTop g).pushFrame (.throwing q)))
section Payer
variable {l : Launch} {R : Room} {p : Program} {e : Env} {below : List Frame} {s : State} {sargs : Array Value} {y : MethodName} {len W9 : Nat}
theorem vx_back {ws : List Cond} {rm : Room} {Pc : Array Value → State → Prop} {Qc : Array Value → State → Outcome → State → Prop} {XC : String → State → State → Prop} {mc ms : Nat} {free : Addr → Prop} {bytes : ByteArray} {maxL : Nat} {ret : Option FieldType}
    (hM : vx_Met l y ws rm Pc Qc XC mc ms free) (hblind : FrameBlind Pc) (hrc : rm.cells = mc) (hrs : rm.slots = ms)
    (hframes : rm.frames + 1 ≤ R.frames) (hlocals : W9 + (maxL + 11) + rm.locals ≤ R.locals)
    (hws : ∀ w ∈ ws, ∀ a' U, s.WarmedH U.vm → w.before a' U = true) (hcode : Cond.code y bytes maxL ret ∈ ws) (hinit : ∀ a' U, s.WarmedH U.vm → (Cond.initialized y.cls).before a' U = true) :
    vx_Back l R p e below s sargs y len W9 (PreOf R mc ms Pc) (PostOf Qc mc ms free) (vx_Post XC mc ms free) := by
  intro m meth c A g ig mk a X hg hsize hdg hW hn hp
  have h1 : (headSpec ws rm).pre.before a A.U = true := atoms_intro fun w hw => hws w hw _ _ X.warmed
  have h2 : (Cond.code y bytes maxL ret).before a A.U = true := hws _ hcode _ _ X.warmed
  have h3 : (Cond.initialized y.cls).before a A.U = true := hinit _ _ X.warmed
  have h4 : A.cells + (headSpec ws rm).room.cells ≤ R.cells := by rw [show (headSpec ws rm).room.cells = mc from hrc]; exact hp.1
  have h5 : A.slots + (headSpec ws rm).room.slots ≤ R.slots := by rw [show (headSpec ws rm).room.slots = ms from hrs]; exact hp.2.1
  have hPc : Pc a (A.U.calling g mk a) := hblind _ _ _ _ hp.2.2
  obtain ⟨U, Ls, c0, s0⟩ := A
  dsimp only [Pt.U, Pt.locs, Pt.cells, Pt.slots] at h1 h2 h3 h4 h5 X hn hPc ⊢
  obtain ⟨methY, cY, hmY, hcY, -, hlY, -, -, -, -⟩ := Cond.code_spec hn h2
  obtain ⟨kY, hkY, -⟩ := className_of_methodNamed hn
  have hinitY : kY.init = .initialized := Cond.initialized_spec (findClass_of_methodNamed hn) hkY h3
  have h : At U g.method c below := by rw [hg]; exact X.here
  have hlocals9 : W9 + (maxL + 11) + (headSpec ws rm).room.locals ≤ R.locals := hlocals
  have happ : (headSpec ws rm).appliesLoose y e.platform (U.calling g mk a) = true :=
    Spec.appliesLoose_calling (g := g) h hdg hn hkY hinitY
      (X.room_calling (g := g) (R' := (headSpec ws rm).room) hsize hmY hcY hframes (by rw [hlY]; omega) h4 h5) h1
  obtain ⟨mid, hmid⟩ := h.above
  have hfr : (U.setTop g).frames = (.java g :: mid) ++ below := by rw [State.frames_setTop' g h.top, hmid]; rfl
  obtain ⟨o, s₂, hsteps, -, hend, hq⟩ := Steps.callFree hM p X.admits X.cas X.clock (acts := []) hfr happ hPc trivial
  have hq' : vx_Q Qc XC mc ms free a (U.calling g mk a) o s₂ := hq
  rw [State.frames_setTop' g h.top] at hend
  obtain ⟨g₀, hg0⟩ := Option.isSome_iff_exists.mp h.top
  obtain ⟨r, hr⟩ := State.topJava?_eq_some.mp hg0
  have hr' : (({ U with heap := s₂.heap, slotsUsed := s₂.slotsUsed } : State).setVm s₂.vm).frames = .java g₀ :: r := hr
  rcases hq' with ⟨hqc, L, hfe, hL⟩ | ⟨q, rfl, E, ce, L, hx, hce, hcv, hcl, hW₂, hsm, hL⟩
  · obtain ⟨⟨v, rfl⟩, hW₂, e2, q2, q3, q4, q5, q6⟩ := id hfe
    have e3 : s₂ = ({ (U.calling g mk a).setFrames s₂.frames with heap := s₂.heap, slotsUsed := s₂.slotsUsed } : State).setVm s₂.vm := by
      have : s₂ = ({ s₂ with vm := (U.calling g mk a).vm } : State).setVm s₂.vm := rfl
      rw [e2] at this
      exact this
    obtain ⟨c₂, i₂, len₂, hc₂, hd₂, hf₂⟩ := hend
    have hW' : U.WarmedH s₂.vm := hW₂
    have hcc : c₂ = c := by
      have h1 : s₂.code? g.method = U.code? g.method := by
        rw [State.code?_eq, State.code?_eq, hW'.alike.method?]
      exact Option.some.inj (hc₂.symm.trans (h1.trans h.code))
    subst hcc
    have hlen : len₂ = len := by rw [hdg] at hd₂; cases hd₂; rfl
    subst hlen
    have hs₂ : s₂ = (({ U with heap := s₂.heap, slotsUsed := s₂.slotsUsed } : State).setVm s₂.vm).setTop { g with pc := g.pc + len₂, stack := v.toList ++ g.stack } := by
      refine e3.trans ?_
      rw [hf₂, State.calling_eq h.top, State.setFrames_setFrames, State.setTop_of_frames _ hr', hr]
      rfl
    have hsame : U.sameButNew ({ U with heap := s₂.heap, slotsUsed := s₂.slotsUsed } : State) L mc ms := by
      refine ⟨?_, q2, q3, q4, q5, q6⟩
      obtain ⟨t, ht, -⟩ := State.frames_cons hr
      show ({ U with heap := s₂.heap, slotsUsed := s₂.slotsUsed } : State) = { U.setFrames U.frames with heap := s₂.heap, slotsUsed := s₂.slotsUsed }
      rw [State.setFrames_self ht]
    subst hg
    refine Or.inl ⟨v, ⟨(({ U with heap := s₂.heap, slotsUsed := s₂.slotsUsed } : State).setVm s₂.vm), Ls ++ L, c0 + mc, s0 + ms⟩,
      ⟨X.admits, X.cas, X.clock, X.frames, X.room, X.hears, X.method, X.code, (X.here.setHeapUsed s₂.heap s₂.slotsUsed).setVm hW'.alike, X.tail, State.WarmedH.trans X.warmed hW', X.limits, X.bytes, X.same.trans (hsame.setVm s.vm)⟩,
      ⟨g, mk, s₂, L, rfl, rfl, hqc, rfl, hL, rfl, rfl⟩, ?_⟩
    show Steps p.tables e below _ ((({ U with heap := s₂.heap, slotsUsed := s₂.slotsUsed } : State).setVm s₂.vm).setTop { g with pc := g.pc + len₂, stack := v.toList ++ g.stack })
    rw [← hs₂]
    exact hsteps
  · obtain ⟨e2, q2, q3, q4, q5, q6⟩ := id hsm
    have e3 : s₂ = ({ (U.calling g mk a).setFrames s₂.frames with heap := s₂.heap, slotsUsed := s₂.slotsUsed } : State).setVm s₂.vm := by
      have : s₂ = ({ s₂ with vm := (U.calling g mk a).vm } : State).setVm s₂.vm := rfl
      rw [e2] at this
      exact this
    have hf₂ : s₂.frames = .throwing q :: .java g :: U.frames.tail := hend
    have hW' : U.WarmedH s₂.vm := hW₂
    have hs₂ : s₂ = ((({ U with heap := s₂.heap, slotsUsed := s₂.slotsUsed } : State).setVm s₂.vm).setTop g).pushFrame (.throwing q) := by
      refine e3.trans ?_
      rw [hf₂, State.calling_eq h.top, State.setFrames_setFrames, State.pushFrame, State.frames_setTop _ hr', State.setTop_of_frames _ hr', State.setFrames_setFrames, hr]
      rfl
    have hsame : U.sameButNew ({ U with heap := s₂.heap, slotsUsed := s₂.slotsUsed } : State) L mc ms := by
      refine ⟨?_, q2, q3, q4, q5, q6⟩
      obtain ⟨t, ht, -⟩ := State.frames_cons hr
      show ({ U with heap := s₂.heap, slotsUsed := s₂.slotsUsed } : State) = { U.setFrames U.frames with heap := s₂.heap, slotsUsed := s₂.slotsUsed }
      rw [State.setFrames_self ht]
    subst hg
    refine Or.inr ⟨q, ⟨(({ U with heap := s₂.heap, slotsUsed := s₂.slotsUsed } : State).setVm s₂.vm), Ls ++ L, c0 + mc, s0 + ms⟩,
      ⟨X.admits, X.cas, X.clock, X.frames, X.room, X.hears, X.method, X.code, (X.here.setHeapUsed s₂.heap s₂.slotsUsed).setVm hW'.alike, X.tail, State.WarmedH.trans X.warmed hW', X.limits, X.bytes, X.same.trans (hsame.setVm s.vm)⟩,
      ⟨g, mk, s₂, L, E, ce, rfl, rfl, hx, hce, hcv, hcl, rfl, hL, rfl, rfl⟩, ?_⟩
    show Steps p.tables e below _ (((({ U with heap := s₂.heap, slotsUsed := s₂.slotsUsed } : State).setVm s₂.vm).setTop g).pushFrame (.throwing q))
    rw [← hs₂]
    exact hsteps
end Payer
section Calls
variable {p : Program} {l : Launch} {e : Env} {R : Room} {s : State} {m : MethodId} {args : Array Value} {below : List Frame} {meth : Method} {c : Code} {T : State} {locs : List Loc} {cells slots : Nat}
theorem vx_callV (X : Stand p l e R s m args below meth c T locs cells slots) (hexec : p.tables.exec = Jvm.exec) {own C : String} {index : Nat} {y : MethodName} {bytes : ByteArray} {maxL : Nat} {ret : Option FieldType}
    (hown : s.vm.findClass own = some m.cls) (hlink : (Cond.methodLink own index y).before args s = true) (hinst : (Cond.instanceMethod y).before args s = true) (hsel : (Cond.selects C y y).before args s = true)
    (hcode : (Cond.code y bytes maxL ret).before args s = true) (hy : y.cls ≠ "java/lang/invoke/MethodHandle" ∧ y.cls ≠ "java/lang/invoke/VarHandle")
    {W9 : Nat} {Pre : Pt → Array Value → Prop} {Post : Pt → Array Value → Option Value → Pt → Prop} {PostX : Pt → Array Value → Addr → Pt → Prop} (hK : vx_Back l R p e below s args y 3 W9 Pre Post PostX)
    {b : Addr} {cellB : Cell} (hcell : T.heap[b]? = some cellB) (hobj : cellB.vm.isStatics = false) (hcls : s.vm.findClass C = some cellB.cls)
    {g : JFrame} (hg : g.method = m) (hsize : g.locals.size = c.maxLocals) {argsL rest : List Value} (hlen : ∀ sig, parseMethodDescriptor y.desc = some sig → argsL.length = sig.parameters.length)
    (hstack : g.stack = argsL.reverse ++ .ref b :: rest) (hW : 2 * g.monitorRoom + (rest.map fun v => v.category).sum ≤ W9) (hdg : decode c.code g.pc = .ok (.invokevirtual index, 3))
    (hpre : ∀ vm₁, s.WarmedH vm₁ → Pre ⟨T.setVm vm₁, locs, cells, slots⟩ (Value.ref b :: argsL).toArray) :
    (∃ (v : Option Value) (vm₁ : Vm) (B : Pt), s.WarmedH vm₁ ∧ Stand p l e R s m args below meth c B.U B.locs B.cells B.slots ∧ Post ⟨T.setVm vm₁, locs, cells, slots⟩ (Value.ref b :: argsL).toArray v B ∧
      ∀ target, Steps p.tables e below (B.U.setTop { g with pc := g.pc + 3, stack := v.toList ++ rest }) target → Steps p.tables e below (T.setTop g) target) ∨
    (∃ (q : Addr) (vm₁ : Vm) (B : Pt), s.WarmedH vm₁ ∧ Stand p l e R s m args below meth c B.U B.locs B.cells B.slots ∧ PostX ⟨T.setVm vm₁, locs, cells, slots⟩ (Value.ref b :: argsL).toArray q B ∧
      Steps p.tables e below (T.setTop g) ((B.U.setTop { g with stack := rest }).pushFrame (.throwing q))) := by
  obtain ⟨mk, methM, hnamed, hmethM, hstM, habM⟩ := Cond.instanceMethod_spec hinst
  obtain ⟨methM', cM, hmethM', -, -, -, -, -, -, hsigM⟩ := Cond.code_spec hnamed hcode
  cases hmethM.symm.trans hmethM'
  obtain ⟨c2, r2, m2, q1, q2, q3, q4, kP, hkP, hkPi⟩ := Cond.selects_spec hsel
  cases hcls.symm.trans q1
  cases (State.methodFound?_of_named hnamed hy).symm.trans q2
  cases hnamed.symm.trans q3
  have hselP : selectMethod e.platform s.vm cellB.cls mk = .method mk := by rw [Launch.admits_selectMethod X.admits]; exact q4
  obtain ⟨vm₁, X₁, hstep₁⟩ := X.invokevirtual hexec hown hlink hnamed hmethM hstM hkP hkPi hy (a := b) (cell := cellB) hcell
    (fun z h => by rw [h] at hobj; cases hobj) hselP hmethM habM hkP hkPi (g := g) hg (argsL := argsL) (rest := rest) (hlen _ hsigM) hstack hdg
  rcases hK m meth c ⟨T.setVm vm₁, locs, cells, slots⟩ { g with stack := rest } (.invokevirtual index) mk (Value.ref b :: argsL).toArray X₁ hg hsize hdg hW (X₁.named hnamed) (hpre vm₁ X₁.warmed) with ⟨v, B, X', hpost, hsteps⟩ | ⟨q, B, X', hpost, hsteps⟩
  · exact Or.inl ⟨v, vm₁, B, X₁.warmed, X', hpost, fun target h => hstep₁ _ fun acts => by rw [doInvoke_state]; exact hsteps.trans h⟩
  · exact Or.inr ⟨q, vm₁, B, X₁.warmed, X', hpost, hstep₁ _ fun acts => by rw [doInvoke_state]; exact hsteps⟩
theorem vx_callS (X : Stand p l e R s m args below meth c T locs cells slots) (hexec : p.tables.exec = Jvm.exec) {own : String} {index : Nat} {y : MethodName} {bytes : ByteArray} {maxL : Nat} {ret : Option FieldType}
    (hown : s.vm.findClass own = some m.cls) (hlink : (Cond.methodLink own index y).before args s = true) (hstat : (Cond.static y).before args s = true) (hinit : (Cond.initialized y.cls).before args s = true)
    (hcode : (Cond.code y bytes maxL ret).before args s = true) (hy : y.cls ≠ "java/lang/invoke/MethodHandle" ∧ y.cls ≠ "java/lang/invoke/VarHandle")
    {W9 : Nat} {Pre : Pt → Array Value → Prop} {Post : Pt → Array Value → Option Value → Pt → Prop} {PostX : Pt → Array Value → Addr → Pt → Prop} (hK : vx_Back l R p e below s args y 3 W9 Pre Post PostX)
    {g : JFrame} (hg : g.method = m) (hsize : g.locals.size = c.maxLocals) {argsL rest : List Value} (hlen : ∀ sig, parseMethodDescriptor y.desc = some sig → argsL.length = sig.parameters.length)
    (hstack : g.stack = argsL.reverse ++ rest) (hW : 2 * g.monitorRoom + (rest.map fun v => v.category).sum ≤ W9) (hdg : decode c.code g.pc = .ok (.invokestatic index, 3))
    (hpre : ∀ vm₁, s.WarmedH vm₁ → Pre ⟨T.setVm vm₁, locs, cells, slots⟩ argsL.toArray) :
    (∃ (v : Option Value) (vm₁ : Vm) (B : Pt), s.WarmedH vm₁ ∧ Stand p l e R s m args below meth c B.U B.locs B.cells B.slots ∧ Post ⟨T.setVm vm₁, locs, cells, slots⟩ argsL.toArray v B ∧
      ∀ target, Steps p.tables e below (B.U.setTop { g with pc := g.pc + 3, stack := v.toList ++ rest }) target → Steps p.tables e below (T.setTop g) target) ∨
    (∃ (q : Addr) (vm₁ : Vm) (B : Pt), s.WarmedH vm₁ ∧ Stand p l e R s m args below meth c B.U B.locs B.cells B.slots ∧ PostX ⟨T.setVm vm₁, locs, cells, slots⟩ argsL.toArray q B ∧
      Steps p.tables e below (T.setTop g) ((B.U.setTop { g with stack := rest }).pushFrame (.throwing q))) := by
  obtain ⟨mk, hnamed⟩ := Cond.code_named hcode
  obtain ⟨methM, cM, hmethM, -, -, -, -, -, -, hsigM⟩ := Cond.code_spec hnamed hcode
  have hstatic : methM.isStatic = true := Cond.static_spec hnamed hmethM hstat
  obtain ⟨kP, hkP, -⟩ := className_of_methodNamed hnamed
  have hinitP : kP.init = .initialized := Cond.initialized_spec (findClass_of_methodNamed hnamed) hkP hinit
  obtain ⟨vm₁, X₁, hstep₁⟩ := X.invokestatic hexec hown hlink hnamed hmethM hstatic hkP hinitP hy (g := g) hg (argsL := argsL) (rest := rest) (hlen _ hsigM) hstack hdg
  rcases hK m meth c ⟨T.setVm vm₁, locs, cells, slots⟩ { g with stack := rest } (.invokestatic index) mk argsL.toArray X₁ hg hsize hdg hW (X₁.named hnamed) (hpre vm₁ X₁.warmed) with ⟨v, B, X', hpost, hsteps⟩ | ⟨q, B, X', hpost, hsteps⟩
  · exact Or.inl ⟨v, vm₁, B, X₁.warmed, X', hpost, fun target h => hstep₁ _ fun acts => by rw [doInvoke_state]; exact hsteps.trans h⟩
  · exact Or.inr ⟨q, vm₁, B, X₁.warmed, X', hpost, hstep₁ _ fun acts => by rw [doInvoke_state]; exact hsteps⟩
end Calls
theorem vx_cls {s : State} {T : State} {vm₁ : Vm} {E : String} {k : ClassId} (hW : s.WarmedH vm₁) (h : (T.setVm vm₁).vm.findClass E = some k) : s.vm.findClass E = some k := by
  have h1 : vm₁.findClass E = some k := h
  rw [hW.alike.findClass] at h1
  exact h1
/-- the method's frame g, with q thrown over it -/
def vx_W (p : Program) (l : Launch) (e : Env) (R : Room) (s : State) (m : MethodId) (args : Array Value) (below : List Frame) (meth : Method) (c : Code) (H : Heap) (locs : List Loc) (cells slots : Nat) (Q : State → Prop) (g : JFrame) (q : Addr) : Prop :=
  ∀ T : State, T.heap = H → Stand p l e R s m args below meth c T locs cells slots → ∃ t, Steps p.tables e below ((T.setTop g).pushFrame (.throwing q)) t ∧ Q t
def vx_Run (p : Program) (l : Launch) (e : Env) (R : Room) (s : State) (m : MethodId) (args : Array Value) (below : List Frame) (meth : Method) (c : Code) (H : Heap) (locs : List Loc) (cells slots mc ms : Nat) (g : JFrame) (rest : List Value) (Qa : State → Outcome → State → Prop) (XC : String → State → State → Prop) (free : Addr → Prop) : Prop :=
  ∀ T : State, T.heap = H → Stand p l e R s m args below meth c T locs cells slots →
    (∃ (v : Option Value) (st₀ t T' : State) (L : List Loc), st₀.heap = H ∧ Stand p l e R s m args below meth c T' (locs ++ L) (cells + mc) (slots + ms) ∧ (∀ q ∈ L, free q.base) ∧ T'.heap = t.heap ∧ T'.vm = t.vm ∧ Qa st₀ (.returned v) t ∧
      Goes p e below T g T' { g with pc := g.pc + 3, stack := v.toList ++ rest }) ∨
    (∃ (q : Addr) (st₀ t T' : State) (L : List Loc) (E : String) (ce : Cell), st₀.heap = H ∧ Stand p l e R s m args below meth c T' (locs ++ L) (cells + mc) (slots + ms) ∧ (∀ z ∈ L, free z.base) ∧ T'.heap = t.heap ∧ T'.vm = t.vm ∧ XC E st₀ t ∧ t.heap[q]? = some ce ∧ ce.vm = .none ∧ s.vm.findClass E = some ce.cls ∧
      Steps p.tables e below (T.setTop g) ((T'.setTop { g with stack := rest }).pushFrame (.throwing q)))
def vx_X {S : Type} (px : S → Prop) (B : String → S → State → Prop) (A : Nat → Prop) : String → State → State → Prop := fun E st t => ∃ u : S, px u ∧ B E u t ∧ va_F A st t
section Runs
variable {p : Program} {l : Launch} {e : Env} {R : Room} {s : State} {m : MethodId} {args : Array Value} {below : List Frame} {meth : Method} {c : Code} {H : Heap} {locs : List Loc} {cells slots : Nat}
variable {y : MethodName} {bytes cc : ByteArray} {maxL nL mc ms n index : Nat} {ret : Option FieldType} {ws : List Cond} {rm : Room} {Pc : Array Value → State → Prop} {Qc : Array Value → State → Outcome → State → Prop} {XC : String → State → State → Prop} {free : Addr → Prop} {Ts : List Cond} {own C : String} {b : Addr} {As rest : List Value} {g : JFrame}
theorem vx_callBack (cb : CallB R s args own index y bytes maxL ret ws rm mc ms n) (hM : vx_Met l y ws rm Pc Qc XC mc ms free) (hbl : FrameBlind Pc) : vx_Back l R p e below s args y 3 8 (PreOf R mc ms Pc) (PostOf Qc mc ms free) (vx_Post XC mc ms free) := by
  obtain ⟨hrc, hrs, hfr, hlo, hws, hcw, -, hini, -⟩ := cb
  exact vx_back (bytes := bytes) (maxL := maxL) (ret := ret) hM hbl hrc hrs hfr hlo hws hcw (fun a' U hW => word_at hW (Or.inl (by first | rfl | simp [Cond.onTables, Cond.keeps, Cond.steady])) hini)
theorem vx_runV (S : CallFix p m c cc nL s args Ts own) (hM : vx_Met l y ws rm Pc Qc XC mc ms free) (cw : CallW R s args own C index y bytes maxL ret ws rm mc ms n) (hp : PreV s H C b Pc As)
    (hg : g.method = m) (hn : As.length = n) (hsize : g.locals.size = nL) (hstack : g.stack = As.reverse ++ .ref b :: rest) (hW : 2 * g.monitorRoom + (rest.map fun v => v.category).sum ≤ 8) (hdg : decode cc g.pc = .ok (.invokevirtual index, 3)) (hf : cells + mc ≤ R.cells ∧ slots + ms ≤ R.slots) :
    vx_Run p l e R s m args below meth c H locs cells slots mc ms g rest (Qc (Value.ref b :: As).toArray) XC free := by
  have hK : vx_Back l R p e below s args y 3 8 (PreOf R mc ms Pc) (PostOf Qc mc ms free) (vx_Post XC mc ms free) := vx_callBack cw.1 hM hp.1
  obtain ⟨⟨-, -, -, -, -, -, hcode, -, hy, hlen, hl⟩, hin, hse⟩ := cw
  obtain ⟨hx, hb, hml, ho, -⟩ := S
  obtain ⟨-, ⟨cellB, hcB, hoB, hclB⟩, hPc⟩ := hp
  intro T hT X
  rcases vx_callV X hx (C := C) (bytes := bytes) (maxL := maxL) (ret := ret) ho hl hin hse hcode hy hK (by rw [hT]; exact hcB) hoB hclB hg (hsize.trans hml.symm) (argsL := As) (rest := rest) (fun sig h => hn.trans (hlen sig h)) hstack hW (by rw [hb]; exact hdg)
    (fun vm₁ hW₁ => ⟨hf.1, hf.2, hPc (T.setVm vm₁) hT hW₁⟩) with ⟨v, vm₁, ⟨U', l2, c2, s2⟩, hW₁, X', ⟨g', mk, t, L, e1, e2, hq, h1, hL, h2, h3⟩, st⟩ | ⟨q, vm₁, ⟨U', l2, c2, s2⟩, hW₁, X', ⟨g', mk, t, L, E, ce, e1, e2, hq, hce, hcv, hcl, h1, hL, h2, h3⟩, st⟩
  · dsimp only [Pt.U, Pt.locs, Pt.cells, Pt.slots] at X' e1 e2 h1 h2 h3 st
    subst h1; subst h2; subst h3
    exact Or.inl ⟨v, (T.setVm vm₁).calling g' mk (Value.ref b :: As).toArray, t, U', L, hT, X', hL, e1, e2, hq, st⟩
  · dsimp only [Pt.U, Pt.locs, Pt.cells, Pt.slots] at X' e1 e2 h1 h2 h3 st hcl
    subst h1; subst h2; subst h3
    exact Or.inr ⟨q, (T.setVm vm₁).calling g' mk (Value.ref b :: As).toArray, t, U', L, E, ce, hT, X', hL, e1, e2, hq, hce, hcv, vx_cls hW₁ hcl, st⟩
theorem vx_runS (S : CallFix p m c cc nL s args Ts own) (hM : vx_Met l y ws rm Pc Qc XC mc ms free) (cw : CallB R s args own index y bytes maxL ret ws rm mc ms n ∧ (Cond.static y).before args s = true) (hp : PreS s H Pc As)
    (hg : g.method = m) (hn : As.length = n) (hsize : g.locals.size = nL) (hstack : g.stack = As.reverse ++ rest) (hW : 2 * g.monitorRoom + (rest.map fun v => v.category).sum ≤ 8) (hdg : decode cc g.pc = .ok (.invokestatic index, 3)) (hf : cells + mc ≤ R.cells ∧ slots + ms ≤ R.slots) :
    vx_Run p l e R s m args below meth c H locs cells slots mc ms g rest (Qc As.toArray) XC free := by
  have hK : vx_Back l R p e below s args y 3 8 (PreOf R mc ms Pc) (PostOf Qc mc ms free) (vx_Post XC mc ms free) := vx_callBack cw.1 hM hp.1
  obtain ⟨⟨-, -, -, -, -, -, hcode, hini, hy, hlen, hl⟩, hstt⟩ := cw
  obtain ⟨hx, hb, hml, ho, -⟩ := S
  intro T hT X
  rcases vx_callS X hx (bytes := bytes) (maxL := maxL) (ret := ret) ho hl hstt hini hcode hy hK hg (hsize.trans hml.symm) (argsL := As) (rest := rest) (fun sig h => hn.trans (hlen sig h)) hstack hW (by rw [hb]; exact hdg)
    (fun vm₁ hW₁ => ⟨hf.1, hf.2, hp.2 (T.setVm vm₁) hT hW₁⟩) with ⟨v, vm₁, ⟨U', l2, c2, s2⟩, hW₁, X', ⟨g', mk, t, L, e1, e2, hq, h1, hL, h2, h3⟩, st⟩ | ⟨q, vm₁, ⟨U', l2, c2, s2⟩, hW₁, X', ⟨g', mk, t, L, E, ce, e1, e2, hq, hce, hcv, hcl, h1, hL, h2, h3⟩, st⟩
  · dsimp only [Pt.U, Pt.locs, Pt.cells, Pt.slots] at X' e1 e2 h1 h2 h3 st
    subst h1; subst h2; subst h3
    exact Or.inl ⟨v, (T.setVm vm₁).calling g' mk As.toArray, t, U', L, hT, X', hL, e1, e2, hq, st⟩
  · dsimp only [Pt.U, Pt.locs, Pt.cells, Pt.slots] at X' e1 e2 h1 h2 h3 st hcl
    subst h1; subst h2; subst h3
    exact Or.inr ⟨q, (T.setVm vm₁).calling g' mk As.toArray, t, U', L, E, ce, hT, X', hL, e1, e2, hq, hce, hcv, vx_cls hW₁ hcl, st⟩
end Runs
section Rows
variable {p : Program} {l : Launch} {e : Env} {R : Room} {s : State} {m : MethodId} {args : Array Value} {below : List Frame} {meth : Method} {c : Code} {H : Heap} {locs : List Loc} {cells slots : Nat} {Q : State → Prop}
variable {mc ms : Nat} {free : Addr → Prop} {A0 A1 : Nat → Prop} {H0 : Heap} {a : Array Value} {pc : Nat} {ls : Array Slot} {st0 rest : List Value}
theorem vx_keep {st₀ t T' : State} {L : List Loc} (h0 : st₀.heap = H) (e1 : T'.heap = t.heap) (hS : va_S A0 H0 H locs) (hA : ∀ q, q < H.size → A1 q → A0 q) (hf : ∀ q, free q → A0 q) (hL : ∀ q ∈ L, free q.base) (hF : va_F A1 st₀ t) :
    H.size ≤ T'.heap.size ∧ (∀ q : Nat, q < H.size → ¬ A1 q → T'.heap[q]? = H[q]?) ∧ va_S A0 H0 T'.heap (locs ++ L) := by
  obtain ⟨hz, hk⟩ := hF
  rw [h0] at hz hk
  exact ⟨by rw [e1]; exact hz, fun q h1 h2 => by rw [e1]; exact hk q h1 h2,
    ⟨Nat.le_trans hS.1 (by rw [e1]; exact hz), fun q h1 h2 => by rw [e1, hk q (Nat.lt_of_lt_of_le h1 hS.1) (fun z => h2 (hA q (Nat.lt_of_lt_of_le h1 hS.1) z))]; exact hS.2.1 q h1 h2, fun q hq => by
      rcases List.mem_append.mp hq with h | h
      · exact hS.2.2 q h
      · exact hf _ (hL q h)⟩⟩
theorem vx_calli {S SX : Type} {post : Int32 → S → Prop} {px : SX → Prop} {B : S → State → Prop} {BX : String → SX → State → Prop} {AX : Nat → Prop} (hr : vx_Run p l e R s m args below meth c H locs cells slots mc ms (F0 m pc ls st0) rest (va_Qi post B A1 a) (vx_X px BX AX) free) (hS : va_S A0 H0 H locs) (hA : ∀ q, q < H.size → A1 q → A0 q) (hf : ∀ q, free q → A0 q) (hAX : ∀ q, q < H.size → AX q → A0 q)
    (kx : ∀ (E : String) (ce : Cell) (q9 : Addr) (u : SX) (t : State) (H1 : Heap) (locs1 : List Loc), t.heap = H1 → s.vm.Alike t.vm → px u → BX E u t → H.size ≤ H1.size → (∀ q : Nat, q < H.size → ¬ AX q → H1[q]? = H[q]?) → va_S A0 H0 H1 locs1 → H1[q9]? = some ce → ce.vm = .none → s.vm.findClass E = some ce.cls → vx_W p l e R s m args below meth c H1 locs1 (cells + mc) (slots + ms) Q (F0 m pc ls rest) q9)
    (kk : ∀ (r : Int32) (u : S) (t : State) (H1 : Heap) (locs1 : List Loc), t.heap = H1 → s.vm.Alike t.vm → post r u → B u t → H.size ≤ H1.size → (∀ q : Nat, q < H.size → ¬ A1 q → H1[q]? = H[q]?) → va_S A0 H0 H1 locs1 → W p l e R s m args below meth c H1 locs1 (cells + mc) (slots + ms) Q (F0 m (pc + 3) ls (.int r :: rest))) : W p l e R s m args below meth c H locs cells slots Q (F0 m pc ls st0) := by
  intro T hT X
  rcases hr T hT X with ⟨v, st₀, t, T', L, h0, X', hL, e1, e2, ⟨⟨r, u, hv, hp, hb⟩, hF⟩, st⟩ | ⟨q, st₀, t, T', L, E, ce, h0, X', hL, e1, e2, ⟨u, hp, hb, hF⟩, hce, hcv, hcl, st⟩
  · cases hv
    obtain ⟨k1, k2, k3⟩ := vx_keep h0 e1 hS hA hf hL hF
    obtain ⟨t2, a1, b1⟩ := kk r u t T'.heap (locs ++ L) e1.symm (by rw [← e2]; exact X'.warmed.alike) hp hb k1 k2 k3 T' rfl X'
    exact ⟨t2, st t2 a1, b1⟩
  · obtain ⟨k1, k2, k3⟩ := vx_keep h0 e1 hS hAX hf hL hF
    obtain ⟨t2, a1, b1⟩ := kx E ce q u t T'.heap (locs ++ L) e1.symm (by rw [← e2]; exact X'.warmed.alike) hp hb k1 k2 k3 (by rw [e1]; exact hce) hcv hcl T' rfl X'
    exact ⟨t2, st.trans a1, b1⟩
theorem vx_calll {S SX : Type} {post : Int64 → S → Prop} {px : SX → Prop} {B : S → State → Prop} {BX : String → SX → State → Prop} {AX : Nat → Prop} (hr : vx_Run p l e R s m args below meth c H locs cells slots mc ms (F0 m pc ls st0) rest (va_Ql post B A1 a) (vx_X px BX AX) free) (hS : va_S A0 H0 H locs) (hA : ∀ q, q < H.size → A1 q → A0 q) (hf : ∀ q, free q → A0 q) (hAX : ∀ q, q < H.size → AX q → A0 q)
    (kx : ∀ (E : String) (ce : Cell) (q9 : Addr) (u : SX) (t : State) (H1 : Heap) (locs1 : List Loc), t.heap = H1 → s.vm.Alike t.vm → px u → BX E u t → H.size ≤ H1.size → (∀ q : Nat, q < H.size → ¬ AX q → H1[q]? = H[q]?) → va_S A0 H0 H1 locs1 → H1[q9]? = some ce → ce.vm = .none → s.vm.findClass E = some ce.cls → vx_W p l e R s m args below meth c H1 locs1 (cells + mc) (slots + ms) Q (F0 m pc ls rest) q9)
    (kk : ∀ (r : Int64) (u : S) (t : State) (H1 : Heap) (locs1 : List Loc), t.heap = H1 → s.vm.Alike t.vm → post r u → B u t → H.size ≤ H1.size → (∀ q : Nat, q < H.size → ¬ A1 q → H1[q]? = H[q]?) → va_S A0 H0 H1 locs1 → W p l e R s m args below meth c H1 locs1 (cells + mc) (slots + ms) Q (F0 m (pc + 3) ls (.long r :: rest))) : W p l e R s m args below meth c H locs cells slots Q (F0 m pc ls st0) := by
  intro T hT X
  rcases hr T hT X with ⟨v, st₀, t, T', L, h0, X', hL, e1, e2, ⟨⟨r, u, hv, hp, hb⟩, hF⟩, st⟩ | ⟨q, st₀, t, T', L, E, ce, h0, X', hL, e1, e2, ⟨u, hp, hb, hF⟩, hce, hcv, hcl, st⟩
  · cases hv
    obtain ⟨k1, k2, k3⟩ := vx_keep h0 e1 hS hA hf hL hF
    obtain ⟨t2, a1, b1⟩ := kk r u t T'.heap (locs ++ L) e1.symm (by rw [← e2]; exact X'.warmed.alike) hp hb k1 k2 k3 T' rfl X'
    exact ⟨t2, st t2 a1, b1⟩
  · obtain ⟨k1, k2, k3⟩ := vx_keep h0 e1 hS hAX hf hL hF
    obtain ⟨t2, a1, b1⟩ := kx E ce q u t T'.heap (locs ++ L) e1.symm (by rw [← e2]; exact X'.warmed.alike) hp hb k1 k2 k3 (by rw [e1]; exact hce) hcv hcl T' rfl X'
    exact ⟨t2, st.trans a1, b1⟩
theorem vx_callf {S SX : Type} {post : UInt32 → S → Prop} {px : SX → Prop} {B : S → State → Prop} {BX : String → SX → State → Prop} {AX : Nat → Prop} (hr : vx_Run p l e R s m args below meth c H locs cells slots mc ms (F0 m pc ls st0) rest (va_Qf post B A1 a) (vx_X px BX AX) free) (hS : va_S A0 H0 H locs) (hA : ∀ q, q < H.size → A1 q → A0 q) (hf : ∀ q, free q → A0 q) (hAX : ∀ q, q < H.size → AX q → A0 q)
    (kx : ∀ (E : String) (ce : Cell) (q9 : Addr) (u : SX) (t : State) (H1 : Heap) (locs1 : List Loc), t.heap = H1 → s.vm.Alike t.vm → px u → BX E u t → H.size ≤ H1.size → (∀ q : Nat, q < H.size → ¬ AX q → H1[q]? = H[q]?) → va_S A0 H0 H1 locs1 → H1[q9]? = some ce → ce.vm = .none → s.vm.findClass E = some ce.cls → vx_W p l e R s m args below meth c H1 locs1 (cells + mc) (slots + ms) Q (F0 m pc ls rest) q9)
    (kk : ∀ (r : UInt32) (u : S) (t : State) (H1 : Heap) (locs1 : List Loc), t.heap = H1 → s.vm.Alike t.vm → post r u → B u t → H.size ≤ H1.size → (∀ q : Nat, q < H.size → ¬ A1 q → H1[q]? = H[q]?) → va_S A0 H0 H1 locs1 → W p l e R s m args below meth c H1 locs1 (cells + mc) (slots + ms) Q (F0 m (pc + 3) ls (.float r :: rest))) : W p l e R s m args below meth c H locs cells slots Q (F0 m pc ls st0) := by
  intro T hT X
  rcases hr T hT X with ⟨v, st₀, t, T', L, h0, X', hL, e1, e2, ⟨⟨r, u, hv, hp, hb⟩, hF⟩, st⟩ | ⟨q, st₀, t, T', L, E, ce, h0, X', hL, e1, e2, ⟨u, hp, hb, hF⟩, hce, hcv, hcl, st⟩
  · cases hv
    obtain ⟨k1, k2, k3⟩ := vx_keep h0 e1 hS hA hf hL hF
    obtain ⟨t2, a1, b1⟩ := kk r u t T'.heap (locs ++ L) e1.symm (by rw [← e2]; exact X'.warmed.alike) hp hb k1 k2 k3 T' rfl X'
    exact ⟨t2, st t2 a1, b1⟩
  · obtain ⟨k1, k2, k3⟩ := vx_keep h0 e1 hS hAX hf hL hF
    obtain ⟨t2, a1, b1⟩ := kx E ce q u t T'.heap (locs ++ L) e1.symm (by rw [← e2]; exact X'.warmed.alike) hp hb k1 k2 k3 (by rw [e1]; exact hce) hcv hcl T' rfl X'
    exact ⟨t2, st.trans a1, b1⟩
theorem vx_calld {S SX : Type} {post : UInt64 → S → Prop} {px : SX → Prop} {B : S → State → Prop} {BX : String → SX → State → Prop} {AX : Nat → Prop} (hr : vx_Run p l e R s m args below meth c H locs cells slots mc ms (F0 m pc ls st0) rest (va_Qd post B A1 a) (vx_X px BX AX) free) (hS : va_S A0 H0 H locs) (hA : ∀ q, q < H.size → A1 q → A0 q) (hf : ∀ q, free q → A0 q) (hAX : ∀ q, q < H.size → AX q → A0 q)
    (kx : ∀ (E : String) (ce : Cell) (q9 : Addr) (u : SX) (t : State) (H1 : Heap) (locs1 : List Loc), t.heap = H1 → s.vm.Alike t.vm → px u → BX E u t → H.size ≤ H1.size → (∀ q : Nat, q < H.size → ¬ AX q → H1[q]? = H[q]?) → va_S A0 H0 H1 locs1 → H1[q9]? = some ce → ce.vm = .none → s.vm.findClass E = some ce.cls → vx_W p l e R s m args below meth c H1 locs1 (cells + mc) (slots + ms) Q (F0 m pc ls rest) q9)
    (kk : ∀ (r : UInt64) (u : S) (t : State) (H1 : Heap) (locs1 : List Loc), t.heap = H1 → s.vm.Alike t.vm → post r u → B u t → H.size ≤ H1.size → (∀ q : Nat, q < H.size → ¬ A1 q → H1[q]? = H[q]?) → va_S A0 H0 H1 locs1 → W p l e R s m args below meth c H1 locs1 (cells + mc) (slots + ms) Q (F0 m (pc + 3) ls (.double r :: rest))) : W p l e R s m args below meth c H locs cells slots Q (F0 m pc ls st0) := by
  intro T hT X
  rcases hr T hT X with ⟨v, st₀, t, T', L, h0, X', hL, e1, e2, ⟨⟨r, u, hv, hp, hb⟩, hF⟩, st⟩ | ⟨q, st₀, t, T', L, E, ce, h0, X', hL, e1, e2, ⟨u, hp, hb, hF⟩, hce, hcv, hcl, st⟩
  · cases hv
    obtain ⟨k1, k2, k3⟩ := vx_keep h0 e1 hS hA hf hL hF
    obtain ⟨t2, a1, b1⟩ := kk r u t T'.heap (locs ++ L) e1.symm (by rw [← e2]; exact X'.warmed.alike) hp hb k1 k2 k3 T' rfl X'
    exact ⟨t2, st t2 a1, b1⟩
  · obtain ⟨k1, k2, k3⟩ := vx_keep h0 e1 hS hAX hf hL hF
    obtain ⟨t2, a1, b1⟩ := kx E ce q u t T'.heap (locs ++ L) e1.symm (by rw [← e2]; exact X'.warmed.alike) hp hb k1 k2 k3 (by rw [e1]; exact hce) hcv hcl T' rfl X'
    exact ⟨t2, st.trans a1, b1⟩
theorem vx_callv {S SX : Type} {post : S → Prop} {px : SX → Prop} {B : S → State → Prop} {BX : String → SX → State → Prop} {AX : Nat → Prop} (hr : vx_Run p l e R s m args below meth c H locs cells slots mc ms (F0 m pc ls st0) rest (va_Qv post B A1 a) (vx_X px BX AX) free) (hS : va_S A0 H0 H locs) (hA : ∀ q, q < H.size → A1 q → A0 q) (hf : ∀ q, free q → A0 q) (hAX : ∀ q, q < H.size → AX q → A0 q)
    (kx : ∀ (E : String) (ce : Cell) (q9 : Addr) (u : SX) (t : State) (H1 : Heap) (locs1 : List Loc), t.heap = H1 → s.vm.Alike t.vm → px u → BX E u t → H.size ≤ H1.size → (∀ q : Nat, q < H.size → ¬ AX q → H1[q]? = H[q]?) → va_S A0 H0 H1 locs1 → H1[q9]? = some ce → ce.vm = .none → s.vm.findClass E = some ce.cls → vx_W p l e R s m args below meth c H1 locs1 (cells + mc) (slots + ms) Q (F0 m pc ls rest) q9)
    (kk : ∀ (u : S) (t : State) (H1 : Heap) (locs1 : List Loc), t.heap = H1 → s.vm.Alike t.vm → post u → B u t → H.size ≤ H1.size → (∀ q : Nat, q < H.size → ¬ A1 q → H1[q]? = H[q]?) → va_S A0 H0 H1 locs1 → W p l e R s m args below meth c H1 locs1 (cells + mc) (slots + ms) Q (F0 m (pc + 3) ls (rest))) : W p l e R s m args below meth c H locs cells slots Q (F0 m pc ls st0) := by
  intro T hT X
  rcases hr T hT X with ⟨v, st₀, t, T', L, h0, X', hL, e1, e2, ⟨⟨u, hv, hp, hb⟩, hF⟩, st⟩ | ⟨q, st₀, t, T', L, E, ce, h0, X', hL, e1, e2, ⟨u, hp, hb, hF⟩, hce, hcv, hcl, st⟩
  · cases hv
    obtain ⟨k1, k2, k3⟩ := vx_keep h0 e1 hS hA hf hL hF
    obtain ⟨t2, a1, b1⟩ := kk u t T'.heap (locs ++ L) e1.symm (by rw [← e2]; exact X'.warmed.alike) hp hb k1 k2 k3 T' rfl X'
    exact ⟨t2, st t2 a1, b1⟩
  · obtain ⟨k1, k2, k3⟩ := vx_keep h0 e1 hS hAX hf hL hF
    obtain ⟨t2, a1, b1⟩ := kx E ce q u t T'.heap (locs ++ L) e1.symm (by rw [← e2]; exact X'.warmed.alike) hp hb k1 k2 k3 (by rw [e1]; exact hce) hcv hcl T' rfl X'
    exact ⟨t2, st.trans a1, b1⟩
/-- caught by the row x of this method's table; the rows ahead don't take it -/
theorem vx_catch {own name : String} {E : String} {ce : Cell} {q : Addr} (hown : s.vm.findClass own = some m.cls) (pre : List ExceptionTableEntry) (x : ExceptionTableEntry) (suf : List ExceptionTableEntry) (hsplit : c.exceptionTable.toList = pre ++ x :: suf)
    (hpass : ∀ z ∈ pre, covers z pc = false ∨ (z.catchType ≠ 0 ∧ ∃ nm : String, (Cond.classLink own z.catchType nm).before args s = true ∧ va_Nc E nm s)) (hx : covers x pc = true) (h0 : x.catchType ≠ 0)
    (hlink : (Cond.classLink own x.catchType name).before args s = true) (hcast : (Cond.castable E name).before args s = true) (hcell : H[q]? = some ce) (hv : ce.vm = .none) (hcl : s.vm.findClass E = some ce.cls)
    (kk : W p l e R s m args below meth c H locs cells slots Q (F0 m x.handlerPc ls [.ref q])) : vx_W p l e R s m args below meth c H locs cells slots Q (F0 m pc ls rest) q := by
  intro T hT X
  have hpl : e.platform.magicAccessors = ({} : Platform).magicAccessors := by rw [X.admits.platform]
  obtain ⟨c3, c4, hc3, hc4, hasg⟩ := Cond.castable_spec hcast
  cases Option.some.inj (hc3.symm.trans hcl)
  obtain ⟨c5, hc5, hcl5⟩ := Cond.classLink_spec hown hlink e.platform hpl
  cases Option.some.inj (hc4.symm.trans hc5)
  obtain ⟨vm', X', st⟩ := X.thenCaughtThrough q (g := F0 m pc ls rest) rfl (Steps.refl _) (by rw [hT]; exact hcell) (by rw [hv]; rfl) (by obtain ⟨k9, h9, -⟩ := Vm.findClass_spec hcl; exact ⟨k9, h9⟩) pre x suf hsplit
    (fun z hz => by
      rcases hpass z hz with h | ⟨hz0, nm, hl1, hn1⟩
      · exact Or.inl h
      · obtain ⟨c6, hc6, hcl6⟩ := Cond.classLink_spec hown hl1 e.platform hpl
        obtain ⟨a8, b8, h1, h2, h3⟩ := hn1
        cases Option.some.inj (h1.symm.trans hcl)
        cases Option.some.inj (h2.symm.trans hc6)
        exact Or.inr ⟨hz0, _, hcl6, h3⟩) hx (Or.inr ⟨h0, c4, hcl5, hasg⟩)
  obtain ⟨t, a1, b1⟩ := kk (T.setVm vm') hT X'
  exact ⟨t, st.trans a1, b1⟩
end Rows
section Ends
variable {p : Program} {l : Launch} {e : Env} {R : Room} {s : State} {m : MethodId} {args : Array Value} {below : List Frame} {meth : Method} {c : Code} {H : Heap} {locs : List Loc} {cells slots : Nat} {Q : State → Prop}
variable {mc ms : Nat} {free : Addr → Prop} {A0 A1 : Nat → Prop} {H0 : Heap} {a : Array Value} {ls : Array Slot} {st0 rest : List Value}
variable {Qc : Array Value → State → Outcome → State → Prop} {XC : String → State → State → Prop}
/-- what a body that may throw owes at its end -/
def vx_MQ (below : List Frame) (Qc : Array Value → State → Outcome → State → Prop) (XC : String → State → State → Prop) (a : Array Value) (s : State) (mc ms : Nat) (free : Addr → Prop) : State → Prop := fun t =>
  ∃ o, t.status = .running ∧ Ended t below o ∧ vx_Q Qc XC mc ms free a s o t
theorem vx_ret {g : JFrame} {mc ms : Nat} (k : W p l e R s m args below meth c H locs cells slots (MQ below Qc args s mc ms free) g) : W p l e R s m args below meth c H locs cells slots (vx_MQ below Qc XC args s mc ms free) g := by
  intro T hT X
  obtain ⟨t, a1, o, b1, b2, b3, b4⟩ := k T hT X
  exact ⟨t, a1, o, b1, b2, Or.inl ⟨b3, b4⟩⟩
/-- not caught here: it goes on to the caller -/
theorem vx_widen {g : JFrame} {q : Addr} {k n : Nat} (h1 : cells ≤ k) (h2 : slots ≤ n) (kk : vx_W p l e R s m args below meth c H locs k n Q g q) : vx_W p l e R s m args below meth c H locs cells slots Q g q := fun T hT X => kk T hT (stand_widen X h1 h2)
theorem vx_out {pc : Nat} {E : String} {ce : Cell} {q : Addr} {mc ms : Nat} (hout : ∀ x ∈ c.exceptionTable.toList, covers x pc = false) (hlocks : meth.locks = false) (hcell : H[q]? = some ce) (hv : ce.vm = .none) (hcl : s.vm.findClass E = some ce.cls)
    (hx : ∀ t : State, t.heap = H → s.vm.Alike t.vm → XC E s t) (hf : ∀ z ∈ locs, free z.base) (hc : cells ≤ mc) (hs : slots ≤ ms) :
    vx_W p l e R s m args below meth c H locs cells slots (vx_MQ below Qc XC args s mc ms free) (F0 m pc ls rest) q := by
  intro T hT X
  obtain ⟨st1, hrun, hend, hW, hsm⟩ := X.leaveThrown q (g := F0 m pc ls rest) rfl rfl rfl hout hlocks
  have hcell9 : (T.setFrames (.throwing q :: below)).heap[q]? = some ce := by
    show T.heap[q]? = some ce
    rw [hT]; exact hcell
  exact ⟨_, st1, .threw q, hrun, hend, Or.inr ⟨q, rfl, E, ce, locs, hx _ hT hW.alike, hcell9, hv, hcl, hW, hsm.mono hc hs, hf⟩⟩
theorem vx_frame {U : State} {k n : Nat} (h : s.sameButNew ({ U with vm := s.vm } : State) locs k n) : s.heap.size ≤ U.heap.size ∧ ∀ q : Nat, q < s.heap.size → (∀ z ∈ locs, z.base ≠ q) → U.heap[q]? = s.heap[q]? := by
  obtain ⟨-, h2, -, -, -, h6⟩ := h
  refine ⟨h2, fun q hq hz => ?_⟩
  obtain ⟨c9, e1, e2, e3, e4⟩ := h6 q _ (Array.getElem?_eq_getElem hq)
  have hs : c9.slots = (s.heap[q]).slots := Array.ext_getElem? fun i => e4 i fun hm => hz _ hm rfl
  have h9 : c9 = s.heap[q] := by
    rw [hs] at e2
    exact e2
  have e5 : U.heap[q]? = some c9 := e1
  rw [e5, h9, Array.getElem?_eq_getElem hq]
/-- the words of a throw but the four that speak of the heap -/
def vx_no (w : Cond) : Bool := decide (w ≠ .isRef (.static Bundle.tN "UNASSIGNED_STACK" Bundle.steD)) && decide (w ≠ .isRef (.static Bundle.tN "SUPPRESSED_SENTINEL" Bundle.listD)) && decide (w ≠ .laysStatic Bundle.tN "UNASSIGNED_STACK" Bundle.steD) && decide (w ≠ .laysStatic Bundle.tN "SUPPRESSED_SENTINEL" Bundle.listD)
def vx_at0 (own : String) (ic : Nat) (X : String) (names : List String) : List Cond := (Bundle.ownAtoms0 own ic X names).filter vx_no
def vx_atS (own : String) (ic : Nat) (X : String) (names : List String) : List Cond := (Bundle.ownAtoms own ic X names).filter vx_no
/-- a word that the tables alone decide, or a good one -/
def vx_ot (w : Cond) : Bool := w.onTables || goodWord w
theorem vx_ot_at {args a' : Array Value} {s U : State} {w : Cond} (hW : s.WarmedH U.vm) (hvm : s.vm = U.vm) (hg : vx_ot w = true) (h : w.before args s = true) : w.before a' U = true := by
  simp only [vx_ot, Bool.or_eq_true] at hg
  rcases hg with hg | hg
  · exact va_tabs hg hvm h
  · exact word_at hW (good_of_word hg) h
/-- a list's words: the good ones out of the method's own list, the others by premises of their own -/
theorem vx_hat {args : Array Value} {s : State} {L B : List Cond} (h1 : ∀ w ∈ L.filter goodWord, w.before args s = true) (h2 : ∀ w ∈ L.filter (fun w => !goodWord w), w ∈ B) (h3 : ∀ w ∈ B, w.before args s = true) : ∀ w ∈ L, w.before args s = true := by
  intro w hw
  by_cases g : goodWord w = true
  · exact h1 w (List.mem_filter.mpr ⟨hw, g⟩)
  · refine h3 w (h2 w (List.mem_filter.mpr ⟨hw, ?_⟩))
    show (!goodWord w) = true
    cases hgw : goodWord w
    · rfl
    · exact absurd hgw g
theorem vx_c {args : Array Value} {s : State} {w : Cond} {B : List Cond} (h : w.before args s = true) (t : ∀ w ∈ B, w.before args s = true) : ∀ w' ∈ w :: B, w'.before args s = true := fun w' h' => (List.mem_cons.mp h').elim (fun e => by rw [e]; exact h) (t w')
theorem vx_n {args : Array Value} {s : State} : ∀ w ∈ ([] : List Cond), w.before args s = true := fun _ h => nomatch h
theorem vx_own {args : Array Value} {s : State} {L : List Cond} (h1 : ∀ w ∈ L.filter vx_no, w.before args s = true)
    (hU : (Cond.isRef (.static Bundle.tN "UNASSIGNED_STACK" Bundle.steD)).before args s = true) (hN : (Cond.isRef (.static Bundle.tN "SUPPRESSED_SENTINEL" Bundle.listD)).before args s = true)
    (lU : (Cond.laysStatic Bundle.tN "UNASSIGNED_STACK" Bundle.steD).before args s = true) (lN : (Cond.laysStatic Bundle.tN "SUPPRESSED_SENTINEL" Bundle.listD).before args s = true) : ∀ w ∈ L, w.before args s = true := by
  intro w hw
  by_cases e1 : w = .isRef (.static Bundle.tN "UNASSIGNED_STACK" Bundle.steD)
  · rw [e1]; exact hU
  · by_cases e2 : w = .isRef (.static Bundle.tN "SUPPRESSED_SENTINEL" Bundle.listD)
    · rw [e2]; exact hN
    · by_cases e3 : w = .laysStatic Bundle.tN "UNASSIGNED_STACK" Bundle.steD
      · rw [e3]; exact lU
      · by_cases e4 : w = .laysStatic Bundle.tN "SUPPRESSED_SENTINEL" Bundle.listD
        · rw [e4]; exact lN
        · exact h1 w (List.mem_filter.mpr ⟨hw, by unfold vx_no; rw [decide_eq_true e1, decide_eq_true e2, decide_eq_true e3, decide_eq_true e4]; rfl⟩)
/-- where a static field lies, its class's statics cell in H -/
def vx_L (C n d : String) (A : Nat → Prop) (U : State) (H : Heap) : Prop := ∃ (c : ClassId) (k : Class) (i : Nat) (f : Field) (a : Nat) (cell : Cell), U.vm.findClass C = some c ∧ U.fieldFound? C n d = some (c, k, i, f) ∧ f.isStatic = true ∧ k.statics = some a ∧ H[a]? = some cell ∧ cell.vm.isStatics = true ∧ cell.cls = c ∧ f.slot < cell.slots.size ∧ k.staticTypes[f.slot]? = some f.type ∧ ¬ A a
theorem vx_L.moved {C n d : String} {A : Nat → Prop} {u U : State} {H : Heap} (hvm : u.vm.Alike U.vm) (h : vx_L C n d A u H) : vx_L C n d A U H := by
  obtain ⟨c, k, i, f, a, cell, h1, h2, h3, h4, h5, h6, h7, h8, h9, h10⟩ := h
  obtain ⟨k', hi', he⟩ := State.fieldFound?_setVm hvm h2
  exact ⟨c, k', i, f, a, cell, by rw [hvm.findClass]; exact h1, hi', h3, by rw [he]; exact h4, h5, h6, h7, h8, by rw [he]; exact h9, h10⟩
theorem vx_L.kept {C n d : String} {A : Nat → Prop} {U : State} {H H1 : Heap} (h : vx_L C n d A U H) (hq : ∀ a : Nat, a < H.size → ¬ A a → H1[a]? = H[a]?) : vx_L C n d A U H1 := by
  obtain ⟨c, k, i, f, a, cell, h1, h2, h3, h4, h5, h6, h7, h8, h9, h10⟩ := h
  exact ⟨c, k, i, f, a, cell, h1, h2, h3, h4, by rw [hq a (Array.getElem?_eq_some_iff.mp h5).1 h10]; exact h5, h6, h7, h8, h9, h10⟩
theorem vx_L.narrow {C n d : String} {A B : Nat → Prop} {U : State} {H : Heap} (h : vx_L C n d A U H) (hAB : ∀ q, B q → A q) : vx_L C n d B U H := by
  obtain ⟨c, k, i, f, a, cell, h1, h2, h3, h4, h5, h6, h7, h8, h9, h10⟩ := h
  exact ⟨c, k, i, f, a, cell, h1, h2, h3, h4, h5, h6, h7, h8, h9, fun z => h10 (hAB _ z)⟩
theorem vx_L.word {C n d : String} {A : Nat → Prop} {s : State} {args : Array Value} (h : vx_L C n d A s s.heap) : (Cond.laysStatic C n d).before args s = true := by
  obtain ⟨c, k, i, f, a, cell, h1, h2, h3, h4, h5, h6, h7, h8, h9, -⟩ := h
  show (Cond.laysStatic C n d).holds args s none s [] = true
  exact Cond.laysStatic_of h1 h2 h3 h4 h5 h6 h7 h8 h9
/-- .. and what it holds: null or some reference -/
def vx_Zq (C n d : String) (A : Nat → Prop) (U : State) (H : Heap) : Prop := va_Zq C n d A U H ∧ vx_L C n d A U H
theorem vx_Zq.moved {C n d : String} {A : Nat → Prop} {u U : State} {H : Heap} (hvm : u.vm.Alike U.vm) (h : vx_Zq C n d A u H) : vx_Zq C n d A U H := ⟨va_Zq.moved hvm h.1, vx_L.moved hvm h.2⟩
theorem vx_Zq.kept {C n d : String} {A : Nat → Prop} {U : State} {H H1 : Heap} (h : vx_Zq C n d A U H) (hq : ∀ a : Nat, a < H.size → ¬ A a → H1[a]? = H[a]?) : vx_Zq C n d A U H1 := ⟨va_Zq.kept h.1 hq, vx_L.kept h.2 hq⟩
theorem vx_Zq.narrow {C n d : String} {A B : Nat → Prop} {U : State} {H : Heap} (h : vx_Zq C n d A U H) (hAB : ∀ q, B q → A q) : vx_Zq C n d B U H := ⟨va_Zq.narrow h.1 hAB, vx_L.narrow h.2 hAB⟩
theorem vx_Zqof {args : Array Value} {s : State} {C n d : String} {A : Nat → Prop} (hl : (Cond.laysStatic C n d).before args s = true) (hini : (Cond.initialized C).before args s = true) (h : (Cond.isRef (.static C n d)).before args s = true) (hA : ∀ a : Nat, a < s.heap.size → ¬ A a) : vx_Zq C n d A s s.heap := by
  refine ⟨va_Zqof hl hini h hA, ?_⟩
  obtain ⟨c, k, i, f, a, cell, h1, h2, h3, h4, h5, h6, h7, h8, h9⟩ := Cond.laysStatic_spec hl
  exact ⟨c, k, i, f, a, cell, h1, h2, h3, h4, h5, h6, h7, h8, h9, hA a (Array.getElem?_eq_some_iff.mp h5).1⟩
theorem vx_isRef {C n d : String} {v : Value} {A : Nat → Prop} {s : State} {args : Array Value} (h : va_Z C n d v A s s.heap) (hv : v.isRef = true) : (Cond.isRef (.static C n d)).before args s = true := by
  obtain ⟨cf, kf, fi, f, a, cell, h1, h2, h3, h4, h5, h6, h7, -⟩ := h
  have he : (Term.static C n d).eval args s none [] s = some v := by
    simp [Term.eval, State.fieldNamed?, h1, h2, h4, h5, h6, h7]
  simp only [Cond.before, Cond.holds, Cond.value, he]
  cases v <;> simp_all [Value.isRef]
theorem vx_isRefq {C n d : String} {A : Nat → Prop} {s : State} {args : Array Value} (h : va_Zq C n d A s s.heap) : (Cond.isRef (.static C n d)).before args s = true := by
  rcases h with h | ⟨t, h⟩
  · exact vx_isRef h rfl
  · exact vx_isRef h rfl
/-- the same frame, seen from here: as if the method were called anew in this heap -/
theorem vx_rebase {T : State} (X : Stand p l e R s m args below meth c T locs cells slots) {R' : Room} (hf : R'.frames ≤ R.frames) (hl : R'.locals ≤ R.locals) (hc : cells + R'.cells ≤ R.cells) (hs : slots + R'.slots ≤ R.slots) :
    Stand p l e R' ((T.setVm s.vm).setFrames (.invoking m args :: below)) m args below meth c T [] 0 0 := by
  have htop : (T.setVm s.vm).topJava?.isSome := X.here.top
  have hF : ((T.setVm s.vm).setFrames (.invoking m args :: below)).frames = .invoking m args :: below := State.frames_setFrames _ (State.cur_lt_of_top htop)
  obtain ⟨g₀, hg0⟩ := Option.isSome_iff_exists.mp htop
  obtain ⟨r, hr⟩ := State.topJava?_eq_some.mp hg0
  have hl9 : e.platform.stackLimits (T.setVm s.vm).me = e.platform.stackLimits s.me := X.limits
  have hb9 : (T.setVm s.vm).me.stackBytes = s.me.stackBytes := X.bytes
  refine ⟨X.admits, X.cas, X.clock, hF, ?_, X.hears, X.method, X.code, X.here, X.tail, X.warmed, ?_, ?_, ?_⟩
  · have h := X.room
    have hU : ((T.setVm s.vm).setFrames (.invoking m args :: below)).localsInUse = s.localsInUse := by
      rw [State.localsInUse_invoking hF (meth := meth) (c := c) X.method X.code, State.localsInUse_invoking X.frames X.method X.code]
    simp only [State.hasRoom, Bool.and_eq_true, decide_eq_true_eq] at h ⊢
    obtain ⟨⟨⟨⟨h1, h2, h3, h4, h5, h6⟩, h7⟩, h8⟩, h9⟩ := h
    rw [X.frames, List.length_cons] at h2 h3
    have q1 := X.heapSize
    have q2 := X.used
    simp only [hF, hU, List.length_cons, State.stackLimits_setFrames, State.stackBytes_setFrames, hl9, hb9]
    refine ⟨⟨⟨⟨by omega, by omega, by omega, by omega, by omega, h6⟩, ?_⟩, ?_⟩, X.book⟩
    · show T.heap.size + R'.cells ≤ e.platform.maxCells
      omega
    · show T.slotsUsed + R'.slots ≤ e.platform.maxSlots
      omega
  · rw [State.stackLimits_setFrames]; rfl
  · rw [State.stackBytes_setFrames]; rfl
  · refine ⟨?_, Nat.le_refl _, Nat.le_refl _, ?_, ?_, fun a c9 h9 => ⟨c9, h9, rfl, rfl, fun _ _ => rfl⟩⟩
    · obtain ⟨t, ht, -⟩ := State.frames_cons hr
      show T.setVm s.vm = { ((T.setVm s.vm).setFrames (.invoking m args :: below)).setFrames (T.setVm s.vm).frames with heap := T.heap, slotsUsed := T.slotsUsed }
      rw [State.setFrames_setFrames, State.setFrames_self ht]
      rfl
    · show T.slotsUsed = T.slotsUsed + ((T.heap.toList.drop T.heap.size).map (·.slots.size)).sum
      rw [List.drop_eq_nil_of_le (Nat.le_of_eq Array.length_toList)]
      rfl
    · show ((T.heap.toList.drop T.heap.size).map (·.slots.size)).sum ≤ 0
      rw [List.drop_eq_nil_of_le (Nat.le_of_eq Array.length_toList)]
      exact Nat.le_refl _
/-- 'throw new E()': new; dup; invokespecial; athrow -/
theorem vx_throw0 {cc : ByteArray} {pc : Nat} (hexec : p.tables.exec = Jvm.exec) (hb : c.code = cc) (hl : l.stackTraces = false) {own cls : String} {names : List String} {ik ic mc ms : Nat} {A : Nat → Prop}
    (hown : s.vm.findClass own = some m.cls) (hcls : Bundle.fit cls = true) (hnames : ∀ n ∈ names, Bundle.fit n = true)
    (hk : (Cond.classLink own ik cls).before args s = true) (hini : (Cond.initialized cls).before args s = true) (hat : ∀ w ∈ vx_at0 own ic cls names, w.before args s = true)
    (hgood : ∀ w ∈ Cond.classLink own ik cls :: Cond.initialized cls :: vx_at0 own ic cls names, vx_ot w = true)
    (hU : vx_Zq Bundle.tN "UNASSIGNED_STACK" Bundle.steD A s s.heap) (hN : vx_Zq Bundle.tN "SUPPRESSED_SENTINEL" Bundle.listD A s s.heap) (hS : va_S A s.heap H locs) (hsize : ls.size = c.maxLocals)
    (d0 : decode cc pc = .ok (.new ik, 3)) (d3 : decode cc (pc + 3) = .ok (.dup, 1)) (d4 : decode cc (pc + 4) = .ok (.invokespecial ic, 3)) (d7 : decode cc (pc + 7) = .ok (.athrow, 1))
    (hout : ∀ x ∈ c.exceptionTable.toList, covers x (pc + 7) = false)
    (hRframes : names.length + 3 < R.frames) (hRlocals : (rest.map fun v => v.category).sum + (13 * (names.length + 1) + 42) ≤ R.locals) (hRcells : cells + 1 ≤ R.cells) (hRslots : slots + 6 ≤ R.slots) (hlocks : meth.locks = false)
    (hx : ∀ t : State, s.vm.Alike t.vm → H.size ≤ t.heap.size → (∀ q : Nat, q < H.size → t.heap[q]? = H[q]?) → XC cls s t)
    (hf : ∀ z ∈ locs, free z.base) (hc : cells + 1 ≤ mc) (hs : slots + 6 ≤ ms) :
    W p l e R s m args below meth c H locs cells slots (vx_MQ below Qc XC args s mc ms free) (F0 m pc ls rest) := by
  intro T hT X
  have htr : e.platform.stackTraces = false := (show e.platform.stackTraces = l.stackTraces by rw [X.admits.platform]).trans hl
  have Y := vx_rebase X (R' := { frames := R.frames, locals := R.locals, cells := 1, slots := 6 }) (Nat.le_refl _) (Nat.le_refl _) hRcells hRslots
  obtain ⟨s', hA⟩ : ∃ z, z = (T.setVm s.vm).setFrames (.invoking m args :: below) := ⟨_, rfl⟩
  rw [← hA] at Y
  have hvm : s'.vm = s.vm := by rw [hA]; rfl
  have hhp : s'.heap = H := by rw [hA]; exact hT
  have hW0 : s.WarmedH s'.vm := by rw [hvm]; exact State.WarmedH.refl s
  have hat' : ∀ w ∈ vx_at0 own ic cls names, w.before args s' = true := fun w hw => vx_ot_at hW0 hvm.symm (hgood w (List.mem_cons_of_mem _ (List.mem_cons_of_mem _ hw))) (hat w hw)
  have hk' : (Cond.classLink own ik cls).before args s' = true := vx_ot_at hW0 hvm.symm (hgood _ List.mem_cons_self) hk
  have hini' : (Cond.initialized cls).before args s' = true := vx_ot_at hW0 hvm.symm (hgood _ (List.mem_cons_of_mem _ List.mem_cons_self)) hini
  have hU' : vx_Zq Bundle.tN "UNASSIGNED_STACK" Bundle.steD A s' s'.heap := by rw [hhp]; exact vx_Zq.moved hW0.alike (hU.kept hS.2.1)
  have hN' : vx_Zq Bundle.tN "SUPPRESSED_SENTINEL" Bundle.listD A s' s'.heap := by rw [hhp]; exact vx_Zq.moved hW0.alike (hN.kept hS.2.1)
  have h : ∀ w ∈ Bundle.ownAtoms0 own ic cls names, w.before args s' = true := vx_own hat' (vx_isRefq hU'.1) (vx_isRefq hN'.1) hU'.2.word hN'.2.word
  have hown' : s'.vm.findClass own = some m.cls := by rw [hvm]; exact hown
  have hins : (Cond.instantiable cls 6).before args s' = true := h _ (by simp [Bundle.ownAtoms0])
  obtain ⟨vm₁, cX, kX, hfX, hkX, -, -, X₁, st1⟩ := Y.newCold hexec (own := own) (C := cls) (index := ik) (n := 6) hown' hk' hins hini'
    (g := F0 m pc ls rest) rfl (by rw [hb]; exact d0) (Nat.le_refl _) (Nat.le_refl _)
  generalize hT1 : (T.setVm vm₁).pushCell { cls := cX, slots := kX.instanceTypes.map defaultValue, vm := .none } = T1 at X₁ st1
  have hcat : (Value.ref T.heap.size).category = 1 := rfl
  have hcellA : T1.heap[T.heap.size]? = some (freshCell cX kX) := by rw [← hT1]; exact State.heap_pushCell_size _ _
  have d3' : decode c.code (pc + 3) = .ok (.dup, 1) := by rw [hb]; exact d3
  obtain ⟨U, hsteps, hrun, hend, hW, hsame, ce, hce, hO⟩ := X₁.ctorThrow0 hexec htr (own := own) (cls := cls) (names := names) (ic := ic) hown' hcls hnames h (fun x hx => nomatch hx) hfX hkX hcellA (by rw [hhp, hT]; exact Nat.le_refl _)
    (g := { method := m, pc := pc + 4, locals := ls, stack := .ref T.heap.size :: .ref T.heap.size :: rest, locked := none }) rfl hsize rfl rfl (rest := rest) rfl
    (by rw [hb]; exact d4) (by rw [hb]; exact d7) hout hRframes (by simp only [List.map_cons, List.sum_cons, hcat]; omega) hlocks
  obtain ⟨f1, f2⟩ := vx_frame hsame
  rw [hhp] at f1 f2
  have hWs : s.WarmedH U.vm := State.WarmedH.trans hW0 hW
  have hcl : s.vm.findClass cls = some ce.cls := by
    have h9 := hO.cls
    rw [hvm] at h9
    exact h9
  have hall : s.sameButNew ({ U with vm := s.vm } : State) locs mc ms := by
    subst hA
    obtain ⟨e1, e2⟩ := hsame
    rw [State.setFrames_setFrames] at e1
    have h2 : (T.setVm s.vm).sameButNew ({ U with vm := s.vm } : State) [] (0 + 1) (0 + 6) := ⟨e1, e2⟩
    have h3 := X.same.trans h2
    rw [List.append_nil] at h3
    exact h3.mono hc hs
  refine ⟨U, ?_, .threw T.heap.size, hrun, hend, Or.inr ⟨T.heap.size, rfl, cls, ce, locs, hx U hWs.alike f1 (fun q hq => f2 q hq (fun z hz => nomatch hz)), hce, hO.vm, hcl, hWs, hall, hf⟩⟩
  refine st1 _ ?_
  show Steps p.tables e below (T1.setTop { method := m, pc := pc + 3, locals := ls, stack := .ref T.heap.size :: rest, locked := none }) _
  jvm_step X₁.here [X₁.here.top, hexec, d3', Value.category]
  exact hsteps
/-- 'throw new E("text")': new; dup; ldc; invokespecial; athrow -/
theorem vx_throwS {cc : ByteArray} {pc : Nat} (hexec : p.tables.exec = Jvm.exec) (hb : c.code = cc) (hl : l.stackTraces = false) {own cls text : String} {names : List String} {ik is ic mc ms sa : Nat} {A : Nat → Prop}
    (hown : s.vm.findClass own = some m.cls) (hcls : Bundle.fit cls = true) (hnames : ∀ n ∈ names, Bundle.fit n = true)
    (hk : (Cond.classLink own ik cls).before args s = true) (hini : (Cond.initialized cls).before args s = true) (hstr : vk_R own is text sa s) (hat : ∀ w ∈ vx_atS own ic cls names, w.before args s = true)
    (hgood : ∀ w ∈ Cond.classLink own ik cls :: Cond.initialized cls :: vx_atS own ic cls names, vx_ot w = true)
    (hU : vx_Zq Bundle.tN "UNASSIGNED_STACK" Bundle.steD A s s.heap) (hN : vx_Zq Bundle.tN "SUPPRESSED_SENTINEL" Bundle.listD A s s.heap) (hS : va_S A s.heap H locs) (hsize : ls.size = c.maxLocals)
    (d0 : decode cc pc = .ok (.new ik, 3)) (d3 : decode cc (pc + 3) = .ok (.dup, 1)) (d4 : decode cc (pc + 4) = .ok (.ldc is, 2)) (d6 : decode cc (pc + 6) = .ok (.invokespecial ic, 3)) (d9 : decode cc (pc + 9) = .ok (.athrow, 1))
    (hout : ∀ x ∈ c.exceptionTable.toList, covers x (pc + 9) = false)
    (hRframes : names.length + 3 < R.frames) (hRlocals : (rest.map fun v => v.category).sum + (13 * (names.length + 1) + 43) ≤ R.locals) (hRcells : cells + 1 ≤ R.cells) (hRslots : slots + 6 ≤ R.slots) (hlocks : meth.locks = false)
    (hx : ∀ t : State, s.vm.Alike t.vm → H.size ≤ t.heap.size → (∀ q : Nat, q < H.size → t.heap[q]? = H[q]?) → XC cls s t)
    (hf : ∀ z ∈ locs, free z.base) (hc : cells + 1 ≤ mc) (hs : slots + 6 ≤ ms) :
    W p l e R s m args below meth c H locs cells slots (vx_MQ below Qc XC args s mc ms free) (F0 m pc ls rest) := by
  intro T hT X
  have htr : e.platform.stackTraces = false := (show e.platform.stackTraces = l.stackTraces by rw [X.admits.platform]).trans hl
  have Y := vx_rebase X (R' := { frames := R.frames, locals := R.locals, cells := 1, slots := 6 }) (Nat.le_refl _) (Nat.le_refl _) hRcells hRslots
  obtain ⟨s', hA⟩ : ∃ z, z = (T.setVm s.vm).setFrames (.invoking m args :: below) := ⟨_, rfl⟩
  rw [← hA] at Y
  have hvm : s'.vm = s.vm := by rw [hA]; rfl
  have hhp : s'.heap = H := by rw [hA]; exact hT
  have hW0 : s.WarmedH s'.vm := by rw [hvm]; exact State.WarmedH.refl s
  have hat' : ∀ w ∈ vx_atS own ic cls names, w.before args s' = true := fun w hw => vx_ot_at hW0 hvm.symm (hgood w (List.mem_cons_of_mem _ (List.mem_cons_of_mem _ hw))) (hat w hw)
  have hk' : (Cond.classLink own ik cls).before args s' = true := vx_ot_at hW0 hvm.symm (hgood _ List.mem_cons_self) hk
  have hini' : (Cond.initialized cls).before args s' = true := vx_ot_at hW0 hvm.symm (hgood _ (List.mem_cons_of_mem _ List.mem_cons_self)) hini
  have hU' : vx_Zq Bundle.tN "UNASSIGNED_STACK" Bundle.steD A s' s'.heap := by rw [hhp]; exact vx_Zq.moved hW0.alike (hU.kept hS.2.1)
  have hN' : vx_Zq Bundle.tN "SUPPRESSED_SENTINEL" Bundle.listD A s' s'.heap := by rw [hhp]; exact vx_Zq.moved hW0.alike (hN.kept hS.2.1)
  have h : ∀ w ∈ Bundle.ownAtoms own ic cls names, w.before args s' = true := vx_own hat' (vx_isRefq hU'.1) (vx_isRefq hN'.1) hU'.2.word hN'.2.word
  have hown' : s'.vm.findClass own = some m.cls := by rw [hvm]; exact hown
  have hins : (Cond.instantiable cls 6).before args s' = true := h _ (by simp [Bundle.ownAtoms])
  obtain ⟨vm₁, cX, kX, hfX, hkX, -, -, X₁, st1⟩ := Y.newCold hexec (own := own) (C := cls) (index := ik) (n := 6) hown' hk' hins hini'
    (g := F0 m pc ls rest) rfl (by rw [hb]; exact d0) (Nat.le_refl _) (Nat.le_refl _)
  generalize hT1 : (T.setVm vm₁).pushCell { cls := cX, slots := kX.instanceTypes.map defaultValue, vm := .none } = T1 at X₁ st1
  have hcat : (Value.ref T.heap.size).category = 1 := rfl
  have hcellA : T1.heap[T.heap.size]? = some (freshCell cX kX) := by rw [← hT1]; exact State.heap_pushCell_size _ _
  have d3' : decode c.code (pc + 3) = .ok (.dup, 1) := by rw [hb]; exact d3
  have d4' : decode c.code (pc + 4) = .ok (.ldc is, 2) := by rw [hb]; exact d4
  have hstr' : vk_R own is text sa s' := vk_R.warm hW0 hstr
  obtain ⟨U, hsteps, hrun, hend, hW, hsame, ce, hce, hO⟩ := X₁.ctorThrowS hexec htr (own := own) (cls := cls) (names := names) (ic := ic) hown' hcls hnames h (fun x hx => nomatch hx) hfX hkX hcellA (by rw [hhp, hT]; exact Nat.le_refl _) (msg := .ref sa) rfl
    (g := { method := m, pc := pc + 6, locals := ls, stack := .ref sa :: .ref T.heap.size :: .ref T.heap.size :: rest, locked := none }) rfl hsize rfl rfl (rest := rest) rfl
    (by rw [hb]; exact d6) (by rw [hb]; exact d9) hout hRframes (by simp only [List.map_cons, List.sum_cons, hcat]; omega) hlocks
  obtain ⟨f1, f2⟩ := vx_frame hsame
  rw [hhp] at f1 f2
  have hWs : s.WarmedH U.vm := State.WarmedH.trans hW0 hW
  have hcl : s.vm.findClass cls = some ce.cls := by
    have h9 := hO.cls
    rw [hvm] at h9
    exact h9
  have hall : s.sameButNew ({ U with vm := s.vm } : State) locs mc ms := by
    subst hA
    obtain ⟨e1, e2⟩ := hsame
    rw [State.setFrames_setFrames] at e1
    have h2 : (T.setVm s.vm).sameButNew ({ U with vm := s.vm } : State) [] (0 + 1) (0 + 6) := ⟨e1, e2⟩
    have h3 := X.same.trans h2
    rw [List.append_nil] at h3
    exact h3.mono hc hs
  refine ⟨U, ?_, .threw T.heap.size, hrun, hend, Or.inr ⟨T.heap.size, rfl, cls, ce, locs, hx U hWs.alike f1 (fun q hq => f2 q hq (fun z hz => nomatch hz)), hce, hO.vm, hcl, hWs, hall, hf⟩⟩
  refine st1 _ ?_
  show Steps p.tables e below (T1.setTop { method := m, pc := pc + 3, locals := ls, stack := .ref T.heap.size :: rest, locked := none }) _
  jvm_step X₁.here [X₁.here.top, hexec, d3', Value.category]
  exact X₁.ldcString hexec (own := own) (text := text) (index := is) (a := sa) hown' hstr'.1 hstr'.2
    (g := { method := m, pc := pc + 4, locals := ls, stack := .ref T.heap.size :: .ref T.heap.size :: rest, locked := none }) rfl d4' _ hsteps
/-- 'throw new E("text")', the text by a wide index -/
theorem vx_throwSW {cc : ByteArray} {pc : Nat} (hexec : p.tables.exec = Jvm.exec) (hb : c.code = cc) (hl : l.stackTraces = false) {own cls text : String} {names : List String} {ik is ic mc ms sa : Nat} {A : Nat → Prop}
    (hown : s.vm.findClass own = some m.cls) (hcls : Bundle.fit cls = true) (hnames : ∀ n ∈ names, Bundle.fit n = true)
    (hk : (Cond.classLink own ik cls).before args s = true) (hini : (Cond.initialized cls).before args s = true) (hstr : vk_R own is text sa s) (hat : ∀ w ∈ vx_atS own ic cls names, w.before args s = true)
    (hgood : ∀ w ∈ Cond.classLink own ik cls :: Cond.initialized cls :: vx_atS own ic cls names, vx_ot w = true)
    (hU : vx_Zq Bundle.tN "UNASSIGNED_STACK" Bundle.steD A s s.heap) (hN : vx_Zq Bundle.tN "SUPPRESSED_SENTINEL" Bundle.listD A s s.heap) (hS : va_S A s.heap H locs) (hsize : ls.size = c.maxLocals)
    (d0 : decode cc pc = .ok (.new ik, 3)) (d3 : decode cc (pc + 3) = .ok (.dup, 1)) (d4 : decode cc (pc + 4) = .ok (.ldc_w is, 3)) (d7 : decode cc (pc + 7) = .ok (.invokespecial ic, 3)) (d10 : decode cc (pc + 10) = .ok (.athrow, 1))
    (hout : ∀ x ∈ c.exceptionTable.toList, covers x (pc + 10) = false)
    (hRframes : names.length + 3 < R.frames) (hRlocals : (rest.map fun v => v.category).sum + (13 * (names.length + 1) + 43) ≤ R.locals) (hRcells : cells + 1 ≤ R.cells) (hRslots : slots + 6 ≤ R.slots) (hlocks : meth.locks = false)
    (hx : ∀ t : State, s.vm.Alike t.vm → H.size ≤ t.heap.size → (∀ q : Nat, q < H.size → t.heap[q]? = H[q]?) → XC cls s t)
    (hf : ∀ z ∈ locs, free z.base) (hc : cells + 1 ≤ mc) (hs : slots + 6 ≤ ms) :
    W p l e R s m args below meth c H locs cells slots (vx_MQ below Qc XC args s mc ms free) (F0 m pc ls rest) := by
  intro T hT X
  have htr : e.platform.stackTraces = false := (show e.platform.stackTraces = l.stackTraces by rw [X.admits.platform]).trans hl
  have Y := vx_rebase X (R' := { frames := R.frames, locals := R.locals, cells := 1, slots := 6 }) (Nat.le_refl _) (Nat.le_refl _) hRcells hRslots
  obtain ⟨s', hA⟩ : ∃ z, z = (T.setVm s.vm).setFrames (.invoking m args :: below) := ⟨_, rfl⟩
  rw [← hA] at Y
  have hvm : s'.vm = s.vm := by rw [hA]; rfl
  have hhp : s'.heap = H := by rw [hA]; exact hT
  have hW0 : s.WarmedH s'.vm := by rw [hvm]; exact State.WarmedH.refl s
  have hat' : ∀ w ∈ vx_atS own ic cls names, w.before args s' = true := fun w hw => vx_ot_at hW0 hvm.symm (hgood w (List.mem_cons_of_mem _ (List.mem_cons_of_mem _ hw))) (hat w hw)
  have hk' : (Cond.classLink own ik cls).before args s' = true := vx_ot_at hW0 hvm.symm (hgood _ List.mem_cons_self) hk
  have hini' : (Cond.initialized cls).before args s' = true := vx_ot_at hW0 hvm.symm (hgood _ (List.mem_cons_of_mem _ List.mem_cons_self)) hini
  have hU' : vx_Zq Bundle.tN "UNASSIGNED_STACK" Bundle.steD A s' s'.heap := by rw [hhp]; exact vx_Zq.moved hW0.alike (hU.kept hS.2.1)
  have hN' : vx_Zq Bundle.tN "SUPPRESSED_SENTINEL" Bundle.listD A s' s'.heap := by rw [hhp]; exact vx_Zq.moved hW0.alike (hN.kept hS.2.1)
  have h : ∀ w ∈ Bundle.ownAtoms own ic cls names, w.before args s' = true := vx_own hat' (vx_isRefq hU'.1) (vx_isRefq hN'.1) hU'.2.word hN'.2.word
  have hown' : s'.vm.findClass own = some m.cls := by rw [hvm]; exact hown
  have hins : (Cond.instantiable cls 6).before args s' = true := h _ (by simp [Bundle.ownAtoms])
  obtain ⟨vm₁, cX, kX, hfX, hkX, -, -, X₁, st1⟩ := Y.newCold hexec (own := own) (C := cls) (index := ik) (n := 6) hown' hk' hins hini'
    (g := F0 m pc ls rest) rfl (by rw [hb]; exact d0) (Nat.le_refl _) (Nat.le_refl _)
  generalize hT1 : (T.setVm vm₁).pushCell { cls := cX, slots := kX.instanceTypes.map defaultValue, vm := .none } = T1 at X₁ st1
  have hcat : (Value.ref T.heap.size).category = 1 := rfl
  have hcellA : T1.heap[T.heap.size]? = some (freshCell cX kX) := by rw [← hT1]; exact State.heap_pushCell_size _ _
  have d3' : decode c.code (pc + 3) = .ok (.dup, 1) := by rw [hb]; exact d3
  have d4' : decode c.code (pc + 4) = .ok (.ldc_w is, 3) := by rw [hb]; exact d4
  have hstr' : vk_R own is text sa s' := vk_R.warm hW0 hstr
  obtain ⟨U, hsteps, hrun, hend, hW, hsame, ce, hce, hO⟩ := X₁.ctorThrowS hexec htr (own := own) (cls := cls) (names := names) (ic := ic) hown' hcls hnames h (fun x hx => nomatch hx) hfX hkX hcellA (by rw [hhp, hT]; exact Nat.le_refl _) (msg := .ref sa) rfl
    (g := { method := m, pc := pc + 7, locals := ls, stack := .ref sa :: .ref T.heap.size :: .ref T.heap.size :: rest, locked := none }) rfl hsize rfl rfl (rest := rest) rfl
    (by rw [hb]; exact d7) (by rw [hb]; exact d10) hout hRframes (by simp only [List.map_cons, List.sum_cons, hcat]; omega) hlocks
  obtain ⟨f1, f2⟩ := vx_frame hsame
  rw [hhp] at f1 f2
  have hWs : s.WarmedH U.vm := State.WarmedH.trans hW0 hW
  have hcl : s.vm.findClass cls = some ce.cls := by
    have h9 := hO.cls
    rw [hvm] at h9
    exact h9
  have hall : s.sameButNew ({ U with vm := s.vm } : State) locs mc ms := by
    subst hA
    obtain ⟨e1, e2⟩ := hsame
    rw [State.setFrames_setFrames] at e1
    have h2 : (T.setVm s.vm).sameButNew ({ U with vm := s.vm } : State) [] (0 + 1) (0 + 6) := ⟨e1, e2⟩
    have h3 := X.same.trans h2
    rw [List.append_nil] at h3
    exact h3.mono hc hs
  refine ⟨U, ?_, .threw T.heap.size, hrun, hend, Or.inr ⟨T.heap.size, rfl, cls, ce, locs, hx U hWs.alike f1 (fun q hq => f2 q hq (fun z hz => nomatch hz)), hce, hO.vm, hcl, hWs, hall, hf⟩⟩
  refine st1 _ ?_
  show Steps p.tables e below (T1.setTop { method := m, pc := pc + 3, locals := ls, stack := .ref T.heap.size :: rest, locked := none }) _
  jvm_step X₁.here [X₁.here.top, hexec, d3', Value.category]
  exact X₁.ldcStringW hexec (own := own) (text := text) (index := is) (a := sa) hown' hstr'.1 hstr'.2
    (g := { method := m, pc := pc + 4, locals := ls, stack := .ref T.heap.size :: .ref T.heap.size :: rest, locked := none }) rfl d4' _ hsteps
end Ends
section Bodies
variable {l : Launch}
theorem vx_ofW {y : MethodName} {ws ws' : List Cond} {rm : Room} {Pc : Array Value → State → Prop} {Qc : Array Value → State → Outcome → State → Prop} {XC : String → State → State → Prop} {mc ms : Nat} {free : Addr → Prop} {cc : ByteArray} {maxL : Nat} {ret : Option FieldType}
    (hy : plainName y.cls = true) (hw : ws = Cond.code y cc maxL ret :: ws')
    (body : ∀ p e s m args below meth c s₁, BodyLoose p l y (headSpec ws rm) cc maxL ret e s m args below meth c s₁ → c.maxLocals = maxL → (∀ x ∈ c.exceptionTable.toList, False) → Pc args s →
      W p l e (headSpec ws rm).room s m args below meth c s.heap [] 0 0 (vx_MQ below Qc XC args s mc ms free) (entryFrame m args maxL)) : vx_Met l y ws rm Pc Qc XC mc ms free := by
  refine MetFree.of_bodyS (code := cc) (maxLocals := maxL) (ret := ret) hy ?_ ?_
  · intro args s m h hn
    obtain ⟨meth, c, h1, h2, h3, h4, h5, h6, -, -⟩ := Cond.code_spec hn (atoms_spec (ws := ws) h _ (by rw [hw]; exact List.mem_cons_self))
    exact ⟨meth, c, h1, h2, h3, h4, h5, h6⟩
  · intro p e s m args below meth c s₁ B hml hP _
    have hh0 : s₁.heap = s.heap := by rw [B.state]; rfl
    have ht : ∀ x ∈ c.exceptionTable.toList, False := by
      obtain ⟨meth9, c9, h1, h2, -, -, -, -, h7, -⟩ := Cond.code_spec B.named (atoms_spec (ws := ws) B.pre _ (by rw [hw]; exact List.mem_cons_self))
      cases Option.some.inj (h1.symm.trans B.method)
      cases Option.some.inj (h2.symm.trans (Stand.of_body B).code)
      intro x hx
      rw [Array.isEmpty_iff.mp h7] at hx
      cases hx
    obtain ⟨t, a1, o, b1, b2, b3⟩ := body p e s m args below meth c s₁ B hml ht hP s₁ hh0 (Stand.of_body B)
    exact ⟨t, o, a1, b1, b2, b3⟩
/-- the table of a body with handlers -/
theorem vx_table {p : Program} {x y : MethodName} {S : Spec} {cc bytes : ByteArray} {maxL maxL' : Nat} {ret ret' : Option FieldType} {e : Env} {s s₁ : State} {m : MethodId} {args : Array Value} {below : List Frame} {meth : Method} {c : Code} {hh : List (Nat × Nat × Nat × Nat)}
    (B : BodyLoose p l y S cc maxL ret e s m args below meth c s₁) (h : (Cond.codeWith y bytes maxL' ret' hh).before args s = true) : c.exceptionTable.toList = tableOf hh := by
  obtain ⟨m9, meth9, c9, hn9, h1, h2, -, -, h6, -⟩ := Cond.codeWith_spec h
  cases Option.some.inj (hn9.symm.trans B.named)
  cases Option.some.inj (h1.symm.trans B.method)
  cases Option.some.inj (h2.symm.trans (Stand.of_body B).code)
  rw [← h6, table_eq]
end Bodies
end VXA
/-! ===== END ===== -/
/-! ===== BEGIN a static call of a method with an exception table ===== -/
section VXS
variable {p : Program} {l : Launch} {e : Env} {R : Room} {s : State} {m : MethodId} {args : Array Value} {below : List Frame} {meth : Method} {c : Code} {T : State} {H : Heap} {locs : List Loc} {cells slots : Nat}
abbrev vx_CSW (R : Room) (s : State) (args : Array Value) (own : String) (index : Nat) (y : MethodName) (bytes : ByteArray) (maxL : Nat) (ret : Option FieldType) (hh : List (Nat × Nat × Nat × Nat)) (ws : List Cond) (rm : Room) (mc ms n : Nat) : Prop :=
  (rm.cells = mc ∧ rm.slots = ms ∧ rm.frames + 1 ≤ R.frames ∧ 8 + (maxL + 11) + rm.locals ≤ R.locals ∧ (∀ w ∈ ws, ∀ (a' : Array Value) (U : State), s.WarmedH U.vm → w.before a' U = true) ∧ Cond.codeWith y bytes maxL ret hh ∈ ws) ∧
  (Cond.codeWith y bytes maxL ret hh).before args s = true ∧ (Cond.initialized y.cls).before args s = true ∧ (y.cls ≠ "java/lang/invoke/MethodHandle" ∧ y.cls ≠ "java/lang/invoke/VarHandle") ∧
  (∀ sig, parseMethodDescriptor y.desc = some sig → n = sig.parameters.length) ∧ (Cond.methodLink own index y).before args s = true ∧ (Cond.static y).before args s = true
theorem vx_cwSW {own : String} {index maxL mc ms : Nat} {y : MethodName} {bytes : ByteArray} {ret : Option FieldType} {hh : List (Nat × Nat × Nat × Nat)} {Ts ws ws' : List Cond} {rm : Room} (n : Nat) (ht : ∀ w ∈ Ts, w.before args s = true) (hT : GoodIn Ts (va_wsS own index y ws)) (hw : ws = Cond.codeWith y bytes maxL ret hh :: ws') (hrc : rm.cells = mc) (hrs : rm.slots = ms)
    (hd : y.cls ≠ "java/lang/invoke/MethodHandle" ∧ y.cls ≠ "java/lang/invoke/VarHandle" ∧ (parseMethodDescriptor y.desc).map (fun d => d.parameters.length) = some n) (hR : rm.frames + 1 ≤ R.frames ∧ 8 + (maxL + 11) + rm.locals ≤ R.locals) :
    vx_CSW R s args own index y bytes maxL ret hh ws rm mc ms n := by
  have ok : ∀ w ∈ va_wsS own index y ws, w.before args s = true := fun w h => ht w (hT w h).1
  have hG : GoodIn Ts ws := fun w h => hT w (by unfold va_wsS; exact List.mem_append_right _ h)
  have hc : Cond.codeWith y bytes maxL ret hh ∈ ws := by rw [hw]; exact List.mem_cons_self
  refine ⟨⟨hrc, hrs, hR.1, hR.2, pay_in ht hG, hc⟩, ht _ (hG _ hc).1, ok _ (by simp [va_wsS]), ⟨hd.1, hd.2.1⟩, fun sig h => ?_, ok _ (by simp [va_wsS]), ok _ (by simp [va_wsS])⟩
  have h2 := hd.2.2
  rw [h] at h2
  exact (Option.some.inj h2).symm
theorem vx_callSW (X : Stand p l e R s m args below meth c T locs cells slots) (hexec : p.tables.exec = Jvm.exec) {own : String} {index : Nat} {y : MethodName} {bytes : ByteArray} {maxL : Nat} {ret : Option FieldType} {hh : List (Nat × Nat × Nat × Nat)}
    (hown : s.vm.findClass own = some m.cls) (hlink : (Cond.methodLink own index y).before args s = true) (hstat : (Cond.static y).before args s = true) (hinit : (Cond.initialized y.cls).before args s = true)
    (hcode : (Cond.codeWith y bytes maxL ret hh).before args s = true) (hy : y.cls ≠ "java/lang/invoke/MethodHandle" ∧ y.cls ≠ "java/lang/invoke/VarHandle")
    {W9 : Nat} {Pre : Pt → Array Value → Prop} {Post : Pt → Array Value → Option Value → Pt → Prop} (hK : Back l R p e below s args y 3 W9 Pre Post)
    {g : JFrame} (hg : g.method = m) (hsize : g.locals.size = c.maxLocals) {argsL rest : List Value} (hlen : ∀ sig, parseMethodDescriptor y.desc = some sig → argsL.length = sig.parameters.length)
    (hstack : g.stack = argsL.reverse ++ rest) (hW : 2 * g.monitorRoom + (rest.map fun v => v.category).sum ≤ W9) (hdg : decode c.code g.pc = .ok (.invokestatic index, 3))
    (hpre : ∀ vm₁, s.WarmedH vm₁ → Pre ⟨T.setVm vm₁, locs, cells, slots⟩ argsL.toArray) :
    ∃ (v : Option Value) (vm₁ : Vm) (B : Pt), s.WarmedH vm₁ ∧ Stand p l e R s m args below meth c B.U B.locs B.cells B.slots ∧ Post ⟨T.setVm vm₁, locs, cells, slots⟩ argsL.toArray v B ∧
      ∀ target, Steps p.tables e below (B.U.setTop { g with pc := g.pc + 3, stack := v.toList ++ rest }) target → Steps p.tables e below (T.setTop g) target := by
  obtain ⟨mk, methM, cM, hnamed, hmethM, -, -, -, -, -, -, hsigM⟩ := Cond.codeWith_spec hcode
  have hstatic : methM.isStatic = true := Cond.static_spec hnamed hmethM hstat
  obtain ⟨kP, hkP, -⟩ := className_of_methodNamed hnamed
  have hinitP : kP.init = .initialized := Cond.initialized_spec (findClass_of_methodNamed hnamed) hkP hinit
  obtain ⟨vm₁, X₁, hstep₁⟩ := X.invokestatic hexec hown hlink hnamed hmethM hstatic hkP hinitP hy (g := g) hg (argsL := argsL) (rest := rest) (hlen _ hsigM) hstack hdg
  obtain ⟨v, B, X', hpost, hsteps⟩ := hK m meth c ⟨T.setVm vm₁, locs, cells, slots⟩ { g with stack := rest } (.invokestatic index) mk argsL.toArray X₁ hg hsize hdg hW (X₁.named hnamed) (hpre vm₁ X₁.warmed)
  exact ⟨v, vm₁, B, X₁.warmed, X', hpost, fun target h => hstep₁ _ fun acts => by rw [doInvoke_state]; exact hsteps.trans h⟩
theorem vx_runSW {y : MethodName} {bytes cc : ByteArray} {maxL nL mc ms n index : Nat} {ret : Option FieldType} {hh : List (Nat × Nat × Nat × Nat)} {ws : List Cond} {rm : Room} {Pc : Array Value → State → Prop} {Qc : Array Value → State → Outcome → State → Prop} {free : Addr → Prop} {Ts : List Cond} {own : String} {As rest : List Value} {g : JFrame}
    (S : CallFix p m c cc nL s args Ts own) (hM : Met l y ws rm Pc Qc mc ms free) (cw : vx_CSW R s args own index y bytes maxL ret hh ws rm mc ms n) (hp : PreS s H Pc As)
    (hg : g.method = m) (hn : As.length = n) (hsize : g.locals.size = nL) (hstack : g.stack = As.reverse ++ rest) (hW : 2 * g.monitorRoom + (rest.map fun v => v.category).sum ≤ 8) (hdg : decode cc g.pc = .ok (.invokestatic index, 3)) (hf : cells + mc ≤ R.cells ∧ slots + ms ≤ R.slots) :
    va_Run p l e R s m args below meth c H locs cells slots mc ms g rest (Qc As.toArray) (free) := by
  obtain ⟨⟨hrc, hrs, hfr, hlo, hws, hcw⟩, hcode, hini, hy, hlen, hl, hstt⟩ := cw
  have hK : Back l R p e below s args y 3 8 (PreOf R mc ms Pc) (PostOf Qc mc ms free) := va_backW (hh := hh) (bytes := bytes) (maxL := maxL) (ret := ret) hM hp.1 hrc hrs hfr hlo hws hcw (fun a' U hW => word_at hW (Or.inl (by first | rfl | simp [Cond.onTables, Cond.keeps, Cond.steady])) hini)
  obtain ⟨hx, hb, hml, ho, -⟩ := S
  intro T hT X
  obtain ⟨v, vm₁, ⟨U', l2, c2, s2⟩, hW₁, X', ⟨g', mk, t, L, e1, e2, hq, h1, hL, h2, h3⟩, st⟩ := vx_callSW X hx (hh := hh) (bytes := bytes) (maxL := maxL) (ret := ret) ho hl hstt hini hcode hy hK hg (hsize.trans hml.symm) (argsL := As) (rest := rest) (fun sig h => hn.trans (hlen sig h)) hstack hW (by rw [hb]; exact hdg)
    (fun vm₁ hW₁ => ⟨hf.1, hf.2, hp.2 (T.setVm vm₁) hT hW₁⟩)
  dsimp only [Pt.U, Pt.locs, Pt.cells, Pt.slots] at X' e1 e2 h1 h2 h3 st
  subst h1; subst h2; subst h3
  exact ⟨v, (T.setVm vm₁).calling g' mk As.toArray, t, U', L, hT, X', hL, e1, e2, hq, st⟩
/-- not caught here, past rows that name other classes: it goes on to the caller -/
theorem vx_outP {p : Program} {l : Launch} {e : Env} {R : Room} {s : State} {m : MethodId} {args : Array Value} {below : List Frame} {meth : Method} {c : Code} {H : Heap} {locs : List Loc} {cells slots : Nat} {free : Addr → Prop} {ls : Array Slot} {rest : List Value} {Qc : Array Value → State → Outcome → State → Prop} {XC : String → State → State → Prop}
    {pc : Nat} {own E : String} {ce : Cell} {q : Addr} {mc ms : Nat} (hown : s.vm.findClass own = some m.cls) (hlocks : meth.locks = false)
    (hpass : ∀ z ∈ c.exceptionTable.toList, covers z pc = false ∨ (z.catchType ≠ 0 ∧ ∃ nm : String, (Cond.classLink own z.catchType nm).before args s = true ∧ va_Nc E nm s)) (hcell : H[q]? = some ce) (hv : ce.vm = .none) (hcl : s.vm.findClass E = some ce.cls)
    (hx : ∀ t : State, t.heap = H → s.vm.Alike t.vm → XC E s t) (hf : ∀ z ∈ locs, free z.base) (hc : cells ≤ mc) (hs : slots ≤ ms) :
    vx_W p l e R s m args below meth c H locs cells slots (vx_MQ below Qc XC args s mc ms free) (F0 m pc ls rest) q := by
  intro T hT X
  have hpl : e.platform.magicAccessors = ({} : Platform).magicAccessors := by rw [X.admits.platform]
  obtain ⟨vm', hW', X', st⟩ := X.outThrough hlocks q (g := F0 m pc ls rest) rfl rfl rfl (cell := ce) (by rw [hT]; exact hcell) (by rw [hv]; rfl)
    (by obtain ⟨k9, h9, -⟩ := Vm.findClass_spec hcl; exact ⟨k9, h9⟩) (fun z hz => by
      rcases hpass z hz with h | ⟨hz0, nm, hl1, hn1⟩
      · exact Or.inl h
      · obtain ⟨c6, hc6, hcl6⟩ := Cond.classLink_spec hown hl1 e.platform hpl
        obtain ⟨a8, b8, h1, h2, h3⟩ := hn1
        cases Option.some.inj (h1.symm.trans hcl)
        cases Option.some.inj (h2.symm.trans hc6)
        exact Or.inr ⟨hz0, _, hcl6, h3⟩)
  obtain ⟨g₀, hfr⟩ := X'.frames_eq
  have hcell9 : ((T.setVm vm').setFrames (.throwing q :: below)).heap[q]? = some ce := by
    show T.heap[q]? = some ce
    rw [hT]; exact hcell
  have hend : Ended ((T.setVm vm').setFrames (.throwing q :: below)) below (.threw q) := State.frames_setFrames _ (State.cur_lt_of_frames hfr)
  refine ⟨(T.setVm vm').setFrames (.throwing q :: below), ?_, .threw q, X'.here.running, hend, Or.inr ⟨q, rfl, E, ce, locs, hx _ hT (X'.ends _).1.alike, hcell9, hv, hcl, (X'.ends _).1, (X'.ends _).2.mono hc hs, hf⟩⟩
  rw [X.pushThrowing_eq]
  exact st
/-- a thing of a world lies in the heap -/
theorem vx_lt {D : va_G} {cl : List vw_C} {ws : va_W} {H1 : Heap} (h : va_P D cl ws H1) {k : Nat} {q : Nat × va_E} (hk : ws[k]? = some q) : q.1 < H1.size := (h k q hk).lt
end VXS
/-! ===== END ===== -/
/-! ===== BEGIN methods with a table of their own: called by a name, returning or throwing ===== -/
section VXH
/-! vx_backW, vx_callVX, vx_callSX, vx_callVW, vx_runVW, vx_runVX, vx_runSX, vx_ofWH follow the same proofs as their sisters above (Free/Laws.lean, Shelf42/LK1.lean); vx_outP calls Shelf42/NT130.lean (outThrough). -/
section
variable {l : Launch} {R : Room} {p : Program} {e : Env} {below : List Frame} {s : State} {sargs : Array Value} {y : MethodName} {len W9 : Nat}
theorem vx_backW {ws : List Cond} {rm : Room} {Pc : Array Value → State → Prop} {Qc : Array Value → State → Outcome → State → Prop} {XC : String → State → State → Prop} {mc ms : Nat} {free : Addr → Prop} {bytes : ByteArray} {maxL : Nat} {ret : Option FieldType} {hh : List (Nat × Nat × Nat × Nat)}
    (hM : vx_Met l y ws rm Pc Qc XC mc ms free) (hblind : FrameBlind Pc) (hrc : rm.cells = mc) (hrs : rm.slots = ms)
    (hframes : rm.frames + 1 ≤ R.frames) (hlocals : W9 + (maxL + 11) + rm.locals ≤ R.locals)
    (hws : ∀ w ∈ ws, ∀ a' U, s.WarmedH U.vm → w.before a' U = true) (hcode : Cond.codeWith y bytes maxL ret hh ∈ ws) (hinit : ∀ a' U, s.WarmedH U.vm → (Cond.initialized y.cls).before a' U = true) :
    vx_Back l R p e below s sargs y len W9 (PreOf R mc ms Pc) (PostOf Qc mc ms free) (vx_Post XC mc ms free) := by
  intro m meth c A g ig mk a X hg hsize hdg hW hn hp
  have h1 : (headSpec ws rm).pre.before a A.U = true := atoms_intro fun w hw => hws w hw _ _ X.warmed
  have h2 : (Cond.codeWith y bytes maxL ret hh).before a A.U = true := hws _ hcode _ _ X.warmed
  have h3 : (Cond.initialized y.cls).before a A.U = true := hinit _ _ X.warmed
  have h4 : A.cells + (headSpec ws rm).room.cells ≤ R.cells := by rw [show (headSpec ws rm).room.cells = mc from hrc]; exact hp.1
  have h5 : A.slots + (headSpec ws rm).room.slots ≤ R.slots := by rw [show (headSpec ws rm).room.slots = ms from hrs]; exact hp.2.1
  have hPc : Pc a (A.U.calling g mk a) := hblind _ _ _ _ hp.2.2
  obtain ⟨U, Ls, c0, s0⟩ := A
  dsimp only [Pt.U, Pt.locs, Pt.cells, Pt.slots] at h1 h2 h3 h4 h5 X hn hPc ⊢
  obtain ⟨m9, methY, cY, hn9, hmY, hcY, -, hlY, -⟩ := Cond.codeWith_spec h2
  cases Option.some.inj (hn9.symm.trans hn)
  obtain ⟨kY, hkY, -⟩ := className_of_methodNamed hn
  have hinitY : kY.init = .initialized := Cond.initialized_spec (findClass_of_methodNamed hn) hkY h3
  have h : At U g.method c below := by rw [hg]; exact X.here
  have hlocals9 : W9 + (maxL + 11) + (headSpec ws rm).room.locals ≤ R.locals := hlocals
  have happ : (headSpec ws rm).appliesLoose y e.platform (U.calling g mk a) = true :=
    Spec.appliesLoose_calling (g := g) h hdg hn hkY hinitY
      (X.room_calling (g := g) (R' := (headSpec ws rm).room) hsize hmY hcY hframes (by rw [hlY]; omega) h4 h5) h1
  obtain ⟨mid, hmid⟩ := h.above
  have hfr : (U.setTop g).frames = (.java g :: mid) ++ below := by rw [State.frames_setTop' g h.top, hmid]; rfl
  obtain ⟨o, s₂, hsteps, -, hend, hq⟩ := Steps.callFree hM p X.admits X.cas X.clock (acts := []) hfr happ hPc trivial
  have hq' : vx_Q Qc XC mc ms free a (U.calling g mk a) o s₂ := hq
  rw [State.frames_setTop' g h.top] at hend
  obtain ⟨g₀, hg0⟩ := Option.isSome_iff_exists.mp h.top
  obtain ⟨r, hr⟩ := State.topJava?_eq_some.mp hg0
  have hr' : (({ U with heap := s₂.heap, slotsUsed := s₂.slotsUsed } : State).setVm s₂.vm).frames = .java g₀ :: r := hr
  rcases hq' with ⟨hqc, L, hfe, hL⟩ | ⟨q, rfl, E, ce, L, hx, hce, hcv, hcl, hW₂, hsm, hL⟩
  · obtain ⟨⟨v, rfl⟩, hW₂, e2, q2, q3, q4, q5, q6⟩ := id hfe
    have e3 : s₂ = ({ (U.calling g mk a).setFrames s₂.frames with heap := s₂.heap, slotsUsed := s₂.slotsUsed } : State).setVm s₂.vm := by
      have : s₂ = ({ s₂ with vm := (U.calling g mk a).vm } : State).setVm s₂.vm := rfl
      rw [e2] at this
      exact this
    obtain ⟨c₂, i₂, len₂, hc₂, hd₂, hf₂⟩ := hend
    have hW' : U.WarmedH s₂.vm := hW₂
    have hcc : c₂ = c := by
      have h1 : s₂.code? g.method = U.code? g.method := by
        rw [State.code?_eq, State.code?_eq, hW'.alike.method?]
      exact Option.some.inj (hc₂.symm.trans (h1.trans h.code))
    subst hcc
    have hlen : len₂ = len := by rw [hdg] at hd₂; cases hd₂; rfl
    subst hlen
    have hs₂ : s₂ = (({ U with heap := s₂.heap, slotsUsed := s₂.slotsUsed } : State).setVm s₂.vm).setTop { g with pc := g.pc + len₂, stack := v.toList ++ g.stack } := by
      refine e3.trans ?_
      rw [hf₂, State.calling_eq h.top, State.setFrames_setFrames, State.setTop_of_frames _ hr', hr]
      rfl
    have hsame : U.sameButNew ({ U with heap := s₂.heap, slotsUsed := s₂.slotsUsed } : State) L mc ms := by
      refine ⟨?_, q2, q3, q4, q5, q6⟩
      obtain ⟨t, ht, -⟩ := State.frames_cons hr
      show ({ U with heap := s₂.heap, slotsUsed := s₂.slotsUsed } : State) = { U.setFrames U.frames with heap := s₂.heap, slotsUsed := s₂.slotsUsed }
      rw [State.setFrames_self ht]
    subst hg
    refine Or.inl ⟨v, ⟨(({ U with heap := s₂.heap, slotsUsed := s₂.slotsUsed } : State).setVm s₂.vm), Ls ++ L, c0 + mc, s0 + ms⟩,
      ⟨X.admits, X.cas, X.clock, X.frames, X.room, X.hears, X.method, X.code, (X.here.setHeapUsed s₂.heap s₂.slotsUsed).setVm hW'.alike, X.tail, State.WarmedH.trans X.warmed hW', X.limits, X.bytes, X.same.trans (hsame.setVm s.vm)⟩,
      ⟨g, mk, s₂, L, rfl, rfl, hqc, rfl, hL, rfl, rfl⟩, ?_⟩
    show Steps p.tables e below _ ((({ U with heap := s₂.heap, slotsUsed := s₂.slotsUsed } : State).setVm s₂.vm).setTop { g with pc := g.pc + len₂, stack := v.toList ++ g.stack })
    rw [← hs₂]
    exact hsteps
  · obtain ⟨e2, q2, q3, q4, q5, q6⟩ := id hsm
    have e3 : s₂ = ({ (U.calling g mk a).setFrames s₂.frames with heap := s₂.heap, slotsUsed := s₂.slotsUsed } : State).setVm s₂.vm := by
      have : s₂ = ({ s₂ with vm := (U.calling g mk a).vm } : State).setVm s₂.vm := rfl
      rw [e2] at this
      exact this
    have hf₂ : s₂.frames = .throwing q :: .java g :: U.frames.tail := hend
    have hW' : U.WarmedH s₂.vm := hW₂
    have hs₂ : s₂ = ((({ U with heap := s₂.heap, slotsUsed := s₂.slotsUsed } : State).setVm s₂.vm).setTop g).pushFrame (.throwing q) := by
      refine e3.trans ?_
      rw [hf₂, State.calling_eq h.top, State.setFrames_setFrames, State.pushFrame, State.frames_setTop _ hr', State.setTop_of_frames _ hr', State.setFrames_setFrames, hr]
      rfl
    have hsame : U.sameButNew ({ U with heap := s₂.heap, slotsUsed := s₂.slotsUsed } : State) L mc ms := by
      refine ⟨?_, q2, q3, q4, q5, q6⟩
      obtain ⟨t, ht, -⟩ := State.frames_cons hr
      show ({ U with heap := s₂.heap, slotsUsed := s₂.slotsUsed } : State) = { U.setFrames U.frames with heap := s₂.heap, slotsUsed := s₂.slotsUsed }
      rw [State.setFrames_self ht]
    subst hg
    refine Or.inr ⟨q, ⟨(({ U with heap := s₂.heap, slotsUsed := s₂.slotsUsed } : State).setVm s₂.vm), Ls ++ L, c0 + mc, s0 + ms⟩,
      ⟨X.admits, X.cas, X.clock, X.frames, X.room, X.hears, X.method, X.code, (X.here.setHeapUsed s₂.heap s₂.slotsUsed).setVm hW'.alike, X.tail, State.WarmedH.trans X.warmed hW', X.limits, X.bytes, X.same.trans (hsame.setVm s.vm)⟩,
      ⟨g, mk, s₂, L, E, ce, rfl, rfl, hx, hce, hcv, hcl, rfl, hL, rfl, rfl⟩, ?_⟩
    show Steps p.tables e below _ (((({ U with heap := s₂.heap, slotsUsed := s₂.slotsUsed } : State).setVm s₂.vm).setTop g).pushFrame (.throwing q))
    rw [← hs₂]
    exact hsteps
end
variable {p : Program} {l : Launch} {e : Env} {R : Room} {s : State} {m : MethodId} {args : Array Value} {below : List Frame} {meth : Method} {c : Code} {T : State} {H : Heap} {locs : List Loc} {cells slots : Nat}
theorem vx_callVX (X : Stand p l e R s m args below meth c T locs cells slots) (hexec : p.tables.exec = Jvm.exec) {own C : String} {index : Nat} {y : MethodName} {bytes : ByteArray} {maxL : Nat} {ret : Option FieldType} {hh : List (Nat × Nat × Nat × Nat)}
    (hown : s.vm.findClass own = some m.cls) (hlink : (Cond.methodLink own index y).before args s = true) (hinst : (Cond.instanceMethod y).before args s = true) (hsel : (Cond.selects C y y).before args s = true)
    (hcode : (Cond.codeWith y bytes maxL ret hh).before args s = true) (hy : y.cls ≠ "java/lang/invoke/MethodHandle" ∧ y.cls ≠ "java/lang/invoke/VarHandle")
    {W9 : Nat} {Pre : Pt → Array Value → Prop} {Post : Pt → Array Value → Option Value → Pt → Prop} {PostX : Pt → Array Value → Addr → Pt → Prop} (hK : vx_Back l R p e below s args y 3 W9 Pre Post PostX)
    {b : Addr} {cellB : Cell} (hcell : T.heap[b]? = some cellB) (hobj : cellB.vm.isStatics = false) (hcls : s.vm.findClass C = some cellB.cls)
    {g : JFrame} (hg : g.method = m) (hsize : g.locals.size = c.maxLocals) {argsL rest : List Value} (hlen : ∀ sig, parseMethodDescriptor y.desc = some sig → argsL.length = sig.parameters.length)
    (hstack : g.stack = argsL.reverse ++ .ref b :: rest) (hW : 2 * g.monitorRoom + (rest.map fun v => v.category).sum ≤ W9) (hdg : decode c.code g.pc = .ok (.invokevirtual index, 3))
    (hpre : ∀ vm₁, s.WarmedH vm₁ → Pre ⟨T.setVm vm₁, locs, cells, slots⟩ (Value.ref b :: argsL).toArray) :
    (∃ (v : Option Value) (vm₁ : Vm) (B : Pt), s.WarmedH vm₁ ∧ Stand p l e R s m args below meth c B.U B.locs B.cells B.slots ∧ Post ⟨T.setVm vm₁, locs, cells, slots⟩ (Value.ref b :: argsL).toArray v B ∧
      ∀ target, Steps p.tables e below (B.U.setTop { g with pc := g.pc + 3, stack := v.toList ++ rest }) target → Steps p.tables e below (T.setTop g) target) ∨
    (∃ (q : Addr) (vm₁ : Vm) (B : Pt), s.WarmedH vm₁ ∧ Stand p l e R s m args below meth c B.U B.locs B.cells B.slots ∧ PostX ⟨T.setVm vm₁, locs, cells, slots⟩ (Value.ref b :: argsL).toArray q B ∧
      Steps p.tables e below (T.setTop g) ((B.U.setTop { g with stack := rest }).pushFrame (.throwing q))) := by
  obtain ⟨mk, methM, hnamed, hmethM, hstM, habM⟩ := Cond.instanceMethod_spec hinst
  obtain ⟨m8, methM', cM, hn8, hmethM', -, -, -, -, -, -, hsigM⟩ := Cond.codeWith_spec hcode
  cases Option.some.inj (hn8.symm.trans hnamed)
  cases hmethM.symm.trans hmethM'
  obtain ⟨c2, r2, m2, q1, q2, q3, q4, kP, hkP, hkPi⟩ := Cond.selects_spec hsel
  cases hcls.symm.trans q1
  cases (State.methodFound?_of_named hnamed hy).symm.trans q2
  cases hnamed.symm.trans q3
  have hselP : selectMethod e.platform s.vm cellB.cls mk = .method mk := by rw [Launch.admits_selectMethod X.admits]; exact q4
  obtain ⟨vm₁, X₁, hstep₁⟩ := X.invokevirtual hexec hown hlink hnamed hmethM hstM hkP hkPi hy (a := b) (cell := cellB) hcell
    (fun z h => by rw [h] at hobj; cases hobj) hselP hmethM habM hkP hkPi (g := g) hg (argsL := argsL) (rest := rest) (hlen _ hsigM) hstack hdg
  rcases hK m meth c ⟨T.setVm vm₁, locs, cells, slots⟩ { g with stack := rest } (.invokevirtual index) mk (Value.ref b :: argsL).toArray X₁ hg hsize hdg hW (X₁.named hnamed) (hpre vm₁ X₁.warmed) with ⟨v, B, X', hpost, hsteps⟩ | ⟨q, B, X', hpost, hsteps⟩
  · exact Or.inl ⟨v, vm₁, B, X₁.warmed, X', hpost, fun target h => hstep₁ _ fun acts => by rw [doInvoke_state]; exact hsteps.trans h⟩
  · exact Or.inr ⟨q, vm₁, B, X₁.warmed, X', hpost, hstep₁ _ fun acts => by rw [doInvoke_state]; exact hsteps⟩
theorem vx_callSX (X : Stand p l e R s m args below meth c T locs cells slots) (hexec : p.tables.exec = Jvm.exec) {own : String} {index : Nat} {y : MethodName} {bytes : ByteArray} {maxL : Nat} {ret : Option FieldType} {hh : List (Nat × Nat × Nat × Nat)}
    (hown : s.vm.findClass own = some m.cls) (hlink : (Cond.methodLink own index y).before args s = true) (hstat : (Cond.static y).before args s = true) (hinit : (Cond.initialized y.cls).before args s = true)
    (hcode : (Cond.codeWith y bytes maxL ret hh).before args s = true) (hy : y.cls ≠ "java/lang/invoke/MethodHandle" ∧ y.cls ≠ "java/lang/invoke/VarHandle")
    {W9 : Nat} {Pre : Pt → Array Value → Prop} {Post : Pt → Array Value → Option Value → Pt → Prop} {PostX : Pt → Array Value → Addr → Pt → Prop} (hK : vx_Back l R p e below s args y 3 W9 Pre Post PostX)
    {g : JFrame} (hg : g.method = m) (hsize : g.locals.size = c.maxLocals) {argsL rest : List Value} (hlen : ∀ sig, parseMethodDescriptor y.desc = some sig → argsL.length = sig.parameters.length)
    (hstack : g.stack = argsL.reverse ++ rest) (hW : 2 * g.monitorRoom + (rest.map fun v => v.category).sum ≤ W9) (hdg : decode c.code g.pc = .ok (.invokestatic index, 3))
    (hpre : ∀ vm₁, s.WarmedH vm₁ → Pre ⟨T.setVm vm₁, locs, cells, slots⟩ argsL.toArray) :
    (∃ (v : Option Value) (vm₁ : Vm) (B : Pt), s.WarmedH vm₁ ∧ Stand p l e R s m args below meth c B.U B.locs B.cells B.slots ∧ Post ⟨T.setVm vm₁, locs, cells, slots⟩ argsL.toArray v B ∧
      ∀ target, Steps p.tables e below (B.U.setTop { g with pc := g.pc + 3, stack := v.toList ++ rest }) target → Steps p.tables e below (T.setTop g) target) ∨
    (∃ (q : Addr) (vm₁ : Vm) (B : Pt), s.WarmedH vm₁ ∧ Stand p l e R s m args below meth c B.U B.locs B.cells B.slots ∧ PostX ⟨T.setVm vm₁, locs, cells, slots⟩ argsL.toArray q B ∧
      Steps p.tables e below (T.setTop g) ((B.U.setTop { g with stack := rest }).pushFrame (.throwing q))) := by
  obtain ⟨mk, methM, cM, hnamed, hmethM, -, -, -, -, -, -, hsigM⟩ := Cond.codeWith_spec hcode
  have hstatic : methM.isStatic = true := Cond.static_spec hnamed hmethM hstat
  obtain ⟨kP, hkP, -⟩ := className_of_methodNamed hnamed
  have hinitP : kP.init = .initialized := Cond.initialized_spec (findClass_of_methodNamed hnamed) hkP hinit
  obtain ⟨vm₁, X₁, hstep₁⟩ := X.invokestatic hexec hown hlink hnamed hmethM hstatic hkP hinitP hy (g := g) hg (argsL := argsL) (rest := rest) (hlen _ hsigM) hstack hdg
  rcases hK m meth c ⟨T.setVm vm₁, locs, cells, slots⟩ { g with stack := rest } (.invokestatic index) mk argsL.toArray X₁ hg hsize hdg hW (X₁.named hnamed) (hpre vm₁ X₁.warmed) with ⟨v, B, X', hpost, hsteps⟩ | ⟨q, B, X', hpost, hsteps⟩
  · exact Or.inl ⟨v, vm₁, B, X₁.warmed, X', hpost, fun target h => hstep₁ _ fun acts => by rw [doInvoke_state]; exact hsteps.trans h⟩
  · exact Or.inr ⟨q, vm₁, B, X₁.warmed, X', hpost, hstep₁ _ fun acts => by rw [doInvoke_state]; exact hsteps⟩
theorem vx_callVW (X : Stand p l e R s m args below meth c T locs cells slots) (hexec : p.tables.exec = Jvm.exec) {own C : String} {index : Nat} {y : MethodName} {bytes : ByteArray} {maxL : Nat} {ret : Option FieldType} {hh : List (Nat × Nat × Nat × Nat)}
    (hown : s.vm.findClass own = some m.cls) (hlink : (Cond.methodLink own index y).before args s = true) (hinst : (Cond.instanceMethod y).before args s = true) (hsel : (Cond.selects C y y).before args s = true)
    (hcode : (Cond.codeWith y bytes maxL ret hh).before args s = true) (hy : y.cls ≠ "java/lang/invoke/MethodHandle" ∧ y.cls ≠ "java/lang/invoke/VarHandle")
    {W9 : Nat} {Pre : Pt → Array Value → Prop} {Post : Pt → Array Value → Option Value → Pt → Prop} (hK : Back l R p e below s args y 3 W9 Pre Post)
    {b : Addr} {cellB : Cell} (hcell : T.heap[b]? = some cellB) (hobj : cellB.vm.isStatics = false) (hcls : s.vm.findClass C = some cellB.cls)
    {g : JFrame} (hg : g.method = m) (hsize : g.locals.size = c.maxLocals) {argsL rest : List Value} (hlen : ∀ sig, parseMethodDescriptor y.desc = some sig → argsL.length = sig.parameters.length)
    (hstack : g.stack = argsL.reverse ++ .ref b :: rest) (hW : 2 * g.monitorRoom + (rest.map fun v => v.category).sum ≤ W9) (hdg : decode c.code g.pc = .ok (.invokevirtual index, 3))
    (hpre : ∀ vm₁, s.WarmedH vm₁ → Pre ⟨T.setVm vm₁, locs, cells, slots⟩ (Value.ref b :: argsL).toArray) :
    ∃ (v : Option Value) (vm₁ : Vm) (B : Pt), s.WarmedH vm₁ ∧ Stand p l e R s m args below meth c B.U B.locs B.cells B.slots ∧ Post ⟨T.setVm vm₁, locs, cells, slots⟩ (Value.ref b :: argsL).toArray v B ∧
      ∀ target, Steps p.tables e below (B.U.setTop { g with pc := g.pc + 3, stack := v.toList ++ rest }) target → Steps p.tables e below (T.setTop g) target := by
  obtain ⟨mk, methM, hnamed, hmethM, hstM, habM⟩ := Cond.instanceMethod_spec hinst
  obtain ⟨m8, methM', cM, hn8, hmethM', -, -, -, -, -, -, hsigM⟩ := Cond.codeWith_spec hcode
  cases Option.some.inj (hn8.symm.trans hnamed)
  cases hmethM.symm.trans hmethM'
  obtain ⟨c2, r2, m2, q1, q2, q3, q4, kP, hkP, hkPi⟩ := Cond.selects_spec hsel
  cases hcls.symm.trans q1
  cases (State.methodFound?_of_named hnamed hy).symm.trans q2
  cases hnamed.symm.trans q3
  have hselP : selectMethod e.platform s.vm cellB.cls mk = .method mk := by rw [Launch.admits_selectMethod X.admits]; exact q4
  obtain ⟨vm₁, X₁, hstep₁⟩ := X.invokevirtual hexec hown hlink hnamed hmethM hstM hkP hkPi hy (a := b) (cell := cellB) hcell
    (fun z h => by rw [h] at hobj; cases hobj) hselP hmethM habM hkP hkPi (g := g) hg (argsL := argsL) (rest := rest) (hlen _ hsigM) hstack hdg
  obtain ⟨v, B, X', hpost, hsteps⟩ := hK m meth c ⟨T.setVm vm₁, locs, cells, slots⟩ { g with stack := rest } (.invokevirtual index) mk (Value.ref b :: argsL).toArray X₁ hg hsize hdg hW (X₁.named hnamed) (hpre vm₁ X₁.warmed)
  exact ⟨v, vm₁, B, X₁.warmed, X', hpost, fun target h => hstep₁ _ fun acts => by rw [doInvoke_state]; exact hsteps.trans h⟩
abbrev vx_CVW (R : Room) (s : State) (args : Array Value) (own C : String) (index : Nat) (y : MethodName) (bytes : ByteArray) (maxL : Nat) (ret : Option FieldType) (hh : List (Nat × Nat × Nat × Nat)) (ws : List Cond) (rm : Room) (mc ms n : Nat) : Prop :=
  (rm.cells = mc ∧ rm.slots = ms ∧ rm.frames + 1 ≤ R.frames ∧ 8 + (maxL + 11) + rm.locals ≤ R.locals ∧ (∀ w ∈ ws, ∀ (a' : Array Value) (U : State), s.WarmedH U.vm → w.before a' U = true) ∧ Cond.codeWith y bytes maxL ret hh ∈ ws) ∧
  (Cond.codeWith y bytes maxL ret hh).before args s = true ∧ (Cond.initialized y.cls).before args s = true ∧ (y.cls ≠ "java/lang/invoke/MethodHandle" ∧ y.cls ≠ "java/lang/invoke/VarHandle") ∧
  (∀ sig, parseMethodDescriptor y.desc = some sig → n = sig.parameters.length) ∧ (Cond.methodLink own index y).before args s = true ∧ (Cond.instanceMethod y).before args s = true ∧ (Cond.selects C y y).before args s = true
theorem vx_cwVW {own C : String} {index maxL mc ms : Nat} {y : MethodName} {bytes : ByteArray} {ret : Option FieldType} {hh : List (Nat × Nat × Nat × Nat)} {Ts ws ws' : List Cond} {rm : Room} (n : Nat) (ht : ∀ w ∈ Ts, w.before args s = true) (hT : GoodIn Ts (wsV own index C y ws)) (hw : ws = Cond.codeWith y bytes maxL ret hh :: ws') (hrc : rm.cells = mc) (hrs : rm.slots = ms)
    (hd : y.cls = C ∧ y.cls ≠ "java/lang/invoke/MethodHandle" ∧ y.cls ≠ "java/lang/invoke/VarHandle" ∧ (parseMethodDescriptor y.desc).map (fun d => d.parameters.length) = some n) (hR : rm.frames + 1 ≤ R.frames ∧ 8 + (maxL + 11) + rm.locals ≤ R.locals) :
    vx_CVW R s args own C index y bytes maxL ret hh ws rm mc ms n := by
  obtain ⟨hC, hd⟩ := hd
  subst hC
  have ok : ∀ w ∈ wsV own index y.cls y ws, w.before args s = true := fun w h => ht w (hT w h).1
  have hG : GoodIn Ts ws := fun w h => hT w (by unfold wsV; exact List.mem_append_right _ h)
  have hc : Cond.codeWith y bytes maxL ret hh ∈ ws := by rw [hw]; exact List.mem_cons_self
  refine ⟨⟨hrc, hrs, hR.1, hR.2, pay_in ht hG, hc⟩, ht _ (hG _ hc).1, ok _ (by simp [wsV]), ⟨hd.1, hd.2.1⟩, fun sig h => ?_, ok _ (by simp [wsV]), ok _ (by simp [wsV]), ok _ (by simp [wsV])⟩
  have h2 := hd.2.2
  rw [h] at h2
  exact (Option.some.inj h2).symm
theorem vx_runVW {y : MethodName} {bytes cc : ByteArray} {maxL nL mc ms n index : Nat} {ret : Option FieldType} {hh : List (Nat × Nat × Nat × Nat)} {ws : List Cond} {rm : Room} {Pc : Array Value → State → Prop} {Qc : Array Value → State → Outcome → State → Prop} {free : Addr → Prop} {Ts : List Cond} {own C : String} {b : Addr} {As rest : List Value} {g : JFrame}
    (S : CallFix p m c cc nL s args Ts own) (hM : Met l y ws rm Pc Qc mc ms free) (cw : vx_CVW R s args own C index y bytes maxL ret hh ws rm mc ms n) (hp : PreV s H C b Pc As)
    (hg : g.method = m) (hn : As.length = n) (hsize : g.locals.size = nL) (hstack : g.stack = As.reverse ++ .ref b :: rest) (hW : 2 * g.monitorRoom + (rest.map fun v => v.category).sum ≤ 8) (hdg : decode cc g.pc = .ok (.invokevirtual index, 3)) (hf : cells + mc ≤ R.cells ∧ slots + ms ≤ R.slots) :
    va_Run p l e R s m args below meth c H locs cells slots mc ms g rest (Qc (Value.ref b :: As).toArray) free := by
  obtain ⟨⟨hrc, hrs, hfr, hlo, hws, hcw⟩, hcode, hini, hy, hlen, hl, hin, hse⟩ := cw
  have hK : Back l R p e below s args y 3 8 (PreOf R mc ms Pc) (PostOf Qc mc ms free) := va_backW (hh := hh) (bytes := bytes) (maxL := maxL) (ret := ret) hM hp.1 hrc hrs hfr hlo hws hcw (fun a' U hW => word_at hW (Or.inl (by first | rfl | simp [Cond.onTables, Cond.keeps, Cond.steady])) hini)
  obtain ⟨hx, hb, hml, ho, -⟩ := S
  obtain ⟨-, ⟨cellB, hcB, hoB, hclB⟩, hPc⟩ := hp
  intro T hT X
  obtain ⟨v, vm₁, ⟨U', l2, c2, s2⟩, hW₁, X', ⟨g', mk, t, L, e1, e2, hq, h1, hL, h2, h3⟩, st⟩ := vx_callVW X hx (C := C) (hh := hh) (bytes := bytes) (maxL := maxL) (ret := ret) ho hl hin hse hcode hy hK (by rw [hT]; exact hcB) hoB hclB hg (hsize.trans hml.symm) (argsL := As) (rest := rest) (fun sig h => hn.trans (hlen sig h)) hstack hW (by rw [hb]; exact hdg)
    (fun vm₁ hW₁ => ⟨hf.1, hf.2, hPc (T.setVm vm₁) hT hW₁⟩)
  dsimp only [Pt.U, Pt.locs, Pt.cells, Pt.slots] at X' e1 e2 h1 h2 h3 st
  subst h1; subst h2; subst h3
  exact ⟨v, (T.setVm vm₁).calling g' mk (Value.ref b :: As).toArray, t, U', L, hT, X', hL, e1, e2, hq, st⟩
section
variable {y : MethodName} {bytes cc : ByteArray} {maxL nL mc ms n index : Nat} {ret : Option FieldType} {ws : List Cond} {rm : Room} {Pc : Array Value → State → Prop} {Qc : Array Value → State → Outcome → State → Prop} {XC : String → State → State → Prop} {free : Addr → Prop} {Ts : List Cond} {own C : String} {b : Addr} {As rest : List Value} {g : JFrame}
theorem vx_runVX {hh : List (Nat × Nat × Nat × Nat)} (S : CallFix p m c cc nL s args Ts own) (hM : vx_Met l y ws rm Pc Qc XC mc ms free) (cw : vx_CVW R s args own C index y bytes maxL ret hh ws rm mc ms n) (hp : PreV s H C b Pc As)
    (hg : g.method = m) (hn : As.length = n) (hsize : g.locals.size = nL) (hstack : g.stack = As.reverse ++ .ref b :: rest) (hW : 2 * g.monitorRoom + (rest.map fun v => v.category).sum ≤ 8) (hdg : decode cc g.pc = .ok (.invokevirtual index, 3)) (hf : cells + mc ≤ R.cells ∧ slots + ms ≤ R.slots) :
    vx_Run p l e R s m args below meth c H locs cells slots mc ms g rest (Qc (Value.ref b :: As).toArray) XC free := by
  obtain ⟨⟨hrc, hrs, hfr, hlo, hws, hcw⟩, hcode, hini, hy, hlen, hl, hin, hse⟩ := cw
  have hK : vx_Back l R p e below s args y 3 8 (PreOf R mc ms Pc) (PostOf Qc mc ms free) (vx_Post XC mc ms free) := vx_backW (hh := hh) (bytes := bytes) (maxL := maxL) (ret := ret) hM hp.1 hrc hrs hfr hlo hws hcw (fun a' U hW => word_at hW (Or.inl (by first | rfl | simp [Cond.onTables, Cond.keeps, Cond.steady])) hini)
  obtain ⟨hx, hb, hml, ho, -⟩ := S
  obtain ⟨-, ⟨cellB, hcB, hoB, hclB⟩, hPc⟩ := hp
  intro T hT X
  rcases vx_callVX X hx (C := C) (hh := hh) (bytes := bytes) (maxL := maxL) (ret := ret) ho hl hin hse hcode hy hK (by rw [hT]; exact hcB) hoB hclB hg (hsize.trans hml.symm) (argsL := As) (rest := rest) (fun sig h => hn.trans (hlen sig h)) hstack hW (by rw [hb]; exact hdg)
    (fun vm₁ hW₁ => ⟨hf.1, hf.2, hPc (T.setVm vm₁) hT hW₁⟩) with ⟨v, vm₁, ⟨U', l2, c2, s2⟩, hW₁, X', ⟨g', mk, t, L, e1, e2, hq, h1, hL, h2, h3⟩, st⟩ | ⟨q, vm₁, ⟨U', l2, c2, s2⟩, hW₁, X', ⟨g', mk, t, L, E, ce, e1, e2, hq, hce, hcv, hcl, h1, hL, h2, h3⟩, st⟩
  · dsimp only [Pt.U, Pt.locs, Pt.cells, Pt.slots] at X' e1 e2 h1 h2 h3 st
    subst h1; subst h2; subst h3
    exact Or.inl ⟨v, (T.setVm vm₁).calling g' mk (Value.ref b :: As).toArray, t, U', L, hT, X', hL, e1, e2, hq, st⟩
  · dsimp only [Pt.U, Pt.locs, Pt.cells, Pt.slots] at X' e1 e2 h1 h2 h3 st hcl
    subst h1; subst h2; subst h3
    exact Or.inr ⟨q, (T.setVm vm₁).calling g' mk (Value.ref b :: As).toArray, t, U', L, E, ce, hT, X', hL, e1, e2, hq, hce, hcv, vx_cls hW₁ hcl, st⟩
theorem vx_runSX {hh : List (Nat × Nat × Nat × Nat)} (S : CallFix p m c cc nL s args Ts own) (hM : vx_Met l y ws rm Pc Qc XC mc ms free) (cw : vx_CSW R s args own index y bytes maxL ret hh ws rm mc ms n) (hp : PreS s H Pc As)
    (hg : g.method = m) (hn : As.length = n) (hsize : g.locals.size = nL) (hstack : g.stack = As.reverse ++ rest) (hW : 2 * g.monitorRoom + (rest.map fun v => v.category).sum ≤ 8) (hdg : decode cc g.pc = .ok (.invokestatic index, 3)) (hf : cells + mc ≤ R.cells ∧ slots + ms ≤ R.slots) :
    vx_Run p l e R s m args below meth c H locs cells slots mc ms g rest (Qc As.toArray) XC free := by
  obtain ⟨⟨hrc, hrs, hfr, hlo, hws, hcw⟩, hcode, hini, hy, hlen, hl, hstt⟩ := cw
  have hK : vx_Back l R p e below s args y 3 8 (PreOf R mc ms Pc) (PostOf Qc mc ms free) (vx_Post XC mc ms free) := vx_backW (hh := hh) (bytes := bytes) (maxL := maxL) (ret := ret) hM hp.1 hrc hrs hfr hlo hws hcw (fun a' U hW => word_at hW (Or.inl (by first | rfl | simp [Cond.onTables, Cond.keeps, Cond.steady])) hini)
  obtain ⟨hx, hb, hml, ho, -⟩ := S
  intro T hT X
  rcases vx_callSX X hx (hh := hh) (bytes := bytes) (maxL := maxL) (ret := ret) ho hl hstt hini hcode hy hK hg (hsize.trans hml.symm) (argsL := As) (rest := rest) (fun sig h => hn.trans (hlen sig h)) hstack hW (by rw [hb]; exact hdg)
    (fun vm₁ hW₁ => ⟨hf.1, hf.2, hp.2 (T.setVm vm₁) hT hW₁⟩) with ⟨v, vm₁, ⟨U', l2, c2, s2⟩, hW₁, X', ⟨g', mk, t, L, e1, e2, hq, h1, hL, h2, h3⟩, st⟩ | ⟨q, vm₁, ⟨U', l2, c2, s2⟩, hW₁, X', ⟨g', mk, t, L, E, ce, e1, e2, hq, hce, hcv, hcl, h1, hL, h2, h3⟩, st⟩
  · dsimp only [Pt.U, Pt.locs, Pt.cells, Pt.slots] at X' e1 e2 h1 h2 h3 st
    subst h1; subst h2; subst h3
    exact Or.inl ⟨v, (T.setVm vm₁).calling g' mk As.toArray, t, U', L, hT, X', hL, e1, e2, hq, st⟩
  · dsimp only [Pt.U, Pt.locs, Pt.cells, Pt.slots] at X' e1 e2 h1 h2 h3 st hcl
    subst h1; subst h2; subst h3
    exact Or.inr ⟨q, (T.setVm vm₁).calling g' mk As.toArray, t, U', L, E, ce, hT, X', hL, e1, e2, hq, hce, hcv, vx_cls hW₁ hcl, st⟩
end
end VXH
theorem vx_ofWH {l : Launch} {y : MethodName} {ws ws' : List Cond} {rm : Room} {Pc : Array Value → State → Prop} {Qc : Array Value → State → Outcome → State → Prop} {XC : String → State → State → Prop} {mc ms : Nat} {free : Addr → Prop} {cc : ByteArray} {maxL : Nat} {ret : Option FieldType} {hh : List (Nat × Nat × Nat × Nat)}
    (hy : plainName y.cls = true) (hw : ws = Cond.codeWith y cc maxL ret hh :: ws')
    (body : ∀ p e s m args below meth c s₁, BodyLoose p l y (headSpec ws rm) cc maxL ret e s m args below meth c s₁ → c.maxLocals = maxL → Pc args s →
      W p l e (headSpec ws rm).room s m args below meth c s.heap [] 0 0 (vx_MQ below Qc XC args s mc ms free) (entryFrame m args maxL)) : vx_Met l y ws rm Pc Qc XC mc ms free := by
  refine MetFree.of_bodyS (code := cc) (maxLocals := maxL) (ret := ret) hy ?_ ?_
  · intro args s m h hn
    obtain ⟨m9, meth, c, hn9, h1, h2, h3, h4, -, h5, h6, -⟩ := Cond.codeWith_spec (atoms_spec (ws := ws) h _ (by rw [hw]; exact List.mem_cons_self))
    cases hn.symm.trans hn9
    exact ⟨meth, c, h1, h2, h3, h4, h5, h6⟩
  · intro p e s m args below meth c s₁ B hml hP _
    have hh0 : s₁.heap = s.heap := by rw [B.state]; rfl
    obtain ⟨t, a1, o, b1, b2, b3⟩ := body p e s m args below meth c s₁ B hml hP s₁ hh0 (Stand.of_body B)
    exact ⟨t, o, a1, b1, b2, b3⟩
/-! ===== END ===== -/
end
section
/-! ===== BEGIN printed: names, fields, word lists, decode rows ===== -/
def RX0 : String := "RingGroup$Log"
def TX0 : u_T := fun k => match k with
  | 0 => ("RingGroup$Log", "cells", "[J", true)
  | _ => ("RingGroup$Log", "ever", "I", false)
def tyX0 : Nat → FieldType := fun k => match k with
  | 0 => .array .long
  | _ => .int
abbrev wsX00 : List Cond := u_ws RX0 TX0 2
theorem nmX0 : ∀ a, a < 2 → ∀ b, b < 2 → a ≠ b → (TX0 a).2.1 ≠ (TX0 b).2.1 := by decide +kernel
theorem tyX0_ok : ∀ k, k < 2 → parseFieldDescriptor (TX0 k).2.2.1 = some (tyX0 k) := by decide +kernel
abbrev cX0_init : ByteArray := prog_2_method_1_code
def yX0_init : MethodName := ⟨RX0, "<init>", "()V"⟩
abbrev cX0_add : ByteArray := prog_2_method_2_code
def yX0_add : MethodName := ⟨RX0, "add", "(IIIIJI)V"⟩
abbrev cX0_size : ByteArray := prog_2_method_3_code
def yX0_size : MethodName := ⟨RX0, "size", "()I"⟩
abbrev cX0_cell : ByteArray := prog_2_method_4_code
def yX0_cell : MethodName := ⟨RX0, "cell", "(II)J"⟩
def RX1 : String := "RingGroup$Message"
def TX1 : u_T := fun k => match k with
  | 0 => ("RingGroup$Message", "sender", "I", true)
  | 1 => ("RingGroup$Message", "key", "I", true)
  | 2 => ("RingGroup$Message", "value", "J", true)
  | _ => ("RingGroup$Message", "safe", "Z", true)
def tyX1 : Nat → FieldType := fun k => match k with
  | 0 => .int
  | 1 => .int
  | 2 => .long
  | _ => .boolean
abbrev wsX10 : List Cond := u_ws RX1 TX1 4
theorem nmX1 : ∀ a, a < 4 → ∀ b, b < 4 → a ≠ b → (TX1 a).2.1 ≠ (TX1 b).2.1 := by decide +kernel
theorem tyX1_ok : ∀ k, k < 4 → parseFieldDescriptor (TX1 k).2.2.1 = some (tyX1 k) := by decide +kernel
abbrev cX1_init : ByteArray := prog_3_method_1_code
def yX1_init : MethodName := ⟨RX1, "<init>", "(IIJZ)V"⟩
def RX2 : String := "RingGroup$Node"
def TX2 : u_T := fun k => match k with
  | 0 => ("RingGroup$Node", "number", "I", true)
  | 1 => ("RingGroup$Node", "pending", "LRingGroup$Pending;", true)
  | 2 => ("RingGroup$Node", "replica", "LRingGroup$Replica;", true)
  | 3 => ("RingGroup$Node", "log", "LRingGroup$Log;", true)
  | 4 => ("RingGroup$Node", "has", "[LRingGroup$Message;", true)
  | 5 => ("RingGroup$Node", "up", "Z", false)
  | 6 => ("RingGroup$Node", "group", "I", false)
  | 7 => ("RingGroup$Node", "ring", "LRingGroup$Ring;", false)
  | 8 => ("RingGroup$Node", "highest", "I", false)
  | 9 => ("RingGroup$Node", "voteNumber", "I", false)
  | 10 => ("RingGroup$Node", "voteMembers", "I", false)
  | 11 => ("RingGroup$Node", "delivered", "I", false)
  | _ => ("RingGroup$Node", "safeTo", "I", false)
def tyX2 : Nat → FieldType := fun k => match k with
  | 0 => .int
  | 1 => .object "RingGroup$Pending"
  | 2 => .object "RingGroup$Replica"
  | 3 => .object "RingGroup$Log"
  | 4 => .array (.object "RingGroup$Message")
  | 5 => .boolean
  | 6 => .int
  | 7 => .object "RingGroup$Ring"
  | 8 => .int
  | 9 => .int
  | 10 => .int
  | 11 => .int
  | _ => .int
abbrev wsX20 : List Cond := u_ws RX2 TX2 13
theorem nmX2 : ∀ a, a < 13 → ∀ b, b < 13 → a ≠ b → (TX2 a).2.1 ≠ (TX2 b).2.1 := by decide +kernel
theorem tyX2_ok : ∀ k, k < 13 → parseFieldDescriptor (TX2 k).2.2.1 = some (tyX2 k) := by decide +kernel
abbrev cX2_init : ByteArray := prog_4_method_1_code
def yX2_init : MethodName := ⟨RX2, "<init>", "(IILRingGroup$Ring;)V"⟩
abbrev cX2_isOfPrimary : ByteArray := prog_4_method_2_code
def yX2_isOfPrimary : MethodName := ⟨RX2, "isOfPrimary", "()Z"⟩
abbrev cX2_isAheadOf : ByteArray := prog_4_method_3_code
def yX2_isAheadOf : MethodName := ⟨RX2, "isAheadOf", "(LRingGroup$Node;)Z"⟩
abbrev cX2_full : ByteArray := prog_4_method_4_code
def yX2_full : MethodName := ⟨RX2, "full", "()I"⟩
abbrev cX2_receive : ByteArray := prog_4_method_5_code
def yX2_receive : MethodName := ⟨RX2, "receive", "(ILRingGroup$Message;)V"⟩
abbrev cX2_deliverInTurn : ByteArray := prog_4_method_6_code
def yX2_deliverInTurn : MethodName := ⟨RX2, "deliverInTurn", "()I"⟩
abbrev cX2_deliverLeft : ByteArray := prog_4_method_7_code
def yX2_deliverLeft : MethodName := ⟨RX2, "deliverLeft", "(I)V"⟩
abbrev cX2_tell : ByteArray := prog_4_method_8_code
def yX2_tell : MethodName := ⟨RX2, "tell", "(ILRingGroup$Message;)V"⟩
abbrev cX2_leaveRing : ByteArray := prog_4_method_9_code
def yX2_leaveRing : MethodName := ⟨RX2, "leaveRing", "(LRingGroup$Ring;)V"⟩
abbrev cX2_joinRing : ByteArray := prog_4_method_10_code
def yX2_joinRing : MethodName := ⟨RX2, "joinRing", "(LRingGroup$Ring;Z)V"⟩
def RX3 : String := "RingGroup$Pending"
def TX3 : u_T := fun k => match k with
  | 0 => ("RingGroup$Pending", "waiting", "[LRingGroup$Message;", true)
  | _ => ("RingGroup$Pending", "count", "I", false)
def tyX3 : Nat → FieldType := fun k => match k with
  | 0 => .array (.object "RingGroup$Message")
  | _ => .int
abbrev wsX30 : List Cond := u_ws RX3 TX3 2
theorem nmX3 : ∀ a, a < 2 → ∀ b, b < 2 → a ≠ b → (TX3 a).2.1 ≠ (TX3 b).2.1 := by decide +kernel
theorem tyX3_ok : ∀ k, k < 2 → parseFieldDescriptor (TX3 k).2.2.1 = some (tyX3 k) := by decide +kernel
abbrev cX3_init : ByteArray := prog_5_method_1_code
def yX3_init : MethodName := ⟨RX3, "<init>", "()V"⟩
abbrev cX3_isFull : ByteArray := prog_5_method_2_code
def yX3_isFull : MethodName := ⟨RX3, "isFull", "()Z"⟩
abbrev cX3_put : ByteArray := prog_5_method_3_code
def yX3_put : MethodName := ⟨RX3, "put", "(LRingGroup$Message;)I"⟩
abbrev cX3_takeFirst : ByteArray := prog_5_method_4_code
def yX3_takeFirst : MethodName := ⟨RX3, "takeFirst", "()LRingGroup$Message;"⟩
abbrev cX3_drop : ByteArray := prog_5_method_5_code
def yX3_drop : MethodName := ⟨RX3, "drop", "()V"⟩
def RX4 : String := "RingGroup$Replica"
def TX4 : u_T := fun k => match k with
  | 0 => ("RingGroup$Replica", "values", "[J", true)
  | 1 => ("RingGroup$Replica", "kept", "[LRingGroup$Message;", true)
  | 2 => ("RingGroup$Replica", "applied", "I", false)
  | 3 => ("RingGroup$Replica", "mark", "J", false)
  | _ => ("RingGroup$Replica", "done", "I", false)
def tyX4 : Nat → FieldType := fun k => match k with
  | 0 => .array .long
  | 1 => .array (.object "RingGroup$Message")
  | 2 => .int
  | 3 => .long
  | _ => .int
abbrev wsX40 : List Cond := u_ws RX4 TX4 5
theorem nmX4 : ∀ a, a < 5 → ∀ b, b < 5 → a ≠ b → (TX4 a).2.1 ≠ (TX4 b).2.1 := by decide +kernel
theorem tyX4_ok : ∀ k, k < 5 → parseFieldDescriptor (TX4 k).2.2.1 = some (tyX4 k) := by decide +kernel
abbrev cX4_init : ByteArray := prog_6_method_1_code
def yX4_init : MethodName := ⟨RX4, "<init>", "()V"⟩
abbrev cX4_apply : ByteArray := prog_6_method_2_code
def yX4_apply : MethodName := ⟨RX4, "apply", "(ILRingGroup$Message;)V"⟩
abbrev cX4_copyTable : ByteArray := prog_6_method_3_code
def yX4_copyTable : MethodName := ⟨RX4, "copyTable", "(LRingGroup$Replica;)V"⟩
abbrev cX4_forgetKept : ByteArray := prog_6_method_4_code
def yX4_forgetKept : MethodName := ⟨RX4, "forgetKept", "()V"⟩
def RX5 : String := "RingGroup$Ring"
def TX5 : u_T := fun k => match k with
  | 0 => ("RingGroup$Ring", "requested", "[Z", true)
  | 1 => ("RingGroup$Ring", "full", "[I", true)
  | 2 => ("RingGroup$Ring", "number", "I", false)
  | 3 => ("RingGroup$Ring", "members", "I", false)
  | 4 => ("RingGroup$Ring", "holder", "I", false)
  | _ => ("RingGroup$Ring", "lastPlace", "I", false)
def tyX5 : Nat → FieldType := fun k => match k with
  | 0 => .array .boolean
  | 1 => .array .int
  | 2 => .int
  | 3 => .int
  | 4 => .int
  | _ => .int
abbrev wsX50 : List Cond := u_ws RX5 TX5 6
theorem nmX5 : ∀ a, a < 6 → ∀ b, b < 6 → a ≠ b → (TX5 a).2.1 ≠ (TX5 b).2.1 := by decide +kernel
theorem tyX5_ok : ∀ k, k < 6 → parseFieldDescriptor (TX5 k).2.2.1 = some (tyX5 k) := by decide +kernel
abbrev cX5_init : ByteArray := prog_7_method_1_code
def yX5_init : MethodName := ⟨RX5, "<init>", "()V"⟩
abbrev cX5_begin : ByteArray := prog_7_method_2_code
def yX5_begin : MethodName := ⟨RX5, "begin", "(II)V"⟩
abbrev cX5_memberBehind : ByteArray := prog_7_method_3_code
def yX5_memberBehind : MethodName := ⟨RX5, "memberBehind", "(I)I"⟩
abbrev cX5_leastFull : ByteArray := prog_7_method_4_code
def yX5_leastFull : MethodName := ⟨RX5, "leastFull", "()I"⟩
def RX6 : String := "RingGroup"
def TX6 : u_T := fun k => match k with
  | 0 => ("RingGroup", "window", "I", true)
  | 1 => ("RingGroup", "nodes", "[LRingGroup$Node;", true)
  | 2 => ("RingGroup", "rings", "[LRingGroup$Ring;", true)
  | _ => ("RingGroup", "noRing", "LRingGroup$Ring;", true)
def tyX6 : Nat → FieldType := fun k => match k with
  | 0 => .int
  | 1 => .array (.object "RingGroup$Node")
  | 2 => .array (.object "RingGroup$Ring")
  | _ => .object "RingGroup$Ring"
abbrev wsX60 : List Cond := u_ws RX6 TX6 4
theorem nmX6 : ∀ a, a < 4 → ∀ b, b < 4 → a ≠ b → (TX6 a).2.1 ≠ (TX6 b).2.1 := by decide +kernel
theorem tyX6_ok : ∀ k, k < 4 → parseFieldDescriptor (TX6 k).2.2.1 = some (tyX6 k) := by decide +kernel
abbrev cX6_init : ByteArray := prog_1_method_1_code
def yX6_init : MethodName := ⟨RX6, "<init>", "(II)V"⟩
abbrev cX6_send : ByteArray := prog_1_method_2_code
def yX6_send : MethodName := ⟨RX6, "send", "(IIJZ)I"⟩
abbrev cX6_pass : ByteArray := prog_1_method_3_code
def yX6_pass : MethodName := ⟨RX6, "pass", "(II)I"⟩
abbrev cX6_gather : ByteArray := prog_1_method_4_code
def yX6_gather : MethodName := ⟨RX6, "gather", "(I)I"⟩
abbrev cX6_part : ByteArray := prog_1_method_5_code
def yX6_part : MethodName := ⟨RX6, "part", "(II)V"⟩
abbrev cX6_crash : ByteArray := prog_1_method_6_code
def yX6_crash : MethodName := ⟨RX6, "crash", "(I)V"⟩
abbrev cX6_restart : ByteArray := prog_1_method_7_code
def yX6_restart : MethodName := ⟨RX6, "restart", "(I)V"⟩
abbrev cX6_about : ByteArray := prog_1_method_8_code
def yX6_about : MethodName := ⟨RX6, "about", "(II)I"⟩
abbrev cX6_table : ByteArray := prog_1_method_9_code
def yX6_table : MethodName := ⟨RX6, "table", "(II)J"⟩
abbrev cX6_mark : ByteArray := prog_1_method_10_code
def yX6_mark : MethodName := ⟨RX6, "mark", "(I)J"⟩
abbrev cX6_entry : ByteArray := prog_1_method_11_code
def yX6_entry : MethodName := ⟨RX6, "entry", "(III)J"⟩
abbrev cX6_primary : ByteArray := prog_1_method_12_code
def yX6_primary : MethodName := ⟨RX6, "primary", "(I)Z"⟩
abbrev cX6_nodeAt : ByteArray := prog_1_method_13_code
def yX6_nodeAt : MethodName := ⟨RX6, "nodeAt", "(I)LRingGroup$Node;"⟩
abbrev cX6_checkKey : ByteArray := prog_1_method_14_code
def yX6_checkKey : MethodName := ⟨RX6, "checkKey", "(I)V"⟩
abbrev cX6_isIn : ByteArray := prog_1_method_15_code
def yX6_isIn : MethodName := ⟨RX6, "isIn", "(II)Z"⟩
abbrev cX6_leastOf : ByteArray := prog_1_method_16_code
def yX6_leastOf : MethodName := ⟨RX6, "leastOf", "(I)I"⟩
abbrev cX6_reaches : ByteArray := prog_1_method_17_code
def yX6_reaches : MethodName := ⟨RX6, "reaches", "(LRingGroup$Node;LRingGroup$Node;)Z"⟩
abbrev cX6_receiversOf : ByteArray := prog_1_method_18_code
def yX6_receiversOf : MethodName := ⟨RX6, "receiversOf", "(LRingGroup$Node;)I"⟩
abbrev cX6_sendRequested : ByteArray := prog_1_method_19_code
def yX6_sendRequested : MethodName := ⟨RX6, "sendRequested", "(LRingGroup$Node;I)V"⟩
abbrev cX6_sendPending : ByteArray := prog_1_method_20_code
def yX6_sendPending : MethodName := ⟨RX6, "sendPending", "(LRingGroup$Node;I)V"⟩
abbrev cX6_giveTo : ByteArray := prog_1_method_21_code
def yX6_giveTo : MethodName := ⟨RX6, "giveTo", "(IILRingGroup$Message;)V"⟩
abbrev cX6_requestMissing : ByteArray := prog_1_method_22_code
def yX6_requestMissing : MethodName := ⟨RX6, "requestMissing", "(LRingGroup$Node;)V"⟩
abbrev cX6_handOn : ByteArray := prog_1_method_23_code
def yX6_handOn : MethodName := ⟨RX6, "handOn", "(LRingGroup$Node;)V"⟩
abbrev cX6_upInGroup : ByteArray := prog_1_method_24_code
def yX6_upInGroup : MethodName := ⟨RX6, "upInGroup", "(I)I"⟩
abbrev cX6_ofRing : ByteArray := prog_1_method_25_code
def yX6_ofRing : MethodName := ⟨RX6, "ofRing", "(LRingGroup$Ring;I)I"⟩
abbrev cX6_isWhole : ByteArray := prog_1_method_26_code
def yX6_isWhole : MethodName := ⟨RX6, "isWhole", "(LRingGroup$Ring;I)Z"⟩
abbrev cX6_foremost : ByteArray := prog_1_method_27_code
def yX6_foremost : MethodName := ⟨RX6, "foremost", "(LRingGroup$Node;I)LRingGroup$Node;"⟩
abbrev cX6_isQuorum : ByteArray := prog_1_method_28_code
def yX6_isQuorum : MethodName := ⟨RX6, "isQuorum", "(II)Z"⟩
abbrev cX6_endOldRings : ByteArray := prog_1_method_29_code
def yX6_endOldRings : MethodName := ⟨RX6, "endOldRings", "(I)V"⟩
abbrev cX6_endRing : ByteArray := prog_1_method_30_code
def yX6_endRing : MethodName := ⟨RX6, "endRing", "(I)V"⟩
abbrev cX6_shareAll : ByteArray := prog_1_method_31_code
def yX6_shareAll : MethodName := ⟨RX6, "shareAll", "(I)V"⟩
abbrev cX6_bringTablesUpToDate : ByteArray := prog_1_method_32_code
def yX6_bringTablesUpToDate : MethodName := ⟨RX6, "bringTablesUpToDate", "(LRingGroup$Node;I)V"⟩
abbrev cX6_keptByOne : ByteArray := prog_1_method_33_code
def yX6_keptByOne : MethodName := ⟨RX6, "keptByOne", "(III)LRingGroup$Message;"⟩
abbrev cX6_beginRing : ByteArray := prog_1_method_34_code
def yX6_beginRing : MethodName := ⟨RX6, "beginRing", "(IZ)I"⟩
abbrev cX6_unusedRing : ByteArray := prog_1_method_35_code
def yX6_unusedRing : MethodName := ⟨RX6, "unusedRing", "()LRingGroup$Ring;"⟩
def RX7 : String := "RingGroupModel"
def TX7 : u_T := fun k => match k with
  | 0 => ("RingGroupModel", "thrown", "I", false)
  | 1 => ("RingGroupModel", "nodes", "I", false)
  | 2 => ("RingGroupModel", "window", "I", false)
  | 3 => ("RingGroupModel", "up", "[Z", true)
  | 4 => ("RingGroupModel", "group", "[I", true)
  | 5 => ("RingGroupModel", "ringOf", "[I", true)
  | 6 => ("RingGroupModel", "highest", "[I", true)
  | 7 => ("RingGroupModel", "tables", "[J", true)
  | 8 => ("RingGroupModel", "applied", "[I", true)
  | 9 => ("RingGroupModel", "marks", "[J", true)
  | 10 => ("RingGroupModel", "voteNumber", "[I", true)
  | 11 => ("RingGroupModel", "voteMembers", "[I", true)
  | 12 => ("RingGroupModel", "pending", "[I", true)
  | 13 => ("RingGroupModel", "pendingKeys", "[I", true)
  | 14 => ("RingGroupModel", "pendingValues", "[J", true)
  | 15 => ("RingGroupModel", "pendingSafe", "[Z", true)
  | 16 => ("RingGroupModel", "delivered", "[I", true)
  | 17 => ("RingGroupModel", "safeTo", "[I", true)
  | 18 => ("RingGroupModel", "logged", "[I", true)
  | 19 => ("RingGroupModel", "kept", "[Z", true)
  | 20 => ("RingGroupModel", "keptKeys", "[I", true)
  | 21 => ("RingGroupModel", "keptValues", "[J", true)
  | 22 => ("RingGroupModel", "done", "[I", true)
  | 23 => ("RingGroupModel", "log", "[J", true)
  | 24 => ("RingGroupModel", "numbers", "[I", true)
  | 25 => ("RingGroupModel", "members", "[I", true)
  | 26 => ("RingGroupModel", "lost", "[Z", true)
  | 27 => ("RingGroupModel", "tokenAt", "[I", true)
  | 28 => ("RingGroupModel", "places", "[I", true)
  | 29 => ("RingGroupModel", "senders", "[I", true)
  | 30 => ("RingGroupModel", "keys", "[I", true)
  | 31 => ("RingGroupModel", "values", "[J", true)
  | 32 => ("RingGroupModel", "safes", "[Z", true)
  | 33 => ("RingGroupModel", "has", "[I", true)
  | 34 => ("RingGroupModel", "requested", "[Z", true)
  | _ => ("RingGroupModel", "tokenFull", "[I", true)
def tyX7 : Nat → FieldType := fun k => match k with
  | 0 => .int
  | 1 => .int
  | 2 => .int
  | 3 => .array .boolean
  | 4 => .array .int
  | 5 => .array .int
  | 6 => .array .int
  | 7 => .array .long
  | 8 => .array .int
  | 9 => .array .long
  | 10 => .array .int
  | 11 => .array .int
  | 12 => .array .int
  | 13 => .array .int
  | 14 => .array .long
  | 15 => .array .boolean
  | 16 => .array .int
  | 17 => .array .int
  | 18 => .array .int
  | 19 => .array .boolean
  | 20 => .array .int
  | 21 => .array .long
  | 22 => .array .int
  | 23 => .array .long
  | 24 => .array .int
  | 25 => .array .int
  | 26 => .array .boolean
  | 27 => .array .int
  | 28 => .array .int
  | 29 => .array .int
  | 30 => .array .int
  | 31 => .array .long
  | 32 => .array .boolean
  | 33 => .array .int
  | 34 => .array .boolean
  | _ => .array .int
abbrev wsX70 : List Cond := u_ws RX7 TX7 36
theorem nmX7 : ∀ a, a < 36 → ∀ b, b < 36 → a ≠ b → (TX7 a).2.1 ≠ (TX7 b).2.1 := by decide +kernel
theorem tyX7_ok : ∀ k, k < 36 → parseFieldDescriptor (TX7 k).2.2.1 = some (tyX7 k) := by decide +kernel
abbrev cX7_init : ByteArray := prog_9_method_1_code
def yX7_init : MethodName := ⟨RX7, "<init>", "(II)V"⟩
abbrev cX7_thrown : ByteArray := prog_9_method_2_code
def yX7_thrown : MethodName := ⟨RX7, "thrown", "()I"⟩
abbrev cX7_noNode : ByteArray := prog_9_method_3_code
def yX7_noNode : MethodName := ⟨RX7, "noNode", "(I)Z"⟩
abbrev cX7_isIn : ByteArray := prog_9_method_4_code
def yX7_isIn : MethodName := ⟨RX7, "isIn", "(II)Z"⟩
abbrev cX7_place : ByteArray := prog_9_method_5_code
def yX7_place : MethodName := ⟨RX7, "place", "(II)I"⟩
abbrev cX7_hasPlace : ByteArray := prog_9_method_6_code
def yX7_hasPlace : MethodName := ⟨RX7, "hasPlace", "(II)Z"⟩
abbrev cX7_full : ByteArray := prog_9_method_7_code
def yX7_full : MethodName := ⟨RX7, "full", "(I)I"⟩
abbrev cX7_holds : ByteArray := prog_9_method_8_code
def yX7_holds : MethodName := ⟨RX7, "holds", "(I)Z"⟩
abbrev cX7_tell : ByteArray := prog_9_method_9_code
def yX7_tell : MethodName := ⟨RX7, "tell", "(IJJJJJJ)V"⟩
abbrev cX7_send : ByteArray := prog_9_method_10_code
def yX7_send : MethodName := ⟨RX7, "send", "(IIJZ)I"⟩
abbrev cX7_apply : ByteArray := prog_9_method_11_code
def yX7_apply : MethodName := ⟨RX7, "apply", "(IIIJ)V"⟩
abbrev cX7_deliver : ByteArray := prog_9_method_12_code
def yX7_deliver : MethodName := ⟨RX7, "deliver", "(IIZ)V"⟩
abbrev cX7_gets : ByteArray := prog_9_method_13_code
def yX7_gets : MethodName := ⟨RX7, "gets", "(II)V"⟩
abbrev cX7_deliverAll : ByteArray := prog_9_method_14_code
def yX7_deliverAll : MethodName := ⟨RX7, "deliverAll", "(I)I"⟩
abbrev cX7_comes : ByteArray := prog_9_method_15_code
def yX7_comes : MethodName := ⟨RX7, "comes", "(III)V"⟩
abbrev cX7_give : ByteArray := prog_9_method_16_code
def yX7_give : MethodName := ⟨RX7, "give", "(II)V"⟩
abbrev cX7_goesOn : ByteArray := prog_9_method_17_code
def yX7_goesOn : MethodName := ⟨RX7, "goesOn", "(I)V"⟩
abbrev cX7_pass : ByteArray := prog_9_method_18_code
def yX7_pass : MethodName := ⟨RX7, "pass", "(II)I"⟩
abbrev cX7_together : ByteArray := prog_9_method_19_code
def yX7_together : MethodName := ⟨RX7, "together", "(I)I"⟩
abbrev cX7_count : ByteArray := prog_9_method_20_code
def yX7_count : MethodName := ⟨RX7, "count", "(I)I"⟩
abbrev cX7_least : ByteArray := prog_9_method_21_code
def yX7_least : MethodName := ⟨RX7, "least", "(I)I"⟩
abbrev cX7_isWhole : ByteArray := prog_9_method_22_code
def yX7_isWhole : MethodName := ⟨RX7, "isWhole", "(I)Z"⟩
abbrev cX7_voter : ByteArray := prog_9_method_23_code
def yX7_voter : MethodName := ⟨RX7, "voter", "(I)I"⟩
abbrev cX7_isPrimary : ByteArray := prog_9_method_24_code
def yX7_isPrimary : MethodName := ⟨RX7, "isPrimary", "(I)Z"⟩
abbrev cX7_of : ByteArray := prog_9_method_25_code
def yX7_of : MethodName := ⟨RX7, "of", "(II)I"⟩
abbrev cX7_nextRing : ByteArray := prog_9_method_26_code
def yX7_nextRing : MethodName := ⟨RX7, "nextRing", "(II)I"⟩
abbrev cX7_isBefore : ByteArray := prog_9_method_27_code
def yX7_isBefore : MethodName := ⟨RX7, "isBefore", "(II)Z"⟩
abbrev cX7_end : ByteArray := prog_9_method_28_code
def yX7_end : MethodName := ⟨RX7, "end", "(II)V"⟩
abbrev cX7_share : ByteArray := prog_9_method_29_code
def yX7_share : MethodName := ⟨RX7, "share", "(I)V"⟩
abbrev cX7_forget : ByteArray := prog_9_method_30_code
def yX7_forget : MethodName := ⟨RX7, "forget", "(I)V"⟩
abbrev cX7_freeSlot : ByteArray := prog_9_method_31_code
def yX7_freeSlot : MethodName := ⟨RX7, "freeSlot", "()I"⟩
abbrev cX7_form : ByteArray := prog_9_method_32_code
def yX7_form : MethodName := ⟨RX7, "form", "(IZ)I"⟩
abbrev cX7_gather : ByteArray := prog_9_method_33_code
def yX7_gather : MethodName := ⟨RX7, "gather", "(I)I"⟩
abbrev cX7_part : ByteArray := prog_9_method_34_code
def yX7_part : MethodName := ⟨RX7, "part", "(II)V"⟩
abbrev cX7_crash : ByteArray := prog_9_method_35_code
def yX7_crash : MethodName := ⟨RX7, "crash", "(I)V"⟩
abbrev cX7_restart : ByteArray := prog_9_method_36_code
def yX7_restart : MethodName := ⟨RX7, "restart", "(I)V"⟩
abbrev cX7_about : ByteArray := prog_9_method_37_code
def yX7_about : MethodName := ⟨RX7, "about", "(II)I"⟩
abbrev cX7_table : ByteArray := prog_9_method_38_code
def yX7_table : MethodName := ⟨RX7, "table", "(II)J"⟩
abbrev cX7_mark : ByteArray := prog_9_method_39_code
def yX7_mark : MethodName := ⟨RX7, "mark", "(I)J"⟩
abbrev cX7_entry : ByteArray := prog_9_method_40_code
def yX7_entry : MethodName := ⟨RX7, "entry", "(III)J"⟩
abbrev cX7_primary : ByteArray := prog_9_method_41_code
def yX7_primary : MethodName := ⟨RX7, "primary", "(I)Z"⟩
def RJ6 : String := "java/lang/Integer"
def TJ6 : u_T := fun k => match k with
  | _ => ("", "", "", false)
def tyJ6 : Nat → FieldType := fun k => match k with
  | _ => .int
abbrev wsJ60 : List Cond := u_ws RJ6 TJ6 0
theorem nmJ6 : ∀ a, a < 0 → ∀ b, b < 0 → a ≠ b → (TJ6 a).2.1 ≠ (TJ6 b).2.1 := by decide +kernel
theorem tyJ6_ok : ∀ k, k < 0 → parseFieldDescriptor (TJ6 k).2.2.1 = some (tyJ6 k) := by decide +kernel
abbrev cJ6_bitCount_0f7a4 : ByteArray := prog_14_method_49_code
def yJ6_bitCount_0f7a4 : MethodName := ⟨RJ6, "bitCount", "(I)I"⟩
def RJ9 : String := "java/lang/Math"
def TJ9 : u_T := fun k => match k with
  | _ => ("", "", "", false)
def tyJ9 : Nat → FieldType := fun k => match k with
  | _ => .int
abbrev wsJ90 : List Cond := u_ws RJ9 TJ9 0
theorem nmJ9 : ∀ a, a < 0 → ∀ b, b < 0 → a ≠ b → (TJ9 a).2.1 ≠ (TJ9 b).2.1 := by decide +kernel
theorem tyJ9_ok : ∀ k, k < 0 → parseFieldDescriptor (TJ9 k).2.2.1 = some (tyJ9 k) := by decide +kernel
abbrev cJ9_floorMod_7cf53 : ByteArray := prog_15_method_50_code
def yJ9_floorMod_7cf53 : MethodName := ⟨RJ9, "floorMod", "(II)I"⟩
abbrev cJ9_max_7cf53 : ByteArray := prog_15_method_65_code
def yJ9_max_7cf53 : MethodName := ⟨RJ9, "max", "(II)I"⟩
abbrev cJ9_min_7cf53 : ByteArray := prog_15_method_69_code
def yJ9_min_7cf53 : MethodName := ⟨RJ9, "min", "(II)I"⟩
def RJ0 : String := "java/lang/String"
def TJ0 : u_T := fun k => match k with
  | _ => ("", "", "", false)
def tyJ0 : Nat → FieldType := fun k => match k with
  | _ => .int
abbrev wsJ00 : List Cond := u_ws RJ0 TJ0 0
theorem nmJ0 : ∀ a, a < 0 → ∀ b, b < 0 → a ≠ b → (TJ0 a).2.1 ≠ (TJ0 b).2.1 := by decide +kernel
theorem tyJ0_ok : ∀ k, k < 0 → parseFieldDescriptor (TJ0 k).2.2.1 = some (tyJ0 k) := by decide +kernel
def RL : String := "RingGroupLaw"
abbrev cL_cell : ByteArray := method_2_code
def yL_cell : MethodName := ⟨RL, "cell", "([II)I"⟩
abbrev cL_send : ByteArray := method_3_code
def yL_send : MethodName := ⟨RL, "send", "(LRingGroup;IIJZ[J)I"⟩
abbrev cL_pass : ByteArray := method_4_code
def yL_pass : MethodName := ⟨RL, "pass", "(LRingGroup;II[J)I"⟩
abbrev cL_gather : ByteArray := method_5_code
def yL_gather : MethodName := ⟨RL, "gather", "(LRingGroup;I[J)I"⟩
abbrev cL_part : ByteArray := method_6_code
def yL_part : MethodName := ⟨RL, "part", "(LRingGroup;II)I"⟩
abbrev cL_crash : ByteArray := method_7_code
def yL_crash : MethodName := ⟨RL, "crash", "(LRingGroup;I)I"⟩
abbrev cL_restart : ByteArray := method_8_code
def yL_restart : MethodName := ⟨RL, "restart", "(LRingGroup;I)I"⟩
abbrev cL_about : ByteArray := method_9_code
def yL_about : MethodName := ⟨RL, "about", "(LRingGroup;II[J)I"⟩
abbrev cL_table : ByteArray := method_10_code
def yL_table : MethodName := ⟨RL, "table", "(LRingGroup;II[J)I"⟩
abbrev cL_mark : ByteArray := method_11_code
def yL_mark : MethodName := ⟨RL, "mark", "(LRingGroup;I[J)I"⟩
abbrev cL_entry : ByteArray := method_12_code
def yL_entry : MethodName := ⟨RL, "entry", "(LRingGroup;III[J)I"⟩
abbrev cL_primary : ByteArray := method_13_code
def yL_primary : MethodName := ⟨RL, "primary", "(LRingGroup;I[J)I"⟩
abbrev cL_law : ByteArray := code
def yL_law : MethodName := ⟨RL, "law", "([I)Z"⟩
abbrev vwCl : List vw_C := [(RX0, TX0, 2), (RX1, TX1, 4), (RX2, TX2, 13), (RX3, TX3, 2), (RX4, TX4, 5), (RX5, TX5, 6), (RX6, TX6, 4), (RX7, TX7, 36)]
end
section
/-! The heap as functions. Z: the addresses, the kind of each, lengths of arrays, references that are final (and the rows of nodes and rings). S: ints, longs, other references; by address and place. -/
abbrev zZ : Type := List Nat × (Nat → Nat) × (Nat → Nat) × (Nat → Nat → Option Nat)
abbrev zS : Type := (Nat → Nat → Int32) × (Nat → Nat → Int64) × (Nat → Nat → Option Nat)
def zL (Z : zZ) : List Nat := Z.1
def zK (Z : zZ) : Nat → Nat := Z.2.1
def zN (Z : zZ) : Nat → Nat := Z.2.2.1
def zQ (Z : zZ) : Nat → Nat → Option Nat := Z.2.2.2
def zI (S : zS) : Nat → Nat → Int32 := S.1
def zJ (S : zS) : Nat → Nat → Int64 := S.2.1
def zR (S : zS) : Nat → Nat → Option Nat := S.2.2
def zu {α : Type} (f : Nat → Nat → α) (a j : Nat) (v : α) : Nat → Nat → α := fun x y => if x = a ∧ y = j then v else f x y
def zsI (S : zS) (a j : Nat) (v : Int32) : zS := (zu (zI S) a j v, zJ S, zR S)
def zsJ (S : zS) (a j : Nat) (v : Int64) : zS := (zI S, zu (zJ S) a j v, zR S)
def zsR (S : zS) (a j : Nat) (v : Option Nat) : zS := (zI S, zJ S, zu (zR S) a j v)
def zsQ (Z : zZ) (a j : Nat) (v : Option Nat) : zZ := (zL Z, zK Z, zN Z, zu (zQ Z) a j v)
/-- a new cell at a, of kind k, of n places -/
def zalZ (Z : zZ) (a k n : Nat) : zZ := (zL Z ++ [a], va_up (zK Z) a k, va_up (zN Z) a n, va_up (zQ Z) a (fun _ => none))
def zalS (S : zS) (a : Nat) : zS := (va_up (zI S) a (fun _ => 0), va_up (zJ S) a (fun _ => 0), va_up (zR S) a (fun _ => none))
/-- a cell of kind k stands at a -/
def zk (Z : zZ) (a k : Nat) : Prop := a ∈ zL Z ∧ zK Z a = k
theorem zu_ne {α : Type} (f : Nat → Nat → α) (a j : Nat) (v : α) (b : Nat) (h : b ≠ a) : zu f a j v b = f b := by
  funext i
  show (if b = a ∧ i = j then v else f b i) = _
  rw [if_neg (fun q => h q.1)]
theorem zu_eq {α : Type} (f : Nat → Nat → α) (a j : Nat) (v : α) : zu f a j v a = (fun i => if i = j then v else f a i) := by
  funext i
  show (if a = a ∧ i = j then v else f a i) = _
  by_cases h : i = j
  · rw [if_pos ⟨rfl, h⟩, if_pos h]
  · rw [if_neg (fun q => h q.2), if_neg h]
theorem zJ_sI (S : zS) (a j : Nat) (v : Int32) : zJ (zsI S a j v) = zJ S := rfl
theorem zR_sI (S : zS) (a j : Nat) (v : Int32) : zR (zsI S a j v) = zR S := rfl
theorem zI_sI (S : zS) (a j : Nat) (v : Int32) (b i : Nat) : zI (zsI S a j v) b i = if b = a ∧ i = j then v else zI S b i := rfl
theorem zI_sJ (S : zS) (a j : Nat) (v : Int64) : zI (zsJ S a j v) = zI S := rfl
theorem zR_sJ (S : zS) (a j : Nat) (v : Int64) : zR (zsJ S a j v) = zR S := rfl
theorem zJ_sJ (S : zS) (a j : Nat) (v : Int64) (b i : Nat) : zJ (zsJ S a j v) b i = if b = a ∧ i = j then v else zJ S b i := rfl
theorem zI_sR (S : zS) (a j : Nat) (v : Option Nat) : zI (zsR S a j v) = zI S := rfl
theorem zJ_sR (S : zS) (a j : Nat) (v : Option Nat) : zJ (zsR S a j v) = zJ S := rfl
theorem zR_sR (S : zS) (a j : Nat) (v : Option Nat) (b i : Nat) : zR (zsR S a j v) b i = if b = a ∧ i = j then v else zR S b i := rfl
theorem zQ_sQ (Z : zZ) (a j : Nat) (v : Option Nat) (b i : Nat) : zQ (zsQ Z a j v) b i = if b = a ∧ i = j then v else zQ Z b i := rfl
/-- what an object of kind k holds -/
def zfs (Z : zZ) (S : zS) (a : Nat) : Nat → List Value
  | 0 => [va_rf (zQ Z a 0), .int (zI S a 1)]
  | 1 => [.int (zI S a 0), .int (zI S a 1), .long (zJ S a 2), .int (zI S a 3)]
  | 2 => [.int (zI S a 0), va_rf (zQ Z a 1), va_rf (zQ Z a 2), va_rf (zQ Z a 3), va_rf (zQ Z a 4), .int (zI S a 5), .int (zI S a 6), va_rf (zR S a 7), .int (zI S a 8), .int (zI S a 9), .int (zI S a 10), .int (zI S a 11), .int (zI S a 12)]
  | 3 => [va_rf (zQ Z a 0), .int (zI S a 1)]
  | 4 => [va_rf (zQ Z a 0), va_rf (zQ Z a 1), .int (zI S a 2), .long (zJ S a 3), .int (zI S a 4)]
  | 5 => [va_rf (zQ Z a 0), va_rf (zQ Z a 1), .int (zI S a 2), .int (zI S a 3), .int (zI S a 4), .int (zI S a 5)]
  | 6 => [.int (zI S a 0), va_rf (zQ Z a 1), va_rf (zQ Z a 2), va_rf (zQ Z a 3)]
  | 7 => [.int (zI S a 0), .int (zI S a 1), .int (zI S a 2), va_rf (zQ Z a 3), va_rf (zQ Z a 4), va_rf (zQ Z a 5), va_rf (zQ Z a 6), va_rf (zQ Z a 7), va_rf (zQ Z a 8), va_rf (zQ Z a 9), va_rf (zQ Z a 10), va_rf (zQ Z a 11), va_rf (zQ Z a 12), va_rf (zQ Z a 13), va_rf (zQ Z a 14), va_rf (zQ Z a 15), va_rf (zQ Z a 16), va_rf (zQ Z a 17), va_rf (zQ Z a 18), va_rf (zQ Z a 19), va_rf (zQ Z a 20), va_rf (zQ Z a 21), va_rf (zQ Z a 22), va_rf (zQ Z a 23), va_rf (zQ Z a 24), va_rf (zQ Z a 25), va_rf (zQ Z a 26), va_rf (zQ Z a 27), va_rf (zQ Z a 28), va_rf (zQ Z a 29), va_rf (zQ Z a 30), va_rf (zQ Z a 31), va_rf (zQ Z a 32), va_rf (zQ Z a 33), va_rf (zQ Z a 34), va_rf (zQ Z a 35)]
  | _ => []
/-- what lies at a -/
def zF (cy : Nat → ClassId) (Z : zZ) (S : zS) (a : Nat) : va_E := match zK Z a with
  | 8 => .inl (cy 0, zN Z a, .inl (zI S a))
  | 9 => .inl (cy 1, zN Z a, .inr (.inl (zJ S a)))
  | 10 => .inl (cy 2, zN Z a, .inl (zI S a))
  | 11 => .inl (cy 3, zN Z a, .inr (.inr (.inr (.inr (zR S a)))))
  | 12 => .inl (cy 4, zN Z a, .inr (.inr (.inr (.inr (zQ Z a)))))
  | 13 => .inl (cy 5, zN Z a, .inr (.inr (.inr (.inr (zQ Z a)))))
  | k => .inr (k, zfs Z S a k)
abbrev zTy (cy : Nat → ClassId) : List (ClassId × FieldType) := [(cy 0, .int), (cy 1, .long), (cy 2, .boolean), (cy 3, .object RX1), (cy 4, .object RX2), (cy 5, .object RX5)]
def zW (cy : Nat → ClassId) (Z : zZ) (S : zS) : va_W := va_pl (zL Z) (zF cy Z S)
theorem zF_0 (cy : Nat → ClassId) {Z : zZ} {S : zS} {a : Nat} (h : zk Z a 0) : zF cy Z S a = .inr (0, zfs Z S a 0) := by
  unfold zF
  rw [h.2]
  rfl
theorem zF_1 (cy : Nat → ClassId) {Z : zZ} {S : zS} {a : Nat} (h : zk Z a 1) : zF cy Z S a = .inr (1, zfs Z S a 1) := by
  unfold zF
  rw [h.2]
  rfl
theorem zF_2 (cy : Nat → ClassId) {Z : zZ} {S : zS} {a : Nat} (h : zk Z a 2) : zF cy Z S a = .inr (2, zfs Z S a 2) := by
  unfold zF
  rw [h.2]
  rfl
theorem zF_3 (cy : Nat → ClassId) {Z : zZ} {S : zS} {a : Nat} (h : zk Z a 3) : zF cy Z S a = .inr (3, zfs Z S a 3) := by
  unfold zF
  rw [h.2]
  rfl
theorem zF_4 (cy : Nat → ClassId) {Z : zZ} {S : zS} {a : Nat} (h : zk Z a 4) : zF cy Z S a = .inr (4, zfs Z S a 4) := by
  unfold zF
  rw [h.2]
  rfl
theorem zF_5 (cy : Nat → ClassId) {Z : zZ} {S : zS} {a : Nat} (h : zk Z a 5) : zF cy Z S a = .inr (5, zfs Z S a 5) := by
  unfold zF
  rw [h.2]
  rfl
theorem zF_6 (cy : Nat → ClassId) {Z : zZ} {S : zS} {a : Nat} (h : zk Z a 6) : zF cy Z S a = .inr (6, zfs Z S a 6) := by
  unfold zF
  rw [h.2]
  rfl
theorem zF_7 (cy : Nat → ClassId) {Z : zZ} {S : zS} {a : Nat} (h : zk Z a 7) : zF cy Z S a = .inr (7, zfs Z S a 7) := by
  unfold zF
  rw [h.2]
  rfl
theorem zF_8 (cy : Nat → ClassId) {Z : zZ} {S : zS} {a : Nat} (h : zk Z a 8) : zF cy Z S a = .inl (cy 0, zN Z a, .inl (zI S a)) := by
  unfold zF
  rw [h.2]
  rfl
theorem zF_9 (cy : Nat → ClassId) {Z : zZ} {S : zS} {a : Nat} (h : zk Z a 9) : zF cy Z S a = .inl (cy 1, zN Z a, .inr (.inl (zJ S a))) := by
  unfold zF
  rw [h.2]
  rfl
theorem zF_10 (cy : Nat → ClassId) {Z : zZ} {S : zS} {a : Nat} (h : zk Z a 10) : zF cy Z S a = .inl (cy 2, zN Z a, .inl (zI S a)) := by
  unfold zF
  rw [h.2]
  rfl
theorem zF_11 (cy : Nat → ClassId) {Z : zZ} {S : zS} {a : Nat} (h : zk Z a 11) : zF cy Z S a = .inl (cy 3, zN Z a, .inr (.inr (.inr (.inr (zR S a))))) := by
  unfold zF
  rw [h.2]
  rfl
theorem zF_12 (cy : Nat → ClassId) {Z : zZ} {S : zS} {a : Nat} (h : zk Z a 12) : zF cy Z S a = .inl (cy 4, zN Z a, .inr (.inr (.inr (.inr (zQ Z a))))) := by
  unfold zF
  rw [h.2]
  rfl
theorem zF_13 (cy : Nat → ClassId) {Z : zZ} {S : zS} {a : Nat} (h : zk Z a 13) : zF cy Z S a = .inl (cy 5, zN Z a, .inr (.inr (.inr (.inr (zQ Z a))))) := by
  unfold zF
  rw [h.2]
  rfl
theorem zF_cong (cy : Nat → ClassId) {Z Z' : zZ} {S S' : zS} {b : Nat} (hK : zK Z' b = zK Z b) (hN : zN Z' b = zN Z b) (hQ : zQ Z' b = zQ Z b) (hI : zI S' b = zI S b) (hJ : zJ S' b = zJ S b) (hR : zR S' b = zR S b) : zF cy Z' S' b = zF cy Z S b := by
  have e : ∀ k, zfs Z' S' b k = zfs Z S b k := by
    intro k
    unfold zfs
    rw [hI, hJ, hR, hQ]
  unfold zF
  rw [hK, hN, hI, hJ, hR, hQ]
  simp only [e]
theorem zF_offI (cy : Nat → ClassId) (Z : zZ) (S : zS) (a j : Nat) (v : Int32) : ∀ b, b ≠ a → zF cy Z (zsI S a j v) b = zF cy Z S b := fun b h => zF_cong cy rfl rfl rfl (zu_ne _ a j v b h) rfl rfl
theorem zF_offJ (cy : Nat → ClassId) (Z : zZ) (S : zS) (a j : Nat) (v : Int64) : ∀ b, b ≠ a → zF cy Z (zsJ S a j v) b = zF cy Z S b := fun b h => zF_cong cy rfl rfl rfl rfl (zu_ne _ a j v b h) rfl
theorem zF_offR (cy : Nat → ClassId) (Z : zZ) (S : zS) (a j : Nat) (v : Option Nat) : ∀ b, b ≠ a → zF cy Z (zsR S a j v) b = zF cy Z S b := fun b h => zF_cong cy rfl rfl rfl rfl rfl (zu_ne _ a j v b h)
theorem zF_offQ (cy : Nat → ClassId) (Z : zZ) (S : zS) (a j : Nat) (v : Option Nat) : ∀ b, b ≠ a → zF cy (zsQ Z a j v) S b = zF cy Z S b := fun b h => zF_cong cy rfl rfl (zu_ne _ a j v b h) rfl rfl rfl
theorem zP_0_0 (Z : zZ) (S : zS) (a : Nat) (v : Option Nat) : zfs (zsQ Z a 0 v) S a 0 = (zfs Z S a 0).set 0 (va_rf v) := by
  simp [zfs, zI_sI, zJ_sJ, zR_sR, zQ_sQ, zI_sJ, zI_sR, zJ_sI, zJ_sR, zR_sI, zR_sJ]
theorem zP_0_1 (Z : zZ) (S : zS) (a : Nat) (v : Int32) : zfs Z (zsI S a 1 v) a 0 = (zfs Z S a 0).set 1 (.int v) := by
  simp [zfs, zI_sI, zJ_sJ, zR_sR, zQ_sQ, zI_sJ, zI_sR, zJ_sI, zJ_sR, zR_sI, zR_sJ]
theorem zP_1_0 (Z : zZ) (S : zS) (a : Nat) (v : Int32) : zfs Z (zsI S a 0 v) a 1 = (zfs Z S a 1).set 0 (.int v) := by
  simp [zfs, zI_sI, zJ_sJ, zR_sR, zQ_sQ, zI_sJ, zI_sR, zJ_sI, zJ_sR, zR_sI, zR_sJ]
theorem zP_1_1 (Z : zZ) (S : zS) (a : Nat) (v : Int32) : zfs Z (zsI S a 1 v) a 1 = (zfs Z S a 1).set 1 (.int v) := by
  simp [zfs, zI_sI, zJ_sJ, zR_sR, zQ_sQ, zI_sJ, zI_sR, zJ_sI, zJ_sR, zR_sI, zR_sJ]
theorem zP_1_2 (Z : zZ) (S : zS) (a : Nat) (v : Int64) : zfs Z (zsJ S a 2 v) a 1 = (zfs Z S a 1).set 2 (.long v) := by
  simp [zfs, zI_sI, zJ_sJ, zR_sR, zQ_sQ, zI_sJ, zI_sR, zJ_sI, zJ_sR, zR_sI, zR_sJ]
theorem zP_1_3 (Z : zZ) (S : zS) (a : Nat) (v : Int32) : zfs Z (zsI S a 3 v) a 1 = (zfs Z S a 1).set 3 (.int v) := by
  simp [zfs, zI_sI, zJ_sJ, zR_sR, zQ_sQ, zI_sJ, zI_sR, zJ_sI, zJ_sR, zR_sI, zR_sJ]
theorem zP_2_0 (Z : zZ) (S : zS) (a : Nat) (v : Int32) : zfs Z (zsI S a 0 v) a 2 = (zfs Z S a 2).set 0 (.int v) := by
  simp [zfs, zI_sI, zJ_sJ, zR_sR, zQ_sQ, zI_sJ, zI_sR, zJ_sI, zJ_sR, zR_sI, zR_sJ]
theorem zP_2_1 (Z : zZ) (S : zS) (a : Nat) (v : Option Nat) : zfs (zsQ Z a 1 v) S a 2 = (zfs Z S a 2).set 1 (va_rf v) := by
  simp [zfs, zI_sI, zJ_sJ, zR_sR, zQ_sQ, zI_sJ, zI_sR, zJ_sI, zJ_sR, zR_sI, zR_sJ]
theorem zP_2_2 (Z : zZ) (S : zS) (a : Nat) (v : Option Nat) : zfs (zsQ Z a 2 v) S a 2 = (zfs Z S a 2).set 2 (va_rf v) := by
  simp [zfs, zI_sI, zJ_sJ, zR_sR, zQ_sQ, zI_sJ, zI_sR, zJ_sI, zJ_sR, zR_sI, zR_sJ]
theorem zP_2_3 (Z : zZ) (S : zS) (a : Nat) (v : Option Nat) : zfs (zsQ Z a 3 v) S a 2 = (zfs Z S a 2).set 3 (va_rf v) := by
  simp [zfs, zI_sI, zJ_sJ, zR_sR, zQ_sQ, zI_sJ, zI_sR, zJ_sI, zJ_sR, zR_sI, zR_sJ]
theorem zP_2_4 (Z : zZ) (S : zS) (a : Nat) (v : Option Nat) : zfs (zsQ Z a 4 v) S a 2 = (zfs Z S a 2).set 4 (va_rf v) := by
  simp [zfs, zI_sI, zJ_sJ, zR_sR, zQ_sQ, zI_sJ, zI_sR, zJ_sI, zJ_sR, zR_sI, zR_sJ]
theorem zP_2_5 (Z : zZ) (S : zS) (a : Nat) (v : Int32) : zfs Z (zsI S a 5 v) a 2 = (zfs Z S a 2).set 5 (.int v) := by
  simp [zfs, zI_sI, zJ_sJ, zR_sR, zQ_sQ, zI_sJ, zI_sR, zJ_sI, zJ_sR, zR_sI, zR_sJ]
theorem zP_2_6 (Z : zZ) (S : zS) (a : Nat) (v : Int32) : zfs Z (zsI S a 6 v) a 2 = (zfs Z S a 2).set 6 (.int v) := by
  simp [zfs, zI_sI, zJ_sJ, zR_sR, zQ_sQ, zI_sJ, zI_sR, zJ_sI, zJ_sR, zR_sI, zR_sJ]
theorem zP_2_7 (Z : zZ) (S : zS) (a : Nat) (v : Option Nat) : zfs Z (zsR S a 7 v) a 2 = (zfs Z S a 2).set 7 (va_rf v) := by
  simp [zfs, zI_sI, zJ_sJ, zR_sR, zQ_sQ, zI_sJ, zI_sR, zJ_sI, zJ_sR, zR_sI, zR_sJ]
theorem zP_2_8 (Z : zZ) (S : zS) (a : Nat) (v : Int32) : zfs Z (zsI S a 8 v) a 2 = (zfs Z S a 2).set 8 (.int v) := by
  simp [zfs, zI_sI, zJ_sJ, zR_sR, zQ_sQ, zI_sJ, zI_sR, zJ_sI, zJ_sR, zR_sI, zR_sJ]
theorem zP_2_9 (Z : zZ) (S : zS) (a : Nat) (v : Int32) : zfs Z (zsI S a 9 v) a 2 = (zfs Z S a 2).set 9 (.int v) := by
  simp [zfs, zI_sI, zJ_sJ, zR_sR, zQ_sQ, zI_sJ, zI_sR, zJ_sI, zJ_sR, zR_sI, zR_sJ]
theorem zP_2_10 (Z : zZ) (S : zS) (a : Nat) (v : Int32) : zfs Z (zsI S a 10 v) a 2 = (zfs Z S a 2).set 10 (.int v) := by
  simp [zfs, zI_sI, zJ_sJ, zR_sR, zQ_sQ, zI_sJ, zI_sR, zJ_sI, zJ_sR, zR_sI, zR_sJ]
theorem zP_2_11 (Z : zZ) (S : zS) (a : Nat) (v : Int32) : zfs Z (zsI S a 11 v) a 2 = (zfs Z S a 2).set 11 (.int v) := by
  simp [zfs, zI_sI, zJ_sJ, zR_sR, zQ_sQ, zI_sJ, zI_sR, zJ_sI, zJ_sR, zR_sI, zR_sJ]
theorem zP_2_12 (Z : zZ) (S : zS) (a : Nat) (v : Int32) : zfs Z (zsI S a 12 v) a 2 = (zfs Z S a 2).set 12 (.int v) := by
  simp [zfs, zI_sI, zJ_sJ, zR_sR, zQ_sQ, zI_sJ, zI_sR, zJ_sI, zJ_sR, zR_sI, zR_sJ]
theorem zP_3_0 (Z : zZ) (S : zS) (a : Nat) (v : Option Nat) : zfs (zsQ Z a 0 v) S a 3 = (zfs Z S a 3).set 0 (va_rf v) := by
  simp [zfs, zI_sI, zJ_sJ, zR_sR, zQ_sQ, zI_sJ, zI_sR, zJ_sI, zJ_sR, zR_sI, zR_sJ]
theorem zP_3_1 (Z : zZ) (S : zS) (a : Nat) (v : Int32) : zfs Z (zsI S a 1 v) a 3 = (zfs Z S a 3).set 1 (.int v) := by
  simp [zfs, zI_sI, zJ_sJ, zR_sR, zQ_sQ, zI_sJ, zI_sR, zJ_sI, zJ_sR, zR_sI, zR_sJ]
theorem zP_4_0 (Z : zZ) (S : zS) (a : Nat) (v : Option Nat) : zfs (zsQ Z a 0 v) S a 4 = (zfs Z S a 4).set 0 (va_rf v) := by
  simp [zfs, zI_sI, zJ_sJ, zR_sR, zQ_sQ, zI_sJ, zI_sR, zJ_sI, zJ_sR, zR_sI, zR_sJ]
theorem zP_4_1 (Z : zZ) (S : zS) (a : Nat) (v : Option Nat) : zfs (zsQ Z a 1 v) S a 4 = (zfs Z S a 4).set 1 (va_rf v) := by
  simp [zfs, zI_sI, zJ_sJ, zR_sR, zQ_sQ, zI_sJ, zI_sR, zJ_sI, zJ_sR, zR_sI, zR_sJ]
theorem zP_4_2 (Z : zZ) (S : zS) (a : Nat) (v : Int32) : zfs Z (zsI S a 2 v) a 4 = (zfs Z S a 4).set 2 (.int v) := by
  simp [zfs, zI_sI, zJ_sJ, zR_sR, zQ_sQ, zI_sJ, zI_sR, zJ_sI, zJ_sR, zR_sI, zR_sJ]
theorem zP_4_3 (Z : zZ) (S : zS) (a : Nat) (v : Int64) : zfs Z (zsJ S a 3 v) a 4 = (zfs Z S a 4).set 3 (.long v) := by
  simp [zfs, zI_sI, zJ_sJ, zR_sR, zQ_sQ, zI_sJ, zI_sR, zJ_sI, zJ_sR, zR_sI, zR_sJ]
theorem zP_4_4 (Z : zZ) (S : zS) (a : Nat) (v : Int32) : zfs Z (zsI S a 4 v) a 4 = (zfs Z S a 4).set 4 (.int v) := by
  simp [zfs, zI_sI, zJ_sJ, zR_sR, zQ_sQ, zI_sJ, zI_sR, zJ_sI, zJ_sR, zR_sI, zR_sJ]
theorem zP_5_0 (Z : zZ) (S : zS) (a : Nat) (v : Option Nat) : zfs (zsQ Z a 0 v) S a 5 = (zfs Z S a 5).set 0 (va_rf v) := by
  simp [zfs, zI_sI, zJ_sJ, zR_sR, zQ_sQ, zI_sJ, zI_sR, zJ_sI, zJ_sR, zR_sI, zR_sJ]
theorem zP_5_1 (Z : zZ) (S : zS) (a : Nat) (v : Option Nat) : zfs (zsQ Z a 1 v) S a 5 = (zfs Z S a 5).set 1 (va_rf v) := by
  simp [zfs, zI_sI, zJ_sJ, zR_sR, zQ_sQ, zI_sJ, zI_sR, zJ_sI, zJ_sR, zR_sI, zR_sJ]
theorem zP_5_2 (Z : zZ) (S : zS) (a : Nat) (v : Int32) : zfs Z (zsI S a 2 v) a 5 = (zfs Z S a 5).set 2 (.int v) := by
  simp [zfs, zI_sI, zJ_sJ, zR_sR, zQ_sQ, zI_sJ, zI_sR, zJ_sI, zJ_sR, zR_sI, zR_sJ]
theorem zP_5_3 (Z : zZ) (S : zS) (a : Nat) (v : Int32) : zfs Z (zsI S a 3 v) a 5 = (zfs Z S a 5).set 3 (.int v) := by
  simp [zfs, zI_sI, zJ_sJ, zR_sR, zQ_sQ, zI_sJ, zI_sR, zJ_sI, zJ_sR, zR_sI, zR_sJ]
theorem zP_5_4 (Z : zZ) (S : zS) (a : Nat) (v : Int32) : zfs Z (zsI S a 4 v) a 5 = (zfs Z S a 5).set 4 (.int v) := by
  simp [zfs, zI_sI, zJ_sJ, zR_sR, zQ_sQ, zI_sJ, zI_sR, zJ_sI, zJ_sR, zR_sI, zR_sJ]
theorem zP_5_5 (Z : zZ) (S : zS) (a : Nat) (v : Int32) : zfs Z (zsI S a 5 v) a 5 = (zfs Z S a 5).set 5 (.int v) := by
  simp [zfs, zI_sI, zJ_sJ, zR_sR, zQ_sQ, zI_sJ, zI_sR, zJ_sI, zJ_sR, zR_sI, zR_sJ]
theorem zP_6_0 (Z : zZ) (S : zS) (a : Nat) (v : Int32) : zfs Z (zsI S a 0 v) a 6 = (zfs Z S a 6).set 0 (.int v) := by
  simp [zfs, zI_sI, zJ_sJ, zR_sR, zQ_sQ, zI_sJ, zI_sR, zJ_sI, zJ_sR, zR_sI, zR_sJ]
theorem zP_6_1 (Z : zZ) (S : zS) (a : Nat) (v : Option Nat) : zfs (zsQ Z a 1 v) S a 6 = (zfs Z S a 6).set 1 (va_rf v) := by
  simp [zfs, zI_sI, zJ_sJ, zR_sR, zQ_sQ, zI_sJ, zI_sR, zJ_sI, zJ_sR, zR_sI, zR_sJ]
theorem zP_6_2 (Z : zZ) (S : zS) (a : Nat) (v : Option Nat) : zfs (zsQ Z a 2 v) S a 6 = (zfs Z S a 6).set 2 (va_rf v) := by
  simp [zfs, zI_sI, zJ_sJ, zR_sR, zQ_sQ, zI_sJ, zI_sR, zJ_sI, zJ_sR, zR_sI, zR_sJ]
theorem zP_6_3 (Z : zZ) (S : zS) (a : Nat) (v : Option Nat) : zfs (zsQ Z a 3 v) S a 6 = (zfs Z S a 6).set 3 (va_rf v) := by
  simp [zfs, zI_sI, zJ_sJ, zR_sR, zQ_sQ, zI_sJ, zI_sR, zJ_sI, zJ_sR, zR_sI, zR_sJ]
theorem zP_7_0 (Z : zZ) (S : zS) (a : Nat) (v : Int32) : zfs Z (zsI S a 0 v) a 7 = (zfs Z S a 7).set 0 (.int v) := by
  simp [zfs, zI_sI, zJ_sJ, zR_sR, zQ_sQ, zI_sJ, zI_sR, zJ_sI, zJ_sR, zR_sI, zR_sJ]
theorem zP_7_1 (Z : zZ) (S : zS) (a : Nat) (v : Int32) : zfs Z (zsI S a 1 v) a 7 = (zfs Z S a 7).set 1 (.int v) := by
  simp [zfs, zI_sI, zJ_sJ, zR_sR, zQ_sQ, zI_sJ, zI_sR, zJ_sI, zJ_sR, zR_sI, zR_sJ]
theorem zP_7_2 (Z : zZ) (S : zS) (a : Nat) (v : Int32) : zfs Z (zsI S a 2 v) a 7 = (zfs Z S a 7).set 2 (.int v) := by
  simp [zfs, zI_sI, zJ_sJ, zR_sR, zQ_sQ, zI_sJ, zI_sR, zJ_sI, zJ_sR, zR_sI, zR_sJ]
theorem zP_7_3 (Z : zZ) (S : zS) (a : Nat) (v : Option Nat) : zfs (zsQ Z a 3 v) S a 7 = (zfs Z S a 7).set 3 (va_rf v) := by
  simp [zfs, zI_sI, zJ_sJ, zR_sR, zQ_sQ, zI_sJ, zI_sR, zJ_sI, zJ_sR, zR_sI, zR_sJ]
theorem zP_7_4 (Z : zZ) (S : zS) (a : Nat) (v : Option Nat) : zfs (zsQ Z a 4 v) S a 7 = (zfs Z S a 7).set 4 (va_rf v) := by
  simp [zfs, zI_sI, zJ_sJ, zR_sR, zQ_sQ, zI_sJ, zI_sR, zJ_sI, zJ_sR, zR_sI, zR_sJ]
theorem zP_7_5 (Z : zZ) (S : zS) (a : Nat) (v : Option Nat) : zfs (zsQ Z a 5 v) S a 7 = (zfs Z S a 7).set 5 (va_rf v) := by
  simp [zfs, zI_sI, zJ_sJ, zR_sR, zQ_sQ, zI_sJ, zI_sR, zJ_sI, zJ_sR, zR_sI, zR_sJ]
theorem zP_7_6 (Z : zZ) (S : zS) (a : Nat) (v : Option Nat) : zfs (zsQ Z a 6 v) S a 7 = (zfs Z S a 7).set 6 (va_rf v) := by
  simp [zfs, zI_sI, zJ_sJ, zR_sR, zQ_sQ, zI_sJ, zI_sR, zJ_sI, zJ_sR, zR_sI, zR_sJ]
theorem zP_7_7 (Z : zZ) (S : zS) (a : Nat) (v : Option Nat) : zfs (zsQ Z a 7 v) S a 7 = (zfs Z S a 7).set 7 (va_rf v) := by
  simp [zfs, zI_sI, zJ_sJ, zR_sR, zQ_sQ, zI_sJ, zI_sR, zJ_sI, zJ_sR, zR_sI, zR_sJ]
theorem zP_7_8 (Z : zZ) (S : zS) (a : Nat) (v : Option Nat) : zfs (zsQ Z a 8 v) S a 7 = (zfs Z S a 7).set 8 (va_rf v) := by
  simp [zfs, zI_sI, zJ_sJ, zR_sR, zQ_sQ, zI_sJ, zI_sR, zJ_sI, zJ_sR, zR_sI, zR_sJ]
theorem zP_7_9 (Z : zZ) (S : zS) (a : Nat) (v : Option Nat) : zfs (zsQ Z a 9 v) S a 7 = (zfs Z S a 7).set 9 (va_rf v) := by
  simp [zfs, zI_sI, zJ_sJ, zR_sR, zQ_sQ, zI_sJ, zI_sR, zJ_sI, zJ_sR, zR_sI, zR_sJ]
theorem zP_7_10 (Z : zZ) (S : zS) (a : Nat) (v : Option Nat) : zfs (zsQ Z a 10 v) S a 7 = (zfs Z S a 7).set 10 (va_rf v) := by
  simp [zfs, zI_sI, zJ_sJ, zR_sR, zQ_sQ, zI_sJ, zI_sR, zJ_sI, zJ_sR, zR_sI, zR_sJ]
theorem zP_7_11 (Z : zZ) (S : zS) (a : Nat) (v : Option Nat) : zfs (zsQ Z a 11 v) S a 7 = (zfs Z S a 7).set 11 (va_rf v) := by
  simp [zfs, zI_sI, zJ_sJ, zR_sR, zQ_sQ, zI_sJ, zI_sR, zJ_sI, zJ_sR, zR_sI, zR_sJ]
theorem zP_7_12 (Z : zZ) (S : zS) (a : Nat) (v : Option Nat) : zfs (zsQ Z a 12 v) S a 7 = (zfs Z S a 7).set 12 (va_rf v) := by
  simp [zfs, zI_sI, zJ_sJ, zR_sR, zQ_sQ, zI_sJ, zI_sR, zJ_sI, zJ_sR, zR_sI, zR_sJ]
theorem zP_7_13 (Z : zZ) (S : zS) (a : Nat) (v : Option Nat) : zfs (zsQ Z a 13 v) S a 7 = (zfs Z S a 7).set 13 (va_rf v) := by
  simp [zfs, zI_sI, zJ_sJ, zR_sR, zQ_sQ, zI_sJ, zI_sR, zJ_sI, zJ_sR, zR_sI, zR_sJ]
theorem zP_7_14 (Z : zZ) (S : zS) (a : Nat) (v : Option Nat) : zfs (zsQ Z a 14 v) S a 7 = (zfs Z S a 7).set 14 (va_rf v) := by
  simp [zfs, zI_sI, zJ_sJ, zR_sR, zQ_sQ, zI_sJ, zI_sR, zJ_sI, zJ_sR, zR_sI, zR_sJ]
theorem zP_7_15 (Z : zZ) (S : zS) (a : Nat) (v : Option Nat) : zfs (zsQ Z a 15 v) S a 7 = (zfs Z S a 7).set 15 (va_rf v) := by
  simp [zfs, zI_sI, zJ_sJ, zR_sR, zQ_sQ, zI_sJ, zI_sR, zJ_sI, zJ_sR, zR_sI, zR_sJ]
theorem zP_7_16 (Z : zZ) (S : zS) (a : Nat) (v : Option Nat) : zfs (zsQ Z a 16 v) S a 7 = (zfs Z S a 7).set 16 (va_rf v) := by
  simp [zfs, zI_sI, zJ_sJ, zR_sR, zQ_sQ, zI_sJ, zI_sR, zJ_sI, zJ_sR, zR_sI, zR_sJ]
theorem zP_7_17 (Z : zZ) (S : zS) (a : Nat) (v : Option Nat) : zfs (zsQ Z a 17 v) S a 7 = (zfs Z S a 7).set 17 (va_rf v) := by
  simp [zfs, zI_sI, zJ_sJ, zR_sR, zQ_sQ, zI_sJ, zI_sR, zJ_sI, zJ_sR, zR_sI, zR_sJ]
theorem zP_7_18 (Z : zZ) (S : zS) (a : Nat) (v : Option Nat) : zfs (zsQ Z a 18 v) S a 7 = (zfs Z S a 7).set 18 (va_rf v) := by
  simp [zfs, zI_sI, zJ_sJ, zR_sR, zQ_sQ, zI_sJ, zI_sR, zJ_sI, zJ_sR, zR_sI, zR_sJ]
theorem zP_7_19 (Z : zZ) (S : zS) (a : Nat) (v : Option Nat) : zfs (zsQ Z a 19 v) S a 7 = (zfs Z S a 7).set 19 (va_rf v) := by
  simp [zfs, zI_sI, zJ_sJ, zR_sR, zQ_sQ, zI_sJ, zI_sR, zJ_sI, zJ_sR, zR_sI, zR_sJ]
theorem zP_7_20 (Z : zZ) (S : zS) (a : Nat) (v : Option Nat) : zfs (zsQ Z a 20 v) S a 7 = (zfs Z S a 7).set 20 (va_rf v) := by
  simp [zfs, zI_sI, zJ_sJ, zR_sR, zQ_sQ, zI_sJ, zI_sR, zJ_sI, zJ_sR, zR_sI, zR_sJ]
theorem zP_7_21 (Z : zZ) (S : zS) (a : Nat) (v : Option Nat) : zfs (zsQ Z a 21 v) S a 7 = (zfs Z S a 7).set 21 (va_rf v) := by
  simp [zfs, zI_sI, zJ_sJ, zR_sR, zQ_sQ, zI_sJ, zI_sR, zJ_sI, zJ_sR, zR_sI, zR_sJ]
theorem zP_7_22 (Z : zZ) (S : zS) (a : Nat) (v : Option Nat) : zfs (zsQ Z a 22 v) S a 7 = (zfs Z S a 7).set 22 (va_rf v) := by
  simp [zfs, zI_sI, zJ_sJ, zR_sR, zQ_sQ, zI_sJ, zI_sR, zJ_sI, zJ_sR, zR_sI, zR_sJ]
theorem zP_7_23 (Z : zZ) (S : zS) (a : Nat) (v : Option Nat) : zfs (zsQ Z a 23 v) S a 7 = (zfs Z S a 7).set 23 (va_rf v) := by
  simp [zfs, zI_sI, zJ_sJ, zR_sR, zQ_sQ, zI_sJ, zI_sR, zJ_sI, zJ_sR, zR_sI, zR_sJ]
theorem zP_7_24 (Z : zZ) (S : zS) (a : Nat) (v : Option Nat) : zfs (zsQ Z a 24 v) S a 7 = (zfs Z S a 7).set 24 (va_rf v) := by
  simp [zfs, zI_sI, zJ_sJ, zR_sR, zQ_sQ, zI_sJ, zI_sR, zJ_sI, zJ_sR, zR_sI, zR_sJ]
theorem zP_7_25 (Z : zZ) (S : zS) (a : Nat) (v : Option Nat) : zfs (zsQ Z a 25 v) S a 7 = (zfs Z S a 7).set 25 (va_rf v) := by
  simp [zfs, zI_sI, zJ_sJ, zR_sR, zQ_sQ, zI_sJ, zI_sR, zJ_sI, zJ_sR, zR_sI, zR_sJ]
theorem zP_7_26 (Z : zZ) (S : zS) (a : Nat) (v : Option Nat) : zfs (zsQ Z a 26 v) S a 7 = (zfs Z S a 7).set 26 (va_rf v) := by
  simp [zfs, zI_sI, zJ_sJ, zR_sR, zQ_sQ, zI_sJ, zI_sR, zJ_sI, zJ_sR, zR_sI, zR_sJ]
theorem zP_7_27 (Z : zZ) (S : zS) (a : Nat) (v : Option Nat) : zfs (zsQ Z a 27 v) S a 7 = (zfs Z S a 7).set 27 (va_rf v) := by
  simp [zfs, zI_sI, zJ_sJ, zR_sR, zQ_sQ, zI_sJ, zI_sR, zJ_sI, zJ_sR, zR_sI, zR_sJ]
theorem zP_7_28 (Z : zZ) (S : zS) (a : Nat) (v : Option Nat) : zfs (zsQ Z a 28 v) S a 7 = (zfs Z S a 7).set 28 (va_rf v) := by
  simp [zfs, zI_sI, zJ_sJ, zR_sR, zQ_sQ, zI_sJ, zI_sR, zJ_sI, zJ_sR, zR_sI, zR_sJ]
theorem zP_7_29 (Z : zZ) (S : zS) (a : Nat) (v : Option Nat) : zfs (zsQ Z a 29 v) S a 7 = (zfs Z S a 7).set 29 (va_rf v) := by
  simp [zfs, zI_sI, zJ_sJ, zR_sR, zQ_sQ, zI_sJ, zI_sR, zJ_sI, zJ_sR, zR_sI, zR_sJ]
theorem zP_7_30 (Z : zZ) (S : zS) (a : Nat) (v : Option Nat) : zfs (zsQ Z a 30 v) S a 7 = (zfs Z S a 7).set 30 (va_rf v) := by
  simp [zfs, zI_sI, zJ_sJ, zR_sR, zQ_sQ, zI_sJ, zI_sR, zJ_sI, zJ_sR, zR_sI, zR_sJ]
theorem zP_7_31 (Z : zZ) (S : zS) (a : Nat) (v : Option Nat) : zfs (zsQ Z a 31 v) S a 7 = (zfs Z S a 7).set 31 (va_rf v) := by
  simp [zfs, zI_sI, zJ_sJ, zR_sR, zQ_sQ, zI_sJ, zI_sR, zJ_sI, zJ_sR, zR_sI, zR_sJ]
theorem zP_7_32 (Z : zZ) (S : zS) (a : Nat) (v : Option Nat) : zfs (zsQ Z a 32 v) S a 7 = (zfs Z S a 7).set 32 (va_rf v) := by
  simp [zfs, zI_sI, zJ_sJ, zR_sR, zQ_sQ, zI_sJ, zI_sR, zJ_sI, zJ_sR, zR_sI, zR_sJ]
theorem zP_7_33 (Z : zZ) (S : zS) (a : Nat) (v : Option Nat) : zfs (zsQ Z a 33 v) S a 7 = (zfs Z S a 7).set 33 (va_rf v) := by
  simp [zfs, zI_sI, zJ_sJ, zR_sR, zQ_sQ, zI_sJ, zI_sR, zJ_sI, zJ_sR, zR_sI, zR_sJ]
theorem zP_7_34 (Z : zZ) (S : zS) (a : Nat) (v : Option Nat) : zfs (zsQ Z a 34 v) S a 7 = (zfs Z S a 7).set 34 (va_rf v) := by
  simp [zfs, zI_sI, zJ_sJ, zR_sR, zQ_sQ, zI_sJ, zI_sR, zJ_sI, zJ_sR, zR_sI, zR_sJ]
theorem zP_7_35 (Z : zZ) (S : zS) (a : Nat) (v : Option Nat) : zfs (zsQ Z a 35 v) S a 7 = (zfs Z S a 7).set 35 (va_rf v) := by
  simp [zfs, zI_sI, zJ_sJ, zR_sR, zQ_sQ, zI_sJ, zI_sR, zJ_sI, zJ_sR, zR_sI, zR_sJ]
theorem zget {cy : Nat → ClassId} {Z : zZ} {S : zS} {a : Nat} {e : va_E} (h : a ∈ zL Z) (he : zF cy Z S a = e) : ∃ k : Nat, (zW cy Z S)[k]? = some (a, e) := by
  obtain ⟨k, hk⟩ := va_pl_get (X := []) (f := zF cy Z S) h
  exact ⟨k, he ▸ hk⟩
theorem zset {cy : Nat → ClassId} {Z Z' : zZ} {S S' : zS} {A : Nat → Prop} {a k : Nat} {e0 e : va_E} (hD : va_D A (zW cy Z S)) (h : a ∈ zL Z) (he0 : zF cy Z S a = e0) (hk : (zW cy Z S)[k]? = some (a, e0)) (hL : zL Z' = zL Z) (he : zF cy Z' S' a = e) (hoff : ∀ b, b ≠ a → zF cy Z' S' b = zF cy Z S b) : (zW cy Z S).set k (a, e) = zW cy Z' S' := by
  subst he0
  have h1 := va_pl_set (X := []) (f := zF cy Z S) (e := e) hD h hk
  have h2 : va_pl (zL Z) (va_up (zF cy Z S) a e) = zW cy Z' S' := by
    unfold zW
    rw [hL]
    refine va_pl_congr (fun b => ?_)
    by_cases hb : b = a
    · subst hb
      rw [va_up_self, he]
    · rw [va_up_ne _ _ hb, hoff b hb]
  exact h1.trans h2
theorem zwm {i : Nat} {w : Cond} {Ts : List Cond} (h : Ts[i]? = some w) : w ∈ Ts := List.mem_of_getElem? h
theorem zrfc (r : Option Nat) : (va_rf r).category = 1 := by cases r <;> rfl
/-- the texts of the throws -/
def zTx : List (Nat × String) := [(66, "the node is not up or has too much pending"), (86, "the node does not hold a token"), (122, "the node is not up"), (158, "there is no such group"), (168, "the node is up"), (206, "nothing is told of that number"), (221, "there is no such entry"), (224, "an entry has no such part"), (233, "there is no such node"), (235, "there is no such key")]
/-- words that stand beside the lists: nest mates' links -/
def zBw : List Cond := [.methodLinkNest RX6 24 yX5_init RX6, .methodLinkNest RX2 11 yX3_init RX6, .methodLinkNest RX2 20 yX4_init RX6, .methodLinkNest RX2 27 yX0_init RX6, .methodLinkNest RX2 88 yX6_isIn RX6, .methodLinkNest RX5 29 yX6_leastOf RX6, .methodLinkNest RX5 36 yX6_isIn RX6, .castable "java/lang/IllegalStateException" "java/lang/IllegalStateException", .castable "java/lang/IndexOutOfBoundsException" "java/lang/IndexOutOfBoundsException", .castable "java/lang/IllegalArgumentException" "java/lang/IllegalArgumentException", .declares ⟨"java/lang/RuntimeException", "<init>", "(Ljava/lang/String;)V"⟩, .declares ⟨"java/lang/Exception", "<init>", "(Ljava/lang/String;)V"⟩, .declares ⟨"java/lang/Throwable", "<init>", "(Ljava/lang/String;)V"⟩]
theorem zBw_on : ∀ w ∈ zBw, w.onTables = true := by decide +kernel
theorem zBw_warm {s U : State} (hW : s.WarmedH U.vm) : ∀ w ∈ zBw, va_Nw w s → va_Nw w U := by
  intro w hw h
  simp only [zBw, List.mem_cons, List.not_mem_nil, or_false] at hw
  rcases hw with rfl | rfl | rfl | rfl | rfl | rfl | rfl | rfl | rfl | rfl | rfl | rfl | rfl <;> first | exact va_Nw.warmM hW h | exact va_Nw.warmC hW h | exact va_Nw.warmD hW h
/-- what a method stands on, beside the words of its list -/
def zV (D : va_G) (cy : Nat → ClassId) (A : Nat → Prop) (U : State) (H : Heap) : Prop := va_K D vwCl (zTy cy) U ∧ (∀ w ∈ zBw, va_Nw w U) ∧ vx_Zq Bundle.tN "UNASSIGNED_STACK" Bundle.steD A U H ∧ vx_Zq Bundle.tN "SUPPRESSED_SENTINEL" Bundle.listD A U H ∧ (∀ x ∈ zTx, ∃ sa : Nat, vk_R RX6 x.1 x.2 sa U) ∧ va_AO RX1 U ∧ va_AO RX2 U ∧ va_AO RX5 U ∧ va_Nc "java/lang/IllegalStateException" "java/lang/IndexOutOfBoundsException" U ∧ va_Nc "java/lang/IllegalArgumentException" "java/lang/IndexOutOfBoundsException" U
theorem zV.blind {D : va_G} {cy : Nat → ClassId} {A : Nat → Prop} {U : State} {H : Heap} {g : JFrame} {mk : MethodId} {a : Array Value} (h : zV D cy A U H) : zV D cy A (U.calling g mk a) H := by
  obtain ⟨h1, h2, h3, h4, h5, h7, h8, h9, h10, h11⟩ := h
  refine ⟨va_K.moved (u := U) (U := U.calling g mk a) (Vm.Alike.refl U.vm) h1, fun w hw => va_Nw.same (zBw_on w hw) (u := U) rfl (h2 w hw), vx_Zq.moved (u := U) (U := U.calling g mk a) (Vm.Alike.refl U.vm) h3, vx_Zq.moved (u := U) (U := U.calling g mk a) (Vm.Alike.refl U.vm) h4, fun x hx => ?_, va_AO.moved (u := U) (U := U.calling g mk a) (Vm.Alike.refl U.vm) h7, va_AO.moved (u := U) (U := U.calling g mk a) (Vm.Alike.refl U.vm) h8, va_AO.moved (u := U) (U := U.calling g mk a) (Vm.Alike.refl U.vm) h9, va_Nc.moved (u := U) (U := U.calling g mk a) (Vm.Alike.refl U.vm) h10, va_Nc.moved (u := U) (U := U.calling g mk a) (Vm.Alike.refl U.vm) h11⟩
  obtain ⟨sa, h6⟩ := h5 x hx
  exact ⟨sa, vk_R.same (u := U) rfl h6⟩
theorem zV.call {D : va_G} {cy : Nat → ClassId} {A A1 : Nat → Prop} {s U : State} {H : Heap} {locs : List Loc} (h : zV D cy A s s.heap) (hS : va_S A s.heap H locs) (hA : ∀ q, A1 q → A q) (hU : U.heap = H) (hW : s.WarmedH U.vm) : zV D cy A1 U U.heap := by
  obtain ⟨h1, h2, h3, h4, h5, h7, h8, h9, h10, h11⟩ := h
  refine ⟨va_K.moved hW.alike h1, fun w hw => zBw_warm hW w hw (h2 w hw), ?_, ?_, fun x hx => ?_, va_AO.moved hW.alike h7, va_AO.moved hW.alike h8, va_AO.moved hW.alike h9, va_Nc.moved hW.alike h10, va_Nc.moved hW.alike h11⟩
  · rw [hU]
    exact vx_Zq.moved hW.alike ((h3.kept hS.2.1).narrow hA)
  · rw [hU]
    exact vx_Zq.moved hW.alike ((h4.kept hS.2.1).narrow hA)
  · obtain ⟨sa, h6⟩ := h5 x hx
    exact ⟨sa, vk_R.warm hW h6⟩
/-- a contract's start and ends -/
def zPc (D : va_G) (cy : Nat → ClassId) (Z : zZ) (S : zS) (sz : Nat) (av : List Value) : Array Value → State → Prop := va_Pc av (fun U => U.heap.size = sz ∧ va_P D vwCl (zW cy Z S) U.heap ∧ va_D (fun _ => True) (zW cy Z S) ∧ zV D cy (va_A (zW cy Z S) sz) U U.heap)
def zB (D : va_G) (cy : Nat → ClassId) (A : Nat → Prop) (Z : zZ) (u : zS) (t : State) : Prop := va_P D vwCl (zW cy Z u) t.heap ∧ va_D A (zW cy Z u)
theorem zPc_blind {D : va_G} {cy : Nat → ClassId} {Z : zZ} {S : zS} {sz : Nat} {av : List Value} : FrameBlind (zPc D cy Z S sz av) := fun a U g mk q => by
  obtain ⟨q0, q1, q2, q3, q4⟩ := q
  exact ⟨q0, q1, q2, q3, q4.blind⟩
abbrev zA (cy : Nat → ClassId) (Z : zZ) (S : zS) (sz : Nat) : Nat → Prop := va_A (zW cy Z S) sz
/-- the judgement: from here, whatever the heap that holds σ and the locals that hold lv, the machine comes to Q -/
def zG (p : Program) (l : Launch) (e : Env) (R : Room) (s : State) (m : MethodId) (args : Array Value) (below : List Frame) (meth : Method) (c : Code) (D : va_G) (cy : Nat → ClassId) (A : Nat → Prop) (nL : Nat) (cells slots : Nat) (Q : State → Prop) (Z : zZ) (S : zS) (pc : Nat) (lv : List (Nat × Value)) (st : List Value) : Prop :=
  ∀ (H : Heap) (locs : List Loc) (ls : Array Slot), va_P D vwCl (zW cy Z S) H → va_D A (zW cy Z S) → va_S A s.heap H locs → lv_has ls nL lv → W p l e R s m args below meth c H locs cells slots Q (F0 m pc ls st)
def zC (p : Program) (s : State) (m : MethodId) (args : Array Value) (meth : Method) (c : Code) (cc : ByteArray) (nL : Nat) (Ts : List Cond) (own : String) (D : va_G) (cy : Nat → ClassId) (A : Nat → Prop) (rt : Option FieldType) : Prop :=
  CallFix p m c cc nL s args Ts own ∧ zV D cy A s s.heap ∧ (∀ q, s.heap.size ≤ q → A q) ∧ meth.sig.returnType = rt ∧ meth.locks = false
section ZR
variable {p : Program} {l : Launch} {e : Env} {R : Room} {s : State} {m : MethodId} {args : Array Value} {below : List Frame} {meth : Method} {c : Code} {D : va_G} {cy : Nat → ClassId} {A : Nat → Prop} {nL cells slots : Nat} {Q : State → Prop} {Z : zZ} {S : zS} {pc q : Nat} {lv lv' : List (Nat × Value)} {st : List Value} {cc : ByteArray} {Ts : List Cond} {own : String} {rt : Option FieldType}
theorem zg_iconst (C0 : zC p s m args meth c cc nL Ts own D cy A rt) {n : Int} {v : Int32} (hdg : decode cc pc = .ok (.iconst n, 1)) (hv : Int32.ofInt n = v) (hq : pc + 1 = q) (kk : zG p l e R s m args below meth c D cy A nL cells slots Q Z S (q) lv (.int v :: st)) : zG p l e R s m args below meth c D cy A nL cells slots Q Z S (pc) lv (st) := by
  subst hq
  exact fun H locs ls hP hD hS hl => lv_iconst C0.1.1 C0.1.2.1 hdg hv (kk H locs ls hP hD hS hl)
theorem zg_bipush (C0 : zC p s m args meth c cc nL Ts own D cy A rt) {n : Int} {v : Int32} (hdg : decode cc pc = .ok (.bipush n, 2)) (hv : (Int8.ofInt n).toInt32 = v) (hq : pc + 2 = q) (kk : zG p l e R s m args below meth c D cy A nL cells slots Q Z S (q) lv (.int v :: st)) : zG p l e R s m args below meth c D cy A nL cells slots Q Z S (pc) lv (st) := by
  subst hq
  exact fun H locs ls hP hD hS hl => lv_bipush C0.1.1 C0.1.2.1 hdg hv (kk H locs ls hP hD hS hl)
theorem zg_sipush (C0 : zC p s m args meth c cc nL Ts own D cy A rt) {n : Int} {v : Int32} (hdg : decode cc pc = .ok (.sipush n, 3)) (hv : (Int16.ofInt n).toInt32 = v) (hq : pc + 3 = q) (kk : zG p l e R s m args below meth c D cy A nL cells slots Q Z S (q) lv (.int v :: st)) : zG p l e R s m args below meth c D cy A nL cells slots Q Z S (pc) lv (st) := by
  subst hq
  exact fun H locs ls hP hD hS hl => lv_sipush C0.1.1 C0.1.2.1 hdg hv (kk H locs ls hP hD hS hl)
theorem zg_lconst (C0 : zC p s m args meth c cc nL Ts own D cy A rt) {n : Fin 2} {v : Int64} (hdg : decode cc pc = .ok (.lconst n, 1)) (hv : Int64.ofNat (n : Nat) = v) (hq : pc + 1 = q) (kk : zG p l e R s m args below meth c D cy A nL cells slots Q Z S (q) lv (.long v :: st)) : zG p l e R s m args below meth c D cy A nL cells slots Q Z S (pc) lv (st) := by
  subst hq
  exact fun H locs ls hP hD hS hl => lv_lconst C0.1.1 C0.1.2.1 hdg hv (kk H locs ls hP hD hS hl)
theorem zg_iload_n (C0 : zC p s m args meth c cc nL Ts own D cy A rt) {k : Fin 4} {x : Int32} (j : Nat) (hdg : decode cc pc = .ok (.iload_n k, 1)) (hj : lv[j]? = some (k.val, .int x)) (hq : pc + 1 = q) (kk : zG p l e R s m args below meth c D cy A nL cells slots Q Z S (q) lv (.int x :: st)) : zG p l e R s m args below meth c D cy A nL cells slots Q Z S (pc) lv (st) := by
  subst hq
  exact fun H locs ls hP hD hS hl => lv_iload_n C0.1.1 C0.1.2.1 hdg rfl (lv_at hl j hj) (kk H locs ls hP hD hS hl)
theorem zg_iload (C0 : zC p s m args meth c cc nL Ts own D cy A rt) {i : Nat} {x : Int32} (j : Nat) (hdg : decode cc pc = .ok (.iload i, 2)) (hj : lv[j]? = some (i, .int x)) (hq : pc + 2 = q) (kk : zG p l e R s m args below meth c D cy A nL cells slots Q Z S (q) lv (.int x :: st)) : zG p l e R s m args below meth c D cy A nL cells slots Q Z S (pc) lv (st) := by
  subst hq
  exact fun H locs ls hP hD hS hl => lv_iload C0.1.1 C0.1.2.1 hdg (lv_at hl j hj) (kk H locs ls hP hD hS hl)
theorem zg_lload_n (C0 : zC p s m args meth c cc nL Ts own D cy A rt) {k : Fin 4} {x : Int64} (j : Nat) (hdg : decode cc pc = .ok (.lload_n k, 1)) (hj : lv[j]? = some (k.val, .long x)) (hq : pc + 1 = q) (kk : zG p l e R s m args below meth c D cy A nL cells slots Q Z S (q) lv (.long x :: st)) : zG p l e R s m args below meth c D cy A nL cells slots Q Z S (pc) lv (st) := by
  subst hq
  exact fun H locs ls hP hD hS hl => lv_lload_n C0.1.1 C0.1.2.1 hdg rfl (lv_at hl j hj) (kk H locs ls hP hD hS hl)
theorem zg_lload (C0 : zC p s m args meth c cc nL Ts own D cy A rt) {i : Nat} {x : Int64} (j : Nat) (hdg : decode cc pc = .ok (.lload i, 2)) (hj : lv[j]? = some (i, .long x)) (hq : pc + 2 = q) (kk : zG p l e R s m args below meth c D cy A nL cells slots Q Z S (q) lv (.long x :: st)) : zG p l e R s m args below meth c D cy A nL cells slots Q Z S (pc) lv (st) := by
  subst hq
  exact fun H locs ls hP hD hS hl => lv_lload C0.1.1 C0.1.2.1 hdg (lv_at hl j hj) (kk H locs ls hP hD hS hl)
theorem zg_aload_n (C0 : zC p s m args meth c cc nL Ts own D cy A rt) {k : Fin 4} {x : Nat} (j : Nat) (hdg : decode cc pc = .ok (.aload_n k, 1)) (hj : lv[j]? = some (k.val, .ref x)) (hq : pc + 1 = q) (kk : zG p l e R s m args below meth c D cy A nL cells slots Q Z S (q) lv (.ref x :: st)) : zG p l e R s m args below meth c D cy A nL cells slots Q Z S (pc) lv (st) := by
  subst hq
  exact fun H locs ls hP hD hS hl => lv_aload_n C0.1.1 C0.1.2.1 hdg rfl (lv_at hl j hj) (kk H locs ls hP hD hS hl)
theorem zg_aload (C0 : zC p s m args meth c cc nL Ts own D cy A rt) {i : Nat} {x : Nat} (j : Nat) (hdg : decode cc pc = .ok (.aload i, 2)) (hj : lv[j]? = some (i, .ref x)) (hq : pc + 2 = q) (kk : zG p l e R s m args below meth c D cy A nL cells slots Q Z S (q) lv (.ref x :: st)) : zG p l e R s m args below meth c D cy A nL cells slots Q Z S (pc) lv (st) := by
  subst hq
  exact fun H locs ls hP hD hS hl => lv_aload C0.1.1 C0.1.2.1 hdg (lv_at hl j hj) (kk H locs ls hP hD hS hl)
theorem zg_aloadq_n (C0 : zC p s m args meth c cc nL Ts own D cy A rt) {k : Fin 4} {r : Option Nat} (j : Nat) (hdg : decode cc pc = .ok (.aload_n k, 1)) (hj : lv[j]? = some (k.val, va_rf r)) (hq : pc + 1 = q) (kk : zG p l e R s m args below meth c D cy A nL cells slots Q Z S (q) lv (va_rf r :: st)) : zG p l e R s m args below meth c D cy A nL cells slots Q Z S (pc) lv (st) := by
  subst hq
  intro H locs ls hP hD hS hl
  cases r with
  | none => exact lv_aload_nN C0.1.1 C0.1.2.1 hdg rfl (lv_at hl j hj) (kk H locs ls hP hD hS hl)
  | some b => exact lv_aload_n C0.1.1 C0.1.2.1 hdg rfl (lv_at hl j hj) (kk H locs ls hP hD hS hl)
theorem zg_aloadq (C0 : zC p s m args meth c cc nL Ts own D cy A rt) {i : Nat} {r : Option Nat} (j : Nat) (hdg : decode cc pc = .ok (.aload i, 2)) (hj : lv[j]? = some (i, va_rf r)) (hq : pc + 2 = q) (kk : zG p l e R s m args below meth c D cy A nL cells slots Q Z S (q) lv (va_rf r :: st)) : zG p l e R s m args below meth c D cy A nL cells slots Q Z S (pc) lv (st) := by
  subst hq
  intro H locs ls hP hD hS hl
  cases r with
  | none => exact lv_aloadN C0.1.1 C0.1.2.1 hdg (lv_at hl j hj) (kk H locs ls hP hD hS hl)
  | some b => exact lv_aload C0.1.1 C0.1.2.1 hdg (lv_at hl j hj) (kk H locs ls hP hD hS hl)
theorem zg_istore_n (C0 : zC p s m args meth c cc nL Ts own D cy A rt) {k : Fin 4} {x : Int32} (hdg : decode cc pc = .ok (.istore_n k, 1)) (hn : k.val < nL) (hv : (k.val, Value.int x) :: lv.filter (fun q => !(q.1 == k.val) && !(q.1 + 1 == k.val && q.2.category == 2)) = lv') (hq : pc + 1 = q) (kk : zG p l e R s m args below meth c D cy A nL cells slots Q Z S (q) lv' (st)) : zG p l e R s m args below meth c D cy A nL cells slots Q Z S (pc) lv (Value.int x :: st) := by
  subst hq
  exact fun H locs ls hP hD hS hl => lv_istore_n C0.1.1 C0.1.2.1 hdg rfl hl hn hv (fun ls' hl' => kk H locs ls' hP hD hS hl')
theorem zg_istore (C0 : zC p s m args meth c cc nL Ts own D cy A rt) {i : Nat} {x : Int32} (hdg : decode cc pc = .ok (.istore i, 2)) (hn : i < nL) (hv : (i, Value.int x) :: lv.filter (fun q => !(q.1 == i) && !(q.1 + 1 == i && q.2.category == 2)) = lv') (hq : pc + 2 = q) (kk : zG p l e R s m args below meth c D cy A nL cells slots Q Z S (q) lv' (st)) : zG p l e R s m args below meth c D cy A nL cells slots Q Z S (pc) lv (Value.int x :: st) := by
  subst hq
  exact fun H locs ls hP hD hS hl => lv_istore C0.1.1 C0.1.2.1 hdg hl hn hv (fun ls' hl' => kk H locs ls' hP hD hS hl')
theorem zg_lstore_n (C0 : zC p s m args meth c cc nL Ts own D cy A rt) {k : Fin 4} {x : Int64} (hdg : decode cc pc = .ok (.lstore_n k, 1)) (hn : k.val + 1 < nL) (hv : (k.val, Value.long x) :: lv.filter (fun q => !(q.1 == k.val) && (!(q.1 == k.val + 1) && !(q.1 + 1 == k.val && q.2.category == 2))) = lv') (hq : pc + 1 = q) (kk : zG p l e R s m args below meth c D cy A nL cells slots Q Z S (q) lv' (st)) : zG p l e R s m args below meth c D cy A nL cells slots Q Z S (pc) lv (Value.long x :: st) := by
  subst hq
  exact fun H locs ls hP hD hS hl => lv_lstore_n C0.1.1 C0.1.2.1 hdg rfl hl hn hv (fun ls' hl' => kk H locs ls' hP hD hS hl')
theorem zg_lstore (C0 : zC p s m args meth c cc nL Ts own D cy A rt) {i : Nat} {x : Int64} (hdg : decode cc pc = .ok (.lstore i, 2)) (hn : i + 1 < nL) (hv : (i, Value.long x) :: lv.filter (fun q => !(q.1 == i) && (!(q.1 == i + 1) && !(q.1 + 1 == i && q.2.category == 2))) = lv') (hq : pc + 2 = q) (kk : zG p l e R s m args below meth c D cy A nL cells slots Q Z S (q) lv' (st)) : zG p l e R s m args below meth c D cy A nL cells slots Q Z S (pc) lv (Value.long x :: st) := by
  subst hq
  exact fun H locs ls hP hD hS hl => lv_lstore C0.1.1 C0.1.2.1 hdg hl hn hv (fun ls' hl' => kk H locs ls' hP hD hS hl')
theorem zg_astore_n (C0 : zC p s m args meth c cc nL Ts own D cy A rt) {k : Fin 4} {x : Nat} (hdg : decode cc pc = .ok (.astore_n k, 1)) (hn : k.val < nL) (hv : (k.val, Value.ref x) :: lv.filter (fun q => !(q.1 == k.val) && !(q.1 + 1 == k.val && q.2.category == 2)) = lv') (hq : pc + 1 = q) (kk : zG p l e R s m args below meth c D cy A nL cells slots Q Z S (q) lv' (st)) : zG p l e R s m args below meth c D cy A nL cells slots Q Z S (pc) lv (Value.ref x :: st) := by
  subst hq
  exact fun H locs ls hP hD hS hl => lv_astore_n C0.1.1 C0.1.2.1 hdg rfl hl hn hv (fun ls' hl' => kk H locs ls' hP hD hS hl')
theorem zg_astore (C0 : zC p s m args meth c cc nL Ts own D cy A rt) {i : Nat} {x : Nat} (hdg : decode cc pc = .ok (.astore i, 2)) (hn : i < nL) (hv : (i, Value.ref x) :: lv.filter (fun q => !(q.1 == i) && !(q.1 + 1 == i && q.2.category == 2)) = lv') (hq : pc + 2 = q) (kk : zG p l e R s m args below meth c D cy A nL cells slots Q Z S (q) lv' (st)) : zG p l e R s m args below meth c D cy A nL cells slots Q Z S (pc) lv (Value.ref x :: st) := by
  subst hq
  exact fun H locs ls hP hD hS hl => lv_astore C0.1.1 C0.1.2.1 hdg hl hn hv (fun ls' hl' => kk H locs ls' hP hD hS hl')
theorem zg_astoreq_n (C0 : zC p s m args meth c cc nL Ts own D cy A rt) {k : Fin 4} {r : Option Nat} (hdg : decode cc pc = .ok (.astore_n k, 1)) (hn : k.val < nL) (hv : (k.val, va_rf r) :: lv.filter (fun q => !(q.1 == k.val) && !(q.1 + 1 == k.val && q.2.category == 2)) = lv') (hq : pc + 1 = q) (kk : zG p l e R s m args below meth c D cy A nL cells slots Q Z S (q) lv' (st)) : zG p l e R s m args below meth c D cy A nL cells slots Q Z S (pc) lv (va_rf r :: st) := by
  subst hq
  intro H locs ls hP hD hS hl
  cases r with
  | none => exact lv_astore_nN C0.1.1 C0.1.2.1 hdg rfl hl hn hv (fun ls' hl' => kk H locs ls' hP hD hS hl')
  | some b => exact lv_astore_n C0.1.1 C0.1.2.1 hdg rfl hl hn hv (fun ls' hl' => kk H locs ls' hP hD hS hl')
theorem zg_astoreq (C0 : zC p s m args meth c cc nL Ts own D cy A rt) {i : Nat} {r : Option Nat} (hdg : decode cc pc = .ok (.astore i, 2)) (hn : i < nL) (hv : (i, va_rf r) :: lv.filter (fun q => !(q.1 == i) && !(q.1 + 1 == i && q.2.category == 2)) = lv') (hq : pc + 2 = q) (kk : zG p l e R s m args below meth c D cy A nL cells slots Q Z S (q) lv' (st)) : zG p l e R s m args below meth c D cy A nL cells slots Q Z S (pc) lv (va_rf r :: st) := by
  subst hq
  intro H locs ls hP hD hS hl
  cases r with
  | none => exact lv_astoreN C0.1.1 C0.1.2.1 hdg hl hn hv (fun ls' hl' => kk H locs ls' hP hD hS hl')
  | some b => exact lv_astore C0.1.1 C0.1.2.1 hdg hl hn hv (fun ls' hl' => kk H locs ls' hP hD hS hl')
theorem zg_iinc (C0 : zC p s m args meth c cc nL Ts own D cy A rt) {i : Nat} {n : Int} {x : Int32} (j : Nat) (hdg : decode cc pc = .ok (.iinc i n, 3)) (hj : lv[j]? = some (i, .int x)) (hn : i < nL) {d : Int32} (hd : Int32.ofInt n = d) (hq : pc + 3 = q) (kk : ∀ v : Int32, v = x + d → zG p l e R s m args below meth c D cy A nL cells slots Q Z S (q) ((i, .int v) :: lv.filter (fun q => !(q.1 == i) && !(q.1 + 1 == i && q.2.category == 2))) (st)) : zG p l e R s m args below meth c D cy A nL cells slots Q Z S (pc) lv (st) := by
  subst hq
  subst hd
  exact fun H locs ls hP hD hS hl => lv_iinc C0.1.1 C0.1.2.1 hdg hl hj rfl hn rfl (fun ls' hl' => kk _ rfl H locs ls' hP hD hS hl')
theorem zg_iadd (C0 : zC p s m args meth c cc nL Ts own D cy A rt) {x y : Int32} (hdg : decode cc pc = .ok (.iadd, 1)) (hq : pc + 1 = q) (kk : zG p l e R s m args below meth c D cy A nL cells slots Q Z S (q) lv (.int (x + y) :: st)) : zG p l e R s m args below meth c D cy A nL cells slots Q Z S (pc) lv (.int y :: .int x :: st) := by
  subst hq
  exact fun H locs ls hP hD hS hl => lv_iadd C0.1.1 C0.1.2.1 hdg (kk H locs ls hP hD hS hl)
theorem zg_isub (C0 : zC p s m args meth c cc nL Ts own D cy A rt) {x y : Int32} (hdg : decode cc pc = .ok (.isub, 1)) (hq : pc + 1 = q) (kk : zG p l e R s m args below meth c D cy A nL cells slots Q Z S (q) lv (.int (x - y) :: st)) : zG p l e R s m args below meth c D cy A nL cells slots Q Z S (pc) lv (.int y :: .int x :: st) := by
  subst hq
  exact fun H locs ls hP hD hS hl => lv_isub C0.1.1 C0.1.2.1 hdg (kk H locs ls hP hD hS hl)
theorem zg_imul (C0 : zC p s m args meth c cc nL Ts own D cy A rt) {x y : Int32} (hdg : decode cc pc = .ok (.imul, 1)) (hq : pc + 1 = q) (kk : zG p l e R s m args below meth c D cy A nL cells slots Q Z S (q) lv (.int (x * y) :: st)) : zG p l e R s m args below meth c D cy A nL cells slots Q Z S (pc) lv (.int y :: .int x :: st) := by
  subst hq
  exact fun H locs ls hP hD hS hl => lv_imul C0.1.1 C0.1.2.1 hdg (kk H locs ls hP hD hS hl)
theorem zg_iand (C0 : zC p s m args meth c cc nL Ts own D cy A rt) {x y : Int32} (hdg : decode cc pc = .ok (.iand, 1)) (hq : pc + 1 = q) (kk : zG p l e R s m args below meth c D cy A nL cells slots Q Z S (q) lv (.int (x &&& y) :: st)) : zG p l e R s m args below meth c D cy A nL cells slots Q Z S (pc) lv (.int y :: .int x :: st) := by
  subst hq
  exact fun H locs ls hP hD hS hl => lv_iand C0.1.1 C0.1.2.1 hdg (kk H locs ls hP hD hS hl)
theorem zg_ior (C0 : zC p s m args meth c cc nL Ts own D cy A rt) {x y : Int32} (hdg : decode cc pc = .ok (.ior, 1)) (hq : pc + 1 = q) (kk : zG p l e R s m args below meth c D cy A nL cells slots Q Z S (q) lv (.int (x ||| y) :: st)) : zG p l e R s m args below meth c D cy A nL cells slots Q Z S (pc) lv (.int y :: .int x :: st) := by
  subst hq
  exact fun H locs ls hP hD hS hl => lv_ior C0.1.1 C0.1.2.1 hdg (kk H locs ls hP hD hS hl)
theorem zg_ixor (C0 : zC p s m args meth c cc nL Ts own D cy A rt) {x y : Int32} (hdg : decode cc pc = .ok (.ixor, 1)) (hq : pc + 1 = q) (kk : zG p l e R s m args below meth c D cy A nL cells slots Q Z S (q) lv (.int (x ^^^ y) :: st)) : zG p l e R s m args below meth c D cy A nL cells slots Q Z S (pc) lv (.int y :: .int x :: st) := by
  subst hq
  exact fun H locs ls hP hD hS hl => lv_ixor C0.1.1 C0.1.2.1 hdg (kk H locs ls hP hD hS hl)
theorem zg_ishl (C0 : zC p s m args meth c cc nL Ts own D cy A rt) {x y : Int32} (hdg : decode cc pc = .ok (.ishl, 1)) (hq : pc + 1 = q) (kk : zG p l e R s m args below meth c D cy A nL cells slots Q Z S (q) lv (.int (x <<< (y &&& 31)) :: st)) : zG p l e R s m args below meth c D cy A nL cells slots Q Z S (pc) lv (.int y :: .int x :: st) := by
  subst hq
  exact fun H locs ls hP hD hS hl => lv_ishl C0.1.1 C0.1.2.1 hdg (kk H locs ls hP hD hS hl)
theorem zg_ishr (C0 : zC p s m args meth c cc nL Ts own D cy A rt) {x y : Int32} (hdg : decode cc pc = .ok (.ishr, 1)) (hq : pc + 1 = q) (kk : zG p l e R s m args below meth c D cy A nL cells slots Q Z S (q) lv (.int (x >>> (y &&& 31)) :: st)) : zG p l e R s m args below meth c D cy A nL cells slots Q Z S (pc) lv (.int y :: .int x :: st) := by
  subst hq
  exact fun H locs ls hP hD hS hl => lv_ishr C0.1.1 C0.1.2.1 hdg (kk H locs ls hP hD hS hl)
theorem zg_iushr (C0 : zC p s m args meth c cc nL Ts own D cy A rt) {x y : Int32} (hdg : decode cc pc = .ok (.iushr, 1)) (hq : pc + 1 = q) (kk : zG p l e R s m args below meth c D cy A nL cells slots Q Z S (q) lv (.int ((x.toUInt32 >>> (y.toUInt32 &&& Int32.toUInt32 31)).toInt32) :: st)) : zG p l e R s m args below meth c D cy A nL cells slots Q Z S (pc) lv (.int y :: .int x :: st) := by
  subst hq
  exact fun H locs ls hP hD hS hl => lv_iushr C0.1.1 C0.1.2.1 hdg rfl (kk H locs ls hP hD hS hl)
theorem zg_irem (C0 : zC p s m args meth c cc nL Ts own D cy A rt) {x y : Int32} (hdg : decode cc pc = .ok (.irem, 1)) (hne : ¬ y = 0) (hq : pc + 1 = q) (kk : zG p l e R s m args below meth c D cy A nL cells slots Q Z S (q) lv (.int (x - x / y * y) :: st)) : zG p l e R s m args below meth c D cy A nL cells slots Q Z S (pc) lv (.int y :: .int x :: st) := by
  subst hq
  exact fun H locs ls hP hD hS hl => lv_irem C0.1.1 C0.1.2.1 hdg hne (kk H locs ls hP hD hS hl)
theorem zg_ladd (C0 : zC p s m args meth c cc nL Ts own D cy A rt) {x y : Int64} (hdg : decode cc pc = .ok (.ladd, 1)) (hq : pc + 1 = q) (kk : zG p l e R s m args below meth c D cy A nL cells slots Q Z S (q) lv (.long (x + y) :: st)) : zG p l e R s m args below meth c D cy A nL cells slots Q Z S (pc) lv (.long y :: .long x :: st) := by
  subst hq
  exact fun H locs ls hP hD hS hl => lv_ladd C0.1.1 C0.1.2.1 hdg (kk H locs ls hP hD hS hl)
theorem zg_lmul (C0 : zC p s m args meth c cc nL Ts own D cy A rt) {x y : Int64} (hdg : decode cc pc = .ok (.lmul, 1)) (hq : pc + 1 = q) (kk : zG p l e R s m args below meth c D cy A nL cells slots Q Z S (q) lv (.long (x * y) :: st)) : zG p l e R s m args below meth c D cy A nL cells slots Q Z S (pc) lv (.long y :: .long x :: st) := by
  subst hq
  exact fun H locs ls hP hD hS hl => lv_lmul C0.1.1 C0.1.2.1 hdg (kk H locs ls hP hD hS hl)
theorem zg_land (C0 : zC p s m args meth c cc nL Ts own D cy A rt) {x y : Int64} (hdg : decode cc pc = .ok (.land, 1)) (hq : pc + 1 = q) (kk : zG p l e R s m args below meth c D cy A nL cells slots Q Z S (q) lv (.long (x &&& y) :: st)) : zG p l e R s m args below meth c D cy A nL cells slots Q Z S (pc) lv (.long y :: .long x :: st) := by
  subst hq
  exact fun H locs ls hP hD hS hl => lv_land C0.1.1 C0.1.2.1 hdg (kk H locs ls hP hD hS hl)
theorem zg_lor (C0 : zC p s m args meth c cc nL Ts own D cy A rt) {x y : Int64} (hdg : decode cc pc = .ok (.lor, 1)) (hq : pc + 1 = q) (kk : zG p l e R s m args below meth c D cy A nL cells slots Q Z S (q) lv (.long (x ||| y) :: st)) : zG p l e R s m args below meth c D cy A nL cells slots Q Z S (pc) lv (.long y :: .long x :: st) := by
  subst hq
  exact fun H locs ls hP hD hS hl => lv_lor C0.1.1 C0.1.2.1 hdg (kk H locs ls hP hD hS hl)
theorem zg_lshl (C0 : zC p s m args meth c cc nL Ts own D cy A rt) {x : Int64} {y : Int32} (hdg : decode cc pc = .ok (.lshl, 1)) (hq : pc + 1 = q) (kk : zG p l e R s m args below meth c D cy A nL cells slots Q Z S (q) lv (.long (x <<< (y.toInt64 &&& 63)) :: st)) : zG p l e R s m args below meth c D cy A nL cells slots Q Z S (pc) lv (.int y :: .long x :: st) := by
  subst hq
  exact fun H locs ls hP hD hS hl => lv_lshl C0.1.1 C0.1.2.1 hdg rfl (kk H locs ls hP hD hS hl)
theorem zg_i2l (C0 : zC p s m args meth c cc nL Ts own D cy A rt) {x : Int32} (hdg : decode cc pc = .ok (.i2l, 1)) (hq : pc + 1 = q) (kk : zG p l e R s m args below meth c D cy A nL cells slots Q Z S (q) lv (.long x.toInt64 :: st)) : zG p l e R s m args below meth c D cy A nL cells slots Q Z S (pc) lv (.int x :: st) := by
  subst hq
  exact fun H locs ls hP hD hS hl => lv_i2l C0.1.1 C0.1.2.1 hdg rfl (kk H locs ls hP hD hS hl)
theorem zg_lcmp (C0 : zC p s m args meth c cc nL Ts own D cy A rt) {x y : Int64} (hdg : decode cc pc = .ok (.lcmp, 1)) (hq : pc + 1 = q) (kk : zG p l e R s m args below meth c D cy A nL cells slots Q Z S (q) lv (.int (lg_cmp x y) :: st)) : zG p l e R s m args below meth c D cy A nL cells slots Q Z S (pc) lv (.long y :: .long x :: st) := by
  subst hq
  exact fun H locs ls hP hD hS hl => W.lcmp C0.1.1 C0.1.2.1 hdg (kk H locs ls hP hD hS hl)
theorem zg_dup (C0 : zC p s m args meth c cc nL Ts own D cy A rt) {v : Value} (hdg : decode cc pc = .ok (.dup, 1)) (h1 : v.category = 1) (hq : pc + 1 = q) (kk : zG p l e R s m args below meth c D cy A nL cells slots Q Z S (q) lv (v :: v :: st)) : zG p l e R s m args below meth c D cy A nL cells slots Q Z S (pc) lv (v :: st) := by
  subst hq
  exact fun H locs ls hP hD hS hl => lv_dup C0.1.1 C0.1.2.1 hdg h1 (kk H locs ls hP hD hS hl)
theorem zg_pop (C0 : zC p s m args meth c cc nL Ts own D cy A rt) {v : Value} (hdg : decode cc pc = .ok (.pop, 1)) (h1 : v.category = 1) (hq : pc + 1 = q) (kk : zG p l e R s m args below meth c D cy A nL cells slots Q Z S (q) lv (st)) : zG p l e R s m args below meth c D cy A nL cells slots Q Z S (pc) lv (v :: st) := by
  subst hq
  exact fun H locs ls hP hD hS hl => lv_pop C0.1.1 C0.1.2.1 hdg h1 (kk H locs ls hP hD hS hl)
theorem zg_dup2 (C0 : zC p s m args meth c cc nL Ts own D cy A rt) {v u : Value} (hdg : decode cc pc = .ok (.dup2, 1)) (h1 : v.category = 1) (h2 : u.category = 1) (hq : pc + 1 = q) (kk : zG p l e R s m args below meth c D cy A nL cells slots Q Z S (q) lv (v :: u :: v :: u :: st)) : zG p l e R s m args below meth c D cy A nL cells slots Q Z S (pc) lv (v :: u :: st) := by
  subst hq
  exact fun H locs ls hP hD hS hl => lv_dup2_11 C0.1.1 C0.1.2.1 hdg h1 h2 (kk H locs ls hP hD hS hl)
theorem zg_dup2l (C0 : zC p s m args meth c cc nL Ts own D cy A rt) {v : Value} (hdg : decode cc pc = .ok (.dup2, 1)) (h1 : v.category = 2) (hq : pc + 1 = q) (kk : zG p l e R s m args below meth c D cy A nL cells slots Q Z S (q) lv (v :: v :: st)) : zG p l e R s m args below meth c D cy A nL cells slots Q Z S (pc) lv (v :: st) := by
  subst hq
  exact fun H locs ls hP hD hS hl => lv_dup2_2 C0.1.1 C0.1.2.1 hdg h1 (kk H locs ls hP hD hS hl)
theorem zg_null (C0 : zC p s m args meth c cc nL Ts own D cy A rt)  (hdg : decode cc pc = .ok (.aconst_null, 1)) (hq : pc + 1 = q) (kk : zG p l e R s m args below meth c D cy A nL cells slots Q Z S (q) lv (.null :: st)) : zG p l e R s m args below meth c D cy A nL cells slots Q Z S (pc) lv (st) := by
  subst hq
  exact fun H locs ls hP hD hS hl => lv_null C0.1.1 C0.1.2.1 hdg (kk H locs ls hP hD hS hl)
theorem zg_ldcw (C0 : zC p s m args meth c cc nL Ts own D cy A rt) {index : Nat} {v : Int32} (hdg : decode cc pc = .ok (.ldc_w index, 3)) (hw : Cond.constant own index v ∈ Ts) (hq : pc + 3 = q) (kk : zG p l e R s m args below meth c D cy A nL cells slots Q Z S (q) lv (.int v :: st)) : zG p l e R s m args below meth c D cy A nL cells slots Q Z S (pc) lv (st) := by
  subst hq
  exact fun H locs ls hP hD hS hl => lv_ldcw C0.1.1 C0.1.2.1 C0.1.2.2.2.1 (C0.1.2.2.2.2 _ hw) hdg (kk H locs ls hP hD hS hl)
theorem zg_ldc2 (C0 : zC p s m args meth c cc nL Ts own D cy A rt) {index : Nat} {v : Int64} (hdg : decode cc pc = .ok (.ldc2_w index, 3)) (hw : Cond.constantLong own index v ∈ Ts) (hq : pc + 3 = q) (kk : zG p l e R s m args below meth c D cy A nL cells slots Q Z S (q) lv (.long v :: st)) : zG p l e R s m args below meth c D cy A nL cells slots Q Z S (pc) lv (st) := by
  subst hq
  exact fun H locs ls hP hD hS hl => lv_ldc2 C0.1.1 C0.1.2.1 C0.1.2.2.2.1 (C0.1.2.2.2.2 _ hw) hdg (kk H locs ls hP hD hS hl)
theorem zg_if_eq (C0 : zC p s m args meth c cc nL Ts own D cy A rt) {x : Int32} {off : Int} {tgt : Nat} (hdg : decode cc pc = .ok (.ifCond .eq off, 3)) (ht : (pc : Int) + off = (tgt : Int)) (hq : pc + 3 = q) (kt : x = 0 → zG p l e R s m args below meth c D cy A nL cells slots Q Z S (tgt) lv (st)) (kf : ¬ x = 0 → zG p l e R s m args below meth c D cy A nL cells slots Q Z S (q) lv (st)) : zG p l e R s m args below meth c D cy A nL cells slots Q Z S (pc) lv (.int x :: st) := by
  subst hq
  exact fun H locs ls hP hD hS hl => lv_if_eq C0.1.1 C0.1.2.1 hdg ht (fun z => kt z H locs ls hP hD hS hl) (fun z => kf z H locs ls hP hD hS hl)
theorem zg_if_ne (C0 : zC p s m args meth c cc nL Ts own D cy A rt) {x : Int32} {off : Int} {tgt : Nat} (hdg : decode cc pc = .ok (.ifCond .ne off, 3)) (ht : (pc : Int) + off = (tgt : Int)) (hq : pc + 3 = q) (kt : ¬ x = 0 → zG p l e R s m args below meth c D cy A nL cells slots Q Z S (tgt) lv (st)) (kf : x = 0 → zG p l e R s m args below meth c D cy A nL cells slots Q Z S (q) lv (st)) : zG p l e R s m args below meth c D cy A nL cells slots Q Z S (pc) lv (.int x :: st) := by
  subst hq
  exact fun H locs ls hP hD hS hl => lv_if_ne C0.1.1 C0.1.2.1 hdg ht (fun z => kt z H locs ls hP hD hS hl) (fun z => kf z H locs ls hP hD hS hl)
theorem zg_if_lt (C0 : zC p s m args meth c cc nL Ts own D cy A rt) {x : Int32} {off : Int} {tgt : Nat} (hdg : decode cc pc = .ok (.ifCond .lt off, 3)) (ht : (pc : Int) + off = (tgt : Int)) (hq : pc + 3 = q) (kt : x < 0 → zG p l e R s m args below meth c D cy A nL cells slots Q Z S (tgt) lv (st)) (kf : ¬ x < 0 → zG p l e R s m args below meth c D cy A nL cells slots Q Z S (q) lv (st)) : zG p l e R s m args below meth c D cy A nL cells slots Q Z S (pc) lv (.int x :: st) := by
  subst hq
  exact fun H locs ls hP hD hS hl => lv_if_lt C0.1.1 C0.1.2.1 hdg ht (fun z => kt z H locs ls hP hD hS hl) (fun z => kf z H locs ls hP hD hS hl)
theorem zg_if_ge (C0 : zC p s m args meth c cc nL Ts own D cy A rt) {x : Int32} {off : Int} {tgt : Nat} (hdg : decode cc pc = .ok (.ifCond .ge off, 3)) (ht : (pc : Int) + off = (tgt : Int)) (hq : pc + 3 = q) (kt : 0 ≤ x → zG p l e R s m args below meth c D cy A nL cells slots Q Z S (tgt) lv (st)) (kf : ¬ 0 ≤ x → zG p l e R s m args below meth c D cy A nL cells slots Q Z S (q) lv (st)) : zG p l e R s m args below meth c D cy A nL cells slots Q Z S (pc) lv (.int x :: st) := by
  subst hq
  exact fun H locs ls hP hD hS hl => lv_if_ge C0.1.1 C0.1.2.1 hdg ht (fun z => kt z H locs ls hP hD hS hl) (fun z => kf z H locs ls hP hD hS hl)
theorem zg_if_gt (C0 : zC p s m args meth c cc nL Ts own D cy A rt) {x : Int32} {off : Int} {tgt : Nat} (hdg : decode cc pc = .ok (.ifCond .gt off, 3)) (ht : (pc : Int) + off = (tgt : Int)) (hq : pc + 3 = q) (kt : 0 < x → zG p l e R s m args below meth c D cy A nL cells slots Q Z S (tgt) lv (st)) (kf : ¬ 0 < x → zG p l e R s m args below meth c D cy A nL cells slots Q Z S (q) lv (st)) : zG p l e R s m args below meth c D cy A nL cells slots Q Z S (pc) lv (.int x :: st) := by
  subst hq
  exact fun H locs ls hP hD hS hl => lv_if_gt C0.1.1 C0.1.2.1 hdg ht (fun z => kt z H locs ls hP hD hS hl) (fun z => kf z H locs ls hP hD hS hl)
theorem zg_if_le (C0 : zC p s m args meth c cc nL Ts own D cy A rt) {x : Int32} {off : Int} {tgt : Nat} (hdg : decode cc pc = .ok (.ifCond .le off, 3)) (ht : (pc : Int) + off = (tgt : Int)) (hq : pc + 3 = q) (kt : x ≤ 0 → zG p l e R s m args below meth c D cy A nL cells slots Q Z S (tgt) lv (st)) (kf : ¬ x ≤ 0 → zG p l e R s m args below meth c D cy A nL cells slots Q Z S (q) lv (st)) : zG p l e R s m args below meth c D cy A nL cells slots Q Z S (pc) lv (.int x :: st) := by
  subst hq
  exact fun H locs ls hP hD hS hl => lv_if_le C0.1.1 C0.1.2.1 hdg ht (fun z => kt z H locs ls hP hD hS hl) (fun z => kf z H locs ls hP hD hS hl)
theorem zg_icmp_eq (C0 : zC p s m args meth c cc nL Ts own D cy A rt) {x y : Int32} {off : Int} {tgt : Nat} (hdg : decode cc pc = .ok (.if_icmp .eq off, 3)) (ht : (pc : Int) + off = (tgt : Int)) (hq : pc + 3 = q) (kt : x = y → zG p l e R s m args below meth c D cy A nL cells slots Q Z S (tgt) lv (st)) (kf : ¬ x = y → zG p l e R s m args below meth c D cy A nL cells slots Q Z S (q) lv (st)) : zG p l e R s m args below meth c D cy A nL cells slots Q Z S (pc) lv (.int y :: .int x :: st) := by
  subst hq
  exact fun H locs ls hP hD hS hl => lv_icmp_eq C0.1.1 C0.1.2.1 hdg ht (fun z => kt z H locs ls hP hD hS hl) (fun z => kf z H locs ls hP hD hS hl)
theorem zg_icmp_ne (C0 : zC p s m args meth c cc nL Ts own D cy A rt) {x y : Int32} {off : Int} {tgt : Nat} (hdg : decode cc pc = .ok (.if_icmp .ne off, 3)) (ht : (pc : Int) + off = (tgt : Int)) (hq : pc + 3 = q) (kt : ¬ x = y → zG p l e R s m args below meth c D cy A nL cells slots Q Z S (tgt) lv (st)) (kf : x = y → zG p l e R s m args below meth c D cy A nL cells slots Q Z S (q) lv (st)) : zG p l e R s m args below meth c D cy A nL cells slots Q Z S (pc) lv (.int y :: .int x :: st) := by
  subst hq
  exact fun H locs ls hP hD hS hl => lv_icmp_ne C0.1.1 C0.1.2.1 hdg ht (fun z => kt z H locs ls hP hD hS hl) (fun z => kf z H locs ls hP hD hS hl)
theorem zg_icmp_lt (C0 : zC p s m args meth c cc nL Ts own D cy A rt) {x y : Int32} {off : Int} {tgt : Nat} (hdg : decode cc pc = .ok (.if_icmp .lt off, 3)) (ht : (pc : Int) + off = (tgt : Int)) (hq : pc + 3 = q) (kt : x < y → zG p l e R s m args below meth c D cy A nL cells slots Q Z S (tgt) lv (st)) (kf : ¬ x < y → zG p l e R s m args below meth c D cy A nL cells slots Q Z S (q) lv (st)) : zG p l e R s m args below meth c D cy A nL cells slots Q Z S (pc) lv (.int y :: .int x :: st) := by
  subst hq
  exact fun H locs ls hP hD hS hl => lv_icmp_lt C0.1.1 C0.1.2.1 hdg ht (fun z => kt z H locs ls hP hD hS hl) (fun z => kf z H locs ls hP hD hS hl)
theorem zg_icmp_ge (C0 : zC p s m args meth c cc nL Ts own D cy A rt) {x y : Int32} {off : Int} {tgt : Nat} (hdg : decode cc pc = .ok (.if_icmp .ge off, 3)) (ht : (pc : Int) + off = (tgt : Int)) (hq : pc + 3 = q) (kt : y ≤ x → zG p l e R s m args below meth c D cy A nL cells slots Q Z S (tgt) lv (st)) (kf : ¬ y ≤ x → zG p l e R s m args below meth c D cy A nL cells slots Q Z S (q) lv (st)) : zG p l e R s m args below meth c D cy A nL cells slots Q Z S (pc) lv (.int y :: .int x :: st) := by
  subst hq
  exact fun H locs ls hP hD hS hl => lv_icmp_ge C0.1.1 C0.1.2.1 hdg ht (fun z => kt z H locs ls hP hD hS hl) (fun z => kf z H locs ls hP hD hS hl)
theorem zg_icmp_gt (C0 : zC p s m args meth c cc nL Ts own D cy A rt) {x y : Int32} {off : Int} {tgt : Nat} (hdg : decode cc pc = .ok (.if_icmp .gt off, 3)) (ht : (pc : Int) + off = (tgt : Int)) (hq : pc + 3 = q) (kt : y < x → zG p l e R s m args below meth c D cy A nL cells slots Q Z S (tgt) lv (st)) (kf : ¬ y < x → zG p l e R s m args below meth c D cy A nL cells slots Q Z S (q) lv (st)) : zG p l e R s m args below meth c D cy A nL cells slots Q Z S (pc) lv (.int y :: .int x :: st) := by
  subst hq
  exact fun H locs ls hP hD hS hl => lv_icmp_gt C0.1.1 C0.1.2.1 hdg ht (fun z => kt z H locs ls hP hD hS hl) (fun z => kf z H locs ls hP hD hS hl)
theorem zg_icmp_le (C0 : zC p s m args meth c cc nL Ts own D cy A rt) {x y : Int32} {off : Int} {tgt : Nat} (hdg : decode cc pc = .ok (.if_icmp .le off, 3)) (ht : (pc : Int) + off = (tgt : Int)) (hq : pc + 3 = q) (kt : x ≤ y → zG p l e R s m args below meth c D cy A nL cells slots Q Z S (tgt) lv (st)) (kf : ¬ x ≤ y → zG p l e R s m args below meth c D cy A nL cells slots Q Z S (q) lv (st)) : zG p l e R s m args below meth c D cy A nL cells slots Q Z S (pc) lv (.int y :: .int x :: st) := by
  subst hq
  exact fun H locs ls hP hD hS hl => lv_icmp_le C0.1.1 C0.1.2.1 hdg ht (fun z => kt z H locs ls hP hD hS hl) (fun z => kf z H locs ls hP hD hS hl)
theorem zg_acmp_eq (C0 : zC p s m args meth c cc nL Ts own D cy A rt) {a b : Option Nat} {v u : Value} {off : Int} {tgt : Nat} (hdg : decode cc pc = .ok (.if_acmp .eq off, 3)) (ht : (pc : Int) + off = (tgt : Int)) (hu : va_rf a = u) (hv : va_rf b = v) (hq : pc + 3 = q) (kt : a = b → zG p l e R s m args below meth c D cy A nL cells slots Q Z S (tgt) lv (st)) (kf : ¬ a = b → zG p l e R s m args below meth c D cy A nL cells slots Q Z S (q) lv (st)) : zG p l e R s m args below meth c D cy A nL cells slots Q Z S (pc) lv (v :: u :: st) := by
  subst hq
  subst hu
  subst hv
  exact fun H locs ls hP hD hS hl => lv_acmp_eq C0.1.1 C0.1.2.1 hdg ht (fun z => kt z H locs ls hP hD hS hl) (fun z => kf z H locs ls hP hD hS hl)
theorem zg_acmp_ne (C0 : zC p s m args meth c cc nL Ts own D cy A rt) {a b : Option Nat} {v u : Value} {off : Int} {tgt : Nat} (hdg : decode cc pc = .ok (.if_acmp .ne off, 3)) (ht : (pc : Int) + off = (tgt : Int)) (hu : va_rf a = u) (hv : va_rf b = v) (hq : pc + 3 = q) (kt : ¬ a = b → zG p l e R s m args below meth c D cy A nL cells slots Q Z S (tgt) lv (st)) (kf : a = b → zG p l e R s m args below meth c D cy A nL cells slots Q Z S (q) lv (st)) : zG p l e R s m args below meth c D cy A nL cells slots Q Z S (pc) lv (v :: u :: st) := by
  subst hq
  subst hu
  subst hv
  exact fun H locs ls hP hD hS hl => lv_acmp_ne C0.1.1 C0.1.2.1 hdg ht (fun z => kt z H locs ls hP hD hS hl) (fun z => kf z H locs ls hP hD hS hl)
theorem zg_goto (C0 : zC p s m args meth c cc nL Ts own D cy A rt) {off : Int} {tgt : Nat} (hdg : decode cc pc = .ok (.goto off, 3)) (ht : (pc : Int) + off = (tgt : Int)) (kk : zG p l e R s m args below meth c D cy A nL cells slots Q Z S (tgt) lv (st)) : zG p l e R s m args below meth c D cy A nL cells slots Q Z S (pc) lv (st) := fun H locs ls hP hD hS hl => lv_goto C0.1.1 C0.1.2.1 hdg ht (kk H locs ls hP hD hS hl)
theorem zg_ifnull (C0 : zC p s m args meth c cc nL Ts own D cy A rt) {r : Option Nat} {off : Int} {tgt : Nat} (hdg : decode cc pc = .ok (.ifnull off, 3)) (ht : (pc : Int) + off = (tgt : Int)) (hq : pc + 3 = q) (kt : r = none → zG p l e R s m args below meth c D cy A nL cells slots Q Z S (tgt) lv (st)) (kf : ∀ b, r = some b → zG p l e R s m args below meth c D cy A nL cells slots Q Z S (q) lv (st)) : zG p l e R s m args below meth c D cy A nL cells slots Q Z S (pc) lv (va_rf r :: st) := by
  subst hq
  intro H locs ls hP hD hS hl
  cases r with
  | none => exact lv_ifnullN C0.1.1 C0.1.2.1 hdg ht (kt rfl H locs ls hP hD hS hl)
  | some b => exact lv_ifnull C0.1.1 C0.1.2.1 hdg (kf b rfl H locs ls hP hD hS hl)
theorem zg_ifnonnull (C0 : zC p s m args meth c cc nL Ts own D cy A rt) {r : Option Nat} {off : Int} {tgt : Nat} (hdg : decode cc pc = .ok (.ifnonnull off, 3)) (ht : (pc : Int) + off = (tgt : Int)) (hq : pc + 3 = q) (kt : ∀ b, r = some b → zG p l e R s m args below meth c D cy A nL cells slots Q Z S (tgt) lv (st)) (kf : r = none → zG p l e R s m args below meth c D cy A nL cells slots Q Z S (q) lv (st)) : zG p l e R s m args below meth c D cy A nL cells slots Q Z S (pc) lv (va_rf r :: st) := by
  subst hq
  intro H locs ls hP hD hS hl
  cases r with
  | none => exact lv_ifnonnullN C0.1.1 C0.1.2.1 hdg (kf rfl H locs ls hP hD hS hl)
  | some b => exact lv_ifnonnull C0.1.1 C0.1.2.1 hdg ht (kt b rfl H locs ls hP hD hS hl)
theorem zg_ni {x : Int32} (kk : ∀ y : Int32, y = x → zG p l e R s m args below meth c D cy A nL cells slots Q Z S (pc) lv (.int y :: st)) : zG p l e R s m args below meth c D cy A nL cells slots Q Z S (pc) lv (.int x :: st) := kk x rfl
theorem zg_nl {x : Int64} (kk : ∀ y : Int64, y = x → zG p l e R s m args below meth c D cy A nL cells slots Q Z S (pc) lv (.long y :: st)) : zG p l e R s m args below meth c D cy A nL cells slots Q Z S (pc) lv (.long x :: st) := kk x rfl
theorem zg_st {st' : List Value} (h : st = st') (kk : zG p l e R s m args below meth c D cy A nL cells slots Q Z S (pc) lv (st')) : zG p l e R s m args below meth c D cy A nL cells slots Q Z S (pc) lv (st) := h ▸ kk
theorem zg_lv (h : lv = lv') (kk : zG p l e R s m args below meth c D cy A nL cells slots Q Z S (pc) lv' (st)) : zG p l e R s m args below meth c D cy A nL cells slots Q Z S (pc) lv (st) := h ▸ kk
theorem zg_sub (ks : List Nat) (h : lv_pick lv ks = lv') (kk : zG p l e R s m args below meth c D cy A nL cells slots Q Z S (pc) lv' (st)) : zG p l e R s m args below meth c D cy A nL cells slots Q Z S (pc) lv (st) := fun H locs ls hP hD hS hl => kk H locs ls hP hD hS (lv_sub hl ks h)
theorem zg_widen {k n : Nat} (h1 : cells ≤ k) (h2 : slots ≤ n) (kk : zG p l e R s m args below meth c D cy A nL k n Q Z S (pc) lv (st)) : zG p l e R s m args below meth c D cy A nL cells slots Q Z S (pc) lv (st) := fun H locs ls hP hD hS hl => W.widen h1 h2 (kk H locs ls hP hD hS hl)
theorem zg_get (C0 : zC p s m args meth c cc nL Ts own D cy A rt) {a ci N k index : Nat} {Cn ref : String} {T : u_T} {fs : List Value} {v : Value} (hdg : decode cc pc = .ok (.getfield index, 3)) (ha : zk Z a ci) (hF : zF cy Z S a = .inr (ci, fs)) (hc : vwCl[ci]? = some (Cn, T, N)) (hk : k < N) (hin : ∀ w ∈ u_ws Cn T N, w ∈ Ts) (hlink : Cond.fieldLink own index ref (T k).2.1 (T k).2.2.1 ∈ Ts) (href : (T k).1 = ref) (hv : fs[k]? = some v) (hq : pc + 3 = q) (kk : zG p l e R s m args below meth c D cy A nL cells slots Q Z S (q) lv (v :: st)) : zG p l e R s m args below meth c D cy A nL cells slots Q Z S (pc) lv (.ref a :: st) := by
  subst hq
  subst href
  intro H locs ls hP hD hS hl
  obtain ⟨j, hj⟩ := zget ha.1 hF
  exact va_get (D := D) (cl := vwCl) C0.1.1 C0.1.2.1 C0.1.2.2.2.2 hin C0.1.2.2.2.1 C0.2.1.1 hP j hj hc k hk (C0.1.2.2.2.2 _ hlink) (fun _ h => h) hv hdg (kk H locs ls hP hD hS hl)
theorem zg_put (C0 : zC p s m args meth c cc nL Ts own D cy A rt) {Z' : zZ} {S' : zS} {a ci N k index : Nat} {Cn ref : String} {T : u_T} {fs : List Value} {v : Value} {ty0 : Nat → FieldType} (hdg : decode cc pc = .ok (.putfield index, 3)) (ha : zk Z a ci) (hF : zF cy Z S a = .inr (ci, fs)) (hc : vwCl[ci]? = some (Cn, T, N)) (hk : k < N) (hin : ∀ w ∈ u_ws Cn T N, w ∈ Ts) (hty : ∀ k, k < N → parseFieldDescriptor (T k).2.2.1 = some (ty0 k)) (hnm : ∀ a, a < N → ∀ b, b < N → a ≠ b → (T a).2.1 ≠ (T b).2.1) (hlink : Cond.fieldLink own index ref (T k).2.1 (T k).2.2.1 ∈ Ts) (href : (T k).1 = ref) (hfin : (T k).2.2.2 = false ∨ ((T k).2.2.2 = true ∧ meth.name = "<init>" ∧ (T k).1 = own)) (hn : narrow (ty0 k) v = v) (hfit : fits (ty0 k) v = true) (hl2 : k < fs.length) (hL : zL Z' = zL Z) (he : zF cy Z' S' a = .inr (ci, fs.set k v)) (hoff : ∀ b, b ≠ a → zF cy Z' S' b = zF cy Z S b) (hq : pc + 3 = q) (kk : zG p l e R s m args below meth c D cy A nL cells slots Q Z' S' (q) lv (st)) : zG p l e R s m args below meth c D cy A nL cells slots Q Z S (pc) lv (v :: .ref a :: st) := by
  subst hq
  subst href
  intro H locs ls hP hD hS hl
  obtain ⟨j, hj⟩ := zget ha.1 hF
  have hset := zset hD ha.1 hF hj hL he hoff
  rcases hfin with hfin | ⟨hfin, h1, h2⟩
  · exact va_put (D := D) (cl := vwCl) C0.1.1 C0.1.2.1 C0.1.2.2.2.2 hin ty0 hty hnm C0.1.2.2.2.1 C0.2.1.1 hP hD hS j hj hc k hk (C0.1.2.2.2.2 _ hlink) (fun _ h => h) hfin (hty k hk) hn hfit hl2 hdg (fun H1 locs1 hP1 hD1 hS1 => kk H1 locs1 ls (hset ▸ hP1) (hset ▸ hD1) hS1 hl)
  · exact va_putF (D := D) (cl := vwCl) C0.1.1 C0.1.2.1 C0.1.2.2.2.2 hin ty0 hty hnm C0.1.2.2.2.1 C0.2.1.1 hP hD hS j hj hc k hk (C0.1.2.2.2.2 _ hlink) (fun _ h => h) hfin h1 h2 (hty k hk) hn hfit hl2 hdg (fun H1 locs1 hP1 hD1 hS1 => kk H1 locs1 ls (hset ▸ hP1) (hset ▸ hD1) hS1 hl)
theorem zg_iald (C0 : zC p s m args meth c cc nL Ts own D cy A rt) {a : Nat} {i : Int32} (hdg : decode cc pc = .ok (.iaload, 1)) (ha : zk Z a 8) (hi : vp_in i (zN Z a)) (hq : pc + 1 = q) (kk : zG p l e R s m args below meth c D cy A nL cells slots Q Z S (q) lv (.int (zI S a i.toNatClampNeg) :: st)) : zG p l e R s m args below meth c D cy A nL cells slots Q Z S (pc) lv (.int i :: .ref a :: st) := by
  subst hq
  intro H locs ls hP hD hS hl
  obtain ⟨j, hj⟩ := zget ha.1 (zF_8 cy ha)
  exact va_iald (D := D) (cl := vwCl) C0.1.1 C0.1.2.1 C0.2.1.1 hP j 0 hj rfl hi hdg (kk H locs ls hP hD hS hl)
theorem zg_zald (C0 : zC p s m args meth c cc nL Ts own D cy A rt) {a : Nat} {i : Int32} (hdg : decode cc pc = .ok (.baload, 1)) (ha : zk Z a 10) (hi : vp_in i (zN Z a)) (hq : pc + 1 = q) (kk : zG p l e R s m args below meth c D cy A nL cells slots Q Z S (q) lv (.int (zI S a i.toNatClampNeg) :: st)) : zG p l e R s m args below meth c D cy A nL cells slots Q Z S (pc) lv (.int i :: .ref a :: st) := by
  subst hq
  intro H locs ls hP hD hS hl
  obtain ⟨j, hj⟩ := zget ha.1 (zF_10 cy ha)
  exact va_zald (D := D) (cl := vwCl) C0.1.1 C0.1.2.1 C0.2.1.1 hP j 2 hj rfl hi hdg (kk H locs ls hP hD hS hl)
theorem zg_lald (C0 : zC p s m args meth c cc nL Ts own D cy A rt) {a : Nat} {i : Int32} (hdg : decode cc pc = .ok (.laload, 1)) (ha : zk Z a 9) (hi : vp_in i (zN Z a)) (hq : pc + 1 = q) (kk : zG p l e R s m args below meth c D cy A nL cells slots Q Z S (q) lv (.long (zJ S a i.toNatClampNeg) :: st)) : zG p l e R s m args below meth c D cy A nL cells slots Q Z S (pc) lv (.int i :: .ref a :: st) := by
  subst hq
  intro H locs ls hP hD hS hl
  obtain ⟨j, hj⟩ := zget ha.1 (zF_9 cy ha)
  exact va_lald (D := D) (cl := vwCl) C0.1.1 C0.1.2.1 C0.2.1.1 hP j 1 hj rfl hi hdg (kk H locs ls hP hD hS hl)
theorem zg_aald_11 (C0 : zC p s m args meth c cc nL Ts own D cy A rt) {a : Nat} {i : Int32} (hdg : decode cc pc = .ok (.aaload, 1)) (ha : zk Z a 11) (hi : vp_in i (zN Z a)) (hq : pc + 1 = q) (kk : zG p l e R s m args below meth c D cy A nL cells slots Q Z S (q) lv (va_rf (zR S a i.toNatClampNeg) :: st)) : zG p l e R s m args below meth c D cy A nL cells slots Q Z S (pc) lv (.int i :: .ref a :: st) := by
  subst hq
  intro H locs ls hP hD hS hl
  obtain ⟨j, hj⟩ := zget ha.1 (zF_11 cy ha)
  exact va_aldq (D := D) (cl := vwCl) C0.1.1 C0.1.2.1 C0.2.1.1 hP j 3 hj rfl hi hdg (kk H locs ls hP hD hS hl)
theorem zg_aald_12 (C0 : zC p s m args meth c cc nL Ts own D cy A rt) {a : Nat} {i : Int32} (hdg : decode cc pc = .ok (.aaload, 1)) (ha : zk Z a 12) (hi : vp_in i (zN Z a)) (hq : pc + 1 = q) (kk : zG p l e R s m args below meth c D cy A nL cells slots Q Z S (q) lv (va_rf (zQ Z a i.toNatClampNeg) :: st)) : zG p l e R s m args below meth c D cy A nL cells slots Q Z S (pc) lv (.int i :: .ref a :: st) := by
  subst hq
  intro H locs ls hP hD hS hl
  obtain ⟨j, hj⟩ := zget ha.1 (zF_12 cy ha)
  exact va_aldq (D := D) (cl := vwCl) C0.1.1 C0.1.2.1 C0.2.1.1 hP j 4 hj rfl hi hdg (kk H locs ls hP hD hS hl)
theorem zg_aald_13 (C0 : zC p s m args meth c cc nL Ts own D cy A rt) {a : Nat} {i : Int32} (hdg : decode cc pc = .ok (.aaload, 1)) (ha : zk Z a 13) (hi : vp_in i (zN Z a)) (hq : pc + 1 = q) (kk : zG p l e R s m args below meth c D cy A nL cells slots Q Z S (q) lv (va_rf (zQ Z a i.toNatClampNeg) :: st)) : zG p l e R s m args below meth c D cy A nL cells slots Q Z S (pc) lv (.int i :: .ref a :: st) := by
  subst hq
  intro H locs ls hP hD hS hl
  obtain ⟨j, hj⟩ := zget ha.1 (zF_13 cy ha)
  exact va_aldq (D := D) (cl := vwCl) C0.1.1 C0.1.2.1 C0.2.1.1 hP j 5 hj rfl hi hdg (kk H locs ls hP hD hS hl)
theorem zg_alen_8 (C0 : zC p s m args meth c cc nL Ts own D cy A rt) {a : Nat} (hdg : decode cc pc = .ok (.arraylength, 1)) (ha : zk Z a 8) (hq : pc + 1 = q) (kk : zG p l e R s m args below meth c D cy A nL cells slots Q Z S (q) lv (.int (nI (zN Z a)) :: st)) : zG p l e R s m args below meth c D cy A nL cells slots Q Z S (pc) lv (.ref a :: st) := by
  subst hq
  intro H locs ls hP hD hS hl
  obtain ⟨j, hj⟩ := zget ha.1 (zF_8 cy ha)
  exact va_alen (D := D) (cl := vwCl) C0.1.1 C0.1.2.1 C0.2.1.1 hP j 0 hj rfl rfl hdg (kk H locs ls hP hD hS hl)
theorem zg_alen_9 (C0 : zC p s m args meth c cc nL Ts own D cy A rt) {a : Nat} (hdg : decode cc pc = .ok (.arraylength, 1)) (ha : zk Z a 9) (hq : pc + 1 = q) (kk : zG p l e R s m args below meth c D cy A nL cells slots Q Z S (q) lv (.int (nI (zN Z a)) :: st)) : zG p l e R s m args below meth c D cy A nL cells slots Q Z S (pc) lv (.ref a :: st) := by
  subst hq
  intro H locs ls hP hD hS hl
  obtain ⟨j, hj⟩ := zget ha.1 (zF_9 cy ha)
  exact va_alen (D := D) (cl := vwCl) C0.1.1 C0.1.2.1 C0.2.1.1 hP j 1 hj rfl rfl hdg (kk H locs ls hP hD hS hl)
theorem zg_alen_10 (C0 : zC p s m args meth c cc nL Ts own D cy A rt) {a : Nat} (hdg : decode cc pc = .ok (.arraylength, 1)) (ha : zk Z a 10) (hq : pc + 1 = q) (kk : zG p l e R s m args below meth c D cy A nL cells slots Q Z S (q) lv (.int (nI (zN Z a)) :: st)) : zG p l e R s m args below meth c D cy A nL cells slots Q Z S (pc) lv (.ref a :: st) := by
  subst hq
  intro H locs ls hP hD hS hl
  obtain ⟨j, hj⟩ := zget ha.1 (zF_10 cy ha)
  exact va_alen (D := D) (cl := vwCl) C0.1.1 C0.1.2.1 C0.2.1.1 hP j 2 hj rfl rfl hdg (kk H locs ls hP hD hS hl)
theorem zg_alen_11 (C0 : zC p s m args meth c cc nL Ts own D cy A rt) {a : Nat} (hdg : decode cc pc = .ok (.arraylength, 1)) (ha : zk Z a 11) (hq : pc + 1 = q) (kk : zG p l e R s m args below meth c D cy A nL cells slots Q Z S (q) lv (.int (nI (zN Z a)) :: st)) : zG p l e R s m args below meth c D cy A nL cells slots Q Z S (pc) lv (.ref a :: st) := by
  subst hq
  intro H locs ls hP hD hS hl
  obtain ⟨j, hj⟩ := zget ha.1 (zF_11 cy ha)
  exact va_alen (D := D) (cl := vwCl) C0.1.1 C0.1.2.1 C0.2.1.1 hP j 3 hj rfl rfl hdg (kk H locs ls hP hD hS hl)
theorem zg_alen_12 (C0 : zC p s m args meth c cc nL Ts own D cy A rt) {a : Nat} (hdg : decode cc pc = .ok (.arraylength, 1)) (ha : zk Z a 12) (hq : pc + 1 = q) (kk : zG p l e R s m args below meth c D cy A nL cells slots Q Z S (q) lv (.int (nI (zN Z a)) :: st)) : zG p l e R s m args below meth c D cy A nL cells slots Q Z S (pc) lv (.ref a :: st) := by
  subst hq
  intro H locs ls hP hD hS hl
  obtain ⟨j, hj⟩ := zget ha.1 (zF_12 cy ha)
  exact va_alen (D := D) (cl := vwCl) C0.1.1 C0.1.2.1 C0.2.1.1 hP j 4 hj rfl rfl hdg (kk H locs ls hP hD hS hl)
theorem zg_alen_13 (C0 : zC p s m args meth c cc nL Ts own D cy A rt) {a : Nat} (hdg : decode cc pc = .ok (.arraylength, 1)) (ha : zk Z a 13) (hq : pc + 1 = q) (kk : zG p l e R s m args below meth c D cy A nL cells slots Q Z S (q) lv (.int (nI (zN Z a)) :: st)) : zG p l e R s m args below meth c D cy A nL cells slots Q Z S (pc) lv (.ref a :: st) := by
  subst hq
  intro H locs ls hP hD hS hl
  obtain ⟨j, hj⟩ := zget ha.1 (zF_13 cy ha)
  exact va_alen (D := D) (cl := vwCl) C0.1.1 C0.1.2.1 C0.2.1.1 hP j 5 hj rfl rfl hdg (kk H locs ls hP hD hS hl)
theorem zF_sI8 (cy : Nat → ClassId) {Z : zZ} {S : zS} {a : Nat} (h : zk Z a 8) (i : Nat) (v : Int32) : zF cy Z (zsI S a i v) a = .inl (cy 0, zN Z a, .inl (upd (zI S a) i v)) := by
  rw [zF_8 cy h]
  show _ = (Sum.inl (cy 0, zN Z a, Sum.inl _) : va_E)
  rw [show zI (zsI S a i v) a = upd (zI S a) i v from zu_eq (zI S) a i v]
theorem zF_sI10 (cy : Nat → ClassId) {Z : zZ} {S : zS} {a : Nat} (h : zk Z a 10) (i : Nat) (v : Int32) : zF cy Z (zsI S a i v) a = .inl (cy 2, zN Z a, .inl (upd (zI S a) i v)) := by
  rw [zF_10 cy h]
  rw [show zI (zsI S a i v) a = upd (zI S a) i v from zu_eq (zI S) a i v]
theorem zF_sJ9 (cy : Nat → ClassId) {Z : zZ} {S : zS} {a : Nat} (h : zk Z a 9) (i : Nat) (v : Int64) : zF cy Z (zsJ S a i v) a = .inl (cy 1, zN Z a, .inr (.inl (vp_updL (zJ S a) i v))) := by
  rw [zF_9 cy h]
  rw [show zJ (zsJ S a i v) a = vp_updL (zJ S a) i v from zu_eq (zJ S) a i v]
theorem zF_sR11 (cy : Nat → ClassId) {Z : zZ} {S : zS} {a : Nat} (h : zk Z a 11) (i : Nat) (v : Option Nat) : zF cy Z (zsR S a i v) a = .inl (cy 3, zN Z a, .inr (.inr (.inr (.inr (va_up (zR S a) i v))))) := by
  rw [zF_11 cy h]
  rw [show zR (zsR S a i v) a = va_up (zR S a) i v from zu_eq (zR S) a i v]
theorem zF_sQ12 (cy : Nat → ClassId) {Z : zZ} {S : zS} {a : Nat} (h : zk Z a 12) (i : Nat) (v : Option Nat) : zF cy (zsQ Z a i v) S a = .inl (cy 4, zN Z a, .inr (.inr (.inr (.inr (va_up (zQ Z a) i v))))) := by
  rw [zF_12 cy (show zk (zsQ Z a i v) a 12 from h)]
  rw [show zQ (zsQ Z a i v) a = va_up (zQ Z a) i v from zu_eq (zQ Z) a i v]
  rfl
theorem zF_sQ13 (cy : Nat → ClassId) {Z : zZ} {S : zS} {a : Nat} (h : zk Z a 13) (i : Nat) (v : Option Nat) : zF cy (zsQ Z a i v) S a = .inl (cy 5, zN Z a, .inr (.inr (.inr (.inr (va_up (zQ Z a) i v))))) := by
  rw [zF_13 cy (show zk (zsQ Z a i v) a 13 from h)]
  rw [show zQ (zsQ Z a i v) a = va_up (zQ Z a) i v from zu_eq (zQ Z) a i v]
  rfl
theorem zg_iast (C0 : zC p s m args meth c cc nL Ts own D cy A rt) {a : Nat} {i : Int32} {x : Int32} (hdg : decode cc pc = .ok (.iastore, 1)) (ha : zk Z a 8) (hi : vp_in i (zN Z a)) (hq : pc + 1 = q) (kk : ∀ S' : zS, S' = zsI S a i.toNatClampNeg (x) → zG p l e R s m args below meth c D cy A nL cells slots Q Z S' (q) lv (st)) : zG p l e R s m args below meth c D cy A nL cells slots Q Z S (pc) lv (.int x :: .int i :: .ref a :: st) := by
  subst hq
  intro H locs ls hP hD hS hl
  obtain ⟨j, hj⟩ := zget ha.1 (zF_8 cy ha)
  have hset := zset (S' := zsI S a i.toNatClampNeg x) hD ha.1 (zF_8 cy ha) hj rfl (zF_sI8 cy ha i.toNatClampNeg x) (zF_offI cy Z S a i.toNatClampNeg x)
  refine va_iast (D := D) (cl := vwCl) C0.1.1 C0.1.2.1 C0.2.1.1 hP hD hS j 0 hj rfl hi hdg (fun H1 locs1 hP1 hD1 hS1 => ?_)
  exact kk _ rfl H1 locs1 ls (hset ▸ hP1) (hset ▸ hD1) hS1 hl
theorem zg_last (C0 : zC p s m args meth c cc nL Ts own D cy A rt) {a : Nat} {i : Int32} {x : Int64} (hdg : decode cc pc = .ok (.lastore, 1)) (ha : zk Z a 9) (hi : vp_in i (zN Z a)) (hq : pc + 1 = q) (kk : ∀ S' : zS, S' = zsJ S a i.toNatClampNeg (x) → zG p l e R s m args below meth c D cy A nL cells slots Q Z S' (q) lv (st)) : zG p l e R s m args below meth c D cy A nL cells slots Q Z S (pc) lv (.long x :: .int i :: .ref a :: st) := by
  subst hq
  intro H locs ls hP hD hS hl
  obtain ⟨j, hj⟩ := zget ha.1 (zF_9 cy ha)
  have hset := zset (S' := zsJ S a i.toNatClampNeg x) hD ha.1 (zF_9 cy ha) hj rfl (zF_sJ9 cy ha i.toNatClampNeg x) (zF_offJ cy Z S a i.toNatClampNeg x)
  refine va_last (D := D) (cl := vwCl) C0.1.1 C0.1.2.1 C0.2.1.1 hP hD hS j 1 hj rfl hi hdg (fun H1 locs1 hP1 hD1 hS1 => ?_)
  exact kk _ rfl H1 locs1 ls (hset ▸ hP1) (hset ▸ hD1) hS1 hl
theorem zg_zast (C0 : zC p s m args meth c cc nL Ts own D cy A rt) {a : Nat} {i : Int32} {x : Int32} (hdg : decode cc pc = .ok (.bastore, 1)) (ha : zk Z a 10) (hi : vp_in i (zN Z a)) (hx : vp_nar .boolean x = x) (hq : pc + 1 = q) (kk : ∀ S' : zS, S' = zsI S a i.toNatClampNeg (x) → zG p l e R s m args below meth c D cy A nL cells slots Q Z S' (q) lv (st)) : zG p l e R s m args below meth c D cy A nL cells slots Q Z S (pc) lv (.int x :: .int i :: .ref a :: st) := by
  subst hq
  intro H locs ls hP hD hS hl
  obtain ⟨j, hj⟩ := zget ha.1 (zF_10 cy ha)
  have hset := zset (S' := zsI S a i.toNatClampNeg x) hD ha.1 (zF_10 cy ha) hj rfl (zF_sI10 cy ha i.toNatClampNeg x) (zF_offI cy Z S a i.toNatClampNeg x)
  refine va_zast (D := D) (cl := vwCl) C0.1.1 C0.1.2.1 C0.2.1.1 hP hD hS j 2 hj rfl hi hdg (fun H1 locs1 hP1 hD1 hS1 => ?_)
  rw [hx] at hP1 hD1
  exact kk _ rfl H1 locs1 ls (hset ▸ hP1) (hset ▸ hD1) hS1 hl
theorem zg_aast_11 (C0 : zC p s m args meth c cc nL Ts own D cy A rt) {a v : Nat} {i : Int32} (hdg : decode cc pc = .ok (.aastore, 1)) (ha : zk Z a 11) (hv : zk Z v 1) (hi : vp_in i (zN Z a)) (hq : pc + 1 = q) (kk : ∀ S' : zS, S' = zsR S a i.toNatClampNeg (some v) → zG p l e R s m args below meth c D cy A nL cells slots Q Z S' (q) lv (st)) : zG p l e R s m args below meth c D cy A nL cells slots Q Z S (pc) lv (.ref v :: .int i :: .ref a :: st) := by
  subst hq
  intro H locs ls hP hD hS hl
  obtain ⟨j, hj⟩ := zget ha.1 (zF_11 cy ha)
  obtain ⟨j2, hj2⟩ := zget hv.1 (zF_1 cy hv)
  have hset := zset (S' := zsR S a i.toNatClampNeg (some v)) hD ha.1 (zF_11 cy ha) hj rfl (zF_sR11 cy ha i.toNatClampNeg (some v)) (zF_offR cy Z S a i.toNatClampNeg (some v))
  exact va_astq (D := D) (cl := vwCl) C0.1.1 C0.1.2.1 C0.2.1.1 hP hD hS j 3 j2 1 (r := (RX1, TX1, 4)) hj rfl hj2 rfl hi hdg (fun H1 locs1 hP1 hD1 hS1 => kk _ rfl H1 locs1 ls (hset ▸ hP1) (hset ▸ hD1) hS1 hl)
theorem zg_aastN_11 (C0 : zC p s m args meth c cc nL Ts own D cy A rt) {a : Nat} {i : Int32} (hdg : decode cc pc = .ok (.aastore, 1)) (ha : zk Z a 11) (hi : vp_in i (zN Z a)) (hq : pc + 1 = q) (kk : ∀ S' : zS, S' = zsR S a i.toNatClampNeg (none) → zG p l e R s m args below meth c D cy A nL cells slots Q Z S' (q) lv (st)) : zG p l e R s m args below meth c D cy A nL cells slots Q Z S (pc) lv (.null :: .int i :: .ref a :: st) := by
  subst hq
  intro H locs ls hP hD hS hl
  obtain ⟨j, hj⟩ := zget ha.1 (zF_11 cy ha)
  have hset := zset (S' := zsR S a i.toNatClampNeg (none)) hD ha.1 (zF_11 cy ha) hj rfl (zF_sR11 cy ha i.toNatClampNeg (none)) (zF_offR cy Z S a i.toNatClampNeg (none))
  exact va_astqN (D := D) (cl := vwCl) C0.1.1 C0.1.2.1 C0.2.1.1 hP hD hS j 3 hj rfl hi hdg (fun H1 locs1 hP1 hD1 hS1 => kk _ rfl H1 locs1 ls (hset ▸ hP1) (hset ▸ hD1) hS1 hl)
theorem zg_aast_12 (C0 : zC p s m args meth c cc nL Ts own D cy A rt) {a v : Nat} {i : Int32} (hdg : decode cc pc = .ok (.aastore, 1)) (ha : zk Z a 12) (hv : zk Z v 2) (hi : vp_in i (zN Z a)) (hq : pc + 1 = q) (kk : ∀ Z' : zZ, Z' = zsQ Z a i.toNatClampNeg (some v) → zG p l e R s m args below meth c D cy A nL cells slots Q Z' S (q) lv (st)) : zG p l e R s m args below meth c D cy A nL cells slots Q Z S (pc) lv (.ref v :: .int i :: .ref a :: st) := by
  subst hq
  intro H locs ls hP hD hS hl
  obtain ⟨j, hj⟩ := zget ha.1 (zF_12 cy ha)
  obtain ⟨j2, hj2⟩ := zget hv.1 (zF_2 cy hv)
  have hset := zset (Z' := zsQ Z a i.toNatClampNeg (some v)) hD ha.1 (zF_12 cy ha) hj rfl (zF_sQ12 cy ha i.toNatClampNeg (some v)) (zF_offQ cy Z S a i.toNatClampNeg (some v))
  exact va_astq (D := D) (cl := vwCl) C0.1.1 C0.1.2.1 C0.2.1.1 hP hD hS j 4 j2 2 (r := (RX2, TX2, 13)) hj rfl hj2 rfl hi hdg (fun H1 locs1 hP1 hD1 hS1 => kk _ rfl H1 locs1 ls (hset ▸ hP1) (hset ▸ hD1) hS1 hl)
theorem zg_aastN_12 (C0 : zC p s m args meth c cc nL Ts own D cy A rt) {a : Nat} {i : Int32} (hdg : decode cc pc = .ok (.aastore, 1)) (ha : zk Z a 12) (hi : vp_in i (zN Z a)) (hq : pc + 1 = q) (kk : ∀ Z' : zZ, Z' = zsQ Z a i.toNatClampNeg (none) → zG p l e R s m args below meth c D cy A nL cells slots Q Z' S (q) lv (st)) : zG p l e R s m args below meth c D cy A nL cells slots Q Z S (pc) lv (.null :: .int i :: .ref a :: st) := by
  subst hq
  intro H locs ls hP hD hS hl
  obtain ⟨j, hj⟩ := zget ha.1 (zF_12 cy ha)
  have hset := zset (Z' := zsQ Z a i.toNatClampNeg (none)) hD ha.1 (zF_12 cy ha) hj rfl (zF_sQ12 cy ha i.toNatClampNeg (none)) (zF_offQ cy Z S a i.toNatClampNeg (none))
  exact va_astqN (D := D) (cl := vwCl) C0.1.1 C0.1.2.1 C0.2.1.1 hP hD hS j 4 hj rfl hi hdg (fun H1 locs1 hP1 hD1 hS1 => kk _ rfl H1 locs1 ls (hset ▸ hP1) (hset ▸ hD1) hS1 hl)
theorem zg_aast_13 (C0 : zC p s m args meth c cc nL Ts own D cy A rt) {a v : Nat} {i : Int32} (hdg : decode cc pc = .ok (.aastore, 1)) (ha : zk Z a 13) (hv : zk Z v 5) (hi : vp_in i (zN Z a)) (hq : pc + 1 = q) (kk : ∀ Z' : zZ, Z' = zsQ Z a i.toNatClampNeg (some v) → zG p l e R s m args below meth c D cy A nL cells slots Q Z' S (q) lv (st)) : zG p l e R s m args below meth c D cy A nL cells slots Q Z S (pc) lv (.ref v :: .int i :: .ref a :: st) := by
  subst hq
  intro H locs ls hP hD hS hl
  obtain ⟨j, hj⟩ := zget ha.1 (zF_13 cy ha)
  obtain ⟨j2, hj2⟩ := zget hv.1 (zF_5 cy hv)
  have hset := zset (Z' := zsQ Z a i.toNatClampNeg (some v)) hD ha.1 (zF_13 cy ha) hj rfl (zF_sQ13 cy ha i.toNatClampNeg (some v)) (zF_offQ cy Z S a i.toNatClampNeg (some v))
  exact va_astq (D := D) (cl := vwCl) C0.1.1 C0.1.2.1 C0.2.1.1 hP hD hS j 5 j2 5 (r := (RX5, TX5, 6)) hj rfl hj2 rfl hi hdg (fun H1 locs1 hP1 hD1 hS1 => kk _ rfl H1 locs1 ls (hset ▸ hP1) (hset ▸ hD1) hS1 hl)
theorem zg_aastN_13 (C0 : zC p s m args meth c cc nL Ts own D cy A rt) {a : Nat} {i : Int32} (hdg : decode cc pc = .ok (.aastore, 1)) (ha : zk Z a 13) (hi : vp_in i (zN Z a)) (hq : pc + 1 = q) (kk : ∀ Z' : zZ, Z' = zsQ Z a i.toNatClampNeg (none) → zG p l e R s m args below meth c D cy A nL cells slots Q Z' S (q) lv (st)) : zG p l e R s m args below meth c D cy A nL cells slots Q Z S (pc) lv (.null :: .int i :: .ref a :: st) := by
  subst hq
  intro H locs ls hP hD hS hl
  obtain ⟨j, hj⟩ := zget ha.1 (zF_13 cy ha)
  have hset := zset (Z' := zsQ Z a i.toNatClampNeg (none)) hD ha.1 (zF_13 cy ha) hj rfl (zF_sQ13 cy ha i.toNatClampNeg (none)) (zF_offQ cy Z S a i.toNatClampNeg (none))
  exact va_astqN (D := D) (cl := vwCl) C0.1.1 C0.1.2.1 C0.2.1.1 hP hD hS j 5 hj rfl hi hdg (fun H1 locs1 hP1 hD1 hS1 => kk _ rfl H1 locs1 ls (hset ▸ hP1) (hset ▸ hD1) hS1 hl)
theorem zA_sub (hA : ∀ q : Nat, s.heap.size ≤ q → A q) {H : Heap} {locs : List Loc} (hD : va_D A (zW cy Z S)) (hS : va_S A s.heap H locs) : ∀ q, zA cy Z S H.size q → A q := by
  intro q h
  rcases h with ⟨k, x, hk⟩ | h
  · exact hD.2 k (q, x) hk
  · exact hA q (Nat.le_trans hS.1 h)
def zMv (l : Launch) (y : MethodName) (ws : List Cond) (rm : Room) (D : va_G) (cy : Nat → ClassId) (Z : zZ) (S : zS) (sz : Nat) (av : List Value) (Qp : zS → Prop) : Prop := Met l y ws rm (zPc D cy Z S sz av) (va_Qv Qp (zB D cy (zA cy Z S sz) Z) (zA cy Z S sz)) rm.cells rm.slots (zA cy Z S sz)
abbrev zQv (below : List Frame) (D : va_G) (cy : Nat → ClassId) (A : Nat → Prop) (Z : zZ) (Qp : zS → Prop) (args : Array Value) (s : State) (mc ms : Nat) : State → Prop := MQ below (va_Qv Qp (zB D cy A Z) A) args s mc ms A
theorem zMv_of {y : MethodName} {ws ws' : List Cond} {rm : Room} {sz maxL : Nat} {av : List Value} {Qp : zS → Prop} (hy : plainName y.cls = true) (hw : ws = Cond.code y cc maxL rt :: ws') (hlen : (lg_sl av).length ≤ maxL)
    (body : ∀ (p : Program) (e : Env) (s : State) (m : MethodId) (args : Array Value) (below : List Frame) (meth : Method) (c : Code) (A : Nat → Prop), zC p s m args meth c cc maxL ws y.cls D cy A rt → meth.name = y.name → zG p l e (headSpec ws rm).room s m args below meth c D cy A maxL 0 0 (zQv below D cy A Z Qp args s rm.cells rm.slots) Z S 0 (lv_args 0 av) []) : zMv l y ws rm D cy Z S sz av Qp := by
  refine Met.ofW (cc := cc) (maxL := maxL) (ret := rt) hy hw ?_
  intro p e s m args below meth c s₁ B hml hv
  obtain ⟨rfl, hsz, hP, hD0, hV⟩ := hv
  subst hsz
  have hts := atoms_spec (ws := ws) B.pre
  have hown : s.vm.findClass y.cls = some m.cls := findClass_of_methodNamed B.named
  have hl := lv_entry av (n := maxL) hlen
  rw [lg_entry_eq]
  exact body p e s m av.toArray below meth c (zA cy Z S s.heap.size) ⟨⟨B.exec, B.bytes, hml, hown, hts⟩, hV, fun q h => Or.inr h, B.returns, B.notSynchronized⟩ (name_of_methodNamed B.named B.method).1 s.heap [] _ hP hD0.self va_S.rf hl
theorem zg_callVv (C0 : zC p s m args meth c cc nL Ts own D cy A rt) {Cn : String} {T : u_T} {N ci : Nat} {fs : List Value} {b : Nat} {ret : Option FieldType} {index maxL : Nat} {y : MethodName} {bytes : ByteArray} {ws ws' : List Cond} {rm : Room} (As rest : List Value) {Qp : zS → Prop} (hdg : decode cc pc = .ok (.invokevirtual index, 3)) (hM : ∀ sz, zMv l y ws rm D cy Z S sz (.ref b :: As) Qp) (hw : ws = Cond.code y bytes maxL ret :: ws') (hG : GoodIn Ts (wsV own index Cn y ws)) (hd : y.cls = Cn ∧ y.cls ≠ "java/lang/invoke/MethodHandle" ∧ y.cls ≠ "java/lang/invoke/VarHandle" ∧ (parseMethodDescriptor y.desc).map (fun d => d.parameters.length) = some As.length) (hb : zk Z b ci) (hF : zF cy Z S b = .inr (ci, fs)) (hc : vwCl[ci]? = some (Cn, T, N)) (hst : st = As.reverse ++ .ref b :: rest) (hR : rm.frames + 1 ≤ R.frames ∧ 8 + (maxL + 11) + rm.locals ≤ R.locals) (hcat : (rest.map fun v => v.category).sum ≤ 8) (hfit : cells ≤ R.cells ∧ slots ≤ R.slots) (hro : rm.cells = 0 ∧ rm.slots = 0) (hq : pc + 3 = q)
    (kk : ∀ τ, Qp τ → zG p l e R s m args below meth c D cy A nL cells slots Q Z τ (q) lv (rest)) : zG p l e R s m args below meth c D cy A nL cells slots Q Z S (pc) lv (st) := by
  subst hq
  intro H locs ls hP hD hS hl
  obtain ⟨j, hj⟩ := zget hb.1 hF
  have hA1 : ∀ q, zA cy Z S H.size q → A q := zA_sub C0.2.2.1 hD hS
  refine va_callv (va_runV (As := As) (rest := rest) C0.1 (hM H.size) (cwV As.length C0.1.2.2.2.2 hG hw rfl rfl hd hR) ⟨zPc_blind, va_recv C0.2.1.1 hP hc hj, fun U hU hW => ⟨rfl, by rw [hU], by rw [hU]; exact hP, hD.weaken (fun _ _ _ _ => trivial), C0.2.1.call hS hA1 hU hW⟩⟩ rfl rfl hl.1 hst (lv_room hcat) hdg ⟨by rw [hro.1]; exact hfit.1, by rw [hro.2]; exact hfit.2⟩) hS (fun q _ h => hA1 q h) hA1 (fun u t H1 locs1 ht hvm hw hB hz1 hk1 hS1 => ?_)
  subst ht
  rw [hro.1, hro.2]
  exact kk u hw _ locs1 ls hB.1 (hB.2.weaken (fun k x hk h => hA1 x.1 h)) hS1 hl
theorem zg_callSv (C0 : zC p s m args meth c cc nL Ts own D cy A rt) {ret : Option FieldType} {index maxL : Nat} {y : MethodName} {bytes : ByteArray} {ws ws' : List Cond} {rm : Room} (As rest : List Value) {Qp : zS → Prop} (hdg : decode cc pc = .ok (.invokestatic index, 3)) (hM : ∀ sz, zMv l y ws rm D cy Z S sz (As) Qp) (hw : ws = Cond.code y bytes maxL ret :: ws') (hG : GoodIn Ts (va_wsS own index y ws)) (hd : y.cls ≠ "java/lang/invoke/MethodHandle" ∧ y.cls ≠ "java/lang/invoke/VarHandle" ∧ (parseMethodDescriptor y.desc).map (fun d => d.parameters.length) = some As.length) (hst : st = As.reverse ++ rest) (hR : rm.frames + 1 ≤ R.frames ∧ 8 + (maxL + 11) + rm.locals ≤ R.locals) (hcat : (rest.map fun v => v.category).sum ≤ 8) (hfit : cells ≤ R.cells ∧ slots ≤ R.slots) (hro : rm.cells = 0 ∧ rm.slots = 0) (hq : pc + 3 = q)
    (kk : ∀ τ, Qp τ → zG p l e R s m args below meth c D cy A nL cells slots Q Z τ (q) lv (rest)) : zG p l e R s m args below meth c D cy A nL cells slots Q Z S (pc) lv (st) := by
  subst hq
  intro H locs ls hP hD hS hl
  have hA1 : ∀ q, zA cy Z S H.size q → A q := zA_sub C0.2.2.1 hD hS
  refine va_callv (va_runS (As := As) (rest := rest) C0.1 (hM H.size) (va_cwS As.length C0.1.2.2.2.2 hG hw rfl rfl hd hR) ⟨zPc_blind, fun U hU hW => ⟨rfl, by rw [hU], by rw [hU]; exact hP, hD.weaken (fun _ _ _ _ => trivial), C0.2.1.call hS hA1 hU hW⟩⟩ rfl rfl hl.1 hst (lv_room hcat) hdg ⟨by rw [hro.1]; exact hfit.1, by rw [hro.2]; exact hfit.2⟩) hS (fun q _ h => hA1 q h) hA1 (fun u t H1 locs1 ht hvm hw hB hz1 hk1 hS1 => ?_)
  subst ht
  rw [hro.1, hro.2]
  exact kk u hw _ locs1 ls hB.1 (hB.2.weaken (fun k x hk h => hA1 x.1 h)) hS1 hl
theorem zg_callSNv (C0 : zC p s m args meth c cc nL Ts own D cy A rt) {host : String} {ret : Option FieldType} {index maxL : Nat} {y : MethodName} {bytes : ByteArray} {ws ws' : List Cond} {rm : Room} (As rest : List Value) {Qp : zS → Prop} (hdg : decode cc pc = .ok (.invokestatic index, 3)) (hM : ∀ sz, zMv l y ws rm D cy Z S sz (As) Qp) (hw : ws = Cond.code y bytes maxL ret :: ws') (hG : GoodIn Ts ws) (hd : y.cls ≠ "java/lang/invoke/MethodHandle" ∧ y.cls ≠ "java/lang/invoke/VarHandle" ∧ (parseMethodDescriptor y.desc).map (fun d => d.parameters.length) = some As.length) (hnest : Cond.methodLinkNest own index y host ∈ zBw) (hini : Cond.initialized y.cls ∈ Ts) (hsta : Cond.static y ∈ Ts) (hst : st = As.reverse ++ rest) (hR : rm.frames + 1 ≤ R.frames ∧ 8 + (maxL + 11) + rm.locals ≤ R.locals) (hcat : (rest.map fun v => v.category).sum ≤ 8) (hfit : cells ≤ R.cells ∧ slots ≤ R.slots) (hro : rm.cells = 0 ∧ rm.slots = 0) (hq : pc + 3 = q)
    (kk : ∀ τ, Qp τ → zG p l e R s m args below meth c D cy A nL cells slots Q Z τ (q) lv (rest)) : zG p l e R s m args below meth c D cy A nL cells slots Q Z S (pc) lv (st) := by
  subst hq
  intro H locs ls hP hD hS hl
  have hA1 : ∀ q, zA cy Z S H.size q → A q := zA_sub C0.2.2.1 hD hS
  refine va_callv (va_runSN (As := As) (rest := rest) C0.1 (hM H.size) (⟨va_cnB As.length C0.1.2.2.2.2 hG hw rfl rfl (C0.2.1.2.1 _ hnest) (C0.1.2.2.2.2 _ hini) hd hR, C0.1.2.2.2.2 _ hsta, trivial⟩) ⟨zPc_blind, fun U hU hW => ⟨rfl, by rw [hU], by rw [hU]; exact hP, hD.weaken (fun _ _ _ _ => trivial), C0.2.1.call hS hA1 hU hW⟩⟩ rfl rfl hl.1 hst (lv_room hcat) hdg ⟨by rw [hro.1]; exact hfit.1, by rw [hro.2]; exact hfit.2⟩) hS (fun q _ h => hA1 q h) hA1 (fun u t H1 locs1 ht hvm hw hB hz1 hk1 hS1 => ?_)
  subst ht
  rw [hro.1, hro.2]
  exact kk u hw _ locs1 ls hB.1 (hB.2.weaken (fun k x hk h => hA1 x.1 h)) hS1 hl
theorem zg_callIv (C0 : zC p s m args meth c cc nL Ts own D cy A rt) {b : Nat} {index maxL : Nat} {y : MethodName} {bytes : ByteArray} {ws ws' : List Cond} {rm : Room} (As rest : List Value) {Qp : zS → Prop} (hdg : decode cc pc = .ok (.invokespecial index, 3)) (hM : ∀ sz, zMv l y ws rm D cy Z S sz (.ref b :: As) Qp) (hw : ws = Cond.code y bytes maxL none :: ws') (hG : GoodIn Ts ws) (hd : y.cls ≠ "java/lang/invoke/MethodHandle" ∧ y.cls ≠ "java/lang/invoke/VarHandle" ∧ (parseMethodDescriptor y.desc).map (fun d => d.parameters.length) = some As.length) (hini : Cond.initialized y.cls ∈ Ts) (hlk : Cond.methodLink own index y ∈ Ts) (hins : Cond.instanceMethod y ∈ Ts) (hyn : y.name = "<init>") (hst : st = As.reverse ++ .ref b :: rest) (hR : rm.frames + 1 ≤ R.frames ∧ 8 + (maxL + 11) + rm.locals ≤ R.locals) (hcat : (rest.map fun v => v.category).sum ≤ 8) (hfit : cells ≤ R.cells ∧ slots ≤ R.slots) (hro : rm.cells = 0 ∧ rm.slots = 0) (hq : pc + 3 = q)
    (kk : ∀ τ, Qp τ → zG p l e R s m args below meth c D cy A nL cells slots Q Z τ (q) lv (rest)) : zG p l e R s m args below meth c D cy A nL cells slots Q Z S (pc) lv (st) := by
  subst hq
  intro H locs ls hP hD hS hl
  have hA1 : ∀ q, zA cy Z S H.size q → A q := zA_sub C0.2.2.1 hD hS
  refine va_callv (va_runI (As := As) (rest := rest) C0.1 (hM H.size) (cwI As.length C0.1.2.2.2.2 hG hw rfl rfl (C0.1.2.2.2.2 _ hini) (C0.1.2.2.2.2 _ hlk) (C0.1.2.2.2.2 _ hins) hyn hd hR) ⟨zPc_blind, fun U hU hW => ⟨rfl, by rw [hU], by rw [hU]; exact hP, hD.weaken (fun _ _ _ _ => trivial), C0.2.1.call hS hA1 hU hW⟩⟩ rfl rfl hl.1 hst (lv_room hcat) hdg ⟨by rw [hro.1]; exact hfit.1, by rw [hro.2]; exact hfit.2⟩) hS (fun q _ h => hA1 q h) hA1 (fun u t H1 locs1 ht hvm hw hB hz1 hk1 hS1 => ?_)
  subst ht
  rw [hro.1, hro.2]
  exact kk u hw _ locs1 ls hB.1 (hB.2.weaken (fun k x hk h => hA1 x.1 h)) hS1 hl
theorem zg_callINv (C0 : zC p s m args meth c cc nL Ts own D cy A rt) {host : String} {b : Nat} {index maxL : Nat} {y : MethodName} {bytes : ByteArray} {ws ws' : List Cond} {rm : Room} (As rest : List Value) {Qp : zS → Prop} (hdg : decode cc pc = .ok (.invokespecial index, 3)) (hM : ∀ sz, zMv l y ws rm D cy Z S sz (.ref b :: As) Qp) (hw : ws = Cond.code y bytes maxL none :: ws') (hG : GoodIn Ts ws) (hd : y.cls ≠ "java/lang/invoke/MethodHandle" ∧ y.cls ≠ "java/lang/invoke/VarHandle" ∧ (parseMethodDescriptor y.desc).map (fun d => d.parameters.length) = some As.length) (hnest : Cond.methodLinkNest own index y host ∈ zBw) (hini : Cond.initialized y.cls ∈ Ts) (hins : Cond.instanceMethod y ∈ Ts) (hyn : y.name = "<init>") (hst : st = As.reverse ++ .ref b :: rest) (hR : rm.frames + 1 ≤ R.frames ∧ 8 + (maxL + 11) + rm.locals ≤ R.locals) (hcat : (rest.map fun v => v.category).sum ≤ 8) (hfit : cells ≤ R.cells ∧ slots ≤ R.slots) (hro : rm.cells = 0 ∧ rm.slots = 0) (hq : pc + 3 = q)
    (kk : ∀ τ, Qp τ → zG p l e R s m args below meth c D cy A nL cells slots Q Z τ (q) lv (rest)) : zG p l e R s m args below meth c D cy A nL cells slots Q Z S (pc) lv (st) := by
  subst hq
  intro H locs ls hP hD hS hl
  have hA1 : ∀ q, zA cy Z S H.size q → A q := zA_sub C0.2.2.1 hD hS
  refine va_callv (va_runIN (As := As) (rest := rest) C0.1 (hM H.size) (⟨va_cnB As.length C0.1.2.2.2.2 hG hw rfl rfl (C0.2.1.2.1 _ hnest) (C0.1.2.2.2.2 _ hini) hd hR, hyn, C0.1.2.2.2.2 _ hins⟩) ⟨zPc_blind, fun U hU hW => ⟨rfl, by rw [hU], by rw [hU]; exact hP, hD.weaken (fun _ _ _ _ => trivial), C0.2.1.call hS hA1 hU hW⟩⟩ rfl rfl hl.1 hst (lv_room hcat) hdg ⟨by rw [hro.1]; exact hfit.1, by rw [hro.2]; exact hfit.2⟩) hS (fun q _ h => hA1 q h) hA1 (fun u t H1 locs1 ht hvm hw hB hz1 hk1 hS1 => ?_)
  subst ht
  rw [hro.1, hro.2]
  exact kk u hw _ locs1 ls hB.1 (hB.2.weaken (fun k x hk h => hA1 x.1 h)) hS1 hl
def zMi (l : Launch) (y : MethodName) (ws : List Cond) (rm : Room) (D : va_G) (cy : Nat → ClassId) (Z : zZ) (S : zS) (sz : Nat) (av : List Value) (Qp : Int32 → zS → Prop) : Prop := Met l y ws rm (zPc D cy Z S sz av) (va_Qi Qp (zB D cy (zA cy Z S sz) Z) (zA cy Z S sz)) rm.cells rm.slots (zA cy Z S sz)
abbrev zQi (below : List Frame) (D : va_G) (cy : Nat → ClassId) (A : Nat → Prop) (Z : zZ) (Qp : Int32 → zS → Prop) (args : Array Value) (s : State) (mc ms : Nat) : State → Prop := MQ below (va_Qi Qp (zB D cy A Z) A) args s mc ms A
theorem zMi_of {y : MethodName} {ws ws' : List Cond} {rm : Room} {sz maxL : Nat} {av : List Value} {Qp : Int32 → zS → Prop} (hy : plainName y.cls = true) (hw : ws = Cond.code y cc maxL rt :: ws') (hlen : (lg_sl av).length ≤ maxL)
    (body : ∀ (p : Program) (e : Env) (s : State) (m : MethodId) (args : Array Value) (below : List Frame) (meth : Method) (c : Code) (A : Nat → Prop), zC p s m args meth c cc maxL ws y.cls D cy A rt → meth.name = y.name → zG p l e (headSpec ws rm).room s m args below meth c D cy A maxL 0 0 (zQi below D cy A Z Qp args s rm.cells rm.slots) Z S 0 (lv_args 0 av) []) : zMi l y ws rm D cy Z S sz av Qp := by
  refine Met.ofW (cc := cc) (maxL := maxL) (ret := rt) hy hw ?_
  intro p e s m args below meth c s₁ B hml hv
  obtain ⟨rfl, hsz, hP, hD0, hV⟩ := hv
  subst hsz
  have hts := atoms_spec (ws := ws) B.pre
  have hown : s.vm.findClass y.cls = some m.cls := findClass_of_methodNamed B.named
  have hl := lv_entry av (n := maxL) hlen
  rw [lg_entry_eq]
  exact body p e s m av.toArray below meth c (zA cy Z S s.heap.size) ⟨⟨B.exec, B.bytes, hml, hown, hts⟩, hV, fun q h => Or.inr h, B.returns, B.notSynchronized⟩ (name_of_methodNamed B.named B.method).1 s.heap [] _ hP hD0.self va_S.rf hl
theorem zg_callVi (C0 : zC p s m args meth c cc nL Ts own D cy A rt) {Cn : String} {T : u_T} {N ci : Nat} {fs : List Value} {b : Nat} {ret : Option FieldType} {index maxL : Nat} {y : MethodName} {bytes : ByteArray} {ws ws' : List Cond} {rm : Room} (As rest : List Value) {Qp : Int32 → zS → Prop} (hdg : decode cc pc = .ok (.invokevirtual index, 3)) (hM : ∀ sz, zMi l y ws rm D cy Z S sz (.ref b :: As) Qp) (hw : ws = Cond.code y bytes maxL ret :: ws') (hG : GoodIn Ts (wsV own index Cn y ws)) (hd : y.cls = Cn ∧ y.cls ≠ "java/lang/invoke/MethodHandle" ∧ y.cls ≠ "java/lang/invoke/VarHandle" ∧ (parseMethodDescriptor y.desc).map (fun d => d.parameters.length) = some As.length) (hb : zk Z b ci) (hF : zF cy Z S b = .inr (ci, fs)) (hc : vwCl[ci]? = some (Cn, T, N)) (hst : st = As.reverse ++ .ref b :: rest) (hR : rm.frames + 1 ≤ R.frames ∧ 8 + (maxL + 11) + rm.locals ≤ R.locals) (hcat : (rest.map fun v => v.category).sum ≤ 8) (hfit : cells ≤ R.cells ∧ slots ≤ R.slots) (hro : rm.cells = 0 ∧ rm.slots = 0) (hq : pc + 3 = q)
    (kk : ∀ r τ, Qp r τ → zG p l e R s m args below meth c D cy A nL cells slots Q Z τ (q) lv (.int r :: rest)) : zG p l e R s m args below meth c D cy A nL cells slots Q Z S (pc) lv (st) := by
  subst hq
  intro H locs ls hP hD hS hl
  obtain ⟨j, hj⟩ := zget hb.1 hF
  have hA1 : ∀ q, zA cy Z S H.size q → A q := zA_sub C0.2.2.1 hD hS
  refine va_calli (va_runV (As := As) (rest := rest) C0.1 (hM H.size) (cwV As.length C0.1.2.2.2.2 hG hw rfl rfl hd hR) ⟨zPc_blind, va_recv C0.2.1.1 hP hc hj, fun U hU hW => ⟨rfl, by rw [hU], by rw [hU]; exact hP, hD.weaken (fun _ _ _ _ => trivial), C0.2.1.call hS hA1 hU hW⟩⟩ rfl rfl hl.1 hst (lv_room hcat) hdg ⟨by rw [hro.1]; exact hfit.1, by rw [hro.2]; exact hfit.2⟩) hS (fun q _ h => hA1 q h) hA1 (fun r u t H1 locs1 ht hvm hw hB hz1 hk1 hS1 => ?_)
  subst ht
  rw [hro.1, hro.2]
  exact kk r u hw _ locs1 ls hB.1 (hB.2.weaken (fun k x hk h => hA1 x.1 h)) hS1 hl
theorem zg_callSi (C0 : zC p s m args meth c cc nL Ts own D cy A rt) {ret : Option FieldType} {index maxL : Nat} {y : MethodName} {bytes : ByteArray} {ws ws' : List Cond} {rm : Room} (As rest : List Value) {Qp : Int32 → zS → Prop} (hdg : decode cc pc = .ok (.invokestatic index, 3)) (hM : ∀ sz, zMi l y ws rm D cy Z S sz (As) Qp) (hw : ws = Cond.code y bytes maxL ret :: ws') (hG : GoodIn Ts (va_wsS own index y ws)) (hd : y.cls ≠ "java/lang/invoke/MethodHandle" ∧ y.cls ≠ "java/lang/invoke/VarHandle" ∧ (parseMethodDescriptor y.desc).map (fun d => d.parameters.length) = some As.length) (hst : st = As.reverse ++ rest) (hR : rm.frames + 1 ≤ R.frames ∧ 8 + (maxL + 11) + rm.locals ≤ R.locals) (hcat : (rest.map fun v => v.category).sum ≤ 8) (hfit : cells ≤ R.cells ∧ slots ≤ R.slots) (hro : rm.cells = 0 ∧ rm.slots = 0) (hq : pc + 3 = q)
    (kk : ∀ r τ, Qp r τ → zG p l e R s m args below meth c D cy A nL cells slots Q Z τ (q) lv (.int r :: rest)) : zG p l e R s m args below meth c D cy A nL cells slots Q Z S (pc) lv (st) := by
  subst hq
  intro H locs ls hP hD hS hl
  have hA1 : ∀ q, zA cy Z S H.size q → A q := zA_sub C0.2.2.1 hD hS
  refine va_calli (va_runS (As := As) (rest := rest) C0.1 (hM H.size) (va_cwS As.length C0.1.2.2.2.2 hG hw rfl rfl hd hR) ⟨zPc_blind, fun U hU hW => ⟨rfl, by rw [hU], by rw [hU]; exact hP, hD.weaken (fun _ _ _ _ => trivial), C0.2.1.call hS hA1 hU hW⟩⟩ rfl rfl hl.1 hst (lv_room hcat) hdg ⟨by rw [hro.1]; exact hfit.1, by rw [hro.2]; exact hfit.2⟩) hS (fun q _ h => hA1 q h) hA1 (fun r u t H1 locs1 ht hvm hw hB hz1 hk1 hS1 => ?_)
  subst ht
  rw [hro.1, hro.2]
  exact kk r u hw _ locs1 ls hB.1 (hB.2.weaken (fun k x hk h => hA1 x.1 h)) hS1 hl
theorem zg_callSNi (C0 : zC p s m args meth c cc nL Ts own D cy A rt) {host : String} {ret : Option FieldType} {index maxL : Nat} {y : MethodName} {bytes : ByteArray} {ws ws' : List Cond} {rm : Room} (As rest : List Value) {Qp : Int32 → zS → Prop} (hdg : decode cc pc = .ok (.invokestatic index, 3)) (hM : ∀ sz, zMi l y ws rm D cy Z S sz (As) Qp) (hw : ws = Cond.code y bytes maxL ret :: ws') (hG : GoodIn Ts ws) (hd : y.cls ≠ "java/lang/invoke/MethodHandle" ∧ y.cls ≠ "java/lang/invoke/VarHandle" ∧ (parseMethodDescriptor y.desc).map (fun d => d.parameters.length) = some As.length) (hnest : Cond.methodLinkNest own index y host ∈ zBw) (hini : Cond.initialized y.cls ∈ Ts) (hsta : Cond.static y ∈ Ts) (hst : st = As.reverse ++ rest) (hR : rm.frames + 1 ≤ R.frames ∧ 8 + (maxL + 11) + rm.locals ≤ R.locals) (hcat : (rest.map fun v => v.category).sum ≤ 8) (hfit : cells ≤ R.cells ∧ slots ≤ R.slots) (hro : rm.cells = 0 ∧ rm.slots = 0) (hq : pc + 3 = q)
    (kk : ∀ r τ, Qp r τ → zG p l e R s m args below meth c D cy A nL cells slots Q Z τ (q) lv (.int r :: rest)) : zG p l e R s m args below meth c D cy A nL cells slots Q Z S (pc) lv (st) := by
  subst hq
  intro H locs ls hP hD hS hl
  have hA1 : ∀ q, zA cy Z S H.size q → A q := zA_sub C0.2.2.1 hD hS
  refine va_calli (va_runSN (As := As) (rest := rest) C0.1 (hM H.size) (⟨va_cnB As.length C0.1.2.2.2.2 hG hw rfl rfl (C0.2.1.2.1 _ hnest) (C0.1.2.2.2.2 _ hini) hd hR, C0.1.2.2.2.2 _ hsta, trivial⟩) ⟨zPc_blind, fun U hU hW => ⟨rfl, by rw [hU], by rw [hU]; exact hP, hD.weaken (fun _ _ _ _ => trivial), C0.2.1.call hS hA1 hU hW⟩⟩ rfl rfl hl.1 hst (lv_room hcat) hdg ⟨by rw [hro.1]; exact hfit.1, by rw [hro.2]; exact hfit.2⟩) hS (fun q _ h => hA1 q h) hA1 (fun r u t H1 locs1 ht hvm hw hB hz1 hk1 hS1 => ?_)
  subst ht
  rw [hro.1, hro.2]
  exact kk r u hw _ locs1 ls hB.1 (hB.2.weaken (fun k x hk h => hA1 x.1 h)) hS1 hl
def zMl (l : Launch) (y : MethodName) (ws : List Cond) (rm : Room) (D : va_G) (cy : Nat → ClassId) (Z : zZ) (S : zS) (sz : Nat) (av : List Value) (Qp : Int64 → zS → Prop) : Prop := Met l y ws rm (zPc D cy Z S sz av) (va_Ql Qp (zB D cy (zA cy Z S sz) Z) (zA cy Z S sz)) rm.cells rm.slots (zA cy Z S sz)
abbrev zQl (below : List Frame) (D : va_G) (cy : Nat → ClassId) (A : Nat → Prop) (Z : zZ) (Qp : Int64 → zS → Prop) (args : Array Value) (s : State) (mc ms : Nat) : State → Prop := MQ below (va_Ql Qp (zB D cy A Z) A) args s mc ms A
theorem zMl_of {y : MethodName} {ws ws' : List Cond} {rm : Room} {sz maxL : Nat} {av : List Value} {Qp : Int64 → zS → Prop} (hy : plainName y.cls = true) (hw : ws = Cond.code y cc maxL rt :: ws') (hlen : (lg_sl av).length ≤ maxL)
    (body : ∀ (p : Program) (e : Env) (s : State) (m : MethodId) (args : Array Value) (below : List Frame) (meth : Method) (c : Code) (A : Nat → Prop), zC p s m args meth c cc maxL ws y.cls D cy A rt → meth.name = y.name → zG p l e (headSpec ws rm).room s m args below meth c D cy A maxL 0 0 (zQl below D cy A Z Qp args s rm.cells rm.slots) Z S 0 (lv_args 0 av) []) : zMl l y ws rm D cy Z S sz av Qp := by
  refine Met.ofW (cc := cc) (maxL := maxL) (ret := rt) hy hw ?_
  intro p e s m args below meth c s₁ B hml hv
  obtain ⟨rfl, hsz, hP, hD0, hV⟩ := hv
  subst hsz
  have hts := atoms_spec (ws := ws) B.pre
  have hown : s.vm.findClass y.cls = some m.cls := findClass_of_methodNamed B.named
  have hl := lv_entry av (n := maxL) hlen
  rw [lg_entry_eq]
  exact body p e s m av.toArray below meth c (zA cy Z S s.heap.size) ⟨⟨B.exec, B.bytes, hml, hown, hts⟩, hV, fun q h => Or.inr h, B.returns, B.notSynchronized⟩ (name_of_methodNamed B.named B.method).1 s.heap [] _ hP hD0.self va_S.rf hl
theorem zg_callVl (C0 : zC p s m args meth c cc nL Ts own D cy A rt) {Cn : String} {T : u_T} {N ci : Nat} {fs : List Value} {b : Nat} {ret : Option FieldType} {index maxL : Nat} {y : MethodName} {bytes : ByteArray} {ws ws' : List Cond} {rm : Room} (As rest : List Value) {Qp : Int64 → zS → Prop} (hdg : decode cc pc = .ok (.invokevirtual index, 3)) (hM : ∀ sz, zMl l y ws rm D cy Z S sz (.ref b :: As) Qp) (hw : ws = Cond.code y bytes maxL ret :: ws') (hG : GoodIn Ts (wsV own index Cn y ws)) (hd : y.cls = Cn ∧ y.cls ≠ "java/lang/invoke/MethodHandle" ∧ y.cls ≠ "java/lang/invoke/VarHandle" ∧ (parseMethodDescriptor y.desc).map (fun d => d.parameters.length) = some As.length) (hb : zk Z b ci) (hF : zF cy Z S b = .inr (ci, fs)) (hc : vwCl[ci]? = some (Cn, T, N)) (hst : st = As.reverse ++ .ref b :: rest) (hR : rm.frames + 1 ≤ R.frames ∧ 8 + (maxL + 11) + rm.locals ≤ R.locals) (hcat : (rest.map fun v => v.category).sum ≤ 8) (hfit : cells ≤ R.cells ∧ slots ≤ R.slots) (hro : rm.cells = 0 ∧ rm.slots = 0) (hq : pc + 3 = q)
    (kk : ∀ r τ, Qp r τ → zG p l e R s m args below meth c D cy A nL cells slots Q Z τ (q) lv (.long r :: rest)) : zG p l e R s m args below meth c D cy A nL cells slots Q Z S (pc) lv (st) := by
  subst hq
  intro H locs ls hP hD hS hl
  obtain ⟨j, hj⟩ := zget hb.1 hF
  have hA1 : ∀ q, zA cy Z S H.size q → A q := zA_sub C0.2.2.1 hD hS
  refine va_calll (va_runV (As := As) (rest := rest) C0.1 (hM H.size) (cwV As.length C0.1.2.2.2.2 hG hw rfl rfl hd hR) ⟨zPc_blind, va_recv C0.2.1.1 hP hc hj, fun U hU hW => ⟨rfl, by rw [hU], by rw [hU]; exact hP, hD.weaken (fun _ _ _ _ => trivial), C0.2.1.call hS hA1 hU hW⟩⟩ rfl rfl hl.1 hst (lv_room hcat) hdg ⟨by rw [hro.1]; exact hfit.1, by rw [hro.2]; exact hfit.2⟩) hS (fun q _ h => hA1 q h) hA1 (fun r u t H1 locs1 ht hvm hw hB hz1 hk1 hS1 => ?_)
  subst ht
  rw [hro.1, hro.2]
  exact kk r u hw _ locs1 ls hB.1 (hB.2.weaken (fun k x hk h => hA1 x.1 h)) hS1 hl
theorem zg_callSl (C0 : zC p s m args meth c cc nL Ts own D cy A rt) {ret : Option FieldType} {index maxL : Nat} {y : MethodName} {bytes : ByteArray} {ws ws' : List Cond} {rm : Room} (As rest : List Value) {Qp : Int64 → zS → Prop} (hdg : decode cc pc = .ok (.invokestatic index, 3)) (hM : ∀ sz, zMl l y ws rm D cy Z S sz (As) Qp) (hw : ws = Cond.code y bytes maxL ret :: ws') (hG : GoodIn Ts (va_wsS own index y ws)) (hd : y.cls ≠ "java/lang/invoke/MethodHandle" ∧ y.cls ≠ "java/lang/invoke/VarHandle" ∧ (parseMethodDescriptor y.desc).map (fun d => d.parameters.length) = some As.length) (hst : st = As.reverse ++ rest) (hR : rm.frames + 1 ≤ R.frames ∧ 8 + (maxL + 11) + rm.locals ≤ R.locals) (hcat : (rest.map fun v => v.category).sum ≤ 8) (hfit : cells ≤ R.cells ∧ slots ≤ R.slots) (hro : rm.cells = 0 ∧ rm.slots = 0) (hq : pc + 3 = q)
    (kk : ∀ r τ, Qp r τ → zG p l e R s m args below meth c D cy A nL cells slots Q Z τ (q) lv (.long r :: rest)) : zG p l e R s m args below meth c D cy A nL cells slots Q Z S (pc) lv (st) := by
  subst hq
  intro H locs ls hP hD hS hl
  have hA1 : ∀ q, zA cy Z S H.size q → A q := zA_sub C0.2.2.1 hD hS
  refine va_calll (va_runS (As := As) (rest := rest) C0.1 (hM H.size) (va_cwS As.length C0.1.2.2.2.2 hG hw rfl rfl hd hR) ⟨zPc_blind, fun U hU hW => ⟨rfl, by rw [hU], by rw [hU]; exact hP, hD.weaken (fun _ _ _ _ => trivial), C0.2.1.call hS hA1 hU hW⟩⟩ rfl rfl hl.1 hst (lv_room hcat) hdg ⟨by rw [hro.1]; exact hfit.1, by rw [hro.2]; exact hfit.2⟩) hS (fun q _ h => hA1 q h) hA1 (fun r u t H1 locs1 ht hvm hw hB hz1 hk1 hS1 => ?_)
  subst ht
  rw [hro.1, hro.2]
  exact kk r u hw _ locs1 ls hB.1 (hB.2.weaken (fun k x hk h => hA1 x.1 h)) hS1 hl
theorem zg_callSNl (C0 : zC p s m args meth c cc nL Ts own D cy A rt) {host : String} {ret : Option FieldType} {index maxL : Nat} {y : MethodName} {bytes : ByteArray} {ws ws' : List Cond} {rm : Room} (As rest : List Value) {Qp : Int64 → zS → Prop} (hdg : decode cc pc = .ok (.invokestatic index, 3)) (hM : ∀ sz, zMl l y ws rm D cy Z S sz (As) Qp) (hw : ws = Cond.code y bytes maxL ret :: ws') (hG : GoodIn Ts ws) (hd : y.cls ≠ "java/lang/invoke/MethodHandle" ∧ y.cls ≠ "java/lang/invoke/VarHandle" ∧ (parseMethodDescriptor y.desc).map (fun d => d.parameters.length) = some As.length) (hnest : Cond.methodLinkNest own index y host ∈ zBw) (hini : Cond.initialized y.cls ∈ Ts) (hsta : Cond.static y ∈ Ts) (hst : st = As.reverse ++ rest) (hR : rm.frames + 1 ≤ R.frames ∧ 8 + (maxL + 11) + rm.locals ≤ R.locals) (hcat : (rest.map fun v => v.category).sum ≤ 8) (hfit : cells ≤ R.cells ∧ slots ≤ R.slots) (hro : rm.cells = 0 ∧ rm.slots = 0) (hq : pc + 3 = q)
    (kk : ∀ r τ, Qp r τ → zG p l e R s m args below meth c D cy A nL cells slots Q Z τ (q) lv (.long r :: rest)) : zG p l e R s m args below meth c D cy A nL cells slots Q Z S (pc) lv (st) := by
  subst hq
  intro H locs ls hP hD hS hl
  have hA1 : ∀ q, zA cy Z S H.size q → A q := zA_sub C0.2.2.1 hD hS
  refine va_calll (va_runSN (As := As) (rest := rest) C0.1 (hM H.size) (⟨va_cnB As.length C0.1.2.2.2.2 hG hw rfl rfl (C0.2.1.2.1 _ hnest) (C0.1.2.2.2.2 _ hini) hd hR, C0.1.2.2.2.2 _ hsta, trivial⟩) ⟨zPc_blind, fun U hU hW => ⟨rfl, by rw [hU], by rw [hU]; exact hP, hD.weaken (fun _ _ _ _ => trivial), C0.2.1.call hS hA1 hU hW⟩⟩ rfl rfl hl.1 hst (lv_room hcat) hdg ⟨by rw [hro.1]; exact hfit.1, by rw [hro.2]; exact hfit.2⟩) hS (fun q _ h => hA1 q h) hA1 (fun r u t H1 locs1 ht hvm hw hB hz1 hk1 hS1 => ?_)
  subst ht
  rw [hro.1, hro.2]
  exact kk r u hw _ locs1 ls hB.1 (hB.2.weaken (fun k x hk h => hA1 x.1 h)) hS1 hl
def zMq (l : Launch) (y : MethodName) (ws : List Cond) (rm : Room) (D : va_G) (cy : Nat → ClassId) (Z : zZ) (S : zS) (sz : Nat) (av : List Value) (Qp : Option Nat → zS → Prop) : Prop := Met l y ws rm (zPc D cy Z S sz av) (va_Qq Qp (zB D cy (zA cy Z S sz) Z) (zA cy Z S sz)) rm.cells rm.slots (zA cy Z S sz)
abbrev zQq (below : List Frame) (D : va_G) (cy : Nat → ClassId) (A : Nat → Prop) (Z : zZ) (Qp : Option Nat → zS → Prop) (args : Array Value) (s : State) (mc ms : Nat) : State → Prop := MQ below (va_Qq Qp (zB D cy A Z) A) args s mc ms A
theorem zMq_of {y : MethodName} {ws ws' : List Cond} {rm : Room} {sz maxL : Nat} {av : List Value} {Qp : Option Nat → zS → Prop} (hy : plainName y.cls = true) (hw : ws = Cond.code y cc maxL rt :: ws') (hlen : (lg_sl av).length ≤ maxL)
    (body : ∀ (p : Program) (e : Env) (s : State) (m : MethodId) (args : Array Value) (below : List Frame) (meth : Method) (c : Code) (A : Nat → Prop), zC p s m args meth c cc maxL ws y.cls D cy A rt → meth.name = y.name → zG p l e (headSpec ws rm).room s m args below meth c D cy A maxL 0 0 (zQq below D cy A Z Qp args s rm.cells rm.slots) Z S 0 (lv_args 0 av) []) : zMq l y ws rm D cy Z S sz av Qp := by
  refine Met.ofW (cc := cc) (maxL := maxL) (ret := rt) hy hw ?_
  intro p e s m args below meth c s₁ B hml hv
  obtain ⟨rfl, hsz, hP, hD0, hV⟩ := hv
  subst hsz
  have hts := atoms_spec (ws := ws) B.pre
  have hown : s.vm.findClass y.cls = some m.cls := findClass_of_methodNamed B.named
  have hl := lv_entry av (n := maxL) hlen
  rw [lg_entry_eq]
  exact body p e s m av.toArray below meth c (zA cy Z S s.heap.size) ⟨⟨B.exec, B.bytes, hml, hown, hts⟩, hV, fun q h => Or.inr h, B.returns, B.notSynchronized⟩ (name_of_methodNamed B.named B.method).1 s.heap [] _ hP hD0.self va_S.rf hl
theorem zg_callVq (C0 : zC p s m args meth c cc nL Ts own D cy A rt) {Cn : String} {T : u_T} {N ci : Nat} {fs : List Value} {b : Nat} {ret : Option FieldType} {index maxL : Nat} {y : MethodName} {bytes : ByteArray} {ws ws' : List Cond} {rm : Room} (As rest : List Value) {Qp : Option Nat → zS → Prop} (hdg : decode cc pc = .ok (.invokevirtual index, 3)) (hM : ∀ sz, zMq l y ws rm D cy Z S sz (.ref b :: As) Qp) (hw : ws = Cond.code y bytes maxL ret :: ws') (hG : GoodIn Ts (wsV own index Cn y ws)) (hd : y.cls = Cn ∧ y.cls ≠ "java/lang/invoke/MethodHandle" ∧ y.cls ≠ "java/lang/invoke/VarHandle" ∧ (parseMethodDescriptor y.desc).map (fun d => d.parameters.length) = some As.length) (hb : zk Z b ci) (hF : zF cy Z S b = .inr (ci, fs)) (hc : vwCl[ci]? = some (Cn, T, N)) (hst : st = As.reverse ++ .ref b :: rest) (hR : rm.frames + 1 ≤ R.frames ∧ 8 + (maxL + 11) + rm.locals ≤ R.locals) (hcat : (rest.map fun v => v.category).sum ≤ 8) (hfit : cells ≤ R.cells ∧ slots ≤ R.slots) (hro : rm.cells = 0 ∧ rm.slots = 0) (hq : pc + 3 = q)
    (kk : ∀ r τ, Qp r τ → zG p l e R s m args below meth c D cy A nL cells slots Q Z τ (q) lv (va_rf r :: rest)) : zG p l e R s m args below meth c D cy A nL cells slots Q Z S (pc) lv (st) := by
  subst hq
  intro H locs ls hP hD hS hl
  obtain ⟨j, hj⟩ := zget hb.1 hF
  have hA1 : ∀ q, zA cy Z S H.size q → A q := zA_sub C0.2.2.1 hD hS
  refine va_callq (va_runV (As := As) (rest := rest) C0.1 (hM H.size) (cwV As.length C0.1.2.2.2.2 hG hw rfl rfl hd hR) ⟨zPc_blind, va_recv C0.2.1.1 hP hc hj, fun U hU hW => ⟨rfl, by rw [hU], by rw [hU]; exact hP, hD.weaken (fun _ _ _ _ => trivial), C0.2.1.call hS hA1 hU hW⟩⟩ rfl rfl hl.1 hst (lv_room hcat) hdg ⟨by rw [hro.1]; exact hfit.1, by rw [hro.2]; exact hfit.2⟩) hS (fun q _ h => hA1 q h) hA1 (fun r u t H1 locs1 ht hvm hw hB hz1 hk1 hS1 => ?_)
  subst ht
  rw [hro.1, hro.2]
  exact kk r u hw _ locs1 ls hB.1 (hB.2.weaken (fun k x hk h => hA1 x.1 h)) hS1 hl
theorem zg_callSq (C0 : zC p s m args meth c cc nL Ts own D cy A rt) {ret : Option FieldType} {index maxL : Nat} {y : MethodName} {bytes : ByteArray} {ws ws' : List Cond} {rm : Room} (As rest : List Value) {Qp : Option Nat → zS → Prop} (hdg : decode cc pc = .ok (.invokestatic index, 3)) (hM : ∀ sz, zMq l y ws rm D cy Z S sz (As) Qp) (hw : ws = Cond.code y bytes maxL ret :: ws') (hG : GoodIn Ts (va_wsS own index y ws)) (hd : y.cls ≠ "java/lang/invoke/MethodHandle" ∧ y.cls ≠ "java/lang/invoke/VarHandle" ∧ (parseMethodDescriptor y.desc).map (fun d => d.parameters.length) = some As.length) (hst : st = As.reverse ++ rest) (hR : rm.frames + 1 ≤ R.frames ∧ 8 + (maxL + 11) + rm.locals ≤ R.locals) (hcat : (rest.map fun v => v.category).sum ≤ 8) (hfit : cells ≤ R.cells ∧ slots ≤ R.slots) (hro : rm.cells = 0 ∧ rm.slots = 0) (hq : pc + 3 = q)
    (kk : ∀ r τ, Qp r τ → zG p l e R s m args below meth c D cy A nL cells slots Q Z τ (q) lv (va_rf r :: rest)) : zG p l e R s m args below meth c D cy A nL cells slots Q Z S (pc) lv (st) := by
  subst hq
  intro H locs ls hP hD hS hl
  have hA1 : ∀ q, zA cy Z S H.size q → A q := zA_sub C0.2.2.1 hD hS
  refine va_callq (va_runS (As := As) (rest := rest) C0.1 (hM H.size) (va_cwS As.length C0.1.2.2.2.2 hG hw rfl rfl hd hR) ⟨zPc_blind, fun U hU hW => ⟨rfl, by rw [hU], by rw [hU]; exact hP, hD.weaken (fun _ _ _ _ => trivial), C0.2.1.call hS hA1 hU hW⟩⟩ rfl rfl hl.1 hst (lv_room hcat) hdg ⟨by rw [hro.1]; exact hfit.1, by rw [hro.2]; exact hfit.2⟩) hS (fun q _ h => hA1 q h) hA1 (fun r u t H1 locs1 ht hvm hw hB hz1 hk1 hS1 => ?_)
  subst ht
  rw [hro.1, hro.2]
  exact kk r u hw _ locs1 ls hB.1 (hB.2.weaken (fun k x hk h => hA1 x.1 h)) hS1 hl
theorem zg_callSNq (C0 : zC p s m args meth c cc nL Ts own D cy A rt) {host : String} {ret : Option FieldType} {index maxL : Nat} {y : MethodName} {bytes : ByteArray} {ws ws' : List Cond} {rm : Room} (As rest : List Value) {Qp : Option Nat → zS → Prop} (hdg : decode cc pc = .ok (.invokestatic index, 3)) (hM : ∀ sz, zMq l y ws rm D cy Z S sz (As) Qp) (hw : ws = Cond.code y bytes maxL ret :: ws') (hG : GoodIn Ts ws) (hd : y.cls ≠ "java/lang/invoke/MethodHandle" ∧ y.cls ≠ "java/lang/invoke/VarHandle" ∧ (parseMethodDescriptor y.desc).map (fun d => d.parameters.length) = some As.length) (hnest : Cond.methodLinkNest own index y host ∈ zBw) (hini : Cond.initialized y.cls ∈ Ts) (hsta : Cond.static y ∈ Ts) (hst : st = As.reverse ++ rest) (hR : rm.frames + 1 ≤ R.frames ∧ 8 + (maxL + 11) + rm.locals ≤ R.locals) (hcat : (rest.map fun v => v.category).sum ≤ 8) (hfit : cells ≤ R.cells ∧ slots ≤ R.slots) (hro : rm.cells = 0 ∧ rm.slots = 0) (hq : pc + 3 = q)
    (kk : ∀ r τ, Qp r τ → zG p l e R s m args below meth c D cy A nL cells slots Q Z τ (q) lv (va_rf r :: rest)) : zG p l e R s m args below meth c D cy A nL cells slots Q Z S (pc) lv (st) := by
  subst hq
  intro H locs ls hP hD hS hl
  have hA1 : ∀ q, zA cy Z S H.size q → A q := zA_sub C0.2.2.1 hD hS
  refine va_callq (va_runSN (As := As) (rest := rest) C0.1 (hM H.size) (⟨va_cnB As.length C0.1.2.2.2.2 hG hw rfl rfl (C0.2.1.2.1 _ hnest) (C0.1.2.2.2.2 _ hini) hd hR, C0.1.2.2.2.2 _ hsta, trivial⟩) ⟨zPc_blind, fun U hU hW => ⟨rfl, by rw [hU], by rw [hU]; exact hP, hD.weaken (fun _ _ _ _ => trivial), C0.2.1.call hS hA1 hU hW⟩⟩ rfl rfl hl.1 hst (lv_room hcat) hdg ⟨by rw [hro.1]; exact hfit.1, by rw [hro.2]; exact hfit.2⟩) hS (fun q _ h => hA1 q h) hA1 (fun r u t H1 locs1 ht hvm hw hB hz1 hk1 hS1 => ?_)
  subst ht
  rw [hro.1, hro.2]
  exact kk r u hw _ locs1 ls hB.1 (hB.2.weaken (fun k x hk h => hA1 x.1 h)) hS1 hl
theorem zg_vret (C0 : zC p s m args meth c cc nL Ts own D cy A rt) {mc ms : Nat} {Qp : zS → Prop} (hdg : decode cc pc = .ok (.return_, 1)) (hr : rt = none) (h1 : cells ≤ mc) (h2 : slots ≤ ms) (hQ : Qp S) : zG p l e R s m args below meth c D cy A nL cells slots (zQv below D cy A Z Qp args s mc ms) Z S (pc) lv [] := fun H locs ls hP hD hS hl => W.widen h1 h2 (W.vret C0.1.1 C0.1.2.1 (C0.2.2.2.1.trans hr) (fun t ht hW => ⟨⟨S, rfl, hQ, by rw [ht]; exact hP, hD⟩, hS.F ht⟩) hS.2.2 hdg C0.2.2.2.2)
theorem zg_iret (C0 : zC p s m args meth c cc nL Ts own D cy A rt) {mc ms : Nat} {v : Int32} {ty : FieldType} {Qp : Int32 → zS → Prop} (hdg : decode cc pc = .ok (.ireturn, 1)) (hr : rt = some ty) (hn : narrow ty (.int v) = .int v) (h1 : cells ≤ mc) (h2 : slots ≤ ms) (hQ : Qp v S) : zG p l e R s m args below meth c D cy A nL cells slots (zQi below D cy A Z Qp args s mc ms) Z S (pc) lv [.int v] := fun H locs ls hP hD hS hl => W.widen h1 h2 (W.zret C0.1.1 C0.1.2.1 (C0.2.2.2.1.trans hr) hn (fun t ht hW => ⟨⟨v, S, rfl, hQ, by rw [ht]; exact hP, hD⟩, hS.F ht⟩) hS.2.2 hdg C0.2.2.2.2)
theorem zg_lret (C0 : zC p s m args meth c cc nL Ts own D cy A rt) {mc ms : Nat} {v : Int64} {Qp : Int64 → zS → Prop} (hdg : decode cc pc = .ok (.lreturn, 1)) (hr : rt = some .long) (h1 : cells ≤ mc) (h2 : slots ≤ ms) (hQ : Qp v S) : zG p l e R s m args below meth c D cy A nL cells slots (zQl below D cy A Z Qp args s mc ms) Z S (pc) lv [.long v] := fun H locs ls hP hD hS hl => W.widen h1 h2 (W.lret C0.1.1 C0.1.2.1 (C0.2.2.2.1.trans hr) (fun t ht hW => ⟨⟨v, S, rfl, hQ, by rw [ht]; exact hP, hD⟩, hS.F ht⟩) hS.2.2 hdg C0.2.2.2.2)
theorem zg_aret (C0 : zC p s m args meth c cc nL Ts own D cy A rt) {mc ms : Nat} {v : Option Nat} {u : Value} {n : String} {Qp : Option Nat → zS → Prop} (hdg : decode cc pc = .ok (.areturn, 1)) (hr : rt = some (.object n)) (hu : va_rf v = u) (h1 : cells ≤ mc) (h2 : slots ≤ ms) (hQ : Qp v S) : zG p l e R s m args below meth c D cy A nL cells slots (zQq below D cy A Z Qp args s mc ms) Z S (pc) lv [u] := by
  subst hu
  exact fun H locs ls hP hD hS hl => W.widen h1 h2 (W.aret C0.1.1 C0.1.2.1 (C0.2.2.2.1.trans hr) (Or.inl ⟨n, rfl⟩) (va_rf_or v) (fun t ht hW => ⟨⟨v, S, rfl, hQ, by rw [ht]; exact hP, hD⟩, hS.F ht⟩) hS.2.2 hdg C0.2.2.2.2)
theorem zg_mmax (C0 : zC p s m args meth c cc nL Ts own D cy A rt) {index : Nat} {x y : Int32} (hdg : decode cc pc = .ok (.invokestatic index, 3)) (h1 : Cond.methodLink own index Lib.Math.max.name ∈ Ts) (h2 : Cond.static Lib.Math.max.name ∈ Ts) (h3 : Cond.initialized "java/lang/Math" ∈ Ts) (h4 : Cond.code Lib.Math.max.name Lib.Math.max.code 2 (some .int) ∈ Ts) (hf : 1 ≤ R.frames) (hlo : (st.map fun v => v.category).sum + 13 ≤ R.locals) (hro : cells ≤ R.cells ∧ slots ≤ R.slots) (hq : pc + 3 = q) (kk : zG p l e R s m args below meth c D cy A nL cells slots Q Z S (q) lv (.int (if x < y then y else x) :: st)) : zG p l e R s m args below meth c D cy A nL cells slots Q Z S (pc) lv (.int y :: .int x :: st) := by
  subst hq
  exact fun H locs ls hP hD hS hl => va_mmax C0.1.1 C0.1.2.1 (C0.1.2.2.1.trans hl.1.symm) C0.1.2.2.2.1 (C0.1.2.2.2.2 _ h1) (C0.1.2.2.2.2 _ h2) (C0.1.2.2.2.2 _ h3) (C0.1.2.2.2.2 _ h4) hf hlo hro.1 hro.2 hdg (kk H locs ls hP hD hS hl)
theorem zg_mmin (C0 : zC p s m args meth c cc nL Ts own D cy A rt) {index : Nat} {x y : Int32} (hdg : decode cc pc = .ok (.invokestatic index, 3)) (h1 : Cond.methodLink own index Lib.Math.min.name ∈ Ts) (h2 : Cond.static Lib.Math.min.name ∈ Ts) (h3 : Cond.initialized "java/lang/Math" ∈ Ts) (h4 : Cond.code Lib.Math.min.name Lib.Math.min.code 2 (some .int) ∈ Ts) (hf : 1 ≤ R.frames) (hlo : (st.map fun v => v.category).sum + 13 ≤ R.locals) (hro : cells ≤ R.cells ∧ slots ≤ R.slots) (hq : pc + 3 = q) (kk : zG p l e R s m args below meth c D cy A nL cells slots Q Z S (q) lv (.int (if y < x then y else x) :: st)) : zG p l e R s m args below meth c D cy A nL cells slots Q Z S (pc) lv (.int y :: .int x :: st) := by
  subst hq
  exact fun H locs ls hP hD hS hl => va_mmin C0.1.1 C0.1.2.1 (C0.1.2.2.1.trans hl.1.symm) C0.1.2.2.2.1 (C0.1.2.2.2.2 _ h1) (C0.1.2.2.2.2 _ h2) (C0.1.2.2.2.2 _ h3) (C0.1.2.2.2.2 _ h4) hf hlo hro.1 hro.2 hdg (kk H locs ls hP hD hS hl)
theorem zg_putI (C0 : zC p s m args meth c cc nL Ts own D cy A rt) {a ci N k index : Nat} {Cn ref : String} {T : u_T} {fs : List Value} {v : Int32} {ty0 : Nat → FieldType} (hdg : decode cc pc = .ok (.putfield index, 3)) (ha : zk Z a ci) (hF : zF cy Z S a = .inr (ci, fs)) (hc : vwCl[ci]? = some (Cn, T, N)) (hk : k < N) (hin : ∀ w ∈ u_ws Cn T N, w ∈ Ts) (hty : ∀ k, k < N → parseFieldDescriptor (T k).2.2.1 = some (ty0 k)) (hnm : ∀ a, a < N → ∀ b, b < N → a ≠ b → (T a).2.1 ≠ (T b).2.1) (hlink : Cond.fieldLink own index ref (T k).2.1 (T k).2.2.1 ∈ Ts) (href : (T k).1 = ref) (hfin : (T k).2.2.2 = false) (hn : narrow (ty0 k) (.int v) = .int v) (hfit : fits (ty0 k) (.int v) = true) (hl2 : k < fs.length) (he : zF cy Z (zsI S a k v) a = .inr (ci, zfs Z (zsI S a k v) a ci)) (hP : zfs Z (zsI S a k v) a ci = fs.set k (.int v)) (hq : pc + 3 = q) (kk : ∀ S' : zS, S' = zsI S a k v → zG p l e R s m args below meth c D cy A nL cells slots Q Z S' (q) lv (st)) : zG p l e R s m args below meth c D cy A nL cells slots Q Z S (pc) lv (.int v :: .ref a :: st) :=
  zg_put (Z' := Z) (S' := zsI S a k v) C0 hdg ha hF hc hk hin hty hnm hlink href (Or.inl hfin) hn hfit hl2 rfl (he.trans (by rw [hP])) (zF_offI cy Z S a k v) hq (kk _ rfl)
theorem zg_putJ (C0 : zC p s m args meth c cc nL Ts own D cy A rt) {a ci N k index : Nat} {Cn ref : String} {T : u_T} {fs : List Value} {v : Int64} {ty0 : Nat → FieldType} (hdg : decode cc pc = .ok (.putfield index, 3)) (ha : zk Z a ci) (hF : zF cy Z S a = .inr (ci, fs)) (hc : vwCl[ci]? = some (Cn, T, N)) (hk : k < N) (hin : ∀ w ∈ u_ws Cn T N, w ∈ Ts) (hty : ∀ k, k < N → parseFieldDescriptor (T k).2.2.1 = some (ty0 k)) (hnm : ∀ a, a < N → ∀ b, b < N → a ≠ b → (T a).2.1 ≠ (T b).2.1) (hlink : Cond.fieldLink own index ref (T k).2.1 (T k).2.2.1 ∈ Ts) (href : (T k).1 = ref) (hfin : (T k).2.2.2 = false) (hn : narrow (ty0 k) (.long v) = .long v) (hfit : fits (ty0 k) (.long v) = true) (hl2 : k < fs.length) (he : zF cy Z (zsJ S a k v) a = .inr (ci, zfs Z (zsJ S a k v) a ci)) (hP : zfs Z (zsJ S a k v) a ci = fs.set k (.long v)) (hq : pc + 3 = q) (kk : ∀ S' : zS, S' = zsJ S a k v → zG p l e R s m args below meth c D cy A nL cells slots Q Z S' (q) lv (st)) : zG p l e R s m args below meth c D cy A nL cells slots Q Z S (pc) lv (.long v :: .ref a :: st) :=
  zg_put (Z' := Z) (S' := zsJ S a k v) C0 hdg ha hF hc hk hin hty hnm hlink href (Or.inl hfin) hn hfit hl2 rfl (he.trans (by rw [hP])) (zF_offJ cy Z S a k v) hq (kk _ rfl)
theorem zg_putR (C0 : zC p s m args meth c cc nL Ts own D cy A rt) {a ci N k index : Nat} {Cn ref : String} {T : u_T} {fs : List Value} {v : Option Nat} {ty0 : Nat → FieldType} (hdg : decode cc pc = .ok (.putfield index, 3)) (ha : zk Z a ci) (hF : zF cy Z S a = .inr (ci, fs)) (hc : vwCl[ci]? = some (Cn, T, N)) (hk : k < N) (hin : ∀ w ∈ u_ws Cn T N, w ∈ Ts) (hty : ∀ k, k < N → parseFieldDescriptor (T k).2.2.1 = some (ty0 k)) (hnm : ∀ a, a < N → ∀ b, b < N → a ≠ b → (T a).2.1 ≠ (T b).2.1) (hlink : Cond.fieldLink own index ref (T k).2.1 (T k).2.2.1 ∈ Ts) (href : (T k).1 = ref) (hfin : (T k).2.2.2 = false) (hn : narrow (ty0 k) (va_rf v) = va_rf v) (hfit : fits (ty0 k) (va_rf v) = true) (hl2 : k < fs.length) (he : zF cy Z (zsR S a k v) a = .inr (ci, zfs Z (zsR S a k v) a ci)) (hP : zfs Z (zsR S a k v) a ci = fs.set k (va_rf v)) (hq : pc + 3 = q) (kk : ∀ S' : zS, S' = zsR S a k v → zG p l e R s m args below meth c D cy A nL cells slots Q Z S' (q) lv (st)) : zG p l e R s m args below meth c D cy A nL cells slots Q Z S (pc) lv (va_rf v :: .ref a :: st) :=
  zg_put (Z' := Z) (S' := zsR S a k v) C0 hdg ha hF hc hk hin hty hnm hlink href (Or.inl hfin) hn hfit hl2 rfl (he.trans (by rw [hP])) (zF_offR cy Z S a k v) hq (kk _ rfl)
theorem zg_nn {r : Option Nat} {b : Nat} (h : r = some b) (kk : zG p l e R s m args below meth c D cy A nL cells slots Q Z S (pc) lv (.ref b :: st)) : zG p l e R s m args below meth c D cy A nL cells slots Q Z S (pc) lv (va_rf r :: st) := by
  subst h
  exact kk
theorem zg_nq {r : Option Nat} (kk : ∀ y : Option Nat, y = r → zG p l e R s m args below meth c D cy A nL cells slots Q Z S (pc) lv (va_rf y :: st)) : zG p l e R s m args below meth c D cy A nL cells slots Q Z S (pc) lv (va_rf r :: st) := kk r rfl
end ZR
/-- a boolean's ints -/
def zb (v : Int32) : Prop := v = 0 ∨ v = 1
theorem zb_n {v : Int32} (h : zb v) : narrow .boolean (.int v) = .int v := by
  rcases h with rfl | rfl <;> decide
theorem zb_f {v : Int32} (h : zb v) : fits .boolean (.int v) = true := by
  rcases h with rfl | rfl <;> decide
theorem zb_v {v : Int32} (h : zb v) : vp_nar .boolean v = v := by
  rcases h with rfl | rfl <;> decide
/-- loops: a body, n times at most; and how one is shown to come to its end -/
def zit1 {T1 : Type} (f : (T1 → Prop) → T1 → Prop) : Nat → T1 → Prop
  | 0 => fun _ => False
  | n + 1 => f (zit1 f n)
theorem zlp1 {T1 : Type} {f : (T1 → Prop) → T1 → Prop} (Inv : T1 → Prop) (μ : T1 → Nat) (hs : ∀ (rec : T1 → Prop) (a1 : T1), Inv a1 → (∀ (b1 : T1), Inv b1 → μ b1 < μ a1 → rec b1) → f rec a1) (a1 : T1) (h : Inv a1) : ∃ n, zit1 f n a1 := by
  have key : ∀ (n : Nat) (a1 : T1), Inv a1 → μ a1 < n → zit1 f n a1 := by
    intro n
    induction n with
    | zero =>
      intro a1 _ hn
      exact absurd hn (Nat.not_lt_zero _)
    | succ n ih =>
      intro a1 hi hn
      exact hs (zit1 f n) a1 hi (fun b1 hi2 hlt => ih b1 hi2 (Nat.lt_of_lt_of_le hlt (Nat.le_of_lt_succ hn)))
  exact ⟨μ a1 + 1, key _ a1 h (Nat.lt_succ_self _)⟩
def zit2 {T1 T2 : Type} (f : (T1 → T2 → Prop) → T1 → T2 → Prop) : Nat → T1 → T2 → Prop
  | 0 => fun _ _ => False
  | n + 1 => f (zit2 f n)
theorem zlp2 {T1 T2 : Type} {f : (T1 → T2 → Prop) → T1 → T2 → Prop} (Inv : T1 → T2 → Prop) (μ : T1 → T2 → Nat) (hs : ∀ (rec : T1 → T2 → Prop) (a1 : T1) (a2 : T2), Inv a1 a2 → (∀ (b1 : T1) (b2 : T2), Inv b1 b2 → μ b1 b2 < μ a1 a2 → rec b1 b2) → f rec a1 a2) (a1 : T1) (a2 : T2) (h : Inv a1 a2) : ∃ n, zit2 f n a1 a2 := by
  have key : ∀ (n : Nat) (a1 : T1) (a2 : T2), Inv a1 a2 → μ a1 a2 < n → zit2 f n a1 a2 := by
    intro n
    induction n with
    | zero =>
      intro a1 a2 _ hn
      exact absurd hn (Nat.not_lt_zero _)
    | succ n ih =>
      intro a1 a2 hi hn
      exact hs (zit2 f n) a1 a2 hi (fun b1 b2 hi2 hlt => ih b1 b2 hi2 (Nat.lt_of_lt_of_le hlt (Nat.le_of_lt_succ hn)))
  exact ⟨μ a1 a2 + 1, key _ a1 a2 h (Nat.lt_succ_self _)⟩
def zit3 {T1 T2 T3 : Type} (f : (T1 → T2 → T3 → Prop) → T1 → T2 → T3 → Prop) : Nat → T1 → T2 → T3 → Prop
  | 0 => fun _ _ _ => False
  | n + 1 => f (zit3 f n)
theorem zlp3 {T1 T2 T3 : Type} {f : (T1 → T2 → T3 → Prop) → T1 → T2 → T3 → Prop} (Inv : T1 → T2 → T3 → Prop) (μ : T1 → T2 → T3 → Nat) (hs : ∀ (rec : T1 → T2 → T3 → Prop) (a1 : T1) (a2 : T2) (a3 : T3), Inv a1 a2 a3 → (∀ (b1 : T1) (b2 : T2) (b3 : T3), Inv b1 b2 b3 → μ b1 b2 b3 < μ a1 a2 a3 → rec b1 b2 b3) → f rec a1 a2 a3) (a1 : T1) (a2 : T2) (a3 : T3) (h : Inv a1 a2 a3) : ∃ n, zit3 f n a1 a2 a3 := by
  have key : ∀ (n : Nat) (a1 : T1) (a2 : T2) (a3 : T3), Inv a1 a2 a3 → μ a1 a2 a3 < n → zit3 f n a1 a2 a3 := by
    intro n
    induction n with
    | zero =>
      intro a1 a2 a3 _ hn
      exact absurd hn (Nat.not_lt_zero _)
    | succ n ih =>
      intro a1 a2 a3 hi hn
      exact hs (zit3 f n) a1 a2 a3 hi (fun b1 b2 b3 hi2 hlt => ih b1 b2 b3 hi2 (Nat.lt_of_lt_of_le hlt (Nat.le_of_lt_succ hn)))
  exact ⟨μ a1 a2 a3 + 1, key _ a1 a2 a3 h (Nat.lt_succ_self _)⟩
def zit4 {T1 T2 T3 T4 : Type} (f : (T1 → T2 → T3 → T4 → Prop) → T1 → T2 → T3 → T4 → Prop) : Nat → T1 → T2 → T3 → T4 → Prop
  | 0 => fun _ _ _ _ => False
  | n + 1 => f (zit4 f n)
theorem zlp4 {T1 T2 T3 T4 : Type} {f : (T1 → T2 → T3 → T4 → Prop) → T1 → T2 → T3 → T4 → Prop} (Inv : T1 → T2 → T3 → T4 → Prop) (μ : T1 → T2 → T3 → T4 → Nat) (hs : ∀ (rec : T1 → T2 → T3 → T4 → Prop) (a1 : T1) (a2 : T2) (a3 : T3) (a4 : T4), Inv a1 a2 a3 a4 → (∀ (b1 : T1) (b2 : T2) (b3 : T3) (b4 : T4), Inv b1 b2 b3 b4 → μ b1 b2 b3 b4 < μ a1 a2 a3 a4 → rec b1 b2 b3 b4) → f rec a1 a2 a3 a4) (a1 : T1) (a2 : T2) (a3 : T3) (a4 : T4) (h : Inv a1 a2 a3 a4) : ∃ n, zit4 f n a1 a2 a3 a4 := by
  have key : ∀ (n : Nat) (a1 : T1) (a2 : T2) (a3 : T3) (a4 : T4), Inv a1 a2 a3 a4 → μ a1 a2 a3 a4 < n → zit4 f n a1 a2 a3 a4 := by
    intro n
    induction n with
    | zero =>
      intro a1 a2 a3 a4 _ hn
      exact absurd hn (Nat.not_lt_zero _)
    | succ n ih =>
      intro a1 a2 a3 a4 hi hn
      exact hs (zit4 f n) a1 a2 a3 a4 hi (fun b1 b2 b3 b4 hi2 hlt => ih b1 b2 b3 b4 hi2 (Nat.lt_of_lt_of_le hlt (Nat.le_of_lt_succ hn)))
  exact ⟨μ a1 a2 a3 a4 + 1, key _ a1 a2 a3 a4 h (Nat.lt_succ_self _)⟩
def zit5 {T1 T2 T3 T4 T5 : Type} (f : (T1 → T2 → T3 → T4 → T5 → Prop) → T1 → T2 → T3 → T4 → T5 → Prop) : Nat → T1 → T2 → T3 → T4 → T5 → Prop
  | 0 => fun _ _ _ _ _ => False
  | n + 1 => f (zit5 f n)
theorem zlp5 {T1 T2 T3 T4 T5 : Type} {f : (T1 → T2 → T3 → T4 → T5 → Prop) → T1 → T2 → T3 → T4 → T5 → Prop} (Inv : T1 → T2 → T3 → T4 → T5 → Prop) (μ : T1 → T2 → T3 → T4 → T5 → Nat) (hs : ∀ (rec : T1 → T2 → T3 → T4 → T5 → Prop) (a1 : T1) (a2 : T2) (a3 : T3) (a4 : T4) (a5 : T5), Inv a1 a2 a3 a4 a5 → (∀ (b1 : T1) (b2 : T2) (b3 : T3) (b4 : T4) (b5 : T5), Inv b1 b2 b3 b4 b5 → μ b1 b2 b3 b4 b5 < μ a1 a2 a3 a4 a5 → rec b1 b2 b3 b4 b5) → f rec a1 a2 a3 a4 a5) (a1 : T1) (a2 : T2) (a3 : T3) (a4 : T4) (a5 : T5) (h : Inv a1 a2 a3 a4 a5) : ∃ n, zit5 f n a1 a2 a3 a4 a5 := by
  have key : ∀ (n : Nat) (a1 : T1) (a2 : T2) (a3 : T3) (a4 : T4) (a5 : T5), Inv a1 a2 a3 a4 a5 → μ a1 a2 a3 a4 a5 < n → zit5 f n a1 a2 a3 a4 a5 := by
    intro n
    induction n with
    | zero =>
      intro a1 a2 a3 a4 a5 _ hn
      exact absurd hn (Nat.not_lt_zero _)
    | succ n ih =>
      intro a1 a2 a3 a4 a5 hi hn
      exact hs (zit5 f n) a1 a2 a3 a4 a5 hi (fun b1 b2 b3 b4 b5 hi2 hlt => ih b1 b2 b3 b4 b5 hi2 (Nat.lt_of_lt_of_le hlt (Nat.le_of_lt_succ hn)))
  exact ⟨μ a1 a2 a3 a4 a5 + 1, key _ a1 a2 a3 a4 a5 h (Nat.lt_succ_self _)⟩
def zit6 {T1 T2 T3 T4 T5 T6 : Type} (f : (T1 → T2 → T3 → T4 → T5 → T6 → Prop) → T1 → T2 → T3 → T4 → T5 → T6 → Prop) : Nat → T1 → T2 → T3 → T4 → T5 → T6 → Prop
  | 0 => fun _ _ _ _ _ _ => False
  | n + 1 => f (zit6 f n)
theorem zlp6 {T1 T2 T3 T4 T5 T6 : Type} {f : (T1 → T2 → T3 → T4 → T5 → T6 → Prop) → T1 → T2 → T3 → T4 → T5 → T6 → Prop} (Inv : T1 → T2 → T3 → T4 → T5 → T6 → Prop) (μ : T1 → T2 → T3 → T4 → T5 → T6 → Nat) (hs : ∀ (rec : T1 → T2 → T3 → T4 → T5 → T6 → Prop) (a1 : T1) (a2 : T2) (a3 : T3) (a4 : T4) (a5 : T5) (a6 : T6), Inv a1 a2 a3 a4 a5 a6 → (∀ (b1 : T1) (b2 : T2) (b3 : T3) (b4 : T4) (b5 : T5) (b6 : T6), Inv b1 b2 b3 b4 b5 b6 → μ b1 b2 b3 b4 b5 b6 < μ a1 a2 a3 a4 a5 a6 → rec b1 b2 b3 b4 b5 b6) → f rec a1 a2 a3 a4 a5 a6) (a1 : T1) (a2 : T2) (a3 : T3) (a4 : T4) (a5 : T5) (a6 : T6) (h : Inv a1 a2 a3 a4 a5 a6) : ∃ n, zit6 f n a1 a2 a3 a4 a5 a6 := by
  have key : ∀ (n : Nat) (a1 : T1) (a2 : T2) (a3 : T3) (a4 : T4) (a5 : T5) (a6 : T6), Inv a1 a2 a3 a4 a5 a6 → μ a1 a2 a3 a4 a5 a6 < n → zit6 f n a1 a2 a3 a4 a5 a6 := by
    intro n
    induction n with
    | zero =>
      intro a1 a2 a3 a4 a5 a6 _ hn
      exact absurd hn (Nat.not_lt_zero _)
    | succ n ih =>
      intro a1 a2 a3 a4 a5 a6 hi hn
      exact hs (zit6 f n) a1 a2 a3 a4 a5 a6 hi (fun b1 b2 b3 b4 b5 b6 hi2 hlt => ih b1 b2 b3 b4 b5 b6 hi2 (Nat.lt_of_lt_of_le hlt (Nat.le_of_lt_succ hn)))
  exact ⟨μ a1 a2 a3 a4 a5 a6 + 1, key _ a1 a2 a3 a4 a5 a6 h (Nat.lt_succ_self _)⟩
def zit7 {T1 T2 T3 T4 T5 T6 T7 : Type} (f : (T1 → T2 → T3 → T4 → T5 → T6 → T7 → Prop) → T1 → T2 → T3 → T4 → T5 → T6 → T7 → Prop) : Nat → T1 → T2 → T3 → T4 → T5 → T6 → T7 → Prop
  | 0 => fun _ _ _ _ _ _ _ => False
  | n + 1 => f (zit7 f n)
theorem zlp7 {T1 T2 T3 T4 T5 T6 T7 : Type} {f : (T1 → T2 → T3 → T4 → T5 → T6 → T7 → Prop) → T1 → T2 → T3 → T4 → T5 → T6 → T7 → Prop} (Inv : T1 → T2 → T3 → T4 → T5 → T6 → T7 → Prop) (μ : T1 → T2 → T3 → T4 → T5 → T6 → T7 → Nat) (hs : ∀ (rec : T1 → T2 → T3 → T4 → T5 → T6 → T7 → Prop) (a1 : T1) (a2 : T2) (a3 : T3) (a4 : T4) (a5 : T5) (a6 : T6) (a7 : T7), Inv a1 a2 a3 a4 a5 a6 a7 → (∀ (b1 : T1) (b2 : T2) (b3 : T3) (b4 : T4) (b5 : T5) (b6 : T6) (b7 : T7), Inv b1 b2 b3 b4 b5 b6 b7 → μ b1 b2 b3 b4 b5 b6 b7 < μ a1 a2 a3 a4 a5 a6 a7 → rec b1 b2 b3 b4 b5 b6 b7) → f rec a1 a2 a3 a4 a5 a6 a7) (a1 : T1) (a2 : T2) (a3 : T3) (a4 : T4) (a5 : T5) (a6 : T6) (a7 : T7) (h : Inv a1 a2 a3 a4 a5 a6 a7) : ∃ n, zit7 f n a1 a2 a3 a4 a5 a6 a7 := by
  have key : ∀ (n : Nat) (a1 : T1) (a2 : T2) (a3 : T3) (a4 : T4) (a5 : T5) (a6 : T6) (a7 : T7), Inv a1 a2 a3 a4 a5 a6 a7 → μ a1 a2 a3 a4 a5 a6 a7 < n → zit7 f n a1 a2 a3 a4 a5 a6 a7 := by
    intro n
    induction n with
    | zero =>
      intro a1 a2 a3 a4 a5 a6 a7 _ hn
      exact absurd hn (Nat.not_lt_zero _)
    | succ n ih =>
      intro a1 a2 a3 a4 a5 a6 a7 hi hn
      exact hs (zit7 f n) a1 a2 a3 a4 a5 a6 a7 hi (fun b1 b2 b3 b4 b5 b6 b7 hi2 hlt => ih b1 b2 b3 b4 b5 b6 b7 hi2 (Nat.lt_of_lt_of_le hlt (Nat.le_of_lt_succ hn)))
  exact ⟨μ a1 a2 a3 a4 a5 a6 a7 + 1, key _ a1 a2 a3 a4 a5 a6 a7 h (Nat.lt_succ_self _)⟩
end
section
section VXCQ
variable {p : Program} {l : Launch} {e : Env} {R : Room} {s : State} {m : MethodId} {args : Array Value} {below : List Frame} {meth : Method} {c : Code} {H : Heap} {locs : List Loc} {cells slots : Nat} {Q : State → Prop}
variable {mc ms : Nat} {free : Addr → Prop} {A0 A1 : Nat → Prop} {H0 : Heap} {a : Array Value} {pc : Nat} {ls : Array Slot} {st0 rest : List Value}
theorem vx_callq {S SX : Type} {post : Option Nat → S → Prop} {px : SX → Prop} {B : S → State → Prop} {BX : String → SX → State → Prop} {AX : Nat → Prop} (hr : vx_Run p l e R s m args below meth c H locs cells slots mc ms (F0 m pc ls st0) rest (va_Qq post B A1 a) (vx_X px BX AX) free) (hS : va_S A0 H0 H locs) (hA : ∀ q, q < H.size → A1 q → A0 q) (hf : ∀ q, free q → A0 q) (hAX : ∀ q, q < H.size → AX q → A0 q)
    (kx : ∀ (E : String) (ce : Cell) (q9 : Addr) (u : SX) (t : State) (H1 : Heap) (locs1 : List Loc), t.heap = H1 → s.vm.Alike t.vm → px u → BX E u t → H.size ≤ H1.size → (∀ q : Nat, q < H.size → ¬ AX q → H1[q]? = H[q]?) → va_S A0 H0 H1 locs1 → H1[q9]? = some ce → ce.vm = .none → s.vm.findClass E = some ce.cls → vx_W p l e R s m args below meth c H1 locs1 (cells + mc) (slots + ms) Q (F0 m pc ls rest) q9)
    (kk : ∀ (r : Option Nat) (u : S) (t : State) (H1 : Heap) (locs1 : List Loc), t.heap = H1 → s.vm.Alike t.vm → post r u → B u t → H.size ≤ H1.size → (∀ q : Nat, q < H.size → ¬ A1 q → H1[q]? = H[q]?) → va_S A0 H0 H1 locs1 → W p l e R s m args below meth c H1 locs1 (cells + mc) (slots + ms) Q (F0 m (pc + 3) ls (va_rf r :: rest))) : W p l e R s m args below meth c H locs cells slots Q (F0 m pc ls st0) := by
  intro T hT X
  rcases hr T hT X with ⟨v, st₀, t, T', L, h0, X', hL, e1, e2, ⟨⟨r, u, hv, hp, hb⟩, hF⟩, st⟩ | ⟨q, st₀, t, T', L, E, ce, h0, X', hL, e1, e2, ⟨u, hp, hb, hF⟩, hce, hcv, hcl, st⟩
  · cases hv
    obtain ⟨k1, k2, k3⟩ := vx_keep h0 e1 hS hA hf hL hF
    obtain ⟨t2, a1, b1⟩ := kk r u t T'.heap (locs ++ L) e1.symm (by rw [← e2]; exact X'.warmed.alike) hp hb k1 k2 k3 T' rfl X'
    exact ⟨t2, st t2 a1, b1⟩
  · obtain ⟨k1, k2, k3⟩ := vx_keep h0 e1 hS hAX hf hL hF
    obtain ⟨t2, a1, b1⟩ := kx E ce q u t T'.heap (locs ++ L) e1.symm (by rw [← e2]; exact X'.warmed.alike) hp hb k1 k2 k3 (by rw [e1]; exact hce) hcv hcl T' rfl X'
    exact ⟨t2, st.trans a1, b1⟩
end VXCQ
/-! methods that throw, methods that make cells -/
abbrev zXB (D : va_G) (cy : Nat → ClassId) (A : Nat → Prop) (Z : zZ) (Xp : String → zS → Prop) : String → zS → State → Prop := fun E u t => Xp E u ∧ zB D cy A Z u t
abbrev zXC (D : va_G) (cy : Nat → ClassId) (A : Nat → Prop) (Z : zZ) (Xp : String → zS → Prop) : String → State → State → Prop := vx_X (fun _ : zS => True) (zXB D cy A Z Xp) A
/-- an end with new cells: the addresses too are others -/
def zBz (D : va_G) (cy : Nat → ClassId) (A : Nat → Prop) (u : zZ × zS) (t : State) : Prop := va_P D vwCl (zW cy u.1 u.2) t.heap ∧ va_D A (zW cy u.1 u.2)
section ZX
variable {p : Program} {l : Launch} {e : Env} {R : Room} {s : State} {m : MethodId} {args : Array Value} {below : List Frame} {meth : Method} {c : Code} {D : va_G} {cy : Nat → ClassId} {A : Nat → Prop} {nL cells slots : Nat} {Q : State → Prop} {Z : zZ} {S : zS} {pc q : Nat} {lv lv' : List (Nat × Value)} {st : List Value} {cc : ByteArray} {Ts : List Cond} {own : String} {rt : Option FieldType}
def zNv (l : Launch) (y : MethodName) (ws : List Cond) (rm : Room) (D : va_G) (cy : Nat → ClassId) (Z : zZ) (S : zS) (sz : Nat) (av : List Value) (Qp : zS → Prop) (Xp : String → zS → Prop) : Prop := vx_Met l y ws rm (zPc D cy Z S sz av) (va_Qv Qp (zB D cy (zA cy Z S sz) Z) (zA cy Z S sz)) (zXC D cy (zA cy Z S sz) Z Xp) rm.cells rm.slots (zA cy Z S sz)
abbrev zXv (below : List Frame) (D : va_G) (cy : Nat → ClassId) (A : Nat → Prop) (Z : zZ) (Qp : zS → Prop) (Xp : String → zS → Prop) (args : Array Value) (s : State) (mc ms : Nat) : State → Prop := vx_MQ below (va_Qv Qp (zB D cy A Z) A) (zXC D cy A Z Xp) args s mc ms A
theorem zgx_v {Qp : zS → Prop} {Xp : String → zS → Prop} {mc ms : Nat} (kk : zG p l e R s m args below meth c D cy A nL cells slots (zQv below D cy A Z Qp args s mc ms) Z S (pc) lv (st)) : zG p l e R s m args below meth c D cy A nL cells slots (zXv below D cy A Z Qp Xp args s mc ms) Z S (pc) lv (st) := fun H locs ls hP hD hS hl => vx_ret (kk H locs ls hP hD hS hl)
def zNi (l : Launch) (y : MethodName) (ws : List Cond) (rm : Room) (D : va_G) (cy : Nat → ClassId) (Z : zZ) (S : zS) (sz : Nat) (av : List Value) (Qp : Int32 → zS → Prop) (Xp : String → zS → Prop) : Prop := vx_Met l y ws rm (zPc D cy Z S sz av) (va_Qi Qp (zB D cy (zA cy Z S sz) Z) (zA cy Z S sz)) (zXC D cy (zA cy Z S sz) Z Xp) rm.cells rm.slots (zA cy Z S sz)
abbrev zXi (below : List Frame) (D : va_G) (cy : Nat → ClassId) (A : Nat → Prop) (Z : zZ) (Qp : Int32 → zS → Prop) (Xp : String → zS → Prop) (args : Array Value) (s : State) (mc ms : Nat) : State → Prop := vx_MQ below (va_Qi Qp (zB D cy A Z) A) (zXC D cy A Z Xp) args s mc ms A
theorem zgx_i {Qp : Int32 → zS → Prop} {Xp : String → zS → Prop} {mc ms : Nat} (kk : zG p l e R s m args below meth c D cy A nL cells slots (zQi below D cy A Z Qp args s mc ms) Z S (pc) lv (st)) : zG p l e R s m args below meth c D cy A nL cells slots (zXi below D cy A Z Qp Xp args s mc ms) Z S (pc) lv (st) := fun H locs ls hP hD hS hl => vx_ret (kk H locs ls hP hD hS hl)
def zNl (l : Launch) (y : MethodName) (ws : List Cond) (rm : Room) (D : va_G) (cy : Nat → ClassId) (Z : zZ) (S : zS) (sz : Nat) (av : List Value) (Qp : Int64 → zS → Prop) (Xp : String → zS → Prop) : Prop := vx_Met l y ws rm (zPc D cy Z S sz av) (va_Ql Qp (zB D cy (zA cy Z S sz) Z) (zA cy Z S sz)) (zXC D cy (zA cy Z S sz) Z Xp) rm.cells rm.slots (zA cy Z S sz)
abbrev zXl (below : List Frame) (D : va_G) (cy : Nat → ClassId) (A : Nat → Prop) (Z : zZ) (Qp : Int64 → zS → Prop) (Xp : String → zS → Prop) (args : Array Value) (s : State) (mc ms : Nat) : State → Prop := vx_MQ below (va_Ql Qp (zB D cy A Z) A) (zXC D cy A Z Xp) args s mc ms A
theorem zgx_l {Qp : Int64 → zS → Prop} {Xp : String → zS → Prop} {mc ms : Nat} (kk : zG p l e R s m args below meth c D cy A nL cells slots (zQl below D cy A Z Qp args s mc ms) Z S (pc) lv (st)) : zG p l e R s m args below meth c D cy A nL cells slots (zXl below D cy A Z Qp Xp args s mc ms) Z S (pc) lv (st) := fun H locs ls hP hD hS hl => vx_ret (kk H locs ls hP hD hS hl)
def zNq (l : Launch) (y : MethodName) (ws : List Cond) (rm : Room) (D : va_G) (cy : Nat → ClassId) (Z : zZ) (S : zS) (sz : Nat) (av : List Value) (Qp : Option Nat → zS → Prop) (Xp : String → zS → Prop) : Prop := vx_Met l y ws rm (zPc D cy Z S sz av) (va_Qq Qp (zB D cy (zA cy Z S sz) Z) (zA cy Z S sz)) (zXC D cy (zA cy Z S sz) Z Xp) rm.cells rm.slots (zA cy Z S sz)
abbrev zXq (below : List Frame) (D : va_G) (cy : Nat → ClassId) (A : Nat → Prop) (Z : zZ) (Qp : Option Nat → zS → Prop) (Xp : String → zS → Prop) (args : Array Value) (s : State) (mc ms : Nat) : State → Prop := vx_MQ below (va_Qq Qp (zB D cy A Z) A) (zXC D cy A Z Xp) args s mc ms A
theorem zgx_q {Qp : Option Nat → zS → Prop} {Xp : String → zS → Prop} {mc ms : Nat} (kk : zG p l e R s m args below meth c D cy A nL cells slots (zQq below D cy A Z Qp args s mc ms) Z S (pc) lv (st)) : zG p l e R s m args below meth c D cy A nL cells slots (zXq below D cy A Z Qp Xp args s mc ms) Z S (pc) lv (st) := fun H locs ls hP hD hS hl => vx_ret (kk H locs ls hP hD hS hl)
def zNz (l : Launch) (y : MethodName) (ws : List Cond) (rm : Room) (D : va_G) (cy : Nat → ClassId) (Z : zZ) (S : zS) (sz : Nat) (av : List Value) (Qp : Int32 → zZ → zS → Prop) (Xp : String → zS → Prop) : Prop := vx_Met l y ws rm (zPc D cy Z S sz av) (va_Qi (fun r (u : zZ × zS) => Qp r u.1 u.2) (zBz D cy (zA cy Z S sz)) (zA cy Z S sz)) (zXC D cy (zA cy Z S sz) Z Xp) rm.cells rm.slots (zA cy Z S sz)
abbrev zXz (below : List Frame) (D : va_G) (cy : Nat → ClassId) (A : Nat → Prop) (Z0 : zZ) (Qp : Int32 → zZ → zS → Prop) (Xp : String → zS → Prop) (args : Array Value) (s : State) (mc ms : Nat) : State → Prop := vx_MQ below (va_Qi (fun r (u : zZ × zS) => Qp r u.1 u.2) (zBz D cy A) A) (zXC D cy A Z0 Xp) args s mc ms A
def zMz (l : Launch) (y : MethodName) (ws : List Cond) (rm : Room) (D : va_G) (cy : Nat → ClassId) (Z : zZ) (S : zS) (sz : Nat) (av : List Value) (Qp : zZ → zS → Prop) : Prop := Met l y ws rm (zPc D cy Z S sz av) (va_Qv (fun (u : zZ × zS) => Qp u.1 u.2) (zBz D cy (zA cy Z S sz)) (zA cy Z S sz)) rm.cells rm.slots (zA cy Z S sz)
abbrev zQz (below : List Frame) (D : va_G) (cy : Nat → ClassId) (A : Nat → Prop) (Qp : zZ → zS → Prop) (args : Array Value) (s : State) (mc ms : Nat) : State → Prop := MQ below (va_Qv (fun (u : zZ × zS) => Qp u.1 u.2) (zBz D cy A) A) args s mc ms A
theorem zNv_of {y : MethodName} {ws ws' : List Cond} {rm : Room} {sz maxL : Nat} {av : List Value} {Qp : zS → Prop} {Xp : String → zS → Prop} (hy : plainName y.cls = true) (hw : ws = Cond.code y cc maxL rt :: ws') (hlen : (lg_sl av).length ≤ maxL)
    (body : ∀ (p : Program) (e : Env) (s : State) (m : MethodId) (args : Array Value) (below : List Frame) (meth : Method) (c : Code) (A : Nat → Prop), zC p s m args meth c cc maxL ws y.cls D cy A rt → meth.name = y.name → (∀ x ∈ c.exceptionTable.toList, False) → zG p l e (headSpec ws rm).room s m args below meth c D cy A maxL 0 0 (zXv below D cy A Z Qp Xp args s rm.cells rm.slots) Z S 0 (lv_args 0 av) []) : zNv l y ws rm D cy Z S sz av Qp Xp := by
  refine vx_ofW (cc := cc) (maxL := maxL) (ret := rt) hy hw ?_
  intro p e s m args below meth c s₁ B hml hT hv
  obtain ⟨rfl, hsz, hP, hD0, hV⟩ := hv
  subst hsz
  have hts := atoms_spec (ws := ws) B.pre
  have hown : s.vm.findClass y.cls = some m.cls := findClass_of_methodNamed B.named
  have hl := lv_entry av (n := maxL) hlen
  rw [lg_entry_eq]
  exact body p e s m av.toArray below meth c (zA cy Z S s.heap.size) ⟨⟨B.exec, B.bytes, hml, hown, hts⟩, hV, fun q h => Or.inr h, B.returns, B.notSynchronized⟩ (name_of_methodNamed B.named B.method).1 hT s.heap [] _ hP hD0.self va_S.rf hl
theorem zNi_of {y : MethodName} {ws ws' : List Cond} {rm : Room} {sz maxL : Nat} {av : List Value} {Qp : Int32 → zS → Prop} {Xp : String → zS → Prop} (hy : plainName y.cls = true) (hw : ws = Cond.code y cc maxL rt :: ws') (hlen : (lg_sl av).length ≤ maxL)
    (body : ∀ (p : Program) (e : Env) (s : State) (m : MethodId) (args : Array Value) (below : List Frame) (meth : Method) (c : Code) (A : Nat → Prop), zC p s m args meth c cc maxL ws y.cls D cy A rt → meth.name = y.name → (∀ x ∈ c.exceptionTable.toList, False) → zG p l e (headSpec ws rm).room s m args below meth c D cy A maxL 0 0 (zXi below D cy A Z Qp Xp args s rm.cells rm.slots) Z S 0 (lv_args 0 av) []) : zNi l y ws rm D cy Z S sz av Qp Xp := by
  refine vx_ofW (cc := cc) (maxL := maxL) (ret := rt) hy hw ?_
  intro p e s m args below meth c s₁ B hml hT hv
  obtain ⟨rfl, hsz, hP, hD0, hV⟩ := hv
  subst hsz
  have hts := atoms_spec (ws := ws) B.pre
  have hown : s.vm.findClass y.cls = some m.cls := findClass_of_methodNamed B.named
  have hl := lv_entry av (n := maxL) hlen
  rw [lg_entry_eq]
  exact body p e s m av.toArray below meth c (zA cy Z S s.heap.size) ⟨⟨B.exec, B.bytes, hml, hown, hts⟩, hV, fun q h => Or.inr h, B.returns, B.notSynchronized⟩ (name_of_methodNamed B.named B.method).1 hT s.heap [] _ hP hD0.self va_S.rf hl
theorem zNl_of {y : MethodName} {ws ws' : List Cond} {rm : Room} {sz maxL : Nat} {av : List Value} {Qp : Int64 → zS → Prop} {Xp : String → zS → Prop} (hy : plainName y.cls = true) (hw : ws = Cond.code y cc maxL rt :: ws') (hlen : (lg_sl av).length ≤ maxL)
    (body : ∀ (p : Program) (e : Env) (s : State) (m : MethodId) (args : Array Value) (below : List Frame) (meth : Method) (c : Code) (A : Nat → Prop), zC p s m args meth c cc maxL ws y.cls D cy A rt → meth.name = y.name → (∀ x ∈ c.exceptionTable.toList, False) → zG p l e (headSpec ws rm).room s m args below meth c D cy A maxL 0 0 (zXl below D cy A Z Qp Xp args s rm.cells rm.slots) Z S 0 (lv_args 0 av) []) : zNl l y ws rm D cy Z S sz av Qp Xp := by
  refine vx_ofW (cc := cc) (maxL := maxL) (ret := rt) hy hw ?_
  intro p e s m args below meth c s₁ B hml hT hv
  obtain ⟨rfl, hsz, hP, hD0, hV⟩ := hv
  subst hsz
  have hts := atoms_spec (ws := ws) B.pre
  have hown : s.vm.findClass y.cls = some m.cls := findClass_of_methodNamed B.named
  have hl := lv_entry av (n := maxL) hlen
  rw [lg_entry_eq]
  exact body p e s m av.toArray below meth c (zA cy Z S s.heap.size) ⟨⟨B.exec, B.bytes, hml, hown, hts⟩, hV, fun q h => Or.inr h, B.returns, B.notSynchronized⟩ (name_of_methodNamed B.named B.method).1 hT s.heap [] _ hP hD0.self va_S.rf hl
theorem zNq_of {y : MethodName} {ws ws' : List Cond} {rm : Room} {sz maxL : Nat} {av : List Value} {Qp : Option Nat → zS → Prop} {Xp : String → zS → Prop} (hy : plainName y.cls = true) (hw : ws = Cond.code y cc maxL rt :: ws') (hlen : (lg_sl av).length ≤ maxL)
    (body : ∀ (p : Program) (e : Env) (s : State) (m : MethodId) (args : Array Value) (below : List Frame) (meth : Method) (c : Code) (A : Nat → Prop), zC p s m args meth c cc maxL ws y.cls D cy A rt → meth.name = y.name → (∀ x ∈ c.exceptionTable.toList, False) → zG p l e (headSpec ws rm).room s m args below meth c D cy A maxL 0 0 (zXq below D cy A Z Qp Xp args s rm.cells rm.slots) Z S 0 (lv_args 0 av) []) : zNq l y ws rm D cy Z S sz av Qp Xp := by
  refine vx_ofW (cc := cc) (maxL := maxL) (ret := rt) hy hw ?_
  intro p e s m args below meth c s₁ B hml hT hv
  obtain ⟨rfl, hsz, hP, hD0, hV⟩ := hv
  subst hsz
  have hts := atoms_spec (ws := ws) B.pre
  have hown : s.vm.findClass y.cls = some m.cls := findClass_of_methodNamed B.named
  have hl := lv_entry av (n := maxL) hlen
  rw [lg_entry_eq]
  exact body p e s m av.toArray below meth c (zA cy Z S s.heap.size) ⟨⟨B.exec, B.bytes, hml, hown, hts⟩, hV, fun q h => Or.inr h, B.returns, B.notSynchronized⟩ (name_of_methodNamed B.named B.method).1 hT s.heap [] _ hP hD0.self va_S.rf hl
theorem zNz_of {y : MethodName} {ws ws' : List Cond} {rm : Room} {sz maxL : Nat} {av : List Value} {Qp : Int32 → zZ → zS → Prop} {Xp : String → zS → Prop} (hy : plainName y.cls = true) (hw : ws = Cond.code y cc maxL rt :: ws') (hlen : (lg_sl av).length ≤ maxL)
    (body : ∀ (p : Program) (e : Env) (s : State) (m : MethodId) (args : Array Value) (below : List Frame) (meth : Method) (c : Code) (A : Nat → Prop), zC p s m args meth c cc maxL ws y.cls D cy A rt → meth.name = y.name → (∀ x ∈ c.exceptionTable.toList, False) → zG p l e (headSpec ws rm).room s m args below meth c D cy A maxL 0 0 (zXz below D cy A Z Qp Xp args s rm.cells rm.slots) Z S 0 (lv_args 0 av) []) : zNz l y ws rm D cy Z S sz av Qp Xp := by
  refine vx_ofW (cc := cc) (maxL := maxL) (ret := rt) hy hw ?_
  intro p e s m args below meth c s₁ B hml hT hv
  obtain ⟨rfl, hsz, hP, hD0, hV⟩ := hv
  subst hsz
  have hts := atoms_spec (ws := ws) B.pre
  have hown : s.vm.findClass y.cls = some m.cls := findClass_of_methodNamed B.named
  have hl := lv_entry av (n := maxL) hlen
  rw [lg_entry_eq]
  exact body p e s m av.toArray below meth c (zA cy Z S s.heap.size) ⟨⟨B.exec, B.bytes, hml, hown, hts⟩, hV, fun q h => Or.inr h, B.returns, B.notSynchronized⟩ (name_of_methodNamed B.named B.method).1 hT s.heap [] _ hP hD0.self va_S.rf hl
theorem zMz_of {y : MethodName} {ws ws' : List Cond} {rm : Room} {sz maxL : Nat} {av : List Value} {Qp : zZ → zS → Prop} (hy : plainName y.cls = true) (hw : ws = Cond.code y cc maxL rt :: ws') (hlen : (lg_sl av).length ≤ maxL)
    (body : ∀ (p : Program) (e : Env) (s : State) (m : MethodId) (args : Array Value) (below : List Frame) (meth : Method) (c : Code) (A : Nat → Prop), zC p s m args meth c cc maxL ws y.cls D cy A rt → meth.name = y.name → zG p l e (headSpec ws rm).room s m args below meth c D cy A maxL 0 0 (zQz below D cy A Qp args s rm.cells rm.slots) Z S 0 (lv_args 0 av) []) : zMz l y ws rm D cy Z S sz av Qp := by
  refine Met.ofW (cc := cc) (maxL := maxL) (ret := rt) hy hw ?_
  intro p e s m args below meth c s₁ B hml hv
  obtain ⟨rfl, hsz, hP, hD0, hV⟩ := hv
  subst hsz
  have hts := atoms_spec (ws := ws) B.pre
  have hown : s.vm.findClass y.cls = some m.cls := findClass_of_methodNamed B.named
  have hl := lv_entry av (n := maxL) hlen
  rw [lg_entry_eq]
  exact body p e s m av.toArray below meth c (zA cy Z S s.heap.size) ⟨⟨B.exec, B.bytes, hml, hown, hts⟩, hV, fun q h => Or.inr h, B.returns, B.notSynchronized⟩ (name_of_methodNamed B.named B.method).1 s.heap [] _ hP hD0.self va_S.rf hl
theorem zgx_throw (C0 : zC p s m args meth c cc nL Ts own D cy A rt) {Qc : Array Value → State → Outcome → State → Prop} {Xp : String → zS → Prop} {cls text : String} {ik is ic mc ms : Nat} (hl0 : l.stackTraces = false) (hT : ∀ x ∈ c.exceptionTable.toList, False) (d0 : decode cc pc = .ok (.new ik, 3)) (d3 : decode cc (pc + 3) = .ok (.dup, 1)) (d4 : decode cc (pc + 4) = .ok (.ldc is, 2)) (d6 : decode cc (pc + 6) = .ok (.invokespecial ic, 3)) (d9 : decode cc (pc + 9) = .ok (.athrow, 1)) (hown : own = RX6) (hcls : Bundle.fit cls = true) (hk : Cond.classLink own ik cls ∈ Ts) (hini : Cond.initialized cls ∈ Ts) (hg1 : ∀ w ∈ (vx_atS own ic cls ["java/lang/RuntimeException", "java/lang/Exception"]).filter goodWord, w ∈ Ts) (hg2 : ∀ w ∈ (vx_atS own ic cls ["java/lang/RuntimeException", "java/lang/Exception"]).filter (fun w => !goodWord w), w ∈ zBw) (hgood : ∀ w ∈ Cond.classLink own ik cls :: Cond.initialized cls :: vx_atS own ic cls ["java/lang/RuntimeException", "java/lang/Exception"], vx_ot w = true) (htx : (is, text) ∈ zTx) (hf1 : 5 < R.frames) (hf2 : (st.map fun v => v.category).sum + 82 ≤ R.locals) (hr1 : cells + 1 ≤ R.cells ∧ slots + 6 ≤ R.slots) (hr2 : cells + 1 ≤ mc ∧ slots + 6 ≤ ms) (hX : Xp cls S) : zG p l e R s m args below meth c D cy A nL cells slots (vx_MQ below Qc (zXC D cy A Z Xp) args s mc ms A) Z S (pc) lv (st) := by
  subst hown
  intro H locs ls hP hD hS hl
  obtain ⟨sa, hsa⟩ := C0.2.1.2.2.2.2.1 _ htx
  exact vx_throwS (names := ["java/lang/RuntimeException", "java/lang/Exception"]) (text := text) (sa := sa) C0.1.1 C0.1.2.1 hl0 C0.1.2.2.2.1 hcls (by decide +kernel) (C0.1.2.2.2.2 _ hk) (C0.1.2.2.2.2 _ hini) hsa (vx_hat (fun w hw => C0.1.2.2.2.2 _ (hg1 w hw)) hg2 (fun w hw => va_Nw.use (zBw_on w hw) (C0.2.1.2.1 w hw))) hgood C0.2.1.2.2.1 C0.2.1.2.2.2.1 hS (hl.1.trans C0.1.2.2.1.symm) d0 d3 d4 d6 d9 (fun x hx => (hT x hx).elim) hf1 hf2 hr1.1 hr1.2 C0.2.2.2.2 (fun t hvm hz hk1 => ⟨S, trivial, ⟨hX, hP.kept (fun k x hx => hk1 x.1 (hP k x hx).lt), hD⟩, ⟨Nat.le_trans hS.1 hz, fun q h1 h2 => (hk1 q (Nat.lt_of_lt_of_le h1 hS.1)).trans (hS.2.1 q h1 h2)⟩⟩) hS.2.2 hr2.1 hr2.2
theorem zgx_callVv (C0 : zC p s m args meth c cc nL Ts own D cy A rt) {Cn : String} {T : u_T} {N ci : Nat} {fs : List Value} {b : Nat} {ret : Option FieldType} {index maxL mc ms k n : Nat} {y : MethodName} {bytes : ByteArray} {ws ws' : List Cond} {rm : Room} (As rest : List Value) {Qp : zS → Prop} {Xp : String → zS → Prop} {Qc : Array Value → State → Outcome → State → Prop} (hT : ∀ x ∈ c.exceptionTable.toList, False) (hdg : decode cc pc = .ok (.invokevirtual index, 3)) (hM : ∀ sz, zNv l y ws rm D cy Z S sz (.ref b :: As) Qp Xp) (hw : ws = Cond.code y bytes maxL ret :: ws') (hG : GoodIn Ts (wsV own index Cn y ws)) (hd : y.cls = Cn ∧ y.cls ≠ "java/lang/invoke/MethodHandle" ∧ y.cls ≠ "java/lang/invoke/VarHandle" ∧ (parseMethodDescriptor y.desc).map (fun d => d.parameters.length) = some As.length) (hb : zk Z b ci) (hF : zF cy Z S b = .inr (ci, fs)) (hc : vwCl[ci]? = some (Cn, T, N)) (hst : st = As.reverse ++ .ref b :: rest) (hR : rm.frames + 1 ≤ R.frames ∧ 8 + (maxL + 11) + rm.locals ≤ R.locals) (hcat : (rest.map fun v => v.category).sum ≤ 8) (hroom : cells + rm.cells ≤ R.cells ∧ slots + rm.slots ≤ R.slots) (hk : cells + rm.cells = k ∧ slots + rm.slots = n) (hr2 : k ≤ mc ∧ n ≤ ms) (hq : pc + 3 = q)
    (kk : ∀ τ, Qp τ → zG p l e R s m args below meth c D cy A nL k n (vx_MQ below Qc (zXC D cy A Z Xp) args s mc ms A) Z τ (q) lv (rest)) : zG p l e R s m args below meth c D cy A nL cells slots (vx_MQ below Qc (zXC D cy A Z Xp) args s mc ms A) Z S (pc) lv (st) := by
  subst hq
  obtain ⟨e1, e2⟩ := hk
  subst e1
  subst e2
  intro H locs ls hP hD hS hl
  obtain ⟨j, hj⟩ := zget hb.1 hF
  have hA1 : ∀ q, zA cy Z S H.size q → A q := zA_sub C0.2.2.1 hD hS
  refine vx_callv (vx_runV (As := As) (rest := rest) C0.1 (hM H.size) (cwV As.length C0.1.2.2.2.2 hG hw rfl rfl hd hR) ⟨zPc_blind, va_recv C0.2.1.1 hP hc hj, fun U hU hW => ⟨rfl, by rw [hU], by rw [hU]; exact hP, hD.weaken (fun _ _ _ _ => trivial), C0.2.1.call hS hA1 hU hW⟩⟩ rfl rfl hl.1 hst (lv_room hcat) hdg hroom) hS (fun q _ h => hA1 q h) hA1 (fun q _ h => hA1 q h) (fun E ce q9 u t H1 locs1 ht hvm _ hB hz1 hk1 hS1 h9 hv9 hc9 => ?_) (fun u t H1 locs1 ht hvm hw hB hz1 hk1 hS1 => ?_)
  · subst ht
    exact vx_out (fun x hx => (hT x hx).elim) C0.2.2.2.2 h9 hv9 hc9 (fun t2 ht2 hvm2 => ⟨u, trivial, ⟨hB.1, by rw [ht2]; exact hB.2.1, hB.2.2.weaken (fun k x hk h => hA1 x.1 h)⟩, hS1.F ht2⟩) hS1.2.2 hr2.1 hr2.2
  · subst ht
    exact kk u hw _ locs1 ls hB.1 (hB.2.weaken (fun k x hk h => hA1 x.1 h)) hS1 hl
theorem zgx_callSv (C0 : zC p s m args meth c cc nL Ts own D cy A rt) {ret : Option FieldType} {index maxL mc ms k n : Nat} {y : MethodName} {bytes : ByteArray} {ws ws' : List Cond} {rm : Room} (As rest : List Value) {Qp : zS → Prop} {Xp : String → zS → Prop} {Qc : Array Value → State → Outcome → State → Prop} (hT : ∀ x ∈ c.exceptionTable.toList, False) (hdg : decode cc pc = .ok (.invokestatic index, 3)) (hM : ∀ sz, zNv l y ws rm D cy Z S sz (As) Qp Xp) (hw : ws = Cond.code y bytes maxL ret :: ws') (hG : GoodIn Ts (va_wsS own index y ws)) (hd : y.cls ≠ "java/lang/invoke/MethodHandle" ∧ y.cls ≠ "java/lang/invoke/VarHandle" ∧ (parseMethodDescriptor y.desc).map (fun d => d.parameters.length) = some As.length) (hst : st = As.reverse ++ rest) (hR : rm.frames + 1 ≤ R.frames ∧ 8 + (maxL + 11) + rm.locals ≤ R.locals) (hcat : (rest.map fun v => v.category).sum ≤ 8) (hroom : cells + rm.cells ≤ R.cells ∧ slots + rm.slots ≤ R.slots) (hk : cells + rm.cells = k ∧ slots + rm.slots = n) (hr2 : k ≤ mc ∧ n ≤ ms) (hq : pc + 3 = q)
    (kk : ∀ τ, Qp τ → zG p l e R s m args below meth c D cy A nL k n (vx_MQ below Qc (zXC D cy A Z Xp) args s mc ms A) Z τ (q) lv (rest)) : zG p l e R s m args below meth c D cy A nL cells slots (vx_MQ below Qc (zXC D cy A Z Xp) args s mc ms A) Z S (pc) lv (st) := by
  subst hq
  obtain ⟨e1, e2⟩ := hk
  subst e1
  subst e2
  intro H locs ls hP hD hS hl
  have hA1 : ∀ q, zA cy Z S H.size q → A q := zA_sub C0.2.2.1 hD hS
  refine vx_callv (vx_runS (As := As) (rest := rest) C0.1 (hM H.size) (va_cwS As.length C0.1.2.2.2.2 hG hw rfl rfl hd hR) ⟨zPc_blind, fun U hU hW => ⟨rfl, by rw [hU], by rw [hU]; exact hP, hD.weaken (fun _ _ _ _ => trivial), C0.2.1.call hS hA1 hU hW⟩⟩ rfl rfl hl.1 hst (lv_room hcat) hdg hroom) hS (fun q _ h => hA1 q h) hA1 (fun q _ h => hA1 q h) (fun E ce q9 u t H1 locs1 ht hvm _ hB hz1 hk1 hS1 h9 hv9 hc9 => ?_) (fun u t H1 locs1 ht hvm hw hB hz1 hk1 hS1 => ?_)
  · subst ht
    exact vx_out (fun x hx => (hT x hx).elim) C0.2.2.2.2 h9 hv9 hc9 (fun t2 ht2 hvm2 => ⟨u, trivial, ⟨hB.1, by rw [ht2]; exact hB.2.1, hB.2.2.weaken (fun k x hk h => hA1 x.1 h)⟩, hS1.F ht2⟩) hS1.2.2 hr2.1 hr2.2
  · subst ht
    exact kk u hw _ locs1 ls hB.1 (hB.2.weaken (fun k x hk h => hA1 x.1 h)) hS1 hl
theorem zgx_callVi (C0 : zC p s m args meth c cc nL Ts own D cy A rt) {Cn : String} {T : u_T} {N ci : Nat} {fs : List Value} {b : Nat} {ret : Option FieldType} {index maxL mc ms k n : Nat} {y : MethodName} {bytes : ByteArray} {ws ws' : List Cond} {rm : Room} (As rest : List Value) {Qp : Int32 → zS → Prop} {Xp : String → zS → Prop} {Qc : Array Value → State → Outcome → State → Prop} (hT : ∀ x ∈ c.exceptionTable.toList, False) (hdg : decode cc pc = .ok (.invokevirtual index, 3)) (hM : ∀ sz, zNi l y ws rm D cy Z S sz (.ref b :: As) Qp Xp) (hw : ws = Cond.code y bytes maxL ret :: ws') (hG : GoodIn Ts (wsV own index Cn y ws)) (hd : y.cls = Cn ∧ y.cls ≠ "java/lang/invoke/MethodHandle" ∧ y.cls ≠ "java/lang/invoke/VarHandle" ∧ (parseMethodDescriptor y.desc).map (fun d => d.parameters.length) = some As.length) (hb : zk Z b ci) (hF : zF cy Z S b = .inr (ci, fs)) (hc : vwCl[ci]? = some (Cn, T, N)) (hst : st = As.reverse ++ .ref b :: rest) (hR : rm.frames + 1 ≤ R.frames ∧ 8 + (maxL + 11) + rm.locals ≤ R.locals) (hcat : (rest.map fun v => v.category).sum ≤ 8) (hroom : cells + rm.cells ≤ R.cells ∧ slots + rm.slots ≤ R.slots) (hk : cells + rm.cells = k ∧ slots + rm.slots = n) (hr2 : k ≤ mc ∧ n ≤ ms) (hq : pc + 3 = q)
    (kk : ∀ r τ, Qp r τ → zG p l e R s m args below meth c D cy A nL k n (vx_MQ below Qc (zXC D cy A Z Xp) args s mc ms A) Z τ (q) lv (.int r :: rest)) : zG p l e R s m args below meth c D cy A nL cells slots (vx_MQ below Qc (zXC D cy A Z Xp) args s mc ms A) Z S (pc) lv (st) := by
  subst hq
  obtain ⟨e1, e2⟩ := hk
  subst e1
  subst e2
  intro H locs ls hP hD hS hl
  obtain ⟨j, hj⟩ := zget hb.1 hF
  have hA1 : ∀ q, zA cy Z S H.size q → A q := zA_sub C0.2.2.1 hD hS
  refine vx_calli (vx_runV (As := As) (rest := rest) C0.1 (hM H.size) (cwV As.length C0.1.2.2.2.2 hG hw rfl rfl hd hR) ⟨zPc_blind, va_recv C0.2.1.1 hP hc hj, fun U hU hW => ⟨rfl, by rw [hU], by rw [hU]; exact hP, hD.weaken (fun _ _ _ _ => trivial), C0.2.1.call hS hA1 hU hW⟩⟩ rfl rfl hl.1 hst (lv_room hcat) hdg hroom) hS (fun q _ h => hA1 q h) hA1 (fun q _ h => hA1 q h) (fun E ce q9 u t H1 locs1 ht hvm _ hB hz1 hk1 hS1 h9 hv9 hc9 => ?_) (fun r u t H1 locs1 ht hvm hw hB hz1 hk1 hS1 => ?_)
  · subst ht
    exact vx_out (fun x hx => (hT x hx).elim) C0.2.2.2.2 h9 hv9 hc9 (fun t2 ht2 hvm2 => ⟨u, trivial, ⟨hB.1, by rw [ht2]; exact hB.2.1, hB.2.2.weaken (fun k x hk h => hA1 x.1 h)⟩, hS1.F ht2⟩) hS1.2.2 hr2.1 hr2.2
  · subst ht
    exact kk r u hw _ locs1 ls hB.1 (hB.2.weaken (fun k x hk h => hA1 x.1 h)) hS1 hl
theorem zgx_callSi (C0 : zC p s m args meth c cc nL Ts own D cy A rt) {ret : Option FieldType} {index maxL mc ms k n : Nat} {y : MethodName} {bytes : ByteArray} {ws ws' : List Cond} {rm : Room} (As rest : List Value) {Qp : Int32 → zS → Prop} {Xp : String → zS → Prop} {Qc : Array Value → State → Outcome → State → Prop} (hT : ∀ x ∈ c.exceptionTable.toList, False) (hdg : decode cc pc = .ok (.invokestatic index, 3)) (hM : ∀ sz, zNi l y ws rm D cy Z S sz (As) Qp Xp) (hw : ws = Cond.code y bytes maxL ret :: ws') (hG : GoodIn Ts (va_wsS own index y ws)) (hd : y.cls ≠ "java/lang/invoke/MethodHandle" ∧ y.cls ≠ "java/lang/invoke/VarHandle" ∧ (parseMethodDescriptor y.desc).map (fun d => d.parameters.length) = some As.length) (hst : st = As.reverse ++ rest) (hR : rm.frames + 1 ≤ R.frames ∧ 8 + (maxL + 11) + rm.locals ≤ R.locals) (hcat : (rest.map fun v => v.category).sum ≤ 8) (hroom : cells + rm.cells ≤ R.cells ∧ slots + rm.slots ≤ R.slots) (hk : cells + rm.cells = k ∧ slots + rm.slots = n) (hr2 : k ≤ mc ∧ n ≤ ms) (hq : pc + 3 = q)
    (kk : ∀ r τ, Qp r τ → zG p l e R s m args below meth c D cy A nL k n (vx_MQ below Qc (zXC D cy A Z Xp) args s mc ms A) Z τ (q) lv (.int r :: rest)) : zG p l e R s m args below meth c D cy A nL cells slots (vx_MQ below Qc (zXC D cy A Z Xp) args s mc ms A) Z S (pc) lv (st) := by
  subst hq
  obtain ⟨e1, e2⟩ := hk
  subst e1
  subst e2
  intro H locs ls hP hD hS hl
  have hA1 : ∀ q, zA cy Z S H.size q → A q := zA_sub C0.2.2.1 hD hS
  refine vx_calli (vx_runS (As := As) (rest := rest) C0.1 (hM H.size) (va_cwS As.length C0.1.2.2.2.2 hG hw rfl rfl hd hR) ⟨zPc_blind, fun U hU hW => ⟨rfl, by rw [hU], by rw [hU]; exact hP, hD.weaken (fun _ _ _ _ => trivial), C0.2.1.call hS hA1 hU hW⟩⟩ rfl rfl hl.1 hst (lv_room hcat) hdg hroom) hS (fun q _ h => hA1 q h) hA1 (fun q _ h => hA1 q h) (fun E ce q9 u t H1 locs1 ht hvm _ hB hz1 hk1 hS1 h9 hv9 hc9 => ?_) (fun r u t H1 locs1 ht hvm hw hB hz1 hk1 hS1 => ?_)
  · subst ht
    exact vx_out (fun x hx => (hT x hx).elim) C0.2.2.2.2 h9 hv9 hc9 (fun t2 ht2 hvm2 => ⟨u, trivial, ⟨hB.1, by rw [ht2]; exact hB.2.1, hB.2.2.weaken (fun k x hk h => hA1 x.1 h)⟩, hS1.F ht2⟩) hS1.2.2 hr2.1 hr2.2
  · subst ht
    exact kk r u hw _ locs1 ls hB.1 (hB.2.weaken (fun k x hk h => hA1 x.1 h)) hS1 hl
theorem zgx_callVl (C0 : zC p s m args meth c cc nL Ts own D cy A rt) {Cn : String} {T : u_T} {N ci : Nat} {fs : List Value} {b : Nat} {ret : Option FieldType} {index maxL mc ms k n : Nat} {y : MethodName} {bytes : ByteArray} {ws ws' : List Cond} {rm : Room} (As rest : List Value) {Qp : Int64 → zS → Prop} {Xp : String → zS → Prop} {Qc : Array Value → State → Outcome → State → Prop} (hT : ∀ x ∈ c.exceptionTable.toList, False) (hdg : decode cc pc = .ok (.invokevirtual index, 3)) (hM : ∀ sz, zNl l y ws rm D cy Z S sz (.ref b :: As) Qp Xp) (hw : ws = Cond.code y bytes maxL ret :: ws') (hG : GoodIn Ts (wsV own index Cn y ws)) (hd : y.cls = Cn ∧ y.cls ≠ "java/lang/invoke/MethodHandle" ∧ y.cls ≠ "java/lang/invoke/VarHandle" ∧ (parseMethodDescriptor y.desc).map (fun d => d.parameters.length) = some As.length) (hb : zk Z b ci) (hF : zF cy Z S b = .inr (ci, fs)) (hc : vwCl[ci]? = some (Cn, T, N)) (hst : st = As.reverse ++ .ref b :: rest) (hR : rm.frames + 1 ≤ R.frames ∧ 8 + (maxL + 11) + rm.locals ≤ R.locals) (hcat : (rest.map fun v => v.category).sum ≤ 8) (hroom : cells + rm.cells ≤ R.cells ∧ slots + rm.slots ≤ R.slots) (hk : cells + rm.cells = k ∧ slots + rm.slots = n) (hr2 : k ≤ mc ∧ n ≤ ms) (hq : pc + 3 = q)
    (kk : ∀ r τ, Qp r τ → zG p l e R s m args below meth c D cy A nL k n (vx_MQ below Qc (zXC D cy A Z Xp) args s mc ms A) Z τ (q) lv (.long r :: rest)) : zG p l e R s m args below meth c D cy A nL cells slots (vx_MQ below Qc (zXC D cy A Z Xp) args s mc ms A) Z S (pc) lv (st) := by
  subst hq
  obtain ⟨e1, e2⟩ := hk
  subst e1
  subst e2
  intro H locs ls hP hD hS hl
  obtain ⟨j, hj⟩ := zget hb.1 hF
  have hA1 : ∀ q, zA cy Z S H.size q → A q := zA_sub C0.2.2.1 hD hS
  refine vx_calll (vx_runV (As := As) (rest := rest) C0.1 (hM H.size) (cwV As.length C0.1.2.2.2.2 hG hw rfl rfl hd hR) ⟨zPc_blind, va_recv C0.2.1.1 hP hc hj, fun U hU hW => ⟨rfl, by rw [hU], by rw [hU]; exact hP, hD.weaken (fun _ _ _ _ => trivial), C0.2.1.call hS hA1 hU hW⟩⟩ rfl rfl hl.1 hst (lv_room hcat) hdg hroom) hS (fun q _ h => hA1 q h) hA1 (fun q _ h => hA1 q h) (fun E ce q9 u t H1 locs1 ht hvm _ hB hz1 hk1 hS1 h9 hv9 hc9 => ?_) (fun r u t H1 locs1 ht hvm hw hB hz1 hk1 hS1 => ?_)
  · subst ht
    exact vx_out (fun x hx => (hT x hx).elim) C0.2.2.2.2 h9 hv9 hc9 (fun t2 ht2 hvm2 => ⟨u, trivial, ⟨hB.1, by rw [ht2]; exact hB.2.1, hB.2.2.weaken (fun k x hk h => hA1 x.1 h)⟩, hS1.F ht2⟩) hS1.2.2 hr2.1 hr2.2
  · subst ht
    exact kk r u hw _ locs1 ls hB.1 (hB.2.weaken (fun k x hk h => hA1 x.1 h)) hS1 hl
theorem zgx_callSl (C0 : zC p s m args meth c cc nL Ts own D cy A rt) {ret : Option FieldType} {index maxL mc ms k n : Nat} {y : MethodName} {bytes : ByteArray} {ws ws' : List Cond} {rm : Room} (As rest : List Value) {Qp : Int64 → zS → Prop} {Xp : String → zS → Prop} {Qc : Array Value → State → Outcome → State → Prop} (hT : ∀ x ∈ c.exceptionTable.toList, False) (hdg : decode cc pc = .ok (.invokestatic index, 3)) (hM : ∀ sz, zNl l y ws rm D cy Z S sz (As) Qp Xp) (hw : ws = Cond.code y bytes maxL ret :: ws') (hG : GoodIn Ts (va_wsS own index y ws)) (hd : y.cls ≠ "java/lang/invoke/MethodHandle" ∧ y.cls ≠ "java/lang/invoke/VarHandle" ∧ (parseMethodDescriptor y.desc).map (fun d => d.parameters.length) = some As.length) (hst : st = As.reverse ++ rest) (hR : rm.frames + 1 ≤ R.frames ∧ 8 + (maxL + 11) + rm.locals ≤ R.locals) (hcat : (rest.map fun v => v.category).sum ≤ 8) (hroom : cells + rm.cells ≤ R.cells ∧ slots + rm.slots ≤ R.slots) (hk : cells + rm.cells = k ∧ slots + rm.slots = n) (hr2 : k ≤ mc ∧ n ≤ ms) (hq : pc + 3 = q)
    (kk : ∀ r τ, Qp r τ → zG p l e R s m args below meth c D cy A nL k n (vx_MQ below Qc (zXC D cy A Z Xp) args s mc ms A) Z τ (q) lv (.long r :: rest)) : zG p l e R s m args below meth c D cy A nL cells slots (vx_MQ below Qc (zXC D cy A Z Xp) args s mc ms A) Z S (pc) lv (st) := by
  subst hq
  obtain ⟨e1, e2⟩ := hk
  subst e1
  subst e2
  intro H locs ls hP hD hS hl
  have hA1 : ∀ q, zA cy Z S H.size q → A q := zA_sub C0.2.2.1 hD hS
  refine vx_calll (vx_runS (As := As) (rest := rest) C0.1 (hM H.size) (va_cwS As.length C0.1.2.2.2.2 hG hw rfl rfl hd hR) ⟨zPc_blind, fun U hU hW => ⟨rfl, by rw [hU], by rw [hU]; exact hP, hD.weaken (fun _ _ _ _ => trivial), C0.2.1.call hS hA1 hU hW⟩⟩ rfl rfl hl.1 hst (lv_room hcat) hdg hroom) hS (fun q _ h => hA1 q h) hA1 (fun q _ h => hA1 q h) (fun E ce q9 u t H1 locs1 ht hvm _ hB hz1 hk1 hS1 h9 hv9 hc9 => ?_) (fun r u t H1 locs1 ht hvm hw hB hz1 hk1 hS1 => ?_)
  · subst ht
    exact vx_out (fun x hx => (hT x hx).elim) C0.2.2.2.2 h9 hv9 hc9 (fun t2 ht2 hvm2 => ⟨u, trivial, ⟨hB.1, by rw [ht2]; exact hB.2.1, hB.2.2.weaken (fun k x hk h => hA1 x.1 h)⟩, hS1.F ht2⟩) hS1.2.2 hr2.1 hr2.2
  · subst ht
    exact kk r u hw _ locs1 ls hB.1 (hB.2.weaken (fun k x hk h => hA1 x.1 h)) hS1 hl
theorem zgx_callVq (C0 : zC p s m args meth c cc nL Ts own D cy A rt) {Cn : String} {T : u_T} {N ci : Nat} {fs : List Value} {b : Nat} {ret : Option FieldType} {index maxL mc ms k n : Nat} {y : MethodName} {bytes : ByteArray} {ws ws' : List Cond} {rm : Room} (As rest : List Value) {Qp : Option Nat → zS → Prop} {Xp : String → zS → Prop} {Qc : Array Value → State → Outcome → State → Prop} (hT : ∀ x ∈ c.exceptionTable.toList, False) (hdg : decode cc pc = .ok (.invokevirtual index, 3)) (hM : ∀ sz, zNq l y ws rm D cy Z S sz (.ref b :: As) Qp Xp) (hw : ws = Cond.code y bytes maxL ret :: ws') (hG : GoodIn Ts (wsV own index Cn y ws)) (hd : y.cls = Cn ∧ y.cls ≠ "java/lang/invoke/MethodHandle" ∧ y.cls ≠ "java/lang/invoke/VarHandle" ∧ (parseMethodDescriptor y.desc).map (fun d => d.parameters.length) = some As.length) (hb : zk Z b ci) (hF : zF cy Z S b = .inr (ci, fs)) (hc : vwCl[ci]? = some (Cn, T, N)) (hst : st = As.reverse ++ .ref b :: rest) (hR : rm.frames + 1 ≤ R.frames ∧ 8 + (maxL + 11) + rm.locals ≤ R.locals) (hcat : (rest.map fun v => v.category).sum ≤ 8) (hroom : cells + rm.cells ≤ R.cells ∧ slots + rm.slots ≤ R.slots) (hk : cells + rm.cells = k ∧ slots + rm.slots = n) (hr2 : k ≤ mc ∧ n ≤ ms) (hq : pc + 3 = q)
    (kk : ∀ r τ, Qp r τ → zG p l e R s m args below meth c D cy A nL k n (vx_MQ below Qc (zXC D cy A Z Xp) args s mc ms A) Z τ (q) lv (va_rf r :: rest)) : zG p l e R s m args below meth c D cy A nL cells slots (vx_MQ below Qc (zXC D cy A Z Xp) args s mc ms A) Z S (pc) lv (st) := by
  subst hq
  obtain ⟨e1, e2⟩ := hk
  subst e1
  subst e2
  intro H locs ls hP hD hS hl
  obtain ⟨j, hj⟩ := zget hb.1 hF
  have hA1 : ∀ q, zA cy Z S H.size q → A q := zA_sub C0.2.2.1 hD hS
  refine vx_callq (vx_runV (As := As) (rest := rest) C0.1 (hM H.size) (cwV As.length C0.1.2.2.2.2 hG hw rfl rfl hd hR) ⟨zPc_blind, va_recv C0.2.1.1 hP hc hj, fun U hU hW => ⟨rfl, by rw [hU], by rw [hU]; exact hP, hD.weaken (fun _ _ _ _ => trivial), C0.2.1.call hS hA1 hU hW⟩⟩ rfl rfl hl.1 hst (lv_room hcat) hdg hroom) hS (fun q _ h => hA1 q h) hA1 (fun q _ h => hA1 q h) (fun E ce q9 u t H1 locs1 ht hvm _ hB hz1 hk1 hS1 h9 hv9 hc9 => ?_) (fun r u t H1 locs1 ht hvm hw hB hz1 hk1 hS1 => ?_)
  · subst ht
    exact vx_out (fun x hx => (hT x hx).elim) C0.2.2.2.2 h9 hv9 hc9 (fun t2 ht2 hvm2 => ⟨u, trivial, ⟨hB.1, by rw [ht2]; exact hB.2.1, hB.2.2.weaken (fun k x hk h => hA1 x.1 h)⟩, hS1.F ht2⟩) hS1.2.2 hr2.1 hr2.2
  · subst ht
    exact kk r u hw _ locs1 ls hB.1 (hB.2.weaken (fun k x hk h => hA1 x.1 h)) hS1 hl
theorem zgx_callSq (C0 : zC p s m args meth c cc nL Ts own D cy A rt) {ret : Option FieldType} {index maxL mc ms k n : Nat} {y : MethodName} {bytes : ByteArray} {ws ws' : List Cond} {rm : Room} (As rest : List Value) {Qp : Option Nat → zS → Prop} {Xp : String → zS → Prop} {Qc : Array Value → State → Outcome → State → Prop} (hT : ∀ x ∈ c.exceptionTable.toList, False) (hdg : decode cc pc = .ok (.invokestatic index, 3)) (hM : ∀ sz, zNq l y ws rm D cy Z S sz (As) Qp Xp) (hw : ws = Cond.code y bytes maxL ret :: ws') (hG : GoodIn Ts (va_wsS own index y ws)) (hd : y.cls ≠ "java/lang/invoke/MethodHandle" ∧ y.cls ≠ "java/lang/invoke/VarHandle" ∧ (parseMethodDescriptor y.desc).map (fun d => d.parameters.length) = some As.length) (hst : st = As.reverse ++ rest) (hR : rm.frames + 1 ≤ R.frames ∧ 8 + (maxL + 11) + rm.locals ≤ R.locals) (hcat : (rest.map fun v => v.category).sum ≤ 8) (hroom : cells + rm.cells ≤ R.cells ∧ slots + rm.slots ≤ R.slots) (hk : cells + rm.cells = k ∧ slots + rm.slots = n) (hr2 : k ≤ mc ∧ n ≤ ms) (hq : pc + 3 = q)
    (kk : ∀ r τ, Qp r τ → zG p l e R s m args below meth c D cy A nL k n (vx_MQ below Qc (zXC D cy A Z Xp) args s mc ms A) Z τ (q) lv (va_rf r :: rest)) : zG p l e R s m args below meth c D cy A nL cells slots (vx_MQ below Qc (zXC D cy A Z Xp) args s mc ms A) Z S (pc) lv (st) := by
  subst hq
  obtain ⟨e1, e2⟩ := hk
  subst e1
  subst e2
  intro H locs ls hP hD hS hl
  have hA1 : ∀ q, zA cy Z S H.size q → A q := zA_sub C0.2.2.1 hD hS
  refine vx_callq (vx_runS (As := As) (rest := rest) C0.1 (hM H.size) (va_cwS As.length C0.1.2.2.2.2 hG hw rfl rfl hd hR) ⟨zPc_blind, fun U hU hW => ⟨rfl, by rw [hU], by rw [hU]; exact hP, hD.weaken (fun _ _ _ _ => trivial), C0.2.1.call hS hA1 hU hW⟩⟩ rfl rfl hl.1 hst (lv_room hcat) hdg hroom) hS (fun q _ h => hA1 q h) hA1 (fun q _ h => hA1 q h) (fun E ce q9 u t H1 locs1 ht hvm _ hB hz1 hk1 hS1 h9 hv9 hc9 => ?_) (fun r u t H1 locs1 ht hvm hw hB hz1 hk1 hS1 => ?_)
  · subst ht
    exact vx_out (fun x hx => (hT x hx).elim) C0.2.2.2.2 h9 hv9 hc9 (fun t2 ht2 hvm2 => ⟨u, trivial, ⟨hB.1, by rw [ht2]; exact hB.2.1, hB.2.2.weaken (fun k x hk h => hA1 x.1 h)⟩, hS1.F ht2⟩) hS1.2.2 hr2.1 hr2.2
  · subst ht
    exact kk r u hw _ locs1 ls hB.1 (hB.2.weaken (fun k x hk h => hA1 x.1 h)) hS1 hl
theorem zFal (cy : Nat → ClassId) (Z : zZ) (S : zS) (a k n : Nat) : ∀ b, b ≠ a → zF cy (zalZ Z a k n) (zalS S a) b = zF cy Z S b := fun b h => zF_cong cy (va_up_ne _ _ h) (va_up_ne _ _ h) (va_up_ne _ _ h) (va_up_ne _ _ h) (va_up_ne _ _ h) (va_up_ne _ _ h)
theorem zpush {cy : Nat → ClassId} {Z : zZ} {S : zS} {a k n : Nat} {e : va_E} (h : a ∉ zL Z) (he : zF cy (zalZ Z a k n) (zalS S a) a = e) : zW cy Z S ++ [(a, e)] = zW cy (zalZ Z a k n) (zalS S a) := by
  unfold zW
  rw [va_pl_push h]
  show va_pl (zL Z ++ [a]) _ = va_pl (zL Z ++ [a]) _
  refine va_pl_congr (fun b => ?_)
  by_cases hb : b = a
  · subst hb
    rw [va_up_self, he]
  · rw [va_up_ne _ _ hb, zFal cy Z S a k n b hb]
theorem zk_al (Z : zZ) (a k n : Nat) : zk (zalZ Z a k n) a k := ⟨List.mem_append_right _ (List.mem_singleton.mpr rfl), va_up_self _ _ _⟩
theorem zk_old {Z : zZ} {a k n b j : Nat} (h : zk Z b j) (ha : a ∉ zL Z) : zk (zalZ Z a k n) b j := ⟨List.mem_append_left _ h.1, (va_up_ne _ _ (fun q : b = a => ha (q ▸ h.1))).trans h.2⟩
theorem zfresh {cy : Nat → ClassId} {Z : zZ} {S : zS} {A : Nat → Prop} {a : Nat} {e : va_E} (hD : va_D A (zW cy Z S ++ [(a, e)])) : a ∉ zL Z := va_pl_fresh2 (X := []) (f := zF cy Z S) hD
theorem zfs_al0 (Z : zZ) (S : zS) (a : Nat) : zfs (zalZ Z a 0 2) (zalS S a) a 0 = [.null, .int 0] := by
  simp [zfs, zalZ, zalS, zQ, zI, zJ, zR, va_up_self, va_rf]
theorem zdef0 : ∀ j, j < 2 → defaultValue (tyX0 j) = vp_V [.null, .int 0] j := by decide +kernel
theorem zg_new0 (C0 : zC p s m args meth c cc nL Ts own D cy A rt) {index : Nat} (hdg : decode cc pc = .ok (.new index, 3)) (hcl : Cond.classLink own index RX0 ∈ Ts) (hinst : Cond.instantiable RX0 2 ∈ Ts) (hini : Cond.initialized RX0 ∈ Ts) (hin : ∀ w ∈ u_ws RX0 TX0 2, w ∈ Ts) {k j : Nat} (hro : cells + 1 = k ∧ slots + 2 = j) (hro2 : k ≤ R.cells ∧ j ≤ R.slots) (hq : pc + 3 = q) (kk : ∀ a, a ∉ zL Z → ∀ Z' S', Z' = zalZ Z a 0 2 → S' = zalS S a → zG p l e R s m args below meth c D cy A nL k j Q Z' S' (q) lv (.ref a :: st)) : zG p l e R s m args below meth c D cy A nL cells slots Q Z S (pc) lv (st) := by
  subst hq
  obtain ⟨e1, e2⟩ := hro
  subst e1
  subst e2
  intro H locs ls hP hD hS hl
  refine va_new (D := D) (cl := vwCl) (ci := 0) (N := 2) (fs := [.null, .int 0]) C0.1.1 C0.1.2.1 C0.1.2.2.2.2 hin tyX0 tyX0_ok C0.1.2.2.2.1 (C0.1.2.2.2.2 _ hcl) (C0.1.2.2.2.2 _ hinst) (C0.1.2.2.2.2 _ hini) C0.2.1.1 hP hD hS C0.2.2.1 rfl (zdef0) hro2.1 hro2.2 hdg (fun a H1 hP1 hD1 hS1 => ?_)
  have ha := zfresh hD1
  have hp := zpush (k := 0) (n := 2) ha ((zF_0 cy (S := zalS S a) (zk_al Z a 0 2)).trans (by rw [zfs_al0]))
  exact kk a ha _ _ rfl rfl H1 locs ls (hp ▸ hP1) (hp ▸ hD1) hS1 hl
theorem zfs_al1 (Z : zZ) (S : zS) (a : Nat) : zfs (zalZ Z a 1 4) (zalS S a) a 1 = [.int 0, .int 0, .long 0, .int 0] := by
  simp [zfs, zalZ, zalS, zQ, zI, zJ, zR, va_up_self, va_rf]
theorem zdef1 : ∀ j, j < 4 → defaultValue (tyX1 j) = vp_V [.int 0, .int 0, .long 0, .int 0] j := by decide +kernel
theorem zg_new1 (C0 : zC p s m args meth c cc nL Ts own D cy A rt) {index : Nat} (hdg : decode cc pc = .ok (.new index, 3)) (hcl : Cond.classLink own index RX1 ∈ Ts) (hinst : Cond.instantiable RX1 4 ∈ Ts) (hini : Cond.initialized RX1 ∈ Ts) (hin : ∀ w ∈ u_ws RX1 TX1 4, w ∈ Ts) {k j : Nat} (hro : cells + 1 = k ∧ slots + 4 = j) (hro2 : k ≤ R.cells ∧ j ≤ R.slots) (hq : pc + 3 = q) (kk : ∀ a, a ∉ zL Z → ∀ Z' S', Z' = zalZ Z a 1 4 → S' = zalS S a → zG p l e R s m args below meth c D cy A nL k j Q Z' S' (q) lv (.ref a :: st)) : zG p l e R s m args below meth c D cy A nL cells slots Q Z S (pc) lv (st) := by
  subst hq
  obtain ⟨e1, e2⟩ := hro
  subst e1
  subst e2
  intro H locs ls hP hD hS hl
  refine va_new (D := D) (cl := vwCl) (ci := 1) (N := 4) (fs := [.int 0, .int 0, .long 0, .int 0]) C0.1.1 C0.1.2.1 C0.1.2.2.2.2 hin tyX1 tyX1_ok C0.1.2.2.2.1 (C0.1.2.2.2.2 _ hcl) (C0.1.2.2.2.2 _ hinst) (C0.1.2.2.2.2 _ hini) C0.2.1.1 hP hD hS C0.2.2.1 rfl (zdef1) hro2.1 hro2.2 hdg (fun a H1 hP1 hD1 hS1 => ?_)
  have ha := zfresh hD1
  have hp := zpush (k := 1) (n := 4) ha ((zF_1 cy (S := zalS S a) (zk_al Z a 1 4)).trans (by rw [zfs_al1]))
  exact kk a ha _ _ rfl rfl H1 locs ls (hp ▸ hP1) (hp ▸ hD1) hS1 hl
theorem zfs_al2 (Z : zZ) (S : zS) (a : Nat) : zfs (zalZ Z a 2 13) (zalS S a) a 2 = [.int 0, .null, .null, .null, .null, .int 0, .int 0, .null, .int 0, .int 0, .int 0, .int 0, .int 0] := by
  simp [zfs, zalZ, zalS, zQ, zI, zJ, zR, va_up_self, va_rf]
theorem zdef2 : ∀ j, j < 13 → defaultValue (tyX2 j) = vp_V [.int 0, .null, .null, .null, .null, .int 0, .int 0, .null, .int 0, .int 0, .int 0, .int 0, .int 0] j := by decide +kernel
theorem zg_new2 (C0 : zC p s m args meth c cc nL Ts own D cy A rt) {index : Nat} (hdg : decode cc pc = .ok (.new index, 3)) (hcl : Cond.classLink own index RX2 ∈ Ts) (hinst : Cond.instantiable RX2 13 ∈ Ts) (hini : Cond.initialized RX2 ∈ Ts) (hin : ∀ w ∈ u_ws RX2 TX2 13, w ∈ Ts) {k j : Nat} (hro : cells + 1 = k ∧ slots + 13 = j) (hro2 : k ≤ R.cells ∧ j ≤ R.slots) (hq : pc + 3 = q) (kk : ∀ a, a ∉ zL Z → ∀ Z' S', Z' = zalZ Z a 2 13 → S' = zalS S a → zG p l e R s m args below meth c D cy A nL k j Q Z' S' (q) lv (.ref a :: st)) : zG p l e R s m args below meth c D cy A nL cells slots Q Z S (pc) lv (st) := by
  subst hq
  obtain ⟨e1, e2⟩ := hro
  subst e1
  subst e2
  intro H locs ls hP hD hS hl
  refine va_new (D := D) (cl := vwCl) (ci := 2) (N := 13) (fs := [.int 0, .null, .null, .null, .null, .int 0, .int 0, .null, .int 0, .int 0, .int 0, .int 0, .int 0]) C0.1.1 C0.1.2.1 C0.1.2.2.2.2 hin tyX2 tyX2_ok C0.1.2.2.2.1 (C0.1.2.2.2.2 _ hcl) (C0.1.2.2.2.2 _ hinst) (C0.1.2.2.2.2 _ hini) C0.2.1.1 hP hD hS C0.2.2.1 rfl (zdef2) hro2.1 hro2.2 hdg (fun a H1 hP1 hD1 hS1 => ?_)
  have ha := zfresh hD1
  have hp := zpush (k := 2) (n := 13) ha ((zF_2 cy (S := zalS S a) (zk_al Z a 2 13)).trans (by rw [zfs_al2]))
  exact kk a ha _ _ rfl rfl H1 locs ls (hp ▸ hP1) (hp ▸ hD1) hS1 hl
theorem zfs_al3 (Z : zZ) (S : zS) (a : Nat) : zfs (zalZ Z a 3 2) (zalS S a) a 3 = [.null, .int 0] := by
  simp [zfs, zalZ, zalS, zQ, zI, zJ, zR, va_up_self, va_rf]
theorem zdef3 : ∀ j, j < 2 → defaultValue (tyX3 j) = vp_V [.null, .int 0] j := by decide +kernel
theorem zg_new3 (C0 : zC p s m args meth c cc nL Ts own D cy A rt) {index : Nat} (hdg : decode cc pc = .ok (.new index, 3)) (hcl : Cond.classLink own index RX3 ∈ Ts) (hinst : Cond.instantiable RX3 2 ∈ Ts) (hini : Cond.initialized RX3 ∈ Ts) (hin : ∀ w ∈ u_ws RX3 TX3 2, w ∈ Ts) {k j : Nat} (hro : cells + 1 = k ∧ slots + 2 = j) (hro2 : k ≤ R.cells ∧ j ≤ R.slots) (hq : pc + 3 = q) (kk : ∀ a, a ∉ zL Z → ∀ Z' S', Z' = zalZ Z a 3 2 → S' = zalS S a → zG p l e R s m args below meth c D cy A nL k j Q Z' S' (q) lv (.ref a :: st)) : zG p l e R s m args below meth c D cy A nL cells slots Q Z S (pc) lv (st) := by
  subst hq
  obtain ⟨e1, e2⟩ := hro
  subst e1
  subst e2
  intro H locs ls hP hD hS hl
  refine va_new (D := D) (cl := vwCl) (ci := 3) (N := 2) (fs := [.null, .int 0]) C0.1.1 C0.1.2.1 C0.1.2.2.2.2 hin tyX3 tyX3_ok C0.1.2.2.2.1 (C0.1.2.2.2.2 _ hcl) (C0.1.2.2.2.2 _ hinst) (C0.1.2.2.2.2 _ hini) C0.2.1.1 hP hD hS C0.2.2.1 rfl (zdef3) hro2.1 hro2.2 hdg (fun a H1 hP1 hD1 hS1 => ?_)
  have ha := zfresh hD1
  have hp := zpush (k := 3) (n := 2) ha ((zF_3 cy (S := zalS S a) (zk_al Z a 3 2)).trans (by rw [zfs_al3]))
  exact kk a ha _ _ rfl rfl H1 locs ls (hp ▸ hP1) (hp ▸ hD1) hS1 hl
theorem zfs_al4 (Z : zZ) (S : zS) (a : Nat) : zfs (zalZ Z a 4 5) (zalS S a) a 4 = [.null, .null, .int 0, .long 0, .int 0] := by
  simp [zfs, zalZ, zalS, zQ, zI, zJ, zR, va_up_self, va_rf]
theorem zdef4 : ∀ j, j < 5 → defaultValue (tyX4 j) = vp_V [.null, .null, .int 0, .long 0, .int 0] j := by decide +kernel
theorem zg_new4 (C0 : zC p s m args meth c cc nL Ts own D cy A rt) {index : Nat} (hdg : decode cc pc = .ok (.new index, 3)) (hcl : Cond.classLink own index RX4 ∈ Ts) (hinst : Cond.instantiable RX4 5 ∈ Ts) (hini : Cond.initialized RX4 ∈ Ts) (hin : ∀ w ∈ u_ws RX4 TX4 5, w ∈ Ts) {k j : Nat} (hro : cells + 1 = k ∧ slots + 5 = j) (hro2 : k ≤ R.cells ∧ j ≤ R.slots) (hq : pc + 3 = q) (kk : ∀ a, a ∉ zL Z → ∀ Z' S', Z' = zalZ Z a 4 5 → S' = zalS S a → zG p l e R s m args below meth c D cy A nL k j Q Z' S' (q) lv (.ref a :: st)) : zG p l e R s m args below meth c D cy A nL cells slots Q Z S (pc) lv (st) := by
  subst hq
  obtain ⟨e1, e2⟩ := hro
  subst e1
  subst e2
  intro H locs ls hP hD hS hl
  refine va_new (D := D) (cl := vwCl) (ci := 4) (N := 5) (fs := [.null, .null, .int 0, .long 0, .int 0]) C0.1.1 C0.1.2.1 C0.1.2.2.2.2 hin tyX4 tyX4_ok C0.1.2.2.2.1 (C0.1.2.2.2.2 _ hcl) (C0.1.2.2.2.2 _ hinst) (C0.1.2.2.2.2 _ hini) C0.2.1.1 hP hD hS C0.2.2.1 rfl (zdef4) hro2.1 hro2.2 hdg (fun a H1 hP1 hD1 hS1 => ?_)
  have ha := zfresh hD1
  have hp := zpush (k := 4) (n := 5) ha ((zF_4 cy (S := zalS S a) (zk_al Z a 4 5)).trans (by rw [zfs_al4]))
  exact kk a ha _ _ rfl rfl H1 locs ls (hp ▸ hP1) (hp ▸ hD1) hS1 hl
theorem zfs_al5 (Z : zZ) (S : zS) (a : Nat) : zfs (zalZ Z a 5 6) (zalS S a) a 5 = [.null, .null, .int 0, .int 0, .int 0, .int 0] := by
  simp [zfs, zalZ, zalS, zQ, zI, zJ, zR, va_up_self, va_rf]
theorem zdef5 : ∀ j, j < 6 → defaultValue (tyX5 j) = vp_V [.null, .null, .int 0, .int 0, .int 0, .int 0] j := by decide +kernel
theorem zg_new5 (C0 : zC p s m args meth c cc nL Ts own D cy A rt) {index : Nat} (hdg : decode cc pc = .ok (.new index, 3)) (hcl : Cond.classLink own index RX5 ∈ Ts) (hinst : Cond.instantiable RX5 6 ∈ Ts) (hini : Cond.initialized RX5 ∈ Ts) (hin : ∀ w ∈ u_ws RX5 TX5 6, w ∈ Ts) {k j : Nat} (hro : cells + 1 = k ∧ slots + 6 = j) (hro2 : k ≤ R.cells ∧ j ≤ R.slots) (hq : pc + 3 = q) (kk : ∀ a, a ∉ zL Z → ∀ Z' S', Z' = zalZ Z a 5 6 → S' = zalS S a → zG p l e R s m args below meth c D cy A nL k j Q Z' S' (q) lv (.ref a :: st)) : zG p l e R s m args below meth c D cy A nL cells slots Q Z S (pc) lv (st) := by
  subst hq
  obtain ⟨e1, e2⟩ := hro
  subst e1
  subst e2
  intro H locs ls hP hD hS hl
  refine va_new (D := D) (cl := vwCl) (ci := 5) (N := 6) (fs := [.null, .null, .int 0, .int 0, .int 0, .int 0]) C0.1.1 C0.1.2.1 C0.1.2.2.2.2 hin tyX5 tyX5_ok C0.1.2.2.2.1 (C0.1.2.2.2.2 _ hcl) (C0.1.2.2.2.2 _ hinst) (C0.1.2.2.2.2 _ hini) C0.2.1.1 hP hD hS C0.2.2.1 rfl (zdef5) hro2.1 hro2.2 hdg (fun a H1 hP1 hD1 hS1 => ?_)
  have ha := zfresh hD1
  have hp := zpush (k := 5) (n := 6) ha ((zF_5 cy (S := zalS S a) (zk_al Z a 5 6)).trans (by rw [zfs_al5]))
  exact kk a ha _ _ rfl rfl H1 locs ls (hp ▸ hP1) (hp ▸ hD1) hS1 hl
theorem zfs_al6 (Z : zZ) (S : zS) (a : Nat) : zfs (zalZ Z a 6 4) (zalS S a) a 6 = [.int 0, .null, .null, .null] := by
  simp [zfs, zalZ, zalS, zQ, zI, zJ, zR, va_up_self, va_rf]
theorem zdef6 : ∀ j, j < 4 → defaultValue (tyX6 j) = vp_V [.int 0, .null, .null, .null] j := by decide +kernel
theorem zg_new6 (C0 : zC p s m args meth c cc nL Ts own D cy A rt) {index : Nat} (hdg : decode cc pc = .ok (.new index, 3)) (hcl : Cond.classLink own index RX6 ∈ Ts) (hinst : Cond.instantiable RX6 4 ∈ Ts) (hini : Cond.initialized RX6 ∈ Ts) (hin : ∀ w ∈ u_ws RX6 TX6 4, w ∈ Ts) {k j : Nat} (hro : cells + 1 = k ∧ slots + 4 = j) (hro2 : k ≤ R.cells ∧ j ≤ R.slots) (hq : pc + 3 = q) (kk : ∀ a, a ∉ zL Z → ∀ Z' S', Z' = zalZ Z a 6 4 → S' = zalS S a → zG p l e R s m args below meth c D cy A nL k j Q Z' S' (q) lv (.ref a :: st)) : zG p l e R s m args below meth c D cy A nL cells slots Q Z S (pc) lv (st) := by
  subst hq
  obtain ⟨e1, e2⟩ := hro
  subst e1
  subst e2
  intro H locs ls hP hD hS hl
  refine va_new (D := D) (cl := vwCl) (ci := 6) (N := 4) (fs := [.int 0, .null, .null, .null]) C0.1.1 C0.1.2.1 C0.1.2.2.2.2 hin tyX6 tyX6_ok C0.1.2.2.2.1 (C0.1.2.2.2.2 _ hcl) (C0.1.2.2.2.2 _ hinst) (C0.1.2.2.2.2 _ hini) C0.2.1.1 hP hD hS C0.2.2.1 rfl (zdef6) hro2.1 hro2.2 hdg (fun a H1 hP1 hD1 hS1 => ?_)
  have ha := zfresh hD1
  have hp := zpush (k := 6) (n := 4) ha ((zF_6 cy (S := zalS S a) (zk_al Z a 6 4)).trans (by rw [zfs_al6]))
  exact kk a ha _ _ rfl rfl H1 locs ls (hp ▸ hP1) (hp ▸ hD1) hS1 hl
theorem zfs_al7 (Z : zZ) (S : zS) (a : Nat) : zfs (zalZ Z a 7 36) (zalS S a) a 7 = [.int 0, .int 0, .int 0, .null, .null, .null, .null, .null, .null, .null, .null, .null, .null, .null, .null, .null, .null, .null, .null, .null, .null, .null, .null, .null, .null, .null, .null, .null, .null, .null, .null, .null, .null, .null, .null, .null] := by
  simp [zfs, zalZ, zalS, zQ, zI, zJ, zR, va_up_self, va_rf]
theorem zdef7 : ∀ j, j < 36 → defaultValue (tyX7 j) = vp_V [.int 0, .int 0, .int 0, .null, .null, .null, .null, .null, .null, .null, .null, .null, .null, .null, .null, .null, .null, .null, .null, .null, .null, .null, .null, .null, .null, .null, .null, .null, .null, .null, .null, .null, .null, .null, .null, .null] j := by decide +kernel
theorem zg_new7 (C0 : zC p s m args meth c cc nL Ts own D cy A rt) {index : Nat} (hdg : decode cc pc = .ok (.new index, 3)) (hcl : Cond.classLink own index RX7 ∈ Ts) (hinst : Cond.instantiable RX7 36 ∈ Ts) (hini : Cond.initialized RX7 ∈ Ts) (hin : ∀ w ∈ u_ws RX7 TX7 36, w ∈ Ts) {k j : Nat} (hro : cells + 1 = k ∧ slots + 36 = j) (hro2 : k ≤ R.cells ∧ j ≤ R.slots) (hq : pc + 3 = q) (kk : ∀ a, a ∉ zL Z → ∀ Z' S', Z' = zalZ Z a 7 36 → S' = zalS S a → zG p l e R s m args below meth c D cy A nL k j Q Z' S' (q) lv (.ref a :: st)) : zG p l e R s m args below meth c D cy A nL cells slots Q Z S (pc) lv (st) := by
  subst hq
  obtain ⟨e1, e2⟩ := hro
  subst e1
  subst e2
  intro H locs ls hP hD hS hl
  refine va_new (D := D) (cl := vwCl) (ci := 7) (N := 36) (fs := [.int 0, .int 0, .int 0, .null, .null, .null, .null, .null, .null, .null, .null, .null, .null, .null, .null, .null, .null, .null, .null, .null, .null, .null, .null, .null, .null, .null, .null, .null, .null, .null, .null, .null, .null, .null, .null, .null]) C0.1.1 C0.1.2.1 C0.1.2.2.2.2 hin tyX7 tyX7_ok C0.1.2.2.2.1 (C0.1.2.2.2.2 _ hcl) (C0.1.2.2.2.2 _ hinst) (C0.1.2.2.2.2 _ hini) C0.2.1.1 hP hD hS C0.2.2.1 rfl (zdef7) hro2.1 hro2.2 hdg (fun a H1 hP1 hD1 hS1 => ?_)
  have ha := zfresh hD1
  have hp := zpush (k := 7) (n := 36) ha ((zF_7 cy (S := zalS S a) (zk_al Z a 7 36)).trans (by rw [zfs_al7]))
  exact kk a ha _ _ rfl rfl H1 locs ls (hp ▸ hP1) (hp ▸ hD1) hS1 hl
theorem zg_newaI (C0 : zC p s m args meth c cc nL Ts own D cy A rt) {n : Int32} {N' : Nat} (hdg : decode cc pc = .ok (.newarray .int, 2)) (harr : Cond.arrayClass .int ∈ Ts) (hn : ¬ n < 0) (hN : n.toNatClampNeg = N') (hbytes : N' * componentBytes .int ≤ 536870912) {k j : Nat} (hro : cells + 1 = k ∧ slots + N' = j) (hro2 : k ≤ R.cells ∧ j ≤ R.slots) (hq : pc + 2 = q) (kk : ∀ a, a ∉ zL Z → ∀ Z' S', Z' = zalZ Z a 8 N' → S' = zalS S a → zG p l e R s m args below meth c D cy A nL k j Q Z' S' (q) lv (.ref a :: st)) : zG p l e R s m args below meth c D cy A nL cells slots Q Z S (pc) lv (.int n :: st) := by
  subst hq
  obtain ⟨e1, e2⟩ := hro
  subst e1
  subst e2
  intro H locs ls hP hD hS hl
  refine va_newa (D := D) (cl := vwCl) (atype := .int) (ty := .int) (a0 := (N', .inl (fun _ => 0))) C0.1.1 C0.1.2.1 (C0.1.2.2.2.2 _ harr) rfl C0.2.1.1 hP hD hS C0.2.2.1 (fun cA => rfl) hn hN hbytes hro2.1 hro2.2 hdg (fun a cA H1 hK1 hP1 hD1 hS1 => ?_)
  have e0 : cA = cy 0 := by
    have h1 := (hK1.2 6 (cA, .int) rfl).2
    have h2 := (hK1.2 0 (cy 0, .int) rfl).2
    exact Option.some.inj (h1.symm.trans h2)
  subst e0
  have ha := zfresh hD1
  have hp := zpush (k := 8) (n := N') ha ((zF_8 cy (S := zalS S a) (zk_al Z a 8 N')).trans (by rw [show zN (zalZ Z a 8 N') a = N' from va_up_self _ _ _, show zI (zalS S a) a = (fun _ => 0) from va_up_self _ _ _]))
  exact kk a ha _ _ rfl rfl H1 locs ls (hp ▸ hP1) (hp ▸ hD1) hS1 hl
theorem zg_newaJ (C0 : zC p s m args meth c cc nL Ts own D cy A rt) {n : Int32} {N' : Nat} (hdg : decode cc pc = .ok (.newarray .long, 2)) (harr : Cond.arrayClass .long ∈ Ts) (hn : ¬ n < 0) (hN : n.toNatClampNeg = N') (hbytes : N' * componentBytes .long ≤ 536870912) {k j : Nat} (hro : cells + 1 = k ∧ slots + N' = j) (hro2 : k ≤ R.cells ∧ j ≤ R.slots) (hq : pc + 2 = q) (kk : ∀ a, a ∉ zL Z → ∀ Z' S', Z' = zalZ Z a 9 N' → S' = zalS S a → zG p l e R s m args below meth c D cy A nL k j Q Z' S' (q) lv (.ref a :: st)) : zG p l e R s m args below meth c D cy A nL cells slots Q Z S (pc) lv (.int n :: st) := by
  subst hq
  obtain ⟨e1, e2⟩ := hro
  subst e1
  subst e2
  intro H locs ls hP hD hS hl
  refine va_newa (D := D) (cl := vwCl) (atype := .long) (ty := .long) (a0 := (N', .inr (.inl (fun _ => 0)))) C0.1.1 C0.1.2.1 (C0.1.2.2.2.2 _ harr) rfl C0.2.1.1 hP hD hS C0.2.2.1 (fun cA => rfl) hn hN hbytes hro2.1 hro2.2 hdg (fun a cA H1 hK1 hP1 hD1 hS1 => ?_)
  have e0 : cA = cy 1 := by
    have h1 := (hK1.2 6 (cA, .long) rfl).2
    have h2 := (hK1.2 1 (cy 1, .long) rfl).2
    exact Option.some.inj (h1.symm.trans h2)
  subst e0
  have ha := zfresh hD1
  have hp := zpush (k := 9) (n := N') ha ((zF_9 cy (S := zalS S a) (zk_al Z a 9 N')).trans (by rw [show zN (zalZ Z a 9 N') a = N' from va_up_self _ _ _, show zJ (zalS S a) a = (fun _ => 0) from va_up_self _ _ _]))
  exact kk a ha _ _ rfl rfl H1 locs ls (hp ▸ hP1) (hp ▸ hD1) hS1 hl
theorem zg_newaZ (C0 : zC p s m args meth c cc nL Ts own D cy A rt) {n : Int32} {N' : Nat} (hdg : decode cc pc = .ok (.newarray .boolean, 2)) (harr : Cond.arrayClass .boolean ∈ Ts) (hn : ¬ n < 0) (hN : n.toNatClampNeg = N') (hbytes : N' * componentBytes .boolean ≤ 536870912) {k j : Nat} (hro : cells + 1 = k ∧ slots + N' = j) (hro2 : k ≤ R.cells ∧ j ≤ R.slots) (hq : pc + 2 = q) (kk : ∀ a, a ∉ zL Z → ∀ Z' S', Z' = zalZ Z a 10 N' → S' = zalS S a → zG p l e R s m args below meth c D cy A nL k j Q Z' S' (q) lv (.ref a :: st)) : zG p l e R s m args below meth c D cy A nL cells slots Q Z S (pc) lv (.int n :: st) := by
  subst hq
  obtain ⟨e1, e2⟩ := hro
  subst e1
  subst e2
  intro H locs ls hP hD hS hl
  refine va_newa (D := D) (cl := vwCl) (atype := .boolean) (ty := .boolean) (a0 := (N', .inl (fun _ => 0))) C0.1.1 C0.1.2.1 (C0.1.2.2.2.2 _ harr) rfl C0.2.1.1 hP hD hS C0.2.2.1 (fun cA => rfl) hn hN hbytes hro2.1 hro2.2 hdg (fun a cA H1 hK1 hP1 hD1 hS1 => ?_)
  have e0 : cA = cy 2 := by
    have h1 := (hK1.2 6 (cA, .boolean) rfl).2
    have h2 := (hK1.2 2 (cy 2, .boolean) rfl).2
    exact Option.some.inj (h1.symm.trans h2)
  subst e0
  have ha := zfresh hD1
  have hp := zpush (k := 10) (n := N') ha ((zF_10 cy (S := zalS S a) (zk_al Z a 10 N')).trans (by rw [show zN (zalZ Z a 10 N') a = N' from va_up_self _ _ _, show zI (zalS S a) a = (fun _ => 0) from va_up_self _ _ _]))
  exact kk a ha _ _ rfl rfl H1 locs ls (hp ▸ hP1) (hp ▸ hD1) hS1 hl
theorem zg_newq11 (C0 : zC p s m args meth c cc nL Ts own D cy A rt) {index : Nat} {n : Int32} {N' : Nat} (hdg : decode cc pc = .ok (.anewarray index, 3)) (hcl : Cond.classLink own index RX1 ∈ Ts) (hn : ¬ n < 0) (hN : n.toNatClampNeg = N') (hbytes : N' * 4 ≤ 536870912) {k j : Nat} (hro : cells + 1 = k ∧ slots + N' = j) (hro2 : k ≤ R.cells ∧ j ≤ R.slots) (hq : pc + 3 = q) (kk : ∀ a, a ∉ zL Z → ∀ Z' S', Z' = zalZ Z a 11 N' → S' = zalS S a → zG p l e R s m args below meth c D cy A nL k j Q Z' S' (q) lv (.ref a :: st)) : zG p l e R s m args below meth c D cy A nL cells slots Q Z S (pc) lv (.int n :: st) := by
  subst hq
  obtain ⟨e1, e2⟩ := hro
  subst e1
  subst e2
  intro H locs ls hP hD hS hl
  refine va_newq (D := D) (cl := vwCl) C0.1.1 C0.1.2.1 C0.1.2.2.2.1 (C0.1.2.2.2.2 _ hcl) C0.2.1.2.2.2.2.2.1 C0.2.1.1 hP hD hS C0.2.2.1 hn hN hbytes hro2.1 hro2.2 hdg (fun a cA H1 hK1 hP1 hD1 hS1 => ?_)
  have e0 : cA = cy 3 := by
    obtain ⟨kA, comp, -, -, -, h1⟩ := (hK1.2 6 (cA, .object RX1) rfl).2
    obtain ⟨kA2, comp2, -, -, -, h2⟩ := (hK1.2 3 (cy 3, .object RX1) rfl).2
    exact Option.some.inj (h1.symm.trans h2)
  subst e0
  have ha := zfresh hD1
  have hp := zpush (k := 11) (n := N') ha ((zF_11 cy (S := zalS S a) (zk_al Z a 11 N')).trans (by rw [show zN (zalZ Z a 11 N') a = N' from va_up_self _ _ _, show zR (zalS S a) a = (fun _ => none) from va_up_self _ _ _]))
  exact kk a ha _ _ rfl rfl H1 locs ls (hp ▸ hP1) (hp ▸ hD1) hS1 hl
theorem zg_newq12 (C0 : zC p s m args meth c cc nL Ts own D cy A rt) {index : Nat} {n : Int32} {N' : Nat} (hdg : decode cc pc = .ok (.anewarray index, 3)) (hcl : Cond.classLink own index RX2 ∈ Ts) (hn : ¬ n < 0) (hN : n.toNatClampNeg = N') (hbytes : N' * 4 ≤ 536870912) {k j : Nat} (hro : cells + 1 = k ∧ slots + N' = j) (hro2 : k ≤ R.cells ∧ j ≤ R.slots) (hq : pc + 3 = q) (kk : ∀ a, a ∉ zL Z → ∀ Z' S', Z' = zalZ Z a 12 N' → S' = zalS S a → zG p l e R s m args below meth c D cy A nL k j Q Z' S' (q) lv (.ref a :: st)) : zG p l e R s m args below meth c D cy A nL cells slots Q Z S (pc) lv (.int n :: st) := by
  subst hq
  obtain ⟨e1, e2⟩ := hro
  subst e1
  subst e2
  intro H locs ls hP hD hS hl
  refine va_newq (D := D) (cl := vwCl) C0.1.1 C0.1.2.1 C0.1.2.2.2.1 (C0.1.2.2.2.2 _ hcl) C0.2.1.2.2.2.2.2.2.1 C0.2.1.1 hP hD hS C0.2.2.1 hn hN hbytes hro2.1 hro2.2 hdg (fun a cA H1 hK1 hP1 hD1 hS1 => ?_)
  have e0 : cA = cy 4 := by
    obtain ⟨kA, comp, -, -, -, h1⟩ := (hK1.2 6 (cA, .object RX2) rfl).2
    obtain ⟨kA2, comp2, -, -, -, h2⟩ := (hK1.2 4 (cy 4, .object RX2) rfl).2
    exact Option.some.inj (h1.symm.trans h2)
  subst e0
  have ha := zfresh hD1
  have hp := zpush (k := 12) (n := N') ha ((zF_12 cy (S := zalS S a) (zk_al Z a 12 N')).trans (by rw [show zN (zalZ Z a 12 N') a = N' from va_up_self _ _ _, show zQ (zalZ Z a 12 N') a = (fun _ => none) from va_up_self _ _ _]))
  exact kk a ha _ _ rfl rfl H1 locs ls (hp ▸ hP1) (hp ▸ hD1) hS1 hl
theorem zg_newq13 (C0 : zC p s m args meth c cc nL Ts own D cy A rt) {index : Nat} {n : Int32} {N' : Nat} (hdg : decode cc pc = .ok (.anewarray index, 3)) (hcl : Cond.classLink own index RX5 ∈ Ts) (hn : ¬ n < 0) (hN : n.toNatClampNeg = N') (hbytes : N' * 4 ≤ 536870912) {k j : Nat} (hro : cells + 1 = k ∧ slots + N' = j) (hro2 : k ≤ R.cells ∧ j ≤ R.slots) (hq : pc + 3 = q) (kk : ∀ a, a ∉ zL Z → ∀ Z' S', Z' = zalZ Z a 13 N' → S' = zalS S a → zG p l e R s m args below meth c D cy A nL k j Q Z' S' (q) lv (.ref a :: st)) : zG p l e R s m args below meth c D cy A nL cells slots Q Z S (pc) lv (.int n :: st) := by
  subst hq
  obtain ⟨e1, e2⟩ := hro
  subst e1
  subst e2
  intro H locs ls hP hD hS hl
  refine va_newq (D := D) (cl := vwCl) C0.1.1 C0.1.2.1 C0.1.2.2.2.1 (C0.1.2.2.2.2 _ hcl) C0.2.1.2.2.2.2.2.2.2.1 C0.2.1.1 hP hD hS C0.2.2.1 hn hN hbytes hro2.1 hro2.2 hdg (fun a cA H1 hK1 hP1 hD1 hS1 => ?_)
  have e0 : cA = cy 5 := by
    obtain ⟨kA, comp, -, -, -, h1⟩ := (hK1.2 6 (cA, .object RX5) rfl).2
    obtain ⟨kA2, comp2, -, -, -, h2⟩ := (hK1.2 5 (cy 5, .object RX5) rfl).2
    exact Option.some.inj (h1.symm.trans h2)
  subst e0
  have ha := zfresh hD1
  have hp := zpush (k := 13) (n := N') ha ((zF_13 cy (S := zalS S a) (zk_al Z a 13 N')).trans (by rw [show zN (zalZ Z a 13 N') a = N' from va_up_self _ _ _, show zQ (zalZ Z a 13 N') a = (fun _ => none) from va_up_self _ _ _]))
  exact kk a ha _ _ rfl rfl H1 locs ls (hp ▸ hP1) (hp ▸ hD1) hS1 hl
theorem zg_putfI (C0 : zC p s m args meth c cc nL Ts own D cy A rt) {a ci N k index : Nat} {Cn ref : String} {T : u_T} {fs : List Value} {v : Int32} {ty0 : Nat → FieldType} (hnm0 : meth.name = "<init>") (hdg : decode cc pc = .ok (.putfield index, 3)) (ha : zk Z a ci) (hF : zF cy Z S a = .inr (ci, fs)) (hc : vwCl[ci]? = some (Cn, T, N)) (hk : k < N) (hin : ∀ w ∈ u_ws Cn T N, w ∈ Ts) (hty : ∀ k, k < N → parseFieldDescriptor (T k).2.2.1 = some (ty0 k)) (hnm : ∀ a, a < N → ∀ b, b < N → a ≠ b → (T a).2.1 ≠ (T b).2.1) (hlink : Cond.fieldLink own index ref (T k).2.1 (T k).2.2.1 ∈ Ts) (href : (T k).1 = ref) (hfin : (T k).2.2.2 = true) (hown : (T k).1 = own) (hn : narrow (ty0 k) (.int v) = .int v) (hfit : fits (ty0 k) (.int v) = true) (hl2 : k < fs.length) (he : zF cy Z (zsI S a k v) a = .inr (ci, zfs Z (zsI S a k v) a ci)) (hP : zfs Z (zsI S a k v) a ci = fs.set k (.int v)) (hq : pc + 3 = q) (kk : ∀ S' : zS, S' = zsI S a k v → zG p l e R s m args below meth c D cy A nL cells slots Q Z S' (q) lv (st)) : zG p l e R s m args below meth c D cy A nL cells slots Q Z S (pc) lv (.int v :: .ref a :: st) :=
  zg_put (Z' := Z) (S' := zsI S a k v) C0 hdg ha hF hc hk hin hty hnm hlink href (Or.inr ⟨hfin, hnm0, hown⟩) hn hfit hl2 rfl (he.trans (by rw [hP])) (zF_offI cy Z S a k v) hq (kk _ rfl)
theorem zg_putfJ (C0 : zC p s m args meth c cc nL Ts own D cy A rt) {a ci N k index : Nat} {Cn ref : String} {T : u_T} {fs : List Value} {v : Int64} {ty0 : Nat → FieldType} (hnm0 : meth.name = "<init>") (hdg : decode cc pc = .ok (.putfield index, 3)) (ha : zk Z a ci) (hF : zF cy Z S a = .inr (ci, fs)) (hc : vwCl[ci]? = some (Cn, T, N)) (hk : k < N) (hin : ∀ w ∈ u_ws Cn T N, w ∈ Ts) (hty : ∀ k, k < N → parseFieldDescriptor (T k).2.2.1 = some (ty0 k)) (hnm : ∀ a, a < N → ∀ b, b < N → a ≠ b → (T a).2.1 ≠ (T b).2.1) (hlink : Cond.fieldLink own index ref (T k).2.1 (T k).2.2.1 ∈ Ts) (href : (T k).1 = ref) (hfin : (T k).2.2.2 = true) (hown : (T k).1 = own) (hn : narrow (ty0 k) (.long v) = .long v) (hfit : fits (ty0 k) (.long v) = true) (hl2 : k < fs.length) (he : zF cy Z (zsJ S a k v) a = .inr (ci, zfs Z (zsJ S a k v) a ci)) (hP : zfs Z (zsJ S a k v) a ci = fs.set k (.long v)) (hq : pc + 3 = q) (kk : ∀ S' : zS, S' = zsJ S a k v → zG p l e R s m args below meth c D cy A nL cells slots Q Z S' (q) lv (st)) : zG p l e R s m args below meth c D cy A nL cells slots Q Z S (pc) lv (.long v :: .ref a :: st) :=
  zg_put (Z' := Z) (S' := zsJ S a k v) C0 hdg ha hF hc hk hin hty hnm hlink href (Or.inr ⟨hfin, hnm0, hown⟩) hn hfit hl2 rfl (he.trans (by rw [hP])) (zF_offJ cy Z S a k v) hq (kk _ rfl)
theorem zg_putfQ (C0 : zC p s m args meth c cc nL Ts own D cy A rt) {a ci N k index : Nat} {Cn ref : String} {T : u_T} {fs : List Value} {v : Nat} {ty0 : Nat → FieldType} (hnm0 : meth.name = "<init>") (hdg : decode cc pc = .ok (.putfield index, 3)) (ha : zk Z a ci) (hF : zF cy Z S a = .inr (ci, fs)) (hc : vwCl[ci]? = some (Cn, T, N)) (hk : k < N) (hin : ∀ w ∈ u_ws Cn T N, w ∈ Ts) (hty : ∀ k, k < N → parseFieldDescriptor (T k).2.2.1 = some (ty0 k)) (hnm : ∀ a, a < N → ∀ b, b < N → a ≠ b → (T a).2.1 ≠ (T b).2.1) (hlink : Cond.fieldLink own index ref (T k).2.1 (T k).2.2.1 ∈ Ts) (href : (T k).1 = ref) (hfin : (T k).2.2.2 = true) (hown : (T k).1 = own) (hn : narrow (ty0 k) (.ref v) = .ref v) (hfit : fits (ty0 k) (.ref v) = true) (hl2 : k < fs.length) (he : zF cy (zsQ Z a k (some v)) S a = .inr (ci, zfs (zsQ Z a k (some v)) S a ci)) (hP : zfs (zsQ Z a k (some v)) S a ci = fs.set k (.ref v)) (hq : pc + 3 = q) (kk : ∀ Z' : zZ, Z' = zsQ Z a k (some v) → zG p l e R s m args below meth c D cy A nL cells slots Q Z' S (q) lv (st)) : zG p l e R s m args below meth c D cy A nL cells slots Q Z S (pc) lv (.ref v :: .ref a :: st) :=
  zg_put (Z' := zsQ Z a k (some v)) (S' := S) C0 hdg ha hF hc hk hin hty hnm hlink href (Or.inr ⟨hfin, hnm0, hown⟩) hn hfit hl2 rfl (he.trans (by rw [hP])) (zF_offQ cy Z S a k (some v)) hq (kk _ rfl)
theorem zg_makeI (C0 : zC p s m args meth c cc nL Ts own D cy A rt) {b : Nat} {index maxL k n : Nat} {y : MethodName} {bytes : ByteArray} {ws ws' : List Cond} {rm : Room} (As rest : List Value) {Qp : zZ → zS → Prop} (hdg : decode cc pc = .ok (.invokespecial index, 3)) (hM : ∀ sz, zMz l y ws rm D cy Z S sz (.ref b :: As) Qp) (hw : ws = Cond.code y bytes maxL none :: ws') (hG : GoodIn Ts ws) (hd : y.cls ≠ "java/lang/invoke/MethodHandle" ∧ y.cls ≠ "java/lang/invoke/VarHandle" ∧ (parseMethodDescriptor y.desc).map (fun d => d.parameters.length) = some As.length) (hini : Cond.initialized y.cls ∈ Ts) (hlk : Cond.methodLink own index y ∈ Ts) (hins : Cond.instanceMethod y ∈ Ts) (hyn : y.name = "<init>") (hst : st = As.reverse ++ .ref b :: rest) (hR : rm.frames + 1 ≤ R.frames ∧ 8 + (maxL + 11) + rm.locals ≤ R.locals) (hcat : (rest.map fun v => v.category).sum ≤ 8) (hroom : cells + rm.cells ≤ R.cells ∧ slots + rm.slots ≤ R.slots) (hk : cells + rm.cells = k ∧ slots + rm.slots = n) (hq : pc + 3 = q)
    (kk : ∀ Z' S', Qp Z' S' → zG p l e R s m args below meth c D cy A nL k n Q Z' S' (q) lv (rest)) : zG p l e R s m args below meth c D cy A nL cells slots Q Z S (pc) lv (st) := by
  subst hq
  obtain ⟨e1, e2⟩ := hk
  subst e1
  subst e2
  intro H locs ls hP hD hS hl
  have hA1 : ∀ q, zA cy Z S H.size q → A q := zA_sub C0.2.2.1 hD hS
  refine va_callv (va_runI (As := As) (rest := rest) C0.1 (hM H.size) (cwI As.length C0.1.2.2.2.2 hG hw rfl rfl (C0.1.2.2.2.2 _ hini) (C0.1.2.2.2.2 _ hlk) (C0.1.2.2.2.2 _ hins) hyn hd hR) ⟨zPc_blind, fun U hU hW => ⟨rfl, by rw [hU], by rw [hU]; exact hP, hD.weaken (fun _ _ _ _ => trivial), C0.2.1.call hS hA1 hU hW⟩⟩ rfl rfl hl.1 hst (lv_room hcat) hdg hroom) hS (fun q _ h => hA1 q h) hA1 (fun u t H1 locs1 ht hvm hw hB hz1 hk1 hS1 => ?_)
  subst ht
  exact kk u.1 u.2 hw _ locs1 ls hB.1 (hB.2.weaken (fun k x hk h => hA1 x.1 h)) hS1 hl
theorem zg_makeIN (C0 : zC p s m args meth c cc nL Ts own D cy A rt) {host : String} {b : Nat} {index maxL k n : Nat} {y : MethodName} {bytes : ByteArray} {ws ws' : List Cond} {rm : Room} (As rest : List Value) {Qp : zZ → zS → Prop} (hdg : decode cc pc = .ok (.invokespecial index, 3)) (hM : ∀ sz, zMz l y ws rm D cy Z S sz (.ref b :: As) Qp) (hw : ws = Cond.code y bytes maxL none :: ws') (hG : GoodIn Ts ws) (hd : y.cls ≠ "java/lang/invoke/MethodHandle" ∧ y.cls ≠ "java/lang/invoke/VarHandle" ∧ (parseMethodDescriptor y.desc).map (fun d => d.parameters.length) = some As.length) (hnest : Cond.methodLinkNest own index y host ∈ zBw) (hini : Cond.initialized y.cls ∈ Ts) (hins : Cond.instanceMethod y ∈ Ts) (hyn : y.name = "<init>") (hst : st = As.reverse ++ .ref b :: rest) (hR : rm.frames + 1 ≤ R.frames ∧ 8 + (maxL + 11) + rm.locals ≤ R.locals) (hcat : (rest.map fun v => v.category).sum ≤ 8) (hroom : cells + rm.cells ≤ R.cells ∧ slots + rm.slots ≤ R.slots) (hk : cells + rm.cells = k ∧ slots + rm.slots = n) (hq : pc + 3 = q)
    (kk : ∀ Z' S', Qp Z' S' → zG p l e R s m args below meth c D cy A nL k n Q Z' S' (q) lv (rest)) : zG p l e R s m args below meth c D cy A nL cells slots Q Z S (pc) lv (st) := by
  subst hq
  obtain ⟨e1, e2⟩ := hk
  subst e1
  subst e2
  intro H locs ls hP hD hS hl
  have hA1 : ∀ q, zA cy Z S H.size q → A q := zA_sub C0.2.2.1 hD hS
  refine va_callv (va_runIN (As := As) (rest := rest) C0.1 (hM H.size) (⟨va_cnB As.length C0.1.2.2.2.2 hG hw rfl rfl (C0.2.1.2.1 _ hnest) (C0.1.2.2.2.2 _ hini) hd hR, hyn, C0.1.2.2.2.2 _ hins⟩) ⟨zPc_blind, fun U hU hW => ⟨rfl, by rw [hU], by rw [hU]; exact hP, hD.weaken (fun _ _ _ _ => trivial), C0.2.1.call hS hA1 hU hW⟩⟩ rfl rfl hl.1 hst (lv_room hcat) hdg hroom) hS (fun q _ h => hA1 q h) hA1 (fun u t H1 locs1 ht hvm hw hB hz1 hk1 hS1 => ?_)
  subst ht
  exact kk u.1 u.2 hw _ locs1 ls hB.1 (hB.2.weaken (fun k x hk h => hA1 x.1 h)) hS1 hl
theorem zg_vretz (C0 : zC p s m args meth c cc nL Ts own D cy A rt) {mc ms : Nat} {Qp : zZ → zS → Prop} (hdg : decode cc pc = .ok (.return_, 1)) (hr : rt = none) (h1 : cells ≤ mc) (h2 : slots ≤ ms) (hQ : Qp Z S) : zG p l e R s m args below meth c D cy A nL cells slots (zQz below D cy A Qp args s mc ms) Z S (pc) lv [] := fun H locs ls hP hD hS hl => W.widen h1 h2 (W.vret C0.1.1 C0.1.2.1 (C0.2.2.2.1.trans hr) (fun t ht hW => ⟨⟨(Z, S), rfl, hQ, by rw [ht]; exact hP, hD⟩, hS.F ht⟩) hS.2.2 hdg C0.2.2.2.2)
theorem zgx_iretz (C0 : zC p s m args meth c cc nL Ts own D cy A rt) {mc ms : Nat} {v : Int32} {Z0 : zZ} {Qp : Int32 → zZ → zS → Prop} {Xp : String → zS → Prop} (hdg : decode cc pc = .ok (.ireturn, 1)) (hr : rt = some .int) (h1 : cells ≤ mc) (h2 : slots ≤ ms) (hQ : Qp v Z S) : zG p l e R s m args below meth c D cy A nL cells slots (zXz below D cy A Z0 Qp Xp args s mc ms) Z S (pc) lv [.int v] := fun H locs ls hP hD hS hl => W.widen h1 h2 (vx_ret (W.zret C0.1.1 C0.1.2.1 (C0.2.2.2.1.trans hr) rfl (fun t ht hW => ⟨⟨v, (Z, S), rfl, hQ, by rw [ht]; exact hP, hD⟩, hS.F ht⟩) hS.2.2 hdg C0.2.2.2.2))
theorem zg_objInit (C0 : zC p s m args meth c cc nL Ts own D cy A rt) {a index : Nat} (hdg : decode cc pc = .ok (.invokespecial index, 3)) (h1 : Cond.methodLink own index objectInit ∈ Ts) (h2 : Cond.instanceMethod objectInit ∈ Ts) (h3 : Cond.code objectInit ⟨#[0xb1]⟩ 1 none ∈ Ts) (hf : 1 ≤ R.frames) (hlo : 20 ≤ R.locals) (hst : st = [.ref a]) (hq : pc + 3 = q) (kk : zG p l e R s m args below meth c D cy A nL cells slots Q Z S (q) lv ([])) : zG p l e R s m args below meth c D cy A nL cells slots Q Z S (pc) lv (st) := by
  subst hq
  subst hst
  intro H locs ls hP hD hS hl
  refine W.objInit C0.1.1 C0.1.2.1 C0.1.2.2.2.1 (C0.1.2.2.2.2 _ h1) (C0.1.2.2.2.2 _ h2) (C0.1.2.2.2.2 _ h3) rfl (hl.1.trans C0.1.2.2.1.symm) rfl hdg hf (Nat.le_trans (Nat.le_of_ble_eq_true rfl) hlo) ?_
  exact kk H locs ls hP hD hS hl
/-- as Met.ofW, for a method whose class has natives beside it -/
theorem zofWF {y : MethodName} {ws ws' : List Cond} {rm : Room} {Pc : Array Value → State → Prop} {Qc : Array Value → State → Outcome → State → Prop} {mc ms : Nat} {free : Addr → Prop} {maxL : Nat} {ret : Option FieldType} (hy : plainFor y = true) (hw : ws = Cond.code y cc maxL ret :: ws')
    (body : ∀ (p : Program) (e : Env) (s : State) (m : MethodId) (args : Array Value) (below : List Frame) (meth : Method) (c : Code) (s₁ : State), BodyLoose p l y (headSpec ws rm) cc maxL ret e s m args below meth c s₁ → c.maxLocals = maxL → Pc args s → W p l e (headSpec ws rm).room s m args below meth c s.heap [] 0 0 (MQ below Qc args s mc ms free) (entryFrame m args maxL)) : Met l y ws rm Pc Qc mc ms free := by
  have hin : Cond.code y cc maxL ret ∈ ws := by
    rw [hw]
    exact List.mem_cons_self
  refine MetFree.of_bodySF (code := cc) (maxLocals := maxL) (ret := ret) hy (fun args s m h hn => ?_) (fun p e s m args below meth c s₁ B hml hP _ => ?_)
  · obtain ⟨meth, c, h1, h2, h3, h4, h5, h6, -, -⟩ := Cond.code_spec hn (atoms_spec (ws := ws) h _ hin)
    exact ⟨meth, c, h1, h2, h3, h4, h5, h6⟩
  · have hh0 : s₁.heap = s.heap := by
      rw [B.state]
      rfl
    obtain ⟨t, a1, o, b1, b2, b3⟩ := body p e s m args below meth c s₁ B hml hP s₁ hh0 (Stand.of_body B)
    exact ⟨t, o, a1, b1, b2, b3⟩
theorem zMi_ofF {y : MethodName} {ws ws' : List Cond} {rm : Room} {sz maxL : Nat} {av : List Value} {Qp : Int32 → zS → Prop} (hy : plainFor y = true) (hw : ws = Cond.code y cc maxL rt :: ws') (hlen : (lg_sl av).length ≤ maxL)
    (body : ∀ (p : Program) (e : Env) (s : State) (m : MethodId) (args : Array Value) (below : List Frame) (meth : Method) (c : Code) (A : Nat → Prop), zC p s m args meth c cc maxL ws y.cls D cy A rt → meth.name = y.name → zG p l e (headSpec ws rm).room s m args below meth c D cy A maxL 0 0 (zQi below D cy A Z Qp args s rm.cells rm.slots) Z S 0 (lv_args 0 av) []) : zMi l y ws rm D cy Z S sz av Qp := by
  refine zofWF (cc := cc) (maxL := maxL) (ret := rt) hy hw ?_
  intro p e s m args below meth c s₁ B hml hv
  obtain ⟨rfl, hsz, hP, hD0, hV⟩ := hv
  subst hsz
  have hts := atoms_spec (ws := ws) B.pre
  have hown : s.vm.findClass y.cls = some m.cls := findClass_of_methodNamed B.named
  have hl := lv_entry av (n := maxL) hlen
  rw [lg_entry_eq]
  exact body p e s m av.toArray below meth c (zA cy Z S s.heap.size) ⟨⟨B.exec, B.bytes, hml, hown, hts⟩, hV, fun q h => Or.inr h, B.returns, B.notSynchronized⟩ (name_of_methodNamed B.named B.method).1 s.heap [] _ hP hD0.self va_S.rf hl
theorem zg_tabIn (C0 : zC p s m args meth c cc nL Ts own D cy A rt) {dflt lo hi : Int} {offs : Array Int} {len : Nat} {x v : Int32} {off : Int} {tgt : Nat} (hdg : decode cc pc = .ok (.tableswitch dflt lo hi offs, len)) (hx : x = v) (h1 : ¬ v.toInt < lo) (h2 : ¬ hi < v.toInt) (ho : offs[(v.toInt - lo).toNat]? = some off) (ht : (pc : Int) + off = (tgt : Int)) (kk : zG p l e R s m args below meth c D cy A nL cells slots Q Z S (tgt) lv (st)) : zG p l e R s m args below meth c D cy A nL cells slots Q Z S (pc) lv (.int x :: st) := by
  subst hx
  exact fun H locs ls hP hD hS hl => lv_tableIn C0.1.1 C0.1.2.1 hdg h1 h2 ho ht (kk H locs ls hP hD hS hl)
theorem zg_tabOut (C0 : zC p s m args meth c cc nL Ts own D cy A rt) {dflt lo hi : Int} {offs : Array Int} {len : Nat} {x : Int32} {tgt : Nat} (hdg : decode cc pc = .ok (.tableswitch dflt lo hi offs, len)) (h : x.toInt < lo ∨ hi < x.toInt) (ht : (pc : Int) + dflt = (tgt : Int)) (kk : zG p l e R s m args below meth c D cy A nL cells slots Q Z S (tgt) lv (st)) : zG p l e R s m args below meth c D cy A nL cells slots Q Z S (pc) lv (.int x :: st) := fun H locs ls hP hD hS hl => lv_tableOut C0.1.1 C0.1.2.1 hdg h ht (kk H locs ls hP hD hS hl)
end ZX
theorem zk_old' {Z Z' : zZ} {a k n b j : Nat} (e : Z' = zalZ Z a k n) (h : zk Z b j) (ha : a ∉ zL Z) : zk Z' b j := e ▸ zk_old h ha
theorem zk_al' {Z Z' : zZ} {a k n : Nat} (e : Z' = zalZ Z a k n) : zk Z' a k := e ▸ zk_al Z a k n
theorem zk_sQ {Z : zZ} {a j b k : Nat} {v : Option Nat} (h : zk Z b k) : zk (zsQ Z a j v) b k := h
theorem zk_sQ' {Z Z' : zZ} {a j b k : Nat} {v : Option Nat} (e : Z' = zsQ Z a j v) (h : zk Z b k) : zk Z' b k := e ▸ zk_sQ h
theorem zneT {x k : Int32} {a : Int} (h : ¬ x = k) (hk : k.toInt = a) : ¬ x.toInt = a := fun q => h (Int32.toInt_inj.mp (by rw [hk]; exact q))
theorem zx2_68 : ∀ w ∈ (vx_atS RX6 68 "java/lang/IllegalStateException" ["java/lang/RuntimeException", "java/lang/Exception"]).filter (fun w => !goodWord w), w ∈ zBw := by decide +kernel
theorem zxg_68 : ∀ w ∈ Cond.classLink RX6 64 "java/lang/IllegalStateException" :: Cond.initialized "java/lang/IllegalStateException" :: vx_atS RX6 68 "java/lang/IllegalStateException" ["java/lang/RuntimeException", "java/lang/Exception"], vx_ot w = true := by decide +kernel
theorem zx2_223 : ∀ w ∈ (vx_atS RX6 223 "java/lang/IndexOutOfBoundsException" ["java/lang/RuntimeException", "java/lang/Exception"]).filter (fun w => !goodWord w), w ∈ zBw := by decide +kernel
theorem zxg_223 : ∀ w ∈ Cond.classLink RX6 219 "java/lang/IndexOutOfBoundsException" :: Cond.initialized "java/lang/IndexOutOfBoundsException" :: vx_atS RX6 223 "java/lang/IndexOutOfBoundsException" ["java/lang/RuntimeException", "java/lang/Exception"], vx_ot w = true := by decide +kernel
theorem zx2_160 : ∀ w ∈ (vx_atS RX6 160 "java/lang/IllegalArgumentException" ["java/lang/RuntimeException", "java/lang/Exception"]).filter (fun w => !goodWord w), w ∈ zBw := by decide +kernel
theorem zxg_160 : ∀ w ∈ Cond.classLink RX6 156 "java/lang/IllegalArgumentException" :: Cond.initialized "java/lang/IllegalArgumentException" :: vx_atS RX6 160 "java/lang/IllegalArgumentException" ["java/lang/RuntimeException", "java/lang/Exception"], vx_ot w = true := by decide +kernel
end
section
/-! the law's own methods: they call and catch -/
section ZL
variable {p : Program} {l : Launch} {e : Env} {R : Room} {s : State} {m : MethodId} {args : Array Value} {below : List Frame} {meth : Method} {c : Code} {D : va_G} {cy : Nat → ClassId} {A : Nat → Prop} {nL cells slots : Nat} {Q : State → Prop} {Z : zZ} {S : zS} {pc q : Nat} {lv lv' : List (Nat × Value)} {st : List Value} {cc : ByteArray} {Ts : List Cond} {own : String} {rt : Option FieldType}
theorem zNi_ofH {y : MethodName} {ws ws' : List Cond} {rm : Room} {sz maxL : Nat} {av : List Value} {hh : List (Nat × Nat × Nat × Nat)} {Qp : Int32 → zS → Prop} (hy : plainName y.cls = true) (hw : ws = Cond.codeWith y cc maxL rt hh :: ws') (hlen : (lg_sl av).length ≤ maxL)
    (body : ∀ (p : Program) (e : Env) (s : State) (m : MethodId) (args : Array Value) (below : List Frame) (meth : Method) (c : Code) (A : Nat → Prop), zC p s m args meth c cc maxL ws y.cls D cy A rt → c.exceptionTable.toList = tableOf hh → zG p l e (headSpec ws rm).room s m args below meth c D cy A maxL 0 0 (zXi below D cy A Z Qp (fun _ _ => False) args s rm.cells rm.slots) Z S 0 (lv_args 0 av) []) : zNi l y ws rm D cy Z S sz av Qp (fun _ _ => False) := by
  refine vx_ofWH (cc := cc) (maxL := maxL) (ret := rt) hy hw ?_
  intro p e s m args below meth c s₁ B hml hv
  obtain ⟨rfl, hsz, hP, hD0, hV⟩ := hv
  subst hsz
  have hts := atoms_spec (ws := ws) B.pre
  have hH := vx_table (x := y) B (hts (Cond.codeWith y cc maxL rt hh) (by rw [hw]; exact List.mem_cons_self))
  have hown : s.vm.findClass y.cls = some m.cls := findClass_of_methodNamed B.named
  have hl := lv_entry av (n := maxL) hlen
  rw [lg_entry_eq]
  exact body p e s m av.toArray below meth c (zA cy Z S s.heap.size) ⟨⟨B.exec, B.bytes, hml, hown, hts⟩, hV, fun q h => Or.inr h, B.returns, B.notSynchronized⟩ hH s.heap [] _ hP hD0.self va_S.rf hl
theorem zNz_ofH {y : MethodName} {ws ws' : List Cond} {rm : Room} {sz maxL : Nat} {av : List Value} {hh : List (Nat × Nat × Nat × Nat)} {Qp : Int32 → zZ → zS → Prop} (hy : plainName y.cls = true) (hw : ws = Cond.codeWith y cc maxL rt hh :: ws') (hlen : (lg_sl av).length ≤ maxL)
    (body : ∀ (p : Program) (e : Env) (s : State) (m : MethodId) (args : Array Value) (below : List Frame) (meth : Method) (c : Code) (A : Nat → Prop), zC p s m args meth c cc maxL ws y.cls D cy A rt → c.exceptionTable.toList = tableOf hh → zG p l e (headSpec ws rm).room s m args below meth c D cy A maxL 0 0 (zXz below D cy A Z Qp (fun _ _ => False) args s rm.cells rm.slots) Z S 0 (lv_args 0 av) []) : zNz l y ws rm D cy Z S sz av Qp (fun _ _ => False) := by
  refine vx_ofWH (cc := cc) (maxL := maxL) (ret := rt) hy hw ?_
  intro p e s m args below meth c s₁ B hml hv
  obtain ⟨rfl, hsz, hP, hD0, hV⟩ := hv
  subst hsz
  have hts := atoms_spec (ws := ws) B.pre
  have hH := vx_table (x := y) B (hts (Cond.codeWith y cc maxL rt hh) (by rw [hw]; exact List.mem_cons_self))
  have hown : s.vm.findClass y.cls = some m.cls := findClass_of_methodNamed B.named
  have hl := lv_entry av (n := maxL) hlen
  rw [lg_entry_eq]
  exact body p e s m av.toArray below meth c (zA cy Z S s.heap.size) ⟨⟨B.exec, B.bytes, hml, hown, hts⟩, hV, fun q h => Or.inr h, B.returns, B.notSynchronized⟩ hH s.heap [] _ hP hD0.self va_S.rf hl
theorem zgc_call1v (C0 : zC p s m args meth c cc nL Ts own D cy A rt) {Cn : String} {T : u_T} {N ci : Nat} {fs : List Value} {b : Nat} {ret : Option FieldType} {index maxL k n a1 b1 h1 i1 : Nat} {y : MethodName} {bytes : ByteArray} {ws ws' : List Cond} {rm : Room} (As rest : List Value) {Qp : zS → Prop} {Xq : String → zS → Prop} (hH : c.exceptionTable.toList = tableOf [(a1, b1, h1, i1)]) (hcov1 : covers ({ startPc := a1, endPc := b1, handlerPc := h1, catchType := i1 } : ExceptionTableEntry) pc = true) (hi1 : i1 ≠ 0) (hk1' : Cond.classLink own i1 "java/lang/IndexOutOfBoundsException" ∈ Ts) (hcast1 : Cond.castable "java/lang/IndexOutOfBoundsException" "java/lang/IndexOutOfBoundsException" ∈ zBw) (hdg : decode cc pc = .ok (.invokevirtual index, 3)) (hM : ∀ sz, zNv l y ws rm D cy Z S sz (.ref b :: As) Qp Xq) (hw : ws = Cond.code y bytes maxL ret :: ws') (hG : GoodIn Ts (wsV own index Cn y ws)) (hd : y.cls = Cn ∧ y.cls ≠ "java/lang/invoke/MethodHandle" ∧ y.cls ≠ "java/lang/invoke/VarHandle" ∧ (parseMethodDescriptor y.desc).map (fun d => d.parameters.length) = some As.length) (hb : zk Z b ci) (hF : zF cy Z S b = .inr (ci, fs)) (hc : vwCl[ci]? = some (Cn, T, N)) (hst : st = As.reverse ++ .ref b :: rest) (hR : rm.frames + 1 ≤ R.frames ∧ 8 + (maxL + 11) + rm.locals ≤ R.locals) (hcat : (rest.map fun v => v.category).sum ≤ 8) (hroom : cells + rm.cells ≤ R.cells ∧ slots + rm.slots ≤ R.slots) (hk : cells + rm.cells = k ∧ slots + rm.slots = n) (hq : pc + 3 = q)
    (kx : ∀ E τ, Xq E τ → E = "java/lang/IndexOutOfBoundsException" ∧ ∀ x, zG p l e R s m args below meth c D cy A nL k n Q Z τ (h1) lv ([.ref x])) (kk : ∀ τ, Qp τ → zG p l e R s m args below meth c D cy A nL k n Q Z τ (q) lv (rest)) : zG p l e R s m args below meth c D cy A nL cells slots Q Z S (pc) lv (st) := by
  subst hq
  obtain ⟨e1, e2⟩ := hk
  subst e1
  subst e2
  intro H locs ls hP hD hS hl
  obtain ⟨j, hj⟩ := zget hb.1 hF
  have hA1 : ∀ q, zA cy Z S H.size q → A q := zA_sub C0.2.2.1 hD hS
  refine vx_callv (vx_runV (As := As) (rest := rest) C0.1 (hM H.size) (cwV As.length C0.1.2.2.2.2 hG hw rfl rfl hd hR) ⟨zPc_blind, va_recv C0.2.1.1 hP hc hj, fun U hU hW => ⟨rfl, by rw [hU], by rw [hU]; exact hP, hD.weaken (fun _ _ _ _ => trivial), C0.2.1.call hS hA1 hU hW⟩⟩ rfl rfl hl.1 hst (lv_room hcat) hdg hroom) hS (fun q _ h => hA1 q h) hA1 (fun q _ h => hA1 q h) (fun E ce q9 u t H1 locs1 ht hvm _ hXB hz1 hk1 hS1 h9 hv9 hc9 => ?_) (fun u t H1 locs1 ht hvm hw hB hz1 hk1 hS1 => ?_)
  · subst ht
    obtain ⟨hX, hB⟩ := hXB
    obtain ⟨rfl, hg⟩ := kx E u hX
    exact vx_catch (name := "java/lang/IndexOutOfBoundsException") C0.1.2.2.2.1 [] ({ startPc := a1, endPc := b1, handlerPc := h1, catchType := i1 } : ExceptionTableEntry) [] (hH.trans rfl) (fun z hz => absurd hz List.not_mem_nil) hcov1 hi1 (C0.1.2.2.2.2 _ hk1') (va_Nw.use (zBw_on _ hcast1) (C0.2.1.2.1 _ hcast1)) h9 hv9 hc9 (hg q9 _ locs1 ls hB.1 (hB.2.weaken (fun k x hk h => hA1 x.1 h)) hS1 hl)
  · subst ht
    exact kk u hw _ locs1 ls hB.1 (hB.2.weaken (fun k x hk h => hA1 x.1 h)) hS1 hl
theorem zgc_call2v (C0 : zC p s m args meth c cc nL Ts own D cy A rt) {Cn : String} {T : u_T} {N ci : Nat} {fs : List Value} {b : Nat} {ret : Option FieldType} {index maxL k n a1 b1 h1 i1 h2 i2 : Nat} {n2 : String} {y : MethodName} {bytes : ByteArray} {ws ws' : List Cond} {rm : Room} (As rest : List Value) {Qp : zS → Prop} {Xq : String → zS → Prop} (hH : c.exceptionTable.toList = tableOf [(a1, b1, h1, i1), (a1, b1, h2, i2)]) (hcov1 : covers ({ startPc := a1, endPc := b1, handlerPc := h1, catchType := i1 } : ExceptionTableEntry) pc = true) (hcov2 : covers ({ startPc := a1, endPc := b1, handlerPc := h2, catchType := i2 } : ExceptionTableEntry) pc = true) (hi1 : i1 ≠ 0) (hk1' : Cond.classLink own i1 "java/lang/IndexOutOfBoundsException" ∈ Ts) (hcast1 : Cond.castable "java/lang/IndexOutOfBoundsException" "java/lang/IndexOutOfBoundsException" ∈ zBw) (hi2 : i2 ≠ 0) (hk2 : Cond.classLink own i2 n2 ∈ Ts) (hcast2 : Cond.castable n2 n2 ∈ zBw) (hnc : va_Nc n2 "java/lang/IndexOutOfBoundsException" s) (hdg : decode cc pc = .ok (.invokevirtual index, 3)) (hM : ∀ sz, zNv l y ws rm D cy Z S sz (.ref b :: As) Qp Xq) (hw : ws = Cond.code y bytes maxL ret :: ws') (hG : GoodIn Ts (wsV own index Cn y ws)) (hd : y.cls = Cn ∧ y.cls ≠ "java/lang/invoke/MethodHandle" ∧ y.cls ≠ "java/lang/invoke/VarHandle" ∧ (parseMethodDescriptor y.desc).map (fun d => d.parameters.length) = some As.length) (hb : zk Z b ci) (hF : zF cy Z S b = .inr (ci, fs)) (hc : vwCl[ci]? = some (Cn, T, N)) (hst : st = As.reverse ++ .ref b :: rest) (hR : rm.frames + 1 ≤ R.frames ∧ 8 + (maxL + 11) + rm.locals ≤ R.locals) (hcat : (rest.map fun v => v.category).sum ≤ 8) (hroom : cells + rm.cells ≤ R.cells ∧ slots + rm.slots ≤ R.slots) (hk : cells + rm.cells = k ∧ slots + rm.slots = n) (hq : pc + 3 = q)
    (kx : ∀ E τ, Xq E τ → (E = "java/lang/IndexOutOfBoundsException" ∧ ∀ x, zG p l e R s m args below meth c D cy A nL k n Q Z τ (h1) lv ([.ref x])) ∨ (E = n2 ∧ ∀ x, zG p l e R s m args below meth c D cy A nL k n Q Z τ (h2) lv ([.ref x]))) (kk : ∀ τ, Qp τ → zG p l e R s m args below meth c D cy A nL k n Q Z τ (q) lv (rest)) : zG p l e R s m args below meth c D cy A nL cells slots Q Z S (pc) lv (st) := by
  subst hq
  obtain ⟨e1, e2⟩ := hk
  subst e1
  subst e2
  intro H locs ls hP hD hS hl
  obtain ⟨j, hj⟩ := zget hb.1 hF
  have hA1 : ∀ q, zA cy Z S H.size q → A q := zA_sub C0.2.2.1 hD hS
  refine vx_callv (vx_runV (As := As) (rest := rest) C0.1 (hM H.size) (cwV As.length C0.1.2.2.2.2 hG hw rfl rfl hd hR) ⟨zPc_blind, va_recv C0.2.1.1 hP hc hj, fun U hU hW => ⟨rfl, by rw [hU], by rw [hU]; exact hP, hD.weaken (fun _ _ _ _ => trivial), C0.2.1.call hS hA1 hU hW⟩⟩ rfl rfl hl.1 hst (lv_room hcat) hdg hroom) hS (fun q _ h => hA1 q h) hA1 (fun q _ h => hA1 q h) (fun E ce q9 u t H1 locs1 ht hvm _ hXB hz1 hk1 hS1 h9 hv9 hc9 => ?_) (fun u t H1 locs1 ht hvm hw hB hz1 hk1 hS1 => ?_)
  · subst ht
    obtain ⟨hX, hB⟩ := hXB
    rcases kx E u hX with ⟨rfl, hg⟩ | ⟨rfl, hg⟩
    · exact vx_catch (name := "java/lang/IndexOutOfBoundsException") C0.1.2.2.2.1 [] ({ startPc := a1, endPc := b1, handlerPc := h1, catchType := i1 } : ExceptionTableEntry) [({ startPc := a1, endPc := b1, handlerPc := h2, catchType := i2 } : ExceptionTableEntry)] (hH.trans rfl) (fun z hz => absurd hz List.not_mem_nil) hcov1 hi1 (C0.1.2.2.2.2 _ hk1') (va_Nw.use (zBw_on _ hcast1) (C0.2.1.2.1 _ hcast1)) h9 hv9 hc9 (hg q9 _ locs1 ls hB.1 (hB.2.weaken (fun k x hk h => hA1 x.1 h)) hS1 hl)
    · exact vx_catch (name := _) C0.1.2.2.2.1 [({ startPc := a1, endPc := b1, handlerPc := h1, catchType := i1 } : ExceptionTableEntry)] ({ startPc := a1, endPc := b1, handlerPc := h2, catchType := i2 } : ExceptionTableEntry) [] (hH.trans rfl) (fun z hz => by
        rw [List.mem_singleton.mp hz]
        exact Or.inr ⟨hi1, "java/lang/IndexOutOfBoundsException", C0.1.2.2.2.2 _ hk1', hnc⟩) hcov2 hi2 (C0.1.2.2.2.2 _ hk2) (va_Nw.use (zBw_on _ hcast2) (C0.2.1.2.1 _ hcast2)) h9 hv9 hc9 (hg q9 _ locs1 ls hB.1 (hB.2.weaken (fun k x hk h => hA1 x.1 h)) hS1 hl)
  · subst ht
    exact kk u hw _ locs1 ls hB.1 (hB.2.weaken (fun k x hk h => hA1 x.1 h)) hS1 hl
theorem zgc_call1i (C0 : zC p s m args meth c cc nL Ts own D cy A rt) {Cn : String} {T : u_T} {N ci : Nat} {fs : List Value} {b : Nat} {ret : Option FieldType} {index maxL k n a1 b1 h1 i1 : Nat} {y : MethodName} {bytes : ByteArray} {ws ws' : List Cond} {rm : Room} (As rest : List Value) {Qp : Int32 → zS → Prop} {Xq : String → zS → Prop} (hH : c.exceptionTable.toList = tableOf [(a1, b1, h1, i1)]) (hcov1 : covers ({ startPc := a1, endPc := b1, handlerPc := h1, catchType := i1 } : ExceptionTableEntry) pc = true) (hi1 : i1 ≠ 0) (hk1' : Cond.classLink own i1 "java/lang/IndexOutOfBoundsException" ∈ Ts) (hcast1 : Cond.castable "java/lang/IndexOutOfBoundsException" "java/lang/IndexOutOfBoundsException" ∈ zBw) (hdg : decode cc pc = .ok (.invokevirtual index, 3)) (hM : ∀ sz, zNi l y ws rm D cy Z S sz (.ref b :: As) Qp Xq) (hw : ws = Cond.code y bytes maxL ret :: ws') (hG : GoodIn Ts (wsV own index Cn y ws)) (hd : y.cls = Cn ∧ y.cls ≠ "java/lang/invoke/MethodHandle" ∧ y.cls ≠ "java/lang/invoke/VarHandle" ∧ (parseMethodDescriptor y.desc).map (fun d => d.parameters.length) = some As.length) (hb : zk Z b ci) (hF : zF cy Z S b = .inr (ci, fs)) (hc : vwCl[ci]? = some (Cn, T, N)) (hst : st = As.reverse ++ .ref b :: rest) (hR : rm.frames + 1 ≤ R.frames ∧ 8 + (maxL + 11) + rm.locals ≤ R.locals) (hcat : (rest.map fun v => v.category).sum ≤ 8) (hroom : cells + rm.cells ≤ R.cells ∧ slots + rm.slots ≤ R.slots) (hk : cells + rm.cells = k ∧ slots + rm.slots = n) (hq : pc + 3 = q)
    (kx : ∀ E τ, Xq E τ → E = "java/lang/IndexOutOfBoundsException" ∧ ∀ x, zG p l e R s m args below meth c D cy A nL k n Q Z τ (h1) lv ([.ref x])) (kk : ∀ r τ, Qp r τ → zG p l e R s m args below meth c D cy A nL k n Q Z τ (q) lv (.int r :: rest)) : zG p l e R s m args below meth c D cy A nL cells slots Q Z S (pc) lv (st) := by
  subst hq
  obtain ⟨e1, e2⟩ := hk
  subst e1
  subst e2
  intro H locs ls hP hD hS hl
  obtain ⟨j, hj⟩ := zget hb.1 hF
  have hA1 : ∀ q, zA cy Z S H.size q → A q := zA_sub C0.2.2.1 hD hS
  refine vx_calli (vx_runV (As := As) (rest := rest) C0.1 (hM H.size) (cwV As.length C0.1.2.2.2.2 hG hw rfl rfl hd hR) ⟨zPc_blind, va_recv C0.2.1.1 hP hc hj, fun U hU hW => ⟨rfl, by rw [hU], by rw [hU]; exact hP, hD.weaken (fun _ _ _ _ => trivial), C0.2.1.call hS hA1 hU hW⟩⟩ rfl rfl hl.1 hst (lv_room hcat) hdg hroom) hS (fun q _ h => hA1 q h) hA1 (fun q _ h => hA1 q h) (fun E ce q9 u t H1 locs1 ht hvm _ hXB hz1 hk1 hS1 h9 hv9 hc9 => ?_) (fun r u t H1 locs1 ht hvm hw hB hz1 hk1 hS1 => ?_)
  · subst ht
    obtain ⟨hX, hB⟩ := hXB
    obtain ⟨rfl, hg⟩ := kx E u hX
    exact vx_catch (name := "java/lang/IndexOutOfBoundsException") C0.1.2.2.2.1 [] ({ startPc := a1, endPc := b1, handlerPc := h1, catchType := i1 } : ExceptionTableEntry) [] (hH.trans rfl) (fun z hz => absurd hz List.not_mem_nil) hcov1 hi1 (C0.1.2.2.2.2 _ hk1') (va_Nw.use (zBw_on _ hcast1) (C0.2.1.2.1 _ hcast1)) h9 hv9 hc9 (hg q9 _ locs1 ls hB.1 (hB.2.weaken (fun k x hk h => hA1 x.1 h)) hS1 hl)
  · subst ht
    exact kk r u hw _ locs1 ls hB.1 (hB.2.weaken (fun k x hk h => hA1 x.1 h)) hS1 hl
theorem zgc_call2i (C0 : zC p s m args meth c cc nL Ts own D cy A rt) {Cn : String} {T : u_T} {N ci : Nat} {fs : List Value} {b : Nat} {ret : Option FieldType} {index maxL k n a1 b1 h1 i1 h2 i2 : Nat} {n2 : String} {y : MethodName} {bytes : ByteArray} {ws ws' : List Cond} {rm : Room} (As rest : List Value) {Qp : Int32 → zS → Prop} {Xq : String → zS → Prop} (hH : c.exceptionTable.toList = tableOf [(a1, b1, h1, i1), (a1, b1, h2, i2)]) (hcov1 : covers ({ startPc := a1, endPc := b1, handlerPc := h1, catchType := i1 } : ExceptionTableEntry) pc = true) (hcov2 : covers ({ startPc := a1, endPc := b1, handlerPc := h2, catchType := i2 } : ExceptionTableEntry) pc = true) (hi1 : i1 ≠ 0) (hk1' : Cond.classLink own i1 "java/lang/IndexOutOfBoundsException" ∈ Ts) (hcast1 : Cond.castable "java/lang/IndexOutOfBoundsException" "java/lang/IndexOutOfBoundsException" ∈ zBw) (hi2 : i2 ≠ 0) (hk2 : Cond.classLink own i2 n2 ∈ Ts) (hcast2 : Cond.castable n2 n2 ∈ zBw) (hnc : va_Nc n2 "java/lang/IndexOutOfBoundsException" s) (hdg : decode cc pc = .ok (.invokevirtual index, 3)) (hM : ∀ sz, zNi l y ws rm D cy Z S sz (.ref b :: As) Qp Xq) (hw : ws = Cond.code y bytes maxL ret :: ws') (hG : GoodIn Ts (wsV own index Cn y ws)) (hd : y.cls = Cn ∧ y.cls ≠ "java/lang/invoke/MethodHandle" ∧ y.cls ≠ "java/lang/invoke/VarHandle" ∧ (parseMethodDescriptor y.desc).map (fun d => d.parameters.length) = some As.length) (hb : zk Z b ci) (hF : zF cy Z S b = .inr (ci, fs)) (hc : vwCl[ci]? = some (Cn, T, N)) (hst : st = As.reverse ++ .ref b :: rest) (hR : rm.frames + 1 ≤ R.frames ∧ 8 + (maxL + 11) + rm.locals ≤ R.locals) (hcat : (rest.map fun v => v.category).sum ≤ 8) (hroom : cells + rm.cells ≤ R.cells ∧ slots + rm.slots ≤ R.slots) (hk : cells + rm.cells = k ∧ slots + rm.slots = n) (hq : pc + 3 = q)
    (kx : ∀ E τ, Xq E τ → (E = "java/lang/IndexOutOfBoundsException" ∧ ∀ x, zG p l e R s m args below meth c D cy A nL k n Q Z τ (h1) lv ([.ref x])) ∨ (E = n2 ∧ ∀ x, zG p l e R s m args below meth c D cy A nL k n Q Z τ (h2) lv ([.ref x]))) (kk : ∀ r τ, Qp r τ → zG p l e R s m args below meth c D cy A nL k n Q Z τ (q) lv (.int r :: rest)) : zG p l e R s m args below meth c D cy A nL cells slots Q Z S (pc) lv (st) := by
  subst hq
  obtain ⟨e1, e2⟩ := hk
  subst e1
  subst e2
  intro H locs ls hP hD hS hl
  obtain ⟨j, hj⟩ := zget hb.1 hF
  have hA1 : ∀ q, zA cy Z S H.size q → A q := zA_sub C0.2.2.1 hD hS
  refine vx_calli (vx_runV (As := As) (rest := rest) C0.1 (hM H.size) (cwV As.length C0.1.2.2.2.2 hG hw rfl rfl hd hR) ⟨zPc_blind, va_recv C0.2.1.1 hP hc hj, fun U hU hW => ⟨rfl, by rw [hU], by rw [hU]; exact hP, hD.weaken (fun _ _ _ _ => trivial), C0.2.1.call hS hA1 hU hW⟩⟩ rfl rfl hl.1 hst (lv_room hcat) hdg hroom) hS (fun q _ h => hA1 q h) hA1 (fun q _ h => hA1 q h) (fun E ce q9 u t H1 locs1 ht hvm _ hXB hz1 hk1 hS1 h9 hv9 hc9 => ?_) (fun r u t H1 locs1 ht hvm hw hB hz1 hk1 hS1 => ?_)
  · subst ht
    obtain ⟨hX, hB⟩ := hXB
    rcases kx E u hX with ⟨rfl, hg⟩ | ⟨rfl, hg⟩
    · exact vx_catch (name := "java/lang/IndexOutOfBoundsException") C0.1.2.2.2.1 [] ({ startPc := a1, endPc := b1, handlerPc := h1, catchType := i1 } : ExceptionTableEntry) [({ startPc := a1, endPc := b1, handlerPc := h2, catchType := i2 } : ExceptionTableEntry)] (hH.trans rfl) (fun z hz => absurd hz List.not_mem_nil) hcov1 hi1 (C0.1.2.2.2.2 _ hk1') (va_Nw.use (zBw_on _ hcast1) (C0.2.1.2.1 _ hcast1)) h9 hv9 hc9 (hg q9 _ locs1 ls hB.1 (hB.2.weaken (fun k x hk h => hA1 x.1 h)) hS1 hl)
    · exact vx_catch (name := _) C0.1.2.2.2.1 [({ startPc := a1, endPc := b1, handlerPc := h1, catchType := i1 } : ExceptionTableEntry)] ({ startPc := a1, endPc := b1, handlerPc := h2, catchType := i2 } : ExceptionTableEntry) [] (hH.trans rfl) (fun z hz => by
        rw [List.mem_singleton.mp hz]
        exact Or.inr ⟨hi1, "java/lang/IndexOutOfBoundsException", C0.1.2.2.2.2 _ hk1', hnc⟩) hcov2 hi2 (C0.1.2.2.2.2 _ hk2) (va_Nw.use (zBw_on _ hcast2) (C0.2.1.2.1 _ hcast2)) h9 hv9 hc9 (hg q9 _ locs1 ls hB.1 (hB.2.weaken (fun k x hk h => hA1 x.1 h)) hS1 hl)
  · subst ht
    exact kk r u hw _ locs1 ls hB.1 (hB.2.weaken (fun k x hk h => hA1 x.1 h)) hS1 hl
theorem zgc_call1l (C0 : zC p s m args meth c cc nL Ts own D cy A rt) {Cn : String} {T : u_T} {N ci : Nat} {fs : List Value} {b : Nat} {ret : Option FieldType} {index maxL k n a1 b1 h1 i1 : Nat} {y : MethodName} {bytes : ByteArray} {ws ws' : List Cond} {rm : Room} (As rest : List Value) {Qp : Int64 → zS → Prop} {Xq : String → zS → Prop} (hH : c.exceptionTable.toList = tableOf [(a1, b1, h1, i1)]) (hcov1 : covers ({ startPc := a1, endPc := b1, handlerPc := h1, catchType := i1 } : ExceptionTableEntry) pc = true) (hi1 : i1 ≠ 0) (hk1' : Cond.classLink own i1 "java/lang/IndexOutOfBoundsException" ∈ Ts) (hcast1 : Cond.castable "java/lang/IndexOutOfBoundsException" "java/lang/IndexOutOfBoundsException" ∈ zBw) (hdg : decode cc pc = .ok (.invokevirtual index, 3)) (hM : ∀ sz, zNl l y ws rm D cy Z S sz (.ref b :: As) Qp Xq) (hw : ws = Cond.code y bytes maxL ret :: ws') (hG : GoodIn Ts (wsV own index Cn y ws)) (hd : y.cls = Cn ∧ y.cls ≠ "java/lang/invoke/MethodHandle" ∧ y.cls ≠ "java/lang/invoke/VarHandle" ∧ (parseMethodDescriptor y.desc).map (fun d => d.parameters.length) = some As.length) (hb : zk Z b ci) (hF : zF cy Z S b = .inr (ci, fs)) (hc : vwCl[ci]? = some (Cn, T, N)) (hst : st = As.reverse ++ .ref b :: rest) (hR : rm.frames + 1 ≤ R.frames ∧ 8 + (maxL + 11) + rm.locals ≤ R.locals) (hcat : (rest.map fun v => v.category).sum ≤ 8) (hroom : cells + rm.cells ≤ R.cells ∧ slots + rm.slots ≤ R.slots) (hk : cells + rm.cells = k ∧ slots + rm.slots = n) (hq : pc + 3 = q)
    (kx : ∀ E τ, Xq E τ → E = "java/lang/IndexOutOfBoundsException" ∧ ∀ x, zG p l e R s m args below meth c D cy A nL k n Q Z τ (h1) lv ([.ref x])) (kk : ∀ r τ, Qp r τ → zG p l e R s m args below meth c D cy A nL k n Q Z τ (q) lv (.long r :: rest)) : zG p l e R s m args below meth c D cy A nL cells slots Q Z S (pc) lv (st) := by
  subst hq
  obtain ⟨e1, e2⟩ := hk
  subst e1
  subst e2
  intro H locs ls hP hD hS hl
  obtain ⟨j, hj⟩ := zget hb.1 hF
  have hA1 : ∀ q, zA cy Z S H.size q → A q := zA_sub C0.2.2.1 hD hS
  refine vx_calll (vx_runV (As := As) (rest := rest) C0.1 (hM H.size) (cwV As.length C0.1.2.2.2.2 hG hw rfl rfl hd hR) ⟨zPc_blind, va_recv C0.2.1.1 hP hc hj, fun U hU hW => ⟨rfl, by rw [hU], by rw [hU]; exact hP, hD.weaken (fun _ _ _ _ => trivial), C0.2.1.call hS hA1 hU hW⟩⟩ rfl rfl hl.1 hst (lv_room hcat) hdg hroom) hS (fun q _ h => hA1 q h) hA1 (fun q _ h => hA1 q h) (fun E ce q9 u t H1 locs1 ht hvm _ hXB hz1 hk1 hS1 h9 hv9 hc9 => ?_) (fun r u t H1 locs1 ht hvm hw hB hz1 hk1 hS1 => ?_)
  · subst ht
    obtain ⟨hX, hB⟩ := hXB
    obtain ⟨rfl, hg⟩ := kx E u hX
    exact vx_catch (name := "java/lang/IndexOutOfBoundsException") C0.1.2.2.2.1 [] ({ startPc := a1, endPc := b1, handlerPc := h1, catchType := i1 } : ExceptionTableEntry) [] (hH.trans rfl) (fun z hz => absurd hz List.not_mem_nil) hcov1 hi1 (C0.1.2.2.2.2 _ hk1') (va_Nw.use (zBw_on _ hcast1) (C0.2.1.2.1 _ hcast1)) h9 hv9 hc9 (hg q9 _ locs1 ls hB.1 (hB.2.weaken (fun k x hk h => hA1 x.1 h)) hS1 hl)
  · subst ht
    exact kk r u hw _ locs1 ls hB.1 (hB.2.weaken (fun k x hk h => hA1 x.1 h)) hS1 hl
theorem zgc_call2l (C0 : zC p s m args meth c cc nL Ts own D cy A rt) {Cn : String} {T : u_T} {N ci : Nat} {fs : List Value} {b : Nat} {ret : Option FieldType} {index maxL k n a1 b1 h1 i1 h2 i2 : Nat} {n2 : String} {y : MethodName} {bytes : ByteArray} {ws ws' : List Cond} {rm : Room} (As rest : List Value) {Qp : Int64 → zS → Prop} {Xq : String → zS → Prop} (hH : c.exceptionTable.toList = tableOf [(a1, b1, h1, i1), (a1, b1, h2, i2)]) (hcov1 : covers ({ startPc := a1, endPc := b1, handlerPc := h1, catchType := i1 } : ExceptionTableEntry) pc = true) (hcov2 : covers ({ startPc := a1, endPc := b1, handlerPc := h2, catchType := i2 } : ExceptionTableEntry) pc = true) (hi1 : i1 ≠ 0) (hk1' : Cond.classLink own i1 "java/lang/IndexOutOfBoundsException" ∈ Ts) (hcast1 : Cond.castable "java/lang/IndexOutOfBoundsException" "java/lang/IndexOutOfBoundsException" ∈ zBw) (hi2 : i2 ≠ 0) (hk2 : Cond.classLink own i2 n2 ∈ Ts) (hcast2 : Cond.castable n2 n2 ∈ zBw) (hnc : va_Nc n2 "java/lang/IndexOutOfBoundsException" s) (hdg : decode cc pc = .ok (.invokevirtual index, 3)) (hM : ∀ sz, zNl l y ws rm D cy Z S sz (.ref b :: As) Qp Xq) (hw : ws = Cond.code y bytes maxL ret :: ws') (hG : GoodIn Ts (wsV own index Cn y ws)) (hd : y.cls = Cn ∧ y.cls ≠ "java/lang/invoke/MethodHandle" ∧ y.cls ≠ "java/lang/invoke/VarHandle" ∧ (parseMethodDescriptor y.desc).map (fun d => d.parameters.length) = some As.length) (hb : zk Z b ci) (hF : zF cy Z S b = .inr (ci, fs)) (hc : vwCl[ci]? = some (Cn, T, N)) (hst : st = As.reverse ++ .ref b :: rest) (hR : rm.frames + 1 ≤ R.frames ∧ 8 + (maxL + 11) + rm.locals ≤ R.locals) (hcat : (rest.map fun v => v.category).sum ≤ 8) (hroom : cells + rm.cells ≤ R.cells ∧ slots + rm.slots ≤ R.slots) (hk : cells + rm.cells = k ∧ slots + rm.slots = n) (hq : pc + 3 = q)
    (kx : ∀ E τ, Xq E τ → (E = "java/lang/IndexOutOfBoundsException" ∧ ∀ x, zG p l e R s m args below meth c D cy A nL k n Q Z τ (h1) lv ([.ref x])) ∨ (E = n2 ∧ ∀ x, zG p l e R s m args below meth c D cy A nL k n Q Z τ (h2) lv ([.ref x]))) (kk : ∀ r τ, Qp r τ → zG p l e R s m args below meth c D cy A nL k n Q Z τ (q) lv (.long r :: rest)) : zG p l e R s m args below meth c D cy A nL cells slots Q Z S (pc) lv (st) := by
  subst hq
  obtain ⟨e1, e2⟩ := hk
  subst e1
  subst e2
  intro H locs ls hP hD hS hl
  obtain ⟨j, hj⟩ := zget hb.1 hF
  have hA1 : ∀ q, zA cy Z S H.size q → A q := zA_sub C0.2.2.1 hD hS
  refine vx_calll (vx_runV (As := As) (rest := rest) C0.1 (hM H.size) (cwV As.length C0.1.2.2.2.2 hG hw rfl rfl hd hR) ⟨zPc_blind, va_recv C0.2.1.1 hP hc hj, fun U hU hW => ⟨rfl, by rw [hU], by rw [hU]; exact hP, hD.weaken (fun _ _ _ _ => trivial), C0.2.1.call hS hA1 hU hW⟩⟩ rfl rfl hl.1 hst (lv_room hcat) hdg hroom) hS (fun q _ h => hA1 q h) hA1 (fun q _ h => hA1 q h) (fun E ce q9 u t H1 locs1 ht hvm _ hXB hz1 hk1 hS1 h9 hv9 hc9 => ?_) (fun r u t H1 locs1 ht hvm hw hB hz1 hk1 hS1 => ?_)
  · subst ht
    obtain ⟨hX, hB⟩ := hXB
    rcases kx E u hX with ⟨rfl, hg⟩ | ⟨rfl, hg⟩
    · exact vx_catch (name := "java/lang/IndexOutOfBoundsException") C0.1.2.2.2.1 [] ({ startPc := a1, endPc := b1, handlerPc := h1, catchType := i1 } : ExceptionTableEntry) [({ startPc := a1, endPc := b1, handlerPc := h2, catchType := i2 } : ExceptionTableEntry)] (hH.trans rfl) (fun z hz => absurd hz List.not_mem_nil) hcov1 hi1 (C0.1.2.2.2.2 _ hk1') (va_Nw.use (zBw_on _ hcast1) (C0.2.1.2.1 _ hcast1)) h9 hv9 hc9 (hg q9 _ locs1 ls hB.1 (hB.2.weaken (fun k x hk h => hA1 x.1 h)) hS1 hl)
    · exact vx_catch (name := _) C0.1.2.2.2.1 [({ startPc := a1, endPc := b1, handlerPc := h1, catchType := i1 } : ExceptionTableEntry)] ({ startPc := a1, endPc := b1, handlerPc := h2, catchType := i2 } : ExceptionTableEntry) [] (hH.trans rfl) (fun z hz => by
        rw [List.mem_singleton.mp hz]
        exact Or.inr ⟨hi1, "java/lang/IndexOutOfBoundsException", C0.1.2.2.2.2 _ hk1', hnc⟩) hcov2 hi2 (C0.1.2.2.2.2 _ hk2) (va_Nw.use (zBw_on _ hcast2) (C0.2.1.2.1 _ hcast2)) h9 hv9 hc9 (hg q9 _ locs1 ls hB.1 (hB.2.weaken (fun k x hk h => hA1 x.1 h)) hS1 hl)
  · subst ht
    exact kk r u hw _ locs1 ls hB.1 (hB.2.weaken (fun k x hk h => hA1 x.1 h)) hS1 hl
theorem zgc_call1z (C0 : zC p s m args meth c cc nL Ts own D cy A rt) {Cn : String} {T : u_T} {N ci : Nat} {fs : List Value} {b : Nat} {ret : Option FieldType} {index maxL k n a1 b1 h1 i1 : Nat} {y : MethodName} {bytes : ByteArray} {ws ws' : List Cond} {rm : Room} (As rest : List Value) {Qp : Int32 → zZ → zS → Prop} {Xq : String → zS → Prop} (hH : c.exceptionTable.toList = tableOf [(a1, b1, h1, i1)]) (hcov1 : covers ({ startPc := a1, endPc := b1, handlerPc := h1, catchType := i1 } : ExceptionTableEntry) pc = true) (hi1 : i1 ≠ 0) (hk1' : Cond.classLink own i1 "java/lang/IndexOutOfBoundsException" ∈ Ts) (hcast1 : Cond.castable "java/lang/IndexOutOfBoundsException" "java/lang/IndexOutOfBoundsException" ∈ zBw) (hdg : decode cc pc = .ok (.invokevirtual index, 3)) (hM : ∀ sz, zNz l y ws rm D cy Z S sz (.ref b :: As) Qp Xq) (hw : ws = Cond.code y bytes maxL ret :: ws') (hG : GoodIn Ts (wsV own index Cn y ws)) (hd : y.cls = Cn ∧ y.cls ≠ "java/lang/invoke/MethodHandle" ∧ y.cls ≠ "java/lang/invoke/VarHandle" ∧ (parseMethodDescriptor y.desc).map (fun d => d.parameters.length) = some As.length) (hb : zk Z b ci) (hF : zF cy Z S b = .inr (ci, fs)) (hc : vwCl[ci]? = some (Cn, T, N)) (hst : st = As.reverse ++ .ref b :: rest) (hR : rm.frames + 1 ≤ R.frames ∧ 8 + (maxL + 11) + rm.locals ≤ R.locals) (hcat : (rest.map fun v => v.category).sum ≤ 8) (hroom : cells + rm.cells ≤ R.cells ∧ slots + rm.slots ≤ R.slots) (hk : cells + rm.cells = k ∧ slots + rm.slots = n) (hq : pc + 3 = q)
    (kx : ∀ E τ, Xq E τ → E = "java/lang/IndexOutOfBoundsException" ∧ ∀ x, zG p l e R s m args below meth c D cy A nL k n Q Z τ (h1) lv ([.ref x])) (kk : ∀ r Zt τ, Qp r Zt τ → zG p l e R s m args below meth c D cy A nL k n Q Zt τ (q) lv (.int r :: rest)) : zG p l e R s m args below meth c D cy A nL cells slots Q Z S (pc) lv (st) := by
  subst hq
  obtain ⟨e1, e2⟩ := hk
  subst e1
  subst e2
  intro H locs ls hP hD hS hl
  obtain ⟨j, hj⟩ := zget hb.1 hF
  have hA1 : ∀ q, zA cy Z S H.size q → A q := zA_sub C0.2.2.1 hD hS
  refine vx_calli (vx_runV (As := As) (rest := rest) C0.1 (hM H.size) (cwV As.length C0.1.2.2.2.2 hG hw rfl rfl hd hR) ⟨zPc_blind, va_recv C0.2.1.1 hP hc hj, fun U hU hW => ⟨rfl, by rw [hU], by rw [hU]; exact hP, hD.weaken (fun _ _ _ _ => trivial), C0.2.1.call hS hA1 hU hW⟩⟩ rfl rfl hl.1 hst (lv_room hcat) hdg hroom) hS (fun q _ h => hA1 q h) hA1 (fun q _ h => hA1 q h) (fun E ce q9 u t H1 locs1 ht hvm _ hXB hz1 hk1 hS1 h9 hv9 hc9 => ?_) (fun r u t H1 locs1 ht hvm hw hB hz1 hk1 hS1 => ?_)
  · subst ht
    obtain ⟨hX, hB⟩ := hXB
    obtain ⟨rfl, hg⟩ := kx E u hX
    exact vx_catch (name := "java/lang/IndexOutOfBoundsException") C0.1.2.2.2.1 [] ({ startPc := a1, endPc := b1, handlerPc := h1, catchType := i1 } : ExceptionTableEntry) [] (hH.trans rfl) (fun z hz => absurd hz List.not_mem_nil) hcov1 hi1 (C0.1.2.2.2.2 _ hk1') (va_Nw.use (zBw_on _ hcast1) (C0.2.1.2.1 _ hcast1)) h9 hv9 hc9 (hg q9 _ locs1 ls hB.1 (hB.2.weaken (fun k x hk h => hA1 x.1 h)) hS1 hl)
  · subst ht
    exact kk r u.1 u.2 hw _ locs1 ls hB.1 (hB.2.weaken (fun k x hk h => hA1 x.1 h)) hS1 hl
theorem zgc_call2z (C0 : zC p s m args meth c cc nL Ts own D cy A rt) {Cn : String} {T : u_T} {N ci : Nat} {fs : List Value} {b : Nat} {ret : Option FieldType} {index maxL k n a1 b1 h1 i1 h2 i2 : Nat} {n2 : String} {y : MethodName} {bytes : ByteArray} {ws ws' : List Cond} {rm : Room} (As rest : List Value) {Qp : Int32 → zZ → zS → Prop} {Xq : String → zS → Prop} (hH : c.exceptionTable.toList = tableOf [(a1, b1, h1, i1), (a1, b1, h2, i2)]) (hcov1 : covers ({ startPc := a1, endPc := b1, handlerPc := h1, catchType := i1 } : ExceptionTableEntry) pc = true) (hcov2 : covers ({ startPc := a1, endPc := b1, handlerPc := h2, catchType := i2 } : ExceptionTableEntry) pc = true) (hi1 : i1 ≠ 0) (hk1' : Cond.classLink own i1 "java/lang/IndexOutOfBoundsException" ∈ Ts) (hcast1 : Cond.castable "java/lang/IndexOutOfBoundsException" "java/lang/IndexOutOfBoundsException" ∈ zBw) (hi2 : i2 ≠ 0) (hk2 : Cond.classLink own i2 n2 ∈ Ts) (hcast2 : Cond.castable n2 n2 ∈ zBw) (hnc : va_Nc n2 "java/lang/IndexOutOfBoundsException" s) (hdg : decode cc pc = .ok (.invokevirtual index, 3)) (hM : ∀ sz, zNz l y ws rm D cy Z S sz (.ref b :: As) Qp Xq) (hw : ws = Cond.code y bytes maxL ret :: ws') (hG : GoodIn Ts (wsV own index Cn y ws)) (hd : y.cls = Cn ∧ y.cls ≠ "java/lang/invoke/MethodHandle" ∧ y.cls ≠ "java/lang/invoke/VarHandle" ∧ (parseMethodDescriptor y.desc).map (fun d => d.parameters.length) = some As.length) (hb : zk Z b ci) (hF : zF cy Z S b = .inr (ci, fs)) (hc : vwCl[ci]? = some (Cn, T, N)) (hst : st = As.reverse ++ .ref b :: rest) (hR : rm.frames + 1 ≤ R.frames ∧ 8 + (maxL + 11) + rm.locals ≤ R.locals) (hcat : (rest.map fun v => v.category).sum ≤ 8) (hroom : cells + rm.cells ≤ R.cells ∧ slots + rm.slots ≤ R.slots) (hk : cells + rm.cells = k ∧ slots + rm.slots = n) (hq : pc + 3 = q)
    (kx : ∀ E τ, Xq E τ → (E = "java/lang/IndexOutOfBoundsException" ∧ ∀ x, zG p l e R s m args below meth c D cy A nL k n Q Z τ (h1) lv ([.ref x])) ∨ (E = n2 ∧ ∀ x, zG p l e R s m args below meth c D cy A nL k n Q Z τ (h2) lv ([.ref x]))) (kk : ∀ r Zt τ, Qp r Zt τ → zG p l e R s m args below meth c D cy A nL k n Q Zt τ (q) lv (.int r :: rest)) : zG p l e R s m args below meth c D cy A nL cells slots Q Z S (pc) lv (st) := by
  subst hq
  obtain ⟨e1, e2⟩ := hk
  subst e1
  subst e2
  intro H locs ls hP hD hS hl
  obtain ⟨j, hj⟩ := zget hb.1 hF
  have hA1 : ∀ q, zA cy Z S H.size q → A q := zA_sub C0.2.2.1 hD hS
  refine vx_calli (vx_runV (As := As) (rest := rest) C0.1 (hM H.size) (cwV As.length C0.1.2.2.2.2 hG hw rfl rfl hd hR) ⟨zPc_blind, va_recv C0.2.1.1 hP hc hj, fun U hU hW => ⟨rfl, by rw [hU], by rw [hU]; exact hP, hD.weaken (fun _ _ _ _ => trivial), C0.2.1.call hS hA1 hU hW⟩⟩ rfl rfl hl.1 hst (lv_room hcat) hdg hroom) hS (fun q _ h => hA1 q h) hA1 (fun q _ h => hA1 q h) (fun E ce q9 u t H1 locs1 ht hvm _ hXB hz1 hk1 hS1 h9 hv9 hc9 => ?_) (fun r u t H1 locs1 ht hvm hw hB hz1 hk1 hS1 => ?_)
  · subst ht
    obtain ⟨hX, hB⟩ := hXB
    rcases kx E u hX with ⟨rfl, hg⟩ | ⟨rfl, hg⟩
    · exact vx_catch (name := "java/lang/IndexOutOfBoundsException") C0.1.2.2.2.1 [] ({ startPc := a1, endPc := b1, handlerPc := h1, catchType := i1 } : ExceptionTableEntry) [({ startPc := a1, endPc := b1, handlerPc := h2, catchType := i2 } : ExceptionTableEntry)] (hH.trans rfl) (fun z hz => absurd hz List.not_mem_nil) hcov1 hi1 (C0.1.2.2.2.2 _ hk1') (va_Nw.use (zBw_on _ hcast1) (C0.2.1.2.1 _ hcast1)) h9 hv9 hc9 (hg q9 _ locs1 ls hB.1 (hB.2.weaken (fun k x hk h => hA1 x.1 h)) hS1 hl)
    · exact vx_catch (name := _) C0.1.2.2.2.1 [({ startPc := a1, endPc := b1, handlerPc := h1, catchType := i1 } : ExceptionTableEntry)] ({ startPc := a1, endPc := b1, handlerPc := h2, catchType := i2 } : ExceptionTableEntry) [] (hH.trans rfl) (fun z hz => by
        rw [List.mem_singleton.mp hz]
        exact Or.inr ⟨hi1, "java/lang/IndexOutOfBoundsException", C0.1.2.2.2.2 _ hk1', hnc⟩) hcov2 hi2 (C0.1.2.2.2.2 _ hk2) (va_Nw.use (zBw_on _ hcast2) (C0.2.1.2.1 _ hcast2)) h9 hv9 hc9 (hg q9 _ locs1 ls hB.1 (hB.2.weaken (fun k x hk h => hA1 x.1 h)) hS1 hl)
  · subst ht
    exact kk r u.1 u.2 hw _ locs1 ls hB.1 (hB.2.weaken (fun k x hk h => hA1 x.1 h)) hS1 hl
theorem zgl_calli (C0 : zC p s m args meth c cc nL Ts own D cy A rt) {ret : Option FieldType} {index maxL k n : Nat} {hh : List (Nat × Nat × Nat × Nat)} {y : MethodName} {bytes : ByteArray} {ws ws' : List Cond} {rm : Room} (As rest : List Value) {Qp : Int32 → zS → Prop} (hdg : decode cc pc = .ok (.invokestatic index, 3)) (hM : ∀ sz, zNi l y ws rm D cy Z S sz As Qp (fun _ _ => False)) (hw : ws = Cond.codeWith y bytes maxL ret hh :: ws') (hG : GoodIn Ts ws) (hlk : Cond.methodLink own index y ∈ Ts) (hsta : Cond.static y ∈ Ts) (hini : Cond.initialized y.cls ∈ Ts) (hd : y.cls ≠ "java/lang/invoke/MethodHandle" ∧ y.cls ≠ "java/lang/invoke/VarHandle" ∧ (parseMethodDescriptor y.desc).map (fun d => d.parameters.length) = some As.length) (hst : st = As.reverse ++ rest) (hR : rm.frames + 1 ≤ R.frames ∧ 8 + (maxL + 11) + rm.locals ≤ R.locals) (hcat : (rest.map fun v => v.category).sum ≤ 8) (hroom : cells + rm.cells ≤ R.cells ∧ slots + rm.slots ≤ R.slots) (hk : cells + rm.cells = k ∧ slots + rm.slots = n) (hq : pc + 3 = q)
    (kk : ∀ r τ, Qp r τ → zG p l e R s m args below meth c D cy A nL k n Q Z τ (q) lv (.int r :: rest)) : zG p l e R s m args below meth c D cy A nL cells slots Q Z S (pc) lv (st) := by
  subst hq
  obtain ⟨e1, e2⟩ := hk
  subst e1
  subst e2
  intro H locs ls hP hD hS hl
  have hA1 : ∀ q, zA cy Z S H.size q → A q := zA_sub C0.2.2.1 hD hS
  have hcw : Cond.codeWith y bytes maxL ret hh ∈ ws := by
    rw [hw]
    exact List.mem_cons_self
  refine vx_calli (vx_runSX (As := As) (rest := rest) C0.1 (hM H.size) ⟨⟨rfl, rfl, hR.1, hR.2, pay_in C0.1.2.2.2.2 hG, hcw⟩, C0.1.2.2.2.2 _ (hG _ hcw).1, C0.1.2.2.2.2 _ hini, ⟨hd.1, hd.2.1⟩, (fun sig h => by
      have h2 := hd.2.2
      rw [h] at h2
      exact (Option.some.inj h2).symm), C0.1.2.2.2.2 _ hlk, C0.1.2.2.2.2 _ hsta⟩ ⟨zPc_blind, fun U hU hW => ⟨rfl, by rw [hU], by rw [hU]; exact hP, hD.weaken (fun _ _ _ _ => trivial), C0.2.1.call hS hA1 hU hW⟩⟩ rfl rfl hl.1 hst (lv_room hcat) hdg hroom) hS (fun q _ h => hA1 q h) hA1 (fun q _ h => hA1 q h) (fun E ce q9 u t H1 locs1 ht hvm _ hXB hz1 hk1 hS1 h9 hv9 hc9 => hXB.1.elim) (fun r u t H1 locs1 ht hvm hw hB hz1 hk1 hS1 => ?_)
  subst ht
  exact kk r u hw _ locs1 ls hB.1 (hB.2.weaken (fun k x hk h => hA1 x.1 h)) hS1 hl
theorem zgl_callz (C0 : zC p s m args meth c cc nL Ts own D cy A rt) {ret : Option FieldType} {index maxL k n : Nat} {hh : List (Nat × Nat × Nat × Nat)} {y : MethodName} {bytes : ByteArray} {ws ws' : List Cond} {rm : Room} (As rest : List Value) {Qp : Int32 → zZ → zS → Prop} (hdg : decode cc pc = .ok (.invokestatic index, 3)) (hM : ∀ sz, zNz l y ws rm D cy Z S sz As Qp (fun _ _ => False)) (hw : ws = Cond.codeWith y bytes maxL ret hh :: ws') (hG : GoodIn Ts ws) (hlk : Cond.methodLink own index y ∈ Ts) (hsta : Cond.static y ∈ Ts) (hini : Cond.initialized y.cls ∈ Ts) (hd : y.cls ≠ "java/lang/invoke/MethodHandle" ∧ y.cls ≠ "java/lang/invoke/VarHandle" ∧ (parseMethodDescriptor y.desc).map (fun d => d.parameters.length) = some As.length) (hst : st = As.reverse ++ rest) (hR : rm.frames + 1 ≤ R.frames ∧ 8 + (maxL + 11) + rm.locals ≤ R.locals) (hcat : (rest.map fun v => v.category).sum ≤ 8) (hroom : cells + rm.cells ≤ R.cells ∧ slots + rm.slots ≤ R.slots) (hk : cells + rm.cells = k ∧ slots + rm.slots = n) (hq : pc + 3 = q)
    (kk : ∀ r Zt τ, Qp r Zt τ → zG p l e R s m args below meth c D cy A nL k n Q Zt τ (q) lv (.int r :: rest)) : zG p l e R s m args below meth c D cy A nL cells slots Q Z S (pc) lv (st) := by
  subst hq
  obtain ⟨e1, e2⟩ := hk
  subst e1
  subst e2
  intro H locs ls hP hD hS hl
  have hA1 : ∀ q, zA cy Z S H.size q → A q := zA_sub C0.2.2.1 hD hS
  have hcw : Cond.codeWith y bytes maxL ret hh ∈ ws := by
    rw [hw]
    exact List.mem_cons_self
  refine vx_calli (vx_runSX (As := As) (rest := rest) C0.1 (hM H.size) ⟨⟨rfl, rfl, hR.1, hR.2, pay_in C0.1.2.2.2.2 hG, hcw⟩, C0.1.2.2.2.2 _ (hG _ hcw).1, C0.1.2.2.2.2 _ hini, ⟨hd.1, hd.2.1⟩, (fun sig h => by
      have h2 := hd.2.2
      rw [h] at h2
      exact (Option.some.inj h2).symm), C0.1.2.2.2.2 _ hlk, C0.1.2.2.2.2 _ hsta⟩ ⟨zPc_blind, fun U hU hW => ⟨rfl, by rw [hU], by rw [hU]; exact hP, hD.weaken (fun _ _ _ _ => trivial), C0.2.1.call hS hA1 hU hW⟩⟩ rfl rfl hl.1 hst (lv_room hcat) hdg hroom) hS (fun q _ h => hA1 q h) hA1 (fun q _ h => hA1 q h) (fun E ce q9 u t H1 locs1 ht hvm _ hXB hz1 hk1 hS1 h9 hv9 hc9 => hXB.1.elim) (fun r u t H1 locs1 ht hvm hw hB hz1 hk1 hS1 => ?_)
  subst ht
  exact kk r u.1 u.2 hw _ locs1 ls hB.1 (hB.2.weaken (fun k x hk h => hA1 x.1 h)) hS1 hl
end ZL
end
