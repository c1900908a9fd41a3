section
-- ===== PART A: goes FIRST, ahead of the names: the tables' words, and 'selects' of the private methods out of them =====
/-- a private method of a class that the tables say can be made, by its rows of tables_1 -/
def lw_okq (q : MethodName × Nat) : Prop := (q.1.cls ≠ "java/lang/invoke/MethodHandle" ∧ q.1.cls ≠ "java/lang/invoke/VarHandle") ∧ Cond.instantiable q.1.cls q.2 ∈ tables_1 ∧ Cond.privateMethod q.1 ∈ tables_1 ∧ Cond.instanceMethod q.1 ∈ tables_1
theorem lw_p0 : lw_okq (⟨"RingGroup", "nodeAt", "(I)LRingGroup$Node;"⟩, 4) := ⟨⟨by decide +kernel, by decide +kernel⟩, List.mem_of_getElem? (i := 18) (by decide +kernel), List.mem_of_getElem? (i := 215) (by decide +kernel), List.mem_of_getElem? (i := 216) (by decide +kernel)⟩
theorem lw_p1 : lw_okq (⟨"java/lang/Throwable", "fillInStackTrace", "(I)Ljava/lang/Throwable;"⟩, 6) := ⟨⟨by decide +kernel, by decide +kernel⟩, List.mem_of_getElem? (i := 257) (by decide +kernel), List.mem_of_getElem? (i := 255) (by decide +kernel), List.mem_of_getElem? (i := 256) (by decide +kernel)⟩
theorem lw_p2 : lw_okq (⟨"RingGroup", "receiversOf", "(LRingGroup$Node;)I"⟩, 4) := ⟨⟨by decide +kernel, by decide +kernel⟩, List.mem_of_getElem? (i := 18) (by decide +kernel), List.mem_of_getElem? (i := 348) (by decide +kernel), List.mem_of_getElem? (i := 349) (by decide +kernel)⟩
theorem lw_p3 : lw_okq (⟨"RingGroup", "sendRequested", "(LRingGroup$Node;I)V"⟩, 4) := ⟨⟨by decide +kernel, by decide +kernel⟩, List.mem_of_getElem? (i := 18) (by decide +kernel), List.mem_of_getElem? (i := 355) (by decide +kernel), List.mem_of_getElem? (i := 356) (by decide +kernel)⟩
theorem lw_p4 : lw_okq (⟨"RingGroup", "giveTo", "(IILRingGroup$Message;)V"⟩, 4) := ⟨⟨by decide +kernel, by decide +kernel⟩, List.mem_of_getElem? (i := 18) (by decide +kernel), List.mem_of_getElem? (i := 359) (by decide +kernel), List.mem_of_getElem? (i := 360) (by decide +kernel)⟩
theorem lw_p5 : lw_okq (⟨"RingGroup", "sendPending", "(LRingGroup$Node;I)V"⟩, 4) := ⟨⟨by decide +kernel, by decide +kernel⟩, List.mem_of_getElem? (i := 18) (by decide +kernel), List.mem_of_getElem? (i := 374) (by decide +kernel), List.mem_of_getElem? (i := 375) (by decide +kernel)⟩
theorem lw_p6 : lw_okq (⟨"RingGroup", "handOn", "(LRingGroup$Node;)V"⟩, 4) := ⟨⟨by decide +kernel, by decide +kernel⟩, List.mem_of_getElem? (i := 18) (by decide +kernel), List.mem_of_getElem? (i := 415) (by decide +kernel), List.mem_of_getElem? (i := 416) (by decide +kernel)⟩
theorem lw_p7 : lw_okq (⟨"RingGroup", "upInGroup", "(I)I"⟩, 4) := ⟨⟨by decide +kernel, by decide +kernel⟩, List.mem_of_getElem? (i := 18) (by decide +kernel), List.mem_of_getElem? (i := 431) (by decide +kernel), List.mem_of_getElem? (i := 432) (by decide +kernel)⟩
theorem lw_p8 : lw_okq (⟨"RingGroup", "isWhole", "(LRingGroup$Ring;I)Z"⟩, 4) := ⟨⟨by decide +kernel, by decide +kernel⟩, List.mem_of_getElem? (i := 18) (by decide +kernel), List.mem_of_getElem? (i := 435) (by decide +kernel), List.mem_of_getElem? (i := 436) (by decide +kernel)⟩
theorem lw_p9 : lw_okq (⟨"RingGroup", "ofRing", "(LRingGroup$Ring;I)I"⟩, 4) := ⟨⟨by decide +kernel, by decide +kernel⟩, List.mem_of_getElem? (i := 18) (by decide +kernel), List.mem_of_getElem? (i := 439) (by decide +kernel), List.mem_of_getElem? (i := 440) (by decide +kernel)⟩
theorem lw_p10 : lw_okq (⟨"RingGroup", "foremost", "(LRingGroup$Node;I)LRingGroup$Node;"⟩, 4) := ⟨⟨by decide +kernel, by decide +kernel⟩, List.mem_of_getElem? (i := 18) (by decide +kernel), List.mem_of_getElem? (i := 443) (by decide +kernel), List.mem_of_getElem? (i := 444) (by decide +kernel)⟩
theorem lw_p11 : lw_okq (⟨"RingGroup", "endOldRings", "(I)V"⟩, 4) := ⟨⟨by decide +kernel, by decide +kernel⟩, List.mem_of_getElem? (i := 18) (by decide +kernel), List.mem_of_getElem? (i := 463) (by decide +kernel), List.mem_of_getElem? (i := 464) (by decide +kernel)⟩
theorem lw_p12 : lw_okq (⟨"RingGroup", "endRing", "(I)V"⟩, 4) := ⟨⟨by decide +kernel, by decide +kernel⟩, List.mem_of_getElem? (i := 18) (by decide +kernel), List.mem_of_getElem? (i := 467) (by decide +kernel), List.mem_of_getElem? (i := 468) (by decide +kernel)⟩
theorem lw_p13 : lw_okq (⟨"RingGroup", "shareAll", "(I)V"⟩, 4) := ⟨⟨by decide +kernel, by decide +kernel⟩, List.mem_of_getElem? (i := 18) (by decide +kernel), List.mem_of_getElem? (i := 471) (by decide +kernel), List.mem_of_getElem? (i := 472) (by decide +kernel)⟩
theorem lw_p14 : lw_okq (⟨"RingGroup", "bringTablesUpToDate", "(LRingGroup$Node;I)V"⟩, 4) := ⟨⟨by decide +kernel, by decide +kernel⟩, List.mem_of_getElem? (i := 18) (by decide +kernel), List.mem_of_getElem? (i := 481) (by decide +kernel), List.mem_of_getElem? (i := 482) (by decide +kernel)⟩
theorem lw_p15 : lw_okq (⟨"RingGroup", "keptByOne", "(III)LRingGroup$Message;"⟩, 4) := ⟨⟨by decide +kernel, by decide +kernel⟩, List.mem_of_getElem? (i := 18) (by decide +kernel), List.mem_of_getElem? (i := 485) (by decide +kernel), List.mem_of_getElem? (i := 486) (by decide +kernel)⟩
def lw_privs_1 : List (MethodName × Nat) := [(⟨"RingGroup", "nodeAt", "(I)LRingGroup$Node;"⟩, 4), (⟨"java/lang/Throwable", "fillInStackTrace", "(I)Ljava/lang/Throwable;"⟩, 6), (⟨"RingGroup", "receiversOf", "(LRingGroup$Node;)I"⟩, 4), (⟨"RingGroup", "sendRequested", "(LRingGroup$Node;I)V"⟩, 4), (⟨"RingGroup", "giveTo", "(IILRingGroup$Message;)V"⟩, 4), (⟨"RingGroup", "sendPending", "(LRingGroup$Node;I)V"⟩, 4), (⟨"RingGroup", "handOn", "(LRingGroup$Node;)V"⟩, 4), (⟨"RingGroup", "upInGroup", "(I)I"⟩, 4), (⟨"RingGroup", "isWhole", "(LRingGroup$Ring;I)Z"⟩, 4), (⟨"RingGroup", "ofRing", "(LRingGroup$Ring;I)I"⟩, 4), (⟨"RingGroup", "foremost", "(LRingGroup$Node;I)LRingGroup$Node;"⟩, 4), (⟨"RingGroup", "endOldRings", "(I)V"⟩, 4), (⟨"RingGroup", "endRing", "(I)V"⟩, 4), (⟨"RingGroup", "shareAll", "(I)V"⟩, 4), (⟨"RingGroup", "bringTablesUpToDate", "(LRingGroup$Node;I)V"⟩, 4), (⟨"RingGroup", "keptByOne", "(III)LRingGroup$Message;"⟩, 4)]
theorem lw_r1 : ∀ q ∈ lw_privs_1, lw_okq q := List.forall_mem_cons.mpr ⟨lw_p0, List.forall_mem_cons.mpr ⟨lw_p1, List.forall_mem_cons.mpr ⟨lw_p2, List.forall_mem_cons.mpr ⟨lw_p3, List.forall_mem_cons.mpr ⟨lw_p4, List.forall_mem_cons.mpr ⟨lw_p5, List.forall_mem_cons.mpr ⟨lw_p6, List.forall_mem_cons.mpr ⟨lw_p7, List.forall_mem_cons.mpr ⟨lw_p8, List.forall_mem_cons.mpr ⟨lw_p9, List.forall_mem_cons.mpr ⟨lw_p10, List.forall_mem_cons.mpr ⟨lw_p11, List.forall_mem_cons.mpr ⟨lw_p12, List.forall_mem_cons.mpr ⟨lw_p13, List.forall_mem_cons.mpr ⟨lw_p14, List.forall_mem_cons.mpr ⟨lw_p15, fun _ h => absurd h List.not_mem_nil⟩⟩⟩⟩⟩⟩⟩⟩⟩⟩⟩⟩⟩⟩⟩⟩
theorem lw_p16 : lw_okq (⟨"RingGroup", "beginRing", "(IZ)I"⟩, 4) := ⟨⟨by decide +kernel, by decide +kernel⟩, List.mem_of_getElem? (i := 18) (by decide +kernel), List.mem_of_getElem? (i := 494) (by decide +kernel), List.mem_of_getElem? (i := 495) (by decide +kernel)⟩
theorem lw_p17 : lw_okq (⟨"RingGroup", "unusedRing", "()LRingGroup$Ring;"⟩, 4) := ⟨⟨by decide +kernel, by decide +kernel⟩, List.mem_of_getElem? (i := 18) (by decide +kernel), List.mem_of_getElem? (i := 502) (by decide +kernel), List.mem_of_getElem? (i := 503) (by decide +kernel)⟩
theorem lw_p18 : lw_okq (⟨"RingGroupModel", "noNode", "(I)Z"⟩, 36) := ⟨⟨by decide +kernel, by decide +kernel⟩, List.mem_of_getElem? (i := 611) (by decide +kernel), List.mem_of_getElem? (i := 734) (by decide +kernel), List.mem_of_getElem? (i := 735) (by decide +kernel)⟩
theorem lw_p19 : lw_okq (⟨"RingGroupModel", "holds", "(I)Z"⟩, 36) := ⟨⟨by decide +kernel, by decide +kernel⟩, List.mem_of_getElem? (i := 611) (by decide +kernel), List.mem_of_getElem? (i := 742) (by decide +kernel), List.mem_of_getElem? (i := 743) (by decide +kernel)⟩
theorem lw_p20 : lw_okq (⟨"RingGroupModel", "full", "(I)I"⟩, 36) := ⟨⟨by decide +kernel, by decide +kernel⟩, List.mem_of_getElem? (i := 611) (by decide +kernel), List.mem_of_getElem? (i := 746) (by decide +kernel), List.mem_of_getElem? (i := 747) (by decide +kernel)⟩
theorem lw_p21 : lw_okq (⟨"RingGroupModel", "hasPlace", "(II)Z"⟩, 36) := ⟨⟨by decide +kernel, by decide +kernel⟩, List.mem_of_getElem? (i := 611) (by decide +kernel), List.mem_of_getElem? (i := 750) (by decide +kernel), List.mem_of_getElem? (i := 751) (by decide +kernel)⟩
theorem lw_p22 : lw_okq (⟨"RingGroupModel", "comes", "(III)V"⟩, 36) := ⟨⟨by decide +kernel, by decide +kernel⟩, List.mem_of_getElem? (i := 611) (by decide +kernel), List.mem_of_getElem? (i := 760) (by decide +kernel), List.mem_of_getElem? (i := 761) (by decide +kernel)⟩
theorem lw_p23 : lw_okq (⟨"RingGroupModel", "gets", "(II)V"⟩, 36) := ⟨⟨by decide +kernel, by decide +kernel⟩, List.mem_of_getElem? (i := 611) (by decide +kernel), List.mem_of_getElem? (i := 764) (by decide +kernel), List.mem_of_getElem? (i := 765) (by decide +kernel)⟩
theorem lw_p24 : lw_okq (⟨"RingGroupModel", "give", "(II)V"⟩, 36) := ⟨⟨by decide +kernel, by decide +kernel⟩, List.mem_of_getElem? (i := 611) (by decide +kernel), List.mem_of_getElem? (i := 768) (by decide +kernel), List.mem_of_getElem? (i := 769) (by decide +kernel)⟩
theorem lw_p25 : lw_okq (⟨"RingGroupModel", "deliverAll", "(I)I"⟩, 36) := ⟨⟨by decide +kernel, by decide +kernel⟩, List.mem_of_getElem? (i := 611) (by decide +kernel), List.mem_of_getElem? (i := 772) (by decide +kernel), List.mem_of_getElem? (i := 773) (by decide +kernel)⟩
theorem lw_p26 : lw_okq (⟨"RingGroupModel", "deliver", "(IIZ)V"⟩, 36) := ⟨⟨by decide +kernel, by decide +kernel⟩, List.mem_of_getElem? (i := 611) (by decide +kernel), List.mem_of_getElem? (i := 776) (by decide +kernel), List.mem_of_getElem? (i := 777) (by decide +kernel)⟩
theorem lw_p27 : lw_okq (⟨"RingGroupModel", "tell", "(IJJJJJJ)V"⟩, 36) := ⟨⟨by decide +kernel, by decide +kernel⟩, List.mem_of_getElem? (i := 611) (by decide +kernel), List.mem_of_getElem? (i := 780) (by decide +kernel), List.mem_of_getElem? (i := 781) (by decide +kernel)⟩
theorem lw_p28 : lw_okq (⟨"RingGroupModel", "apply", "(IIIJ)V"⟩, 36) := ⟨⟨by decide +kernel, by decide +kernel⟩, List.mem_of_getElem? (i := 611) (by decide +kernel), List.mem_of_getElem? (i := 784) (by decide +kernel), List.mem_of_getElem? (i := 785) (by decide +kernel)⟩
theorem lw_p29 : lw_okq (⟨"RingGroupModel", "goesOn", "(I)V"⟩, 36) := ⟨⟨by decide +kernel, by decide +kernel⟩, List.mem_of_getElem? (i := 611) (by decide +kernel), List.mem_of_getElem? (i := 790) (by decide +kernel), List.mem_of_getElem? (i := 791) (by decide +kernel)⟩
theorem lw_p30 : lw_okq (⟨"RingGroupModel", "together", "(I)I"⟩, 36) := ⟨⟨by decide +kernel, by decide +kernel⟩, List.mem_of_getElem? (i := 611) (by decide +kernel), List.mem_of_getElem? (i := 798) (by decide +kernel), List.mem_of_getElem? (i := 799) (by decide +kernel)⟩
theorem lw_p31 : lw_okq (⟨"RingGroupModel", "isWhole", "(I)Z"⟩, 36) := ⟨⟨by decide +kernel, by decide +kernel⟩, List.mem_of_getElem? (i := 611) (by decide +kernel), List.mem_of_getElem? (i := 802) (by decide +kernel), List.mem_of_getElem? (i := 803) (by decide +kernel)⟩
def lw_privs_2 : List (MethodName × Nat) := [(⟨"RingGroup", "beginRing", "(IZ)I"⟩, 4), (⟨"RingGroup", "unusedRing", "()LRingGroup$Ring;"⟩, 4), (⟨"RingGroupModel", "noNode", "(I)Z"⟩, 36), (⟨"RingGroupModel", "holds", "(I)Z"⟩, 36), (⟨"RingGroupModel", "full", "(I)I"⟩, 36), (⟨"RingGroupModel", "hasPlace", "(II)Z"⟩, 36), (⟨"RingGroupModel", "comes", "(III)V"⟩, 36), (⟨"RingGroupModel", "gets", "(II)V"⟩, 36), (⟨"RingGroupModel", "give", "(II)V"⟩, 36), (⟨"RingGroupModel", "deliverAll", "(I)I"⟩, 36), (⟨"RingGroupModel", "deliver", "(IIZ)V"⟩, 36), (⟨"RingGroupModel", "tell", "(IJJJJJJ)V"⟩, 36), (⟨"RingGroupModel", "apply", "(IIIJ)V"⟩, 36), (⟨"RingGroupModel", "goesOn", "(I)V"⟩, 36), (⟨"RingGroupModel", "together", "(I)I"⟩, 36), (⟨"RingGroupModel", "isWhole", "(I)Z"⟩, 36)]
theorem lw_r2 : ∀ q ∈ lw_privs_2, lw_okq q := List.forall_mem_cons.mpr ⟨lw_p16, List.forall_mem_cons.mpr ⟨lw_p17, List.forall_mem_cons.mpr ⟨lw_p18, List.forall_mem_cons.mpr ⟨lw_p19, List.forall_mem_cons.mpr ⟨lw_p20, List.forall_mem_cons.mpr ⟨lw_p21, List.forall_mem_cons.mpr ⟨lw_p22, List.forall_mem_cons.mpr ⟨lw_p23, List.forall_mem_cons.mpr ⟨lw_p24, List.forall_mem_cons.mpr ⟨lw_p25, List.forall_mem_cons.mpr ⟨lw_p26, List.forall_mem_cons.mpr ⟨lw_p27, List.forall_mem_cons.mpr ⟨lw_p28, List.forall_mem_cons.mpr ⟨lw_p29, List.forall_mem_cons.mpr ⟨lw_p30, List.forall_mem_cons.mpr ⟨lw_p31, fun _ h => absurd h List.not_mem_nil⟩⟩⟩⟩⟩⟩⟩⟩⟩⟩⟩⟩⟩⟩⟩⟩
theorem lw_p32 : lw_okq (⟨"RingGroupModel", "isPrimary", "(I)Z"⟩, 36) := ⟨⟨by decide +kernel, by decide +kernel⟩, List.mem_of_getElem? (i := 611) (by decide +kernel), List.mem_of_getElem? (i := 809) (by decide +kernel), List.mem_of_getElem? (i := 810) (by decide +kernel)⟩
theorem lw_p33 : lw_okq (⟨"RingGroupModel", "voter", "(I)I"⟩, 36) := ⟨⟨by decide +kernel, by decide +kernel⟩, List.mem_of_getElem? (i := 611) (by decide +kernel), List.mem_of_getElem? (i := 813) (by decide +kernel), List.mem_of_getElem? (i := 814) (by decide +kernel)⟩
theorem lw_p34 : lw_okq (⟨"RingGroupModel", "nextRing", "(II)I"⟩, 36) := ⟨⟨by decide +kernel, by decide +kernel⟩, List.mem_of_getElem? (i := 611) (by decide +kernel), List.mem_of_getElem? (i := 820) (by decide +kernel), List.mem_of_getElem? (i := 821) (by decide +kernel)⟩
theorem lw_p35 : lw_okq (⟨"RingGroupModel", "of", "(II)I"⟩, 36) := ⟨⟨by decide +kernel, by decide +kernel⟩, List.mem_of_getElem? (i := 611) (by decide +kernel), List.mem_of_getElem? (i := 824) (by decide +kernel), List.mem_of_getElem? (i := 825) (by decide +kernel)⟩
theorem lw_p36 : lw_okq (⟨"RingGroupModel", "isBefore", "(II)Z"⟩, 36) := ⟨⟨by decide +kernel, by decide +kernel⟩, List.mem_of_getElem? (i := 611) (by decide +kernel), List.mem_of_getElem? (i := 828) (by decide +kernel), List.mem_of_getElem? (i := 829) (by decide +kernel)⟩
theorem lw_p37 : lw_okq (⟨"RingGroupModel", "end", "(II)V"⟩, 36) := ⟨⟨by decide +kernel, by decide +kernel⟩, List.mem_of_getElem? (i := 611) (by decide +kernel), List.mem_of_getElem? (i := 832) (by decide +kernel), List.mem_of_getElem? (i := 833) (by decide +kernel)⟩
theorem lw_p38 : lw_okq (⟨"RingGroupModel", "share", "(I)V"⟩, 36) := ⟨⟨by decide +kernel, by decide +kernel⟩, List.mem_of_getElem? (i := 611) (by decide +kernel), List.mem_of_getElem? (i := 837) (by decide +kernel), List.mem_of_getElem? (i := 838) (by decide +kernel)⟩
theorem lw_p39 : lw_okq (⟨"RingGroupModel", "form", "(IZ)I"⟩, 36) := ⟨⟨by decide +kernel, by decide +kernel⟩, List.mem_of_getElem? (i := 611) (by decide +kernel), List.mem_of_getElem? (i := 841) (by decide +kernel), List.mem_of_getElem? (i := 842) (by decide +kernel)⟩
theorem lw_p40 : lw_okq (⟨"RingGroupModel", "freeSlot", "()I"⟩, 36) := ⟨⟨by decide +kernel, by decide +kernel⟩, List.mem_of_getElem? (i := 611) (by decide +kernel), List.mem_of_getElem? (i := 845) (by decide +kernel), List.mem_of_getElem? (i := 846) (by decide +kernel)⟩
theorem lw_p41 : lw_okq (⟨"RingGroupModel", "forget", "(I)V"⟩, 36) := ⟨⟨by decide +kernel, by decide +kernel⟩, List.mem_of_getElem? (i := 611) (by decide +kernel), List.mem_of_getElem? (i := 849) (by decide +kernel), List.mem_of_getElem? (i := 850) (by decide +kernel)⟩
def lw_privs_3 : List (MethodName × Nat) := [(⟨"RingGroupModel", "isPrimary", "(I)Z"⟩, 36), (⟨"RingGroupModel", "voter", "(I)I"⟩, 36), (⟨"RingGroupModel", "nextRing", "(II)I"⟩, 36), (⟨"RingGroupModel", "of", "(II)I"⟩, 36), (⟨"RingGroupModel", "isBefore", "(II)Z"⟩, 36), (⟨"RingGroupModel", "end", "(II)V"⟩, 36), (⟨"RingGroupModel", "share", "(I)V"⟩, 36), (⟨"RingGroupModel", "form", "(IZ)I"⟩, 36), (⟨"RingGroupModel", "freeSlot", "()I"⟩, 36), (⟨"RingGroupModel", "forget", "(I)V"⟩, 36)]
theorem lw_r3 : ∀ q ∈ lw_privs_3, lw_okq q := List.forall_mem_cons.mpr ⟨lw_p32, List.forall_mem_cons.mpr ⟨lw_p33, List.forall_mem_cons.mpr ⟨lw_p34, List.forall_mem_cons.mpr ⟨lw_p35, List.forall_mem_cons.mpr ⟨lw_p36, List.forall_mem_cons.mpr ⟨lw_p37, List.forall_mem_cons.mpr ⟨lw_p38, List.forall_mem_cons.mpr ⟨lw_p39, List.forall_mem_cons.mpr ⟨lw_p40, List.forall_mem_cons.mpr ⟨lw_p41, fun _ h => absurd h List.not_mem_nil⟩⟩⟩⟩⟩⟩⟩⟩⟩⟩
def lw_privs : List (MethodName × Nat) := lw_privs_1 ++ (lw_privs_2 ++ (lw_privs_3))
def lw_tbl : List Cond := k2_sels lw_privs ++ tables_1
theorem lw_privs_ok : ∀ q ∈ lw_privs, lw_okq q := by
  show ∀ q ∈ lw_privs_1 ++ (lw_privs_2 ++ (lw_privs_3)), lw_okq q
  exact List.forall_mem_append.mpr ⟨lw_r1, List.forall_mem_append.mpr ⟨lw_r2, lw_r3⟩⟩
-- ===== end of PART A; then your names; then what follows =====
end
section
/-! ===== BEGIN words of one list among another's, by their places ===== -/
theorem goodIn_r {big : List Cond} (ws : List Cond) (ps : List Nat) (hp : ws = ps.filterMap (fun i => big[i]?)) (h : ws.all goodWord = true) : GoodIn big ws := by
  intro w hw
  have h1 := List.all_eq_true.mp h w hw
  rw [hp] at hw
  obtain ⟨i, -, hi⟩ := List.mem_filterMap.mp hw
  have hm : w ∈ big := by first | exact List.mem_of_getElem? hi | exact List.getElem?_mem hi
  exact ⟨hm, good_of_word h1⟩
theorem goodIn_app {big a b : List Cond} (ha : GoodIn big a) (hb : GoodIn big b) : GoodIn big (a ++ b) := fun w h => (List.mem_append.mp h).elim (ha w) (hb w)
theorem goodIn_ca {big a b : List Cond} {c : Cond} (ha : GoodIn big (c :: a)) (hb : GoodIn big b) : GoodIn big (c :: (a ++ b)) := fun w h => (List.mem_cons.mp h).elim (fun e => ha w (List.mem_cons.mpr (Or.inl e))) (fun h => (List.mem_append.mp h).elim (fun h => ha w (List.mem_cons.mpr (Or.inr h))) (hb w))
theorem goodIn_sub {big ws : List Cond} (hm : ∀ w ∈ ws, w ∈ big) (h : ws.all goodWord = true) : GoodIn big ws := fun w hw => ⟨hm w hw, good_of_word (List.all_eq_true.mp h w hw)⟩
/-! ===== END ===== -/

/-! ===== BEGIN exceptions that leave a method, and their catching by the caller (launches without stack traces) ===== -/
section VXA
/-! The laws vx_back, vx_callV, vx_callS, vx_callSW, vx_throw0, vx_throwS follow proofs of the library, with one case more: JvmDerived/Free/Laws.lean (Back.of_free), Shelf42/LK1.lean (callV, callS), Shelf/KitTraced.lean (throwNew0V, throwNewS). -/
/-- where a method has thrown q: the class by its name, the cell, what was written, the world -/
def vx_T (XC : String → State → State → Prop) (st : State) (q : Addr) (t : State) (mc ms : Nat) (free : Addr → Prop) : Prop :=
  ∃ (E : String) (ce : Cell) (L : List Loc), XC E st t ∧ t.heap[q]? = some ce ∧ ce.vm = .none ∧ st.vm.findClass E = some ce.cls ∧ st.WarmedH t.vm ∧ st.sameButNew ({ t with vm := st.vm } : State) L mc ms ∧ ∀ z ∈ L, free z.base
def vx_Q (Qc : Array Value → State → Outcome → State → Prop) (XC : String → State → State → Prop) (mc ms : Nat) (free : Addr → Prop) : Array Value → State → Outcome → State → Prop := fun a st o t =>
  (Qc a st o t ∧ ∃ L, FrameEnd st o t L mc ms ∧ ∀ q ∈ L, free q.base) ∨ ∃ q, o = .threw q ∧ vx_T XC st q t mc ms free
/-- a callee that returns or throws -/
def vx_Met (l : Launch) (y : MethodName) (ws : List Cond) (rm : Room) (Pc : Array Value → State → Prop) (Qc : Array Value → State → Outcome → State → Prop) (XC : String → State → State → Prop) (mc ms : Nat) (free : Addr → Prop) : Prop :=
  MetFree l y (headSpec ws rm) Pc (fun _ _ _ _ _ => True) (vx_Q Qc XC mc ms free)
def vx_Post (XC : String → State → State → Prop) (mc ms : Nat) (free : Addr → Prop) : Pt → Array Value → Addr → Pt → Prop := fun A a q B =>
  ∃ (g : JFrame) (mk : MethodId) (t : State) (L : List Loc) (E : String) (ce : Cell), B.U.heap = t.heap ∧ B.U.vm = t.vm ∧ XC E (A.U.calling g mk a) t ∧ t.heap[q]? = some ce ∧ ce.vm = .none ∧ A.U.vm.findClass E = some ce.cls ∧ B.locs = A.locs ++ L ∧ (∀ z ∈ L, free z.base) ∧ B.cells = A.cells + mc ∧ B.slots = A.slots + ms
def vx_Back (l : Launch) (R : Room) (p : Program) (e : Env) (below : List Frame) (s : State) (sargs : Array Value) (y : MethodName) (len W9 : Nat)
    (Pre : Pt → Array Value → Prop) (Post : Pt → Array Value → Option Value → Pt → Prop) (PostX : Pt → Array Value → Addr → Pt → Prop) : Prop :=
  ∀ (m : MethodId) (meth : Method) (c : Code) (A : Pt) (g : JFrame) (ig : Instr) (mk : MethodId) (a : Array Value),
    Stand p l e R s m sargs below meth c A.U A.locs A.cells A.slots → g.method = m → g.locals.size = c.maxLocals → decode c.code g.pc = .ok (ig, len) →
    2 * g.monitorRoom + (g.stack.map fun v => v.category).sum ≤ W9 → A.U.methodNamed? y = some mk → Pre A a →
    (∃ (v : Option Value) (B : Pt), Stand p l e R s m sargs below meth c B.U B.locs B.cells B.slots ∧ Post A a v B ∧
      Steps p.tables e below (doInvoke e (A.U.setTop g) [] mk a).1 (B.U.setTop { g with pc := g.pc + len, stack := v.toList ++ g.stack })) ∨
    (∃ (q : Addr) (B : Pt), Stand p l e R s m sargs below meth c B.U B.locs B.cells B.slots ∧ PostX A a q B ∧
      Steps p.tables e below (doInvoke e (A.U.setTop g) [] mk a).1 ((B.U.setTop g).pushFrame (.throwing q)))
section Payer
variable {l : Launch} {R : Room} {p : Program} {e : Env} {below : List Frame} {s : State} {sargs : Array Value} {y : MethodName} {len W9 : Nat}
theorem vx_back {ws : List Cond} {rm : Room} {Pc : Array Value → State → Prop} {Qc : Array Value → State → Outcome → State → Prop} {XC : String → State → State → Prop} {mc ms : Nat} {free : Addr → Prop} {bytes : ByteArray} {maxL : Nat} {ret : Option FieldType}
    (hM : vx_Met l y ws rm Pc Qc XC mc ms free) (hblind : FrameBlind Pc) (hrc : rm.cells = mc) (hrs : rm.slots = ms)
    (hframes : rm.frames + 1 ≤ R.frames) (hlocals : W9 + (maxL + 11) + rm.locals ≤ R.locals)
    (hws : ∀ w ∈ ws, ∀ a' U, s.WarmedH U.vm → w.before a' U = true) (hcode : Cond.code y bytes maxL ret ∈ ws) (hinit : ∀ a' U, s.WarmedH U.vm → (Cond.initialized y.cls).before a' U = true) :
    vx_Back l R p e below s sargs y len W9 (PreOf R mc ms Pc) (PostOf Qc mc ms free) (vx_Post XC mc ms free) := by
  intro m meth c A g ig mk a X hg hsize hdg hW hn hp
  have h1 : (headSpec ws rm).pre.before a A.U = true := atoms_intro fun w hw => hws w hw _ _ X.warmed
  have h2 : (Cond.code y bytes maxL ret).before a A.U = true := hws _ hcode _ _ X.warmed
  have h3 : (Cond.initialized y.cls).before a A.U = true := hinit _ _ X.warmed
  have h4 : A.cells + (headSpec ws rm).room.cells ≤ R.cells := by rw [show (headSpec ws rm).room.cells = mc from hrc]; exact hp.1
  have h5 : A.slots + (headSpec ws rm).room.slots ≤ R.slots := by rw [show (headSpec ws rm).room.slots = ms from hrs]; exact hp.2.1
  have hPc : Pc a (A.U.calling g mk a) := hblind _ _ _ _ hp.2.2
  obtain ⟨U, Ls, c0, s0⟩ := A
  dsimp only [Pt.U, Pt.locs, Pt.cells, Pt.slots] at h1 h2 h3 h4 h5 X hn hPc ⊢
  obtain ⟨methY, cY, hmY, hcY, -, hlY, -, -, -, -⟩ := Cond.code_spec hn h2
  obtain ⟨kY, hkY, -⟩ := className_of_methodNamed hn
  have hinitY : kY.init = .initialized := Cond.initialized_spec (findClass_of_methodNamed hn) hkY h3
  have h : At U g.method c below := by rw [hg]; exact X.here
  have hlocals9 : W9 + (maxL + 11) + (headSpec ws rm).room.locals ≤ R.locals := hlocals
  have happ : (headSpec ws rm).appliesLoose y e.platform (U.calling g mk a) = true :=
    Spec.appliesLoose_calling (g := g) h hdg hn hkY hinitY
      (X.room_calling (g := g) (R' := (headSpec ws rm).room) hsize hmY hcY hframes (by rw [hlY]; omega) h4 h5) h1
  obtain ⟨mid, hmid⟩ := h.above
  have hfr : (U.setTop g).frames = (.java g :: mid) ++ below := by rw [State.frames_setTop' g h.top, hmid]; rfl
  obtain ⟨o, s₂, hsteps, -, hend, hq⟩ := Steps.callFree hM p X.admits X.cas X.clock (acts := []) hfr happ hPc trivial
  have hq' : vx_Q Qc XC mc ms free a (U.calling g mk a) o s₂ := hq
  rw [State.frames_setTop' g h.top] at hend
  obtain ⟨g₀, hg0⟩ := Option.isSome_iff_exists.mp h.top
  obtain ⟨r, hr⟩ := State.topJava?_eq_some.mp hg0
  have hr' : (({ U with heap := s₂.heap, slotsUsed := s₂.slotsUsed } : State).setVm s₂.vm).frames = .java g₀ :: r := hr
  rcases hq' with ⟨hqc, L, hfe, hL⟩ | ⟨q, rfl, E, ce, L, hx, hce, hcv, hcl, hW₂, hsm, hL⟩
  · obtain ⟨⟨v, rfl⟩, hW₂, e2, q2, q3, q4, q5, q6⟩ := id hfe
    have e3 : s₂ = ({ (U.calling g mk a).setFrames s₂.frames with heap := s₂.heap, slotsUsed := s₂.slotsUsed } : State).setVm s₂.vm := by
      have : s₂ = ({ s₂ with vm := (U.calling g mk a).vm } : State).setVm s₂.vm := rfl
      rw [e2] at this
      exact this
    obtain ⟨c₂, i₂, len₂, hc₂, hd₂, hf₂⟩ := hend
    have hW' : U.WarmedH s₂.vm := hW₂
    have hcc : c₂ = c := by
      have h1 : s₂.code? g.method = U.code? g.method := by
        rw [State.code?_eq, State.code?_eq, hW'.alike.method?]
      exact Option.some.inj (hc₂.symm.trans (h1.trans h.code))
    subst hcc
    have hlen : len₂ = len := by rw [hdg] at hd₂; cases hd₂; rfl
    subst hlen
    have hs₂ : s₂ = (({ U with heap := s₂.heap, slotsUsed := s₂.slotsUsed } : State).setVm s₂.vm).setTop { g with pc := g.pc + len₂, stack := v.toList ++ g.stack } := by
      refine e3.trans ?_
      rw [hf₂, State.calling_eq h.top, State.setFrames_setFrames, State.setTop_of_frames _ hr', hr]
      rfl
    have hsame : U.sameButNew ({ U with heap := s₂.heap, slotsUsed := s₂.slotsUsed } : State) L mc ms := by
      refine ⟨?_, q2, q3, q4, q5, q6⟩
      obtain ⟨t, ht, -⟩ := State.frames_cons hr
      show ({ U with heap := s₂.heap, slotsUsed := s₂.slotsUsed } : State) = { U.setFrames U.frames with heap := s₂.heap, slotsUsed := s₂.slotsUsed }
      rw [State.setFrames_self ht]
    subst hg
    refine Or.inl ⟨v, ⟨(({ U with heap := s₂.heap, slotsUsed := s₂.slotsUsed } : State).setVm s₂.vm), Ls ++ L, c0 + mc, s0 + ms⟩,
      ⟨X.admits, X.cas, X.clock, X.frames, X.room, X.hears, X.method, X.code, (X.here.setHeapUsed s₂.heap s₂.slotsUsed).setVm hW'.alike, X.tail, State.WarmedH.trans X.warmed hW', X.limits, X.bytes, X.same.trans (hsame.setVm s.vm)⟩,
      ⟨g, mk, s₂, L, rfl, rfl, hqc, rfl, hL, rfl, rfl⟩, ?_⟩
    show Steps p.tables e below _ ((({ U with heap := s₂.heap, slotsUsed := s₂.slotsUsed } : State).setVm s₂.vm).setTop { g with pc := g.pc + len₂, stack := v.toList ++ g.stack })
    rw [← hs₂]
    exact hsteps
  · obtain ⟨e2, q2, q3, q4, q5, q6⟩ := id hsm
    have e3 : s₂ = ({ (U.calling g mk a).setFrames s₂.frames with heap := s₂.heap, slotsUsed := s₂.slotsUsed } : State).setVm s₂.vm := by
      have : s₂ = ({ s₂ with vm := (U.calling g mk a).vm } : State).setVm s₂.vm := rfl
      rw [e2] at this
      exact this
    have hf₂ : s₂.frames = .throwing q :: .java g :: U.frames.tail := hend
    have hW' : U.WarmedH s₂.vm := hW₂
    have hs₂ : s₂ = ((({ U with heap := s₂.heap, slotsUsed := s₂.slotsUsed } : State).setVm s₂.vm).setTop g).pushFrame (.throwing q) := by
      refine e3.trans ?_
      rw [hf₂, State.calling_eq h.top, State.setFrames_setFrames, State.pushFrame, State.frames_setTop _ hr', State.setTop_of_frames _ hr', State.setFrames_setFrames, hr]
      rfl
    have hsame : U.sameButNew ({ U with heap := s₂.heap, slotsUsed := s₂.slotsUsed } : State) L mc ms := by
      refine ⟨?_, q2, q3, q4, q5, q6⟩
      obtain ⟨t, ht, -⟩ := State.frames_cons hr
      show ({ U with heap := s₂.heap, slotsUsed := s₂.slotsUsed } : State) = { U.setFrames U.frames with heap := s₂.heap, slotsUsed := s₂.slotsUsed }
      rw [State.setFrames_self ht]
    subst hg
    refine Or.inr ⟨q, ⟨(({ U with heap := s₂.heap, slotsUsed := s₂.slotsUsed } : State).setVm s₂.vm), Ls ++ L, c0 + mc, s0 + ms⟩,
      ⟨X.admits, X.cas, X.clock, X.frames, X.room, X.hears, X.method, X.code, (X.here.setHeapUsed s₂.heap s₂.slotsUsed).setVm hW'.alike, X.tail, State.WarmedH.trans X.warmed hW', X.limits, X.bytes, X.same.trans (hsame.setVm s.vm)⟩,
      ⟨g, mk, s₂, L, E, ce, rfl, rfl, hx, hce, hcv, hcl, rfl, hL, rfl, rfl⟩, ?_⟩
    show Steps p.tables e below _ (((({ U with heap := s₂.heap, slotsUsed := s₂.slotsUsed } : State).setVm s₂.vm).setTop g).pushFrame (.throwing q))
    rw [← hs₂]
    exact hsteps
end Payer
section Calls
variable {p : Program} {l : Launch} {e : Env} {R : Room} {s : State} {m : MethodId} {args : Array Value} {below : List Frame} {meth : Method} {c : Code} {T : State} {locs : List Loc} {cells slots : Nat}
theorem vx_callV (X : Stand p l e R s m args below meth c T locs cells slots) (hexec : p.tables.exec = Jvm.exec) {own C : String} {index : Nat} {y : MethodName} {bytes : ByteArray} {maxL : Nat} {ret : Option FieldType}
    (hown : s.vm.findClass own = some m.cls) (hlink : (Cond.methodLink own index y).before args s = true) (hinst : (Cond.instanceMethod y).before args s = true) (hsel : (Cond.selects C y y).before args s = true)
    (hcode : (Cond.code y bytes maxL ret).before args s = true) (hy : y.cls ≠ "java/lang/invoke/MethodHandle" ∧ y.cls ≠ "java/lang/invoke/VarHandle")
    {W9 : Nat} {Pre : Pt → Array Value → Prop} {Post : Pt → Array Value → Option Value → Pt → Prop} {PostX : Pt → Array Value → Addr → Pt → Prop} (hK : vx_Back l R p e below s args y 3 W9 Pre Post PostX)
    {b : Addr} {cellB : Cell} (hcell : T.heap[b]? = some cellB) (hobj : cellB.vm.isStatics = false) (hcls : s.vm.findClass C = some cellB.cls)
    {g : JFrame} (hg : g.method = m) (hsize : g.locals.size = c.maxLocals) {argsL rest : List Value} (hlen : ∀ sig, parseMethodDescriptor y.desc = some sig → argsL.length = sig.parameters.length)
    (hstack : g.stack = argsL.reverse ++ .ref b :: rest) (hW : 2 * g.monitorRoom + (rest.map fun v => v.category).sum ≤ W9) (hdg : decode c.code g.pc = .ok (.invokevirtual index, 3))
    (hpre : ∀ vm₁, s.WarmedH vm₁ → Pre ⟨T.setVm vm₁, locs, cells, slots⟩ (Value.ref b :: argsL).toArray) :
    (∃ (v : Option Value) (vm₁ : Vm) (B : Pt), s.WarmedH vm₁ ∧ Stand p l e R s m args below meth c B.U B.locs B.cells B.slots ∧ Post ⟨T.setVm vm₁, locs, cells, slots⟩ (Value.ref b :: argsL).toArray v B ∧
      ∀ target, Steps p.tables e below (B.U.setTop { g with pc := g.pc + 3, stack := v.toList ++ rest }) target → Steps p.tables e below (T.setTop g) target) ∨
    (∃ (q : Addr) (vm₁ : Vm) (B : Pt), s.WarmedH vm₁ ∧ Stand p l e R s m args below meth c B.U B.locs B.cells B.slots ∧ PostX ⟨T.setVm vm₁, locs, cells, slots⟩ (Value.ref b :: argsL).toArray q B ∧
      Steps p.tables e below (T.setTop g) ((B.U.setTop { g with stack := rest }).pushFrame (.throwing q))) := by
  obtain ⟨mk, methM, hnamed, hmethM, hstM, habM⟩ := Cond.instanceMethod_spec hinst
  obtain ⟨methM', cM, hmethM', -, -, -, -, -, -, hsigM⟩ := Cond.code_spec hnamed hcode
  cases hmethM.symm.trans hmethM'
  obtain ⟨c2, r2, m2, q1, q2, q3, q4, kP, hkP, hkPi⟩ := Cond.selects_spec hsel
  cases hcls.symm.trans q1
  cases (State.methodFound?_of_named hnamed hy).symm.trans q2
  cases hnamed.symm.trans q3
  have hselP : selectMethod e.platform s.vm cellB.cls mk = .method mk := by rw [Launch.admits_selectMethod X.admits]; exact q4
  obtain ⟨vm₁, X₁, hstep₁⟩ := X.invokevirtual hexec hown hlink hnamed hmethM hstM hkP hkPi hy (a := b) (cell := cellB) hcell
    (fun z h => by rw [h] at hobj; cases hobj) hselP hmethM habM hkP hkPi (g := g) hg (argsL := argsL) (rest := rest) (hlen _ hsigM) hstack hdg
  rcases hK m meth c ⟨T.setVm vm₁, locs, cells, slots⟩ { g with stack := rest } (.invokevirtual index) mk (Value.ref b :: argsL).toArray X₁ hg hsize hdg hW (X₁.named hnamed) (hpre vm₁ X₁.warmed) with ⟨v, B, X', hpost, hsteps⟩ | ⟨q, B, X', hpost, hsteps⟩
  · exact Or.inl ⟨v, vm₁, B, X₁.warmed, X', hpost, fun target h => hstep₁ _ fun acts => by rw [doInvoke_state]; exact hsteps.trans h⟩
  · exact Or.inr ⟨q, vm₁, B, X₁.warmed, X', hpost, hstep₁ _ fun acts => by rw [doInvoke_state]; exact hsteps⟩
theorem vx_callS (X : Stand p l e R s m args below meth c T locs cells slots) (hexec : p.tables.exec = Jvm.exec) {own : String} {index : Nat} {y : MethodName} {bytes : ByteArray} {maxL : Nat} {ret : Option FieldType}
    (hown : s.vm.findClass own = some m.cls) (hlink : (Cond.methodLink own index y).before args s = true) (hstat : (Cond.static y).before args s = true) (hinit : (Cond.initialized y.cls).before args s = true)
    (hcode : (Cond.code y bytes maxL ret).before args s = true) (hy : y.cls ≠ "java/lang/invoke/MethodHandle" ∧ y.cls ≠ "java/lang/invoke/VarHandle")
    {W9 : Nat} {Pre : Pt → Array Value → Prop} {Post : Pt → Array Value → Option Value → Pt → Prop} {PostX : Pt → Array Value → Addr → Pt → Prop} (hK : vx_Back l R p e below s args y 3 W9 Pre Post PostX)
    {g : JFrame} (hg : g.method = m) (hsize : g.locals.size = c.maxLocals) {argsL rest : List Value} (hlen : ∀ sig, parseMethodDescriptor y.desc = some sig → argsL.length = sig.parameters.length)
    (hstack : g.stack = argsL.reverse ++ rest) (hW : 2 * g.monitorRoom + (rest.map fun v => v.category).sum ≤ W9) (hdg : decode c.code g.pc = .ok (.invokestatic index, 3))
    (hpre : ∀ vm₁, s.WarmedH vm₁ → Pre ⟨T.setVm vm₁, locs, cells, slots⟩ argsL.toArray) :
    (∃ (v : Option Value) (vm₁ : Vm) (B : Pt), s.WarmedH vm₁ ∧ Stand p l e R s m args below meth c B.U B.locs B.cells B.slots ∧ Post ⟨T.setVm vm₁, locs, cells, slots⟩ argsL.toArray v B ∧
      ∀ target, Steps p.tables e below (B.U.setTop { g with pc := g.pc + 3, stack := v.toList ++ rest }) target → Steps p.tables e below (T.setTop g) target) ∨
    (∃ (q : Addr) (vm₁ : Vm) (B : Pt), s.WarmedH vm₁ ∧ Stand p l e R s m args below meth c B.U B.locs B.cells B.slots ∧ PostX ⟨T.setVm vm₁, locs, cells, slots⟩ argsL.toArray q B ∧
      Steps p.tables e below (T.setTop g) ((B.U.setTop { g with stack := rest }).pushFrame (.throwing q))) := by
  obtain ⟨mk, hnamed⟩ := Cond.code_named hcode
  obtain ⟨methM, cM, hmethM, -, -, -, -, -, -, hsigM⟩ := Cond.code_spec hnamed hcode
  have hstatic : methM.isStatic = true := Cond.static_spec hnamed hmethM hstat
  obtain ⟨kP, hkP, -⟩ := className_of_methodNamed hnamed
  have hinitP : kP.init = .initialized := Cond.initialized_spec (findClass_of_methodNamed hnamed) hkP hinit
  obtain ⟨vm₁, X₁, hstep₁⟩ := X.invokestatic hexec hown hlink hnamed hmethM hstatic hkP hinitP hy (g := g) hg (argsL := argsL) (rest := rest) (hlen _ hsigM) hstack hdg
  rcases hK m meth c ⟨T.setVm vm₁, locs, cells, slots⟩ { g with stack := rest } (.invokestatic index) mk argsL.toArray X₁ hg hsize hdg hW (X₁.named hnamed) (hpre vm₁ X₁.warmed) with ⟨v, B, X', hpost, hsteps⟩ | ⟨q, B, X', hpost, hsteps⟩
  · exact Or.inl ⟨v, vm₁, B, X₁.warmed, X', hpost, fun target h => hstep₁ _ fun acts => by rw [doInvoke_state]; exact hsteps.trans h⟩
  · exact Or.inr ⟨q, vm₁, B, X₁.warmed, X', hpost, hstep₁ _ fun acts => by rw [doInvoke_state]; exact hsteps⟩
end Calls
theorem vx_cls {s : State} {T : State} {vm₁ : Vm} {E : String} {k : ClassId} (hW : s.WarmedH vm₁) (h : (T.setVm vm₁).vm.findClass E = some k) : s.vm.findClass E = some k := by
  have h1 : vm₁.findClass E = some k := h
  rw [hW.alike.findClass] at h1
  exact h1
/-- the method's frame g, with q thrown over it -/
def vx_W (p : Program) (l : Launch) (e : Env) (R : Room) (s : State) (m : MethodId) (args : Array Value) (below : List Frame) (meth : Method) (c : Code) (H : Heap) (locs : List Loc) (cells slots : Nat) (Q : State → Prop) (g : JFrame) (q : Addr) : Prop :=
  ∀ T : State, T.heap = H → Stand p l e R s m args below meth c T locs cells slots → ∃ t, Steps p.tables e below ((T.setTop g).pushFrame (.throwing q)) t ∧ Q t
def vx_Run (p : Program) (l : Launch) (e : Env) (R : Room) (s : State) (m : MethodId) (args : Array Value) (below : List Frame) (meth : Method) (c : Code) (H : Heap) (locs : List Loc) (cells slots mc ms : Nat) (g : JFrame) (rest : List Value) (Qa : State → Outcome → State → Prop) (XC : String → State → State → Prop) (free : Addr → Prop) : Prop :=
  ∀ T : State, T.heap = H → Stand p l e R s m args below meth c T locs cells slots →
    (∃ (v : Option Value) (st₀ t T' : State) (L : List Loc), st₀.heap = H ∧ Stand p l e R s m args below meth c T' (locs ++ L) (cells + mc) (slots + ms) ∧ (∀ q ∈ L, free q.base) ∧ T'.heap = t.heap ∧ T'.vm = t.vm ∧ Qa st₀ (.returned v) t ∧
      Goes p e below T g T' { g with pc := g.pc + 3, stack := v.toList ++ rest }) ∨
    (∃ (q : Addr) (st₀ t T' : State) (L : List Loc) (E : String) (ce : Cell), st₀.heap = H ∧ Stand p l e R s m args below meth c T' (locs ++ L) (cells + mc) (slots + ms) ∧ (∀ z ∈ L, free z.base) ∧ T'.heap = t.heap ∧ T'.vm = t.vm ∧ XC E st₀ t ∧ t.heap[q]? = some ce ∧ ce.vm = .none ∧ s.vm.findClass E = some ce.cls ∧
      Steps p.tables e below (T.setTop g) ((T'.setTop { g with stack := rest }).pushFrame (.throwing q)))
def vx_X {S : Type} (px : S → Prop) (B : String → S → State → Prop) (A : Nat → Prop) : String → State → State → Prop := fun E st t => ∃ u : S, px u ∧ B E u t ∧ va_F A st t
section Runs
variable {p : Program} {l : Launch} {e : Env} {R : Room} {s : State} {m : MethodId} {args : Array Value} {below : List Frame} {meth : Method} {c : Code} {H : Heap} {locs : List Loc} {cells slots : Nat}
variable {y : MethodName} {bytes cc : ByteArray} {maxL nL mc ms n index : Nat} {ret : Option FieldType} {ws : List Cond} {rm : Room} {Pc : Array Value → State → Prop} {Qc : Array Value → State → Outcome → State → Prop} {XC : String → State → State → Prop} {free : Addr → Prop} {Ts : List Cond} {own C : String} {b : Addr} {As rest : List Value} {g : JFrame}
theorem vx_callBack (cb : CallB R s args own index y bytes maxL ret ws rm mc ms n) (hM : vx_Met l y ws rm Pc Qc XC mc ms free) (hbl : FrameBlind Pc) : vx_Back l R p e below s args y 3 8 (PreOf R mc ms Pc) (PostOf Qc mc ms free) (vx_Post XC mc ms free) := by
  obtain ⟨hrc, hrs, hfr, hlo, hws, hcw, -, hini, -⟩ := cb
  exact vx_back (bytes := bytes) (maxL := maxL) (ret := ret) hM hbl hrc hrs hfr hlo hws hcw (fun a' U hW => word_at hW (Or.inl (by first | rfl | simp [Cond.onTables, Cond.keeps, Cond.steady])) hini)
theorem vx_runV (S : CallFix p m c cc nL s args Ts own) (hM : vx_Met l y ws rm Pc Qc XC mc ms free) (cw : CallW R s args own C index y bytes maxL ret ws rm mc ms n) (hp : PreV s H C b Pc As)
    (hg : g.method = m) (hn : As.length = n) (hsize : g.locals.size = nL) (hstack : g.stack = As.reverse ++ .ref b :: rest) (hW : 2 * g.monitorRoom + (rest.map fun v => v.category).sum ≤ 8) (hdg : decode cc g.pc = .ok (.invokevirtual index, 3)) (hf : cells + mc ≤ R.cells ∧ slots + ms ≤ R.slots) :
    vx_Run p l e R s m args below meth c H locs cells slots mc ms g rest (Qc (Value.ref b :: As).toArray) XC free := by
  have hK : vx_Back l R p e below s args y 3 8 (PreOf R mc ms Pc) (PostOf Qc mc ms free) (vx_Post XC mc ms free) := vx_callBack cw.1 hM hp.1
  obtain ⟨⟨-, -, -, -, -, -, hcode, -, hy, hlen, hl⟩, hin, hse⟩ := cw
  obtain ⟨hx, hb, hml, ho, -⟩ := S
  obtain ⟨-, ⟨cellB, hcB, hoB, hclB⟩, hPc⟩ := hp
  intro T hT X
  rcases vx_callV X hx (C := C) (bytes := bytes) (maxL := maxL) (ret := ret) ho hl hin hse hcode hy hK (by rw [hT]; exact hcB) hoB hclB hg (hsize.trans hml.symm) (argsL := As) (rest := rest) (fun sig h => hn.trans (hlen sig h)) hstack hW (by rw [hb]; exact hdg)
    (fun vm₁ hW₁ => ⟨hf.1, hf.2, hPc (T.setVm vm₁) hT hW₁⟩) with ⟨v, vm₁, ⟨U', l2, c2, s2⟩, hW₁, X', ⟨g', mk, t, L, e1, e2, hq, h1, hL, h2, h3⟩, st⟩ | ⟨q, vm₁, ⟨U', l2, c2, s2⟩, hW₁, X', ⟨g', mk, t, L, E, ce, e1, e2, hq, hce, hcv, hcl, h1, hL, h2, h3⟩, st⟩
  · dsimp only [Pt.U, Pt.locs, Pt.cells, Pt.slots] at X' e1 e2 h1 h2 h3 st
    subst h1; subst h2; subst h3
    exact Or.inl ⟨v, (T.setVm vm₁).calling g' mk (Value.ref b :: As).toArray, t, U', L, hT, X', hL, e1, e2, hq, st⟩
  · dsimp only [Pt.U, Pt.locs, Pt.cells, Pt.slots] at X' e1 e2 h1 h2 h3 st hcl
    subst h1; subst h2; subst h3
    exact Or.inr ⟨q, (T.setVm vm₁).calling g' mk (Value.ref b :: As).toArray, t, U', L, E, ce, hT, X', hL, e1, e2, hq, hce, hcv, vx_cls hW₁ hcl, st⟩
theorem vx_runS (S : CallFix p m c cc nL s args Ts own) (hM : vx_Met l y ws rm Pc Qc XC mc ms free) (cw : CallB R s args own index y bytes maxL ret ws rm mc ms n ∧ (Cond.static y).before args s = true) (hp : PreS s H Pc As)
    (hg : g.method = m) (hn : As.length = n) (hsize : g.locals.size = nL) (hstack : g.stack = As.reverse ++ rest) (hW : 2 * g.monitorRoom + (rest.map fun v => v.category).sum ≤ 8) (hdg : decode cc g.pc = .ok (.invokestatic index, 3)) (hf : cells + mc ≤ R.cells ∧ slots + ms ≤ R.slots) :
    vx_Run p l e R s m args below meth c H locs cells slots mc ms g rest (Qc As.toArray) XC free := by
  have hK : vx_Back l R p e below s args y 3 8 (PreOf R mc ms Pc) (PostOf Qc mc ms free) (vx_Post XC mc ms free) := vx_callBack cw.1 hM hp.1
  obtain ⟨⟨-, -, -, -, -, -, hcode, hini, hy, hlen, hl⟩, hstt⟩ := cw
  obtain ⟨hx, hb, hml, ho, -⟩ := S
  intro T hT X
  rcases vx_callS X hx (bytes := bytes) (maxL := maxL) (ret := ret) ho hl hstt hini hcode hy hK hg (hsize.trans hml.symm) (argsL := As) (rest := rest) (fun sig h => hn.trans (hlen sig h)) hstack hW (by rw [hb]; exact hdg)
    (fun vm₁ hW₁ => ⟨hf.1, hf.2, hp.2 (T.setVm vm₁) hT hW₁⟩) with ⟨v, vm₁, ⟨U', l2, c2, s2⟩, hW₁, X', ⟨g', mk, t, L, e1, e2, hq, h1, hL, h2, h3⟩, st⟩ | ⟨q, vm₁, ⟨U', l2, c2, s2⟩, hW₁, X', ⟨g', mk, t, L, E, ce, e1, e2, hq, hce, hcv, hcl, h1, hL, h2, h3⟩, st⟩
  · dsimp only [Pt.U, Pt.locs, Pt.cells, Pt.slots] at X' e1 e2 h1 h2 h3 st
    subst h1; subst h2; subst h3
    exact Or.inl ⟨v, (T.setVm vm₁).calling g' mk As.toArray, t, U', L, hT, X', hL, e1, e2, hq, st⟩
  · dsimp only [Pt.U, Pt.locs, Pt.cells, Pt.slots] at X' e1 e2 h1 h2 h3 st hcl
    subst h1; subst h2; subst h3
    exact Or.inr ⟨q, (T.setVm vm₁).calling g' mk As.toArray, t, U', L, E, ce, hT, X', hL, e1, e2, hq, hce, hcv, vx_cls hW₁ hcl, st⟩
end Runs
section Rows
variable {p : Program} {l : Launch} {e : Env} {R : Room} {s : State} {m : MethodId} {args : Array Value} {below : List Frame} {meth : Method} {c : Code} {H : Heap} {locs : List Loc} {cells slots : Nat} {Q : State → Prop}
variable {mc ms : Nat} {free : Addr → Prop} {A0 A1 : Nat → Prop} {H0 : Heap} {a : Array Value} {pc : Nat} {ls : Array Slot} {st0 rest : List Value}
theorem vx_keep {st₀ t T' : State} {L : List Loc} (h0 : st₀.heap = H) (e1 : T'.heap = t.heap) (hS : va_S A0 H0 H locs) (hA : ∀ q, q < H.size → A1 q → A0 q) (hf : ∀ q, free q → A0 q) (hL : ∀ q ∈ L, free q.base) (hF : va_F A1 st₀ t) :
    H.size ≤ T'.heap.size ∧ (∀ q : Nat, q < H.size → ¬ A1 q → T'.heap[q]? = H[q]?) ∧ va_S A0 H0 T'.heap (locs ++ L) := by
  obtain ⟨hz, hk⟩ := hF
  rw [h0] at hz hk
  exact ⟨by rw [e1]; exact hz, fun q h1 h2 => by rw [e1]; exact hk q h1 h2,
    ⟨Nat.le_trans hS.1 (by rw [e1]; exact hz), fun q h1 h2 => by rw [e1, hk q (Nat.lt_of_lt_of_le h1 hS.1) (fun z => h2 (hA q (Nat.lt_of_lt_of_le h1 hS.1) z))]; exact hS.2.1 q h1 h2, fun q hq => by
      rcases List.mem_append.mp hq with h | h
      · exact hS.2.2 q h
      · exact hf _ (hL q h)⟩⟩
theorem vx_calli {S SX : Type} {post : Int32 → S → Prop} {px : SX → Prop} {B : S → State → Prop} {BX : String → SX → State → Prop} {AX : Nat → Prop} (hr : vx_Run p l e R s m args below meth c H locs cells slots mc ms (F0 m pc ls st0) rest (va_Qi post B A1 a) (vx_X px BX AX) free) (hS : va_S A0 H0 H locs) (hA : ∀ q, q < H.size → A1 q → A0 q) (hf : ∀ q, free q → A0 q) (hAX : ∀ q, q < H.size → AX q → A0 q)
    (kx : ∀ (E : String) (ce : Cell) (q9 : Addr) (u : SX) (t : State) (H1 : Heap) (locs1 : List Loc), t.heap = H1 → s.vm.Alike t.vm → px u → BX E u t → H.size ≤ H1.size → (∀ q : Nat, q < H.size → ¬ AX q → H1[q]? = H[q]?) → va_S A0 H0 H1 locs1 → H1[q9]? = some ce → ce.vm = .none → s.vm.findClass E = some ce.cls → vx_W p l e R s m args below meth c H1 locs1 (cells + mc) (slots + ms) Q (F0 m pc ls rest) q9)
    (kk : ∀ (r : Int32) (u : S) (t : State) (H1 : Heap) (locs1 : List Loc), t.heap = H1 → s.vm.Alike t.vm → post r u → B u t → H.size ≤ H1.size → (∀ q : Nat, q < H.size → ¬ A1 q → H1[q]? = H[q]?) → va_S A0 H0 H1 locs1 → W p l e R s m args below meth c H1 locs1 (cells + mc) (slots + ms) Q (F0 m (pc + 3) ls (.int r :: rest))) : W p l e R s m args below meth c H locs cells slots Q (F0 m pc ls st0) := by
  intro T hT X
  rcases hr T hT X with ⟨v, st₀, t, T', L, h0, X', hL, e1, e2, ⟨⟨r, u, hv, hp, hb⟩, hF⟩, st⟩ | ⟨q, st₀, t, T', L, E, ce, h0, X', hL, e1, e2, ⟨u, hp, hb, hF⟩, hce, hcv, hcl, st⟩
  · cases hv
    obtain ⟨k1, k2, k3⟩ := vx_keep h0 e1 hS hA hf hL hF
    obtain ⟨t2, a1, b1⟩ := kk r u t T'.heap (locs ++ L) e1.symm (by rw [← e2]; exact X'.warmed.alike) hp hb k1 k2 k3 T' rfl X'
    exact ⟨t2, st t2 a1, b1⟩
  · obtain ⟨k1, k2, k3⟩ := vx_keep h0 e1 hS hAX hf hL hF
    obtain ⟨t2, a1, b1⟩ := kx E ce q u t T'.heap (locs ++ L) e1.symm (by rw [← e2]; exact X'.warmed.alike) hp hb k1 k2 k3 (by rw [e1]; exact hce) hcv hcl T' rfl X'
    exact ⟨t2, st.trans a1, b1⟩
theorem vx_calll {S SX : Type} {post : Int64 → S → Prop} {px : SX → Prop} {B : S → State → Prop} {BX : String → SX → State → Prop} {AX : Nat → Prop} (hr : vx_Run p l e R s m args below meth c H locs cells slots mc ms (F0 m pc ls st0) rest (va_Ql post B A1 a) (vx_X px BX AX) free) (hS : va_S A0 H0 H locs) (hA : ∀ q, q < H.size → A1 q → A0 q) (hf : ∀ q, free q → A0 q) (hAX : ∀ q, q < H.size → AX q → A0 q)
    (kx : ∀ (E : String) (ce : Cell) (q9 : Addr) (u : SX) (t : State) (H1 : Heap) (locs1 : List Loc), t.heap = H1 → s.vm.Alike t.vm → px u → BX E u t → H.size ≤ H1.size → (∀ q : Nat, q < H.size → ¬ AX q → H1[q]? = H[q]?) → va_S A0 H0 H1 locs1 → H1[q9]? = some ce → ce.vm = .none → s.vm.findClass E = some ce.cls → vx_W p l e R s m args below meth c H1 locs1 (cells + mc) (slots + ms) Q (F0 m pc ls rest) q9)
    (kk : ∀ (r : Int64) (u : S) (t : State) (H1 : Heap) (locs1 : List Loc), t.heap = H1 → s.vm.Alike t.vm → post r u → B u t → H.size ≤ H1.size → (∀ q : Nat, q < H.size → ¬ A1 q → H1[q]? = H[q]?) → va_S A0 H0 H1 locs1 → W p l e R s m args below meth c H1 locs1 (cells + mc) (slots + ms) Q (F0 m (pc + 3) ls (.long r :: rest))) : W p l e R s m args below meth c H locs cells slots Q (F0 m pc ls st0) := by
  intro T hT X
  rcases hr T hT X with ⟨v, st₀, t, T', L, h0, X', hL, e1, e2, ⟨⟨r, u, hv, hp, hb⟩, hF⟩, st⟩ | ⟨q, st₀, t, T', L, E, ce, h0, X', hL, e1, e2, ⟨u, hp, hb, hF⟩, hce, hcv, hcl, st⟩
  · cases hv
    obtain ⟨k1, k2, k3⟩ := vx_keep h0 e1 hS hA hf hL hF
    obtain ⟨t2, a1, b1⟩ := kk r u t T'.heap (locs ++ L) e1.symm (by rw [← e2]; exact X'.warmed.alike) hp hb k1 k2 k3 T' rfl X'
    exact ⟨t2, st t2 a1, b1⟩
  · obtain ⟨k1, k2, k3⟩ := vx_keep h0 e1 hS hAX hf hL hF
    obtain ⟨t2, a1, b1⟩ := kx E ce q u t T'.heap (locs ++ L) e1.symm (by rw [← e2]; exact X'.warmed.alike) hp hb k1 k2 k3 (by rw [e1]; exact hce) hcv hcl T' rfl X'
    exact ⟨t2, st.trans a1, b1⟩
theorem vx_callf {S SX : Type} {post : UInt32 → S → Prop} {px : SX → Prop} {B : S → State → Prop} {BX : String → SX → State → Prop} {AX : Nat → Prop} (hr : vx_Run p l e R s m args below meth c H locs cells slots mc ms (F0 m pc ls st0) rest (va_Qf post B A1 a) (vx_X px BX AX) free) (hS : va_S A0 H0 H locs) (hA : ∀ q, q < H.size → A1 q → A0 q) (hf : ∀ q, free q → A0 q) (hAX : ∀ q, q < H.size → AX q → A0 q)
    (kx : ∀ (E : String) (ce : Cell) (q9 : Addr) (u : SX) (t : State) (H1 : Heap) (locs1 : List Loc), t.heap = H1 → s.vm.Alike t.vm → px u → BX E u t → H.size ≤ H1.size → (∀ q : Nat, q < H.size → ¬ AX q → H1[q]? = H[q]?) → va_S A0 H0 H1 locs1 → H1[q9]? = some ce → ce.vm = .none → s.vm.findClass E = some ce.cls → vx_W p l e R s m args below meth c H1 locs1 (cells + mc) (slots + ms) Q (F0 m pc ls rest) q9)
    (kk : ∀ (r : UInt32) (u : S) (t : State) (H1 : Heap) (locs1 : List Loc), t.heap = H1 → s.vm.Alike t.vm → post r u → B u t → H.size ≤ H1.size → (∀ q : Nat, q < H.size → ¬ A1 q → H1[q]? = H[q]?) → va_S A0 H0 H1 locs1 → W p l e R s m args below meth c H1 locs1 (cells + mc) (slots + ms) Q (F0 m (pc + 3) ls (.float r :: rest))) : W p l e R s m args below meth c H locs cells slots Q (F0 m pc ls st0) := by
  intro T hT X
  rcases hr T hT X with ⟨v, st₀, t, T', L, h0, X', hL, e1, e2, ⟨⟨r, u, hv, hp, hb⟩, hF⟩, st⟩ | ⟨q, st₀, t, T', L, E, ce, h0, X', hL, e1, e2, ⟨u, hp, hb, hF⟩, hce, hcv, hcl, st⟩
  · cases hv
    obtain ⟨k1, k2, k3⟩ := vx_keep h0 e1 hS hA hf hL hF
    obtain ⟨t2, a1, b1⟩ := kk r u t T'.heap (locs ++ L) e1.symm (by rw [← e2]; exact X'.warmed.alike) hp hb k1 k2 k3 T' rfl X'
    exact ⟨t2, st t2 a1, b1⟩
  · obtain ⟨k1, k2, k3⟩ := vx_keep h0 e1 hS hAX hf hL hF
    obtain ⟨t2, a1, b1⟩ := kx E ce q u t T'.heap (locs ++ L) e1.symm (by rw [← e2]; exact X'.warmed.alike) hp hb k1 k2 k3 (by rw [e1]; exact hce) hcv hcl T' rfl X'
    exact ⟨t2, st.trans a1, b1⟩
theorem vx_calld {S SX : Type} {post : UInt64 → S → Prop} {px : SX → Prop} {B : S → State → Prop} {BX : String → SX → State → Prop} {AX : Nat → Prop} (hr : vx_Run p l e R s m args below meth c H locs cells slots mc ms (F0 m pc ls st0) rest (va_Qd post B A1 a) (vx_X px BX AX) free) (hS : va_S A0 H0 H locs) (hA : ∀ q, q < H.size → A1 q → A0 q) (hf : ∀ q, free q → A0 q) (hAX : ∀ q, q < H.size → AX q → A0 q)
    (kx : ∀ (E : String) (ce : Cell) (q9 : Addr) (u : SX) (t : State) (H1 : Heap) (locs1 : List Loc), t.heap = H1 → s.vm.Alike t.vm → px u → BX E u t → H.size ≤ H1.size → (∀ q : Nat, q < H.size → ¬ AX q → H1[q]? = H[q]?) → va_S A0 H0 H1 locs1 → H1[q9]? = some ce → ce.vm = .none → s.vm.findClass E = some ce.cls → vx_W p l e R s m args below meth c H1 locs1 (cells + mc) (slots + ms) Q (F0 m pc ls rest) q9)
    (kk : ∀ (r : UInt64) (u : S) (t : State) (H1 : Heap) (locs1 : List Loc), t.heap = H1 → s.vm.Alike t.vm → post r u → B u t → H.size ≤ H1.size → (∀ q : Nat, q < H.size → ¬ A1 q → H1[q]? = H[q]?) → va_S A0 H0 H1 locs1 → W p l e R s m args below meth c H1 locs1 (cells + mc) (slots + ms) Q (F0 m (pc + 3) ls (.double r :: rest))) : W p l e R s m args below meth c H locs cells slots Q (F0 m pc ls st0) := by
  intro T hT X
  rcases hr T hT X with ⟨v, st₀, t, T', L, h0, X', hL, e1, e2, ⟨⟨r, u, hv, hp, hb⟩, hF⟩, st⟩ | ⟨q, st₀, t, T', L, E, ce, h0, X', hL, e1, e2, ⟨u, hp, hb, hF⟩, hce, hcv, hcl, st⟩
  · cases hv
    obtain ⟨k1, k2, k3⟩ := vx_keep h0 e1 hS hA hf hL hF
    obtain ⟨t2, a1, b1⟩ := kk r u t T'.heap (locs ++ L) e1.symm (by rw [← e2]; exact X'.warmed.alike) hp hb k1 k2 k3 T' rfl X'
    exact ⟨t2, st t2 a1, b1⟩
  · obtain ⟨k1, k2, k3⟩ := vx_keep h0 e1 hS hAX hf hL hF
    obtain ⟨t2, a1, b1⟩ := kx E ce q u t T'.heap (locs ++ L) e1.symm (by rw [← e2]; exact X'.warmed.alike) hp hb k1 k2 k3 (by rw [e1]; exact hce) hcv hcl T' rfl X'
    exact ⟨t2, st.trans a1, b1⟩
theorem vx_callv {S SX : Type} {post : S → Prop} {px : SX → Prop} {B : S → State → Prop} {BX : String → SX → State → Prop} {AX : Nat → Prop} (hr : vx_Run p l e R s m args below meth c H locs cells slots mc ms (F0 m pc ls st0) rest (va_Qv post B A1 a) (vx_X px BX AX) free) (hS : va_S A0 H0 H locs) (hA : ∀ q, q < H.size → A1 q → A0 q) (hf : ∀ q, free q → A0 q) (hAX : ∀ q, q < H.size → AX q → A0 q)
    (kx : ∀ (E : String) (ce : Cell) (q9 : Addr) (u : SX) (t : State) (H1 : Heap) (locs1 : List Loc), t.heap = H1 → s.vm.Alike t.vm → px u → BX E u t → H.size ≤ H1.size → (∀ q : Nat, q < H.size → ¬ AX q → H1[q]? = H[q]?) → va_S A0 H0 H1 locs1 → H1[q9]? = some ce → ce.vm = .none → s.vm.findClass E = some ce.cls → vx_W p l e R s m args below meth c H1 locs1 (cells + mc) (slots + ms) Q (F0 m pc ls rest) q9)
    (kk : ∀ (u : S) (t : State) (H1 : Heap) (locs1 : List Loc), t.heap = H1 → s.vm.Alike t.vm → post u → B u t → H.size ≤ H1.size → (∀ q : Nat, q < H.size → ¬ A1 q → H1[q]? = H[q]?) → va_S A0 H0 H1 locs1 → W p l e R s m args below meth c H1 locs1 (cells + mc) (slots + ms) Q (F0 m (pc + 3) ls (rest))) : W p l e R s m args below meth c H locs cells slots Q (F0 m pc ls st0) := by
  intro T hT X
  rcases hr T hT X with ⟨v, st₀, t, T', L, h0, X', hL, e1, e2, ⟨⟨u, hv, hp, hb⟩, hF⟩, st⟩ | ⟨q, st₀, t, T', L, E, ce, h0, X', hL, e1, e2, ⟨u, hp, hb, hF⟩, hce, hcv, hcl, st⟩
  · cases hv
    obtain ⟨k1, k2, k3⟩ := vx_keep h0 e1 hS hA hf hL hF
    obtain ⟨t2, a1, b1⟩ := kk u t T'.heap (locs ++ L) e1.symm (by rw [← e2]; exact X'.warmed.alike) hp hb k1 k2 k3 T' rfl X'
    exact ⟨t2, st t2 a1, b1⟩
  · obtain ⟨k1, k2, k3⟩ := vx_keep h0 e1 hS hAX hf hL hF
    obtain ⟨t2, a1, b1⟩ := kx E ce q u t T'.heap (locs ++ L) e1.symm (by rw [← e2]; exact X'.warmed.alike) hp hb k1 k2 k3 (by rw [e1]; exact hce) hcv hcl T' rfl X'
    exact ⟨t2, st.trans a1, b1⟩
/-- caught by the row x of this method's table; the rows ahead don't take it -/
theorem vx_catch {own name : String} {E : String} {ce : Cell} {q : Addr} (hown : s.vm.findClass own = some m.cls) (pre : List ExceptionTableEntry) (x : ExceptionTableEntry) (suf : List ExceptionTableEntry) (hsplit : c.exceptionTable.toList = pre ++ x :: suf)
    (hpass : ∀ z ∈ pre, covers z pc = false ∨ (z.catchType ≠ 0 ∧ ∃ nm : String, (Cond.classLink own z.catchType nm).before args s = true ∧ va_Nc E nm s)) (hx : covers x pc = true) (h0 : x.catchType ≠ 0)
    (hlink : (Cond.classLink own x.catchType name).before args s = true) (hcast : (Cond.castable E name).before args s = true) (hcell : H[q]? = some ce) (hv : ce.vm = .none) (hcl : s.vm.findClass E = some ce.cls)
    (kk : W p l e R s m args below meth c H locs cells slots Q (F0 m x.handlerPc ls [.ref q])) : vx_W p l e R s m args below meth c H locs cells slots Q (F0 m pc ls rest) q := by
  intro T hT X
  have hpl : e.platform.magicAccessors = ({} : Platform).magicAccessors := by rw [X.admits.platform]
  obtain ⟨c3, c4, hc3, hc4, hasg⟩ := Cond.castable_spec hcast
  cases Option.some.inj (hc3.symm.trans hcl)
  obtain ⟨c5, hc5, hcl5⟩ := Cond.classLink_spec hown hlink e.platform hpl
  cases Option.some.inj (hc4.symm.trans hc5)
  obtain ⟨vm', X', st⟩ := X.thenCaughtThrough q (g := F0 m pc ls rest) rfl (Steps.refl _) (by rw [hT]; exact hcell) (by rw [hv]; rfl) (by obtain ⟨k9, h9, -⟩ := Vm.findClass_spec hcl; exact ⟨k9, h9⟩) pre x suf hsplit
    (fun z hz => by
      rcases hpass z hz with h | ⟨hz0, nm, hl1, hn1⟩
      · exact Or.inl h
      · obtain ⟨c6, hc6, hcl6⟩ := Cond.classLink_spec hown hl1 e.platform hpl
        obtain ⟨a8, b8, h1, h2, h3⟩ := hn1
        cases Option.some.inj (h1.symm.trans hcl)
        cases Option.some.inj (h2.symm.trans hc6)
        exact Or.inr ⟨hz0, _, hcl6, h3⟩) hx (Or.inr ⟨h0, c4, hcl5, hasg⟩)
  obtain ⟨t, a1, b1⟩ := kk (T.setVm vm') hT X'
  exact ⟨t, st.trans a1, b1⟩
end Rows
section Ends
variable {p : Program} {l : Launch} {e : Env} {R : Room} {s : State} {m : MethodId} {args : Array Value} {below : List Frame} {meth : Method} {c : Code} {H : Heap} {locs : List Loc} {cells slots : Nat} {Q : State → Prop}
variable {mc ms : Nat} {free : Addr → Prop} {A0 A1 : Nat → Prop} {H0 : Heap} {a : Array Value} {ls : Array Slot} {st0 rest : List Value}
variable {Qc : Array Value → State → Outcome → State → Prop} {XC : String → State → State → Prop}
/-- what a body that may throw owes at its end -/
def vx_MQ (below : List Frame) (Qc : Array Value → State → Outcome → State → Prop) (XC : String → State → State → Prop) (a : Array Value) (s : State) (mc ms : Nat) (free : Addr → Prop) : State → Prop := fun t =>
  ∃ o, t.status = .running ∧ Ended t below o ∧ vx_Q Qc XC mc ms free a s o t
theorem vx_ret {g : JFrame} {mc ms : Nat} (k : W p l e R s m args below meth c H locs cells slots (MQ below Qc args s mc ms free) g) : W p l e R s m args below meth c H locs cells slots (vx_MQ below Qc XC args s mc ms free) g := by
  intro T hT X
  obtain ⟨t, a1, o, b1, b2, b3, b4⟩ := k T hT X
  exact ⟨t, a1, o, b1, b2, Or.inl ⟨b3, b4⟩⟩
/-- not caught here: it goes on to the caller -/
theorem vx_widen {g : JFrame} {q : Addr} {k n : Nat} (h1 : cells ≤ k) (h2 : slots ≤ n) (kk : vx_W p l e R s m args below meth c H locs k n Q g q) : vx_W p l e R s m args below meth c H locs cells slots Q g q := fun T hT X => kk T hT (stand_widen X h1 h2)
theorem vx_out {pc : Nat} {E : String} {ce : Cell} {q : Addr} {mc ms : Nat} (hout : ∀ x ∈ c.exceptionTable.toList, covers x pc = false) (hlocks : meth.locks = false) (hcell : H[q]? = some ce) (hv : ce.vm = .none) (hcl : s.vm.findClass E = some ce.cls)
    (hx : ∀ t : State, t.heap = H → s.vm.Alike t.vm → XC E s t) (hf : ∀ z ∈ locs, free z.base) (hc : cells ≤ mc) (hs : slots ≤ ms) :
    vx_W p l e R s m args below meth c H locs cells slots (vx_MQ below Qc XC args s mc ms free) (F0 m pc ls rest) q := by
  intro T hT X
  obtain ⟨st1, hrun, hend, hW, hsm⟩ := X.leaveThrown q (g := F0 m pc ls rest) rfl rfl rfl hout hlocks
  have hcell9 : (T.setFrames (.throwing q :: below)).heap[q]? = some ce := by
    show T.heap[q]? = some ce
    rw [hT]; exact hcell
  exact ⟨_, st1, .threw q, hrun, hend, Or.inr ⟨q, rfl, E, ce, locs, hx _ hT hW.alike, hcell9, hv, hcl, hW, hsm.mono hc hs, hf⟩⟩
theorem vx_frame {U : State} {k n : Nat} (h : s.sameButNew ({ U with vm := s.vm } : State) locs k n) : s.heap.size ≤ U.heap.size ∧ ∀ q : Nat, q < s.heap.size → (∀ z ∈ locs, z.base ≠ q) → U.heap[q]? = s.heap[q]? := by
  obtain ⟨-, h2, -, -, -, h6⟩ := h
  refine ⟨h2, fun q hq hz => ?_⟩
  obtain ⟨c9, e1, e2, e3, e4⟩ := h6 q _ (Array.getElem?_eq_getElem hq)
  have hs : c9.slots = (s.heap[q]).slots := Array.ext_getElem? fun i => e4 i fun hm => hz _ hm rfl
  have h9 : c9 = s.heap[q] := by
    rw [hs] at e2
    exact e2
  have e5 : U.heap[q]? = some c9 := e1
  rw [e5, h9, Array.getElem?_eq_getElem hq]
/-- the words of a throw but the four that speak of the heap -/
def vx_no (w : Cond) : Bool := decide (w ≠ .isRef (.static Bundle.tN "UNASSIGNED_STACK" Bundle.steD)) && decide (w ≠ .isRef (.static Bundle.tN "SUPPRESSED_SENTINEL" Bundle.listD)) && decide (w ≠ .laysStatic Bundle.tN "UNASSIGNED_STACK" Bundle.steD) && decide (w ≠ .laysStatic Bundle.tN "SUPPRESSED_SENTINEL" Bundle.listD)
def vx_at0 (own : String) (ic : Nat) (X : String) (names : List String) : List Cond := (Bundle.ownAtoms0 own ic X names).filter vx_no
def vx_atS (own : String) (ic : Nat) (X : String) (names : List String) : List Cond := (Bundle.ownAtoms own ic X names).filter vx_no
/-- a word that the tables alone decide, or a good one -/
def vx_ot (w : Cond) : Bool := w.onTables || goodWord w
theorem vx_ot_at {args a' : Array Value} {s U : State} {w : Cond} (hW : s.WarmedH U.vm) (hvm : s.vm = U.vm) (hg : vx_ot w = true) (h : w.before args s = true) : w.before a' U = true := by
  simp only [vx_ot, Bool.or_eq_true] at hg
  rcases hg with hg | hg
  · exact va_tabs hg hvm h
  · exact word_at hW (good_of_word hg) h
/-- a list's words: the good ones out of the method's own list, the others by premises of their own -/
theorem vx_hat {args : Array Value} {s : State} {L B : List Cond} (h1 : ∀ w ∈ L.filter goodWord, w.before args s = true) (h2 : ∀ w ∈ L.filter (fun w => !goodWord w), w ∈ B) (h3 : ∀ w ∈ B, w.before args s = true) : ∀ w ∈ L, w.before args s = true := by
  intro w hw
  by_cases g : goodWord w = true
  · exact h1 w (List.mem_filter.mpr ⟨hw, g⟩)
  · refine h3 w (h2 w (List.mem_filter.mpr ⟨hw, ?_⟩))
    show (!goodWord w) = true
    cases hgw : goodWord w
    · rfl
    · exact absurd hgw g
theorem vx_c {args : Array Value} {s : State} {w : Cond} {B : List Cond} (h : w.before args s = true) (t : ∀ w ∈ B, w.before args s = true) : ∀ w' ∈ w :: B, w'.before args s = true := fun w' h' => (List.mem_cons.mp h').elim (fun e => by rw [e]; exact h) (t w')
theorem vx_n {args : Array Value} {s : State} : ∀ w ∈ ([] : List Cond), w.before args s = true := fun _ h => nomatch h
theorem vx_own {args : Array Value} {s : State} {L : List Cond} (h1 : ∀ w ∈ L.filter vx_no, w.before args s = true)
    (hU : (Cond.isRef (.static Bundle.tN "UNASSIGNED_STACK" Bundle.steD)).before args s = true) (hN : (Cond.isRef (.static Bundle.tN "SUPPRESSED_SENTINEL" Bundle.listD)).before args s = true)
    (lU : (Cond.laysStatic Bundle.tN "UNASSIGNED_STACK" Bundle.steD).before args s = true) (lN : (Cond.laysStatic Bundle.tN "SUPPRESSED_SENTINEL" Bundle.listD).before args s = true) : ∀ w ∈ L, w.before args s = true := by
  intro w hw
  by_cases e1 : w = .isRef (.static Bundle.tN "UNASSIGNED_STACK" Bundle.steD)
  · rw [e1]; exact hU
  · by_cases e2 : w = .isRef (.static Bundle.tN "SUPPRESSED_SENTINEL" Bundle.listD)
    · rw [e2]; exact hN
    · by_cases e3 : w = .laysStatic Bundle.tN "UNASSIGNED_STACK" Bundle.steD
      · rw [e3]; exact lU
      · by_cases e4 : w = .laysStatic Bundle.tN "SUPPRESSED_SENTINEL" Bundle.listD
        · rw [e4]; exact lN
        · exact h1 w (List.mem_filter.mpr ⟨hw, by unfold vx_no; rw [decide_eq_true e1, decide_eq_true e2, decide_eq_true e3, decide_eq_true e4]; rfl⟩)
/-- where a static field lies, its class's statics cell in H -/
def vx_L (C n d : String) (A : Nat → Prop) (U : State) (H : Heap) : Prop := ∃ (c : ClassId) (k : Class) (i : Nat) (f : Field) (a : Nat) (cell : Cell), U.vm.findClass C = some c ∧ U.fieldFound? C n d = some (c, k, i, f) ∧ f.isStatic = true ∧ k.statics = some a ∧ H[a]? = some cell ∧ cell.vm.isStatics = true ∧ cell.cls = c ∧ f.slot < cell.slots.size ∧ k.staticTypes[f.slot]? = some f.type ∧ ¬ A a
theorem vx_L.moved {C n d : String} {A : Nat → Prop} {u U : State} {H : Heap} (hvm : u.vm.Alike U.vm) (h : vx_L C n d A u H) : vx_L C n d A U H := by
  obtain ⟨c, k, i, f, a, cell, h1, h2, h3, h4, h5, h6, h7, h8, h9, h10⟩ := h
  obtain ⟨k', hi', he⟩ := State.fieldFound?_setVm hvm h2
  exact ⟨c, k', i, f, a, cell, by rw [hvm.findClass]; exact h1, hi', h3, by rw [he]; exact h4, h5, h6, h7, h8, by rw [he]; exact h9, h10⟩
theorem vx_L.kept {C n d : String} {A : Nat → Prop} {U : State} {H H1 : Heap} (h : vx_L C n d A U H) (hq : ∀ a : Nat, a < H.size → ¬ A a → H1[a]? = H[a]?) : vx_L C n d A U H1 := by
  obtain ⟨c, k, i, f, a, cell, h1, h2, h3, h4, h5, h6, h7, h8, h9, h10⟩ := h
  exact ⟨c, k, i, f, a, cell, h1, h2, h3, h4, by rw [hq a (Array.getElem?_eq_some_iff.mp h5).1 h10]; exact h5, h6, h7, h8, h9, h10⟩
theorem vx_L.narrow {C n d : String} {A B : Nat → Prop} {U : State} {H : Heap} (h : vx_L C n d A U H) (hAB : ∀ q, B q → A q) : vx_L C n d B U H := by
  obtain ⟨c, k, i, f, a, cell, h1, h2, h3, h4, h5, h6, h7, h8, h9, h10⟩ := h
  exact ⟨c, k, i, f, a, cell, h1, h2, h3, h4, h5, h6, h7, h8, h9, fun z => h10 (hAB _ z)⟩
theorem vx_L.word {C n d : String} {A : Nat → Prop} {s : State} {args : Array Value} (h : vx_L C n d A s s.heap) : (Cond.laysStatic C n d).before args s = true := by
  obtain ⟨c, k, i, f, a, cell, h1, h2, h3, h4, h5, h6, h7, h8, h9, -⟩ := h
  show (Cond.laysStatic C n d).holds args s none s [] = true
  exact Cond.laysStatic_of h1 h2 h3 h4 h5 h6 h7 h8 h9
/-- .. and what it holds: null or some reference -/
def vx_Zq (C n d : String) (A : Nat → Prop) (U : State) (H : Heap) : Prop := va_Zq C n d A U H ∧ vx_L C n d A U H
theorem vx_Zq.moved {C n d : String} {A : Nat → Prop} {u U : State} {H : Heap} (hvm : u.vm.Alike U.vm) (h : vx_Zq C n d A u H) : vx_Zq C n d A U H := ⟨va_Zq.moved hvm h.1, vx_L.moved hvm h.2⟩
theorem vx_Zq.kept {C n d : String} {A : Nat → Prop} {U : State} {H H1 : Heap} (h : vx_Zq C n d A U H) (hq : ∀ a : Nat, a < H.size → ¬ A a → H1[a]? = H[a]?) : vx_Zq C n d A U H1 := ⟨va_Zq.kept h.1 hq, vx_L.kept h.2 hq⟩
theorem vx_Zq.narrow {C n d : String} {A B : Nat → Prop} {U : State} {H : Heap} (h : vx_Zq C n d A U H) (hAB : ∀ q, B q → A q) : vx_Zq C n d B U H := ⟨va_Zq.narrow h.1 hAB, vx_L.narrow h.2 hAB⟩
theorem vx_Zqof {args : Array Value} {s : State} {C n d : String} {A : Nat → Prop} (hl : (Cond.laysStatic C n d).before args s = true) (hini : (Cond.initialized C).before args s = true) (h : (Cond.isRef (.static C n d)).before args s = true) (hA : ∀ a : Nat, a < s.heap.size → ¬ A a) : vx_Zq C n d A s s.heap := by
  refine ⟨va_Zqof hl hini h hA, ?_⟩
  obtain ⟨c, k, i, f, a, cell, h1, h2, h3, h4, h5, h6, h7, h8, h9⟩ := Cond.laysStatic_spec hl
  exact ⟨c, k, i, f, a, cell, h1, h2, h3, h4, h5, h6, h7, h8, h9, hA a (Array.getElem?_eq_some_iff.mp h5).1⟩
theorem vx_isRef {C n d : String} {v : Value} {A : Nat → Prop} {s : State} {args : Array Value} (h : va_Z C n d v A s s.heap) (hv : v.isRef = true) : (Cond.isRef (.static C n d)).before args s = true := by
  obtain ⟨cf, kf, fi, f, a, cell, h1, h2, h3, h4, h5, h6, h7, -⟩ := h
  have he : (Term.static C n d).eval args s none [] s = some v := by
    simp [Term.eval, State.fieldNamed?, h1, h2, h4, h5, h6, h7]
  simp only [Cond.before, Cond.holds, Cond.value, he]
  cases v <;> simp_all [Value.isRef]
theorem vx_isRefq {C n d : String} {A : Nat → Prop} {s : State} {args : Array Value} (h : va_Zq C n d A s s.heap) : (Cond.isRef (.static C n d)).before args s = true := by
  rcases h with h | ⟨t, h⟩
  · exact vx_isRef h rfl
  · exact vx_isRef h rfl
/-- the same frame, seen from here: as if the method were called anew in this heap -/
theorem vx_rebase {T : State} (X : Stand p l e R s m args below meth c T locs cells slots) {R' : Room} (hf : R'.frames ≤ R.frames) (hl : R'.locals ≤ R.locals) (hc : cells + R'.cells ≤ R.cells) (hs : slots + R'.slots ≤ R.slots) :
    Stand p l e R' ((T.setVm s.vm).setFrames (.invoking m args :: below)) m args below meth c T [] 0 0 := by
  have htop : (T.setVm s.vm).topJava?.isSome := X.here.top
  have hF : ((T.setVm s.vm).setFrames (.invoking m args :: below)).frames = .invoking m args :: below := State.frames_setFrames _ (State.cur_lt_of_top htop)
  obtain ⟨g₀, hg0⟩ := Option.isSome_iff_exists.mp htop
  obtain ⟨r, hr⟩ := State.topJava?_eq_some.mp hg0
  have hl9 : e.platform.stackLimits (T.setVm s.vm).me = e.platform.stackLimits s.me := X.limits
  have hb9 : (T.setVm s.vm).me.stackBytes = s.me.stackBytes := X.bytes
  refine ⟨X.admits, X.cas, X.clock, hF, ?_, X.hears, X.method, X.code, X.here, X.tail, X.warmed, ?_, ?_, ?_⟩
  · have h := X.room
    have hU : ((T.setVm s.vm).setFrames (.invoking m args :: below)).localsInUse = s.localsInUse := by
      rw [State.localsInUse_invoking hF (meth := meth) (c := c) X.method X.code, State.localsInUse_invoking X.frames X.method X.code]
    simp only [State.hasRoom, Bool.and_eq_true, decide_eq_true_eq] at h ⊢
    obtain ⟨⟨⟨⟨h1, h2, h3, h4, h5, h6⟩, h7⟩, h8⟩, h9⟩ := h
    rw [X.frames, List.length_cons] at h2 h3
    have q1 := X.heapSize
    have q2 := X.used
    simp only [hF, hU, List.length_cons, State.stackLimits_setFrames, State.stackBytes_setFrames, hl9, hb9]
    refine ⟨⟨⟨⟨by omega, by omega, by omega, by omega, by omega, h6⟩, ?_⟩, ?_⟩, X.book⟩
    · show T.heap.size + R'.cells ≤ e.platform.maxCells
      omega
    · show T.slotsUsed + R'.slots ≤ e.platform.maxSlots
      omega
  · rw [State.stackLimits_setFrames]; rfl
  · rw [State.stackBytes_setFrames]; rfl
  · refine ⟨?_, Nat.le_refl _, Nat.le_refl _, ?_, ?_, fun a c9 h9 => ⟨c9, h9, rfl, rfl, fun _ _ => rfl⟩⟩
    · obtain ⟨t, ht, -⟩ := State.frames_cons hr
      show T.setVm s.vm = { ((T.setVm s.vm).setFrames (.invoking m args :: below)).setFrames (T.setVm s.vm).frames with heap := T.heap, slotsUsed := T.slotsUsed }
      rw [State.setFrames_setFrames, State.setFrames_self ht]
      rfl
    · show T.slotsUsed = T.slotsUsed + ((T.heap.toList.drop T.heap.size).map (·.slots.size)).sum
      rw [List.drop_eq_nil_of_le (Nat.le_of_eq Array.length_toList)]
      rfl
    · show ((T.heap.toList.drop T.heap.size).map (·.slots.size)).sum ≤ 0
      rw [List.drop_eq_nil_of_le (Nat.le_of_eq Array.length_toList)]
      exact Nat.le_refl _
/-- 'throw new E()': new; dup; invokespecial; athrow -/
theorem vx_throw0 {cc : ByteArray} {pc : Nat} (hexec : p.tables.exec = Jvm.exec) (hb : c.code = cc) (hl : l.stackTraces = false) {own cls : String} {names : List String} {ik ic mc ms : Nat} {A : Nat → Prop}
    (hown : s.vm.findClass own = some m.cls) (hcls : Bundle.fit cls = true) (hnames : ∀ n ∈ names, Bundle.fit n = true)
    (hk : (Cond.classLink own ik cls).before args s = true) (hini : (Cond.initialized cls).before args s = true) (hat : ∀ w ∈ vx_at0 own ic cls names, w.before args s = true)
    (hgood : ∀ w ∈ Cond.classLink own ik cls :: Cond.initialized cls :: vx_at0 own ic cls names, vx_ot w = true)
    (hU : vx_Zq Bundle.tN "UNASSIGNED_STACK" Bundle.steD A s s.heap) (hN : vx_Zq Bundle.tN "SUPPRESSED_SENTINEL" Bundle.listD A s s.heap) (hS : va_S A s.heap H locs) (hsize : ls.size = c.maxLocals)
    (d0 : decode cc pc = .ok (.new ik, 3)) (d3 : decode cc (pc + 3) = .ok (.dup, 1)) (d4 : decode cc (pc + 4) = .ok (.invokespecial ic, 3)) (d7 : decode cc (pc + 7) = .ok (.athrow, 1))
    (hout : ∀ x ∈ c.exceptionTable.toList, covers x (pc + 7) = false)
    (hRframes : names.length + 3 < R.frames) (hRlocals : (rest.map fun v => v.category).sum + (13 * (names.length + 1) + 42) ≤ R.locals) (hRcells : cells + 1 ≤ R.cells) (hRslots : slots + 6 ≤ R.slots) (hlocks : meth.locks = false)
    (hx : ∀ t : State, s.vm.Alike t.vm → H.size ≤ t.heap.size → (∀ q : Nat, q < H.size → t.heap[q]? = H[q]?) → XC cls s t)
    (hf : ∀ z ∈ locs, free z.base) (hc : cells + 1 ≤ mc) (hs : slots + 6 ≤ ms) :
    W p l e R s m args below meth c H locs cells slots (vx_MQ below Qc XC args s mc ms free) (F0 m pc ls rest) := by
  intro T hT X
  have htr : e.platform.stackTraces = false := (show e.platform.stackTraces = l.stackTraces by rw [X.admits.platform]).trans hl
  have Y := vx_rebase X (R' := { frames := R.frames, locals := R.locals, cells := 1, slots := 6 }) (Nat.le_refl _) (Nat.le_refl _) hRcells hRslots
  obtain ⟨s', hA⟩ : ∃ z, z = (T.setVm s.vm).setFrames (.invoking m args :: below) := ⟨_, rfl⟩
  rw [← hA] at Y
  have hvm : s'.vm = s.vm := by rw [hA]; rfl
  have hhp : s'.heap = H := by rw [hA]; exact hT
  have hW0 : s.WarmedH s'.vm := by rw [hvm]; exact State.WarmedH.refl s
  have hat' : ∀ w ∈ vx_at0 own ic cls names, w.before args s' = true := fun w hw => vx_ot_at hW0 hvm.symm (hgood w (List.mem_cons_of_mem _ (List.mem_cons_of_mem _ hw))) (hat w hw)
  have hk' : (Cond.classLink own ik cls).before args s' = true := vx_ot_at hW0 hvm.symm (hgood _ List.mem_cons_self) hk
  have hini' : (Cond.initialized cls).before args s' = true := vx_ot_at hW0 hvm.symm (hgood _ (List.mem_cons_of_mem _ List.mem_cons_self)) hini
  have hU' : vx_Zq Bundle.tN "UNASSIGNED_STACK" Bundle.steD A s' s'.heap := by rw [hhp]; exact vx_Zq.moved hW0.alike (hU.kept hS.2.1)
  have hN' : vx_Zq Bundle.tN "SUPPRESSED_SENTINEL" Bundle.listD A s' s'.heap := by rw [hhp]; exact vx_Zq.moved hW0.alike (hN.kept hS.2.1)
  have h : ∀ w ∈ Bundle.ownAtoms0 own ic cls names, w.before args s' = true := vx_own hat' (vx_isRefq hU'.1) (vx_isRefq hN'.1) hU'.2.word hN'.2.word
  have hown' : s'.vm.findClass own = some m.cls := by rw [hvm]; exact hown
  have hins : (Cond.instantiable cls 6).before args s' = true := h _ (by simp [Bundle.ownAtoms0])
  obtain ⟨vm₁, cX, kX, hfX, hkX, -, -, X₁, st1⟩ := Y.newCold hexec (own := own) (C := cls) (index := ik) (n := 6) hown' hk' hins hini'
    (g := F0 m pc ls rest) rfl (by rw [hb]; exact d0) (Nat.le_refl _) (Nat.le_refl _)
  generalize hT1 : (T.setVm vm₁).pushCell { cls := cX, slots := kX.instanceTypes.map defaultValue, vm := .none } = T1 at X₁ st1
  have hcat : (Value.ref T.heap.size).category = 1 := rfl
  have hcellA : T1.heap[T.heap.size]? = some (freshCell cX kX) := by rw [← hT1]; exact State.heap_pushCell_size _ _
  have d3' : decode c.code (pc + 3) = .ok (.dup, 1) := by rw [hb]; exact d3
  obtain ⟨U, hsteps, hrun, hend, hW, hsame, ce, hce, hO⟩ := X₁.ctorThrow0 hexec htr (own := own) (cls := cls) (names := names) (ic := ic) hown' hcls hnames h (fun x hx => nomatch hx) hfX hkX hcellA (by rw [hhp, hT]; exact Nat.le_refl _)
    (g := { method := m, pc := pc + 4, locals := ls, stack := .ref T.heap.size :: .ref T.heap.size :: rest, locked := none }) rfl hsize rfl rfl (rest := rest) rfl
    (by rw [hb]; exact d4) (by rw [hb]; exact d7) hout hRframes (by simp only [List.map_cons, List.sum_cons, hcat]; omega) hlocks
  obtain ⟨f1, f2⟩ := vx_frame hsame
  rw [hhp] at f1 f2
  have hWs : s.WarmedH U.vm := State.WarmedH.trans hW0 hW
  have hcl : s.vm.findClass cls = some ce.cls := by
    have h9 := hO.cls
    rw [hvm] at h9
    exact h9
  have hall : s.sameButNew ({ U with vm := s.vm } : State) locs mc ms := by
    subst hA
    obtain ⟨e1, e2⟩ := hsame
    rw [State.setFrames_setFrames] at e1
    have h2 : (T.setVm s.vm).sameButNew ({ U with vm := s.vm } : State) [] (0 + 1) (0 + 6) := ⟨e1, e2⟩
    have h3 := X.same.trans h2
    rw [List.append_nil] at h3
    exact h3.mono hc hs
  refine ⟨U, ?_, .threw T.heap.size, hrun, hend, Or.inr ⟨T.heap.size, rfl, cls, ce, locs, hx U hWs.alike f1 (fun q hq => f2 q hq (fun z hz => nomatch hz)), hce, hO.vm, hcl, hWs, hall, hf⟩⟩
  refine st1 _ ?_
  show Steps p.tables e below (T1.setTop { method := m, pc := pc + 3, locals := ls, stack := .ref T.heap.size :: rest, locked := none }) _
  jvm_step X₁.here [X₁.here.top, hexec, d3', Value.category]
  exact hsteps
/-- 'throw new E("text")': new; dup; ldc; invokespecial; athrow -/
theorem vx_throwS {cc : ByteArray} {pc : Nat} (hexec : p.tables.exec = Jvm.exec) (hb : c.code = cc) (hl : l.stackTraces = false) {own cls text : String} {names : List String} {ik is ic mc ms sa : Nat} {A : Nat → Prop}
    (hown : s.vm.findClass own = some m.cls) (hcls : Bundle.fit cls = true) (hnames : ∀ n ∈ names, Bundle.fit n = true)
    (hk : (Cond.classLink own ik cls).before args s = true) (hini : (Cond.initialized cls).before args s = true) (hstr : vk_R own is text sa s) (hat : ∀ w ∈ vx_atS own ic cls names, w.before args s = true)
    (hgood : ∀ w ∈ Cond.classLink own ik cls :: Cond.initialized cls :: vx_atS own ic cls names, vx_ot w = true)
    (hU : vx_Zq Bundle.tN "UNASSIGNED_STACK" Bundle.steD A s s.heap) (hN : vx_Zq Bundle.tN "SUPPRESSED_SENTINEL" Bundle.listD A s s.heap) (hS : va_S A s.heap H locs) (hsize : ls.size = c.maxLocals)
    (d0 : decode cc pc = .ok (.new ik, 3)) (d3 : decode cc (pc + 3) = .ok (.dup, 1)) (d4 : decode cc (pc + 4) = .ok (.ldc is, 2)) (d6 : decode cc (pc + 6) = .ok (.invokespecial ic, 3)) (d9 : decode cc (pc + 9) = .ok (.athrow, 1))
    (hout : ∀ x ∈ c.exceptionTable.toList, covers x (pc + 9) = false)
    (hRframes : names.length + 3 < R.frames) (hRlocals : (rest.map fun v => v.category).sum + (13 * (names.length + 1) + 43) ≤ R.locals) (hRcells : cells + 1 ≤ R.cells) (hRslots : slots + 6 ≤ R.slots) (hlocks : meth.locks = false)
    (hx : ∀ t : State, s.vm.Alike t.vm → H.size ≤ t.heap.size → (∀ q : Nat, q < H.size → t.heap[q]? = H[q]?) → XC cls s t)
    (hf : ∀ z ∈ locs, free z.base) (hc : cells + 1 ≤ mc) (hs : slots + 6 ≤ ms) :
    W p l e R s m args below meth c H locs cells slots (vx_MQ below Qc XC args s mc ms free) (F0 m pc ls rest) := by
  intro T hT X
  have htr : e.platform.stackTraces = false := (show e.platform.stackTraces = l.stackTraces by rw [X.admits.platform]).trans hl
  have Y := vx_rebase X (R' := { frames := R.frames, locals := R.locals, cells := 1, slots := 6 }) (Nat.le_refl _) (Nat.le_refl _) hRcells hRslots
  obtain ⟨s', hA⟩ : ∃ z, z = (T.setVm s.vm).setFrames (.invoking m args :: below) := ⟨_, rfl⟩
  rw [← hA] at Y
  have hvm : s'.vm = s.vm := by rw [hA]; rfl
  have hhp : s'.heap = H := by rw [hA]; exact hT
  have hW0 : s.WarmedH s'.vm := by rw [hvm]; exact State.WarmedH.refl s
  have hat' : ∀ w ∈ vx_atS own ic cls names, w.before args s' = true := fun w hw => vx_ot_at hW0 hvm.symm (hgood w (List.mem_cons_of_mem _ (List.mem_cons_of_mem _ hw))) (hat w hw)
  have hk' : (Cond.classLink own ik cls).before args s' = true := vx_ot_at hW0 hvm.symm (hgood _ List.mem_cons_self) hk
  have hini' : (Cond.initialized cls).before args s' = true := vx_ot_at hW0 hvm.symm (hgood _ (List.mem_cons_of_mem _ List.mem_cons_self)) hini
  have hU' : vx_Zq Bundle.tN "UNASSIGNED_STACK" Bundle.steD A s' s'.heap := by rw [hhp]; exact vx_Zq.moved hW0.alike (hU.kept hS.2.1)
  have hN' : vx_Zq Bundle.tN "SUPPRESSED_SENTINEL" Bundle.listD A s' s'.heap := by rw [hhp]; exact vx_Zq.moved hW0.alike (hN.kept hS.2.1)
  have h : ∀ w ∈ Bundle.ownAtoms own ic cls names, w.before args s' = true := vx_own hat' (vx_isRefq hU'.1) (vx_isRefq hN'.1) hU'.2.word hN'.2.word
  have hown' : s'.vm.findClass own = some m.cls := by rw [hvm]; exact hown
  have hins : (Cond.instantiable cls 6).before args s' = true := h _ (by simp [Bundle.ownAtoms])
  obtain ⟨vm₁, cX, kX, hfX, hkX, -, -, X₁, st1⟩ := Y.newCold hexec (own := own) (C := cls) (index := ik) (n := 6) hown' hk' hins hini'
    (g := F0 m pc ls rest) rfl (by rw [hb]; exact d0) (Nat.le_refl _) (Nat.le_refl _)
  generalize hT1 : (T.setVm vm₁).pushCell { cls := cX, slots := kX.instanceTypes.map defaultValue, vm := .none } = T1 at X₁ st1
  have hcat : (Value.ref T.heap.size).category = 1 := rfl
  have hcellA : T1.heap[T.heap.size]? = some (freshCell cX kX) := by rw [← hT1]; exact State.heap_pushCell_size _ _
  have d3' : decode c.code (pc + 3) = .ok (.dup, 1) := by rw [hb]; exact d3
  have d4' : decode c.code (pc + 4) = .ok (.ldc is, 2) := by rw [hb]; exact d4
  have hstr' : vk_R own is text sa s' := vk_R.warm hW0 hstr
  obtain ⟨U, hsteps, hrun, hend, hW, hsame, ce, hce, hO⟩ := X₁.ctorThrowS hexec htr (own := own) (cls := cls) (names := names) (ic := ic) hown' hcls hnames h (fun x hx => nomatch hx) hfX hkX hcellA (by rw [hhp, hT]; exact Nat.le_refl _) (msg := .ref sa) rfl
    (g := { method := m, pc := pc + 6, locals := ls, stack := .ref sa :: .ref T.heap.size :: .ref T.heap.size :: rest, locked := none }) rfl hsize rfl rfl (rest := rest) rfl
    (by rw [hb]; exact d6) (by rw [hb]; exact d9) hout hRframes (by simp only [List.map_cons, List.sum_cons, hcat]; omega) hlocks
  obtain ⟨f1, f2⟩ := vx_frame hsame
  rw [hhp] at f1 f2
  have hWs : s.WarmedH U.vm := State.WarmedH.trans hW0 hW
  have hcl : s.vm.findClass cls = some ce.cls := by
    have h9 := hO.cls
    rw [hvm] at h9
    exact h9
  have hall : s.sameButNew ({ U with vm := s.vm } : State) locs mc ms := by
    subst hA
    obtain ⟨e1, e2⟩ := hsame
    rw [State.setFrames_setFrames] at e1
    have h2 : (T.setVm s.vm).sameButNew ({ U with vm := s.vm } : State) [] (0 + 1) (0 + 6) := ⟨e1, e2⟩
    have h3 := X.same.trans h2
    rw [List.append_nil] at h3
    exact h3.mono hc hs
  refine ⟨U, ?_, .threw T.heap.size, hrun, hend, Or.inr ⟨T.heap.size, rfl, cls, ce, locs, hx U hWs.alike f1 (fun q hq => f2 q hq (fun z hz => nomatch hz)), hce, hO.vm, hcl, hWs, hall, hf⟩⟩
  refine st1 _ ?_
  show Steps p.tables e below (T1.setTop { method := m, pc := pc + 3, locals := ls, stack := .ref T.heap.size :: rest, locked := none }) _
  jvm_step X₁.here [X₁.here.top, hexec, d3', Value.category]
  exact X₁.ldcString hexec (own := own) (text := text) (index := is) (a := sa) hown' hstr'.1 hstr'.2
    (g := { method := m, pc := pc + 4, locals := ls, stack := .ref T.heap.size :: .ref T.heap.size :: rest, locked := none }) rfl d4' _ hsteps
/-- 'throw new E("text")', the text by a wide index -/
theorem vx_throwSW {cc : ByteArray} {pc : Nat} (hexec : p.tables.exec = Jvm.exec) (hb : c.code = cc) (hl : l.stackTraces = false) {own cls text : String} {names : List String} {ik is ic mc ms sa : Nat} {A : Nat → Prop}
    (hown : s.vm.findClass own = some m.cls) (hcls : Bundle.fit cls = true) (hnames : ∀ n ∈ names, Bundle.fit n = true)
    (hk : (Cond.classLink own ik cls).before args s = true) (hini : (Cond.initialized cls).before args s = true) (hstr : vk_R own is text sa s) (hat : ∀ w ∈ vx_atS own ic cls names, w.before args s = true)
    (hgood : ∀ w ∈ Cond.classLink own ik cls :: Cond.initialized cls :: vx_atS own ic cls names, vx_ot w = true)
    (hU : vx_Zq Bundle.tN "UNASSIGNED_STACK" Bundle.steD A s s.heap) (hN : vx_Zq Bundle.tN "SUPPRESSED_SENTINEL" Bundle.listD A s s.heap) (hS : va_S A s.heap H locs) (hsize : ls.size = c.maxLocals)
    (d0 : decode cc pc = .ok (.new ik, 3)) (d3 : decode cc (pc + 3) = .ok (.dup, 1)) (d4 : decode cc (pc + 4) = .ok (.ldc_w is, 3)) (d7 : decode cc (pc + 7) = .ok (.invokespecial ic, 3)) (d10 : decode cc (pc + 10) = .ok (.athrow, 1))
    (hout : ∀ x ∈ c.exceptionTable.toList, covers x (pc + 10) = false)
    (hRframes : names.length + 3 < R.frames) (hRlocals : (rest.map fun v => v.category).sum + (13 * (names.length + 1) + 43) ≤ R.locals) (hRcells : cells + 1 ≤ R.cells) (hRslots : slots + 6 ≤ R.slots) (hlocks : meth.locks = false)
    (hx : ∀ t : State, s.vm.Alike t.vm → H.size ≤ t.heap.size → (∀ q : Nat, q < H.size → t.heap[q]? = H[q]?) → XC cls s t)
    (hf : ∀ z ∈ locs, free z.base) (hc : cells + 1 ≤ mc) (hs : slots + 6 ≤ ms) :
    W p l e R s m args below meth c H locs cells slots (vx_MQ below Qc XC args s mc ms free) (F0 m pc ls rest) := by
  intro T hT X
  have htr : e.platform.stackTraces = false := (show e.platform.stackTraces = l.stackTraces by rw [X.admits.platform]).trans hl
  have Y := vx_rebase X (R' := { frames := R.frames, locals := R.locals, cells := 1, slots := 6 }) (Nat.le_refl _) (Nat.le_refl _) hRcells hRslots
  obtain ⟨s', hA⟩ : ∃ z, z = (T.setVm s.vm).setFrames (.invoking m args :: below) := ⟨_, rfl⟩
  rw [← hA] at Y
  have hvm : s'.vm = s.vm := by rw [hA]; rfl
  have hhp : s'.heap = H := by rw [hA]; exact hT
  have hW0 : s.WarmedH s'.vm := by rw [hvm]; exact State.WarmedH.refl s
  have hat' : ∀ w ∈ vx_atS own ic cls names, w.before args s' = true := fun w hw => vx_ot_at hW0 hvm.symm (hgood w (List.mem_cons_of_mem _ (List.mem_cons_of_mem _ hw))) (hat w hw)
  have hk' : (Cond.classLink own ik cls).before args s' = true := vx_ot_at hW0 hvm.symm (hgood _ List.mem_cons_self) hk
  have hini' : (Cond.initialized cls).before args s' = true := vx_ot_at hW0 hvm.symm (hgood _ (List.mem_cons_of_mem _ List.mem_cons_self)) hini
  have hU' : vx_Zq Bundle.tN "UNASSIGNED_STACK" Bundle.steD A s' s'.heap := by rw [hhp]; exact vx_Zq.moved hW0.alike (hU.kept hS.2.1)
  have hN' : vx_Zq Bundle.tN "SUPPRESSED_SENTINEL" Bundle.listD A s' s'.heap := by rw [hhp]; exact vx_Zq.moved hW0.alike (hN.kept hS.2.1)
  have h : ∀ w ∈ Bundle.ownAtoms own ic cls names, w.before args s' = true := vx_own hat' (vx_isRefq hU'.1) (vx_isRefq hN'.1) hU'.2.word hN'.2.word
  have hown' : s'.vm.findClass own = some m.cls := by rw [hvm]; exact hown
  have hins : (Cond.instantiable cls 6).before args s' = true := h _ (by simp [Bundle.ownAtoms])
  obtain ⟨vm₁, cX, kX, hfX, hkX, -, -, X₁, st1⟩ := Y.newCold hexec (own := own) (C := cls) (index := ik) (n := 6) hown' hk' hins hini'
    (g := F0 m pc ls rest) rfl (by rw [hb]; exact d0) (Nat.le_refl _) (Nat.le_refl _)
  generalize hT1 : (T.setVm vm₁).pushCell { cls := cX, slots := kX.instanceTypes.map defaultValue, vm := .none } = T1 at X₁ st1
  have hcat : (Value.ref T.heap.size).category = 1 := rfl
  have hcellA : T1.heap[T.heap.size]? = some (freshCell cX kX) := by rw [← hT1]; exact State.heap_pushCell_size _ _
  have d3' : decode c.code (pc + 3) = .ok (.dup, 1) := by rw [hb]; exact d3
  have d4' : decode c.code (pc + 4) = .ok (.ldc_w is, 3) := by rw [hb]; exact d4
  have hstr' : vk_R own is text sa s' := vk_R.warm hW0 hstr
  obtain ⟨U, hsteps, hrun, hend, hW, hsame, ce, hce, hO⟩ := X₁.ctorThrowS hexec htr (own := own) (cls := cls) (names := names) (ic := ic) hown' hcls hnames h (fun x hx => nomatch hx) hfX hkX hcellA (by rw [hhp, hT]; exact Nat.le_refl _) (msg := .ref sa) rfl
    (g := { method := m, pc := pc + 7, locals := ls, stack := .ref sa :: .ref T.heap.size :: .ref T.heap.size :: rest, locked := none }) rfl hsize rfl rfl (rest := rest) rfl
    (by rw [hb]; exact d7) (by rw [hb]; exact d10) hout hRframes (by simp only [List.map_cons, List.sum_cons, hcat]; omega) hlocks
  obtain ⟨f1, f2⟩ := vx_frame hsame
  rw [hhp] at f1 f2
  have hWs : s.WarmedH U.vm := State.WarmedH.trans hW0 hW
  have hcl : s.vm.findClass cls = some ce.cls := by
    have h9 := hO.cls
    rw [hvm] at h9
    exact h9
  have hall : s.sameButNew ({ U with vm := s.vm } : State) locs mc ms := by
    subst hA
    obtain ⟨e1, e2⟩ := hsame
    rw [State.setFrames_setFrames] at e1
    have h2 : (T.setVm s.vm).sameButNew ({ U with vm := s.vm } : State) [] (0 + 1) (0 + 6) := ⟨e1, e2⟩
    have h3 := X.same.trans h2
    rw [List.append_nil] at h3
    exact h3.mono hc hs
  refine ⟨U, ?_, .threw T.heap.size, hrun, hend, Or.inr ⟨T.heap.size, rfl, cls, ce, locs, hx U hWs.alike f1 (fun q hq => f2 q hq (fun z hz => nomatch hz)), hce, hO.vm, hcl, hWs, hall, hf⟩⟩
  refine st1 _ ?_
  show Steps p.tables e below (T1.setTop { method := m, pc := pc + 3, locals := ls, stack := .ref T.heap.size :: rest, locked := none }) _
  jvm_step X₁.here [X₁.here.top, hexec, d3', Value.category]
  exact X₁.ldcStringW hexec (own := own) (text := text) (index := is) (a := sa) hown' hstr'.1 hstr'.2
    (g := { method := m, pc := pc + 4, locals := ls, stack := .ref T.heap.size :: .ref T.heap.size :: rest, locked := none }) rfl d4' _ hsteps
end Ends
section Bodies
variable {l : Launch}
theorem vx_ofW {y : MethodName} {ws ws' : List Cond} {rm : Room} {Pc : Array Value → State → Prop} {Qc : Array Value → State → Outcome → State → Prop} {XC : String → State → State → Prop} {mc ms : Nat} {free : Addr → Prop} {cc : ByteArray} {maxL : Nat} {ret : Option FieldType}
    (hy : plainName y.cls = true) (hw : ws = Cond.code y cc maxL ret :: ws')
    (body : ∀ p e s m args below meth c s₁, BodyLoose p l y (headSpec ws rm) cc maxL ret e s m args below meth c s₁ → c.maxLocals = maxL → (∀ x ∈ c.exceptionTable.toList, False) → Pc args s →
      W p l e (headSpec ws rm).room s m args below meth c s.heap [] 0 0 (vx_MQ below Qc XC args s mc ms free) (entryFrame m args maxL)) : vx_Met l y ws rm Pc Qc XC mc ms free := by
  refine MetFree.of_bodyS (code := cc) (maxLocals := maxL) (ret := ret) hy ?_ ?_
  · intro args s m h hn
    obtain ⟨meth, c, h1, h2, h3, h4, h5, h6, -, -⟩ := Cond.code_spec hn (atoms_spec (ws := ws) h _ (by rw [hw]; exact List.mem_cons_self))
    exact ⟨meth, c, h1, h2, h3, h4, h5, h6⟩
  · intro p e s m args below meth c s₁ B hml hP _
    have hh0 : s₁.heap = s.heap := by rw [B.state]; rfl
    have ht : ∀ x ∈ c.exceptionTable.toList, False := by
      obtain ⟨meth9, c9, h1, h2, -, -, -, -, h7, -⟩ := Cond.code_spec B.named (atoms_spec (ws := ws) B.pre _ (by rw [hw]; exact List.mem_cons_self))
      cases Option.some.inj (h1.symm.trans B.method)
      cases Option.some.inj (h2.symm.trans (Stand.of_body B).code)
      intro x hx
      rw [Array.isEmpty_iff.mp h7] at hx
      cases hx
    obtain ⟨t, a1, o, b1, b2, b3⟩ := body p e s m args below meth c s₁ B hml ht hP s₁ hh0 (Stand.of_body B)
    exact ⟨t, o, a1, b1, b2, b3⟩
/-- the table of a body with handlers -/
theorem vx_table {p : Program} {x y : MethodName} {S : Spec} {cc bytes : ByteArray} {maxL maxL' : Nat} {ret ret' : Option FieldType} {e : Env} {s s₁ : State} {m : MethodId} {args : Array Value} {below : List Frame} {meth : Method} {c : Code} {hh : List (Nat × Nat × Nat × Nat)}
    (B : BodyLoose p l y S cc maxL ret e s m args below meth c s₁) (h : (Cond.codeWith y bytes maxL' ret' hh).before args s = true) : c.exceptionTable.toList = tableOf hh := by
  obtain ⟨m9, meth9, c9, hn9, h1, h2, -, -, h6, -⟩ := Cond.codeWith_spec h
  cases Option.some.inj (hn9.symm.trans B.named)
  cases Option.some.inj (h1.symm.trans B.method)
  cases Option.some.inj (h2.symm.trans (Stand.of_body B).code)
  rw [← h6, table_eq]
end Bodies
end VXA
/-! ===== END ===== -/
/-! ===== BEGIN a static call of a method with an exception table ===== -/
section VXS
variable {p : Program} {l : Launch} {e : Env} {R : Room} {s : State} {m : MethodId} {args : Array Value} {below : List Frame} {meth : Method} {c : Code} {T : State} {H : Heap} {locs : List Loc} {cells slots : Nat}
abbrev vx_CSW (R : Room) (s : State) (args : Array Value) (own : String) (index : Nat) (y : MethodName) (bytes : ByteArray) (maxL : Nat) (ret : Option FieldType) (hh : List (Nat × Nat × Nat × Nat)) (ws : List Cond) (rm : Room) (mc ms n : Nat) : Prop :=
  (rm.cells = mc ∧ rm.slots = ms ∧ rm.frames + 1 ≤ R.frames ∧ 8 + (maxL + 11) + rm.locals ≤ R.locals ∧ (∀ w ∈ ws, ∀ (a' : Array Value) (U : State), s.WarmedH U.vm → w.before a' U = true) ∧ Cond.codeWith y bytes maxL ret hh ∈ ws) ∧
  (Cond.codeWith y bytes maxL ret hh).before args s = true ∧ (Cond.initialized y.cls).before args s = true ∧ (y.cls ≠ "java/lang/invoke/MethodHandle" ∧ y.cls ≠ "java/lang/invoke/VarHandle") ∧
  (∀ sig, parseMethodDescriptor y.desc = some sig → n = sig.parameters.length) ∧ (Cond.methodLink own index y).before args s = true ∧ (Cond.static y).before args s = true
theorem vx_cwSW {own : String} {index maxL mc ms : Nat} {y : MethodName} {bytes : ByteArray} {ret : Option FieldType} {hh : List (Nat × Nat × Nat × Nat)} {Ts ws ws' : List Cond} {rm : Room} (n : Nat) (ht : ∀ w ∈ Ts, w.before args s = true) (hT : GoodIn Ts (va_wsS own index y ws)) (hw : ws = Cond.codeWith y bytes maxL ret hh :: ws') (hrc : rm.cells = mc) (hrs : rm.slots = ms)
    (hd : y.cls ≠ "java/lang/invoke/MethodHandle" ∧ y.cls ≠ "java/lang/invoke/VarHandle" ∧ (parseMethodDescriptor y.desc).map (fun d => d.parameters.length) = some n) (hR : rm.frames + 1 ≤ R.frames ∧ 8 + (maxL + 11) + rm.locals ≤ R.locals) :
    vx_CSW R s args own index y bytes maxL ret hh ws rm mc ms n := by
  have ok : ∀ w ∈ va_wsS own index y ws, w.before args s = true := fun w h => ht w (hT w h).1
  have hG : GoodIn Ts ws := fun w h => hT w (by unfold va_wsS; exact List.mem_append_right _ h)
  have hc : Cond.codeWith y bytes maxL ret hh ∈ ws := by rw [hw]; exact List.mem_cons_self
  refine ⟨⟨hrc, hrs, hR.1, hR.2, pay_in ht hG, hc⟩, ht _ (hG _ hc).1, ok _ (by simp [va_wsS]), ⟨hd.1, hd.2.1⟩, fun sig h => ?_, ok _ (by simp [va_wsS]), ok _ (by simp [va_wsS])⟩
  have h2 := hd.2.2
  rw [h] at h2
  exact (Option.some.inj h2).symm
theorem vx_callSW (X : Stand p l e R s m args below meth c T locs cells slots) (hexec : p.tables.exec = Jvm.exec) {own : String} {index : Nat} {y : MethodName} {bytes : ByteArray} {maxL : Nat} {ret : Option FieldType} {hh : List (Nat × Nat × Nat × Nat)}
    (hown : s.vm.findClass own = some m.cls) (hlink : (Cond.methodLink own index y).before args s = true) (hstat : (Cond.static y).before args s = true) (hinit : (Cond.initialized y.cls).before args s = true)
    (hcode : (Cond.codeWith y bytes maxL ret hh).before args s = true) (hy : y.cls ≠ "java/lang/invoke/MethodHandle" ∧ y.cls ≠ "java/lang/invoke/VarHandle")
    {W9 : Nat} {Pre : Pt → Array Value → Prop} {Post : Pt → Array Value → Option Value → Pt → Prop} (hK : Back l R p e below s args y 3 W9 Pre Post)
    {g : JFrame} (hg : g.method = m) (hsize : g.locals.size = c.maxLocals) {argsL rest : List Value} (hlen : ∀ sig, parseMethodDescriptor y.desc = some sig → argsL.length = sig.parameters.length)
    (hstack : g.stack = argsL.reverse ++ rest) (hW : 2 * g.monitorRoom + (rest.map fun v => v.category).sum ≤ W9) (hdg : decode c.code g.pc = .ok (.invokestatic index, 3))
    (hpre : ∀ vm₁, s.WarmedH vm₁ → Pre ⟨T.setVm vm₁, locs, cells, slots⟩ argsL.toArray) :
    ∃ (v : Option Value) (vm₁ : Vm) (B : Pt), s.WarmedH vm₁ ∧ Stand p l e R s m args below meth c B.U B.locs B.cells B.slots ∧ Post ⟨T.setVm vm₁, locs, cells, slots⟩ argsL.toArray v B ∧
      ∀ target, Steps p.tables e below (B.U.setTop { g with pc := g.pc + 3, stack := v.toList ++ rest }) target → Steps p.tables e below (T.setTop g) target := by
  obtain ⟨mk, methM, cM, hnamed, hmethM, -, -, -, -, -, -, hsigM⟩ := Cond.codeWith_spec hcode
  have hstatic : methM.isStatic = true := Cond.static_spec hnamed hmethM hstat
  obtain ⟨kP, hkP, -⟩ := className_of_methodNamed hnamed
  have hinitP : kP.init = .initialized := Cond.initialized_spec (findClass_of_methodNamed hnamed) hkP hinit
  obtain ⟨vm₁, X₁, hstep₁⟩ := X.invokestatic hexec hown hlink hnamed hmethM hstatic hkP hinitP hy (g := g) hg (argsL := argsL) (rest := rest) (hlen _ hsigM) hstack hdg
  obtain ⟨v, B, X', hpost, hsteps⟩ := hK m meth c ⟨T.setVm vm₁, locs, cells, slots⟩ { g with stack := rest } (.invokestatic index) mk argsL.toArray X₁ hg hsize hdg hW (X₁.named hnamed) (hpre vm₁ X₁.warmed)
  exact ⟨v, vm₁, B, X₁.warmed, X', hpost, fun target h => hstep₁ _ fun acts => by rw [doInvoke_state]; exact hsteps.trans h⟩
theorem vx_runSW {y : MethodName} {bytes cc : ByteArray} {maxL nL mc ms n index : Nat} {ret : Option FieldType} {hh : List (Nat × Nat × Nat × Nat)} {ws : List Cond} {rm : Room} {Pc : Array Value → State → Prop} {Qc : Array Value → State → Outcome → State → Prop} {free : Addr → Prop} {Ts : List Cond} {own : String} {As rest : List Value} {g : JFrame}
    (S : CallFix p m c cc nL s args Ts own) (hM : Met l y ws rm Pc Qc mc ms free) (cw : vx_CSW R s args own index y bytes maxL ret hh ws rm mc ms n) (hp : PreS s H Pc As)
    (hg : g.method = m) (hn : As.length = n) (hsize : g.locals.size = nL) (hstack : g.stack = As.reverse ++ rest) (hW : 2 * g.monitorRoom + (rest.map fun v => v.category).sum ≤ 8) (hdg : decode cc g.pc = .ok (.invokestatic index, 3)) (hf : cells + mc ≤ R.cells ∧ slots + ms ≤ R.slots) :
    va_Run p l e R s m args below meth c H locs cells slots mc ms g rest (Qc As.toArray) (free) := by
  obtain ⟨⟨hrc, hrs, hfr, hlo, hws, hcw⟩, hcode, hini, hy, hlen, hl, hstt⟩ := cw
  have hK : Back l R p e below s args y 3 8 (PreOf R mc ms Pc) (PostOf Qc mc ms free) := va_backW (hh := hh) (bytes := bytes) (maxL := maxL) (ret := ret) hM hp.1 hrc hrs hfr hlo hws hcw (fun a' U hW => word_at hW (Or.inl (by first | rfl | simp [Cond.onTables, Cond.keeps, Cond.steady])) hini)
  obtain ⟨hx, hb, hml, ho, -⟩ := S
  intro T hT X
  obtain ⟨v, vm₁, ⟨U', l2, c2, s2⟩, hW₁, X', ⟨g', mk, t, L, e1, e2, hq, h1, hL, h2, h3⟩, st⟩ := vx_callSW X hx (hh := hh) (bytes := bytes) (maxL := maxL) (ret := ret) ho hl hstt hini hcode hy hK hg (hsize.trans hml.symm) (argsL := As) (rest := rest) (fun sig h => hn.trans (hlen sig h)) hstack hW (by rw [hb]; exact hdg)
    (fun vm₁ hW₁ => ⟨hf.1, hf.2, hp.2 (T.setVm vm₁) hT hW₁⟩)
  dsimp only [Pt.U, Pt.locs, Pt.cells, Pt.slots] at X' e1 e2 h1 h2 h3 st
  subst h1; subst h2; subst h3
  exact ⟨v, (T.setVm vm₁).calling g' mk As.toArray, t, U', L, hT, X', hL, e1, e2, hq, st⟩
/-- not caught here, past rows that name other classes: it goes on to the caller -/
theorem vx_outP {p : Program} {l : Launch} {e : Env} {R : Room} {s : State} {m : MethodId} {args : Array Value} {below : List Frame} {meth : Method} {c : Code} {H : Heap} {locs : List Loc} {cells slots : Nat} {free : Addr → Prop} {ls : Array Slot} {rest : List Value} {Qc : Array Value → State → Outcome → State → Prop} {XC : String → State → State → Prop}
    {pc : Nat} {own E : String} {ce : Cell} {q : Addr} {mc ms : Nat} (hown : s.vm.findClass own = some m.cls) (hlocks : meth.locks = false)
    (hpass : ∀ z ∈ c.exceptionTable.toList, covers z pc = false ∨ (z.catchType ≠ 0 ∧ ∃ nm : String, (Cond.classLink own z.catchType nm).before args s = true ∧ va_Nc E nm s)) (hcell : H[q]? = some ce) (hv : ce.vm = .none) (hcl : s.vm.findClass E = some ce.cls)
    (hx : ∀ t : State, t.heap = H → s.vm.Alike t.vm → XC E s t) (hf : ∀ z ∈ locs, free z.base) (hc : cells ≤ mc) (hs : slots ≤ ms) :
    vx_W p l e R s m args below meth c H locs cells slots (vx_MQ below Qc XC args s mc ms free) (F0 m pc ls rest) q := by
  intro T hT X
  have hpl : e.platform.magicAccessors = ({} : Platform).magicAccessors := by rw [X.admits.platform]
  obtain ⟨vm', hW', X', st⟩ := X.outThrough hlocks q (g := F0 m pc ls rest) rfl rfl rfl (cell := ce) (by rw [hT]; exact hcell) (by rw [hv]; rfl)
    (by obtain ⟨k9, h9, -⟩ := Vm.findClass_spec hcl; exact ⟨k9, h9⟩) (fun z hz => by
      rcases hpass z hz with h | ⟨hz0, nm, hl1, hn1⟩
      · exact Or.inl h
      · obtain ⟨c6, hc6, hcl6⟩ := Cond.classLink_spec hown hl1 e.platform hpl
        obtain ⟨a8, b8, h1, h2, h3⟩ := hn1
        cases Option.some.inj (h1.symm.trans hcl)
        cases Option.some.inj (h2.symm.trans hc6)
        exact Or.inr ⟨hz0, _, hcl6, h3⟩)
  obtain ⟨g₀, hfr⟩ := X'.frames_eq
  have hcell9 : ((T.setVm vm').setFrames (.throwing q :: below)).heap[q]? = some ce := by
    show T.heap[q]? = some ce
    rw [hT]; exact hcell
  have hend : Ended ((T.setVm vm').setFrames (.throwing q :: below)) below (.threw q) := State.frames_setFrames _ (State.cur_lt_of_frames hfr)
  refine ⟨(T.setVm vm').setFrames (.throwing q :: below), ?_, .threw q, X'.here.running, hend, Or.inr ⟨q, rfl, E, ce, locs, hx _ hT (X'.ends _).1.alike, hcell9, hv, hcl, (X'.ends _).1, (X'.ends _).2.mono hc hs, hf⟩⟩
  rw [X.pushThrowing_eq]
  exact st
/-- a thing of a world lies in the heap -/
theorem vx_lt {D : va_G} {cl : List vw_C} {ws : va_W} {H1 : Heap} (h : va_P D cl ws H1) {k : Nat} {q : Nat × va_E} (hk : ws[k]? = some q) : q.1 < H1.size := (h k q hk).lt
end VXS
/-! ===== END ===== -/
/-! ===== BEGIN methods with a table of their own: called by a name, returning or throwing ===== -/
section VXH
/-! vx_backW, vx_callVX, vx_callSX, vx_callVW, vx_runVW, vx_runVX, vx_runSX, vx_ofWH follow the same proofs as their sisters above (Free/Laws.lean, Shelf42/LK1.lean); vx_outP calls Shelf42/NT130.lean (outThrough). -/
section
variable {l : Launch} {R : Room} {p : Program} {e : Env} {below : List Frame} {s : State} {sargs : Array Value} {y : MethodName} {len W9 : Nat}
theorem vx_backW {ws : List Cond} {rm : Room} {Pc : Array Value → State → Prop} {Qc : Array Value → State → Outcome → State → Prop} {XC : String → State → State → Prop} {mc ms : Nat} {free : Addr → Prop} {bytes : ByteArray} {maxL : Nat} {ret : Option FieldType} {hh : List (Nat × Nat × Nat × Nat)}
    (hM : vx_Met l y ws rm Pc Qc XC mc ms free) (hblind : FrameBlind Pc) (hrc : rm.cells = mc) (hrs : rm.slots = ms)
    (hframes : rm.frames + 1 ≤ R.frames) (hlocals : W9 + (maxL + 11) + rm.locals ≤ R.locals)
    (hws : ∀ w ∈ ws, ∀ a' U, s.WarmedH U.vm → w.before a' U = true) (hcode : Cond.codeWith y bytes maxL ret hh ∈ ws) (hinit : ∀ a' U, s.WarmedH U.vm → (Cond.initialized y.cls).before a' U = true) :
    vx_Back l R p e below s sargs y len W9 (PreOf R mc ms Pc) (PostOf Qc mc ms free) (vx_Post XC mc ms free) := by
  intro m meth c A g ig mk a X hg hsize hdg hW hn hp
  have h1 : (headSpec ws rm).pre.before a A.U = true := atoms_intro fun w hw => hws w hw _ _ X.warmed
  have h2 : (Cond.codeWith y bytes maxL ret hh).before a A.U = true := hws _ hcode _ _ X.warmed
  have h3 : (Cond.initialized y.cls).before a A.U = true := hinit _ _ X.warmed
  have h4 : A.cells + (headSpec ws rm).room.cells ≤ R.cells := by rw [show (headSpec ws rm).room.cells = mc from hrc]; exact hp.1
  have h5 : A.slots + (headSpec ws rm).room.slots ≤ R.slots := by rw [show (headSpec ws rm).room.slots = ms from hrs]; exact hp.2.1
  have hPc : Pc a (A.U.calling g mk a) := hblind _ _ _ _ hp.2.2
  obtain ⟨U, Ls, c0, s0⟩ := A
  dsimp only [Pt.U, Pt.locs, Pt.cells, Pt.slots] at h1 h2 h3 h4 h5 X hn hPc ⊢
  obtain ⟨m9, methY, cY, hn9, hmY, hcY, -, hlY, -⟩ := Cond.codeWith_spec h2
  cases Option.some.inj (hn9.symm.trans hn)
  obtain ⟨kY, hkY, -⟩ := className_of_methodNamed hn
  have hinitY : kY.init = .initialized := Cond.initialized_spec (findClass_of_methodNamed hn) hkY h3
  have h : At U g.method c below := by rw [hg]; exact X.here
  have hlocals9 : W9 + (maxL + 11) + (headSpec ws rm).room.locals ≤ R.locals := hlocals
  have happ : (headSpec ws rm).appliesLoose y e.platform (U.calling g mk a) = true :=
    Spec.appliesLoose_calling (g := g) h hdg hn hkY hinitY
      (X.room_calling (g := g) (R' := (headSpec ws rm).room) hsize hmY hcY hframes (by rw [hlY]; omega) h4 h5) h1
  obtain ⟨mid, hmid⟩ := h.above
  have hfr : (U.setTop g).frames = (.java g :: mid) ++ below := by rw [State.frames_setTop' g h.top, hmid]; rfl
  obtain ⟨o, s₂, hsteps, -, hend, hq⟩ := Steps.callFree hM p X.admits X.cas X.clock (acts := []) hfr happ hPc trivial
  have hq' : vx_Q Qc XC mc ms free a (U.calling g mk a) o s₂ := hq
  rw [State.frames_setTop' g h.top] at hend
  obtain ⟨g₀, hg0⟩ := Option.isSome_iff_exists.mp h.top
  obtain ⟨r, hr⟩ := State.topJava?_eq_some.mp hg0
  have hr' : (({ U with heap := s₂.heap, slotsUsed := s₂.slotsUsed } : State).setVm s₂.vm).frames = .java g₀ :: r := hr
  rcases hq' with ⟨hqc, L, hfe, hL⟩ | ⟨q, rfl, E, ce, L, hx, hce, hcv, hcl, hW₂, hsm, hL⟩
  · obtain ⟨⟨v, rfl⟩, hW₂, e2, q2, q3, q4, q5, q6⟩ := id hfe
    have e3 : s₂ = ({ (U.calling g mk a).setFrames s₂.frames with heap := s₂.heap, slotsUsed := s₂.slotsUsed } : State).setVm s₂.vm := by
      have : s₂ = ({ s₂ with vm := (U.calling g mk a).vm } : State).setVm s₂.vm := rfl
      rw [e2] at this
      exact this
    obtain ⟨c₂, i₂, len₂, hc₂, hd₂, hf₂⟩ := hend
    have hW' : U.WarmedH s₂.vm := hW₂
    have hcc : c₂ = c := by
      have h1 : s₂.code? g.method = U.code? g.method := by
        rw [State.code?_eq, State.code?_eq, hW'.alike.method?]
      exact Option.some.inj (hc₂.symm.trans (h1.trans h.code))
    subst hcc
    have hlen : len₂ = len := by rw [hdg] at hd₂; cases hd₂; rfl
    subst hlen
    have hs₂ : s₂ = (({ U with heap := s₂.heap, slotsUsed := s₂.slotsUsed } : State).setVm s₂.vm).setTop { g with pc := g.pc + len₂, stack := v.toList ++ g.stack } := by
      refine e3.trans ?_
      rw [hf₂, State.calling_eq h.top, State.setFrames_setFrames, State.setTop_of_frames _ hr', hr]
      rfl
    have hsame : U.sameButNew ({ U with heap := s₂.heap, slotsUsed := s₂.slotsUsed } : State) L mc ms := by
      refine ⟨?_, q2, q3, q4, q5, q6⟩
      obtain ⟨t, ht, -⟩ := State.frames_cons hr
      show ({ U with heap := s₂.heap, slotsUsed := s₂.slotsUsed } : State) = { U.setFrames U.frames with heap := s₂.heap, slotsUsed := s₂.slotsUsed }
      rw [State.setFrames_self ht]
    subst hg
    refine Or.inl ⟨v, ⟨(({ U with heap := s₂.heap, slotsUsed := s₂.slotsUsed } : State).setVm s₂.vm), Ls ++ L, c0 + mc, s0 + ms⟩,
      ⟨X.admits, X.cas, X.clock, X.frames, X.room, X.hears, X.method, X.code, (X.here.setHeapUsed s₂.heap s₂.slotsUsed).setVm hW'.alike, X.tail, State.WarmedH.trans X.warmed hW', X.limits, X.bytes, X.same.trans (hsame.setVm s.vm)⟩,
      ⟨g, mk, s₂, L, rfl, rfl, hqc, rfl, hL, rfl, rfl⟩, ?_⟩
    show Steps p.tables e below _ ((({ U with heap := s₂.heap, slotsUsed := s₂.slotsUsed } : State).setVm s₂.vm).setTop { g with pc := g.pc + len₂, stack := v.toList ++ g.stack })
    rw [← hs₂]
    exact hsteps
  · obtain ⟨e2, q2, q3, q4, q5, q6⟩ := id hsm
    have e3 : s₂ = ({ (U.calling g mk a).setFrames s₂.frames with heap := s₂.heap, slotsUsed := s₂.slotsUsed } : State).setVm s₂.vm := by
      have : s₂ = ({ s₂ with vm := (U.calling g mk a).vm } : State).setVm s₂.vm := rfl
      rw [e2] at this
      exact this
    have hf₂ : s₂.frames = .throwing q :: .java g :: U.frames.tail := hend
    have hW' : U.WarmedH s₂.vm := hW₂
    have hs₂ : s₂ = ((({ U with heap := s₂.heap, slotsUsed := s₂.slotsUsed } : State).setVm s₂.vm).setTop g).pushFrame (.throwing q) := by
      refine e3.trans ?_
      rw [hf₂, State.calling_eq h.top, State.setFrames_setFrames, State.pushFrame, State.frames_setTop _ hr', State.setTop_of_frames _ hr', State.setFrames_setFrames, hr]
      rfl
    have hsame : U.sameButNew ({ U with heap := s₂.heap, slotsUsed := s₂.slotsUsed } : State) L mc ms := by
      refine ⟨?_, q2, q3, q4, q5, q6⟩
      obtain ⟨t, ht, -⟩ := State.frames_cons hr
      show ({ U with heap := s₂.heap, slotsUsed := s₂.slotsUsed } : State) = { U.setFrames U.frames with heap := s₂.heap, slotsUsed := s₂.slotsUsed }
      rw [State.setFrames_self ht]
    subst hg
    refine Or.inr ⟨q, ⟨(({ U with heap := s₂.heap, slotsUsed := s₂.slotsUsed } : State).setVm s₂.vm), Ls ++ L, c0 + mc, s0 + ms⟩,
      ⟨X.admits, X.cas, X.clock, X.frames, X.room, X.hears, X.method, X.code, (X.here.setHeapUsed s₂.heap s₂.slotsUsed).setVm hW'.alike, X.tail, State.WarmedH.trans X.warmed hW', X.limits, X.bytes, X.same.trans (hsame.setVm s.vm)⟩,
      ⟨g, mk, s₂, L, E, ce, rfl, rfl, hx, hce, hcv, hcl, rfl, hL, rfl, rfl⟩, ?_⟩
    show Steps p.tables e below _ (((({ U with heap := s₂.heap, slotsUsed := s₂.slotsUsed } : State).setVm s₂.vm).setTop g).pushFrame (.throwing q))
    rw [← hs₂]
    exact hsteps
end
variable {p : Program} {l : Launch} {e : Env} {R : Room} {s : State} {m : MethodId} {args : Array Value} {below : List Frame} {meth : Method} {c : Code} {T : State} {H : Heap} {locs : List Loc} {cells slots : Nat}
theorem vx_callVX (X : Stand p l e R s m args below meth c T locs cells slots) (hexec : p.tables.exec = Jvm.exec) {own C : String} {index : Nat} {y : MethodName} {bytes : ByteArray} {maxL : Nat} {ret : Option FieldType} {hh : List (Nat × Nat × Nat × Nat)}
    (hown : s.vm.findClass own = some m.cls) (hlink : (Cond.methodLink own index y).before args s = true) (hinst : (Cond.instanceMethod y).before args s = true) (hsel : (Cond.selects C y y).before args s = true)
    (hcode : (Cond.codeWith y bytes maxL ret hh).before args s = true) (hy : y.cls ≠ "java/lang/invoke/MethodHandle" ∧ y.cls ≠ "java/lang/invoke/VarHandle")
    {W9 : Nat} {Pre : Pt → Array Value → Prop} {Post : Pt → Array Value → Option Value → Pt → Prop} {PostX : Pt → Array Value → Addr → Pt → Prop} (hK : vx_Back l R p e below s args y 3 W9 Pre Post PostX)
    {b : Addr} {cellB : Cell} (hcell : T.heap[b]? = some cellB) (hobj : cellB.vm.isStatics = false) (hcls : s.vm.findClass C = some cellB.cls)
    {g : JFrame} (hg : g.method = m) (hsize : g.locals.size = c.maxLocals) {argsL rest : List Value} (hlen : ∀ sig, parseMethodDescriptor y.desc = some sig → argsL.length = sig.parameters.length)
    (hstack : g.stack = argsL.reverse ++ .ref b :: rest) (hW : 2 * g.monitorRoom + (rest.map fun v => v.category).sum ≤ W9) (hdg : decode c.code g.pc = .ok (.invokevirtual index, 3))
    (hpre : ∀ vm₁, s.WarmedH vm₁ → Pre ⟨T.setVm vm₁, locs, cells, slots⟩ (Value.ref b :: argsL).toArray) :
    (∃ (v : Option Value) (vm₁ : Vm) (B : Pt), s.WarmedH vm₁ ∧ Stand p l e R s m args below meth c B.U B.locs B.cells B.slots ∧ Post ⟨T.setVm vm₁, locs, cells, slots⟩ (Value.ref b :: argsL).toArray v B ∧
      ∀ target, Steps p.tables e below (B.U.setTop { g with pc := g.pc + 3, stack := v.toList ++ rest }) target → Steps p.tables e below (T.setTop g) target) ∨
    (∃ (q : Addr) (vm₁ : Vm) (B : Pt), s.WarmedH vm₁ ∧ Stand p l e R s m args below meth c B.U B.locs B.cells B.slots ∧ PostX ⟨T.setVm vm₁, locs, cells, slots⟩ (Value.ref b :: argsL).toArray q B ∧
      Steps p.tables e below (T.setTop g) ((B.U.setTop { g with stack := rest }).pushFrame (.throwing q))) := by
  obtain ⟨mk, methM, hnamed, hmethM, hstM, habM⟩ := Cond.instanceMethod_spec hinst
  obtain ⟨m8, methM', cM, hn8, hmethM', -, -, -, -, -, -, hsigM⟩ := Cond.codeWith_spec hcode
  cases Option.some.inj (hn8.symm.trans hnamed)
  cases hmethM.symm.trans hmethM'
  obtain ⟨c2, r2, m2, q1, q2, q3, q4, kP, hkP, hkPi⟩ := Cond.selects_spec hsel
  cases hcls.symm.trans q1
  cases (State.methodFound?_of_named hnamed hy).symm.trans q2
  cases hnamed.symm.trans q3
  have hselP : selectMethod e.platform s.vm cellB.cls mk = .method mk := by rw [Launch.admits_selectMethod X.admits]; exact q4
  obtain ⟨vm₁, X₁, hstep₁⟩ := X.invokevirtual hexec hown hlink hnamed hmethM hstM hkP hkPi hy (a := b) (cell := cellB) hcell
    (fun z h => by rw [h] at hobj; cases hobj) hselP hmethM habM hkP hkPi (g := g) hg (argsL := argsL) (rest := rest) (hlen _ hsigM) hstack hdg
  rcases hK m meth c ⟨T.setVm vm₁, locs, cells, slots⟩ { g with stack := rest } (.invokevirtual index) mk (Value.ref b :: argsL).toArray X₁ hg hsize hdg hW (X₁.named hnamed) (hpre vm₁ X₁.warmed) with ⟨v, B, X', hpost, hsteps⟩ | ⟨q, B, X', hpost, hsteps⟩
  · exact Or.inl ⟨v, vm₁, B, X₁.warmed, X', hpost, fun target h => hstep₁ _ fun acts => by rw [doInvoke_state]; exact hsteps.trans h⟩
  · exact Or.inr ⟨q, vm₁, B, X₁.warmed, X', hpost, hstep₁ _ fun acts => by rw [doInvoke_state]; exact hsteps⟩
theorem vx_callSX (X : Stand p l e R s m args below meth c T locs cells slots) (hexec : p.tables.exec = Jvm.exec) {own : String} {index : Nat} {y : MethodName} {bytes : ByteArray} {maxL : Nat} {ret : Option FieldType} {hh : List (Nat × Nat × Nat × Nat)}
    (hown : s.vm.findClass own = some m.cls) (hlink : (Cond.methodLink own index y).before args s = true) (hstat : (Cond.static y).before args s = true) (hinit : (Cond.initialized y.cls).before args s = true)
    (hcode : (Cond.codeWith y bytes maxL ret hh).before args s = true) (hy : y.cls ≠ "java/lang/invoke/MethodHandle" ∧ y.cls ≠ "java/lang/invoke/VarHandle")
    {W9 : Nat} {Pre : Pt → Array Value → Prop} {Post : Pt → Array Value → Option Value → Pt → Prop} {PostX : Pt → Array Value → Addr → Pt → Prop} (hK : vx_Back l R p e below s args y 3 W9 Pre Post PostX)
    {g : JFrame} (hg : g.method = m) (hsize : g.locals.size = c.maxLocals) {argsL rest : List Value} (hlen : ∀ sig, parseMethodDescriptor y.desc = some sig → argsL.length = sig.parameters.length)
    (hstack : g.stack = argsL.reverse ++ rest) (hW : 2 * g.monitorRoom + (rest.map fun v => v.category).sum ≤ W9) (hdg : decode c.code g.pc = .ok (.invokestatic index, 3))
    (hpre : ∀ vm₁, s.WarmedH vm₁ → Pre ⟨T.setVm vm₁, locs, cells, slots⟩ argsL.toArray) :
    (∃ (v : Option Value) (vm₁ : Vm) (B : Pt), s.WarmedH vm₁ ∧ Stand p l e R s m args below meth c B.U B.locs B.cells B.slots ∧ Post ⟨T.setVm vm₁, locs, cells, slots⟩ argsL.toArray v B ∧
      ∀ target, Steps p.tables e below (B.U.setTop { g with pc := g.pc + 3, stack := v.toList ++ rest }) target → Steps p.tables e below (T.setTop g) target) ∨
    (∃ (q : Addr) (vm₁ : Vm) (B : Pt), s.WarmedH vm₁ ∧ Stand p l e R s m args below meth c B.U B.locs B.cells B.slots ∧ PostX ⟨T.setVm vm₁, locs, cells, slots⟩ argsL.toArray q B ∧
      Steps p.tables e below (T.setTop g) ((B.U.setTop { g with stack := rest }).pushFrame (.throwing q))) := by
  obtain ⟨mk, methM, cM, hnamed, hmethM, -, -, -, -, -, -, hsigM⟩ := Cond.codeWith_spec hcode
  have hstatic : methM.isStatic = true := Cond.static_spec hnamed hmethM hstat
  obtain ⟨kP, hkP, -⟩ := className_of_methodNamed hnamed
  have hinitP : kP.init = .initialized := Cond.initialized_spec (findClass_of_methodNamed hnamed) hkP hinit
  obtain ⟨vm₁, X₁, hstep₁⟩ := X.invokestatic hexec hown hlink hnamed hmethM hstatic hkP hinitP hy (g := g) hg (argsL := argsL) (rest := rest) (hlen _ hsigM) hstack hdg
  rcases hK m meth c ⟨T.setVm vm₁, locs, cells, slots⟩ { g with stack := rest } (.invokestatic index) mk argsL.toArray X₁ hg hsize hdg hW (X₁.named hnamed) (hpre vm₁ X₁.warmed) with ⟨v, B, X', hpost, hsteps⟩ | ⟨q, B, X', hpost, hsteps⟩
  · exact Or.inl ⟨v, vm₁, B, X₁.warmed, X', hpost, fun target h => hstep₁ _ fun acts => by rw [doInvoke_state]; exact hsteps.trans h⟩
  · exact Or.inr ⟨q, vm₁, B, X₁.warmed, X', hpost, hstep₁ _ fun acts => by rw [doInvoke_state]; exact hsteps⟩
theorem vx_callVW (X : Stand p l e R s m args below meth c T locs cells slots) (hexec : p.tables.exec = Jvm.exec) {own C : String} {index : Nat} {y : MethodName} {bytes : ByteArray} {maxL : Nat} {ret : Option FieldType} {hh : List (Nat × Nat × Nat × Nat)}
    (hown : s.vm.findClass own = some m.cls) (hlink : (Cond.methodLink own index y).before args s = true) (hinst : (Cond.instanceMethod y).before args s = true) (hsel : (Cond.selects C y y).before args s = true)
    (hcode : (Cond.codeWith y bytes maxL ret hh).before args s = true) (hy : y.cls ≠ "java/lang/invoke/MethodHandle" ∧ y.cls ≠ "java/lang/invoke/VarHandle")
    {W9 : Nat} {Pre : Pt → Array Value → Prop} {Post : Pt → Array Value → Option Value → Pt → Prop} (hK : Back l R p e below s args y 3 W9 Pre Post)
    {b : Addr} {cellB : Cell} (hcell : T.heap[b]? = some cellB) (hobj : cellB.vm.isStatics = false) (hcls : s.vm.findClass C = some cellB.cls)
    {g : JFrame} (hg : g.method = m) (hsize : g.locals.size = c.maxLocals) {argsL rest : List Value} (hlen : ∀ sig, parseMethodDescriptor y.desc = some sig → argsL.length = sig.parameters.length)
    (hstack : g.stack = argsL.reverse ++ .ref b :: rest) (hW : 2 * g.monitorRoom + (rest.map fun v => v.category).sum ≤ W9) (hdg : decode c.code g.pc = .ok (.invokevirtual index, 3))
    (hpre : ∀ vm₁, s.WarmedH vm₁ → Pre ⟨T.setVm vm₁, locs, cells, slots⟩ (Value.ref b :: argsL).toArray) :
    ∃ (v : Option Value) (vm₁ : Vm) (B : Pt), s.WarmedH vm₁ ∧ Stand p l e R s m args below meth c B.U B.locs B.cells B.slots ∧ Post ⟨T.setVm vm₁, locs, cells, slots⟩ (Value.ref b :: argsL).toArray v B ∧
      ∀ target, Steps p.tables e below (B.U.setTop { g with pc := g.pc + 3, stack := v.toList ++ rest }) target → Steps p.tables e below (T.setTop g) target := by
  obtain ⟨mk, methM, hnamed, hmethM, hstM, habM⟩ := Cond.instanceMethod_spec hinst
  obtain ⟨m8, methM', cM, hn8, hmethM', -, -, -, -, -, -, hsigM⟩ := Cond.codeWith_spec hcode
  cases Option.some.inj (hn8.symm.trans hnamed)
  cases hmethM.symm.trans hmethM'
  obtain ⟨c2, r2, m2, q1, q2, q3, q4, kP, hkP, hkPi⟩ := Cond.selects_spec hsel
  cases hcls.symm.trans q1
  cases (State.methodFound?_of_named hnamed hy).symm.trans q2
  cases hnamed.symm.trans q3
  have hselP : selectMethod e.platform s.vm cellB.cls mk = .method mk := by rw [Launch.admits_selectMethod X.admits]; exact q4
  obtain ⟨vm₁, X₁, hstep₁⟩ := X.invokevirtual hexec hown hlink hnamed hmethM hstM hkP hkPi hy (a := b) (cell := cellB) hcell
    (fun z h => by rw [h] at hobj; cases hobj) hselP hmethM habM hkP hkPi (g := g) hg (argsL := argsL) (rest := rest) (hlen _ hsigM) hstack hdg
  obtain ⟨v, B, X', hpost, hsteps⟩ := hK m meth c ⟨T.setVm vm₁, locs, cells, slots⟩ { g with stack := rest } (.invokevirtual index) mk (Value.ref b :: argsL).toArray X₁ hg hsize hdg hW (X₁.named hnamed) (hpre vm₁ X₁.warmed)
  exact ⟨v, vm₁, B, X₁.warmed, X', hpost, fun target h => hstep₁ _ fun acts => by rw [doInvoke_state]; exact hsteps.trans h⟩
abbrev vx_CVW (R : Room) (s : State) (args : Array Value) (own C : String) (index : Nat) (y : MethodName) (bytes : ByteArray) (maxL : Nat) (ret : Option FieldType) (hh : List (Nat × Nat × Nat × Nat)) (ws : List Cond) (rm : Room) (mc ms n : Nat) : Prop :=
  (rm.cells = mc ∧ rm.slots = ms ∧ rm.frames + 1 ≤ R.frames ∧ 8 + (maxL + 11) + rm.locals ≤ R.locals ∧ (∀ w ∈ ws, ∀ (a' : Array Value) (U : State), s.WarmedH U.vm → w.before a' U = true) ∧ Cond.codeWith y bytes maxL ret hh ∈ ws) ∧
  (Cond.codeWith y bytes maxL ret hh).before args s = true ∧ (Cond.initialized y.cls).before args s = true ∧ (y.cls ≠ "java/lang/invoke/MethodHandle" ∧ y.cls ≠ "java/lang/invoke/VarHandle") ∧
  (∀ sig, parseMethodDescriptor y.desc = some sig → n = sig.parameters.length) ∧ (Cond.methodLink own index y).before args s = true ∧ (Cond.instanceMethod y).before args s = true ∧ (Cond.selects C y y).before args s = true
theorem vx_cwVW {own C : String} {index maxL mc ms : Nat} {y : MethodName} {bytes : ByteArray} {ret : Option FieldType} {hh : List (Nat × Nat × Nat × Nat)} {Ts ws ws' : List Cond} {rm : Room} (n : Nat) (ht : ∀ w ∈ Ts, w.before args s = true) (hT : GoodIn Ts (wsV own index C y ws)) (hw : ws = Cond.codeWith y bytes maxL ret hh :: ws') (hrc : rm.cells = mc) (hrs : rm.slots = ms)
    (hd : y.cls = C ∧ y.cls ≠ "java/lang/invoke/MethodHandle" ∧ y.cls ≠ "java/lang/invoke/VarHandle" ∧ (parseMethodDescriptor y.desc).map (fun d => d.parameters.length) = some n) (hR : rm.frames + 1 ≤ R.frames ∧ 8 + (maxL + 11) + rm.locals ≤ R.locals) :
    vx_CVW R s args own C index y bytes maxL ret hh ws rm mc ms n := by
  obtain ⟨hC, hd⟩ := hd
  subst hC
  have ok : ∀ w ∈ wsV own index y.cls y ws, w.before args s = true := fun w h => ht w (hT w h).1
  have hG : GoodIn Ts ws := fun w h => hT w (by unfold wsV; exact List.mem_append_right _ h)
  have hc : Cond.codeWith y bytes maxL ret hh ∈ ws := by rw [hw]; exact List.mem_cons_self
  refine ⟨⟨hrc, hrs, hR.1, hR.2, pay_in ht hG, hc⟩, ht _ (hG _ hc).1, ok _ (by simp [wsV]), ⟨hd.1, hd.2.1⟩, fun sig h => ?_, ok _ (by simp [wsV]), ok _ (by simp [wsV]), ok _ (by simp [wsV])⟩
  have h2 := hd.2.2
  rw [h] at h2
  exact (Option.some.inj h2).symm
theorem vx_runVW {y : MethodName} {bytes cc : ByteArray} {maxL nL mc ms n index : Nat} {ret : Option FieldType} {hh : List (Nat × Nat × Nat × Nat)} {ws : List Cond} {rm : Room} {Pc : Array Value → State → Prop} {Qc : Array Value → State → Outcome → State → Prop} {free : Addr → Prop} {Ts : List Cond} {own C : String} {b : Addr} {As rest : List Value} {g : JFrame}
    (S : CallFix p m c cc nL s args Ts own) (hM : Met l y ws rm Pc Qc mc ms free) (cw : vx_CVW R s args own C index y bytes maxL ret hh ws rm mc ms n) (hp : PreV s H C b Pc As)
    (hg : g.method = m) (hn : As.length = n) (hsize : g.locals.size = nL) (hstack : g.stack = As.reverse ++ .ref b :: rest) (hW : 2 * g.monitorRoom + (rest.map fun v => v.category).sum ≤ 8) (hdg : decode cc g.pc = .ok (.invokevirtual index, 3)) (hf : cells + mc ≤ R.cells ∧ slots + ms ≤ R.slots) :
    va_Run p l e R s m args below meth c H locs cells slots mc ms g rest (Qc (Value.ref b :: As).toArray) free := by
  obtain ⟨⟨hrc, hrs, hfr, hlo, hws, hcw⟩, hcode, hini, hy, hlen, hl, hin, hse⟩ := cw
  have hK : Back l R p e below s args y 3 8 (PreOf R mc ms Pc) (PostOf Qc mc ms free) := va_backW (hh := hh) (bytes := bytes) (maxL := maxL) (ret := ret) hM hp.1 hrc hrs hfr hlo hws hcw (fun a' U hW => word_at hW (Or.inl (by first | rfl | simp [Cond.onTables, Cond.keeps, Cond.steady])) hini)
  obtain ⟨hx, hb, hml, ho, -⟩ := S
  obtain ⟨-, ⟨cellB, hcB, hoB, hclB⟩, hPc⟩ := hp
  intro T hT X
  obtain ⟨v, vm₁, ⟨U', l2, c2, s2⟩, hW₁, X', ⟨g', mk, t, L, e1, e2, hq, h1, hL, h2, h3⟩, st⟩ := vx_callVW X hx (C := C) (hh := hh) (bytes := bytes) (maxL := maxL) (ret := ret) ho hl hin hse hcode hy hK (by rw [hT]; exact hcB) hoB hclB hg (hsize.trans hml.symm) (argsL := As) (rest := rest) (fun sig h => hn.trans (hlen sig h)) hstack hW (by rw [hb]; exact hdg)
    (fun vm₁ hW₁ => ⟨hf.1, hf.2, hPc (T.setVm vm₁) hT hW₁⟩)
  dsimp only [Pt.U, Pt.locs, Pt.cells, Pt.slots] at X' e1 e2 h1 h2 h3 st
  subst h1; subst h2; subst h3
  exact ⟨v, (T.setVm vm₁).calling g' mk (Value.ref b :: As).toArray, t, U', L, hT, X', hL, e1, e2, hq, st⟩
section
variable {y : MethodName} {bytes cc : ByteArray} {maxL nL mc ms n index : Nat} {ret : Option FieldType} {ws : List Cond} {rm : Room} {Pc : Array Value → State → Prop} {Qc : Array Value → State → Outcome → State → Prop} {XC : String → State → State → Prop} {free : Addr → Prop} {Ts : List Cond} {own C : String} {b : Addr} {As rest : List Value} {g : JFrame}
theorem vx_runVX {hh : List (Nat × Nat × Nat × Nat)} (S : CallFix p m c cc nL s args Ts own) (hM : vx_Met l y ws rm Pc Qc XC mc ms free) (cw : vx_CVW R s args own C index y bytes maxL ret hh ws rm mc ms n) (hp : PreV s H C b Pc As)
    (hg : g.method = m) (hn : As.length = n) (hsize : g.locals.size = nL) (hstack : g.stack = As.reverse ++ .ref b :: rest) (hW : 2 * g.monitorRoom + (rest.map fun v => v.category).sum ≤ 8) (hdg : decode cc g.pc = .ok (.invokevirtual index, 3)) (hf : cells + mc ≤ R.cells ∧ slots + ms ≤ R.slots) :
    vx_Run p l e R s m args below meth c H locs cells slots mc ms g rest (Qc (Value.ref b :: As).toArray) XC free := by
  obtain ⟨⟨hrc, hrs, hfr, hlo, hws, hcw⟩, hcode, hini, hy, hlen, hl, hin, hse⟩ := cw
  have hK : vx_Back l R p e below s args y 3 8 (PreOf R mc ms Pc) (PostOf Qc mc ms free) (vx_Post XC mc ms free) := vx_backW (hh := hh) (bytes := bytes) (maxL := maxL) (ret := ret) hM hp.1 hrc hrs hfr hlo hws hcw (fun a' U hW => word_at hW (Or.inl (by first | rfl | simp [Cond.onTables, Cond.keeps, Cond.steady])) hini)
  obtain ⟨hx, hb, hml, ho, -⟩ := S
  obtain ⟨-, ⟨cellB, hcB, hoB, hclB⟩, hPc⟩ := hp
  intro T hT X
  rcases vx_callVX X hx (C := C) (hh := hh) (bytes := bytes) (maxL := maxL) (ret := ret) ho hl hin hse hcode hy hK (by rw [hT]; exact hcB) hoB hclB hg (hsize.trans hml.symm) (argsL := As) (rest := rest) (fun sig h => hn.trans (hlen sig h)) hstack hW (by rw [hb]; exact hdg)
    (fun vm₁ hW₁ => ⟨hf.1, hf.2, hPc (T.setVm vm₁) hT hW₁⟩) with ⟨v, vm₁, ⟨U', l2, c2, s2⟩, hW₁, X', ⟨g', mk, t, L, e1, e2, hq, h1, hL, h2, h3⟩, st⟩ | ⟨q, vm₁, ⟨U', l2, c2, s2⟩, hW₁, X', ⟨g', mk, t, L, E, ce, e1, e2, hq, hce, hcv, hcl, h1, hL, h2, h3⟩, st⟩
  · dsimp only [Pt.U, Pt.locs, Pt.cells, Pt.slots] at X' e1 e2 h1 h2 h3 st
    subst h1; subst h2; subst h3
    exact Or.inl ⟨v, (T.setVm vm₁).calling g' mk (Value.ref b :: As).toArray, t, U', L, hT, X', hL, e1, e2, hq, st⟩
  · dsimp only [Pt.U, Pt.locs, Pt.cells, Pt.slots] at X' e1 e2 h1 h2 h3 st hcl
    subst h1; subst h2; subst h3
    exact Or.inr ⟨q, (T.setVm vm₁).calling g' mk (Value.ref b :: As).toArray, t, U', L, E, ce, hT, X', hL, e1, e2, hq, hce, hcv, vx_cls hW₁ hcl, st⟩
theorem vx_runSX {hh : List (Nat × Nat × Nat × Nat)} (S : CallFix p m c cc nL s args Ts own) (hM : vx_Met l y ws rm Pc Qc XC mc ms free) (cw : vx_CSW R s args own index y bytes maxL ret hh ws rm mc ms n) (hp : PreS s H Pc As)
    (hg : g.method = m) (hn : As.length = n) (hsize : g.locals.size = nL) (hstack : g.stack = As.reverse ++ rest) (hW : 2 * g.monitorRoom + (rest.map fun v => v.category).sum ≤ 8) (hdg : decode cc g.pc = .ok (.invokestatic index, 3)) (hf : cells + mc ≤ R.cells ∧ slots + ms ≤ R.slots) :
    vx_Run p l e R s m args below meth c H locs cells slots mc ms g rest (Qc As.toArray) XC free := by
  obtain ⟨⟨hrc, hrs, hfr, hlo, hws, hcw⟩, hcode, hini, hy, hlen, hl, hstt⟩ := cw
  have hK : vx_Back l R p e below s args y 3 8 (PreOf R mc ms Pc) (PostOf Qc mc ms free) (vx_Post XC mc ms free) := vx_backW (hh := hh) (bytes := bytes) (maxL := maxL) (ret := ret) hM hp.1 hrc hrs hfr hlo hws hcw (fun a' U hW => word_at hW (Or.inl (by first | rfl | simp [Cond.onTables, Cond.keeps, Cond.steady])) hini)
  obtain ⟨hx, hb, hml, ho, -⟩ := S
  intro T hT X
  rcases vx_callSX X hx (hh := hh) (bytes := bytes) (maxL := maxL) (ret := ret) ho hl hstt hini hcode hy hK hg (hsize.trans hml.symm) (argsL := As) (rest := rest) (fun sig h => hn.trans (hlen sig h)) hstack hW (by rw [hb]; exact hdg)
    (fun vm₁ hW₁ => ⟨hf.1, hf.2, hp.2 (T.setVm vm₁) hT hW₁⟩) with ⟨v, vm₁, ⟨U', l2, c2, s2⟩, hW₁, X', ⟨g', mk, t, L, e1, e2, hq, h1, hL, h2, h3⟩, st⟩ | ⟨q, vm₁, ⟨U', l2, c2, s2⟩, hW₁, X', ⟨g', mk, t, L, E, ce, e1, e2, hq, hce, hcv, hcl, h1, hL, h2, h3⟩, st⟩
  · dsimp only [Pt.U, Pt.locs, Pt.cells, Pt.slots] at X' e1 e2 h1 h2 h3 st
    subst h1; subst h2; subst h3
    exact Or.inl ⟨v, (T.setVm vm₁).calling g' mk As.toArray, t, U', L, hT, X', hL, e1, e2, hq, st⟩
  · dsimp only [Pt.U, Pt.locs, Pt.cells, Pt.slots] at X' e1 e2 h1 h2 h3 st hcl
    subst h1; subst h2; subst h3
    exact Or.inr ⟨q, (T.setVm vm₁).calling g' mk As.toArray, t, U', L, E, ce, hT, X', hL, e1, e2, hq, hce, hcv, vx_cls hW₁ hcl, st⟩
end
end VXH
theorem vx_ofWH {l : Launch} {y : MethodName} {ws ws' : List Cond} {rm : Room} {Pc : Array Value → State → Prop} {Qc : Array Value → State → Outcome → State → Prop} {XC : String → State → State → Prop} {mc ms : Nat} {free : Addr → Prop} {cc : ByteArray} {maxL : Nat} {ret : Option FieldType} {hh : List (Nat × Nat × Nat × Nat)}
    (hy : plainName y.cls = true) (hw : ws = Cond.codeWith y cc maxL ret hh :: ws')
    (body : ∀ p e s m args below meth c s₁, BodyLoose p l y (headSpec ws rm) cc maxL ret e s m args below meth c s₁ → c.maxLocals = maxL → Pc args s →
      W p l e (headSpec ws rm).room s m args below meth c s.heap [] 0 0 (vx_MQ below Qc XC args s mc ms free) (entryFrame m args maxL)) : vx_Met l y ws rm Pc Qc XC mc ms free := by
  refine MetFree.of_bodyS (code := cc) (maxLocals := maxL) (ret := ret) hy ?_ ?_
  · intro args s m h hn
    obtain ⟨m9, meth, c, hn9, h1, h2, h3, h4, -, h5, h6, -⟩ := Cond.codeWith_spec (atoms_spec (ws := ws) h _ (by rw [hw]; exact List.mem_cons_self))
    cases hn.symm.trans hn9
    exact ⟨meth, c, h1, h2, h3, h4, h5, h6⟩
  · intro p e s m args below meth c s₁ B hml hP _
    have hh0 : s₁.heap = s.heap := by rw [B.state]; rfl
    obtain ⟨t, a1, o, b1, b2, b3⟩ := body p e s m args below meth c s₁ B hml hP s₁ hh0 (Stand.of_body B)
    exact ⟨t, o, a1, b1, b2, b3⟩
/-! ===== END ===== -/
end
section
/-! ===== BEGIN printed: names, fields, word lists, decode rows ===== -/
def RX0 : String := "RingGroup$Log"
def TX0 : u_T := fun k => match k with
  | 0 => ("RingGroup$Log", "cells", "[J", true)
  | _ => ("RingGroup$Log", "ever", "I", false)
def tyX0 : Nat → FieldType := fun k => match k with
  | 0 => .array .long
  | _ => .int
abbrev wsX00 : List Cond := u_ws RX0 TX0 2
theorem nmX0 : ∀ a, a < 2 → ∀ b, b < 2 → a ≠ b → (TX0 a).2.1 ≠ (TX0 b).2.1 := by decide +kernel
theorem tyX0_ok : ∀ k, k < 2 → parseFieldDescriptor (TX0 k).2.2.1 = some (tyX0 k) := by decide +kernel
abbrev cX0_init : ByteArray := prog_2_method_1_code
def yX0_init : MethodName := ⟨RX0, "<init>", "()V"⟩
abbrev cX0_add : ByteArray := prog_2_method_2_code
def yX0_add : MethodName := ⟨RX0, "add", "(IIIIJI)V"⟩
abbrev cX0_size : ByteArray := prog_2_method_3_code
def yX0_size : MethodName := ⟨RX0, "size", "()I"⟩
abbrev cX0_cell : ByteArray := prog_2_method_4_code
def yX0_cell : MethodName := ⟨RX0, "cell", "(II)J"⟩
def RX1 : String := "RingGroup$Message"
def TX1 : u_T := fun k => match k with
  | 0 => ("RingGroup$Message", "sender", "I", true)
  | 1 => ("RingGroup$Message", "key", "I", true)
  | 2 => ("RingGroup$Message", "value", "J", true)
  | _ => ("RingGroup$Message", "safe", "Z", true)
def tyX1 : Nat → FieldType := fun k => match k with
  | 0 => .int
  | 1 => .int
  | 2 => .long
  | _ => .boolean
abbrev wsX10 : List Cond := u_ws RX1 TX1 4
theorem nmX1 : ∀ a, a < 4 → ∀ b, b < 4 → a ≠ b → (TX1 a).2.1 ≠ (TX1 b).2.1 := by decide +kernel
theorem tyX1_ok : ∀ k, k < 4 → parseFieldDescriptor (TX1 k).2.2.1 = some (tyX1 k) := by decide +kernel
abbrev cX1_init : ByteArray := prog_3_method_1_code
def yX1_init : MethodName := ⟨RX1, "<init>", "(IIJZ)V"⟩
def RX2 : String := "RingGroup$Node"
def TX2 : u_T := fun k => match k with
  | 0 => ("RingGroup$Node", "number", "I", true)
  | 1 => ("RingGroup$Node", "pending", "LRingGroup$Pending;", true)
  | 2 => ("RingGroup$Node", "replica", "LRingGroup$Replica;", true)
  | 3 => ("RingGroup$Node", "log", "LRingGroup$Log;", true)
  | 4 => ("RingGroup$Node", "has", "[LRingGroup$Message;", true)
  | 5 => ("RingGroup$Node", "up", "Z", false)
  | 6 => ("RingGroup$Node", "group", "I", false)
  | 7 => ("RingGroup$Node", "ring", "LRingGroup$Ring;", false)
  | 8 => ("RingGroup$Node", "highest", "I", false)
  | 9 => ("RingGroup$Node", "voteNumber", "I", false)
  | 10 => ("RingGroup$Node", "voteMembers", "I", false)
  | 11 => ("RingGroup$Node", "delivered", "I", false)
  | _ => ("RingGroup$Node", "safeTo", "I", false)
def tyX2 : Nat → FieldType := fun k => match k with
  | 0 => .int
  | 1 => .object "RingGroup$Pending"
  | 2 => .object "RingGroup$Replica"
  | 3 => .object "RingGroup$Log"
  | 4 => .array (.object "RingGroup$Message")
  | 5 => .boolean
  | 6 => .int
  | 7 => .object "RingGroup$Ring"
  | 8 => .int
  | 9 => .int
  | 10 => .int
  | 11 => .int
  | _ => .int
abbrev wsX20 : List Cond := u_ws RX2 TX2 13
theorem nmX2 : ∀ a, a < 13 → ∀ b, b < 13 → a ≠ b → (TX2 a).2.1 ≠ (TX2 b).2.1 := by decide +kernel
theorem tyX2_ok : ∀ k, k < 13 → parseFieldDescriptor (TX2 k).2.2.1 = some (tyX2 k) := by decide +kernel
abbrev cX2_init : ByteArray := prog_4_method_1_code
def yX2_init : MethodName := ⟨RX2, "<init>", "(IILRingGroup$Ring;)V"⟩
abbrev cX2_isOfPrimary : ByteArray := prog_4_method_2_code
def yX2_isOfPrimary : MethodName := ⟨RX2, "isOfPrimary", "()Z"⟩
abbrev cX2_isAheadOf : ByteArray := prog_4_method_3_code
def yX2_isAheadOf : MethodName := ⟨RX2, "isAheadOf", "(LRingGroup$Node;)Z"⟩
abbrev cX2_full : ByteArray := prog_4_method_4_code
def yX2_full : MethodName := ⟨RX2, "full", "()I"⟩
abbrev cX2_receive : ByteArray := prog_4_method_5_code
def yX2_receive : MethodName := ⟨RX2, "receive", "(ILRingGroup$Message;)V"⟩
abbrev cX2_deliverInTurn : ByteArray := prog_4_method_6_code
def yX2_deliverInTurn : MethodName := ⟨RX2, "deliverInTurn", "()I"⟩
abbrev cX2_deliverLeft : ByteArray := prog_4_method_7_code
def yX2_deliverLeft : MethodName := ⟨RX2, "deliverLeft", "(I)V"⟩
abbrev cX2_tell : ByteArray := prog_4_method_8_code
def yX2_tell : MethodName := ⟨RX2, "tell", "(ILRingGroup$Message;)V"⟩
abbrev cX2_leaveRing : ByteArray := prog_4_method_9_code
def yX2_leaveRing : MethodName := ⟨RX2, "leaveRing", "(LRingGroup$Ring;)V"⟩
abbrev cX2_joinRing : ByteArray := prog_4_method_10_code
def yX2_joinRing : MethodName := ⟨RX2, "joinRing", "(LRingGroup$Ring;Z)V"⟩
def RX3 : String := "RingGroup$Pending"
def TX3 : u_T := fun k => match k with
  | 0 => ("RingGroup$Pending", "waiting", "[LRingGroup$Message;", true)
  | _ => ("RingGroup$Pending", "count", "I", false)
def tyX3 : Nat → FieldType := fun k => match k with
  | 0 => .array (.object "RingGroup$Message")
  | _ => .int
abbrev wsX30 : List Cond := u_ws RX3 TX3 2
theorem nmX3 : ∀ a, a < 2 → ∀ b, b < 2 → a ≠ b → (TX3 a).2.1 ≠ (TX3 b).2.1 := by decide +kernel
theorem tyX3_ok : ∀ k, k < 2 → parseFieldDescriptor (TX3 k).2.2.1 = some (tyX3 k) := by decide +kernel
abbrev cX3_init : ByteArray := prog_5_method_1_code
def yX3_init : MethodName := ⟨RX3, "<init>", "()V"⟩
abbrev cX3_isFull : ByteArray := prog_5_method_2_code
def yX3_isFull : MethodName := ⟨RX3, "isFull", "()Z"⟩
abbrev cX3_put : ByteArray := prog_5_method_3_code
def yX3_put : MethodName := ⟨RX3, "put", "(LRingGroup$Message;)I"⟩
abbrev cX3_takeFirst : ByteArray := prog_5_method_4_code
def yX3_takeFirst : MethodName := ⟨RX3, "takeFirst", "()LRingGroup$Message;"⟩
abbrev cX3_drop : ByteArray := prog_5_method_5_code
def yX3_drop : MethodName := ⟨RX3, "drop", "()V"⟩
def RX4 : String := "RingGroup$Replica"
def TX4 : u_T := fun k => match k with
  | 0 => ("RingGroup$Replica", "values", "[J", true)
  | 1 => ("RingGroup$Replica", "kept", "[LRingGroup$Message;", true)
  | 2 => ("RingGroup$Replica", "applied", "I", false)
  | 3 => ("RingGroup$Replica", "mark", "J", false)
  | _ => ("RingGroup$Replica", "done", "I", false)
def tyX4 : Nat → FieldType := fun k => match k with
  | 0 => .array .long
  | 1 => .array (.object "RingGroup$Message")
  | 2 => .int
  | 3 => .long
  | _ => .int
abbrev wsX40 : List Cond := u_ws RX4 TX4 5
theorem nmX4 : ∀ a, a < 5 → ∀ b, b < 5 → a ≠ b → (TX4 a).2.1 ≠ (TX4 b).2.1 := by decide +kernel
theorem tyX4_ok : ∀ k, k < 5 → parseFieldDescriptor (TX4 k).2.2.1 = some (tyX4 k) := by decide +kernel
abbrev cX4_init : ByteArray := prog_6_method_1_code
def yX4_init : MethodName := ⟨RX4, "<init>", "()V"⟩
abbrev cX4_apply : ByteArray := prog_6_method_2_code
def yX4_apply : MethodName := ⟨RX4, "apply", "(ILRingGroup$Message;)V"⟩
abbrev cX4_copyTable : ByteArray := prog_6_method_3_code
def yX4_copyTable : MethodName := ⟨RX4, "copyTable", "(LRingGroup$Replica;)V"⟩
abbrev cX4_forgetKept : ByteArray := prog_6_method_4_code
def yX4_forgetKept : MethodName := ⟨RX4, "forgetKept", "()V"⟩
def RX5 : String := "RingGroup$Ring"
def TX5 : u_T := fun k => match k with
  | 0 => ("RingGroup$Ring", "requested", "[Z", true)
  | 1 => ("RingGroup$Ring", "full", "[I", true)
  | 2 => ("RingGroup$Ring", "number", "I", false)
  | 3 => ("RingGroup$Ring", "members", "I", false)
  | 4 => ("RingGroup$Ring", "holder", "I", false)
  | _ => ("RingGroup$Ring", "lastPlace", "I", false)
def tyX5 : Nat → FieldType := fun k => match k with
  | 0 => .array .boolean
  | 1 => .array .int
  | 2 => .int
  | 3 => .int
  | 4 => .int
  | _ => .int
abbrev wsX50 : List Cond := u_ws RX5 TX5 6
theorem nmX5 : ∀ a, a < 6 → ∀ b, b < 6 → a ≠ b → (TX5 a).2.1 ≠ (TX5 b).2.1 := by decide +kernel
theorem tyX5_ok : ∀ k, k < 6 → parseFieldDescriptor (TX5 k).2.2.1 = some (tyX5 k) := by decide +kernel
abbrev cX5_init : ByteArray := prog_7_method_1_code
def yX5_init : MethodName := ⟨RX5, "<init>", "()V"⟩
abbrev cX5_begin : ByteArray := prog_7_method_2_code
def yX5_begin : MethodName := ⟨RX5, "begin", "(II)V"⟩
abbrev cX5_memberBehind : ByteArray := prog_7_method_3_code
def yX5_memberBehind : MethodName := ⟨RX5, "memberBehind", "(I)I"⟩
abbrev cX5_leastFull : ByteArray := prog_7_method_4_code
def yX5_leastFull : MethodName := ⟨RX5, "leastFull", "()I"⟩
def RX6 : String := "RingGroup"
def TX6 : u_T := fun k => match k with
  | 0 => ("RingGroup", "window", "I", true)
  | 1 => ("RingGroup", "nodes", "[LRingGroup$Node;", true)
  | 2 => ("RingGroup", "rings", "[LRingGroup$Ring;", true)
  | _ => ("RingGroup", "noRing", "LRingGroup$Ring;", true)
def tyX6 : Nat → FieldType := fun k => match k with
  | 0 => .int
  | 1 => .array (.object "RingGroup$Node")
  | 2 => .array (.object "RingGroup$Ring")
  | _ => .object "RingGroup$Ring"
abbrev wsX60 : List Cond := u_ws RX6 TX6 4
theorem nmX6 : ∀ a, a < 4 → ∀ b, b < 4 → a ≠ b → (TX6 a).2.1 ≠ (TX6 b).2.1 := by decide +kernel
theorem tyX6_ok : ∀ k, k < 4 → parseFieldDescriptor (TX6 k).2.2.1 = some (tyX6 k) := by decide +kernel
abbrev cX6_init : ByteArray := prog_1_method_1_code
def yX6_init : MethodName := ⟨RX6, "<init>", "(II)V"⟩
abbrev cX6_send : ByteArray := prog_1_method_2_code
def yX6_send : MethodName := ⟨RX6, "send", "(IIJZ)I"⟩
abbrev cX6_pass : ByteArray := prog_1_method_3_code
def yX6_pass : MethodName := ⟨RX6, "pass", "(II)I"⟩
abbrev cX6_gather : ByteArray := prog_1_method_4_code
def yX6_gather : MethodName := ⟨RX6, "gather", "(I)I"⟩
abbrev cX6_part : ByteArray := prog_1_method_5_code
def yX6_part : MethodName := ⟨RX6, "part", "(II)V"⟩
abbrev cX6_crash : ByteArray := prog_1_method_6_code
def yX6_crash : MethodName := ⟨RX6, "crash", "(I)V"⟩
abbrev cX6_restart : ByteArray := prog_1_method_7_code
def yX6_restart : MethodName := ⟨RX6, "restart", "(I)V"⟩
abbrev cX6_about : ByteArray := prog_1_method_8_code
def yX6_about : MethodName := ⟨RX6, "about", "(II)I"⟩
abbrev cX6_table : ByteArray := prog_1_method_9_code
def yX6_table : MethodName := ⟨RX6, "table", "(II)J"⟩
abbrev cX6_mark : ByteArray := prog_1_method_10_code
def yX6_mark : MethodName := ⟨RX6, "mark", "(I)J"⟩
abbrev cX6_entry : ByteArray := prog_1_method_11_code
def yX6_entry : MethodName := ⟨RX6, "entry", "(III)J"⟩
abbrev cX6_primary : ByteArray := prog_1_method_12_code
def yX6_primary : MethodName := ⟨RX6, "primary", "(I)Z"⟩
abbrev cX6_nodeAt : ByteArray := prog_1_method_13_code
def yX6_nodeAt : MethodName := ⟨RX6, "nodeAt", "(I)LRingGroup$Node;"⟩
abbrev cX6_checkKey : ByteArray := prog_1_method_14_code
def yX6_checkKey : MethodName := ⟨RX6, "checkKey", "(I)V"⟩
abbrev cX6_isIn : ByteArray := prog_1_method_15_code
def yX6_isIn : MethodName := ⟨RX6, "isIn", "(II)Z"⟩
abbrev cX6_leastOf : ByteArray := prog_1_method_16_code
def yX6_leastOf : MethodName := ⟨RX6, "leastOf", "(I)I"⟩
abbrev cX6_reaches : ByteArray := prog_1_method_17_code
def yX6_reaches : MethodName := ⟨RX6, "reaches", "(LRingGroup$Node;LRingGroup$Node;)Z"⟩
abbrev cX6_receiversOf : ByteArray := prog_1_method_18_code
def yX6_receiversOf : MethodName := ⟨RX6, "receiversOf", "(LRingGroup$Node;)I"⟩
abbrev cX6_sendRequested : ByteArray := prog_1_method_19_code
def yX6_sendRequested : MethodName := ⟨RX6, "sendRequested", "(LRingGroup$Node;I)V"⟩
abbrev cX6_sendPending : ByteArray := prog_1_method_20_code
def yX6_sendPending : MethodName := ⟨RX6, "sendPending", "(LRingGroup$Node;I)V"⟩
abbrev cX6_giveTo : ByteArray := prog_1_method_21_code
def yX6_giveTo : MethodName := ⟨RX6, "giveTo", "(IILRingGroup$Message;)V"⟩
abbrev cX6_requestMissing : ByteArray := prog_1_method_22_code
def yX6_requestMissing : MethodName := ⟨RX6, "requestMissing", "(LRingGroup$Node;)V"⟩
abbrev cX6_handOn : ByteArray := prog_1_method_23_code
def yX6_handOn : MethodName := ⟨RX6, "handOn", "(LRingGroup$Node;)V"⟩
abbrev cX6_upInGroup : ByteArray := prog_1_method_24_code
def yX6_upInGroup : MethodName := ⟨RX6, "upInGroup", "(I)I"⟩
abbrev cX6_ofRing : ByteArray := prog_1_method_25_code
def yX6_ofRing : MethodName := ⟨RX6, "ofRing", "(LRingGroup$Ring;I)I"⟩
abbrev cX6_isWhole : ByteArray := prog_1_method_26_code
def yX6_isWhole : MethodName := ⟨RX6, "isWhole", "(LRingGroup$Ring;I)Z"⟩
abbrev cX6_foremost : ByteArray := prog_1_method_27_code
def yX6_foremost : MethodName := ⟨RX6, "foremost", "(LRingGroup$Node;I)LRingGroup$Node;"⟩
abbrev cX6_isQuorum : ByteArray := prog_1_method_28_code
def yX6_isQuorum : MethodName := ⟨RX6, "isQuorum", "(II)Z"⟩
abbrev cX6_endOldRings : ByteArray := prog_1_method_29_code
def yX6_endOldRings : MethodName := ⟨RX6, "endOldRings", "(I)V"⟩
abbrev cX6_endRing : ByteArray := prog_1_method_30_code
def yX6_endRing : MethodName := ⟨RX6, "endRing", "(I)V"⟩
abbrev cX6_shareAll : ByteArray := prog_1_method_31_code
def yX6_shareAll : MethodName := ⟨RX6, "shareAll", "(I)V"⟩
abbrev cX6_bringTablesUpToDate : ByteArray := prog_1_method_32_code
def yX6_bringTablesUpToDate : MethodName := ⟨RX6, "bringTablesUpToDate", "(LRingGroup$Node;I)V"⟩
abbrev cX6_keptByOne : ByteArray := prog_1_method_33_code
def yX6_keptByOne : MethodName := ⟨RX6, "keptByOne", "(III)LRingGroup$Message;"⟩
abbrev cX6_beginRing : ByteArray := prog_1_method_34_code
def yX6_beginRing : MethodName := ⟨RX6, "beginRing", "(IZ)I"⟩
abbrev cX6_unusedRing : ByteArray := prog_1_method_35_code
def yX6_unusedRing : MethodName := ⟨RX6, "unusedRing", "()LRingGroup$Ring;"⟩
def RX7 : String := "RingGroupModel"
def TX7 : u_T := fun k => match k with
  | 0 => ("RingGroupModel", "thrown", "I", false)
  | 1 => ("RingGroupModel", "nodes", "I", false)
  | 2 => ("RingGroupModel", "window", "I", false)
  | 3 => ("RingGroupModel", "up", "[Z", true)
  | 4 => ("RingGroupModel", "group", "[I", true)
  | 5 => ("RingGroupModel", "ringOf", "[I", true)
  | 6 => ("RingGroupModel", "highest", "[I", true)
  | 7 => ("RingGroupModel", "tables", "[J", true)
  | 8 => ("RingGroupModel", "applied", "[I", true)
  | 9 => ("RingGroupModel", "marks", "[J", true)
  | 10 => ("RingGroupModel", "voteNumber", "[I", true)
  | 11 => ("RingGroupModel", "voteMembers", "[I", true)
  | 12 => ("RingGroupModel", "pending", "[I", true)
  | 13 => ("RingGroupModel", "pendingKeys", "[I", true)
  | 14 => ("RingGroupModel", "pendingValues", "[J", true)
  | 15 => ("RingGroupModel", "pendingSafe", "[Z", true)
  | 16 => ("RingGroupModel", "delivered", "[I", true)
  | 17 => ("RingGroupModel", "safeTo", "[I", true)
  | 18 => ("RingGroupModel", "logged", "[I", true)
  | 19 => ("RingGroupModel", "kept", "[Z", true)
  | 20 => ("RingGroupModel", "keptKeys", "[I", true)
  | 21 => ("RingGroupModel", "keptValues", "[J", true)
  | 22 => ("RingGroupModel", "done", "[I", true)
  | 23 => ("RingGroupModel", "log", "[J", true)
  | 24 => ("RingGroupModel", "numbers", "[I", true)
  | 25 => ("RingGroupModel", "members", "[I", true)
  | 26 => ("RingGroupModel", "lost", "[Z", true)
  | 27 => ("RingGroupModel", "tokenAt", "[I", true)
  | 28 => ("RingGroupModel", "places", "[I", true)
  | 29 => ("RingGroupModel", "senders", "[I", true)
  | 30 => ("RingGroupModel", "keys", "[I", true)
  | 31 => ("RingGroupModel", "values", "[J", true)
  | 32 => ("RingGroupModel", "safes", "[Z", true)
  | 33 => ("RingGroupModel", "has", "[I", true)
  | 34 => ("RingGroupModel", "requested", "[Z", true)
  | _ => ("RingGroupModel", "tokenFull", "[I", true)
def tyX7 : Nat → FieldType := fun k => match k with
  | 0 => .int
  | 1 => .int
  | 2 => .int
  | 3 => .array .boolean
  | 4 => .array .int
  | 5 => .array .int
  | 6 => .array .int
  | 7 => .array .long
  | 8 => .array .int
  | 9 => .array .long
  | 10 => .array .int
  | 11 => .array .int
  | 12 => .array .int
  | 13 => .array .int
  | 14 => .array .long
  | 15 => .array .boolean
  | 16 => .array .int
  | 17 => .array .int
  | 18 => .array .int
  | 19 => .array .boolean
  | 20 => .array .int
  | 21 => .array .long
  | 22 => .array .int
  | 23 => .array .long
  | 24 => .array .int
  | 25 => .array .int
  | 26 => .array .boolean
  | 27 => .array .int
  | 28 => .array .int
  | 29 => .array .int
  | 30 => .array .int
  | 31 => .array .long
  | 32 => .array .boolean
  | 33 => .array .int
  | 34 => .array .boolean
  | _ => .array .int
abbrev wsX70 : List Cond := u_ws RX7 TX7 36
theorem nmX7 : ∀ a, a < 36 → ∀ b, b < 36 → a ≠ b → (TX7 a).2.1 ≠ (TX7 b).2.1 := by decide +kernel
theorem tyX7_ok : ∀ k, k < 36 → parseFieldDescriptor (TX7 k).2.2.1 = some (tyX7 k) := by decide +kernel
abbrev cX7_init : ByteArray := prog_9_method_1_code
def yX7_init : MethodName := ⟨RX7, "<init>", "(II)V"⟩
abbrev cX7_thrown : ByteArray := prog_9_method_2_code
def yX7_thrown : MethodName := ⟨RX7, "thrown", "()I"⟩
abbrev cX7_noNode : ByteArray := prog_9_method_3_code
def yX7_noNode : MethodName := ⟨RX7, "noNode", "(I)Z"⟩
abbrev cX7_isIn : ByteArray := prog_9_method_4_code
def yX7_isIn : MethodName := ⟨RX7, "isIn", "(II)Z"⟩
abbrev cX7_place : ByteArray := prog_9_method_5_code
def yX7_place : MethodName := ⟨RX7, "place", "(II)I"⟩
abbrev cX7_hasPlace : ByteArray := prog_9_method_6_code
def yX7_hasPlace : MethodName := ⟨RX7, "hasPlace", "(II)Z"⟩
abbrev cX7_full : ByteArray := prog_9_method_7_code
def yX7_full : MethodName := ⟨RX7, "full", "(I)I"⟩
abbrev cX7_holds : ByteArray := prog_9_method_8_code
def yX7_holds : MethodName := ⟨RX7, "holds", "(I)Z"⟩
abbrev cX7_tell : ByteArray := prog_9_method_9_code
def yX7_tell : MethodName := ⟨RX7, "tell", "(IJJJJJJ)V"⟩
abbrev cX7_send : ByteArray := prog_9_method_10_code
def yX7_send : MethodName := ⟨RX7, "send", "(IIJZ)I"⟩
abbrev cX7_apply : ByteArray := prog_9_method_11_code
def yX7_apply : MethodName := ⟨RX7, "apply", "(IIIJ)V"⟩
abbrev cX7_deliver : ByteArray := prog_9_method_12_code
def yX7_deliver : MethodName := ⟨RX7, "deliver", "(IIZ)V"⟩
abbrev cX7_gets : ByteArray := prog_9_method_13_code
def yX7_gets : MethodName := ⟨RX7, "gets", "(II)V"⟩
abbrev cX7_deliverAll : ByteArray := prog_9_method_14_code
def yX7_deliverAll : MethodName := ⟨RX7, "deliverAll", "(I)I"⟩
abbrev cX7_comes : ByteArray := prog_9_method_15_code
def yX7_comes : MethodName := ⟨RX7, "comes", "(III)V"⟩
abbrev cX7_give : ByteArray := prog_9_method_16_code
def yX7_give : MethodName := ⟨RX7, "give", "(II)V"⟩
abbrev cX7_goesOn : ByteArray := prog_9_method_17_code
def yX7_goesOn : MethodName := ⟨RX7, "goesOn", "(I)V"⟩
abbrev cX7_pass : ByteArray := prog_9_method_18_code
def yX7_pass : MethodName := ⟨RX7, "pass", "(II)I"⟩
abbrev cX7_together : ByteArray := prog_9_method_19_code
def yX7_together : MethodName := ⟨RX7, "together", "(I)I"⟩
abbrev cX7_count : ByteArray := prog_9_method_20_code
def yX7_count : MethodName := ⟨RX7, "count", "(I)I"⟩
abbrev cX7_least : ByteArray := prog_9_method_21_code
def yX7_least : MethodName := ⟨RX7, "least", "(I)I"⟩
abbrev cX7_isWhole : ByteArray := prog_9_method_22_code
def yX7_isWhole : MethodName := ⟨RX7, "isWhole", "(I)Z"⟩
abbrev cX7_voter : ByteArray := prog_9_method_23_code
def yX7_voter : MethodName := ⟨RX7, "voter", "(I)I"⟩
abbrev cX7_isPrimary : ByteArray := prog_9_method_24_code
def yX7_isPrimary : MethodName := ⟨RX7, "isPrimary", "(I)Z"⟩
abbrev cX7_of : ByteArray := prog_9_method_25_code
def yX7_of : MethodName := ⟨RX7, "of", "(II)I"⟩
abbrev cX7_nextRing : ByteArray := prog_9_method_26_code
def yX7_nextRing : MethodName := ⟨RX7, "nextRing", "(II)I"⟩
abbrev cX7_isBefore : ByteArray := prog_9_method_27_code
def yX7_isBefore : MethodName := ⟨RX7, "isBefore", "(II)Z"⟩
abbrev cX7_end : ByteArray := prog_9_method_28_code
def yX7_end : MethodName := ⟨RX7, "end", "(II)V"⟩
abbrev cX7_share : ByteArray := prog_9_method_29_code
def yX7_share : MethodName := ⟨RX7, "share", "(I)V"⟩
abbrev cX7_forget : ByteArray := prog_9_method_30_code
def yX7_forget : MethodName := ⟨RX7, "forget", "(I)V"⟩
abbrev cX7_freeSlot : ByteArray := prog_9_method_31_code
def yX7_freeSlot : MethodName := ⟨RX7, "freeSlot", "()I"⟩
abbrev cX7_form : ByteArray := prog_9_method_32_code
def yX7_form : MethodName := ⟨RX7, "form", "(IZ)I"⟩
abbrev cX7_gather : ByteArray := prog_9_method_33_code
def yX7_gather : MethodName := ⟨RX7, "gather", "(I)I"⟩
abbrev cX7_part : ByteArray := prog_9_method_34_code
def yX7_part : MethodName := ⟨RX7, "part", "(II)V"⟩
abbrev cX7_crash : ByteArray := prog_9_method_35_code
def yX7_crash : MethodName := ⟨RX7, "crash", "(I)V"⟩
abbrev cX7_restart : ByteArray := prog_9_method_36_code
def yX7_restart : MethodName := ⟨RX7, "restart", "(I)V"⟩
abbrev cX7_about : ByteArray := prog_9_method_37_code
def yX7_about : MethodName := ⟨RX7, "about", "(II)I"⟩
abbrev cX7_table : ByteArray := prog_9_method_38_code
def yX7_table : MethodName := ⟨RX7, "table", "(II)J"⟩
abbrev cX7_mark : ByteArray := prog_9_method_39_code
def yX7_mark : MethodName := ⟨RX7, "mark", "(I)J"⟩
abbrev cX7_entry : ByteArray := prog_9_method_40_code
def yX7_entry : MethodName := ⟨RX7, "entry", "(III)J"⟩
abbrev cX7_primary : ByteArray := prog_9_method_41_code
def yX7_primary : MethodName := ⟨RX7, "primary", "(I)Z"⟩
def RJ6 : String := "java/lang/Integer"
def TJ6 : u_T := fun k => match k with
  | _ => ("", "", "", false)
def tyJ6 : Nat → FieldType := fun k => match k with
  | _ => .int
abbrev wsJ60 : List Cond := u_ws RJ6 TJ6 0
theorem nmJ6 : ∀ a, a < 0 → ∀ b, b < 0 → a ≠ b → (TJ6 a).2.1 ≠ (TJ6 b).2.1 := by decide +kernel
theorem tyJ6_ok : ∀ k, k < 0 → parseFieldDescriptor (TJ6 k).2.2.1 = some (tyJ6 k) := by decide +kernel
abbrev cJ6_bitCount_0f7a4 : ByteArray := prog_14_method_49_code
def yJ6_bitCount_0f7a4 : MethodName := ⟨RJ6, "bitCount", "(I)I"⟩
def RJ9 : String := "java/lang/Math"
def TJ9 : u_T := fun k => match k with
  | _ => ("", "", "", false)
def tyJ9 : Nat → FieldType := fun k => match k with
  | _ => .int
abbrev wsJ90 : List Cond := u_ws RJ9 TJ9 0
theorem nmJ9 : ∀ a, a < 0 → ∀ b, b < 0 → a ≠ b → (TJ9 a).2.1 ≠ (TJ9 b).2.1 := by decide +kernel
theorem tyJ9_ok : ∀ k, k < 0 → parseFieldDescriptor (TJ9 k).2.2.1 = some (tyJ9 k) := by decide +kernel
abbrev cJ9_floorMod_7cf53 : ByteArray := prog_15_method_50_code
def yJ9_floorMod_7cf53 : MethodName := ⟨RJ9, "floorMod", "(II)I"⟩
abbrev cJ9_max_7cf53 : ByteArray := prog_15_method_65_code
def yJ9_max_7cf53 : MethodName := ⟨RJ9, "max", "(II)I"⟩
abbrev cJ9_min_7cf53 : ByteArray := prog_15_method_69_code
def yJ9_min_7cf53 : MethodName := ⟨RJ9, "min", "(II)I"⟩
def RJ0 : String := "java/lang/String"
def TJ0 : u_T := fun k => match k with
  | _ => ("", "", "", false)
def tyJ0 : Nat → FieldType := fun k => match k with
  | _ => .int
abbrev wsJ00 : List Cond := u_ws RJ0 TJ0 0
theorem nmJ0 : ∀ a, a < 0 → ∀ b, b < 0 → a ≠ b → (TJ0 a).2.1 ≠ (TJ0 b).2.1 := by decide +kernel
theorem tyJ0_ok : ∀ k, k < 0 → parseFieldDescriptor (TJ0 k).2.2.1 = some (tyJ0 k) := by decide +kernel
def RL : String := "RingGroupLaw"
abbrev cL_cell : ByteArray := method_2_code
def yL_cell : MethodName := ⟨RL, "cell", "([II)I"⟩
abbrev cL_send : ByteArray := method_3_code
def yL_send : MethodName := ⟨RL, "send", "(LRingGroup;IIJZ[J)I"⟩
abbrev cL_pass : ByteArray := method_4_code
def yL_pass : MethodName := ⟨RL, "pass", "(LRingGroup;II[J)I"⟩
abbrev cL_gather : ByteArray := method_5_code
def yL_gather : MethodName := ⟨RL, "gather", "(LRingGroup;I[J)I"⟩
abbrev cL_part : ByteArray := method_6_code
def yL_part : MethodName := ⟨RL, "part", "(LRingGroup;II)I"⟩
abbrev cL_crash : ByteArray := method_7_code
def yL_crash : MethodName := ⟨RL, "crash", "(LRingGroup;I)I"⟩
abbrev cL_restart : ByteArray := method_8_code
def yL_restart : MethodName := ⟨RL, "restart", "(LRingGroup;I)I"⟩
abbrev cL_about : ByteArray := method_9_code
def yL_about : MethodName := ⟨RL, "about", "(LRingGroup;II[J)I"⟩
abbrev cL_table : ByteArray := method_10_code
def yL_table : MethodName := ⟨RL, "table", "(LRingGroup;II[J)I"⟩
abbrev cL_mark : ByteArray := method_11_code
def yL_mark : MethodName := ⟨RL, "mark", "(LRingGroup;I[J)I"⟩
abbrev cL_entry : ByteArray := method_12_code
def yL_entry : MethodName := ⟨RL, "entry", "(LRingGroup;III[J)I"⟩
abbrev cL_primary : ByteArray := method_13_code
def yL_primary : MethodName := ⟨RL, "primary", "(LRingGroup;I[J)I"⟩
abbrev cL_law : ByteArray := code
def yL_law : MethodName := ⟨RL, "law", "([I)Z"⟩
abbrev vwCl : List vw_C := [(RX0, TX0, 2), (RX1, TX1, 4), (RX2, TX2, 13), (RX3, TX3, 2), (RX4, TX4, 5), (RX5, TX5, 6), (RX6, TX6, 4), (RX7, TX7, 36)]
end
section
def wsX0_init : List Cond := .code yX0_init cX0_init 1 none :: ([.methodLink RX0 3 objectInit, .instanceMethod objectInit, .code objectInit ⟨#[0xb1]⟩ 1 none, .arrayClass .long, .fieldLink RX0 9 "RingGroup$Log" "cells" "[J"] ++ wsX00)
def wsJ9_floorMod_7cf53 : List Cond := .code yJ9_floorMod_7cf53 cJ9_floorMod_7cf53 3 (some .int) :: ([])
def wsX0_add : List Cond := .code yX0_add cX0_add 9 none :: ([.fieldLink RX0 15 "RingGroup$Log" "ever" "I", .fieldLink RX0 9 "RingGroup$Log" "cells" "[J", .methodLink RX0 19 yJ9_floorMod_7cf53, .static yJ9_floorMod_7cf53, .initialized RJ9, .code yJ9_floorMod_7cf53 cJ9_floorMod_7cf53 3 (some .int)] ++ wsX00)
def wsX0_size : List Cond := .code yX0_size cX0_size 1 (some .int) :: ([.fieldLink RX0 15 "RingGroup$Log" "ever" "I", .methodLink RX0 25 Lib.Math.min.name, .static Lib.Math.min.name, .initialized "java/lang/Math", .code Lib.Math.min.name Lib.Math.min.code 2 (some .int)] ++ wsX00)
def wsX0_cell : List Cond := .code yX0_cell cX0_cell 3 (some .long) :: ([.fieldLink RX0 9 "RingGroup$Log" "cells" "[J", .fieldLink RX0 15 "RingGroup$Log" "ever" "I", .methodLink RX0 28 yX0_size, .instanceMethod yX0_size, .selects RX0 yX0_size yX0_size, .initialized RX0, .code yX0_size cX0_size 1 (some .int), .methodLink RX0 25 Lib.Math.min.name, .static Lib.Math.min.name, .initialized "java/lang/Math", .code Lib.Math.min.name Lib.Math.min.code 2 (some .int), .methodLink RX0 19 yJ9_floorMod_7cf53, .static yJ9_floorMod_7cf53, .initialized RJ9, .code yJ9_floorMod_7cf53 cJ9_floorMod_7cf53 3 (some .int)] ++ wsX00)
def wsX1_init : List Cond := .code yX1_init cX1_init 6 none :: ([.methodLink RX1 1 objectInit, .instanceMethod objectInit, .code objectInit ⟨#[0xb1]⟩ 1 none, .fieldLink RX1 7 "RingGroup$Message" "sender" "I", .fieldLink RX1 13 "RingGroup$Message" "key" "I", .fieldLink RX1 16 "RingGroup$Message" "value" "J", .fieldLink RX1 20 "RingGroup$Message" "safe" "Z"] ++ wsX10)
def wsX3_init : List Cond := .code yX3_init cX3_init 1 none :: ([.methodLink RX3 3 objectInit, .instanceMethod objectInit, .code objectInit ⟨#[0xb1]⟩ 1 none, .classLink RX3 9 RX1, .fieldLink RX3 11 "RingGroup$Pending" "waiting" "[LRingGroup$Message;"] ++ wsX30)
def wsX4_init : List Cond := .code yX4_init cX4_init 1 none :: ([.methodLink RX4 3 objectInit, .instanceMethod objectInit, .code objectInit ⟨#[0xb1]⟩ 1 none, .arrayClass .long, .fieldLink RX4 9 "RingGroup$Replica" "values" "[J", .classLink RX4 15 RX1, .fieldLink RX4 17 "RingGroup$Replica" "kept" "[LRingGroup$Message;"] ++ wsX40)
def wsX2_init_r1 : List Cond := [Cond.methodLink RX2 3 objectInit, Cond.instanceMethod objectInit, Cond.code objectInit ⟨#[0xb1]⟩ 1 none, Cond.classLink RX2 9 RX3, Cond.instantiable RX3 2, Cond.initialized RX3, Cond.fieldLink RX2 12 "RingGroup$Node" "pending" "LRingGroup$Pending;", Cond.classLink RX2 18 RX4, Cond.instantiable RX4 5, Cond.initialized RX4, Cond.fieldLink RX2 21 "RingGroup$Node" "replica" "LRingGroup$Replica;", Cond.classLink RX2 25 RX0, Cond.instantiable RX0 2, Cond.initialized RX0, Cond.fieldLink RX2 28 "RingGroup$Node" "log" "LRingGroup$Log;", Cond.classLink RX2 32 RX1, Cond.fieldLink RX2 34 "RingGroup$Node" "has" "[LRingGroup$Message;", Cond.fieldLink RX2 38 "RingGroup$Node" "up" "Z", Cond.fieldLink RX2 42 "RingGroup$Node" "number" "I", Cond.fieldLink RX2 46 "RingGroup$Node" "voteMembers" "I", Cond.fieldLink RX2 49 "RingGroup$Node" "ring" "LRingGroup$Ring;", Cond.instanceMethod yX3_init, Cond.code yX3_init cX3_init 1 none, Cond.methodLink RX3 3 objectInit]
def wsX2_init_r2 : List Cond := [Cond.classLink RX3 9 RX1, Cond.fieldLink RX3 11 "RingGroup$Pending" "waiting" "[LRingGroup$Message;", Cond.instanceMethod yX4_init, Cond.code yX4_init cX4_init 1 none, Cond.methodLink RX4 3 objectInit, Cond.arrayClass .long, Cond.fieldLink RX4 9 "RingGroup$Replica" "values" "[J", Cond.classLink RX4 15 RX1, Cond.fieldLink RX4 17 "RingGroup$Replica" "kept" "[LRingGroup$Message;", Cond.instanceMethod yX0_init, Cond.code yX0_init cX0_init 1 none, Cond.methodLink RX0 3 objectInit, Cond.fieldLink RX0 9 "RingGroup$Log" "cells" "[J"]
def wsX2_init : List Cond := .code yX2_init cX2_init 4 none :: ((wsX2_init_r1 ++ wsX2_init_r2) ++ wsX30 ++ wsX20 ++ wsX40 ++ wsX00)
def wsX2_isOfPrimary : List Cond := .code yX2_isOfPrimary cX2_isOfPrimary 1 (some .boolean) :: ([.fieldLink RX2 49 "RingGroup$Node" "ring" "LRingGroup$Ring;", .fieldLink RX2 53 "RingGroup$Ring" "number" "I", .fieldLink RX2 56 "RingGroup$Node" "voteNumber" "I"] ++ wsX20 ++ wsX50)
def wsX2_isAheadOf : List Cond := .code yX2_isAheadOf cX2_isAheadOf 2 (some .boolean) :: ([.fieldLink RX2 56 "RingGroup$Node" "voteNumber" "I", .fieldLink RX2 21 "RingGroup$Node" "replica" "LRingGroup$Replica;", .fieldLink RX2 59 "RingGroup$Replica" "applied" "I", .fieldLink RX2 42 "RingGroup$Node" "number" "I"] ++ wsX20 ++ wsX40)
def wsX2_full : List Cond := .code yX2_full cX2_full 2 (some .int) :: ([.fieldLink RX2 34 "RingGroup$Node" "has" "[LRingGroup$Message;"] ++ wsX20)
def wsX2_receive : List Cond := .code yX2_receive cX2_receive 3 none :: ([.fieldLink RX2 34 "RingGroup$Node" "has" "[LRingGroup$Message;", .fieldLink RX2 62 "RingGroup$Message" "safe" "Z", .fieldLink RX2 21 "RingGroup$Node" "replica" "LRingGroup$Replica;", .fieldLink RX2 69 "RingGroup$Replica" "kept" "[LRingGroup$Message;", .methodLink RX2 65 yX2_isOfPrimary, .instanceMethod yX2_isOfPrimary, .selects RX2 yX2_isOfPrimary yX2_isOfPrimary, .initialized RX2, .code yX2_isOfPrimary cX2_isOfPrimary 1 (some .boolean), .fieldLink RX2 49 "RingGroup$Node" "ring" "LRingGroup$Ring;", .fieldLink RX2 53 "RingGroup$Ring" "number" "I", .fieldLink RX2 56 "RingGroup$Node" "voteNumber" "I"] ++ wsX20 ++ wsX10 ++ wsX40 ++ wsX50)
def wsX2_tell : List Cond := .code yX2_tell cX2_tell 3 none :: ([.fieldLink RX2 72 "RingGroup$Node" "delivered" "I", .fieldLink RX2 28 "RingGroup$Node" "log" "LRingGroup$Log;", .fieldLink RX2 85 "RingGroup$Message" "sender" "I", .fieldLink RX2 92 "RingGroup$Message" "key" "I", .fieldLink RX2 95 "RingGroup$Message" "value" "J", .fieldLink RX2 49 "RingGroup$Node" "ring" "LRingGroup$Ring;", .fieldLink RX2 53 "RingGroup$Ring" "number" "I", .methodLink RX2 99 yX0_add, .instanceMethod yX0_add, .selects RX0 yX0_add yX0_add, .initialized RX0, .code yX0_add cX0_add 9 none, .fieldLink RX0 15 "RingGroup$Log" "ever" "I", .fieldLink RX0 9 "RingGroup$Log" "cells" "[J", .methodLink RX0 19 yJ9_floorMod_7cf53, .static yJ9_floorMod_7cf53, .initialized RJ9, .code yJ9_floorMod_7cf53 cJ9_floorMod_7cf53 3 (some .int)] ++ wsX20 ++ wsX10 ++ wsX50 ++ wsX00)
def wsX4_apply : List Cond := .code yX4_apply cX4_apply 3 none :: ([.fieldLink RX4 9 "RingGroup$Replica" "values" "[J", .fieldLink RX4 21 "RingGroup$Message" "key" "I", .fieldLink RX4 25 "RingGroup$Message" "value" "J", .fieldLink RX4 29 "RingGroup$Replica" "applied" "I", .fieldLink RX4 32 "RingGroup$Replica" "mark" "J", .constantLong RX4 35 (31), .fieldLink RX4 37 "RingGroup$Replica" "done" "I"] ++ wsX40 ++ wsX10)
def wsX2_deliverInTurn_r1 : List Cond := [Cond.fieldLink RX2 72 "RingGroup$Node" "delivered" "I", Cond.fieldLink RX2 34 "RingGroup$Node" "has" "[LRingGroup$Message;", Cond.fieldLink RX2 62 "RingGroup$Message" "safe" "Z", Cond.fieldLink RX2 75 "RingGroup$Node" "safeTo" "I", Cond.fieldLink RX2 21 "RingGroup$Node" "replica" "LRingGroup$Replica;", Cond.methodLink RX2 78 yX2_tell, Cond.instanceMethod yX2_tell, Cond.selects RX2 yX2_tell yX2_tell, Cond.initialized RX2, Cond.code yX2_tell cX2_tell 3 none, Cond.fieldLink RX2 28 "RingGroup$Node" "log" "LRingGroup$Log;", Cond.fieldLink RX2 85 "RingGroup$Message" "sender" "I", Cond.fieldLink RX2 92 "RingGroup$Message" "key" "I", Cond.fieldLink RX2 95 "RingGroup$Message" "value" "J", Cond.fieldLink RX2 49 "RingGroup$Node" "ring" "LRingGroup$Ring;", Cond.fieldLink RX2 53 "RingGroup$Ring" "number" "I", Cond.methodLink RX2 99 yX0_add, Cond.instanceMethod yX0_add, Cond.selects RX0 yX0_add yX0_add, Cond.initialized RX0, Cond.code yX0_add cX0_add 9 none, Cond.fieldLink RX0 15 "RingGroup$Log" "ever" "I", Cond.fieldLink RX0 9 "RingGroup$Log" "cells" "[J", Cond.methodLink RX0 19 yJ9_floorMod_7cf53]
def wsX2_deliverInTurn_r2 : List Cond := [Cond.static yJ9_floorMod_7cf53, Cond.initialized RJ9, Cond.code yJ9_floorMod_7cf53 cJ9_floorMod_7cf53 3 (some .int), Cond.methodLink RX2 65 yX2_isOfPrimary, Cond.instanceMethod yX2_isOfPrimary, Cond.selects RX2 yX2_isOfPrimary yX2_isOfPrimary, Cond.code yX2_isOfPrimary cX2_isOfPrimary 1 (some .boolean), Cond.fieldLink RX2 56 "RingGroup$Node" "voteNumber" "I", Cond.methodLink RX2 82 yX4_apply, Cond.instanceMethod yX4_apply, Cond.selects RX4 yX4_apply yX4_apply, Cond.initialized RX4, Cond.code yX4_apply cX4_apply 3 none, Cond.fieldLink RX4 9 "RingGroup$Replica" "values" "[J", Cond.fieldLink RX4 21 "RingGroup$Message" "key" "I", Cond.fieldLink RX4 25 "RingGroup$Message" "value" "J", Cond.fieldLink RX4 29 "RingGroup$Replica" "applied" "I", Cond.fieldLink RX4 32 "RingGroup$Replica" "mark" "J", Cond.constantLong RX4 35 (31), Cond.fieldLink RX4 37 "RingGroup$Replica" "done" "I"]
def wsX2_deliverInTurn : List Cond := .code yX2_deliverInTurn cX2_deliverInTurn 4 (some .int) :: ((wsX2_deliverInTurn_r1 ++ wsX2_deliverInTurn_r2) ++ wsX20 ++ wsX10 ++ wsX50 ++ wsX00 ++ wsX40)
def wsX6_isIn : List Cond := .code yX6_isIn cX6_isIn 2 (some .boolean) :: ([])
def wsX2_deliverLeft_r1 : List Cond := [Cond.fieldLink RX2 72 "RingGroup$Node" "delivered" "I", Cond.fieldLink RX2 34 "RingGroup$Node" "has" "[LRingGroup$Message;", Cond.fieldLink RX2 85 "RingGroup$Message" "sender" "I", Cond.static yX6_isIn, Cond.initialized RX6, Cond.code yX6_isIn cX6_isIn 2 (some .boolean), Cond.methodLink RX2 78 yX2_tell, Cond.instanceMethod yX2_tell, Cond.selects RX2 yX2_tell yX2_tell, Cond.initialized RX2, Cond.code yX2_tell cX2_tell 3 none, Cond.fieldLink RX2 28 "RingGroup$Node" "log" "LRingGroup$Log;", Cond.fieldLink RX2 92 "RingGroup$Message" "key" "I", Cond.fieldLink RX2 95 "RingGroup$Message" "value" "J", Cond.fieldLink RX2 49 "RingGroup$Node" "ring" "LRingGroup$Ring;", Cond.fieldLink RX2 53 "RingGroup$Ring" "number" "I", Cond.methodLink RX2 99 yX0_add, Cond.instanceMethod yX0_add, Cond.selects RX0 yX0_add yX0_add, Cond.initialized RX0, Cond.code yX0_add cX0_add 9 none, Cond.fieldLink RX0 15 "RingGroup$Log" "ever" "I", Cond.fieldLink RX0 9 "RingGroup$Log" "cells" "[J", Cond.methodLink RX0 19 yJ9_floorMod_7cf53]
def wsX2_deliverLeft_r2 : List Cond := [Cond.static yJ9_floorMod_7cf53, Cond.initialized RJ9, Cond.code yJ9_floorMod_7cf53 cJ9_floorMod_7cf53 3 (some .int)]
def wsX2_deliverLeft : List Cond := .code yX2_deliverLeft cX2_deliverLeft 5 none :: ((wsX2_deliverLeft_r1 ++ wsX2_deliverLeft_r2) ++ wsX20 ++ wsX10 ++ wsX50 ++ wsX00)
def wsX2_leaveRing : List Cond := .code yX2_leaveRing cX2_leaveRing 3 none :: ([.fieldLink RX2 49 "RingGroup$Node" "ring" "LRingGroup$Ring;", .fieldLink RX2 103 "RingGroup$Ring" "holder" "I", .fieldLink RX2 42 "RingGroup$Node" "number" "I", .fieldLink RX2 72 "RingGroup$Node" "delivered" "I", .fieldLink RX2 75 "RingGroup$Node" "safeTo" "I", .fieldLink RX2 34 "RingGroup$Node" "has" "[LRingGroup$Message;"] ++ wsX20 ++ wsX50)
def wsX4_forgetKept : List Cond := .code yX4_forgetKept cX4_forgetKept 2 none :: ([.fieldLink RX4 37 "RingGroup$Replica" "done" "I", .fieldLink RX4 17 "RingGroup$Replica" "kept" "[LRingGroup$Message;"] ++ wsX40)
def wsX2_joinRing_r1 : List Cond := [Cond.fieldLink RX2 49 "RingGroup$Node" "ring" "LRingGroup$Ring;", Cond.fieldLink RX2 53 "RingGroup$Ring" "number" "I", Cond.fieldLink RX2 106 "RingGroup$Node" "highest" "I", Cond.fieldLink RX2 56 "RingGroup$Node" "voteNumber" "I", Cond.fieldLink RX2 109 "RingGroup$Ring" "members" "I", Cond.fieldLink RX2 46 "RingGroup$Node" "voteMembers" "I", Cond.fieldLink RX2 21 "RingGroup$Node" "replica" "LRingGroup$Replica;", Cond.fieldLink RX2 28 "RingGroup$Node" "log" "LRingGroup$Log;", Cond.methodLink RX2 112 yX4_forgetKept, Cond.instanceMethod yX4_forgetKept, Cond.selects RX4 yX4_forgetKept yX4_forgetKept, Cond.initialized RX4, Cond.code yX4_forgetKept cX4_forgetKept 2 none, Cond.fieldLink RX4 37 "RingGroup$Replica" "done" "I", Cond.fieldLink RX4 17 "RingGroup$Replica" "kept" "[LRingGroup$Message;", Cond.methodLink RX2 99 yX0_add, Cond.instanceMethod yX0_add, Cond.selects RX0 yX0_add yX0_add, Cond.initialized RX0, Cond.code yX0_add cX0_add 9 none, Cond.fieldLink RX0 15 "RingGroup$Log" "ever" "I", Cond.fieldLink RX0 9 "RingGroup$Log" "cells" "[J", Cond.methodLink RX0 19 yJ9_floorMod_7cf53, Cond.static yJ9_floorMod_7cf53]
def wsX2_joinRing_r2 : List Cond := [Cond.initialized RJ9, Cond.code yJ9_floorMod_7cf53 cJ9_floorMod_7cf53 3 (some .int)]
def wsX2_joinRing : List Cond := .code yX2_joinRing cX2_joinRing 3 none :: ((wsX2_joinRing_r1 ++ wsX2_joinRing_r2) ++ wsX20 ++ wsX50 ++ wsX40 ++ wsX00)
def wsX3_isFull : List Cond := .code yX3_isFull cX3_isFull 1 (some .boolean) :: ([.fieldLink RX3 17 "RingGroup$Pending" "count" "I"] ++ wsX30)
def wsX3_put : List Cond := .code yX3_put cX3_put 2 (some .int) :: ([.fieldLink RX3 11 "RingGroup$Pending" "waiting" "[LRingGroup$Message;", .fieldLink RX3 17 "RingGroup$Pending" "count" "I"] ++ wsX30)
def wsX3_takeFirst : List Cond := .code yX3_takeFirst cX3_takeFirst 3 (some (.object "RingGroup$Message")) :: ([.fieldLink RX3 17 "RingGroup$Pending" "count" "I", .fieldLink RX3 11 "RingGroup$Pending" "waiting" "[LRingGroup$Message;"] ++ wsX30)
def wsX3_drop : List Cond := .code yX3_drop cX3_drop 1 none :: ([.fieldLink RX3 17 "RingGroup$Pending" "count" "I"] ++ wsX30)
def wsX4_copyTable : List Cond := .code yX4_copyTable cX4_copyTable 3 none :: ([.fieldLink RX4 9 "RingGroup$Replica" "values" "[J", .fieldLink RX4 29 "RingGroup$Replica" "applied" "I", .fieldLink RX4 32 "RingGroup$Replica" "mark" "J"] ++ wsX40)
def wsX5_init : List Cond := .code yX5_init cX5_init 1 none :: ([.methodLink RX5 3 objectInit, .instanceMethod objectInit, .code objectInit ⟨#[0xb1]⟩ 1 none, .arrayClass .boolean, .fieldLink RX5 9 "RingGroup$Ring" "requested" "[Z", .arrayClass .int, .fieldLink RX5 15 "RingGroup$Ring" "full" "[I", .fieldLink RX5 19 "RingGroup$Ring" "holder" "I"] ++ wsX50)
def wsX6_leastOf : List Cond := .code yX6_leastOf cX6_leastOf 2 (some .int) :: ([.methodLink RX6 237 yX6_isIn, .static yX6_isIn, .initialized RX6, .code yX6_isIn cX6_isIn 2 (some .boolean)])
def wsX5_begin : List Cond := .code yX5_begin cX5_begin 4 none :: ([.fieldLink RX5 23 "RingGroup$Ring" "number" "I", .fieldLink RX5 26 "RingGroup$Ring" "members" "I", .fieldLink RX5 19 "RingGroup$Ring" "holder" "I", .fieldLink RX5 33 "RingGroup$Ring" "lastPlace" "I", .fieldLink RX5 9 "RingGroup$Ring" "requested" "[Z", .fieldLink RX5 15 "RingGroup$Ring" "full" "[I", .static yX6_leastOf, .initialized RX6, .code yX6_leastOf cX6_leastOf 2 (some .int), .methodLink RX6 237 yX6_isIn, .static yX6_isIn, .code yX6_isIn cX6_isIn 2 (some .boolean)] ++ wsX50)
def wsX5_memberBehind : List Cond := .code yX5_memberBehind cX5_memberBehind 4 (some .int) :: ([.fieldLink RX5 26 "RingGroup$Ring" "members" "I", .static yX6_isIn, .initialized RX6, .code yX6_isIn cX6_isIn 2 (some .boolean)] ++ wsX50)
def wsX5_leastFull : List Cond := .code yX5_leastFull cX5_leastFull 3 (some .int) :: ([.fieldLink RX5 26 "RingGroup$Ring" "members" "I", .fieldLink RX5 15 "RingGroup$Ring" "full" "[I", .methodLink RX5 40 Lib.Math.min.name, .static Lib.Math.min.name, .initialized "java/lang/Math", .code Lib.Math.min.name Lib.Math.min.code 2 (some .int), .static yX6_isIn, .initialized RX6, .code yX6_isIn cX6_isIn 2 (some .boolean)] ++ wsX50)
def wsX6_init_r1 : List Cond := [Cond.methodLink RX6 1 objectInit, Cond.instanceMethod objectInit, Cond.code objectInit ⟨#[0xb1]⟩ 1 none, Cond.methodLink RX6 9 Lib.Math.min.name, Cond.static Lib.Math.min.name, Cond.initialized "java/lang/Math", Cond.code Lib.Math.min.name Lib.Math.min.code 2 (some .int), Cond.methodLink RX6 15 Lib.Math.max.name, Cond.static Lib.Math.max.name, Cond.code Lib.Math.max.name Lib.Math.max.code 2 (some .int), Cond.fieldLink RX6 18 "RingGroup" "window" "I", Cond.classLink RX6 22 RX5, Cond.instantiable RX5 6, Cond.initialized RX5, Cond.fieldLink RX6 25 "RingGroup" "noRing" "LRingGroup$Ring;", Cond.classLink RX6 29 RX2, Cond.fieldLink RX6 31 "RingGroup" "nodes" "[LRingGroup$Node;", Cond.fieldLink RX6 35 "RingGroup" "rings" "[LRingGroup$Ring;", Cond.instantiable RX2 13, Cond.initialized RX2, Cond.instanceMethod yX5_init, Cond.code yX5_init cX5_init 1 none, Cond.methodLink RX5 3 objectInit, Cond.arrayClass .boolean]
def wsX6_init_r2 : List Cond := [Cond.fieldLink RX5 9 "RingGroup$Ring" "requested" "[Z", Cond.arrayClass .int, Cond.fieldLink RX5 15 "RingGroup$Ring" "full" "[I", Cond.fieldLink RX5 19 "RingGroup$Ring" "holder" "I", Cond.methodLink RX6 39 yX2_init, Cond.instanceMethod yX2_init, Cond.code yX2_init cX2_init 4 none, Cond.methodLink RX2 3 objectInit, Cond.classLink RX2 9 RX3, Cond.instantiable RX3 2, Cond.initialized RX3, Cond.fieldLink RX2 12 "RingGroup$Node" "pending" "LRingGroup$Pending;", Cond.classLink RX2 18 RX4, Cond.instantiable RX4 5, Cond.initialized RX4, Cond.fieldLink RX2 21 "RingGroup$Node" "replica" "LRingGroup$Replica;", Cond.classLink RX2 25 RX0, Cond.instantiable RX0 2, Cond.initialized RX0, Cond.fieldLink RX2 28 "RingGroup$Node" "log" "LRingGroup$Log;", Cond.classLink RX2 32 RX1, Cond.fieldLink RX2 34 "RingGroup$Node" "has" "[LRingGroup$Message;", Cond.fieldLink RX2 38 "RingGroup$Node" "up" "Z", Cond.fieldLink RX2 42 "RingGroup$Node" "number" "I"]
def wsX6_init_r3 : List Cond := [Cond.fieldLink RX2 46 "RingGroup$Node" "voteMembers" "I", Cond.fieldLink RX2 49 "RingGroup$Node" "ring" "LRingGroup$Ring;", Cond.instanceMethod yX3_init, Cond.code yX3_init cX3_init 1 none, Cond.methodLink RX3 3 objectInit, Cond.classLink RX3 9 RX1, Cond.fieldLink RX3 11 "RingGroup$Pending" "waiting" "[LRingGroup$Message;", Cond.instanceMethod yX4_init, Cond.code yX4_init cX4_init 1 none, Cond.methodLink RX4 3 objectInit, Cond.arrayClass .long, Cond.fieldLink RX4 9 "RingGroup$Replica" "values" "[J", Cond.classLink RX4 15 RX1, Cond.fieldLink RX4 17 "RingGroup$Replica" "kept" "[LRingGroup$Message;", Cond.instanceMethod yX0_init, Cond.code yX0_init cX0_init 1 none, Cond.methodLink RX0 3 objectInit, Cond.fieldLink RX0 9 "RingGroup$Log" "cells" "[J"]
def wsX6_init : List Cond := .code yX6_init cX6_init 5 none :: ((wsX6_init_r1 ++ (wsX6_init_r2 ++ wsX6_init_r3)) ++ wsX60 ++ wsX50 ++ wsX20 ++ wsX30 ++ wsX40 ++ wsX00)
def wsX6_nodeAt : List Cond := .code yX6_nodeAt cX6_nodeAt 2 (some (.object "RingGroup$Node")) :: ([.classLink RX6 219 "java/lang/IndexOutOfBoundsException", .initialized "java/lang/IndexOutOfBoundsException", .fieldLink RX6 31 "RingGroup" "nodes" "[LRingGroup$Node;"] ++ wsX60 ++ (vx_atS RX6 223 "java/lang/IndexOutOfBoundsException" ["java/lang/RuntimeException", "java/lang/Exception"]).filter goodWord)
def wsX6_checkKey : List Cond := .code yX6_checkKey cX6_checkKey 1 none :: ([.classLink RX6 219 "java/lang/IndexOutOfBoundsException", .initialized "java/lang/IndexOutOfBoundsException"] ++ (vx_atS RX6 223 "java/lang/IndexOutOfBoundsException" ["java/lang/RuntimeException", "java/lang/Exception"]).filter goodWord)
def wsX6_send_r1 : List Cond := [Cond.classLink RX6 64 "java/lang/IllegalStateException", Cond.initialized "java/lang/IllegalStateException", Cond.fieldLink RX6 50 "RingGroup$Node" "up" "Z", Cond.fieldLink RX6 54 "RingGroup$Node" "pending" "LRingGroup$Pending;", Cond.classLink RX6 71 RX1, Cond.instantiable RX1 4, Cond.initialized RX1, Cond.methodLink RX6 42 yX6_nodeAt, Cond.instanceMethod yX6_nodeAt, Cond.selects RX6 yX6_nodeAt yX6_nodeAt, Cond.initialized RX6, Cond.code yX6_nodeAt cX6_nodeAt 2 (some (.object "RingGroup$Node")), Cond.classLink RX6 219 "java/lang/IndexOutOfBoundsException", Cond.initialized "java/lang/IndexOutOfBoundsException", Cond.fieldLink RX6 31 "RingGroup" "nodes" "[LRingGroup$Node;", Cond.methodLink RX6 46 yX6_checkKey, Cond.static yX6_checkKey, Cond.code yX6_checkKey cX6_checkKey 1 none, Cond.methodLink RX6 58 yX3_isFull, Cond.instanceMethod yX3_isFull, Cond.selects RX3 yX3_isFull yX3_isFull, Cond.initialized RX3, Cond.code yX3_isFull cX3_isFull 1 (some .boolean), Cond.fieldLink RX3 17 "RingGroup$Pending" "count" "I"]
def wsX6_send_r2 : List Cond := [Cond.methodLink RX6 73 yX1_init, Cond.instanceMethod yX1_init, Cond.code yX1_init cX1_init 6 none, Cond.methodLink RX1 1 objectInit, Cond.instanceMethod objectInit, Cond.code objectInit ⟨#[0xb1]⟩ 1 none, Cond.fieldLink RX1 7 "RingGroup$Message" "sender" "I", Cond.fieldLink RX1 13 "RingGroup$Message" "key" "I", Cond.fieldLink RX1 16 "RingGroup$Message" "value" "J", Cond.fieldLink RX1 20 "RingGroup$Message" "safe" "Z", Cond.methodLink RX6 76 yX3_put, Cond.instanceMethod yX3_put, Cond.selects RX3 yX3_put yX3_put, Cond.code yX3_put cX3_put 2 (some .int), Cond.fieldLink RX3 11 "RingGroup$Pending" "waiting" "[LRingGroup$Message;"]
def wsX6_send : List Cond := .code yX6_send cX6_send 7 (some .int) :: ((wsX6_send_r1 ++ wsX6_send_r2) ++ wsX20 ++ wsX10 ++ wsX60 ++ wsX30 ++ (vx_atS RX6 68 "java/lang/IllegalStateException" ["java/lang/RuntimeException", "java/lang/Exception"]).filter goodWord ++ (vx_atS RX6 223 "java/lang/IndexOutOfBoundsException" ["java/lang/RuntimeException", "java/lang/Exception"]).filter goodWord)
def wsX6_reaches : List Cond := .code yX6_reaches cX6_reaches 2 (some .boolean) :: ([.fieldLink RX6 50 "RingGroup$Node" "up" "Z", .fieldLink RX6 124 "RingGroup$Node" "group" "I", .fieldLink RX6 80 "RingGroup$Node" "ring" "LRingGroup$Ring;"] ++ wsX20)
def wsX6_receiversOf : List Cond := .code yX6_receiversOf cX6_receiversOf 7 (some .int) :: ([.fieldLink RX6 31 "RingGroup" "nodes" "[LRingGroup$Node;", .fieldLink RX6 244 "RingGroup$Node" "number" "I", .methodLink RX6 240 yX6_reaches, .static yX6_reaches, .initialized RX6, .code yX6_reaches cX6_reaches 2 (some .boolean), .fieldLink RX6 50 "RingGroup$Node" "up" "Z", .fieldLink RX6 124 "RingGroup$Node" "group" "I", .fieldLink RX6 80 "RingGroup$Node" "ring" "LRingGroup$Ring;"] ++ wsX60 ++ wsX20)
def wsX6_giveTo : List Cond := .code yX6_giveTo cX6_giveTo 8 none :: ([.fieldLink RX6 31 "RingGroup" "nodes" "[LRingGroup$Node;", .fieldLink RX6 244 "RingGroup$Node" "number" "I", .methodLink RX6 237 yX6_isIn, .static yX6_isIn, .initialized RX6, .code yX6_isIn cX6_isIn 2 (some .boolean), .methodLink RX6 264 yX2_receive, .instanceMethod yX2_receive, .selects RX2 yX2_receive yX2_receive, .initialized RX2, .code yX2_receive cX2_receive 3 none, .fieldLink RX2 34 "RingGroup$Node" "has" "[LRingGroup$Message;", .fieldLink RX2 62 "RingGroup$Message" "safe" "Z", .fieldLink RX2 21 "RingGroup$Node" "replica" "LRingGroup$Replica;", .fieldLink RX2 69 "RingGroup$Replica" "kept" "[LRingGroup$Message;", .methodLink RX2 65 yX2_isOfPrimary, .instanceMethod yX2_isOfPrimary, .selects RX2 yX2_isOfPrimary yX2_isOfPrimary, .code yX2_isOfPrimary cX2_isOfPrimary 1 (some .boolean), .fieldLink RX2 49 "RingGroup$Node" "ring" "LRingGroup$Ring;", .fieldLink RX2 53 "RingGroup$Ring" "number" "I", .fieldLink RX2 56 "RingGroup$Node" "voteNumber" "I"] ++ wsX60 ++ wsX20 ++ wsX10 ++ wsX40 ++ wsX50)
def wsX6_sendRequested_r1 : List Cond := [Cond.fieldLink RX6 80 "RingGroup$Node" "ring" "LRingGroup$Ring;", Cond.fieldLink RX6 245 "RingGroup$Ring" "lastPlace" "I", Cond.fieldLink RX6 248 "RingGroup$Ring" "requested" "[Z", Cond.fieldLink RX6 252 "RingGroup$Node" "has" "[LRingGroup$Message;", Cond.methodLink RX6 256 yX6_giveTo, Cond.instanceMethod yX6_giveTo, Cond.selects RX6 yX6_giveTo yX6_giveTo, Cond.initialized RX6, Cond.code yX6_giveTo cX6_giveTo 8 none, Cond.fieldLink RX6 31 "RingGroup" "nodes" "[LRingGroup$Node;", Cond.fieldLink RX6 244 "RingGroup$Node" "number" "I", Cond.methodLink RX6 237 yX6_isIn, Cond.static yX6_isIn, Cond.code yX6_isIn cX6_isIn 2 (some .boolean), Cond.methodLink RX6 264 yX2_receive, Cond.instanceMethod yX2_receive, Cond.selects RX2 yX2_receive yX2_receive, Cond.initialized RX2, Cond.code yX2_receive cX2_receive 3 none, Cond.fieldLink RX2 34 "RingGroup$Node" "has" "[LRingGroup$Message;", Cond.fieldLink RX2 62 "RingGroup$Message" "safe" "Z", Cond.fieldLink RX2 21 "RingGroup$Node" "replica" "LRingGroup$Replica;", Cond.fieldLink RX2 69 "RingGroup$Replica" "kept" "[LRingGroup$Message;", Cond.methodLink RX2 65 yX2_isOfPrimary]
def wsX6_sendRequested_r2 : List Cond := [Cond.instanceMethod yX2_isOfPrimary, Cond.selects RX2 yX2_isOfPrimary yX2_isOfPrimary, Cond.code yX2_isOfPrimary cX2_isOfPrimary 1 (some .boolean), Cond.fieldLink RX2 49 "RingGroup$Node" "ring" "LRingGroup$Ring;", Cond.fieldLink RX2 53 "RingGroup$Ring" "number" "I", Cond.fieldLink RX2 56 "RingGroup$Node" "voteNumber" "I"]
def wsX6_sendRequested : List Cond := .code yX6_sendRequested cX6_sendRequested 5 none :: ((wsX6_sendRequested_r1 ++ wsX6_sendRequested_r2) ++ wsX20 ++ wsX50 ++ wsX60 ++ wsX10 ++ wsX40)
def wsX6_sendPending_r1 : List Cond := [Cond.fieldLink RX6 80 "RingGroup$Node" "ring" "LRingGroup$Ring;", Cond.fieldLink RX6 18 "RingGroup" "window" "I", Cond.fieldLink RX6 245 "RingGroup$Ring" "lastPlace" "I", Cond.fieldLink RX6 54 "RingGroup$Node" "pending" "LRingGroup$Pending;", Cond.fieldLink RX6 244 "RingGroup$Node" "number" "I", Cond.methodLink RX6 260 yX3_takeFirst, Cond.instanceMethod yX3_takeFirst, Cond.selects RX3 yX3_takeFirst yX3_takeFirst, Cond.initialized RX3, Cond.code yX3_takeFirst cX3_takeFirst 3 (some (.object "RingGroup$Message")), Cond.fieldLink RX3 17 "RingGroup$Pending" "count" "I", Cond.fieldLink RX3 11 "RingGroup$Pending" "waiting" "[LRingGroup$Message;", Cond.methodLink RX6 256 yX6_giveTo, Cond.instanceMethod yX6_giveTo, Cond.selects RX6 yX6_giveTo yX6_giveTo, Cond.initialized RX6, Cond.code yX6_giveTo cX6_giveTo 8 none, Cond.fieldLink RX6 31 "RingGroup" "nodes" "[LRingGroup$Node;", Cond.methodLink RX6 237 yX6_isIn, Cond.static yX6_isIn, Cond.code yX6_isIn cX6_isIn 2 (some .boolean), Cond.methodLink RX6 264 yX2_receive, Cond.instanceMethod yX2_receive, Cond.selects RX2 yX2_receive yX2_receive]
def wsX6_sendPending_r2 : List Cond := [Cond.initialized RX2, Cond.code yX2_receive cX2_receive 3 none, Cond.fieldLink RX2 34 "RingGroup$Node" "has" "[LRingGroup$Message;", Cond.fieldLink RX2 62 "RingGroup$Message" "safe" "Z", Cond.fieldLink RX2 21 "RingGroup$Node" "replica" "LRingGroup$Replica;", Cond.fieldLink RX2 69 "RingGroup$Replica" "kept" "[LRingGroup$Message;", Cond.methodLink RX2 65 yX2_isOfPrimary, Cond.instanceMethod yX2_isOfPrimary, Cond.selects RX2 yX2_isOfPrimary yX2_isOfPrimary, Cond.code yX2_isOfPrimary cX2_isOfPrimary 1 (some .boolean), Cond.fieldLink RX2 49 "RingGroup$Node" "ring" "LRingGroup$Ring;", Cond.fieldLink RX2 53 "RingGroup$Ring" "number" "I", Cond.fieldLink RX2 56 "RingGroup$Node" "voteNumber" "I"]
def wsX6_sendPending : List Cond := .code yX6_sendPending cX6_sendPending 6 none :: ((wsX6_sendPending_r1 ++ wsX6_sendPending_r2) ++ wsX20 ++ wsX60 ++ wsX50 ++ wsX30 ++ wsX10 ++ wsX40)
def wsX6_requestMissing : List Cond := .code yX6_requestMissing cX6_requestMissing 3 none :: ([.fieldLink RX6 80 "RingGroup$Node" "ring" "LRingGroup$Ring;", .fieldLink RX6 245 "RingGroup$Ring" "lastPlace" "I", .fieldLink RX6 252 "RingGroup$Node" "has" "[LRingGroup$Message;", .fieldLink RX6 248 "RingGroup$Ring" "requested" "[Z"] ++ wsX20 ++ wsX50)
def wsX6_handOn : List Cond := .code yX6_handOn cX6_handOn 4 none :: ([.fieldLink RX6 80 "RingGroup$Node" "ring" "LRingGroup$Ring;", .fieldLink RX6 31 "RingGroup" "nodes" "[LRingGroup$Node;", .fieldLink RX6 244 "RingGroup$Node" "number" "I", .fieldLink RX6 83 "RingGroup$Ring" "holder" "I", .methodLink RX6 268 yX5_memberBehind, .instanceMethod yX5_memberBehind, .selects RX5 yX5_memberBehind yX5_memberBehind, .initialized RX5, .code yX5_memberBehind cX5_memberBehind 4 (some .int), .fieldLink RX5 26 "RingGroup$Ring" "members" "I", .static yX6_isIn, .initialized RX6, .code yX6_isIn cX6_isIn 2 (some .boolean), .methodLink RX6 240 yX6_reaches, .static yX6_reaches, .code yX6_reaches cX6_reaches 2 (some .boolean), .fieldLink RX6 50 "RingGroup$Node" "up" "Z", .fieldLink RX6 124 "RingGroup$Node" "group" "I"] ++ wsX20 ++ wsX60 ++ wsX50)
def wsX6_pass_r1 : List Cond := [Cond.classLink RX6 64 "java/lang/IllegalStateException", Cond.initialized "java/lang/IllegalStateException", Cond.fieldLink RX6 80 "RingGroup$Node" "ring" "LRingGroup$Ring;", Cond.fieldLink RX6 83 "RingGroup$Ring" "holder" "I", Cond.fieldLink RX6 99 "RingGroup$Ring" "full" "[I", Cond.fieldLink RX6 106 "RingGroup$Node" "safeTo" "I", Cond.methodLink RX6 15 Lib.Math.max.name, Cond.static Lib.Math.max.name, Cond.initialized "java/lang/Math", Cond.code Lib.Math.max.name Lib.Math.max.code 2 (some .int), Cond.methodLink RX6 42 yX6_nodeAt, Cond.instanceMethod yX6_nodeAt, Cond.selects RX6 yX6_nodeAt yX6_nodeAt, Cond.initialized RX6, Cond.code yX6_nodeAt cX6_nodeAt 2 (some (.object "RingGroup$Node")), Cond.classLink RX6 219 "java/lang/IndexOutOfBoundsException", Cond.initialized "java/lang/IndexOutOfBoundsException", Cond.fieldLink RX6 31 "RingGroup" "nodes" "[LRingGroup$Node;", Cond.methodLink RX6 88 yX6_receiversOf, Cond.instanceMethod yX6_receiversOf, Cond.selects RX6 yX6_receiversOf yX6_receiversOf, Cond.code yX6_receiversOf cX6_receiversOf 7 (some .int), Cond.fieldLink RX6 244 "RingGroup$Node" "number" "I", Cond.methodLink RX6 240 yX6_reaches]
def wsX6_pass_r2 : List Cond := [Cond.static yX6_reaches, Cond.code yX6_reaches cX6_reaches 2 (some .boolean), Cond.fieldLink RX6 50 "RingGroup$Node" "up" "Z", Cond.fieldLink RX6 124 "RingGroup$Node" "group" "I", Cond.methodLink RX6 92 yX6_sendRequested, Cond.instanceMethod yX6_sendRequested, Cond.selects RX6 yX6_sendRequested yX6_sendRequested, Cond.code yX6_sendRequested cX6_sendRequested 5 none, Cond.fieldLink RX6 245 "RingGroup$Ring" "lastPlace" "I", Cond.fieldLink RX6 248 "RingGroup$Ring" "requested" "[Z", Cond.fieldLink RX6 252 "RingGroup$Node" "has" "[LRingGroup$Message;", Cond.methodLink RX6 256 yX6_giveTo, Cond.instanceMethod yX6_giveTo, Cond.selects RX6 yX6_giveTo yX6_giveTo, Cond.code yX6_giveTo cX6_giveTo 8 none, Cond.methodLink RX6 237 yX6_isIn, Cond.static yX6_isIn, Cond.code yX6_isIn cX6_isIn 2 (some .boolean), Cond.methodLink RX6 264 yX2_receive, Cond.instanceMethod yX2_receive, Cond.selects RX2 yX2_receive yX2_receive, Cond.initialized RX2, Cond.code yX2_receive cX2_receive 3 none, Cond.fieldLink RX2 34 "RingGroup$Node" "has" "[LRingGroup$Message;"]
def wsX6_pass_r3 : List Cond := [Cond.fieldLink RX2 62 "RingGroup$Message" "safe" "Z", Cond.fieldLink RX2 21 "RingGroup$Node" "replica" "LRingGroup$Replica;", Cond.fieldLink RX2 69 "RingGroup$Replica" "kept" "[LRingGroup$Message;", Cond.methodLink RX2 65 yX2_isOfPrimary, Cond.instanceMethod yX2_isOfPrimary, Cond.selects RX2 yX2_isOfPrimary yX2_isOfPrimary, Cond.code yX2_isOfPrimary cX2_isOfPrimary 1 (some .boolean), Cond.fieldLink RX2 49 "RingGroup$Node" "ring" "LRingGroup$Ring;", Cond.fieldLink RX2 53 "RingGroup$Ring" "number" "I", Cond.fieldLink RX2 56 "RingGroup$Node" "voteNumber" "I", Cond.methodLink RX6 96 yX6_sendPending, Cond.instanceMethod yX6_sendPending, Cond.selects RX6 yX6_sendPending yX6_sendPending, Cond.code yX6_sendPending cX6_sendPending 6 none, Cond.fieldLink RX6 18 "RingGroup" "window" "I", Cond.fieldLink RX6 54 "RingGroup$Node" "pending" "LRingGroup$Pending;", Cond.methodLink RX6 260 yX3_takeFirst, Cond.instanceMethod yX3_takeFirst, Cond.selects RX3 yX3_takeFirst yX3_takeFirst, Cond.initialized RX3, Cond.code yX3_takeFirst cX3_takeFirst 3 (some (.object "RingGroup$Message")), Cond.fieldLink RX3 17 "RingGroup$Pending" "count" "I", Cond.fieldLink RX3 11 "RingGroup$Pending" "waiting" "[LRingGroup$Message;", Cond.methodLink RX6 103 yX2_full]
def wsX6_pass_r4 : List Cond := [Cond.instanceMethod yX2_full, Cond.selects RX2 yX2_full yX2_full, Cond.code yX2_full cX2_full 2 (some .int), Cond.methodLink RX6 109 yX5_leastFull, Cond.instanceMethod yX5_leastFull, Cond.selects RX5 yX5_leastFull yX5_leastFull, Cond.initialized RX5, Cond.code yX5_leastFull cX5_leastFull 3 (some .int), Cond.fieldLink RX5 26 "RingGroup$Ring" "members" "I", Cond.fieldLink RX5 15 "RingGroup$Ring" "full" "[I", Cond.methodLink RX5 40 Lib.Math.min.name, Cond.static Lib.Math.min.name, Cond.code Lib.Math.min.name Lib.Math.min.code 2 (some .int), Cond.methodLink RX6 112 yX6_requestMissing, Cond.static yX6_requestMissing, Cond.code yX6_requestMissing cX6_requestMissing 3 none, Cond.methodLink RX6 116 yX2_deliverInTurn, Cond.instanceMethod yX2_deliverInTurn, Cond.selects RX2 yX2_deliverInTurn yX2_deliverInTurn, Cond.code yX2_deliverInTurn cX2_deliverInTurn 4 (some .int), Cond.fieldLink RX2 72 "RingGroup$Node" "delivered" "I", Cond.fieldLink RX2 75 "RingGroup$Node" "safeTo" "I", Cond.methodLink RX2 78 yX2_tell, Cond.instanceMethod yX2_tell]
def wsX6_pass_r5 : List Cond := [Cond.selects RX2 yX2_tell yX2_tell, Cond.code yX2_tell cX2_tell 3 none, Cond.fieldLink RX2 28 "RingGroup$Node" "log" "LRingGroup$Log;", Cond.fieldLink RX2 85 "RingGroup$Message" "sender" "I", Cond.fieldLink RX2 92 "RingGroup$Message" "key" "I", Cond.fieldLink RX2 95 "RingGroup$Message" "value" "J", Cond.methodLink RX2 99 yX0_add, Cond.instanceMethod yX0_add, Cond.selects RX0 yX0_add yX0_add, Cond.initialized RX0, Cond.code yX0_add cX0_add 9 none, Cond.fieldLink RX0 15 "RingGroup$Log" "ever" "I", Cond.fieldLink RX0 9 "RingGroup$Log" "cells" "[J", Cond.methodLink RX0 19 yJ9_floorMod_7cf53, Cond.static yJ9_floorMod_7cf53, Cond.initialized RJ9, Cond.code yJ9_floorMod_7cf53 cJ9_floorMod_7cf53 3 (some .int), Cond.methodLink RX2 82 yX4_apply, Cond.instanceMethod yX4_apply, Cond.selects RX4 yX4_apply yX4_apply, Cond.initialized RX4, Cond.code yX4_apply cX4_apply 3 none, Cond.fieldLink RX4 9 "RingGroup$Replica" "values" "[J", Cond.fieldLink RX4 21 "RingGroup$Message" "key" "I"]
def wsX6_pass_r6 : List Cond := [Cond.fieldLink RX4 25 "RingGroup$Message" "value" "J", Cond.fieldLink RX4 29 "RingGroup$Replica" "applied" "I", Cond.fieldLink RX4 32 "RingGroup$Replica" "mark" "J", Cond.constantLong RX4 35 (31), Cond.fieldLink RX4 37 "RingGroup$Replica" "done" "I", Cond.methodLink RX6 119 yX6_handOn, Cond.instanceMethod yX6_handOn, Cond.selects RX6 yX6_handOn yX6_handOn, Cond.code yX6_handOn cX6_handOn 4 none, Cond.methodLink RX6 268 yX5_memberBehind, Cond.instanceMethod yX5_memberBehind, Cond.selects RX5 yX5_memberBehind yX5_memberBehind, Cond.code yX5_memberBehind cX5_memberBehind 4 (some .int)]
def wsX6_pass : List Cond := .code yX6_pass cX6_pass 7 (some .int) :: ((wsX6_pass_r1 ++ (wsX6_pass_r2 ++ (wsX6_pass_r3 ++ (wsX6_pass_r4 ++ (wsX6_pass_r5 ++ wsX6_pass_r6))))) ++ wsX20 ++ wsX50 ++ wsX60 ++ wsX10 ++ wsX40 ++ wsX30 ++ wsX00 ++ (vx_atS RX6 68 "java/lang/IllegalStateException" ["java/lang/RuntimeException", "java/lang/Exception"]).filter goodWord ++ (vx_atS RX6 223 "java/lang/IndexOutOfBoundsException" ["java/lang/RuntimeException", "java/lang/Exception"]).filter goodWord)
def wsX6_upInGroup : List Cond := .code yX6_upInGroup cX6_upInGroup 7 (some .int) :: ([.fieldLink RX6 31 "RingGroup" "nodes" "[LRingGroup$Node;", .fieldLink RX6 50 "RingGroup$Node" "up" "Z", .fieldLink RX6 124 "RingGroup$Node" "group" "I", .fieldLink RX6 244 "RingGroup$Node" "number" "I"] ++ wsX60 ++ wsX20)
def wsX6_ofRing : List Cond := .code yX6_ofRing cX6_ofRing 8 (some .int) :: ([.fieldLink RX6 31 "RingGroup" "nodes" "[LRingGroup$Node;", .fieldLink RX6 80 "RingGroup$Node" "ring" "LRingGroup$Ring;", .fieldLink RX6 244 "RingGroup$Node" "number" "I", .methodLink RX6 237 yX6_isIn, .static yX6_isIn, .initialized RX6, .code yX6_isIn cX6_isIn 2 (some .boolean)] ++ wsX60 ++ wsX20)
def wsX6_isWhole : List Cond := .code yX6_isWhole cX6_isWhole 3 (some .boolean) :: ([.fieldLink RX6 173 "RingGroup$Ring" "members" "I", .fieldLink RX6 83 "RingGroup$Ring" "holder" "I", .methodLink RX6 271 yX6_ofRing, .instanceMethod yX6_ofRing, .selects RX6 yX6_ofRing yX6_ofRing, .initialized RX6, .code yX6_ofRing cX6_ofRing 8 (some .int), .fieldLink RX6 31 "RingGroup" "nodes" "[LRingGroup$Node;", .fieldLink RX6 80 "RingGroup$Node" "ring" "LRingGroup$Ring;", .fieldLink RX6 244 "RingGroup$Node" "number" "I", .methodLink RX6 237 yX6_isIn, .static yX6_isIn, .code yX6_isIn cX6_isIn 2 (some .boolean)] ++ wsX50 ++ wsX60 ++ wsX20)
def wsX6_foremost : List Cond := .code yX6_foremost cX6_foremost 8 (some (.object "RingGroup$Node")) :: ([.fieldLink RX6 31 "RingGroup" "nodes" "[LRingGroup$Node;", .fieldLink RX6 244 "RingGroup$Node" "number" "I", .methodLink RX6 237 yX6_isIn, .static yX6_isIn, .initialized RX6, .code yX6_isIn cX6_isIn 2 (some .boolean), .methodLink RX6 275 yX2_isAheadOf, .instanceMethod yX2_isAheadOf, .selects RX2 yX2_isAheadOf yX2_isAheadOf, .initialized RX2, .code yX2_isAheadOf cX2_isAheadOf 2 (some .boolean), .fieldLink RX2 56 "RingGroup$Node" "voteNumber" "I", .fieldLink RX2 21 "RingGroup$Node" "replica" "LRingGroup$Replica;", .fieldLink RX2 59 "RingGroup$Replica" "applied" "I", .fieldLink RX2 42 "RingGroup$Node" "number" "I"] ++ wsX60 ++ wsX20 ++ wsX40)
def wsJ6_bitCount_0f7a4 : List Cond := .code yJ6_bitCount_0f7a4 cJ6_bitCount_0f7a4 1 (some .int) :: ([.constant RJ6 265 (1431655765), .constant RJ6 266 (858993459), .constant RJ6 267 (252645135)])
def wsX6_isQuorum : List Cond := .code yX6_isQuorum cX6_isQuorum 4 (some .boolean) :: ([.methodLink RX6 279 yJ6_bitCount_0f7a4, .static yJ6_bitCount_0f7a4, .initialized RJ6, .code yJ6_bitCount_0f7a4 cJ6_bitCount_0f7a4 1 (some .int), .constant RJ6 265 (1431655765), .constant RJ6 266 (858993459), .constant RJ6 267 (252645135), .methodLink RX6 284 yX6_leastOf, .static yX6_leastOf, .initialized RX6, .code yX6_leastOf cX6_leastOf 2 (some .int), .methodLink RX6 237 yX6_isIn, .static yX6_isIn, .code yX6_isIn cX6_isIn 2 (some .boolean)])
def wsX6_shareAll_r1 : List Cond := [Cond.fieldLink RX6 31 "RingGroup" "nodes" "[LRingGroup$Node;", Cond.fieldLink RX6 244 "RingGroup$Node" "number" "I", Cond.fieldLink RX6 106 "RingGroup$Node" "safeTo" "I", Cond.methodLink RX6 15 Lib.Math.max.name, Cond.static Lib.Math.max.name, Cond.initialized "java/lang/Math", Cond.code Lib.Math.max.name Lib.Math.max.code 2 (some .int), Cond.fieldLink RX6 252 "RingGroup$Node" "has" "[LRingGroup$Message;", Cond.methodLink RX6 237 yX6_isIn, Cond.static yX6_isIn, Cond.initialized RX6, Cond.code yX6_isIn cX6_isIn 2 (some .boolean), Cond.methodLink RX6 256 yX6_giveTo, Cond.instanceMethod yX6_giveTo, Cond.selects RX6 yX6_giveTo yX6_giveTo, Cond.code yX6_giveTo cX6_giveTo 8 none, Cond.methodLink RX6 264 yX2_receive, Cond.instanceMethod yX2_receive, Cond.selects RX2 yX2_receive yX2_receive, Cond.initialized RX2, Cond.code yX2_receive cX2_receive 3 none, Cond.fieldLink RX2 34 "RingGroup$Node" "has" "[LRingGroup$Message;", Cond.fieldLink RX2 62 "RingGroup$Message" "safe" "Z", Cond.fieldLink RX2 21 "RingGroup$Node" "replica" "LRingGroup$Replica;"]
def wsX6_shareAll_r2 : List Cond := [Cond.fieldLink RX2 69 "RingGroup$Replica" "kept" "[LRingGroup$Message;", Cond.methodLink RX2 65 yX2_isOfPrimary, Cond.instanceMethod yX2_isOfPrimary, Cond.selects RX2 yX2_isOfPrimary yX2_isOfPrimary, Cond.code yX2_isOfPrimary cX2_isOfPrimary 1 (some .boolean), Cond.fieldLink RX2 49 "RingGroup$Node" "ring" "LRingGroup$Ring;", Cond.fieldLink RX2 53 "RingGroup$Ring" "number" "I", Cond.fieldLink RX2 56 "RingGroup$Node" "voteNumber" "I"]
def wsX6_shareAll : List Cond := .code yX6_shareAll cX6_shareAll 8 none :: ((wsX6_shareAll_r1 ++ wsX6_shareAll_r2) ++ wsX60 ++ wsX20 ++ wsX10 ++ wsX40 ++ wsX50)
def wsX6_endRing_r1 : List Cond := [Cond.fieldLink RX6 31 "RingGroup" "nodes" "[LRingGroup$Node;", Cond.fieldLink RX6 244 "RingGroup$Node" "number" "I", Cond.fieldLink RX6 197 "RingGroup$Node" "log" "LRingGroup$Log;", Cond.fieldLink RX6 80 "RingGroup$Node" "ring" "LRingGroup$Ring;", Cond.fieldLink RX6 170 "RingGroup$Ring" "number" "I", Cond.methodLink RX6 290 yX6_shareAll, Cond.instanceMethod yX6_shareAll, Cond.selects RX6 yX6_shareAll yX6_shareAll, Cond.initialized RX6, Cond.code yX6_shareAll cX6_shareAll 8 none, Cond.fieldLink RX6 106 "RingGroup$Node" "safeTo" "I", Cond.methodLink RX6 15 Lib.Math.max.name, Cond.static Lib.Math.max.name, Cond.initialized "java/lang/Math", Cond.code Lib.Math.max.name Lib.Math.max.code 2 (some .int), Cond.fieldLink RX6 252 "RingGroup$Node" "has" "[LRingGroup$Message;", Cond.methodLink RX6 237 yX6_isIn, Cond.static yX6_isIn, Cond.code yX6_isIn cX6_isIn 2 (some .boolean), Cond.methodLink RX6 256 yX6_giveTo, Cond.instanceMethod yX6_giveTo, Cond.selects RX6 yX6_giveTo yX6_giveTo, Cond.code yX6_giveTo cX6_giveTo 8 none, Cond.methodLink RX6 264 yX2_receive]
def wsX6_endRing_r2 : List Cond := [Cond.instanceMethod yX2_receive, Cond.selects RX2 yX2_receive yX2_receive, Cond.initialized RX2, Cond.code yX2_receive cX2_receive 3 none, Cond.fieldLink RX2 34 "RingGroup$Node" "has" "[LRingGroup$Message;", Cond.fieldLink RX2 62 "RingGroup$Message" "safe" "Z", Cond.fieldLink RX2 21 "RingGroup$Node" "replica" "LRingGroup$Replica;", Cond.fieldLink RX2 69 "RingGroup$Replica" "kept" "[LRingGroup$Message;", Cond.methodLink RX2 65 yX2_isOfPrimary, Cond.instanceMethod yX2_isOfPrimary, Cond.selects RX2 yX2_isOfPrimary yX2_isOfPrimary, Cond.code yX2_isOfPrimary cX2_isOfPrimary 1 (some .boolean), Cond.fieldLink RX2 49 "RingGroup$Node" "ring" "LRingGroup$Ring;", Cond.fieldLink RX2 53 "RingGroup$Ring" "number" "I", Cond.fieldLink RX2 56 "RingGroup$Node" "voteNumber" "I", Cond.methodLink RX6 116 yX2_deliverInTurn, Cond.instanceMethod yX2_deliverInTurn, Cond.selects RX2 yX2_deliverInTurn yX2_deliverInTurn, Cond.code yX2_deliverInTurn cX2_deliverInTurn 4 (some .int), Cond.fieldLink RX2 72 "RingGroup$Node" "delivered" "I", Cond.fieldLink RX2 75 "RingGroup$Node" "safeTo" "I", Cond.methodLink RX2 78 yX2_tell, Cond.instanceMethod yX2_tell, Cond.selects RX2 yX2_tell yX2_tell]
def wsX6_endRing_r3 : List Cond := [Cond.code yX2_tell cX2_tell 3 none, Cond.fieldLink RX2 28 "RingGroup$Node" "log" "LRingGroup$Log;", Cond.fieldLink RX2 85 "RingGroup$Message" "sender" "I", Cond.fieldLink RX2 92 "RingGroup$Message" "key" "I", Cond.fieldLink RX2 95 "RingGroup$Message" "value" "J", Cond.methodLink RX2 99 yX0_add, Cond.instanceMethod yX0_add, Cond.selects RX0 yX0_add yX0_add, Cond.initialized RX0, Cond.code yX0_add cX0_add 9 none, Cond.fieldLink RX0 15 "RingGroup$Log" "ever" "I", Cond.fieldLink RX0 9 "RingGroup$Log" "cells" "[J", Cond.methodLink RX0 19 yJ9_floorMod_7cf53, Cond.static yJ9_floorMod_7cf53, Cond.initialized RJ9, Cond.code yJ9_floorMod_7cf53 cJ9_floorMod_7cf53 3 (some .int), Cond.methodLink RX2 82 yX4_apply, Cond.instanceMethod yX4_apply, Cond.selects RX4 yX4_apply yX4_apply, Cond.initialized RX4, Cond.code yX4_apply cX4_apply 3 none, Cond.fieldLink RX4 9 "RingGroup$Replica" "values" "[J", Cond.fieldLink RX4 21 "RingGroup$Message" "key" "I", Cond.fieldLink RX4 25 "RingGroup$Message" "value" "J"]
def wsX6_endRing_r4 : List Cond := [Cond.fieldLink RX4 29 "RingGroup$Replica" "applied" "I", Cond.fieldLink RX4 32 "RingGroup$Replica" "mark" "J", Cond.constantLong RX4 35 (31), Cond.fieldLink RX4 37 "RingGroup$Replica" "done" "I", Cond.methodLink RX6 293 yX0_add, Cond.methodLink RX6 297 yX2_deliverLeft, Cond.instanceMethod yX2_deliverLeft, Cond.selects RX2 yX2_deliverLeft yX2_deliverLeft, Cond.code yX2_deliverLeft cX2_deliverLeft 5 none]
def wsX6_endRing : List Cond := .code yX6_endRing cX6_endRing 6 none :: ((wsX6_endRing_r1 ++ (wsX6_endRing_r2 ++ (wsX6_endRing_r3 ++ wsX6_endRing_r4))) ++ wsX60 ++ wsX20 ++ wsX50 ++ wsX10 ++ wsX40 ++ wsX00)
def wsX6_endOldRings_r1 : List Cond := [Cond.fieldLink RX6 31 "RingGroup" "nodes" "[LRingGroup$Node;", Cond.fieldLink RX6 80 "RingGroup$Node" "ring" "LRingGroup$Ring;", Cond.fieldLink RX6 25 "RingGroup" "noRing" "LRingGroup$Ring;", Cond.fieldLink RX6 244 "RingGroup$Node" "number" "I", Cond.methodLink RX6 237 yX6_isIn, Cond.static yX6_isIn, Cond.initialized RX6, Cond.code yX6_isIn cX6_isIn 2 (some .boolean), Cond.methodLink RX6 271 yX6_ofRing, Cond.instanceMethod yX6_ofRing, Cond.selects RX6 yX6_ofRing yX6_ofRing, Cond.code yX6_ofRing cX6_ofRing 8 (some .int), Cond.methodLink RX6 284 yX6_leastOf, Cond.static yX6_leastOf, Cond.code yX6_leastOf cX6_leastOf 2 (some .int), Cond.methodLink RX6 287 yX6_endRing, Cond.instanceMethod yX6_endRing, Cond.selects RX6 yX6_endRing yX6_endRing, Cond.code yX6_endRing cX6_endRing 6 none, Cond.fieldLink RX6 197 "RingGroup$Node" "log" "LRingGroup$Log;", Cond.fieldLink RX6 170 "RingGroup$Ring" "number" "I", Cond.methodLink RX6 290 yX6_shareAll, Cond.instanceMethod yX6_shareAll, Cond.selects RX6 yX6_shareAll yX6_shareAll]
def wsX6_endOldRings_r2 : List Cond := [Cond.code yX6_shareAll cX6_shareAll 8 none, Cond.fieldLink RX6 106 "RingGroup$Node" "safeTo" "I", Cond.methodLink RX6 15 Lib.Math.max.name, Cond.static Lib.Math.max.name, Cond.initialized "java/lang/Math", Cond.code Lib.Math.max.name Lib.Math.max.code 2 (some .int), Cond.fieldLink RX6 252 "RingGroup$Node" "has" "[LRingGroup$Message;", Cond.methodLink RX6 256 yX6_giveTo, Cond.instanceMethod yX6_giveTo, Cond.selects RX6 yX6_giveTo yX6_giveTo, Cond.code yX6_giveTo cX6_giveTo 8 none, Cond.methodLink RX6 264 yX2_receive, Cond.instanceMethod yX2_receive, Cond.selects RX2 yX2_receive yX2_receive, Cond.initialized RX2, Cond.code yX2_receive cX2_receive 3 none, Cond.fieldLink RX2 34 "RingGroup$Node" "has" "[LRingGroup$Message;", Cond.fieldLink RX2 62 "RingGroup$Message" "safe" "Z", Cond.fieldLink RX2 21 "RingGroup$Node" "replica" "LRingGroup$Replica;", Cond.fieldLink RX2 69 "RingGroup$Replica" "kept" "[LRingGroup$Message;", Cond.methodLink RX2 65 yX2_isOfPrimary, Cond.instanceMethod yX2_isOfPrimary, Cond.selects RX2 yX2_isOfPrimary yX2_isOfPrimary, Cond.code yX2_isOfPrimary cX2_isOfPrimary 1 (some .boolean)]
def wsX6_endOldRings_r3 : List Cond := [Cond.fieldLink RX2 49 "RingGroup$Node" "ring" "LRingGroup$Ring;", Cond.fieldLink RX2 53 "RingGroup$Ring" "number" "I", Cond.fieldLink RX2 56 "RingGroup$Node" "voteNumber" "I", Cond.methodLink RX6 116 yX2_deliverInTurn, Cond.instanceMethod yX2_deliverInTurn, Cond.selects RX2 yX2_deliverInTurn yX2_deliverInTurn, Cond.code yX2_deliverInTurn cX2_deliverInTurn 4 (some .int), Cond.fieldLink RX2 72 "RingGroup$Node" "delivered" "I", Cond.fieldLink RX2 75 "RingGroup$Node" "safeTo" "I", Cond.methodLink RX2 78 yX2_tell, Cond.instanceMethod yX2_tell, Cond.selects RX2 yX2_tell yX2_tell, Cond.code yX2_tell cX2_tell 3 none, Cond.fieldLink RX2 28 "RingGroup$Node" "log" "LRingGroup$Log;", Cond.fieldLink RX2 85 "RingGroup$Message" "sender" "I", Cond.fieldLink RX2 92 "RingGroup$Message" "key" "I", Cond.fieldLink RX2 95 "RingGroup$Message" "value" "J", Cond.methodLink RX2 99 yX0_add, Cond.instanceMethod yX0_add, Cond.selects RX0 yX0_add yX0_add, Cond.initialized RX0, Cond.code yX0_add cX0_add 9 none, Cond.fieldLink RX0 15 "RingGroup$Log" "ever" "I", Cond.fieldLink RX0 9 "RingGroup$Log" "cells" "[J"]
def wsX6_endOldRings_r4 : List Cond := [Cond.methodLink RX0 19 yJ9_floorMod_7cf53, Cond.static yJ9_floorMod_7cf53, Cond.initialized RJ9, Cond.code yJ9_floorMod_7cf53 cJ9_floorMod_7cf53 3 (some .int), Cond.methodLink RX2 82 yX4_apply, Cond.instanceMethod yX4_apply, Cond.selects RX4 yX4_apply yX4_apply, Cond.initialized RX4, Cond.code yX4_apply cX4_apply 3 none, Cond.fieldLink RX4 9 "RingGroup$Replica" "values" "[J", Cond.fieldLink RX4 21 "RingGroup$Message" "key" "I", Cond.fieldLink RX4 25 "RingGroup$Message" "value" "J", Cond.fieldLink RX4 29 "RingGroup$Replica" "applied" "I", Cond.fieldLink RX4 32 "RingGroup$Replica" "mark" "J", Cond.constantLong RX4 35 (31), Cond.fieldLink RX4 37 "RingGroup$Replica" "done" "I", Cond.methodLink RX6 293 yX0_add, Cond.methodLink RX6 297 yX2_deliverLeft, Cond.instanceMethod yX2_deliverLeft, Cond.selects RX2 yX2_deliverLeft yX2_deliverLeft, Cond.code yX2_deliverLeft cX2_deliverLeft 5 none]
def wsX6_endOldRings : List Cond := .code yX6_endOldRings cX6_endOldRings 7 none :: ((wsX6_endOldRings_r1 ++ (wsX6_endOldRings_r2 ++ (wsX6_endOldRings_r3 ++ wsX6_endOldRings_r4))) ++ wsX60 ++ wsX20 ++ wsX50 ++ wsX10 ++ wsX40 ++ wsX00)
def wsX6_keptByOne : List Cond := .code yX6_keptByOne cX6_keptByOne 8 (some (.object "RingGroup$Message")) :: ([.fieldLink RX6 31 "RingGroup" "nodes" "[LRingGroup$Node;", .fieldLink RX6 244 "RingGroup$Node" "number" "I", .fieldLink RX6 191 "RingGroup$Node" "voteNumber" "I", .fieldLink RX6 182 "RingGroup$Node" "replica" "LRingGroup$Replica;", .fieldLink RX6 314 "RingGroup$Replica" "kept" "[LRingGroup$Message;", .methodLink RX6 237 yX6_isIn, .static yX6_isIn, .initialized RX6, .code yX6_isIn cX6_isIn 2 (some .boolean)] ++ wsX60 ++ wsX20 ++ wsX40)
def wsX6_bringTablesUpToDate_r1 : List Cond := [Cond.fieldLink RX6 182 "RingGroup$Node" "replica" "LRingGroup$Replica;", Cond.fieldLink RX6 300 "RingGroup$Replica" "done" "I", Cond.fieldLink RX6 191 "RingGroup$Node" "voteNumber" "I", Cond.fieldLink RX6 31 "RingGroup" "nodes" "[LRingGroup$Node;", Cond.fieldLink RX6 244 "RingGroup$Node" "number" "I", Cond.methodLink RX6 303 yX6_keptByOne, Cond.instanceMethod yX6_keptByOne, Cond.selects RX6 yX6_keptByOne yX6_keptByOne, Cond.initialized RX6, Cond.code yX6_keptByOne cX6_keptByOne 8 (some (.object "RingGroup$Message")), Cond.fieldLink RX6 314 "RingGroup$Replica" "kept" "[LRingGroup$Message;", Cond.methodLink RX6 237 yX6_isIn, Cond.static yX6_isIn, Cond.code yX6_isIn cX6_isIn 2 (some .boolean), Cond.methodLink RX6 307 yX4_apply, Cond.instanceMethod yX4_apply, Cond.selects RX4 yX4_apply yX4_apply, Cond.initialized RX4, Cond.code yX4_apply cX4_apply 3 none, Cond.fieldLink RX4 9 "RingGroup$Replica" "values" "[J", Cond.fieldLink RX4 21 "RingGroup$Message" "key" "I", Cond.fieldLink RX4 25 "RingGroup$Message" "value" "J", Cond.fieldLink RX4 29 "RingGroup$Replica" "applied" "I", Cond.fieldLink RX4 32 "RingGroup$Replica" "mark" "J"]
def wsX6_bringTablesUpToDate_r2 : List Cond := [Cond.constantLong RX4 35 (31), Cond.fieldLink RX4 37 "RingGroup$Replica" "done" "I", Cond.methodLink RX6 310 yX4_copyTable, Cond.instanceMethod yX4_copyTable, Cond.selects RX4 yX4_copyTable yX4_copyTable, Cond.code yX4_copyTable cX4_copyTable 3 none]
def wsX6_bringTablesUpToDate : List Cond := .code yX6_bringTablesUpToDate cX6_bringTablesUpToDate 7 none :: ((wsX6_bringTablesUpToDate_r1 ++ wsX6_bringTablesUpToDate_r2) ++ wsX20 ++ wsX40 ++ wsX60 ++ wsX10)
def wsX6_unusedRing : List Cond := .code yX6_unusedRing cX6_unusedRing 7 (some (.object "RingGroup$Ring")) :: ([.fieldLink RX6 31 "RingGroup" "nodes" "[LRingGroup$Node;", .fieldLink RX6 35 "RingGroup" "rings" "[LRingGroup$Ring;", .methodLink RX6 271 yX6_ofRing, .instanceMethod yX6_ofRing, .selects RX6 yX6_ofRing yX6_ofRing, .initialized RX6, .code yX6_ofRing cX6_ofRing 8 (some .int), .fieldLink RX6 80 "RingGroup$Node" "ring" "LRingGroup$Ring;", .fieldLink RX6 244 "RingGroup$Node" "number" "I", .methodLink RX6 237 yX6_isIn, .static yX6_isIn, .code yX6_isIn cX6_isIn 2 (some .boolean)] ++ wsX60 ++ wsX20)
def wsX6_beginRing_r1 : List Cond := [Cond.fieldLink RX6 31 "RingGroup" "nodes" "[LRingGroup$Node;", Cond.fieldLink RX6 244 "RingGroup$Node" "number" "I", Cond.fieldLink RX6 194 "RingGroup$Node" "highest" "I", Cond.methodLink RX6 15 Lib.Math.max.name, Cond.static Lib.Math.max.name, Cond.initialized "java/lang/Math", Cond.code Lib.Math.max.name Lib.Math.max.code 2 (some .int), Cond.fieldLink RX6 25 "RingGroup" "noRing" "LRingGroup$Ring;", Cond.methodLink RX6 237 yX6_isIn, Cond.static yX6_isIn, Cond.initialized RX6, Cond.code yX6_isIn cX6_isIn 2 (some .boolean), Cond.methodLink RX6 164 yX2_leaveRing, Cond.instanceMethod yX2_leaveRing, Cond.selects RX2 yX2_leaveRing yX2_leaveRing, Cond.initialized RX2, Cond.code yX2_leaveRing cX2_leaveRing 3 none, Cond.fieldLink RX2 49 "RingGroup$Node" "ring" "LRingGroup$Ring;", Cond.fieldLink RX2 103 "RingGroup$Ring" "holder" "I", Cond.fieldLink RX2 42 "RingGroup$Node" "number" "I", Cond.fieldLink RX2 72 "RingGroup$Node" "delivered" "I", Cond.fieldLink RX2 75 "RingGroup$Node" "safeTo" "I", Cond.fieldLink RX2 34 "RingGroup$Node" "has" "[LRingGroup$Message;", Cond.methodLink RX6 317 yX6_unusedRing]
def wsX6_beginRing_r2 : List Cond := [Cond.instanceMethod yX6_unusedRing, Cond.selects RX6 yX6_unusedRing yX6_unusedRing, Cond.code yX6_unusedRing cX6_unusedRing 7 (some (.object "RingGroup$Ring")), Cond.fieldLink RX6 35 "RingGroup" "rings" "[LRingGroup$Ring;", Cond.methodLink RX6 271 yX6_ofRing, Cond.instanceMethod yX6_ofRing, Cond.selects RX6 yX6_ofRing yX6_ofRing, Cond.code yX6_ofRing cX6_ofRing 8 (some .int), Cond.fieldLink RX6 80 "RingGroup$Node" "ring" "LRingGroup$Ring;", Cond.methodLink RX6 321 yX5_begin, Cond.instanceMethod yX5_begin, Cond.selects RX5 yX5_begin yX5_begin, Cond.initialized RX5, Cond.code yX5_begin cX5_begin 4 none, Cond.fieldLink RX5 23 "RingGroup$Ring" "number" "I", Cond.fieldLink RX5 26 "RingGroup$Ring" "members" "I", Cond.fieldLink RX5 19 "RingGroup$Ring" "holder" "I", Cond.fieldLink RX5 33 "RingGroup$Ring" "lastPlace" "I", Cond.fieldLink RX5 9 "RingGroup$Ring" "requested" "[Z", Cond.fieldLink RX5 15 "RingGroup$Ring" "full" "[I", Cond.static yX6_leastOf, Cond.code yX6_leastOf cX6_leastOf 2 (some .int), Cond.methodLink RX6 325 yX2_joinRing, Cond.instanceMethod yX2_joinRing]
def wsX6_beginRing_r3 : List Cond := [Cond.selects RX2 yX2_joinRing yX2_joinRing, Cond.code yX2_joinRing cX2_joinRing 3 none, Cond.fieldLink RX2 53 "RingGroup$Ring" "number" "I", Cond.fieldLink RX2 106 "RingGroup$Node" "highest" "I", Cond.fieldLink RX2 56 "RingGroup$Node" "voteNumber" "I", Cond.fieldLink RX2 109 "RingGroup$Ring" "members" "I", Cond.fieldLink RX2 46 "RingGroup$Node" "voteMembers" "I", Cond.fieldLink RX2 21 "RingGroup$Node" "replica" "LRingGroup$Replica;", Cond.fieldLink RX2 28 "RingGroup$Node" "log" "LRingGroup$Log;", Cond.methodLink RX2 112 yX4_forgetKept, Cond.instanceMethod yX4_forgetKept, Cond.selects RX4 yX4_forgetKept yX4_forgetKept, Cond.initialized RX4, Cond.code yX4_forgetKept cX4_forgetKept 2 none, Cond.fieldLink RX4 37 "RingGroup$Replica" "done" "I", Cond.fieldLink RX4 17 "RingGroup$Replica" "kept" "[LRingGroup$Message;", Cond.methodLink RX2 99 yX0_add, Cond.instanceMethod yX0_add, Cond.selects RX0 yX0_add yX0_add, Cond.initialized RX0, Cond.code yX0_add cX0_add 9 none, Cond.fieldLink RX0 15 "RingGroup$Log" "ever" "I", Cond.fieldLink RX0 9 "RingGroup$Log" "cells" "[J", Cond.methodLink RX0 19 yJ9_floorMod_7cf53]
def wsX6_beginRing_r4 : List Cond := [Cond.static yJ9_floorMod_7cf53, Cond.initialized RJ9, Cond.code yJ9_floorMod_7cf53 cJ9_floorMod_7cf53 3 (some .int)]
def wsX6_beginRing : List Cond := .code yX6_beginRing cX6_beginRing 9 (some .int) :: ((wsX6_beginRing_r1 ++ (wsX6_beginRing_r2 ++ (wsX6_beginRing_r3 ++ wsX6_beginRing_r4))) ++ wsX60 ++ wsX20 ++ wsX50 ++ wsX40 ++ wsX00)
def wsX6_gather_r1 : List Cond := [Cond.classLink RX6 64 "java/lang/IllegalStateException", Cond.initialized "java/lang/IllegalStateException", Cond.fieldLink RX6 50 "RingGroup$Node" "up" "Z", Cond.fieldLink RX6 124 "RingGroup$Node" "group" "I", Cond.fieldLink RX6 80 "RingGroup$Node" "ring" "LRingGroup$Ring;", Cond.fieldLink RX6 139 "RingGroup$Node" "voteMembers" "I", Cond.methodLink RX6 42 yX6_nodeAt, Cond.instanceMethod yX6_nodeAt, Cond.selects RX6 yX6_nodeAt yX6_nodeAt, Cond.initialized RX6, Cond.code yX6_nodeAt cX6_nodeAt 2 (some (.object "RingGroup$Node")), Cond.classLink RX6 219 "java/lang/IndexOutOfBoundsException", Cond.initialized "java/lang/IndexOutOfBoundsException", Cond.fieldLink RX6 31 "RingGroup" "nodes" "[LRingGroup$Node;", Cond.methodLink RX6 127 yX6_upInGroup, Cond.instanceMethod yX6_upInGroup, Cond.selects RX6 yX6_upInGroup yX6_upInGroup, Cond.code yX6_upInGroup cX6_upInGroup 7 (some .int), Cond.fieldLink RX6 244 "RingGroup$Node" "number" "I", Cond.methodLink RX6 131 yX6_isWhole, Cond.instanceMethod yX6_isWhole, Cond.selects RX6 yX6_isWhole yX6_isWhole, Cond.code yX6_isWhole cX6_isWhole 3 (some .boolean), Cond.fieldLink RX6 173 "RingGroup$Ring" "members" "I"]
def wsX6_gather_r2 : List Cond := [Cond.fieldLink RX6 83 "RingGroup$Ring" "holder" "I", Cond.methodLink RX6 271 yX6_ofRing, Cond.instanceMethod yX6_ofRing, Cond.selects RX6 yX6_ofRing yX6_ofRing, Cond.code yX6_ofRing cX6_ofRing 8 (some .int), Cond.methodLink RX6 237 yX6_isIn, Cond.static yX6_isIn, Cond.code yX6_isIn cX6_isIn 2 (some .boolean), Cond.methodLink RX6 135 yX6_foremost, Cond.instanceMethod yX6_foremost, Cond.selects RX6 yX6_foremost yX6_foremost, Cond.code yX6_foremost cX6_foremost 8 (some (.object "RingGroup$Node")), Cond.methodLink RX6 275 yX2_isAheadOf, Cond.instanceMethod yX2_isAheadOf, Cond.selects RX2 yX2_isAheadOf yX2_isAheadOf, Cond.initialized RX2, Cond.code yX2_isAheadOf cX2_isAheadOf 2 (some .boolean), Cond.fieldLink RX2 56 "RingGroup$Node" "voteNumber" "I", Cond.fieldLink RX2 21 "RingGroup$Node" "replica" "LRingGroup$Replica;", Cond.fieldLink RX2 59 "RingGroup$Replica" "applied" "I", Cond.fieldLink RX2 42 "RingGroup$Node" "number" "I", Cond.methodLink RX6 142 yX6_isQuorum, Cond.static yX6_isQuorum, Cond.code yX6_isQuorum cX6_isQuorum 4 (some .boolean)]
def wsX6_gather_r3 : List Cond := [Cond.methodLink RX6 279 yJ6_bitCount_0f7a4, Cond.static yJ6_bitCount_0f7a4, Cond.initialized RJ6, Cond.code yJ6_bitCount_0f7a4 cJ6_bitCount_0f7a4 1 (some .int), Cond.constant RJ6 265 (1431655765), Cond.constant RJ6 266 (858993459), Cond.constant RJ6 267 (252645135), Cond.methodLink RX6 284 yX6_leastOf, Cond.static yX6_leastOf, Cond.code yX6_leastOf cX6_leastOf 2 (some .int), Cond.methodLink RX6 146 yX6_endOldRings, Cond.instanceMethod yX6_endOldRings, Cond.selects RX6 yX6_endOldRings yX6_endOldRings, Cond.code yX6_endOldRings cX6_endOldRings 7 none, Cond.fieldLink RX6 25 "RingGroup" "noRing" "LRingGroup$Ring;", Cond.methodLink RX6 287 yX6_endRing, Cond.instanceMethod yX6_endRing, Cond.selects RX6 yX6_endRing yX6_endRing, Cond.code yX6_endRing cX6_endRing 6 none, Cond.fieldLink RX6 197 "RingGroup$Node" "log" "LRingGroup$Log;", Cond.fieldLink RX6 170 "RingGroup$Ring" "number" "I", Cond.methodLink RX6 290 yX6_shareAll, Cond.instanceMethod yX6_shareAll, Cond.selects RX6 yX6_shareAll yX6_shareAll]
def wsX6_gather_r4 : List Cond := [Cond.code yX6_shareAll cX6_shareAll 8 none, Cond.fieldLink RX6 106 "RingGroup$Node" "safeTo" "I", Cond.methodLink RX6 15 Lib.Math.max.name, Cond.static Lib.Math.max.name, Cond.initialized "java/lang/Math", Cond.code Lib.Math.max.name Lib.Math.max.code 2 (some .int), Cond.fieldLink RX6 252 "RingGroup$Node" "has" "[LRingGroup$Message;", Cond.methodLink RX6 256 yX6_giveTo, Cond.instanceMethod yX6_giveTo, Cond.selects RX6 yX6_giveTo yX6_giveTo, Cond.code yX6_giveTo cX6_giveTo 8 none, Cond.methodLink RX6 264 yX2_receive, Cond.instanceMethod yX2_receive, Cond.selects RX2 yX2_receive yX2_receive, Cond.code yX2_receive cX2_receive 3 none, Cond.fieldLink RX2 34 "RingGroup$Node" "has" "[LRingGroup$Message;", Cond.fieldLink RX2 62 "RingGroup$Message" "safe" "Z", Cond.fieldLink RX2 69 "RingGroup$Replica" "kept" "[LRingGroup$Message;", Cond.methodLink RX2 65 yX2_isOfPrimary, Cond.instanceMethod yX2_isOfPrimary, Cond.selects RX2 yX2_isOfPrimary yX2_isOfPrimary, Cond.code yX2_isOfPrimary cX2_isOfPrimary 1 (some .boolean), Cond.fieldLink RX2 49 "RingGroup$Node" "ring" "LRingGroup$Ring;", Cond.fieldLink RX2 53 "RingGroup$Ring" "number" "I"]
def wsX6_gather_r5 : List Cond := [Cond.methodLink RX6 116 yX2_deliverInTurn, Cond.instanceMethod yX2_deliverInTurn, Cond.selects RX2 yX2_deliverInTurn yX2_deliverInTurn, Cond.code yX2_deliverInTurn cX2_deliverInTurn 4 (some .int), Cond.fieldLink RX2 72 "RingGroup$Node" "delivered" "I", Cond.fieldLink RX2 75 "RingGroup$Node" "safeTo" "I", Cond.methodLink RX2 78 yX2_tell, Cond.instanceMethod yX2_tell, Cond.selects RX2 yX2_tell yX2_tell, Cond.code yX2_tell cX2_tell 3 none, Cond.fieldLink RX2 28 "RingGroup$Node" "log" "LRingGroup$Log;", Cond.fieldLink RX2 85 "RingGroup$Message" "sender" "I", Cond.fieldLink RX2 92 "RingGroup$Message" "key" "I", Cond.fieldLink RX2 95 "RingGroup$Message" "value" "J", Cond.methodLink RX2 99 yX0_add, Cond.instanceMethod yX0_add, Cond.selects RX0 yX0_add yX0_add, Cond.initialized RX0, Cond.code yX0_add cX0_add 9 none, Cond.fieldLink RX0 15 "RingGroup$Log" "ever" "I", Cond.fieldLink RX0 9 "RingGroup$Log" "cells" "[J", Cond.methodLink RX0 19 yJ9_floorMod_7cf53, Cond.static yJ9_floorMod_7cf53, Cond.initialized RJ9]
def wsX6_gather_r6 : List Cond := [Cond.code yJ9_floorMod_7cf53 cJ9_floorMod_7cf53 3 (some .int), Cond.methodLink RX2 82 yX4_apply, Cond.instanceMethod yX4_apply, Cond.selects RX4 yX4_apply yX4_apply, Cond.initialized RX4, Cond.code yX4_apply cX4_apply 3 none, Cond.fieldLink RX4 9 "RingGroup$Replica" "values" "[J", Cond.fieldLink RX4 21 "RingGroup$Message" "key" "I", Cond.fieldLink RX4 25 "RingGroup$Message" "value" "J", Cond.fieldLink RX4 29 "RingGroup$Replica" "applied" "I", Cond.fieldLink RX4 32 "RingGroup$Replica" "mark" "J", Cond.constantLong RX4 35 (31), Cond.fieldLink RX4 37 "RingGroup$Replica" "done" "I", Cond.methodLink RX6 293 yX0_add, Cond.methodLink RX6 297 yX2_deliverLeft, Cond.instanceMethod yX2_deliverLeft, Cond.selects RX2 yX2_deliverLeft yX2_deliverLeft, Cond.code yX2_deliverLeft cX2_deliverLeft 5 none, Cond.methodLink RX6 149 yX6_bringTablesUpToDate, Cond.instanceMethod yX6_bringTablesUpToDate, Cond.selects RX6 yX6_bringTablesUpToDate yX6_bringTablesUpToDate, Cond.code yX6_bringTablesUpToDate cX6_bringTablesUpToDate 7 none, Cond.fieldLink RX6 182 "RingGroup$Node" "replica" "LRingGroup$Replica;", Cond.fieldLink RX6 300 "RingGroup$Replica" "done" "I"]
def wsX6_gather_r7 : List Cond := [Cond.fieldLink RX6 191 "RingGroup$Node" "voteNumber" "I", Cond.methodLink RX6 303 yX6_keptByOne, Cond.instanceMethod yX6_keptByOne, Cond.selects RX6 yX6_keptByOne yX6_keptByOne, Cond.code yX6_keptByOne cX6_keptByOne 8 (some (.object "RingGroup$Message")), Cond.fieldLink RX6 314 "RingGroup$Replica" "kept" "[LRingGroup$Message;", Cond.methodLink RX6 307 yX4_apply, Cond.methodLink RX6 310 yX4_copyTable, Cond.instanceMethod yX4_copyTable, Cond.selects RX4 yX4_copyTable yX4_copyTable, Cond.code yX4_copyTable cX4_copyTable 3 none, Cond.methodLink RX6 152 yX6_beginRing, Cond.instanceMethod yX6_beginRing, Cond.selects RX6 yX6_beginRing yX6_beginRing, Cond.code yX6_beginRing cX6_beginRing 9 (some .int), Cond.fieldLink RX6 194 "RingGroup$Node" "highest" "I", Cond.methodLink RX6 164 yX2_leaveRing, Cond.instanceMethod yX2_leaveRing, Cond.selects RX2 yX2_leaveRing yX2_leaveRing, Cond.code yX2_leaveRing cX2_leaveRing 3 none, Cond.fieldLink RX2 103 "RingGroup$Ring" "holder" "I", Cond.methodLink RX6 317 yX6_unusedRing, Cond.instanceMethod yX6_unusedRing, Cond.selects RX6 yX6_unusedRing yX6_unusedRing]
def wsX6_gather_r8 : List Cond := [Cond.code yX6_unusedRing cX6_unusedRing 7 (some (.object "RingGroup$Ring")), Cond.fieldLink RX6 35 "RingGroup" "rings" "[LRingGroup$Ring;", Cond.methodLink RX6 321 yX5_begin, Cond.instanceMethod yX5_begin, Cond.selects RX5 yX5_begin yX5_begin, Cond.initialized RX5, Cond.code yX5_begin cX5_begin 4 none, Cond.fieldLink RX5 23 "RingGroup$Ring" "number" "I", Cond.fieldLink RX5 26 "RingGroup$Ring" "members" "I", Cond.fieldLink RX5 19 "RingGroup$Ring" "holder" "I", Cond.fieldLink RX5 33 "RingGroup$Ring" "lastPlace" "I", Cond.fieldLink RX5 9 "RingGroup$Ring" "requested" "[Z", Cond.fieldLink RX5 15 "RingGroup$Ring" "full" "[I", Cond.methodLink RX6 325 yX2_joinRing, Cond.instanceMethod yX2_joinRing, Cond.selects RX2 yX2_joinRing yX2_joinRing, Cond.code yX2_joinRing cX2_joinRing 3 none, Cond.fieldLink RX2 106 "RingGroup$Node" "highest" "I", Cond.fieldLink RX2 109 "RingGroup$Ring" "members" "I", Cond.fieldLink RX2 46 "RingGroup$Node" "voteMembers" "I", Cond.methodLink RX2 112 yX4_forgetKept, Cond.instanceMethod yX4_forgetKept, Cond.selects RX4 yX4_forgetKept yX4_forgetKept, Cond.code yX4_forgetKept cX4_forgetKept 2 none]
def wsX6_gather_r9 : List Cond := [Cond.fieldLink RX4 17 "RingGroup$Replica" "kept" "[LRingGroup$Message;"]
def wsX6_gather : List Cond := .code yX6_gather cX6_gather 5 (some .int) :: ((wsX6_gather_r1 ++ (wsX6_gather_r2 ++ (wsX6_gather_r3 ++ (wsX6_gather_r4 ++ (wsX6_gather_r5 ++ (wsX6_gather_r6 ++ (wsX6_gather_r7 ++ (wsX6_gather_r8 ++ wsX6_gather_r9)))))))) ++ wsX20 ++ wsX60 ++ wsX50 ++ wsX40 ++ wsX10 ++ wsX00 ++ (vx_atS RX6 68 "java/lang/IllegalStateException" ["java/lang/RuntimeException", "java/lang/Exception"]).filter goodWord ++ (vx_atS RX6 223 "java/lang/IndexOutOfBoundsException" ["java/lang/RuntimeException", "java/lang/Exception"]).filter goodWord)
def wsX6_part : List Cond := .code yX6_part cX6_part 4 none :: ([.classLink RX6 156 "java/lang/IllegalArgumentException", .initialized "java/lang/IllegalArgumentException", .fieldLink RX6 124 "RingGroup$Node" "group" "I", .methodLink RX6 42 yX6_nodeAt, .instanceMethod yX6_nodeAt, .selects RX6 yX6_nodeAt yX6_nodeAt, .initialized RX6, .code yX6_nodeAt cX6_nodeAt 2 (some (.object "RingGroup$Node")), .classLink RX6 219 "java/lang/IndexOutOfBoundsException", .initialized "java/lang/IndexOutOfBoundsException", .fieldLink RX6 31 "RingGroup" "nodes" "[LRingGroup$Node;"] ++ wsX20 ++ wsX60 ++ (vx_atS RX6 160 "java/lang/IllegalArgumentException" ["java/lang/RuntimeException", "java/lang/Exception"]).filter goodWord ++ (vx_atS RX6 223 "java/lang/IndexOutOfBoundsException" ["java/lang/RuntimeException", "java/lang/Exception"]).filter goodWord)
def wsX6_crash_r1 : List Cond := [Cond.classLink RX6 64 "java/lang/IllegalStateException", Cond.initialized "java/lang/IllegalStateException", Cond.fieldLink RX6 50 "RingGroup$Node" "up" "Z", Cond.fieldLink RX6 54 "RingGroup$Node" "pending" "LRingGroup$Pending;", Cond.fieldLink RX6 25 "RingGroup" "noRing" "LRingGroup$Ring;", Cond.methodLink RX6 42 yX6_nodeAt, Cond.instanceMethod yX6_nodeAt, Cond.selects RX6 yX6_nodeAt yX6_nodeAt, Cond.initialized RX6, Cond.code yX6_nodeAt cX6_nodeAt 2 (some (.object "RingGroup$Node")), Cond.classLink RX6 219 "java/lang/IndexOutOfBoundsException", Cond.initialized "java/lang/IndexOutOfBoundsException", Cond.fieldLink RX6 31 "RingGroup" "nodes" "[LRingGroup$Node;", Cond.methodLink RX6 161 yX3_drop, Cond.instanceMethod yX3_drop, Cond.selects RX3 yX3_drop yX3_drop, Cond.initialized RX3, Cond.code yX3_drop cX3_drop 1 none, Cond.fieldLink RX3 17 "RingGroup$Pending" "count" "I", Cond.methodLink RX6 164 yX2_leaveRing, Cond.instanceMethod yX2_leaveRing, Cond.selects RX2 yX2_leaveRing yX2_leaveRing, Cond.initialized RX2, Cond.code yX2_leaveRing cX2_leaveRing 3 none]
def wsX6_crash_r2 : List Cond := [Cond.fieldLink RX2 49 "RingGroup$Node" "ring" "LRingGroup$Ring;", Cond.fieldLink RX2 103 "RingGroup$Ring" "holder" "I", Cond.fieldLink RX2 42 "RingGroup$Node" "number" "I", Cond.fieldLink RX2 72 "RingGroup$Node" "delivered" "I", Cond.fieldLink RX2 75 "RingGroup$Node" "safeTo" "I", Cond.fieldLink RX2 34 "RingGroup$Node" "has" "[LRingGroup$Message;"]
def wsX6_crash : List Cond := .code yX6_crash cX6_crash 3 none :: ((wsX6_crash_r1 ++ wsX6_crash_r2) ++ wsX20 ++ wsX60 ++ wsX30 ++ wsX50 ++ (vx_atS RX6 68 "java/lang/IllegalStateException" ["java/lang/RuntimeException", "java/lang/Exception"]).filter goodWord ++ (vx_atS RX6 223 "java/lang/IndexOutOfBoundsException" ["java/lang/RuntimeException", "java/lang/Exception"]).filter goodWord)
def wsX6_restart : List Cond := .code yX6_restart cX6_restart 3 none :: ([.classLink RX6 64 "java/lang/IllegalStateException", .initialized "java/lang/IllegalStateException", .fieldLink RX6 50 "RingGroup$Node" "up" "Z", .methodLink RX6 42 yX6_nodeAt, .instanceMethod yX6_nodeAt, .selects RX6 yX6_nodeAt yX6_nodeAt, .initialized RX6, .code yX6_nodeAt cX6_nodeAt 2 (some (.object "RingGroup$Node")), .classLink RX6 219 "java/lang/IndexOutOfBoundsException", .initialized "java/lang/IndexOutOfBoundsException", .fieldLink RX6 31 "RingGroup" "nodes" "[LRingGroup$Node;"] ++ wsX20 ++ wsX60 ++ (vx_atS RX6 68 "java/lang/IllegalStateException" ["java/lang/RuntimeException", "java/lang/Exception"]).filter goodWord ++ (vx_atS RX6 223 "java/lang/IndexOutOfBoundsException" ["java/lang/RuntimeException", "java/lang/Exception"]).filter goodWord)
def wsX6_about_r1 : List Cond := [Cond.classLink RX6 156 "java/lang/IllegalArgumentException", Cond.initialized "java/lang/IllegalArgumentException", Cond.fieldLink RX6 50 "RingGroup$Node" "up" "Z", Cond.fieldLink RX6 124 "RingGroup$Node" "group" "I", Cond.fieldLink RX6 80 "RingGroup$Node" "ring" "LRingGroup$Ring;", Cond.fieldLink RX6 170 "RingGroup$Ring" "number" "I", Cond.fieldLink RX6 173 "RingGroup$Ring" "members" "I", Cond.fieldLink RX6 54 "RingGroup$Node" "pending" "LRingGroup$Pending;", Cond.fieldLink RX6 176 "RingGroup$Pending" "count" "I", Cond.fieldLink RX6 179 "RingGroup$Node" "delivered" "I", Cond.fieldLink RX6 106 "RingGroup$Node" "safeTo" "I", Cond.fieldLink RX6 182 "RingGroup$Node" "replica" "LRingGroup$Replica;", Cond.fieldLink RX6 186 "RingGroup$Replica" "applied" "I", Cond.fieldLink RX6 191 "RingGroup$Node" "voteNumber" "I", Cond.fieldLink RX6 139 "RingGroup$Node" "voteMembers" "I", Cond.fieldLink RX6 194 "RingGroup$Node" "highest" "I", Cond.fieldLink RX6 83 "RingGroup$Ring" "holder" "I", Cond.fieldLink RX6 197 "RingGroup$Node" "log" "LRingGroup$Log;", Cond.fieldLink RX6 201 "RingGroup$Log" "ever" "I", Cond.methodLink RX6 42 yX6_nodeAt, Cond.instanceMethod yX6_nodeAt, Cond.selects RX6 yX6_nodeAt yX6_nodeAt, Cond.initialized RX6, Cond.code yX6_nodeAt cX6_nodeAt 2 (some (.object "RingGroup$Node"))]
def wsX6_about_r2 : List Cond := [Cond.classLink RX6 219 "java/lang/IndexOutOfBoundsException", Cond.initialized "java/lang/IndexOutOfBoundsException", Cond.fieldLink RX6 31 "RingGroup" "nodes" "[LRingGroup$Node;", Cond.methodLink RX6 103 yX2_full, Cond.instanceMethod yX2_full, Cond.selects RX2 yX2_full yX2_full, Cond.initialized RX2, Cond.code yX2_full cX2_full 2 (some .int), Cond.fieldLink RX2 34 "RingGroup$Node" "has" "[LRingGroup$Message;"]
def wsX6_about : List Cond := .code yX6_about cX6_about 4 (some .int) :: ((wsX6_about_r1 ++ wsX6_about_r2) ++ wsX20 ++ wsX50 ++ wsX30 ++ wsX40 ++ wsX00 ++ wsX60 ++ (vx_atS RX6 160 "java/lang/IllegalArgumentException" ["java/lang/RuntimeException", "java/lang/Exception"]).filter goodWord ++ (vx_atS RX6 223 "java/lang/IndexOutOfBoundsException" ["java/lang/RuntimeException", "java/lang/Exception"]).filter goodWord)
def wsX6_table : List Cond := .code yX6_table cX6_table 4 (some .long) :: ([.fieldLink RX6 182 "RingGroup$Node" "replica" "LRingGroup$Replica;", .fieldLink RX6 208 "RingGroup$Replica" "values" "[J", .methodLink RX6 42 yX6_nodeAt, .instanceMethod yX6_nodeAt, .selects RX6 yX6_nodeAt yX6_nodeAt, .initialized RX6, .code yX6_nodeAt cX6_nodeAt 2 (some (.object "RingGroup$Node")), .classLink RX6 219 "java/lang/IndexOutOfBoundsException", .initialized "java/lang/IndexOutOfBoundsException", .fieldLink RX6 31 "RingGroup" "nodes" "[LRingGroup$Node;", .methodLink RX6 46 yX6_checkKey, .static yX6_checkKey, .code yX6_checkKey cX6_checkKey 1 none] ++ wsX20 ++ wsX40 ++ wsX60 ++ (vx_atS RX6 223 "java/lang/IndexOutOfBoundsException" ["java/lang/RuntimeException", "java/lang/Exception"]).filter goodWord)
def wsX6_mark : List Cond := .code yX6_mark cX6_mark 2 (some .long) :: ([.fieldLink RX6 182 "RingGroup$Node" "replica" "LRingGroup$Replica;", .fieldLink RX6 212 "RingGroup$Replica" "mark" "J", .methodLink RX6 42 yX6_nodeAt, .instanceMethod yX6_nodeAt, .selects RX6 yX6_nodeAt yX6_nodeAt, .initialized RX6, .code yX6_nodeAt cX6_nodeAt 2 (some (.object "RingGroup$Node")), .classLink RX6 219 "java/lang/IndexOutOfBoundsException", .initialized "java/lang/IndexOutOfBoundsException", .fieldLink RX6 31 "RingGroup" "nodes" "[LRingGroup$Node;"] ++ wsX20 ++ wsX40 ++ wsX60 ++ (vx_atS RX6 223 "java/lang/IndexOutOfBoundsException" ["java/lang/RuntimeException", "java/lang/Exception"]).filter goodWord)
def wsX6_entry_r1 : List Cond := [Cond.classLink RX6 219 "java/lang/IndexOutOfBoundsException", Cond.initialized "java/lang/IndexOutOfBoundsException", Cond.classLink RX6 156 "java/lang/IllegalArgumentException", Cond.initialized "java/lang/IllegalArgumentException", Cond.fieldLink RX6 197 "RingGroup$Node" "log" "LRingGroup$Log;", Cond.methodLink RX6 42 yX6_nodeAt, Cond.instanceMethod yX6_nodeAt, Cond.selects RX6 yX6_nodeAt yX6_nodeAt, Cond.initialized RX6, Cond.code yX6_nodeAt cX6_nodeAt 2 (some (.object "RingGroup$Node")), Cond.fieldLink RX6 31 "RingGroup" "nodes" "[LRingGroup$Node;", Cond.methodLink RX6 216 yX0_size, Cond.instanceMethod yX0_size, Cond.selects RX0 yX0_size yX0_size, Cond.initialized RX0, Cond.code yX0_size cX0_size 1 (some .int), Cond.fieldLink RX0 15 "RingGroup$Log" "ever" "I", Cond.methodLink RX0 25 Lib.Math.min.name, Cond.static Lib.Math.min.name, Cond.initialized "java/lang/Math", Cond.code Lib.Math.min.name Lib.Math.min.code 2 (some .int), Cond.methodLink RX6 226 yX0_cell, Cond.instanceMethod yX0_cell, Cond.selects RX0 yX0_cell yX0_cell]
def wsX6_entry_r2 : List Cond := [Cond.code yX0_cell cX0_cell 3 (some .long), Cond.fieldLink RX0 9 "RingGroup$Log" "cells" "[J", Cond.methodLink RX0 28 yX0_size, Cond.methodLink RX0 19 yJ9_floorMod_7cf53, Cond.static yJ9_floorMod_7cf53, Cond.initialized RJ9, Cond.code yJ9_floorMod_7cf53 cJ9_floorMod_7cf53 3 (some .int)]
def wsX6_entry : List Cond := .code yX6_entry cX6_entry 5 (some .long) :: ((wsX6_entry_r1 ++ wsX6_entry_r2) ++ wsX20 ++ wsX60 ++ wsX00 ++ (vx_atS RX6 223 "java/lang/IndexOutOfBoundsException" ["java/lang/RuntimeException", "java/lang/Exception"]).filter goodWord ++ (vx_atS RX6 160 "java/lang/IllegalArgumentException" ["java/lang/RuntimeException", "java/lang/Exception"]).filter goodWord)
def wsX6_primary : List Cond := .code yX6_primary cX6_primary 2 (some .boolean) :: ([.methodLink RX6 42 yX6_nodeAt, .instanceMethod yX6_nodeAt, .selects RX6 yX6_nodeAt yX6_nodeAt, .initialized RX6, .code yX6_nodeAt cX6_nodeAt 2 (some (.object "RingGroup$Node")), .classLink RX6 219 "java/lang/IndexOutOfBoundsException", .initialized "java/lang/IndexOutOfBoundsException", .fieldLink RX6 31 "RingGroup" "nodes" "[LRingGroup$Node;", .methodLink RX6 230 yX2_isOfPrimary, .instanceMethod yX2_isOfPrimary, .selects RX2 yX2_isOfPrimary yX2_isOfPrimary, .initialized RX2, .code yX2_isOfPrimary cX2_isOfPrimary 1 (some .boolean), .fieldLink RX2 49 "RingGroup$Node" "ring" "LRingGroup$Ring;", .fieldLink RX2 53 "RingGroup$Ring" "number" "I", .fieldLink RX2 56 "RingGroup$Node" "voteNumber" "I"] ++ wsX60 ++ wsX20 ++ wsX50 ++ (vx_atS RX6 223 "java/lang/IndexOutOfBoundsException" ["java/lang/RuntimeException", "java/lang/Exception"]).filter goodWord)
def wsX7_init_r1 : List Cond := [Cond.methodLink RX7 1 objectInit, Cond.instanceMethod objectInit, Cond.code objectInit ⟨#[0xb1]⟩ 1 none, Cond.arrayClass .boolean, Cond.fieldLink RX7 7 "RingGroupModel" "up" "[Z", Cond.arrayClass .int, Cond.fieldLink RX7 13 "RingGroupModel" "group" "[I", Cond.fieldLink RX7 17 "RingGroupModel" "ringOf" "[I", Cond.fieldLink RX7 20 "RingGroupModel" "highest" "[I", Cond.arrayClass .long, Cond.fieldLink RX7 23 "RingGroupModel" "tables" "[J", Cond.fieldLink RX7 27 "RingGroupModel" "applied" "[I", Cond.fieldLink RX7 30 "RingGroupModel" "marks" "[J", Cond.fieldLink RX7 33 "RingGroupModel" "voteNumber" "[I", Cond.fieldLink RX7 36 "RingGroupModel" "voteMembers" "[I", Cond.fieldLink RX7 39 "RingGroupModel" "pending" "[I", Cond.fieldLink RX7 42 "RingGroupModel" "pendingKeys" "[I", Cond.fieldLink RX7 45 "RingGroupModel" "pendingValues" "[J", Cond.fieldLink RX7 48 "RingGroupModel" "pendingSafe" "[Z", Cond.fieldLink RX7 51 "RingGroupModel" "delivered" "[I", Cond.fieldLink RX7 54 "RingGroupModel" "safeTo" "[I", Cond.fieldLink RX7 57 "RingGroupModel" "logged" "[I", Cond.fieldLink RX7 60 "RingGroupModel" "kept" "[Z", Cond.fieldLink RX7 63 "RingGroupModel" "keptKeys" "[I"]
def wsX7_init_r2 : List Cond := [Cond.fieldLink RX7 66 "RingGroupModel" "keptValues" "[J", Cond.fieldLink RX7 69 "RingGroupModel" "done" "[I", Cond.fieldLink RX7 72 "RingGroupModel" "log" "[J", Cond.fieldLink RX7 75 "RingGroupModel" "numbers" "[I", Cond.fieldLink RX7 78 "RingGroupModel" "members" "[I", Cond.fieldLink RX7 81 "RingGroupModel" "lost" "[Z", Cond.fieldLink RX7 84 "RingGroupModel" "tokenAt" "[I", Cond.fieldLink RX7 87 "RingGroupModel" "places" "[I", Cond.fieldLink RX7 90 "RingGroupModel" "senders" "[I", Cond.fieldLink RX7 93 "RingGroupModel" "keys" "[I", Cond.fieldLink RX7 96 "RingGroupModel" "values" "[J", Cond.fieldLink RX7 99 "RingGroupModel" "safes" "[Z", Cond.fieldLink RX7 102 "RingGroupModel" "has" "[I", Cond.fieldLink RX7 105 "RingGroupModel" "requested" "[Z", Cond.fieldLink RX7 108 "RingGroupModel" "tokenFull" "[I", Cond.fieldLink RX7 111 "RingGroupModel" "nodes" "I", Cond.fieldLink RX7 115 "RingGroupModel" "window" "I"]
def wsX7_init : List Cond := .code yX7_init cX7_init 4 none :: ((wsX7_init_r1 ++ wsX7_init_r2) ++ wsX70)
def wsX7_thrown : List Cond := .code yX7_thrown cX7_thrown 1 (some .int) :: ([.fieldLink RX7 118 "RingGroupModel" "thrown" "I"] ++ wsX70)
def wsX7_noNode : List Cond := .code yX7_noNode cX7_noNode 2 (some .boolean) :: ([.fieldLink RX7 111 "RingGroupModel" "nodes" "I"] ++ wsX70)
def wsX7_isIn : List Cond := .code yX7_isIn cX7_isIn 2 (some .boolean) :: ([])
def wsX7_place : List Cond := .code yX7_place cX7_place 2 (some .int) :: ([])
def wsX7_hasPlace : List Cond := .code yX7_hasPlace cX7_hasPlace 3 (some .boolean) :: ([.fieldLink RX7 102 "RingGroupModel" "has" "[I", .fieldLink RX7 17 "RingGroupModel" "ringOf" "[I", .methodLink RX7 121 yX7_place, .static yX7_place, .initialized RX7, .code yX7_place cX7_place 2 (some .int), .methodLink RX7 125 yX7_isIn, .static yX7_isIn, .code yX7_isIn cX7_isIn 2 (some .boolean)] ++ wsX70)
def wsX7_full : List Cond := .code yX7_full cX7_full 3 (some .int) :: ([.fieldLink RX7 87 "RingGroupModel" "places" "[I", .fieldLink RX7 17 "RingGroupModel" "ringOf" "[I", .methodLink RX7 129 yX7_hasPlace, .instanceMethod yX7_hasPlace, .selects RX7 yX7_hasPlace yX7_hasPlace, .initialized RX7, .code yX7_hasPlace cX7_hasPlace 3 (some .boolean), .fieldLink RX7 102 "RingGroupModel" "has" "[I", .methodLink RX7 121 yX7_place, .static yX7_place, .code yX7_place cX7_place 2 (some .int), .methodLink RX7 125 yX7_isIn, .static yX7_isIn, .code yX7_isIn cX7_isIn 2 (some .boolean)] ++ wsX70)
def wsX7_holds : List Cond := .code yX7_holds cX7_holds 2 (some .boolean) :: ([.fieldLink RX7 7 "RingGroupModel" "up" "[Z", .fieldLink RX7 17 "RingGroupModel" "ringOf" "[I", .fieldLink RX7 81 "RingGroupModel" "lost" "[Z", .fieldLink RX7 84 "RingGroupModel" "tokenAt" "[I"] ++ wsX70)
def wsX7_tell : List Cond := .code yX7_tell cX7_tell 15 none :: ([.fieldLink RX7 57 "RingGroupModel" "logged" "[I", .fieldLink RX7 72 "RingGroupModel" "log" "[J"] ++ wsX70)
def wsX7_send : List Cond := .code yX7_send cX7_send 7 (some .int) :: ([.fieldLink RX7 7 "RingGroupModel" "up" "[Z", .fieldLink RX7 39 "RingGroupModel" "pending" "[I", .fieldLink RX7 118 "RingGroupModel" "thrown" "I", .fieldLink RX7 42 "RingGroupModel" "pendingKeys" "[I", .fieldLink RX7 45 "RingGroupModel" "pendingValues" "[J", .fieldLink RX7 48 "RingGroupModel" "pendingSafe" "[Z", .methodLink RX7 132 yX7_noNode, .instanceMethod yX7_noNode, .selects RX7 yX7_noNode yX7_noNode, .initialized RX7, .code yX7_noNode cX7_noNode 2 (some .boolean), .fieldLink RX7 111 "RingGroupModel" "nodes" "I"] ++ wsX70)
def wsX7_apply : List Cond := .code yX7_apply cX7_apply 6 none :: ([.fieldLink RX7 23 "RingGroupModel" "tables" "[J", .fieldLink RX7 27 "RingGroupModel" "applied" "[I", .fieldLink RX7 30 "RingGroupModel" "marks" "[J", .constantLong RX7 136 (31), .constantLong RX7 138 (17), .fieldLink RX7 69 "RingGroupModel" "done" "[I"] ++ wsX70)
def wsX7_deliver_r1 : List Cond := [Cond.fieldLink RX7 17 "RingGroupModel" "ringOf" "[I", Cond.fieldLink RX7 90 "RingGroupModel" "senders" "[I", Cond.fieldLink RX7 93 "RingGroupModel" "keys" "[I", Cond.fieldLink RX7 96 "RingGroupModel" "values" "[J", Cond.fieldLink RX7 75 "RingGroupModel" "numbers" "[I", Cond.fieldLink RX7 99 "RingGroupModel" "safes" "[Z", Cond.fieldLink RX7 33 "RingGroupModel" "voteNumber" "[I", Cond.methodLink RX7 121 yX7_place, Cond.static yX7_place, Cond.initialized RX7, Cond.code yX7_place cX7_place 2 (some .int), Cond.methodLink RX7 140 yX7_tell, Cond.instanceMethod yX7_tell, Cond.selects RX7 yX7_tell yX7_tell, Cond.code yX7_tell cX7_tell 15 none, Cond.fieldLink RX7 57 "RingGroupModel" "logged" "[I", Cond.fieldLink RX7 72 "RingGroupModel" "log" "[J", Cond.methodLink RX7 144 yX7_apply, Cond.instanceMethod yX7_apply, Cond.selects RX7 yX7_apply yX7_apply, Cond.code yX7_apply cX7_apply 6 none, Cond.fieldLink RX7 23 "RingGroupModel" "tables" "[J", Cond.fieldLink RX7 27 "RingGroupModel" "applied" "[I", Cond.fieldLink RX7 30 "RingGroupModel" "marks" "[J"]
def wsX7_deliver_r2 : List Cond := [Cond.constantLong RX7 136 (31), Cond.constantLong RX7 138 (17), Cond.fieldLink RX7 69 "RingGroupModel" "done" "[I"]
def wsX7_deliver : List Cond := .code yX7_deliver cX7_deliver 5 none :: ((wsX7_deliver_r1 ++ wsX7_deliver_r2) ++ wsX70)
def wsX7_gets : List Cond := .code yX7_gets cX7_gets 4 none :: ([.fieldLink RX7 17 "RingGroupModel" "ringOf" "[I", .fieldLink RX7 102 "RingGroupModel" "has" "[I", .fieldLink RX7 99 "RingGroupModel" "safes" "[Z", .fieldLink RX7 33 "RingGroupModel" "voteNumber" "[I", .fieldLink RX7 75 "RingGroupModel" "numbers" "[I", .fieldLink RX7 60 "RingGroupModel" "kept" "[Z", .fieldLink RX7 63 "RingGroupModel" "keptKeys" "[I", .fieldLink RX7 93 "RingGroupModel" "keys" "[I", .fieldLink RX7 66 "RingGroupModel" "keptValues" "[J", .fieldLink RX7 96 "RingGroupModel" "values" "[J", .methodLink RX7 121 yX7_place, .static yX7_place, .initialized RX7, .code yX7_place cX7_place 2 (some .int)] ++ wsX70)
def wsX7_deliverAll_r1 : List Cond := [Cond.fieldLink RX7 51 "RingGroupModel" "delivered" "[I", Cond.fieldLink RX7 87 "RingGroupModel" "places" "[I", Cond.fieldLink RX7 17 "RingGroupModel" "ringOf" "[I", Cond.fieldLink RX7 99 "RingGroupModel" "safes" "[Z", Cond.fieldLink RX7 54 "RingGroupModel" "safeTo" "[I", Cond.methodLink RX7 129 yX7_hasPlace, Cond.instanceMethod yX7_hasPlace, Cond.selects RX7 yX7_hasPlace yX7_hasPlace, Cond.initialized RX7, Cond.code yX7_hasPlace cX7_hasPlace 3 (some .boolean), Cond.fieldLink RX7 102 "RingGroupModel" "has" "[I", Cond.methodLink RX7 121 yX7_place, Cond.static yX7_place, Cond.code yX7_place cX7_place 2 (some .int), Cond.methodLink RX7 125 yX7_isIn, Cond.static yX7_isIn, Cond.code yX7_isIn cX7_isIn 2 (some .boolean), Cond.methodLink RX7 148 yX7_deliver, Cond.instanceMethod yX7_deliver, Cond.selects RX7 yX7_deliver yX7_deliver, Cond.code yX7_deliver cX7_deliver 5 none, Cond.fieldLink RX7 90 "RingGroupModel" "senders" "[I", Cond.fieldLink RX7 93 "RingGroupModel" "keys" "[I", Cond.fieldLink RX7 96 "RingGroupModel" "values" "[J"]
def wsX7_deliverAll_r2 : List Cond := [Cond.fieldLink RX7 75 "RingGroupModel" "numbers" "[I", Cond.fieldLink RX7 33 "RingGroupModel" "voteNumber" "[I", Cond.methodLink RX7 140 yX7_tell, Cond.instanceMethod yX7_tell, Cond.selects RX7 yX7_tell yX7_tell, Cond.code yX7_tell cX7_tell 15 none, Cond.fieldLink RX7 57 "RingGroupModel" "logged" "[I", Cond.fieldLink RX7 72 "RingGroupModel" "log" "[J", Cond.methodLink RX7 144 yX7_apply, Cond.instanceMethod yX7_apply, Cond.selects RX7 yX7_apply yX7_apply, Cond.code yX7_apply cX7_apply 6 none, Cond.fieldLink RX7 23 "RingGroupModel" "tables" "[J", Cond.fieldLink RX7 27 "RingGroupModel" "applied" "[I", Cond.fieldLink RX7 30 "RingGroupModel" "marks" "[J", Cond.constantLong RX7 136 (31), Cond.constantLong RX7 138 (17), Cond.fieldLink RX7 69 "RingGroupModel" "done" "[I"]
def wsX7_deliverAll : List Cond := .code yX7_deliverAll cX7_deliverAll 4 (some .int) :: ((wsX7_deliverAll_r1 ++ wsX7_deliverAll_r2) ++ wsX70)
def wsX7_comes : List Cond := .code yX7_comes cX7_comes 5 none :: ([.fieldLink RX7 111 "RingGroupModel" "nodes" "I", .fieldLink RX7 7 "RingGroupModel" "up" "[Z", .fieldLink RX7 13 "RingGroupModel" "group" "[I", .fieldLink RX7 17 "RingGroupModel" "ringOf" "[I", .methodLink RX7 125 yX7_isIn, .static yX7_isIn, .initialized RX7, .code yX7_isIn cX7_isIn 2 (some .boolean), .methodLink RX7 152 yX7_gets, .instanceMethod yX7_gets, .selects RX7 yX7_gets yX7_gets, .code yX7_gets cX7_gets 4 none, .fieldLink RX7 102 "RingGroupModel" "has" "[I", .fieldLink RX7 99 "RingGroupModel" "safes" "[Z", .fieldLink RX7 33 "RingGroupModel" "voteNumber" "[I", .fieldLink RX7 75 "RingGroupModel" "numbers" "[I", .fieldLink RX7 60 "RingGroupModel" "kept" "[Z", .fieldLink RX7 63 "RingGroupModel" "keptKeys" "[I", .fieldLink RX7 93 "RingGroupModel" "keys" "[I", .fieldLink RX7 66 "RingGroupModel" "keptValues" "[J", .fieldLink RX7 96 "RingGroupModel" "values" "[J", .methodLink RX7 121 yX7_place, .static yX7_place, .code yX7_place cX7_place 2 (some .int)] ++ wsX70)
def wsX7_give_r1 : List Cond := [Cond.fieldLink RX7 17 "RingGroupModel" "ringOf" "[I", Cond.fieldLink RX7 115 "RingGroupModel" "window" "I", Cond.fieldLink RX7 39 "RingGroupModel" "pending" "[I", Cond.fieldLink RX7 87 "RingGroupModel" "places" "[I", Cond.fieldLink RX7 90 "RingGroupModel" "senders" "[I", Cond.fieldLink RX7 93 "RingGroupModel" "keys" "[I", Cond.fieldLink RX7 42 "RingGroupModel" "pendingKeys" "[I", Cond.fieldLink RX7 96 "RingGroupModel" "values" "[J", Cond.fieldLink RX7 45 "RingGroupModel" "pendingValues" "[J", Cond.fieldLink RX7 99 "RingGroupModel" "safes" "[Z", Cond.fieldLink RX7 48 "RingGroupModel" "pendingSafe" "[Z", Cond.fieldLink RX7 102 "RingGroupModel" "has" "[I", Cond.fieldLink RX7 105 "RingGroupModel" "requested" "[Z", Cond.methodLink RX7 121 yX7_place, Cond.static yX7_place, Cond.initialized RX7, Cond.code yX7_place cX7_place 2 (some .int), Cond.methodLink RX7 152 yX7_gets, Cond.instanceMethod yX7_gets, Cond.selects RX7 yX7_gets yX7_gets, Cond.code yX7_gets cX7_gets 4 none, Cond.fieldLink RX7 33 "RingGroupModel" "voteNumber" "[I", Cond.fieldLink RX7 75 "RingGroupModel" "numbers" "[I", Cond.fieldLink RX7 60 "RingGroupModel" "kept" "[Z"]
def wsX7_give_r2 : List Cond := [Cond.fieldLink RX7 63 "RingGroupModel" "keptKeys" "[I", Cond.fieldLink RX7 66 "RingGroupModel" "keptValues" "[J", Cond.methodLink RX7 156 yX7_comes, Cond.instanceMethod yX7_comes, Cond.selects RX7 yX7_comes yX7_comes, Cond.code yX7_comes cX7_comes 5 none, Cond.fieldLink RX7 111 "RingGroupModel" "nodes" "I", Cond.fieldLink RX7 7 "RingGroupModel" "up" "[Z", Cond.fieldLink RX7 13 "RingGroupModel" "group" "[I", Cond.methodLink RX7 125 yX7_isIn, Cond.static yX7_isIn, Cond.code yX7_isIn cX7_isIn 2 (some .boolean)]
def wsX7_give : List Cond := .code yX7_give cX7_give 7 none :: ((wsX7_give_r1 ++ wsX7_give_r2) ++ wsX70)
def wsX7_goesOn : List Cond := .code yX7_goesOn cX7_goesOn 5 none :: ([.fieldLink RX7 17 "RingGroupModel" "ringOf" "[I", .fieldLink RX7 78 "RingGroupModel" "members" "[I", .fieldLink RX7 7 "RingGroupModel" "up" "[Z", .fieldLink RX7 13 "RingGroupModel" "group" "[I", .fieldLink RX7 81 "RingGroupModel" "lost" "[Z", .fieldLink RX7 84 "RingGroupModel" "tokenAt" "[I", .methodLink RX7 125 yX7_isIn, .static yX7_isIn, .initialized RX7, .code yX7_isIn cX7_isIn 2 (some .boolean)] ++ wsX70)
def wsX7_pass_r1 : List Cond := [Cond.fieldLink RX7 118 "RingGroupModel" "thrown" "I", Cond.fieldLink RX7 17 "RingGroupModel" "ringOf" "[I", Cond.fieldLink RX7 108 "RingGroupModel" "tokenFull" "[I", Cond.fieldLink RX7 87 "RingGroupModel" "places" "[I", Cond.fieldLink RX7 105 "RingGroupModel" "requested" "[Z", Cond.fieldLink RX7 111 "RingGroupModel" "nodes" "I", Cond.fieldLink RX7 78 "RingGroupModel" "members" "[I", Cond.fieldLink RX7 54 "RingGroupModel" "safeTo" "[I", Cond.methodLink RX7 132 yX7_noNode, Cond.instanceMethod yX7_noNode, Cond.selects RX7 yX7_noNode yX7_noNode, Cond.initialized RX7, Cond.code yX7_noNode cX7_noNode 2 (some .boolean), Cond.methodLink RX7 160 yX7_holds, Cond.instanceMethod yX7_holds, Cond.selects RX7 yX7_holds yX7_holds, Cond.code yX7_holds cX7_holds 2 (some .boolean), Cond.fieldLink RX7 7 "RingGroupModel" "up" "[Z", Cond.fieldLink RX7 81 "RingGroupModel" "lost" "[Z", Cond.fieldLink RX7 84 "RingGroupModel" "tokenAt" "[I", Cond.methodLink RX7 163 yX7_full, Cond.instanceMethod yX7_full, Cond.selects RX7 yX7_full yX7_full, Cond.code yX7_full cX7_full 3 (some .int)]
def wsX7_pass_r2 : List Cond := [Cond.methodLink RX7 129 yX7_hasPlace, Cond.instanceMethod yX7_hasPlace, Cond.selects RX7 yX7_hasPlace yX7_hasPlace, Cond.code yX7_hasPlace cX7_hasPlace 3 (some .boolean), Cond.fieldLink RX7 102 "RingGroupModel" "has" "[I", Cond.methodLink RX7 121 yX7_place, Cond.static yX7_place, Cond.code yX7_place cX7_place 2 (some .int), Cond.methodLink RX7 125 yX7_isIn, Cond.static yX7_isIn, Cond.code yX7_isIn cX7_isIn 2 (some .boolean), Cond.methodLink RX7 156 yX7_comes, Cond.instanceMethod yX7_comes, Cond.selects RX7 yX7_comes yX7_comes, Cond.code yX7_comes cX7_comes 5 none, Cond.fieldLink RX7 13 "RingGroupModel" "group" "[I", Cond.methodLink RX7 152 yX7_gets, Cond.instanceMethod yX7_gets, Cond.selects RX7 yX7_gets yX7_gets, Cond.code yX7_gets cX7_gets 4 none, Cond.fieldLink RX7 99 "RingGroupModel" "safes" "[Z", Cond.fieldLink RX7 33 "RingGroupModel" "voteNumber" "[I", Cond.fieldLink RX7 75 "RingGroupModel" "numbers" "[I", Cond.fieldLink RX7 60 "RingGroupModel" "kept" "[Z"]
def wsX7_pass_r3 : List Cond := [Cond.fieldLink RX7 63 "RingGroupModel" "keptKeys" "[I", Cond.fieldLink RX7 93 "RingGroupModel" "keys" "[I", Cond.fieldLink RX7 66 "RingGroupModel" "keptValues" "[J", Cond.fieldLink RX7 96 "RingGroupModel" "values" "[J", Cond.methodLink RX7 167 yX7_give, Cond.instanceMethod yX7_give, Cond.selects RX7 yX7_give yX7_give, Cond.code yX7_give cX7_give 7 none, Cond.fieldLink RX7 115 "RingGroupModel" "window" "I", Cond.fieldLink RX7 39 "RingGroupModel" "pending" "[I", Cond.fieldLink RX7 90 "RingGroupModel" "senders" "[I", Cond.fieldLink RX7 42 "RingGroupModel" "pendingKeys" "[I", Cond.fieldLink RX7 45 "RingGroupModel" "pendingValues" "[J", Cond.fieldLink RX7 48 "RingGroupModel" "pendingSafe" "[Z", Cond.methodLink RX7 170 yX7_deliverAll, Cond.instanceMethod yX7_deliverAll, Cond.selects RX7 yX7_deliverAll yX7_deliverAll, Cond.code yX7_deliverAll cX7_deliverAll 4 (some .int), Cond.fieldLink RX7 51 "RingGroupModel" "delivered" "[I", Cond.methodLink RX7 148 yX7_deliver, Cond.instanceMethod yX7_deliver, Cond.selects RX7 yX7_deliver yX7_deliver, Cond.code yX7_deliver cX7_deliver 5 none, Cond.methodLink RX7 140 yX7_tell]
def wsX7_pass_r4 : List Cond := [Cond.instanceMethod yX7_tell, Cond.selects RX7 yX7_tell yX7_tell, Cond.code yX7_tell cX7_tell 15 none, Cond.fieldLink RX7 57 "RingGroupModel" "logged" "[I", Cond.fieldLink RX7 72 "RingGroupModel" "log" "[J", Cond.methodLink RX7 144 yX7_apply, Cond.instanceMethod yX7_apply, Cond.selects RX7 yX7_apply yX7_apply, Cond.code yX7_apply cX7_apply 6 none, Cond.fieldLink RX7 23 "RingGroupModel" "tables" "[J", Cond.fieldLink RX7 27 "RingGroupModel" "applied" "[I", Cond.fieldLink RX7 30 "RingGroupModel" "marks" "[J", Cond.constantLong RX7 136 (31), Cond.constantLong RX7 138 (17), Cond.fieldLink RX7 69 "RingGroupModel" "done" "[I", Cond.methodLink RX7 173 yX7_goesOn, Cond.instanceMethod yX7_goesOn, Cond.selects RX7 yX7_goesOn yX7_goesOn, Cond.code yX7_goesOn cX7_goesOn 5 none]
def wsX7_pass : List Cond := .code yX7_pass cX7_pass 7 (some .int) :: ((wsX7_pass_r1 ++ (wsX7_pass_r2 ++ (wsX7_pass_r3 ++ wsX7_pass_r4))) ++ wsX70)
def wsX7_together : List Cond := .code yX7_together cX7_together 4 (some .int) :: ([.fieldLink RX7 111 "RingGroupModel" "nodes" "I", .fieldLink RX7 7 "RingGroupModel" "up" "[Z", .fieldLink RX7 13 "RingGroupModel" "group" "[I"] ++ wsX70)
def wsX7_count : List Cond := .code yX7_count cX7_count 3 (some .int) :: ([])
def wsX7_least : List Cond := .code yX7_least cX7_least 2 (some .int) :: ([.methodLink RX7 125 yX7_isIn, .static yX7_isIn, .initialized RX7, .code yX7_isIn cX7_isIn 2 (some .boolean)])
def wsX7_isWhole : List Cond := .code yX7_isWhole cX7_isWhole 5 (some .boolean) :: ([.fieldLink RX7 17 "RingGroupModel" "ringOf" "[I", .fieldLink RX7 78 "RingGroupModel" "members" "[I", .fieldLink RX7 81 "RingGroupModel" "lost" "[Z", .fieldLink RX7 111 "RingGroupModel" "nodes" "I", .methodLink RX7 177 yX7_least, .static yX7_least, .initialized RX7, .code yX7_least cX7_least 2 (some .int), .methodLink RX7 125 yX7_isIn, .static yX7_isIn, .code yX7_isIn cX7_isIn 2 (some .boolean)] ++ wsX70)
def wsX7_voter : List Cond := .code yX7_voter cX7_voter 4 (some .int) :: ([.fieldLink RX7 111 "RingGroupModel" "nodes" "I", .fieldLink RX7 33 "RingGroupModel" "voteNumber" "[I", .methodLink RX7 177 yX7_least, .static yX7_least, .initialized RX7, .code yX7_least cX7_least 2 (some .int), .methodLink RX7 125 yX7_isIn, .static yX7_isIn, .code yX7_isIn cX7_isIn 2 (some .boolean)] ++ wsX70)
def wsX7_isPrimary : List Cond := .code yX7_isPrimary cX7_isPrimary 4 (some .boolean) :: ([.fieldLink RX7 36 "RingGroupModel" "voteMembers" "[I", .methodLink RX7 180 yX7_voter, .instanceMethod yX7_voter, .selects RX7 yX7_voter yX7_voter, .initialized RX7, .code yX7_voter cX7_voter 4 (some .int), .fieldLink RX7 111 "RingGroupModel" "nodes" "I", .fieldLink RX7 33 "RingGroupModel" "voteNumber" "[I", .methodLink RX7 177 yX7_least, .static yX7_least, .code yX7_least cX7_least 2 (some .int), .methodLink RX7 125 yX7_isIn, .static yX7_isIn, .code yX7_isIn cX7_isIn 2 (some .boolean), .methodLink RX7 183 yX7_count, .static yX7_count, .code yX7_count cX7_count 3 (some .int)] ++ wsX70)
def wsX7_of : List Cond := .code yX7_of cX7_of 5 (some .int) :: ([.fieldLink RX7 111 "RingGroupModel" "nodes" "I", .fieldLink RX7 17 "RingGroupModel" "ringOf" "[I", .methodLink RX7 125 yX7_isIn, .static yX7_isIn, .initialized RX7, .code yX7_isIn cX7_isIn 2 (some .boolean)] ++ wsX70)
def wsX7_isBefore : List Cond := .code yX7_isBefore cX7_isBefore 3 (some .boolean) :: ([.fieldLink RX7 75 "RingGroupModel" "numbers" "[I", .fieldLink RX7 78 "RingGroupModel" "members" "[I", .methodLink RX7 177 yX7_least, .static yX7_least, .initialized RX7, .code yX7_least cX7_least 2 (some .int), .methodLink RX7 125 yX7_isIn, .static yX7_isIn, .code yX7_isIn cX7_isIn 2 (some .boolean)] ++ wsX70)
def wsX7_nextRing : List Cond := .code yX7_nextRing cX7_nextRing 5 (some .int) :: ([.methodLink RX7 186 yX7_of, .instanceMethod yX7_of, .selects RX7 yX7_of yX7_of, .initialized RX7, .code yX7_of cX7_of 5 (some .int), .fieldLink RX7 111 "RingGroupModel" "nodes" "I", .fieldLink RX7 17 "RingGroupModel" "ringOf" "[I", .methodLink RX7 125 yX7_isIn, .static yX7_isIn, .code yX7_isIn cX7_isIn 2 (some .boolean), .methodLink RX7 189 yX7_isBefore, .instanceMethod yX7_isBefore, .selects RX7 yX7_isBefore yX7_isBefore, .code yX7_isBefore cX7_isBefore 3 (some .boolean), .fieldLink RX7 75 "RingGroupModel" "numbers" "[I", .fieldLink RX7 78 "RingGroupModel" "members" "[I", .methodLink RX7 177 yX7_least, .static yX7_least, .code yX7_least cX7_least 2 (some .int)] ++ wsX70)
def wsX7_end_r1 : List Cond := [Cond.fieldLink RX7 111 "RingGroupModel" "nodes" "I", Cond.fieldLink RX7 54 "RingGroupModel" "safeTo" "[I", Cond.fieldLink RX7 87 "RingGroupModel" "places" "[I", Cond.fieldLink RX7 102 "RingGroupModel" "has" "[I", Cond.constantLong RX7 192 (2), Cond.fieldLink RX7 75 "RingGroupModel" "numbers" "[I", Cond.fieldLink RX7 51 "RingGroupModel" "delivered" "[I", Cond.fieldLink RX7 90 "RingGroupModel" "senders" "[I", Cond.methodLink RX7 125 yX7_isIn, Cond.static yX7_isIn, Cond.initialized RX7, Cond.code yX7_isIn cX7_isIn 2 (some .boolean), Cond.methodLink RX7 121 yX7_place, Cond.static yX7_place, Cond.code yX7_place cX7_place 2 (some .int), Cond.methodLink RX7 152 yX7_gets, Cond.instanceMethod yX7_gets, Cond.selects RX7 yX7_gets yX7_gets, Cond.code yX7_gets cX7_gets 4 none, Cond.fieldLink RX7 17 "RingGroupModel" "ringOf" "[I", Cond.fieldLink RX7 99 "RingGroupModel" "safes" "[Z", Cond.fieldLink RX7 33 "RingGroupModel" "voteNumber" "[I", Cond.fieldLink RX7 60 "RingGroupModel" "kept" "[Z", Cond.fieldLink RX7 63 "RingGroupModel" "keptKeys" "[I"]
def wsX7_end_r2 : List Cond := [Cond.fieldLink RX7 93 "RingGroupModel" "keys" "[I", Cond.fieldLink RX7 66 "RingGroupModel" "keptValues" "[J", Cond.fieldLink RX7 96 "RingGroupModel" "values" "[J", Cond.methodLink RX7 170 yX7_deliverAll, Cond.instanceMethod yX7_deliverAll, Cond.selects RX7 yX7_deliverAll yX7_deliverAll, Cond.code yX7_deliverAll cX7_deliverAll 4 (some .int), Cond.methodLink RX7 129 yX7_hasPlace, Cond.instanceMethod yX7_hasPlace, Cond.selects RX7 yX7_hasPlace yX7_hasPlace, Cond.code yX7_hasPlace cX7_hasPlace 3 (some .boolean), Cond.methodLink RX7 148 yX7_deliver, Cond.instanceMethod yX7_deliver, Cond.selects RX7 yX7_deliver yX7_deliver, Cond.code yX7_deliver cX7_deliver 5 none, Cond.methodLink RX7 140 yX7_tell, Cond.instanceMethod yX7_tell, Cond.selects RX7 yX7_tell yX7_tell, Cond.code yX7_tell cX7_tell 15 none, Cond.fieldLink RX7 57 "RingGroupModel" "logged" "[I", Cond.fieldLink RX7 72 "RingGroupModel" "log" "[J", Cond.methodLink RX7 144 yX7_apply, Cond.instanceMethod yX7_apply, Cond.selects RX7 yX7_apply yX7_apply]
def wsX7_end_r3 : List Cond := [Cond.code yX7_apply cX7_apply 6 none, Cond.fieldLink RX7 23 "RingGroupModel" "tables" "[J", Cond.fieldLink RX7 27 "RingGroupModel" "applied" "[I", Cond.fieldLink RX7 30 "RingGroupModel" "marks" "[J", Cond.constantLong RX7 136 (31), Cond.constantLong RX7 138 (17), Cond.fieldLink RX7 69 "RingGroupModel" "done" "[I"]
def wsX7_end : List Cond := .code yX7_end cX7_end 9 none :: ((wsX7_end_r1 ++ (wsX7_end_r2 ++ wsX7_end_r3)) ++ wsX70)
def wsX7_share_r1 : List Cond := [Cond.fieldLink RX7 33 "RingGroupModel" "voteNumber" "[I", Cond.fieldLink RX7 111 "RingGroupModel" "nodes" "I", Cond.fieldLink RX7 27 "RingGroupModel" "applied" "[I", Cond.fieldLink RX7 69 "RingGroupModel" "done" "[I", Cond.fieldLink RX7 60 "RingGroupModel" "kept" "[Z", Cond.fieldLink RX7 63 "RingGroupModel" "keptKeys" "[I", Cond.fieldLink RX7 66 "RingGroupModel" "keptValues" "[J", Cond.fieldLink RX7 30 "RingGroupModel" "marks" "[J", Cond.fieldLink RX7 23 "RingGroupModel" "tables" "[J", Cond.methodLink RX7 180 yX7_voter, Cond.instanceMethod yX7_voter, Cond.selects RX7 yX7_voter yX7_voter, Cond.initialized RX7, Cond.code yX7_voter cX7_voter 4 (some .int), Cond.methodLink RX7 177 yX7_least, Cond.static yX7_least, Cond.code yX7_least cX7_least 2 (some .int), Cond.methodLink RX7 125 yX7_isIn, Cond.static yX7_isIn, Cond.code yX7_isIn cX7_isIn 2 (some .boolean), Cond.methodLink RX7 144 yX7_apply, Cond.instanceMethod yX7_apply, Cond.selects RX7 yX7_apply yX7_apply, Cond.code yX7_apply cX7_apply 6 none]
def wsX7_share_r2 : List Cond := [Cond.constantLong RX7 136 (31), Cond.constantLong RX7 138 (17)]
def wsX7_share : List Cond := .code yX7_share cX7_share 7 none :: ((wsX7_share_r1 ++ wsX7_share_r2) ++ wsX70)
def wsX7_forget : List Cond := .code yX7_forget cX7_forget 3 none :: ([.fieldLink RX7 69 "RingGroupModel" "done" "[I", .fieldLink RX7 60 "RingGroupModel" "kept" "[Z"] ++ wsX70)
def wsX7_freeSlot : List Cond := .code yX7_freeSlot cX7_freeSlot 2 (some .int) :: ([.fieldLink RX7 111 "RingGroupModel" "nodes" "I", .methodLink RX7 186 yX7_of, .instanceMethod yX7_of, .selects RX7 yX7_of yX7_of, .initialized RX7, .code yX7_of cX7_of 5 (some .int), .fieldLink RX7 17 "RingGroupModel" "ringOf" "[I", .methodLink RX7 125 yX7_isIn, .static yX7_isIn, .code yX7_isIn cX7_isIn 2 (some .boolean)] ++ wsX70)
def wsX7_form_r1 : List Cond := [Cond.fieldLink RX7 111 "RingGroupModel" "nodes" "I", Cond.fieldLink RX7 20 "RingGroupModel" "highest" "[I", Cond.fieldLink RX7 75 "RingGroupModel" "numbers" "[I", Cond.fieldLink RX7 78 "RingGroupModel" "members" "[I", Cond.fieldLink RX7 81 "RingGroupModel" "lost" "[Z", Cond.fieldLink RX7 84 "RingGroupModel" "tokenAt" "[I", Cond.fieldLink RX7 87 "RingGroupModel" "places" "[I", Cond.fieldLink RX7 108 "RingGroupModel" "tokenFull" "[I", Cond.fieldLink RX7 17 "RingGroupModel" "ringOf" "[I", Cond.fieldLink RX7 51 "RingGroupModel" "delivered" "[I", Cond.fieldLink RX7 54 "RingGroupModel" "safeTo" "[I", Cond.fieldLink RX7 33 "RingGroupModel" "voteNumber" "[I", Cond.fieldLink RX7 36 "RingGroupModel" "voteMembers" "[I", Cond.constantLong RX7 201 (3), Cond.methodLink RX7 125 yX7_isIn, Cond.static yX7_isIn, Cond.initialized RX7, Cond.code yX7_isIn cX7_isIn 2 (some .boolean), Cond.methodLink RX7 194 yX7_freeSlot, Cond.instanceMethod yX7_freeSlot, Cond.selects RX7 yX7_freeSlot yX7_freeSlot, Cond.code yX7_freeSlot cX7_freeSlot 2 (some .int), Cond.methodLink RX7 186 yX7_of, Cond.instanceMethod yX7_of]
def wsX7_form_r2 : List Cond := [Cond.selects RX7 yX7_of yX7_of, Cond.code yX7_of cX7_of 5 (some .int), Cond.methodLink RX7 177 yX7_least, Cond.static yX7_least, Cond.code yX7_least cX7_least 2 (some .int), Cond.methodLink RX7 198 yX7_forget, Cond.instanceMethod yX7_forget, Cond.selects RX7 yX7_forget yX7_forget, Cond.code yX7_forget cX7_forget 3 none, Cond.fieldLink RX7 69 "RingGroupModel" "done" "[I", Cond.fieldLink RX7 60 "RingGroupModel" "kept" "[Z", Cond.methodLink RX7 140 yX7_tell, Cond.instanceMethod yX7_tell, Cond.selects RX7 yX7_tell yX7_tell, Cond.code yX7_tell cX7_tell 15 none, Cond.fieldLink RX7 57 "RingGroupModel" "logged" "[I", Cond.fieldLink RX7 72 "RingGroupModel" "log" "[J"]
def wsX7_form : List Cond := .code yX7_form cX7_form 6 (some .int) :: ((wsX7_form_r1 ++ wsX7_form_r2) ++ wsX70)
def wsX7_gather_r1 : List Cond := [Cond.fieldLink RX7 7 "RingGroupModel" "up" "[Z", Cond.fieldLink RX7 118 "RingGroupModel" "thrown" "I", Cond.methodLink RX7 132 yX7_noNode, Cond.instanceMethod yX7_noNode, Cond.selects RX7 yX7_noNode yX7_noNode, Cond.initialized RX7, Cond.code yX7_noNode cX7_noNode 2 (some .boolean), Cond.fieldLink RX7 111 "RingGroupModel" "nodes" "I", Cond.methodLink RX7 203 yX7_together, Cond.instanceMethod yX7_together, Cond.selects RX7 yX7_together yX7_together, Cond.code yX7_together cX7_together 4 (some .int), Cond.fieldLink RX7 13 "RingGroupModel" "group" "[I", Cond.methodLink RX7 206 yX7_isWhole, Cond.instanceMethod yX7_isWhole, Cond.selects RX7 yX7_isWhole yX7_isWhole, Cond.code yX7_isWhole cX7_isWhole 5 (some .boolean), Cond.fieldLink RX7 17 "RingGroupModel" "ringOf" "[I", Cond.fieldLink RX7 78 "RingGroupModel" "members" "[I", Cond.fieldLink RX7 81 "RingGroupModel" "lost" "[Z", Cond.methodLink RX7 177 yX7_least, Cond.static yX7_least, Cond.code yX7_least cX7_least 2 (some .int), Cond.methodLink RX7 125 yX7_isIn]
def wsX7_gather_r2 : List Cond := [Cond.static yX7_isIn, Cond.code yX7_isIn cX7_isIn 2 (some .boolean), Cond.methodLink RX7 209 yX7_isPrimary, Cond.instanceMethod yX7_isPrimary, Cond.selects RX7 yX7_isPrimary yX7_isPrimary, Cond.code yX7_isPrimary cX7_isPrimary 4 (some .boolean), Cond.fieldLink RX7 36 "RingGroupModel" "voteMembers" "[I", Cond.methodLink RX7 180 yX7_voter, Cond.instanceMethod yX7_voter, Cond.selects RX7 yX7_voter yX7_voter, Cond.code yX7_voter cX7_voter 4 (some .int), Cond.fieldLink RX7 33 "RingGroupModel" "voteNumber" "[I", Cond.methodLink RX7 183 yX7_count, Cond.static yX7_count, Cond.code yX7_count cX7_count 3 (some .int), Cond.methodLink RX7 212 yX7_nextRing, Cond.instanceMethod yX7_nextRing, Cond.selects RX7 yX7_nextRing yX7_nextRing, Cond.code yX7_nextRing cX7_nextRing 5 (some .int), Cond.methodLink RX7 186 yX7_of, Cond.instanceMethod yX7_of, Cond.selects RX7 yX7_of yX7_of, Cond.code yX7_of cX7_of 5 (some .int), Cond.methodLink RX7 189 yX7_isBefore]
def wsX7_gather_r3 : List Cond := [Cond.instanceMethod yX7_isBefore, Cond.selects RX7 yX7_isBefore yX7_isBefore, Cond.code yX7_isBefore cX7_isBefore 3 (some .boolean), Cond.fieldLink RX7 75 "RingGroupModel" "numbers" "[I", Cond.methodLink RX7 215 yX7_end, Cond.instanceMethod yX7_end, Cond.selects RX7 yX7_end yX7_end, Cond.code yX7_end cX7_end 9 none, Cond.fieldLink RX7 54 "RingGroupModel" "safeTo" "[I", Cond.fieldLink RX7 87 "RingGroupModel" "places" "[I", Cond.fieldLink RX7 102 "RingGroupModel" "has" "[I", Cond.constantLong RX7 192 (2), Cond.fieldLink RX7 51 "RingGroupModel" "delivered" "[I", Cond.fieldLink RX7 90 "RingGroupModel" "senders" "[I", Cond.methodLink RX7 121 yX7_place, Cond.static yX7_place, Cond.code yX7_place cX7_place 2 (some .int), Cond.methodLink RX7 152 yX7_gets, Cond.instanceMethod yX7_gets, Cond.selects RX7 yX7_gets yX7_gets, Cond.code yX7_gets cX7_gets 4 none, Cond.fieldLink RX7 99 "RingGroupModel" "safes" "[Z", Cond.fieldLink RX7 60 "RingGroupModel" "kept" "[Z", Cond.fieldLink RX7 63 "RingGroupModel" "keptKeys" "[I"]
def wsX7_gather_r4 : List Cond := [Cond.fieldLink RX7 93 "RingGroupModel" "keys" "[I", Cond.fieldLink RX7 66 "RingGroupModel" "keptValues" "[J", Cond.fieldLink RX7 96 "RingGroupModel" "values" "[J", Cond.methodLink RX7 170 yX7_deliverAll, Cond.instanceMethod yX7_deliverAll, Cond.selects RX7 yX7_deliverAll yX7_deliverAll, Cond.code yX7_deliverAll cX7_deliverAll 4 (some .int), Cond.methodLink RX7 129 yX7_hasPlace, Cond.instanceMethod yX7_hasPlace, Cond.selects RX7 yX7_hasPlace yX7_hasPlace, Cond.code yX7_hasPlace cX7_hasPlace 3 (some .boolean), Cond.methodLink RX7 148 yX7_deliver, Cond.instanceMethod yX7_deliver, Cond.selects RX7 yX7_deliver yX7_deliver, Cond.code yX7_deliver cX7_deliver 5 none, Cond.methodLink RX7 140 yX7_tell, Cond.instanceMethod yX7_tell, Cond.selects RX7 yX7_tell yX7_tell, Cond.code yX7_tell cX7_tell 15 none, Cond.fieldLink RX7 57 "RingGroupModel" "logged" "[I", Cond.fieldLink RX7 72 "RingGroupModel" "log" "[J", Cond.methodLink RX7 144 yX7_apply, Cond.instanceMethod yX7_apply, Cond.selects RX7 yX7_apply yX7_apply]
def wsX7_gather_r5 : List Cond := [Cond.code yX7_apply cX7_apply 6 none, Cond.fieldLink RX7 23 "RingGroupModel" "tables" "[J", Cond.fieldLink RX7 27 "RingGroupModel" "applied" "[I", Cond.fieldLink RX7 30 "RingGroupModel" "marks" "[J", Cond.constantLong RX7 136 (31), Cond.constantLong RX7 138 (17), Cond.fieldLink RX7 69 "RingGroupModel" "done" "[I", Cond.methodLink RX7 218 yX7_share, Cond.instanceMethod yX7_share, Cond.selects RX7 yX7_share yX7_share, Cond.code yX7_share cX7_share 7 none, Cond.methodLink RX7 221 yX7_form, Cond.instanceMethod yX7_form, Cond.selects RX7 yX7_form yX7_form, Cond.code yX7_form cX7_form 6 (some .int), Cond.fieldLink RX7 20 "RingGroupModel" "highest" "[I", Cond.fieldLink RX7 84 "RingGroupModel" "tokenAt" "[I", Cond.fieldLink RX7 108 "RingGroupModel" "tokenFull" "[I", Cond.constantLong RX7 201 (3), Cond.methodLink RX7 194 yX7_freeSlot, Cond.instanceMethod yX7_freeSlot, Cond.selects RX7 yX7_freeSlot yX7_freeSlot, Cond.code yX7_freeSlot cX7_freeSlot 2 (some .int), Cond.methodLink RX7 198 yX7_forget]
def wsX7_gather_r6 : List Cond := [Cond.instanceMethod yX7_forget, Cond.selects RX7 yX7_forget yX7_forget, Cond.code yX7_forget cX7_forget 3 none]
def wsX7_gather : List Cond := .code yX7_gather cX7_gather 5 (some .int) :: ((wsX7_gather_r1 ++ (wsX7_gather_r2 ++ (wsX7_gather_r3 ++ (wsX7_gather_r4 ++ (wsX7_gather_r5 ++ wsX7_gather_r6))))) ++ wsX70)
def wsX7_part : List Cond := .code yX7_part cX7_part 3 none :: ([.fieldLink RX7 118 "RingGroupModel" "thrown" "I", .fieldLink RX7 13 "RingGroupModel" "group" "[I", .methodLink RX7 132 yX7_noNode, .instanceMethod yX7_noNode, .selects RX7 yX7_noNode yX7_noNode, .initialized RX7, .code yX7_noNode cX7_noNode 2 (some .boolean), .fieldLink RX7 111 "RingGroupModel" "nodes" "I"] ++ wsX70)
def wsX7_crash : List Cond := .code yX7_crash cX7_crash 2 none :: ([.fieldLink RX7 7 "RingGroupModel" "up" "[Z", .fieldLink RX7 118 "RingGroupModel" "thrown" "I", .fieldLink RX7 81 "RingGroupModel" "lost" "[Z", .fieldLink RX7 17 "RingGroupModel" "ringOf" "[I", .fieldLink RX7 39 "RingGroupModel" "pending" "[I", .methodLink RX7 132 yX7_noNode, .instanceMethod yX7_noNode, .selects RX7 yX7_noNode yX7_noNode, .initialized RX7, .code yX7_noNode cX7_noNode 2 (some .boolean), .fieldLink RX7 111 "RingGroupModel" "nodes" "I", .methodLink RX7 160 yX7_holds, .instanceMethod yX7_holds, .selects RX7 yX7_holds yX7_holds, .code yX7_holds cX7_holds 2 (some .boolean), .fieldLink RX7 84 "RingGroupModel" "tokenAt" "[I"] ++ wsX70)
def wsX7_restart : List Cond := .code yX7_restart cX7_restart 2 none :: ([.fieldLink RX7 7 "RingGroupModel" "up" "[Z", .fieldLink RX7 118 "RingGroupModel" "thrown" "I", .methodLink RX7 132 yX7_noNode, .instanceMethod yX7_noNode, .selects RX7 yX7_noNode yX7_noNode, .initialized RX7, .code yX7_noNode cX7_noNode 2 (some .boolean), .fieldLink RX7 111 "RingGroupModel" "nodes" "I"] ++ wsX70)
def wsX7_about_r1 : List Cond := [Cond.fieldLink RX7 118 "RingGroupModel" "thrown" "I", Cond.fieldLink RX7 17 "RingGroupModel" "ringOf" "[I", Cond.fieldLink RX7 7 "RingGroupModel" "up" "[Z", Cond.fieldLink RX7 13 "RingGroupModel" "group" "[I", Cond.fieldLink RX7 75 "RingGroupModel" "numbers" "[I", Cond.fieldLink RX7 78 "RingGroupModel" "members" "[I", Cond.fieldLink RX7 39 "RingGroupModel" "pending" "[I", Cond.fieldLink RX7 51 "RingGroupModel" "delivered" "[I", Cond.fieldLink RX7 54 "RingGroupModel" "safeTo" "[I", Cond.fieldLink RX7 27 "RingGroupModel" "applied" "[I", Cond.fieldLink RX7 33 "RingGroupModel" "voteNumber" "[I", Cond.fieldLink RX7 36 "RingGroupModel" "voteMembers" "[I", Cond.fieldLink RX7 20 "RingGroupModel" "highest" "[I", Cond.fieldLink RX7 57 "RingGroupModel" "logged" "[I", Cond.methodLink RX7 132 yX7_noNode, Cond.instanceMethod yX7_noNode, Cond.selects RX7 yX7_noNode yX7_noNode, Cond.initialized RX7, Cond.code yX7_noNode cX7_noNode 2 (some .boolean), Cond.fieldLink RX7 111 "RingGroupModel" "nodes" "I", Cond.methodLink RX7 163 yX7_full, Cond.instanceMethod yX7_full, Cond.selects RX7 yX7_full yX7_full, Cond.code yX7_full cX7_full 3 (some .int)]
def wsX7_about_r2 : List Cond := [Cond.fieldLink RX7 87 "RingGroupModel" "places" "[I", Cond.methodLink RX7 129 yX7_hasPlace, Cond.instanceMethod yX7_hasPlace, Cond.selects RX7 yX7_hasPlace yX7_hasPlace, Cond.code yX7_hasPlace cX7_hasPlace 3 (some .boolean), Cond.fieldLink RX7 102 "RingGroupModel" "has" "[I", Cond.methodLink RX7 121 yX7_place, Cond.static yX7_place, Cond.code yX7_place cX7_place 2 (some .int), Cond.methodLink RX7 125 yX7_isIn, Cond.static yX7_isIn, Cond.code yX7_isIn cX7_isIn 2 (some .boolean), Cond.methodLink RX7 160 yX7_holds, Cond.instanceMethod yX7_holds, Cond.selects RX7 yX7_holds yX7_holds, Cond.code yX7_holds cX7_holds 2 (some .boolean), Cond.fieldLink RX7 81 "RingGroupModel" "lost" "[Z", Cond.fieldLink RX7 84 "RingGroupModel" "tokenAt" "[I"]
def wsX7_about : List Cond := .code yX7_about cX7_about 5 (some .int) :: ((wsX7_about_r1 ++ wsX7_about_r2) ++ wsX70)
def wsX7_table : List Cond := .code yX7_table cX7_table 3 (some .long) :: ([.fieldLink RX7 118 "RingGroupModel" "thrown" "I", .fieldLink RX7 23 "RingGroupModel" "tables" "[J", .methodLink RX7 132 yX7_noNode, .instanceMethod yX7_noNode, .selects RX7 yX7_noNode yX7_noNode, .initialized RX7, .code yX7_noNode cX7_noNode 2 (some .boolean), .fieldLink RX7 111 "RingGroupModel" "nodes" "I"] ++ wsX70)
def wsX7_mark : List Cond := .code yX7_mark cX7_mark 2 (some .long) :: ([.fieldLink RX7 118 "RingGroupModel" "thrown" "I", .fieldLink RX7 30 "RingGroupModel" "marks" "[J", .methodLink RX7 132 yX7_noNode, .instanceMethod yX7_noNode, .selects RX7 yX7_noNode yX7_noNode, .initialized RX7, .code yX7_noNode cX7_noNode 2 (some .boolean), .fieldLink RX7 111 "RingGroupModel" "nodes" "I"] ++ wsX70)
def wsX7_entry : List Cond := .code yX7_entry cX7_entry 5 (some .long) :: ([.fieldLink RX7 57 "RingGroupModel" "logged" "[I", .fieldLink RX7 118 "RingGroupModel" "thrown" "I", .fieldLink RX7 72 "RingGroupModel" "log" "[J", .methodLink RX7 132 yX7_noNode, .instanceMethod yX7_noNode, .selects RX7 yX7_noNode yX7_noNode, .initialized RX7, .code yX7_noNode cX7_noNode 2 (some .boolean), .fieldLink RX7 111 "RingGroupModel" "nodes" "I"] ++ wsX70)
def wsX7_primary : List Cond := .code yX7_primary cX7_primary 2 (some .boolean) :: ([.fieldLink RX7 118 "RingGroupModel" "thrown" "I", .fieldLink RX7 17 "RingGroupModel" "ringOf" "[I", .fieldLink RX7 33 "RingGroupModel" "voteNumber" "[I", .fieldLink RX7 75 "RingGroupModel" "numbers" "[I", .methodLink RX7 132 yX7_noNode, .instanceMethod yX7_noNode, .selects RX7 yX7_noNode yX7_noNode, .initialized RX7, .code yX7_noNode cX7_noNode 2 (some .boolean), .fieldLink RX7 111 "RingGroupModel" "nodes" "I"] ++ wsX70)
def wsJ9_max_7cf53 : List Cond := .code yJ9_max_7cf53 cJ9_max_7cf53 2 (some .int) :: ([])
def wsJ9_min_7cf53 : List Cond := .code yJ9_min_7cf53 cJ9_min_7cf53 2 (some .int) :: ([])
def wsL_cell : List Cond := .code yL_cell cL_cell 2 (some .int) :: ([])
def wsL_send_r1 : List Cond := [Cond.classLink RL 13 "java/lang/IndexOutOfBoundsException", Cond.classLink RL 15 "java/lang/IllegalStateException", Cond.methodLink RL 7 yX6_send, Cond.instanceMethod yX6_send, Cond.selects RX6 yX6_send yX6_send, Cond.initialized RX6, Cond.code yX6_send cX6_send 7 (some .int), Cond.classLink RX6 64 "java/lang/IllegalStateException", Cond.initialized "java/lang/IllegalStateException", Cond.fieldLink RX6 50 "RingGroup$Node" "up" "Z", Cond.fieldLink RX6 54 "RingGroup$Node" "pending" "LRingGroup$Pending;", Cond.classLink RX6 71 RX1, Cond.instantiable RX1 4, Cond.initialized RX1, Cond.methodLink RX6 42 yX6_nodeAt, Cond.instanceMethod yX6_nodeAt, Cond.selects RX6 yX6_nodeAt yX6_nodeAt, Cond.code yX6_nodeAt cX6_nodeAt 2 (some (.object "RingGroup$Node")), Cond.classLink RX6 219 "java/lang/IndexOutOfBoundsException", Cond.initialized "java/lang/IndexOutOfBoundsException", Cond.fieldLink RX6 31 "RingGroup" "nodes" "[LRingGroup$Node;", Cond.methodLink RX6 46 yX6_checkKey, Cond.static yX6_checkKey, Cond.code yX6_checkKey cX6_checkKey 1 none]
def wsL_send_r2 : List Cond := [Cond.methodLink RX6 58 yX3_isFull, Cond.instanceMethod yX3_isFull, Cond.selects RX3 yX3_isFull yX3_isFull, Cond.initialized RX3, Cond.code yX3_isFull cX3_isFull 1 (some .boolean), Cond.fieldLink RX3 17 "RingGroup$Pending" "count" "I", Cond.methodLink RX6 73 yX1_init, Cond.instanceMethod yX1_init, Cond.code yX1_init cX1_init 6 none, Cond.methodLink RX1 1 objectInit, Cond.instanceMethod objectInit, Cond.code objectInit ⟨#[0xb1]⟩ 1 none, Cond.fieldLink RX1 7 "RingGroup$Message" "sender" "I", Cond.fieldLink RX1 13 "RingGroup$Message" "key" "I", Cond.fieldLink RX1 16 "RingGroup$Message" "value" "J", Cond.fieldLink RX1 20 "RingGroup$Message" "safe" "Z", Cond.methodLink RX6 76 yX3_put, Cond.instanceMethod yX3_put, Cond.selects RX3 yX3_put yX3_put, Cond.code yX3_put cX3_put 2 (some .int), Cond.fieldLink RX3 11 "RingGroup$Pending" "waiting" "[LRingGroup$Message;"]
def wsL_send : List Cond := .codeWith yL_send cL_send 8 (some .int) [(0, 14, 17, 13), (0, 14, 21, 15)] :: ((wsL_send_r1 ++ wsL_send_r2) ++ wsX20 ++ wsX10 ++ wsX60 ++ wsX30 ++ (vx_atS RX6 68 "java/lang/IllegalStateException" ["java/lang/RuntimeException", "java/lang/Exception"]).filter goodWord ++ (vx_atS RX6 223 "java/lang/IndexOutOfBoundsException" ["java/lang/RuntimeException", "java/lang/Exception"]).filter goodWord)
def wsL_pass_r1 : List Cond := [Cond.classLink RL 13 "java/lang/IndexOutOfBoundsException", Cond.classLink RL 15 "java/lang/IllegalStateException", Cond.methodLink RL 17 yX6_pass, Cond.instanceMethod yX6_pass, Cond.selects RX6 yX6_pass yX6_pass, Cond.initialized RX6, Cond.code yX6_pass cX6_pass 7 (some .int), Cond.classLink RX6 64 "java/lang/IllegalStateException", Cond.initialized "java/lang/IllegalStateException", Cond.fieldLink RX6 80 "RingGroup$Node" "ring" "LRingGroup$Ring;", Cond.fieldLink RX6 83 "RingGroup$Ring" "holder" "I", Cond.fieldLink RX6 99 "RingGroup$Ring" "full" "[I", Cond.fieldLink RX6 106 "RingGroup$Node" "safeTo" "I", Cond.methodLink RX6 15 Lib.Math.max.name, Cond.static Lib.Math.max.name, Cond.initialized "java/lang/Math", Cond.code Lib.Math.max.name Lib.Math.max.code 2 (some .int), Cond.methodLink RX6 42 yX6_nodeAt, Cond.instanceMethod yX6_nodeAt, Cond.selects RX6 yX6_nodeAt yX6_nodeAt, Cond.code yX6_nodeAt cX6_nodeAt 2 (some (.object "RingGroup$Node")), Cond.classLink RX6 219 "java/lang/IndexOutOfBoundsException", Cond.initialized "java/lang/IndexOutOfBoundsException", Cond.fieldLink RX6 31 "RingGroup" "nodes" "[LRingGroup$Node;"]
def wsL_pass_r2 : List Cond := [Cond.methodLink RX6 88 yX6_receiversOf, Cond.instanceMethod yX6_receiversOf, Cond.selects RX6 yX6_receiversOf yX6_receiversOf, Cond.code yX6_receiversOf cX6_receiversOf 7 (some .int), Cond.fieldLink RX6 244 "RingGroup$Node" "number" "I", Cond.methodLink RX6 240 yX6_reaches, Cond.static yX6_reaches, Cond.code yX6_reaches cX6_reaches 2 (some .boolean), Cond.fieldLink RX6 50 "RingGroup$Node" "up" "Z", Cond.fieldLink RX6 124 "RingGroup$Node" "group" "I", Cond.methodLink RX6 92 yX6_sendRequested, Cond.instanceMethod yX6_sendRequested, Cond.selects RX6 yX6_sendRequested yX6_sendRequested, Cond.code yX6_sendRequested cX6_sendRequested 5 none, Cond.fieldLink RX6 245 "RingGroup$Ring" "lastPlace" "I", Cond.fieldLink RX6 248 "RingGroup$Ring" "requested" "[Z", Cond.fieldLink RX6 252 "RingGroup$Node" "has" "[LRingGroup$Message;", Cond.methodLink RX6 256 yX6_giveTo, Cond.instanceMethod yX6_giveTo, Cond.selects RX6 yX6_giveTo yX6_giveTo, Cond.code yX6_giveTo cX6_giveTo 8 none, Cond.methodLink RX6 237 yX6_isIn, Cond.static yX6_isIn, Cond.code yX6_isIn cX6_isIn 2 (some .boolean)]
def wsL_pass_r3 : List Cond := [Cond.methodLink RX6 264 yX2_receive, Cond.instanceMethod yX2_receive, Cond.selects RX2 yX2_receive yX2_receive, Cond.initialized RX2, Cond.code yX2_receive cX2_receive 3 none, Cond.fieldLink RX2 34 "RingGroup$Node" "has" "[LRingGroup$Message;", Cond.fieldLink RX2 62 "RingGroup$Message" "safe" "Z", Cond.fieldLink RX2 21 "RingGroup$Node" "replica" "LRingGroup$Replica;", Cond.fieldLink RX2 69 "RingGroup$Replica" "kept" "[LRingGroup$Message;", Cond.methodLink RX2 65 yX2_isOfPrimary, Cond.instanceMethod yX2_isOfPrimary, Cond.selects RX2 yX2_isOfPrimary yX2_isOfPrimary, Cond.code yX2_isOfPrimary cX2_isOfPrimary 1 (some .boolean), Cond.fieldLink RX2 49 "RingGroup$Node" "ring" "LRingGroup$Ring;", Cond.fieldLink RX2 53 "RingGroup$Ring" "number" "I", Cond.fieldLink RX2 56 "RingGroup$Node" "voteNumber" "I", Cond.methodLink RX6 96 yX6_sendPending, Cond.instanceMethod yX6_sendPending, Cond.selects RX6 yX6_sendPending yX6_sendPending, Cond.code yX6_sendPending cX6_sendPending 6 none, Cond.fieldLink RX6 18 "RingGroup" "window" "I", Cond.fieldLink RX6 54 "RingGroup$Node" "pending" "LRingGroup$Pending;", Cond.methodLink RX6 260 yX3_takeFirst, Cond.instanceMethod yX3_takeFirst]
def wsL_pass_r4 : List Cond := [Cond.selects RX3 yX3_takeFirst yX3_takeFirst, Cond.initialized RX3, Cond.code yX3_takeFirst cX3_takeFirst 3 (some (.object "RingGroup$Message")), Cond.fieldLink RX3 17 "RingGroup$Pending" "count" "I", Cond.fieldLink RX3 11 "RingGroup$Pending" "waiting" "[LRingGroup$Message;", Cond.methodLink RX6 103 yX2_full, Cond.instanceMethod yX2_full, Cond.selects RX2 yX2_full yX2_full, Cond.code yX2_full cX2_full 2 (some .int), Cond.methodLink RX6 109 yX5_leastFull, Cond.instanceMethod yX5_leastFull, Cond.selects RX5 yX5_leastFull yX5_leastFull, Cond.initialized RX5, Cond.code yX5_leastFull cX5_leastFull 3 (some .int), Cond.fieldLink RX5 26 "RingGroup$Ring" "members" "I", Cond.fieldLink RX5 15 "RingGroup$Ring" "full" "[I", Cond.methodLink RX5 40 Lib.Math.min.name, Cond.static Lib.Math.min.name, Cond.code Lib.Math.min.name Lib.Math.min.code 2 (some .int), Cond.methodLink RX6 112 yX6_requestMissing, Cond.static yX6_requestMissing, Cond.code yX6_requestMissing cX6_requestMissing 3 none, Cond.methodLink RX6 116 yX2_deliverInTurn, Cond.instanceMethod yX2_deliverInTurn]
def wsL_pass_r5 : List Cond := [Cond.selects RX2 yX2_deliverInTurn yX2_deliverInTurn, Cond.code yX2_deliverInTurn cX2_deliverInTurn 4 (some .int), Cond.fieldLink RX2 72 "RingGroup$Node" "delivered" "I", Cond.fieldLink RX2 75 "RingGroup$Node" "safeTo" "I", Cond.methodLink RX2 78 yX2_tell, Cond.instanceMethod yX2_tell, Cond.selects RX2 yX2_tell yX2_tell, Cond.code yX2_tell cX2_tell 3 none, Cond.fieldLink RX2 28 "RingGroup$Node" "log" "LRingGroup$Log;", Cond.fieldLink RX2 85 "RingGroup$Message" "sender" "I", Cond.fieldLink RX2 92 "RingGroup$Message" "key" "I", Cond.fieldLink RX2 95 "RingGroup$Message" "value" "J", Cond.methodLink RX2 99 yX0_add, Cond.instanceMethod yX0_add, Cond.selects RX0 yX0_add yX0_add, Cond.initialized RX0, Cond.code yX0_add cX0_add 9 none, Cond.fieldLink RX0 15 "RingGroup$Log" "ever" "I", Cond.fieldLink RX0 9 "RingGroup$Log" "cells" "[J", Cond.methodLink RX0 19 yJ9_floorMod_7cf53, Cond.static yJ9_floorMod_7cf53, Cond.initialized RJ9, Cond.code yJ9_floorMod_7cf53 cJ9_floorMod_7cf53 3 (some .int), Cond.methodLink RX2 82 yX4_apply]
def wsL_pass_r6 : List Cond := [Cond.instanceMethod yX4_apply, Cond.selects RX4 yX4_apply yX4_apply, Cond.initialized RX4, Cond.code yX4_apply cX4_apply 3 none, Cond.fieldLink RX4 9 "RingGroup$Replica" "values" "[J", Cond.fieldLink RX4 21 "RingGroup$Message" "key" "I", Cond.fieldLink RX4 25 "RingGroup$Message" "value" "J", Cond.fieldLink RX4 29 "RingGroup$Replica" "applied" "I", Cond.fieldLink RX4 32 "RingGroup$Replica" "mark" "J", Cond.constantLong RX4 35 (31), Cond.fieldLink RX4 37 "RingGroup$Replica" "done" "I", Cond.methodLink RX6 119 yX6_handOn, Cond.instanceMethod yX6_handOn, Cond.selects RX6 yX6_handOn yX6_handOn, Cond.code yX6_handOn cX6_handOn 4 none, Cond.methodLink RX6 268 yX5_memberBehind, Cond.instanceMethod yX5_memberBehind, Cond.selects RX5 yX5_memberBehind yX5_memberBehind, Cond.code yX5_memberBehind cX5_memberBehind 4 (some .int)]
def wsL_pass : List Cond := .codeWith yL_pass cL_pass 5 (some .int) [(0, 10, 13, 13), (0, 10, 17, 15)] :: ((wsL_pass_r1 ++ (wsL_pass_r2 ++ (wsL_pass_r3 ++ (wsL_pass_r4 ++ (wsL_pass_r5 ++ wsL_pass_r6))))) ++ wsX20 ++ wsX50 ++ wsX60 ++ wsX10 ++ wsX40 ++ wsX30 ++ wsX00 ++ (vx_atS RX6 68 "java/lang/IllegalStateException" ["java/lang/RuntimeException", "java/lang/Exception"]).filter goodWord ++ (vx_atS RX6 223 "java/lang/IndexOutOfBoundsException" ["java/lang/RuntimeException", "java/lang/Exception"]).filter goodWord)
def wsL_gather_r1 : List Cond := [Cond.classLink RL 13 "java/lang/IndexOutOfBoundsException", Cond.classLink RL 15 "java/lang/IllegalStateException", Cond.methodLink RL 21 yX6_gather, Cond.instanceMethod yX6_gather, Cond.selects RX6 yX6_gather yX6_gather, Cond.initialized RX6, Cond.code yX6_gather cX6_gather 5 (some .int), Cond.classLink RX6 64 "java/lang/IllegalStateException", Cond.initialized "java/lang/IllegalStateException", Cond.fieldLink RX6 50 "RingGroup$Node" "up" "Z", Cond.fieldLink RX6 124 "RingGroup$Node" "group" "I", Cond.fieldLink RX6 80 "RingGroup$Node" "ring" "LRingGroup$Ring;", Cond.fieldLink RX6 139 "RingGroup$Node" "voteMembers" "I", Cond.methodLink RX6 42 yX6_nodeAt, Cond.instanceMethod yX6_nodeAt, Cond.selects RX6 yX6_nodeAt yX6_nodeAt, Cond.code yX6_nodeAt cX6_nodeAt 2 (some (.object "RingGroup$Node")), Cond.classLink RX6 219 "java/lang/IndexOutOfBoundsException", Cond.initialized "java/lang/IndexOutOfBoundsException", Cond.fieldLink RX6 31 "RingGroup" "nodes" "[LRingGroup$Node;", Cond.methodLink RX6 127 yX6_upInGroup, Cond.instanceMethod yX6_upInGroup, Cond.selects RX6 yX6_upInGroup yX6_upInGroup, Cond.code yX6_upInGroup cX6_upInGroup 7 (some .int)]
def wsL_gather_r2 : List Cond := [Cond.fieldLink RX6 244 "RingGroup$Node" "number" "I", Cond.methodLink RX6 131 yX6_isWhole, Cond.instanceMethod yX6_isWhole, Cond.selects RX6 yX6_isWhole yX6_isWhole, Cond.code yX6_isWhole cX6_isWhole 3 (some .boolean), Cond.fieldLink RX6 173 "RingGroup$Ring" "members" "I", Cond.fieldLink RX6 83 "RingGroup$Ring" "holder" "I", Cond.methodLink RX6 271 yX6_ofRing, Cond.instanceMethod yX6_ofRing, Cond.selects RX6 yX6_ofRing yX6_ofRing, Cond.code yX6_ofRing cX6_ofRing 8 (some .int), Cond.methodLink RX6 237 yX6_isIn, Cond.static yX6_isIn, Cond.code yX6_isIn cX6_isIn 2 (some .boolean), Cond.methodLink RX6 135 yX6_foremost, Cond.instanceMethod yX6_foremost, Cond.selects RX6 yX6_foremost yX6_foremost, Cond.code yX6_foremost cX6_foremost 8 (some (.object "RingGroup$Node")), Cond.methodLink RX6 275 yX2_isAheadOf, Cond.instanceMethod yX2_isAheadOf, Cond.selects RX2 yX2_isAheadOf yX2_isAheadOf, Cond.initialized RX2, Cond.code yX2_isAheadOf cX2_isAheadOf 2 (some .boolean), Cond.fieldLink RX2 56 "RingGroup$Node" "voteNumber" "I"]
def wsL_gather_r3 : List Cond := [Cond.fieldLink RX2 21 "RingGroup$Node" "replica" "LRingGroup$Replica;", Cond.fieldLink RX2 59 "RingGroup$Replica" "applied" "I", Cond.fieldLink RX2 42 "RingGroup$Node" "number" "I", Cond.methodLink RX6 142 yX6_isQuorum, Cond.static yX6_isQuorum, Cond.code yX6_isQuorum cX6_isQuorum 4 (some .boolean), Cond.methodLink RX6 279 yJ6_bitCount_0f7a4, Cond.static yJ6_bitCount_0f7a4, Cond.initialized RJ6, Cond.code yJ6_bitCount_0f7a4 cJ6_bitCount_0f7a4 1 (some .int), Cond.constant RJ6 265 (1431655765), Cond.constant RJ6 266 (858993459), Cond.constant RJ6 267 (252645135), Cond.methodLink RX6 284 yX6_leastOf, Cond.static yX6_leastOf, Cond.code yX6_leastOf cX6_leastOf 2 (some .int), Cond.methodLink RX6 146 yX6_endOldRings, Cond.instanceMethod yX6_endOldRings, Cond.selects RX6 yX6_endOldRings yX6_endOldRings, Cond.code yX6_endOldRings cX6_endOldRings 7 none, Cond.fieldLink RX6 25 "RingGroup" "noRing" "LRingGroup$Ring;", Cond.methodLink RX6 287 yX6_endRing, Cond.instanceMethod yX6_endRing, Cond.selects RX6 yX6_endRing yX6_endRing]
def wsL_gather_r4 : List Cond := [Cond.code yX6_endRing cX6_endRing 6 none, Cond.fieldLink RX6 197 "RingGroup$Node" "log" "LRingGroup$Log;", Cond.fieldLink RX6 170 "RingGroup$Ring" "number" "I", Cond.methodLink RX6 290 yX6_shareAll, Cond.instanceMethod yX6_shareAll, Cond.selects RX6 yX6_shareAll yX6_shareAll, Cond.code yX6_shareAll cX6_shareAll 8 none, Cond.fieldLink RX6 106 "RingGroup$Node" "safeTo" "I", Cond.methodLink RX6 15 Lib.Math.max.name, Cond.static Lib.Math.max.name, Cond.initialized "java/lang/Math", Cond.code Lib.Math.max.name Lib.Math.max.code 2 (some .int), Cond.fieldLink RX6 252 "RingGroup$Node" "has" "[LRingGroup$Message;", Cond.methodLink RX6 256 yX6_giveTo, Cond.instanceMethod yX6_giveTo, Cond.selects RX6 yX6_giveTo yX6_giveTo, Cond.code yX6_giveTo cX6_giveTo 8 none, Cond.methodLink RX6 264 yX2_receive, Cond.instanceMethod yX2_receive, Cond.selects RX2 yX2_receive yX2_receive, Cond.code yX2_receive cX2_receive 3 none, Cond.fieldLink RX2 34 "RingGroup$Node" "has" "[LRingGroup$Message;", Cond.fieldLink RX2 62 "RingGroup$Message" "safe" "Z", Cond.fieldLink RX2 69 "RingGroup$Replica" "kept" "[LRingGroup$Message;"]
def wsL_gather_r5 : List Cond := [Cond.methodLink RX2 65 yX2_isOfPrimary, Cond.instanceMethod yX2_isOfPrimary, Cond.selects RX2 yX2_isOfPrimary yX2_isOfPrimary, Cond.code yX2_isOfPrimary cX2_isOfPrimary 1 (some .boolean), Cond.fieldLink RX2 49 "RingGroup$Node" "ring" "LRingGroup$Ring;", Cond.fieldLink RX2 53 "RingGroup$Ring" "number" "I", Cond.methodLink RX6 116 yX2_deliverInTurn, Cond.instanceMethod yX2_deliverInTurn, Cond.selects RX2 yX2_deliverInTurn yX2_deliverInTurn, Cond.code yX2_deliverInTurn cX2_deliverInTurn 4 (some .int), Cond.fieldLink RX2 72 "RingGroup$Node" "delivered" "I", Cond.fieldLink RX2 75 "RingGroup$Node" "safeTo" "I", Cond.methodLink RX2 78 yX2_tell, Cond.instanceMethod yX2_tell, Cond.selects RX2 yX2_tell yX2_tell, Cond.code yX2_tell cX2_tell 3 none, Cond.fieldLink RX2 28 "RingGroup$Node" "log" "LRingGroup$Log;", Cond.fieldLink RX2 85 "RingGroup$Message" "sender" "I", Cond.fieldLink RX2 92 "RingGroup$Message" "key" "I", Cond.fieldLink RX2 95 "RingGroup$Message" "value" "J", Cond.methodLink RX2 99 yX0_add, Cond.instanceMethod yX0_add, Cond.selects RX0 yX0_add yX0_add, Cond.initialized RX0]
def wsL_gather_r6 : List Cond := [Cond.code yX0_add cX0_add 9 none, Cond.fieldLink RX0 15 "RingGroup$Log" "ever" "I", Cond.fieldLink RX0 9 "RingGroup$Log" "cells" "[J", Cond.methodLink RX0 19 yJ9_floorMod_7cf53, Cond.static yJ9_floorMod_7cf53, Cond.initialized RJ9, Cond.code yJ9_floorMod_7cf53 cJ9_floorMod_7cf53 3 (some .int), Cond.methodLink RX2 82 yX4_apply, Cond.instanceMethod yX4_apply, Cond.selects RX4 yX4_apply yX4_apply, Cond.initialized RX4, Cond.code yX4_apply cX4_apply 3 none, Cond.fieldLink RX4 9 "RingGroup$Replica" "values" "[J", Cond.fieldLink RX4 21 "RingGroup$Message" "key" "I", Cond.fieldLink RX4 25 "RingGroup$Message" "value" "J", Cond.fieldLink RX4 29 "RingGroup$Replica" "applied" "I", Cond.fieldLink RX4 32 "RingGroup$Replica" "mark" "J", Cond.constantLong RX4 35 (31), Cond.fieldLink RX4 37 "RingGroup$Replica" "done" "I", Cond.methodLink RX6 293 yX0_add, Cond.methodLink RX6 297 yX2_deliverLeft, Cond.instanceMethod yX2_deliverLeft, Cond.selects RX2 yX2_deliverLeft yX2_deliverLeft, Cond.code yX2_deliverLeft cX2_deliverLeft 5 none]
def wsL_gather_r7 : List Cond := [Cond.methodLink RX6 149 yX6_bringTablesUpToDate, Cond.instanceMethod yX6_bringTablesUpToDate, Cond.selects RX6 yX6_bringTablesUpToDate yX6_bringTablesUpToDate, Cond.code yX6_bringTablesUpToDate cX6_bringTablesUpToDate 7 none, Cond.fieldLink RX6 182 "RingGroup$Node" "replica" "LRingGroup$Replica;", Cond.fieldLink RX6 300 "RingGroup$Replica" "done" "I", Cond.fieldLink RX6 191 "RingGroup$Node" "voteNumber" "I", Cond.methodLink RX6 303 yX6_keptByOne, Cond.instanceMethod yX6_keptByOne, Cond.selects RX6 yX6_keptByOne yX6_keptByOne, Cond.code yX6_keptByOne cX6_keptByOne 8 (some (.object "RingGroup$Message")), Cond.fieldLink RX6 314 "RingGroup$Replica" "kept" "[LRingGroup$Message;", Cond.methodLink RX6 307 yX4_apply, Cond.methodLink RX6 310 yX4_copyTable, Cond.instanceMethod yX4_copyTable, Cond.selects RX4 yX4_copyTable yX4_copyTable, Cond.code yX4_copyTable cX4_copyTable 3 none, Cond.methodLink RX6 152 yX6_beginRing, Cond.instanceMethod yX6_beginRing, Cond.selects RX6 yX6_beginRing yX6_beginRing, Cond.code yX6_beginRing cX6_beginRing 9 (some .int), Cond.fieldLink RX6 194 "RingGroup$Node" "highest" "I", Cond.methodLink RX6 164 yX2_leaveRing, Cond.instanceMethod yX2_leaveRing]
def wsL_gather_r8 : List Cond := [Cond.selects RX2 yX2_leaveRing yX2_leaveRing, Cond.code yX2_leaveRing cX2_leaveRing 3 none, Cond.fieldLink RX2 103 "RingGroup$Ring" "holder" "I", Cond.methodLink RX6 317 yX6_unusedRing, Cond.instanceMethod yX6_unusedRing, Cond.selects RX6 yX6_unusedRing yX6_unusedRing, Cond.code yX6_unusedRing cX6_unusedRing 7 (some (.object "RingGroup$Ring")), Cond.fieldLink RX6 35 "RingGroup" "rings" "[LRingGroup$Ring;", Cond.methodLink RX6 321 yX5_begin, Cond.instanceMethod yX5_begin, Cond.selects RX5 yX5_begin yX5_begin, Cond.initialized RX5, Cond.code yX5_begin cX5_begin 4 none, Cond.fieldLink RX5 23 "RingGroup$Ring" "number" "I", Cond.fieldLink RX5 26 "RingGroup$Ring" "members" "I", Cond.fieldLink RX5 19 "RingGroup$Ring" "holder" "I", Cond.fieldLink RX5 33 "RingGroup$Ring" "lastPlace" "I", Cond.fieldLink RX5 9 "RingGroup$Ring" "requested" "[Z", Cond.fieldLink RX5 15 "RingGroup$Ring" "full" "[I", Cond.methodLink RX6 325 yX2_joinRing, Cond.instanceMethod yX2_joinRing, Cond.selects RX2 yX2_joinRing yX2_joinRing, Cond.code yX2_joinRing cX2_joinRing 3 none, Cond.fieldLink RX2 106 "RingGroup$Node" "highest" "I"]
def wsL_gather_r9 : List Cond := [Cond.fieldLink RX2 109 "RingGroup$Ring" "members" "I", Cond.fieldLink RX2 46 "RingGroup$Node" "voteMembers" "I", Cond.methodLink RX2 112 yX4_forgetKept, Cond.instanceMethod yX4_forgetKept, Cond.selects RX4 yX4_forgetKept yX4_forgetKept, Cond.code yX4_forgetKept cX4_forgetKept 2 none, Cond.fieldLink RX4 17 "RingGroup$Replica" "kept" "[LRingGroup$Message;"]
def wsL_gather : List Cond := .codeWith yL_gather cL_gather 4 (some .int) [(0, 9, 12, 13), (0, 9, 15, 15)] :: ((wsL_gather_r1 ++ (wsL_gather_r2 ++ (wsL_gather_r3 ++ (wsL_gather_r4 ++ (wsL_gather_r5 ++ (wsL_gather_r6 ++ (wsL_gather_r7 ++ (wsL_gather_r8 ++ wsL_gather_r9)))))))) ++ wsX20 ++ wsX60 ++ wsX50 ++ wsX40 ++ wsX10 ++ wsX00 ++ (vx_atS RX6 68 "java/lang/IllegalStateException" ["java/lang/RuntimeException", "java/lang/Exception"]).filter goodWord ++ (vx_atS RX6 223 "java/lang/IndexOutOfBoundsException" ["java/lang/RuntimeException", "java/lang/Exception"]).filter goodWord)
def wsL_part : List Cond := .codeWith yL_part cL_part 4 (some .int) [(0, 6, 9, 13), (0, 6, 12, 29)] :: ([.classLink RL 13 "java/lang/IndexOutOfBoundsException", .classLink RL 29 "java/lang/IllegalArgumentException", .methodLink RL 25 yX6_part, .instanceMethod yX6_part, .selects RX6 yX6_part yX6_part, .initialized RX6, .code yX6_part cX6_part 4 none, .classLink RX6 156 "java/lang/IllegalArgumentException", .initialized "java/lang/IllegalArgumentException", .fieldLink RX6 124 "RingGroup$Node" "group" "I", .methodLink RX6 42 yX6_nodeAt, .instanceMethod yX6_nodeAt, .selects RX6 yX6_nodeAt yX6_nodeAt, .code yX6_nodeAt cX6_nodeAt 2 (some (.object "RingGroup$Node")), .classLink RX6 219 "java/lang/IndexOutOfBoundsException", .initialized "java/lang/IndexOutOfBoundsException", .fieldLink RX6 31 "RingGroup" "nodes" "[LRingGroup$Node;"] ++ wsX20 ++ wsX60 ++ (vx_atS RX6 160 "java/lang/IllegalArgumentException" ["java/lang/RuntimeException", "java/lang/Exception"]).filter goodWord ++ (vx_atS RX6 223 "java/lang/IndexOutOfBoundsException" ["java/lang/RuntimeException", "java/lang/Exception"]).filter goodWord)
def wsL_crash_r1 : List Cond := [Cond.classLink RL 13 "java/lang/IndexOutOfBoundsException", Cond.classLink RL 15 "java/lang/IllegalStateException", Cond.methodLink RL 31 yX6_crash, Cond.instanceMethod yX6_crash, Cond.selects RX6 yX6_crash yX6_crash, Cond.initialized RX6, Cond.code yX6_crash cX6_crash 3 none, Cond.classLink RX6 64 "java/lang/IllegalStateException", Cond.initialized "java/lang/IllegalStateException", Cond.fieldLink RX6 50 "RingGroup$Node" "up" "Z", Cond.fieldLink RX6 54 "RingGroup$Node" "pending" "LRingGroup$Pending;", Cond.fieldLink RX6 25 "RingGroup" "noRing" "LRingGroup$Ring;", Cond.methodLink RX6 42 yX6_nodeAt, Cond.instanceMethod yX6_nodeAt, Cond.selects RX6 yX6_nodeAt yX6_nodeAt, Cond.code yX6_nodeAt cX6_nodeAt 2 (some (.object "RingGroup$Node")), Cond.classLink RX6 219 "java/lang/IndexOutOfBoundsException", Cond.initialized "java/lang/IndexOutOfBoundsException", Cond.fieldLink RX6 31 "RingGroup" "nodes" "[LRingGroup$Node;", Cond.methodLink RX6 161 yX3_drop, Cond.instanceMethod yX3_drop, Cond.selects RX3 yX3_drop yX3_drop, Cond.initialized RX3, Cond.code yX3_drop cX3_drop 1 none]
def wsL_crash_r2 : List Cond := [Cond.fieldLink RX3 17 "RingGroup$Pending" "count" "I", Cond.methodLink RX6 164 yX2_leaveRing, Cond.instanceMethod yX2_leaveRing, Cond.selects RX2 yX2_leaveRing yX2_leaveRing, Cond.initialized RX2, Cond.code yX2_leaveRing cX2_leaveRing 3 none, Cond.fieldLink RX2 49 "RingGroup$Node" "ring" "LRingGroup$Ring;", Cond.fieldLink RX2 103 "RingGroup$Ring" "holder" "I", Cond.fieldLink RX2 42 "RingGroup$Node" "number" "I", Cond.fieldLink RX2 72 "RingGroup$Node" "delivered" "I", Cond.fieldLink RX2 75 "RingGroup$Node" "safeTo" "I", Cond.fieldLink RX2 34 "RingGroup$Node" "has" "[LRingGroup$Message;"]
def wsL_crash : List Cond := .codeWith yL_crash cL_crash 3 (some .int) [(0, 5, 8, 13), (0, 5, 11, 15)] :: ((wsL_crash_r1 ++ wsL_crash_r2) ++ wsX20 ++ wsX60 ++ wsX30 ++ wsX50 ++ (vx_atS RX6 68 "java/lang/IllegalStateException" ["java/lang/RuntimeException", "java/lang/Exception"]).filter goodWord ++ (vx_atS RX6 223 "java/lang/IndexOutOfBoundsException" ["java/lang/RuntimeException", "java/lang/Exception"]).filter goodWord)
def wsL_restart : List Cond := .codeWith yL_restart cL_restart 3 (some .int) [(0, 5, 8, 13), (0, 5, 11, 15)] :: ([.classLink RL 13 "java/lang/IndexOutOfBoundsException", .classLink RL 15 "java/lang/IllegalStateException", .methodLink RL 35 yX6_restart, .instanceMethod yX6_restart, .selects RX6 yX6_restart yX6_restart, .initialized RX6, .code yX6_restart cX6_restart 3 none, .classLink RX6 64 "java/lang/IllegalStateException", .initialized "java/lang/IllegalStateException", .fieldLink RX6 50 "RingGroup$Node" "up" "Z", .methodLink RX6 42 yX6_nodeAt, .instanceMethod yX6_nodeAt, .selects RX6 yX6_nodeAt yX6_nodeAt, .code yX6_nodeAt cX6_nodeAt 2 (some (.object "RingGroup$Node")), .classLink RX6 219 "java/lang/IndexOutOfBoundsException", .initialized "java/lang/IndexOutOfBoundsException", .fieldLink RX6 31 "RingGroup" "nodes" "[LRingGroup$Node;"] ++ wsX20 ++ wsX60 ++ (vx_atS RX6 68 "java/lang/IllegalStateException" ["java/lang/RuntimeException", "java/lang/Exception"]).filter goodWord ++ (vx_atS RX6 223 "java/lang/IndexOutOfBoundsException" ["java/lang/RuntimeException", "java/lang/Exception"]).filter goodWord)
def wsL_about_r1 : List Cond := [Cond.classLink RL 13 "java/lang/IndexOutOfBoundsException", Cond.classLink RL 29 "java/lang/IllegalArgumentException", Cond.methodLink RL 38 yX6_about, Cond.instanceMethod yX6_about, Cond.selects RX6 yX6_about yX6_about, Cond.initialized RX6, Cond.code yX6_about cX6_about 4 (some .int), Cond.classLink RX6 156 "java/lang/IllegalArgumentException", Cond.initialized "java/lang/IllegalArgumentException", Cond.fieldLink RX6 50 "RingGroup$Node" "up" "Z", Cond.fieldLink RX6 124 "RingGroup$Node" "group" "I", Cond.fieldLink RX6 80 "RingGroup$Node" "ring" "LRingGroup$Ring;", Cond.fieldLink RX6 170 "RingGroup$Ring" "number" "I", Cond.fieldLink RX6 173 "RingGroup$Ring" "members" "I", Cond.fieldLink RX6 54 "RingGroup$Node" "pending" "LRingGroup$Pending;", Cond.fieldLink RX6 176 "RingGroup$Pending" "count" "I", Cond.fieldLink RX6 179 "RingGroup$Node" "delivered" "I", Cond.fieldLink RX6 106 "RingGroup$Node" "safeTo" "I", Cond.fieldLink RX6 182 "RingGroup$Node" "replica" "LRingGroup$Replica;", Cond.fieldLink RX6 186 "RingGroup$Replica" "applied" "I", Cond.fieldLink RX6 191 "RingGroup$Node" "voteNumber" "I", Cond.fieldLink RX6 139 "RingGroup$Node" "voteMembers" "I", Cond.fieldLink RX6 194 "RingGroup$Node" "highest" "I", Cond.fieldLink RX6 83 "RingGroup$Ring" "holder" "I"]
def wsL_about_r2 : List Cond := [Cond.fieldLink RX6 197 "RingGroup$Node" "log" "LRingGroup$Log;", Cond.fieldLink RX6 201 "RingGroup$Log" "ever" "I", Cond.methodLink RX6 42 yX6_nodeAt, Cond.instanceMethod yX6_nodeAt, Cond.selects RX6 yX6_nodeAt yX6_nodeAt, Cond.code yX6_nodeAt cX6_nodeAt 2 (some (.object "RingGroup$Node")), Cond.classLink RX6 219 "java/lang/IndexOutOfBoundsException", Cond.initialized "java/lang/IndexOutOfBoundsException", Cond.fieldLink RX6 31 "RingGroup" "nodes" "[LRingGroup$Node;", Cond.methodLink RX6 103 yX2_full, Cond.instanceMethod yX2_full, Cond.selects RX2 yX2_full yX2_full, Cond.initialized RX2, Cond.code yX2_full cX2_full 2 (some .int), Cond.fieldLink RX2 34 "RingGroup$Node" "has" "[LRingGroup$Message;"]
def wsL_about : List Cond := .codeWith yL_about cL_about 5 (some .int) [(0, 10, 13, 13), (0, 10, 17, 29)] :: ((wsL_about_r1 ++ wsL_about_r2) ++ wsX20 ++ wsX50 ++ wsX30 ++ wsX40 ++ wsX00 ++ wsX60 ++ (vx_atS RX6 160 "java/lang/IllegalArgumentException" ["java/lang/RuntimeException", "java/lang/Exception"]).filter goodWord ++ (vx_atS RX6 223 "java/lang/IndexOutOfBoundsException" ["java/lang/RuntimeException", "java/lang/Exception"]).filter goodWord)
def wsL_table : List Cond := .codeWith yL_table cL_table 5 (some .int) [(0, 9, 12, 13)] :: ([.classLink RL 13 "java/lang/IndexOutOfBoundsException", .methodLink RL 41 yX6_table, .instanceMethod yX6_table, .selects RX6 yX6_table yX6_table, .initialized RX6, .code yX6_table cX6_table 4 (some .long), .fieldLink RX6 182 "RingGroup$Node" "replica" "LRingGroup$Replica;", .fieldLink RX6 208 "RingGroup$Replica" "values" "[J", .methodLink RX6 42 yX6_nodeAt, .instanceMethod yX6_nodeAt, .selects RX6 yX6_nodeAt yX6_nodeAt, .code yX6_nodeAt cX6_nodeAt 2 (some (.object "RingGroup$Node")), .classLink RX6 219 "java/lang/IndexOutOfBoundsException", .initialized "java/lang/IndexOutOfBoundsException", .fieldLink RX6 31 "RingGroup" "nodes" "[LRingGroup$Node;", .methodLink RX6 46 yX6_checkKey, .static yX6_checkKey, .code yX6_checkKey cX6_checkKey 1 none] ++ wsX20 ++ wsX40 ++ wsX60 ++ (vx_atS RX6 223 "java/lang/IndexOutOfBoundsException" ["java/lang/RuntimeException", "java/lang/Exception"]).filter goodWord)
def wsL_mark : List Cond := .codeWith yL_mark cL_mark 4 (some .int) [(0, 8, 11, 13)] :: ([.classLink RL 13 "java/lang/IndexOutOfBoundsException", .methodLink RL 45 yX6_mark, .instanceMethod yX6_mark, .selects RX6 yX6_mark yX6_mark, .initialized RX6, .code yX6_mark cX6_mark 2 (some .long), .fieldLink RX6 182 "RingGroup$Node" "replica" "LRingGroup$Replica;", .fieldLink RX6 212 "RingGroup$Replica" "mark" "J", .methodLink RX6 42 yX6_nodeAt, .instanceMethod yX6_nodeAt, .selects RX6 yX6_nodeAt yX6_nodeAt, .code yX6_nodeAt cX6_nodeAt 2 (some (.object "RingGroup$Node")), .classLink RX6 219 "java/lang/IndexOutOfBoundsException", .initialized "java/lang/IndexOutOfBoundsException", .fieldLink RX6 31 "RingGroup" "nodes" "[LRingGroup$Node;"] ++ wsX20 ++ wsX40 ++ wsX60 ++ (vx_atS RX6 223 "java/lang/IndexOutOfBoundsException" ["java/lang/RuntimeException", "java/lang/Exception"]).filter goodWord)
def wsL_entry_r1 : List Cond := [Cond.classLink RL 13 "java/lang/IndexOutOfBoundsException", Cond.classLink RL 29 "java/lang/IllegalArgumentException", Cond.methodLink RL 49 yX6_entry, Cond.instanceMethod yX6_entry, Cond.selects RX6 yX6_entry yX6_entry, Cond.initialized RX6, Cond.code yX6_entry cX6_entry 5 (some .long), Cond.classLink RX6 219 "java/lang/IndexOutOfBoundsException", Cond.initialized "java/lang/IndexOutOfBoundsException", Cond.classLink RX6 156 "java/lang/IllegalArgumentException", Cond.initialized "java/lang/IllegalArgumentException", Cond.fieldLink RX6 197 "RingGroup$Node" "log" "LRingGroup$Log;", Cond.methodLink RX6 42 yX6_nodeAt, Cond.instanceMethod yX6_nodeAt, Cond.selects RX6 yX6_nodeAt yX6_nodeAt, Cond.code yX6_nodeAt cX6_nodeAt 2 (some (.object "RingGroup$Node")), Cond.fieldLink RX6 31 "RingGroup" "nodes" "[LRingGroup$Node;", Cond.methodLink RX6 216 yX0_size, Cond.instanceMethod yX0_size, Cond.selects RX0 yX0_size yX0_size, Cond.initialized RX0, Cond.code yX0_size cX0_size 1 (some .int), Cond.fieldLink RX0 15 "RingGroup$Log" "ever" "I", Cond.methodLink RX0 25 Lib.Math.min.name]
def wsL_entry_r2 : List Cond := [Cond.static Lib.Math.min.name, Cond.initialized "java/lang/Math", Cond.code Lib.Math.min.name Lib.Math.min.code 2 (some .int), Cond.methodLink RX6 226 yX0_cell, Cond.instanceMethod yX0_cell, Cond.selects RX0 yX0_cell yX0_cell, Cond.code yX0_cell cX0_cell 3 (some .long), Cond.fieldLink RX0 9 "RingGroup$Log" "cells" "[J", Cond.methodLink RX0 28 yX0_size, Cond.methodLink RX0 19 yJ9_floorMod_7cf53, Cond.static yJ9_floorMod_7cf53, Cond.initialized RJ9, Cond.code yJ9_floorMod_7cf53 cJ9_floorMod_7cf53 3 (some .int)]
def wsL_entry : List Cond := .codeWith yL_entry cL_entry 6 (some .int) [(0, 11, 14, 13), (0, 11, 18, 29)] :: ((wsL_entry_r1 ++ wsL_entry_r2) ++ wsX20 ++ wsX60 ++ wsX00 ++ (vx_atS RX6 223 "java/lang/IndexOutOfBoundsException" ["java/lang/RuntimeException", "java/lang/Exception"]).filter goodWord ++ (vx_atS RX6 160 "java/lang/IllegalArgumentException" ["java/lang/RuntimeException", "java/lang/Exception"]).filter goodWord)
def wsL_primary : List Cond := .codeWith yL_primary cL_primary 4 (some .int) [(0, 16, 19, 13)] :: ([.classLink RL 13 "java/lang/IndexOutOfBoundsException", .methodLink RL 53 yX6_primary, .instanceMethod yX6_primary, .selects RX6 yX6_primary yX6_primary, .initialized RX6, .code yX6_primary cX6_primary 2 (some .boolean), .methodLink RX6 42 yX6_nodeAt, .instanceMethod yX6_nodeAt, .selects RX6 yX6_nodeAt yX6_nodeAt, .code yX6_nodeAt cX6_nodeAt 2 (some (.object "RingGroup$Node")), .classLink RX6 219 "java/lang/IndexOutOfBoundsException", .initialized "java/lang/IndexOutOfBoundsException", .fieldLink RX6 31 "RingGroup" "nodes" "[LRingGroup$Node;", .methodLink RX6 230 yX2_isOfPrimary, .instanceMethod yX2_isOfPrimary, .selects RX2 yX2_isOfPrimary yX2_isOfPrimary, .initialized RX2, .code yX2_isOfPrimary cX2_isOfPrimary 1 (some .boolean), .fieldLink RX2 49 "RingGroup$Node" "ring" "LRingGroup$Ring;", .fieldLink RX2 53 "RingGroup$Ring" "number" "I", .fieldLink RX2 56 "RingGroup$Node" "voteNumber" "I"] ++ wsX60 ++ wsX20 ++ wsX50 ++ (vx_atS RX6 223 "java/lang/IndexOutOfBoundsException" ["java/lang/RuntimeException", "java/lang/Exception"]).filter goodWord)
def wsL_law0_r1 : List Cond := [Cond.classLink RL 8 RX6, Cond.instantiable RX6 4, Cond.initialized RX6, Cond.classLink RL 65 RX7, Cond.instantiable RX7 36, Cond.initialized RX7, Cond.arrayClass .long, Cond.constantLong RL 68 (4294967295), Cond.methodLink RL 57 yL_cell, Cond.static yL_cell, Cond.initialized RL, Cond.code yL_cell cL_cell 2 (some .int), Cond.methodLink RL 63 yX6_init, Cond.instanceMethod yX6_init, Cond.code yX6_init cX6_init 5 none, Cond.methodLink RX6 1 objectInit, Cond.instanceMethod objectInit, Cond.code objectInit ⟨#[0xb1]⟩ 1 none, Cond.methodLink RX6 9 Lib.Math.min.name, Cond.static Lib.Math.min.name, Cond.initialized "java/lang/Math", Cond.code Lib.Math.min.name Lib.Math.min.code 2 (some .int), Cond.methodLink RX6 15 Lib.Math.max.name, Cond.static Lib.Math.max.name]
def wsL_law0_r2 : List Cond := [Cond.code Lib.Math.max.name Lib.Math.max.code 2 (some .int), Cond.fieldLink RX6 18 "RingGroup" "window" "I", Cond.classLink RX6 22 RX5, Cond.instantiable RX5 6, Cond.initialized RX5, Cond.fieldLink RX6 25 "RingGroup" "noRing" "LRingGroup$Ring;", Cond.classLink RX6 29 RX2, Cond.fieldLink RX6 31 "RingGroup" "nodes" "[LRingGroup$Node;", Cond.fieldLink RX6 35 "RingGroup" "rings" "[LRingGroup$Ring;", Cond.instantiable RX2 13, Cond.initialized RX2, Cond.instanceMethod yX5_init, Cond.code yX5_init cX5_init 1 none, Cond.methodLink RX5 3 objectInit, Cond.arrayClass .boolean, Cond.fieldLink RX5 9 "RingGroup$Ring" "requested" "[Z", Cond.arrayClass .int, Cond.fieldLink RX5 15 "RingGroup$Ring" "full" "[I", Cond.fieldLink RX5 19 "RingGroup$Ring" "holder" "I", Cond.methodLink RX6 39 yX2_init, Cond.instanceMethod yX2_init, Cond.code yX2_init cX2_init 4 none, Cond.methodLink RX2 3 objectInit, Cond.classLink RX2 9 RX3]
def wsL_law0_r3 : List Cond := [Cond.instantiable RX3 2, Cond.initialized RX3, Cond.fieldLink RX2 12 "RingGroup$Node" "pending" "LRingGroup$Pending;", Cond.classLink RX2 18 RX4, Cond.instantiable RX4 5, Cond.initialized RX4, Cond.fieldLink RX2 21 "RingGroup$Node" "replica" "LRingGroup$Replica;", Cond.classLink RX2 25 RX0, Cond.instantiable RX0 2, Cond.initialized RX0, Cond.fieldLink RX2 28 "RingGroup$Node" "log" "LRingGroup$Log;", Cond.classLink RX2 32 RX1, Cond.fieldLink RX2 34 "RingGroup$Node" "has" "[LRingGroup$Message;", Cond.fieldLink RX2 38 "RingGroup$Node" "up" "Z", Cond.fieldLink RX2 42 "RingGroup$Node" "number" "I", Cond.fieldLink RX2 46 "RingGroup$Node" "voteMembers" "I", Cond.fieldLink RX2 49 "RingGroup$Node" "ring" "LRingGroup$Ring;", Cond.instanceMethod yX3_init, Cond.code yX3_init cX3_init 1 none, Cond.methodLink RX3 3 objectInit, Cond.classLink RX3 9 RX1, Cond.fieldLink RX3 11 "RingGroup$Pending" "waiting" "[LRingGroup$Message;", Cond.instanceMethod yX4_init, Cond.code yX4_init cX4_init 1 none]
def wsL_law0_r4 : List Cond := [Cond.methodLink RX4 3 objectInit, Cond.fieldLink RX4 9 "RingGroup$Replica" "values" "[J", Cond.classLink RX4 15 RX1, Cond.fieldLink RX4 17 "RingGroup$Replica" "kept" "[LRingGroup$Message;", Cond.instanceMethod yX0_init, Cond.code yX0_init cX0_init 1 none, Cond.methodLink RX0 3 objectInit, Cond.fieldLink RX0 9 "RingGroup$Log" "cells" "[J", Cond.methodLink RL 67 yX7_init, Cond.instanceMethod yX7_init, Cond.code yX7_init cX7_init 4 none, Cond.methodLink RX7 1 objectInit, Cond.fieldLink RX7 7 "RingGroupModel" "up" "[Z", Cond.fieldLink RX7 13 "RingGroupModel" "group" "[I", Cond.fieldLink RX7 17 "RingGroupModel" "ringOf" "[I", Cond.fieldLink RX7 20 "RingGroupModel" "highest" "[I", Cond.fieldLink RX7 23 "RingGroupModel" "tables" "[J", Cond.fieldLink RX7 27 "RingGroupModel" "applied" "[I", Cond.fieldLink RX7 30 "RingGroupModel" "marks" "[J", Cond.fieldLink RX7 33 "RingGroupModel" "voteNumber" "[I", Cond.fieldLink RX7 36 "RingGroupModel" "voteMembers" "[I", Cond.fieldLink RX7 39 "RingGroupModel" "pending" "[I", Cond.fieldLink RX7 42 "RingGroupModel" "pendingKeys" "[I", Cond.fieldLink RX7 45 "RingGroupModel" "pendingValues" "[J"]
def wsL_law0_r5 : List Cond := [Cond.fieldLink RX7 48 "RingGroupModel" "pendingSafe" "[Z", Cond.fieldLink RX7 51 "RingGroupModel" "delivered" "[I", Cond.fieldLink RX7 54 "RingGroupModel" "safeTo" "[I", Cond.fieldLink RX7 57 "RingGroupModel" "logged" "[I", Cond.fieldLink RX7 60 "RingGroupModel" "kept" "[Z", Cond.fieldLink RX7 63 "RingGroupModel" "keptKeys" "[I", Cond.fieldLink RX7 66 "RingGroupModel" "keptValues" "[J", Cond.fieldLink RX7 69 "RingGroupModel" "done" "[I", Cond.fieldLink RX7 72 "RingGroupModel" "log" "[J", Cond.fieldLink RX7 75 "RingGroupModel" "numbers" "[I", Cond.fieldLink RX7 78 "RingGroupModel" "members" "[I", Cond.fieldLink RX7 81 "RingGroupModel" "lost" "[Z", Cond.fieldLink RX7 84 "RingGroupModel" "tokenAt" "[I", Cond.fieldLink RX7 87 "RingGroupModel" "places" "[I", Cond.fieldLink RX7 90 "RingGroupModel" "senders" "[I", Cond.fieldLink RX7 93 "RingGroupModel" "keys" "[I", Cond.fieldLink RX7 96 "RingGroupModel" "values" "[J", Cond.fieldLink RX7 99 "RingGroupModel" "safes" "[Z", Cond.fieldLink RX7 102 "RingGroupModel" "has" "[I", Cond.fieldLink RX7 105 "RingGroupModel" "requested" "[Z", Cond.fieldLink RX7 108 "RingGroupModel" "tokenFull" "[I", Cond.fieldLink RX7 111 "RingGroupModel" "nodes" "I", Cond.fieldLink RX7 115 "RingGroupModel" "window" "I", Cond.methodLink RL 70 yL_send]
def wsL_law0_r6 : List Cond := [Cond.static yL_send, Cond.codeWith yL_send cL_send 8 (some .int) [(0, 14, 17, 13), (0, 14, 21, 15)], Cond.classLink RL 13 "java/lang/IndexOutOfBoundsException", Cond.classLink RL 15 "java/lang/IllegalStateException", Cond.methodLink RL 7 yX6_send, Cond.instanceMethod yX6_send, Cond.selects RX6 yX6_send yX6_send, Cond.code yX6_send cX6_send 7 (some .int), Cond.classLink RX6 64 "java/lang/IllegalStateException", Cond.initialized "java/lang/IllegalStateException", Cond.fieldLink RX6 50 "RingGroup$Node" "up" "Z", Cond.fieldLink RX6 54 "RingGroup$Node" "pending" "LRingGroup$Pending;", Cond.classLink RX6 71 RX1, Cond.instantiable RX1 4, Cond.initialized RX1, Cond.methodLink RX6 42 yX6_nodeAt, Cond.instanceMethod yX6_nodeAt, Cond.selects RX6 yX6_nodeAt yX6_nodeAt, Cond.code yX6_nodeAt cX6_nodeAt 2 (some (.object "RingGroup$Node")), Cond.classLink RX6 219 "java/lang/IndexOutOfBoundsException", Cond.initialized "java/lang/IndexOutOfBoundsException", Cond.methodLink RX6 46 yX6_checkKey, Cond.static yX6_checkKey, Cond.code yX6_checkKey cX6_checkKey 1 none]
def wsL_law0_r7 : List Cond := [Cond.methodLink RX6 58 yX3_isFull, Cond.instanceMethod yX3_isFull, Cond.selects RX3 yX3_isFull yX3_isFull, Cond.code yX3_isFull cX3_isFull 1 (some .boolean), Cond.fieldLink RX3 17 "RingGroup$Pending" "count" "I", Cond.methodLink RX6 73 yX1_init, Cond.instanceMethod yX1_init, Cond.code yX1_init cX1_init 6 none, Cond.methodLink RX1 1 objectInit, Cond.fieldLink RX1 7 "RingGroup$Message" "sender" "I", Cond.fieldLink RX1 13 "RingGroup$Message" "key" "I", Cond.fieldLink RX1 16 "RingGroup$Message" "value" "J", Cond.fieldLink RX1 20 "RingGroup$Message" "safe" "Z", Cond.methodLink RX6 76 yX3_put, Cond.instanceMethod yX3_put, Cond.selects RX3 yX3_put yX3_put, Cond.code yX3_put cX3_put 2 (some .int), Cond.methodLink RL 73 yX7_send, Cond.instanceMethod yX7_send, Cond.selects RX7 yX7_send yX7_send, Cond.code yX7_send cX7_send 7 (some .int), Cond.fieldLink RX7 118 "RingGroupModel" "thrown" "I", Cond.methodLink RX7 132 yX7_noNode, Cond.instanceMethod yX7_noNode]
def wsL_law0_r8 : List Cond := [Cond.selects RX7 yX7_noNode yX7_noNode, Cond.code yX7_noNode cX7_noNode 2 (some .boolean), Cond.methodLink RL 74 yX7_thrown, Cond.instanceMethod yX7_thrown, Cond.selects RX7 yX7_thrown yX7_thrown, Cond.code yX7_thrown cX7_thrown 1 (some .int), Cond.methodLink RL 78 yL_pass, Cond.static yL_pass, Cond.codeWith yL_pass cL_pass 5 (some .int) [(0, 10, 13, 13), (0, 10, 17, 15)], Cond.methodLink RL 17 yX6_pass, Cond.instanceMethod yX6_pass, Cond.selects RX6 yX6_pass yX6_pass, Cond.code yX6_pass cX6_pass 7 (some .int), Cond.fieldLink RX6 80 "RingGroup$Node" "ring" "LRingGroup$Ring;", Cond.fieldLink RX6 83 "RingGroup$Ring" "holder" "I", Cond.fieldLink RX6 99 "RingGroup$Ring" "full" "[I", Cond.fieldLink RX6 106 "RingGroup$Node" "safeTo" "I", Cond.methodLink RX6 88 yX6_receiversOf, Cond.instanceMethod yX6_receiversOf, Cond.selects RX6 yX6_receiversOf yX6_receiversOf, Cond.code yX6_receiversOf cX6_receiversOf 7 (some .int), Cond.fieldLink RX6 244 "RingGroup$Node" "number" "I", Cond.methodLink RX6 240 yX6_reaches, Cond.static yX6_reaches]
def wsL_law0_r9 : List Cond := [Cond.code yX6_reaches cX6_reaches 2 (some .boolean), Cond.fieldLink RX6 124 "RingGroup$Node" "group" "I", Cond.methodLink RX6 92 yX6_sendRequested, Cond.instanceMethod yX6_sendRequested, Cond.selects RX6 yX6_sendRequested yX6_sendRequested, Cond.code yX6_sendRequested cX6_sendRequested 5 none, Cond.fieldLink RX6 245 "RingGroup$Ring" "lastPlace" "I", Cond.fieldLink RX6 248 "RingGroup$Ring" "requested" "[Z", Cond.fieldLink RX6 252 "RingGroup$Node" "has" "[LRingGroup$Message;", Cond.methodLink RX6 256 yX6_giveTo, Cond.instanceMethod yX6_giveTo, Cond.selects RX6 yX6_giveTo yX6_giveTo, Cond.code yX6_giveTo cX6_giveTo 8 none, Cond.methodLink RX6 237 yX6_isIn, Cond.static yX6_isIn, Cond.code yX6_isIn cX6_isIn 2 (some .boolean), Cond.methodLink RX6 264 yX2_receive, Cond.instanceMethod yX2_receive, Cond.selects RX2 yX2_receive yX2_receive, Cond.code yX2_receive cX2_receive 3 none, Cond.fieldLink RX2 62 "RingGroup$Message" "safe" "Z", Cond.fieldLink RX2 69 "RingGroup$Replica" "kept" "[LRingGroup$Message;", Cond.methodLink RX2 65 yX2_isOfPrimary, Cond.instanceMethod yX2_isOfPrimary]
def wsL_law0_r10 : List Cond := [Cond.selects RX2 yX2_isOfPrimary yX2_isOfPrimary, Cond.code yX2_isOfPrimary cX2_isOfPrimary 1 (some .boolean), Cond.fieldLink RX2 53 "RingGroup$Ring" "number" "I", Cond.fieldLink RX2 56 "RingGroup$Node" "voteNumber" "I", Cond.methodLink RX6 96 yX6_sendPending, Cond.instanceMethod yX6_sendPending, Cond.selects RX6 yX6_sendPending yX6_sendPending, Cond.code yX6_sendPending cX6_sendPending 6 none, Cond.methodLink RX6 260 yX3_takeFirst, Cond.instanceMethod yX3_takeFirst, Cond.selects RX3 yX3_takeFirst yX3_takeFirst, Cond.code yX3_takeFirst cX3_takeFirst 3 (some (.object "RingGroup$Message")), Cond.methodLink RX6 103 yX2_full, Cond.instanceMethod yX2_full, Cond.selects RX2 yX2_full yX2_full, Cond.code yX2_full cX2_full 2 (some .int), Cond.methodLink RX6 109 yX5_leastFull, Cond.instanceMethod yX5_leastFull, Cond.selects RX5 yX5_leastFull yX5_leastFull, Cond.code yX5_leastFull cX5_leastFull 3 (some .int), Cond.fieldLink RX5 26 "RingGroup$Ring" "members" "I", Cond.methodLink RX5 40 Lib.Math.min.name, Cond.methodLink RX6 112 yX6_requestMissing, Cond.static yX6_requestMissing]
def wsL_law0_r11 : List Cond := [Cond.code yX6_requestMissing cX6_requestMissing 3 none, Cond.methodLink RX6 116 yX2_deliverInTurn, Cond.instanceMethod yX2_deliverInTurn, Cond.selects RX2 yX2_deliverInTurn yX2_deliverInTurn, Cond.code yX2_deliverInTurn cX2_deliverInTurn 4 (some .int), Cond.fieldLink RX2 72 "RingGroup$Node" "delivered" "I", Cond.fieldLink RX2 75 "RingGroup$Node" "safeTo" "I", Cond.methodLink RX2 78 yX2_tell, Cond.instanceMethod yX2_tell, Cond.selects RX2 yX2_tell yX2_tell, Cond.code yX2_tell cX2_tell 3 none, Cond.fieldLink RX2 85 "RingGroup$Message" "sender" "I", Cond.fieldLink RX2 92 "RingGroup$Message" "key" "I", Cond.fieldLink RX2 95 "RingGroup$Message" "value" "J", Cond.methodLink RX2 99 yX0_add, Cond.instanceMethod yX0_add, Cond.selects RX0 yX0_add yX0_add, Cond.code yX0_add cX0_add 9 none, Cond.fieldLink RX0 15 "RingGroup$Log" "ever" "I", Cond.methodLink RX0 19 yJ9_floorMod_7cf53, Cond.static yJ9_floorMod_7cf53, Cond.initialized RJ9, Cond.code yJ9_floorMod_7cf53 cJ9_floorMod_7cf53 3 (some .int), Cond.methodLink RX2 82 yX4_apply]
def wsL_law0_r12 : List Cond := [Cond.instanceMethod yX4_apply, Cond.selects RX4 yX4_apply yX4_apply, Cond.code yX4_apply cX4_apply 3 none, Cond.fieldLink RX4 21 "RingGroup$Message" "key" "I", Cond.fieldLink RX4 25 "RingGroup$Message" "value" "J", Cond.fieldLink RX4 29 "RingGroup$Replica" "applied" "I", Cond.fieldLink RX4 32 "RingGroup$Replica" "mark" "J", Cond.constantLong RX4 35 (31), Cond.fieldLink RX4 37 "RingGroup$Replica" "done" "I", Cond.methodLink RX6 119 yX6_handOn, Cond.instanceMethod yX6_handOn, Cond.selects RX6 yX6_handOn yX6_handOn, Cond.code yX6_handOn cX6_handOn 4 none, Cond.methodLink RX6 268 yX5_memberBehind, Cond.instanceMethod yX5_memberBehind, Cond.selects RX5 yX5_memberBehind yX5_memberBehind, Cond.code yX5_memberBehind cX5_memberBehind 4 (some .int), Cond.methodLink RL 81 yX7_pass, Cond.instanceMethod yX7_pass, Cond.selects RX7 yX7_pass yX7_pass, Cond.code yX7_pass cX7_pass 7 (some .int), Cond.methodLink RX7 160 yX7_holds, Cond.instanceMethod yX7_holds, Cond.selects RX7 yX7_holds yX7_holds]
def wsL_law0_r13 : List Cond := [Cond.code yX7_holds cX7_holds 2 (some .boolean), Cond.methodLink RX7 163 yX7_full, Cond.instanceMethod yX7_full, Cond.selects RX7 yX7_full yX7_full, Cond.code yX7_full cX7_full 3 (some .int), Cond.methodLink RX7 129 yX7_hasPlace, Cond.instanceMethod yX7_hasPlace, Cond.selects RX7 yX7_hasPlace yX7_hasPlace, Cond.code yX7_hasPlace cX7_hasPlace 3 (some .boolean), Cond.methodLink RX7 121 yX7_place, Cond.static yX7_place, Cond.code yX7_place cX7_place 2 (some .int), Cond.methodLink RX7 125 yX7_isIn, Cond.static yX7_isIn, Cond.code yX7_isIn cX7_isIn 2 (some .boolean), Cond.methodLink RX7 156 yX7_comes, Cond.instanceMethod yX7_comes, Cond.selects RX7 yX7_comes yX7_comes, Cond.code yX7_comes cX7_comes 5 none, Cond.methodLink RX7 152 yX7_gets, Cond.instanceMethod yX7_gets, Cond.selects RX7 yX7_gets yX7_gets, Cond.code yX7_gets cX7_gets 4 none, Cond.methodLink RX7 167 yX7_give]
def wsL_law0_r14 : List Cond := [Cond.instanceMethod yX7_give, Cond.selects RX7 yX7_give yX7_give, Cond.code yX7_give cX7_give 7 none, Cond.methodLink RX7 170 yX7_deliverAll, Cond.instanceMethod yX7_deliverAll, Cond.selects RX7 yX7_deliverAll yX7_deliverAll, Cond.code yX7_deliverAll cX7_deliverAll 4 (some .int), Cond.methodLink RX7 148 yX7_deliver, Cond.instanceMethod yX7_deliver, Cond.selects RX7 yX7_deliver yX7_deliver, Cond.code yX7_deliver cX7_deliver 5 none, Cond.methodLink RX7 140 yX7_tell, Cond.instanceMethod yX7_tell, Cond.selects RX7 yX7_tell yX7_tell, Cond.code yX7_tell cX7_tell 15 none, Cond.methodLink RX7 144 yX7_apply, Cond.instanceMethod yX7_apply, Cond.selects RX7 yX7_apply yX7_apply, Cond.code yX7_apply cX7_apply 6 none, Cond.constantLong RX7 136 (31), Cond.constantLong RX7 138 (17), Cond.methodLink RX7 173 yX7_goesOn, Cond.instanceMethod yX7_goesOn, Cond.selects RX7 yX7_goesOn yX7_goesOn]
def wsL_law0_r15 : List Cond := [Cond.code yX7_goesOn cX7_goesOn 5 none, Cond.methodLink RL 82 yL_gather, Cond.static yL_gather, Cond.codeWith yL_gather cL_gather 4 (some .int) [(0, 9, 12, 13), (0, 9, 15, 15)], Cond.methodLink RL 21 yX6_gather, Cond.instanceMethod yX6_gather, Cond.selects RX6 yX6_gather yX6_gather, Cond.code yX6_gather cX6_gather 5 (some .int), Cond.fieldLink RX6 139 "RingGroup$Node" "voteMembers" "I", Cond.methodLink RX6 127 yX6_upInGroup, Cond.instanceMethod yX6_upInGroup, Cond.selects RX6 yX6_upInGroup yX6_upInGroup, Cond.code yX6_upInGroup cX6_upInGroup 7 (some .int), Cond.methodLink RX6 131 yX6_isWhole, Cond.instanceMethod yX6_isWhole, Cond.selects RX6 yX6_isWhole yX6_isWhole, Cond.code yX6_isWhole cX6_isWhole 3 (some .boolean), Cond.fieldLink RX6 173 "RingGroup$Ring" "members" "I", Cond.methodLink RX6 271 yX6_ofRing, Cond.instanceMethod yX6_ofRing, Cond.selects RX6 yX6_ofRing yX6_ofRing, Cond.code yX6_ofRing cX6_ofRing 8 (some .int), Cond.methodLink RX6 135 yX6_foremost, Cond.instanceMethod yX6_foremost]
def wsL_law0_r16 : List Cond := [Cond.selects RX6 yX6_foremost yX6_foremost, Cond.code yX6_foremost cX6_foremost 8 (some (.object "RingGroup$Node")), Cond.methodLink RX6 275 yX2_isAheadOf, Cond.instanceMethod yX2_isAheadOf, Cond.selects RX2 yX2_isAheadOf yX2_isAheadOf, Cond.code yX2_isAheadOf cX2_isAheadOf 2 (some .boolean), Cond.fieldLink RX2 59 "RingGroup$Replica" "applied" "I", Cond.methodLink RX6 142 yX6_isQuorum, Cond.static yX6_isQuorum, Cond.code yX6_isQuorum cX6_isQuorum 4 (some .boolean), Cond.methodLink RX6 279 yJ6_bitCount_0f7a4, Cond.static yJ6_bitCount_0f7a4, Cond.initialized RJ6, Cond.code yJ6_bitCount_0f7a4 cJ6_bitCount_0f7a4 1 (some .int), Cond.constant RJ6 265 (1431655765), Cond.constant RJ6 266 (858993459), Cond.constant RJ6 267 (252645135), Cond.methodLink RX6 284 yX6_leastOf, Cond.static yX6_leastOf, Cond.code yX6_leastOf cX6_leastOf 2 (some .int), Cond.methodLink RX6 146 yX6_endOldRings, Cond.instanceMethod yX6_endOldRings, Cond.selects RX6 yX6_endOldRings yX6_endOldRings, Cond.code yX6_endOldRings cX6_endOldRings 7 none]
def wsL_law0_r17 : List Cond := [Cond.methodLink RX6 287 yX6_endRing, Cond.instanceMethod yX6_endRing, Cond.selects RX6 yX6_endRing yX6_endRing, Cond.code yX6_endRing cX6_endRing 6 none, Cond.fieldLink RX6 197 "RingGroup$Node" "log" "LRingGroup$Log;", Cond.fieldLink RX6 170 "RingGroup$Ring" "number" "I", Cond.methodLink RX6 290 yX6_shareAll, Cond.instanceMethod yX6_shareAll, Cond.selects RX6 yX6_shareAll yX6_shareAll, Cond.code yX6_shareAll cX6_shareAll 8 none, Cond.methodLink RX6 293 yX0_add, Cond.methodLink RX6 297 yX2_deliverLeft, Cond.instanceMethod yX2_deliverLeft, Cond.selects RX2 yX2_deliverLeft yX2_deliverLeft, Cond.code yX2_deliverLeft cX2_deliverLeft 5 none, Cond.methodLink RX6 149 yX6_bringTablesUpToDate, Cond.instanceMethod yX6_bringTablesUpToDate, Cond.selects RX6 yX6_bringTablesUpToDate yX6_bringTablesUpToDate, Cond.code yX6_bringTablesUpToDate cX6_bringTablesUpToDate 7 none, Cond.fieldLink RX6 182 "RingGroup$Node" "replica" "LRingGroup$Replica;", Cond.fieldLink RX6 300 "RingGroup$Replica" "done" "I", Cond.fieldLink RX6 191 "RingGroup$Node" "voteNumber" "I", Cond.methodLink RX6 303 yX6_keptByOne, Cond.instanceMethod yX6_keptByOne]
def wsL_law0_r18 : List Cond := [Cond.selects RX6 yX6_keptByOne yX6_keptByOne, Cond.code yX6_keptByOne cX6_keptByOne 8 (some (.object "RingGroup$Message")), Cond.fieldLink RX6 314 "RingGroup$Replica" "kept" "[LRingGroup$Message;", Cond.methodLink RX6 307 yX4_apply, Cond.methodLink RX6 310 yX4_copyTable, Cond.instanceMethod yX4_copyTable, Cond.selects RX4 yX4_copyTable yX4_copyTable, Cond.code yX4_copyTable cX4_copyTable 3 none, Cond.methodLink RX6 152 yX6_beginRing, Cond.instanceMethod yX6_beginRing, Cond.selects RX6 yX6_beginRing yX6_beginRing, Cond.code yX6_beginRing cX6_beginRing 9 (some .int), Cond.fieldLink RX6 194 "RingGroup$Node" "highest" "I", Cond.methodLink RX6 164 yX2_leaveRing, Cond.instanceMethod yX2_leaveRing, Cond.selects RX2 yX2_leaveRing yX2_leaveRing, Cond.code yX2_leaveRing cX2_leaveRing 3 none, Cond.fieldLink RX2 103 "RingGroup$Ring" "holder" "I", Cond.methodLink RX6 317 yX6_unusedRing, Cond.instanceMethod yX6_unusedRing, Cond.selects RX6 yX6_unusedRing yX6_unusedRing, Cond.code yX6_unusedRing cX6_unusedRing 7 (some (.object "RingGroup$Ring")), Cond.methodLink RX6 321 yX5_begin, Cond.instanceMethod yX5_begin]
def wsL_law0_r19 : List Cond := [Cond.selects RX5 yX5_begin yX5_begin, Cond.code yX5_begin cX5_begin 4 none, Cond.fieldLink RX5 23 "RingGroup$Ring" "number" "I", Cond.fieldLink RX5 33 "RingGroup$Ring" "lastPlace" "I", Cond.methodLink RX6 325 yX2_joinRing, Cond.instanceMethod yX2_joinRing, Cond.selects RX2 yX2_joinRing yX2_joinRing, Cond.code yX2_joinRing cX2_joinRing 3 none, Cond.fieldLink RX2 106 "RingGroup$Node" "highest" "I", Cond.fieldLink RX2 109 "RingGroup$Ring" "members" "I", Cond.methodLink RX2 112 yX4_forgetKept, Cond.instanceMethod yX4_forgetKept, Cond.selects RX4 yX4_forgetKept yX4_forgetKept, Cond.code yX4_forgetKept cX4_forgetKept 2 none, Cond.methodLink RL 85 yX7_gather, Cond.instanceMethod yX7_gather, Cond.selects RX7 yX7_gather yX7_gather, Cond.code yX7_gather cX7_gather 5 (some .int), Cond.methodLink RX7 203 yX7_together, Cond.instanceMethod yX7_together, Cond.selects RX7 yX7_together yX7_together, Cond.code yX7_together cX7_together 4 (some .int), Cond.methodLink RX7 206 yX7_isWhole, Cond.instanceMethod yX7_isWhole]
def wsL_law0_r20 : List Cond := [Cond.selects RX7 yX7_isWhole yX7_isWhole, Cond.code yX7_isWhole cX7_isWhole 5 (some .boolean), Cond.methodLink RX7 177 yX7_least, Cond.static yX7_least, Cond.code yX7_least cX7_least 2 (some .int), Cond.methodLink RX7 209 yX7_isPrimary, Cond.instanceMethod yX7_isPrimary, Cond.selects RX7 yX7_isPrimary yX7_isPrimary, Cond.code yX7_isPrimary cX7_isPrimary 4 (some .boolean), Cond.methodLink RX7 180 yX7_voter, Cond.instanceMethod yX7_voter, Cond.selects RX7 yX7_voter yX7_voter, Cond.code yX7_voter cX7_voter 4 (some .int), Cond.methodLink RX7 183 yX7_count, Cond.static yX7_count, Cond.code yX7_count cX7_count 3 (some .int), Cond.methodLink RX7 212 yX7_nextRing, Cond.instanceMethod yX7_nextRing, Cond.selects RX7 yX7_nextRing yX7_nextRing, Cond.code yX7_nextRing cX7_nextRing 5 (some .int), Cond.methodLink RX7 186 yX7_of, Cond.instanceMethod yX7_of, Cond.selects RX7 yX7_of yX7_of, Cond.code yX7_of cX7_of 5 (some .int)]
def wsL_law0_r21 : List Cond := [Cond.methodLink RX7 189 yX7_isBefore, Cond.instanceMethod yX7_isBefore, Cond.selects RX7 yX7_isBefore yX7_isBefore, Cond.code yX7_isBefore cX7_isBefore 3 (some .boolean), Cond.methodLink RX7 215 yX7_end, Cond.instanceMethod yX7_end, Cond.selects RX7 yX7_end yX7_end, Cond.code yX7_end cX7_end 9 none, Cond.constantLong RX7 192 (2), Cond.methodLink RX7 218 yX7_share, Cond.instanceMethod yX7_share, Cond.selects RX7 yX7_share yX7_share, Cond.code yX7_share cX7_share 7 none, Cond.methodLink RX7 221 yX7_form, Cond.instanceMethod yX7_form, Cond.selects RX7 yX7_form yX7_form, Cond.code yX7_form cX7_form 6 (some .int), Cond.constantLong RX7 201 (3), Cond.methodLink RX7 194 yX7_freeSlot, Cond.instanceMethod yX7_freeSlot, Cond.selects RX7 yX7_freeSlot yX7_freeSlot, Cond.code yX7_freeSlot cX7_freeSlot 2 (some .int), Cond.methodLink RX7 198 yX7_forget, Cond.instanceMethod yX7_forget]
def wsL_law0_r22 : List Cond := [Cond.selects RX7 yX7_forget yX7_forget, Cond.code yX7_forget cX7_forget 3 none, Cond.methodLink RL 86 yL_part, Cond.static yL_part, Cond.codeWith yL_part cL_part 4 (some .int) [(0, 6, 9, 13), (0, 6, 12, 29)], Cond.classLink RL 29 "java/lang/IllegalArgumentException", Cond.methodLink RL 25 yX6_part, Cond.instanceMethod yX6_part, Cond.selects RX6 yX6_part yX6_part, Cond.code yX6_part cX6_part 4 none, Cond.classLink RX6 156 "java/lang/IllegalArgumentException", Cond.initialized "java/lang/IllegalArgumentException", Cond.methodLink RL 89 yX7_part, Cond.instanceMethod yX7_part, Cond.selects RX7 yX7_part yX7_part, Cond.code yX7_part cX7_part 3 none, Cond.methodLink RL 90 yL_crash, Cond.static yL_crash, Cond.codeWith yL_crash cL_crash 3 (some .int) [(0, 5, 8, 13), (0, 5, 11, 15)], Cond.methodLink RL 31 yX6_crash, Cond.instanceMethod yX6_crash, Cond.selects RX6 yX6_crash yX6_crash, Cond.code yX6_crash cX6_crash 3 none, Cond.methodLink RX6 161 yX3_drop]
def wsL_law0_r23 : List Cond := [Cond.instanceMethod yX3_drop, Cond.selects RX3 yX3_drop yX3_drop, Cond.code yX3_drop cX3_drop 1 none, Cond.methodLink RL 93 yX7_crash, Cond.instanceMethod yX7_crash, Cond.selects RX7 yX7_crash yX7_crash, Cond.code yX7_crash cX7_crash 2 none, Cond.methodLink RL 94 yL_restart, Cond.static yL_restart, Cond.codeWith yL_restart cL_restart 3 (some .int) [(0, 5, 8, 13), (0, 5, 11, 15)], Cond.methodLink RL 35 yX6_restart, Cond.instanceMethod yX6_restart, Cond.selects RX6 yX6_restart yX6_restart, Cond.code yX6_restart cX6_restart 3 none, Cond.methodLink RL 96 yX7_restart, Cond.instanceMethod yX7_restart, Cond.selects RX7 yX7_restart yX7_restart, Cond.code yX7_restart cX7_restart 2 none, Cond.methodLink RL 97 yL_about, Cond.static yL_about, Cond.codeWith yL_about cL_about 5 (some .int) [(0, 10, 13, 13), (0, 10, 17, 29)], Cond.methodLink RL 38 yX6_about, Cond.instanceMethod yX6_about, Cond.selects RX6 yX6_about yX6_about]
def wsL_law0_r24 : List Cond := [Cond.code yX6_about cX6_about 4 (some .int), Cond.fieldLink RX6 176 "RingGroup$Pending" "count" "I", Cond.fieldLink RX6 179 "RingGroup$Node" "delivered" "I", Cond.fieldLink RX6 186 "RingGroup$Replica" "applied" "I", Cond.fieldLink RX6 201 "RingGroup$Log" "ever" "I", Cond.methodLink RL 99 yX7_about, Cond.instanceMethod yX7_about, Cond.selects RX7 yX7_about yX7_about, Cond.code yX7_about cX7_about 5 (some .int), Cond.methodLink RL 100 yL_table, Cond.static yL_table, Cond.codeWith yL_table cL_table 5 (some .int) [(0, 9, 12, 13)], Cond.methodLink RL 41 yX6_table, Cond.instanceMethod yX6_table, Cond.selects RX6 yX6_table yX6_table, Cond.code yX6_table cX6_table 4 (some .long), Cond.fieldLink RX6 208 "RingGroup$Replica" "values" "[J", Cond.methodLink RL 102 yX7_table, Cond.instanceMethod yX7_table, Cond.selects RX7 yX7_table yX7_table, Cond.code yX7_table cX7_table 3 (some .long), Cond.methodLink RL 103 yL_mark, Cond.static yL_mark, Cond.codeWith yL_mark cL_mark 4 (some .int) [(0, 8, 11, 13)]]
def wsL_law0_r25 : List Cond := [Cond.methodLink RL 45 yX6_mark, Cond.instanceMethod yX6_mark, Cond.selects RX6 yX6_mark yX6_mark, Cond.code yX6_mark cX6_mark 2 (some .long), Cond.fieldLink RX6 212 "RingGroup$Replica" "mark" "J", Cond.methodLink RL 105 yX7_mark, Cond.instanceMethod yX7_mark, Cond.selects RX7 yX7_mark yX7_mark, Cond.code yX7_mark cX7_mark 2 (some .long), Cond.methodLink RL 106 yL_entry, Cond.static yL_entry, Cond.codeWith yL_entry cL_entry 6 (some .int) [(0, 11, 14, 13), (0, 11, 18, 29)], Cond.methodLink RL 49 yX6_entry, Cond.instanceMethod yX6_entry, Cond.selects RX6 yX6_entry yX6_entry, Cond.code yX6_entry cX6_entry 5 (some .long), Cond.methodLink RX6 216 yX0_size, Cond.instanceMethod yX0_size, Cond.selects RX0 yX0_size yX0_size, Cond.code yX0_size cX0_size 1 (some .int), Cond.methodLink RX0 25 Lib.Math.min.name, Cond.methodLink RX6 226 yX0_cell, Cond.instanceMethod yX0_cell, Cond.selects RX0 yX0_cell yX0_cell]
def wsL_law0_r26 : List Cond := [Cond.code yX0_cell cX0_cell 3 (some .long), Cond.methodLink RX0 28 yX0_size, Cond.methodLink RL 109 yX7_entry, Cond.instanceMethod yX7_entry, Cond.selects RX7 yX7_entry yX7_entry, Cond.code yX7_entry cX7_entry 5 (some .long), Cond.methodLink RL 110 yL_primary, Cond.static yL_primary, Cond.codeWith yL_primary cL_primary 4 (some .int) [(0, 16, 19, 13)], Cond.methodLink RL 53 yX6_primary, Cond.instanceMethod yX6_primary, Cond.selects RX6 yX6_primary yX6_primary, Cond.code yX6_primary cX6_primary 2 (some .boolean), Cond.methodLink RX6 230 yX2_isOfPrimary, Cond.methodLink RL 112 yX7_primary, Cond.instanceMethod yX7_primary, Cond.selects RX7 yX7_primary yX7_primary, Cond.code yX7_primary cX7_primary 2 (some .boolean)]
def wsL_law0 : List Cond := (wsL_law0_r1 ++ (wsL_law0_r2 ++ (wsL_law0_r3 ++ (wsL_law0_r4 ++ (wsL_law0_r5 ++ (wsL_law0_r6 ++ (wsL_law0_r7 ++ (wsL_law0_r8 ++ (wsL_law0_r9 ++ (wsL_law0_r10 ++ (wsL_law0_r11 ++ (wsL_law0_r12 ++ (wsL_law0_r13 ++ (wsL_law0_r14 ++ (wsL_law0_r15 ++ (wsL_law0_r16 ++ (wsL_law0_r17 ++ (wsL_law0_r18 ++ (wsL_law0_r19 ++ (wsL_law0_r20 ++ (wsL_law0_r21 ++ (wsL_law0_r22 ++ (wsL_law0_r23 ++ (wsL_law0_r24 ++ (wsL_law0_r25 ++ wsL_law0_r26))))))))))))))))))))))))) ++ wsX60 ++ wsX70 ++ wsX50 ++ wsX20 ++ wsX30 ++ wsX40 ++ wsX00 ++ wsX10 ++ ([] : List Cond)
def wsL_law : List Cond := wsL_law0 ++ (vx_atS RX6 68 "java/lang/IllegalStateException" ["java/lang/RuntimeException", "java/lang/Exception"]).filter goodWord ++ (vx_atS RX6 223 "java/lang/IndexOutOfBoundsException" ["java/lang/RuntimeException", "java/lang/Exception"]).filter goodWord ++ (vx_atS RX6 160 "java/lang/IllegalArgumentException" ["java/lang/RuntimeException", "java/lang/Exception"]).filter goodWord
set_option maxRecDepth 20000 in
theorem dX0_init_0 : decode cX0_init 0 = .ok (.aload_n 0, 1) := by decide +kernel
theorem dX0_init_1 : decode cX0_init 1 = .ok (.invokespecial 3, 3) := by decide +kernel
theorem dX0_init_4 : decode cX0_init 4 = .ok (.aload_n 0, 1) := by decide +kernel
theorem dX0_init_5 : decode cX0_init 5 = .ok (.sipush 600, 3) := by decide +kernel
theorem dX0_init_8 : decode cX0_init 8 = .ok (.newarray .long, 2) := by decide +kernel
theorem dX0_init_10 : decode cX0_init 10 = .ok (.putfield 9, 3) := by decide +kernel
theorem dX0_init_13 : decode cX0_init 13 = .ok (.return_, 1) := by decide +kernel
end
section
set_option maxRecDepth 20000 in
theorem ggX0_add_J9_floorMod_7cf53 : GoodIn wsX0_add wsJ9_floorMod_7cf53 := goodIn_r _ [6] (by decide +kernel) (by decide +kernel)
set_option maxRecDepth 20000 in
theorem gX0_add_J9_floorMod_7cf53 : GoodIn wsX0_add (va_wsS RX0 19 yJ9_floorMod_7cf53 wsJ9_floorMod_7cf53) := goodIn_app (goodIn_of _ (by decide +kernel)) ggX0_add_J9_floorMod_7cf53
theorem dX0_add_0 : decode cX0_add 0 = .ok (.aload_n 0, 1) := by decide +kernel
theorem dX0_add_1 : decode cX0_add 1 = .ok (.getfield 15, 3) := by decide +kernel
theorem dX0_add_4 : decode cX0_add 4 = .ok (.bipush 100, 2) := by decide +kernel
theorem dX0_add_6 : decode cX0_add 6 = .ok (.invokestatic 19, 3) := by decide +kernel
theorem dX0_add_9 : decode cX0_add 9 = .ok (.bipush 6, 2) := by decide +kernel
theorem dX0_add_11 : decode cX0_add 11 = .ok (.imul, 1) := by decide +kernel
theorem dX0_add_12 : decode cX0_add 12 = .ok (.istore 8, 2) := by decide +kernel
theorem dX0_add_14 : decode cX0_add 14 = .ok (.aload_n 0, 1) := by decide +kernel
theorem dX0_add_15 : decode cX0_add 15 = .ok (.getfield 9, 3) := by decide +kernel
theorem dX0_add_18 : decode cX0_add 18 = .ok (.iload 8, 2) := by decide +kernel
theorem dX0_add_20 : decode cX0_add 20 = .ok (.iload_n 1, 1) := by decide +kernel
theorem dX0_add_21 : decode cX0_add 21 = .ok (.i2l, 1) := by decide +kernel
theorem dX0_add_22 : decode cX0_add 22 = .ok (.lastore, 1) := by decide +kernel
theorem dX0_add_23 : decode cX0_add 23 = .ok (.aload_n 0, 1) := by decide +kernel
theorem dX0_add_24 : decode cX0_add 24 = .ok (.getfield 9, 3) := by decide +kernel
theorem dX0_add_27 : decode cX0_add 27 = .ok (.iload 8, 2) := by decide +kernel
theorem dX0_add_29 : decode cX0_add 29 = .ok (.iconst 1, 1) := by decide +kernel
theorem dX0_add_30 : decode cX0_add 30 = .ok (.iadd, 1) := by decide +kernel
theorem dX0_add_31 : decode cX0_add 31 = .ok (.iload_n 2, 1) := by decide +kernel
theorem dX0_add_32 : decode cX0_add 32 = .ok (.i2l, 1) := by decide +kernel
theorem dX0_add_33 : decode cX0_add 33 = .ok (.lastore, 1) := by decide +kernel
theorem dX0_add_34 : decode cX0_add 34 = .ok (.aload_n 0, 1) := by decide +kernel
theorem dX0_add_35 : decode cX0_add 35 = .ok (.getfield 9, 3) := by decide +kernel
theorem dX0_add_38 : decode cX0_add 38 = .ok (.iload 8, 2) := by decide +kernel
theorem dX0_add_40 : decode cX0_add 40 = .ok (.iconst 2, 1) := by decide +kernel
theorem dX0_add_41 : decode cX0_add 41 = .ok (.iadd, 1) := by decide +kernel
theorem dX0_add_42 : decode cX0_add 42 = .ok (.iload_n 3, 1) := by decide +kernel
theorem dX0_add_43 : decode cX0_add 43 = .ok (.i2l, 1) := by decide +kernel
theorem dX0_add_44 : decode cX0_add 44 = .ok (.lastore, 1) := by decide +kernel
theorem dX0_add_45 : decode cX0_add 45 = .ok (.aload_n 0, 1) := by decide +kernel
theorem dX0_add_46 : decode cX0_add 46 = .ok (.getfield 9, 3) := by decide +kernel
theorem dX0_add_49 : decode cX0_add 49 = .ok (.iload 8, 2) := by decide +kernel
theorem dX0_add_51 : decode cX0_add 51 = .ok (.iconst 3, 1) := by decide +kernel
theorem dX0_add_52 : decode cX0_add 52 = .ok (.iadd, 1) := by decide +kernel
theorem dX0_add_53 : decode cX0_add 53 = .ok (.iload 4, 2) := by decide +kernel
theorem dX0_add_55 : decode cX0_add 55 = .ok (.i2l, 1) := by decide +kernel
theorem dX0_add_56 : decode cX0_add 56 = .ok (.lastore, 1) := by decide +kernel
theorem dX0_add_57 : decode cX0_add 57 = .ok (.aload_n 0, 1) := by decide +kernel
theorem dX0_add_58 : decode cX0_add 58 = .ok (.getfield 9, 3) := by decide +kernel
theorem dX0_add_61 : decode cX0_add 61 = .ok (.iload 8, 2) := by decide +kernel
theorem dX0_add_63 : decode cX0_add 63 = .ok (.iconst 4, 1) := by decide +kernel
theorem dX0_add_64 : decode cX0_add 64 = .ok (.iadd, 1) := by decide +kernel
theorem dX0_add_65 : decode cX0_add 65 = .ok (.lload 5, 2) := by decide +kernel
theorem dX0_add_67 : decode cX0_add 67 = .ok (.lastore, 1) := by decide +kernel
theorem dX0_add_68 : decode cX0_add 68 = .ok (.aload_n 0, 1) := by decide +kernel
theorem dX0_add_69 : decode cX0_add 69 = .ok (.getfield 9, 3) := by decide +kernel
theorem dX0_add_72 : decode cX0_add 72 = .ok (.iload 8, 2) := by decide +kernel
theorem dX0_add_74 : decode cX0_add 74 = .ok (.iconst 5, 1) := by decide +kernel
theorem dX0_add_75 : decode cX0_add 75 = .ok (.iadd, 1) := by decide +kernel
theorem dX0_add_76 : decode cX0_add 76 = .ok (.iload 7, 2) := by decide +kernel
theorem dX0_add_78 : decode cX0_add 78 = .ok (.i2l, 1) := by decide +kernel
theorem dX0_add_79 : decode cX0_add 79 = .ok (.lastore, 1) := by decide +kernel
theorem dX0_add_80 : decode cX0_add 80 = .ok (.aload_n 0, 1) := by decide +kernel
theorem dX0_add_81 : decode cX0_add 81 = .ok (.dup, 1) := by decide +kernel
theorem dX0_add_82 : decode cX0_add 82 = .ok (.getfield 15, 3) := by decide +kernel
theorem dX0_add_85 : decode cX0_add 85 = .ok (.iconst 1, 1) := by decide +kernel
theorem dX0_add_86 : decode cX0_add 86 = .ok (.iadd, 1) := by decide +kernel
theorem dX0_add_87 : decode cX0_add 87 = .ok (.putfield 15, 3) := by decide +kernel
theorem dX0_add_90 : decode cX0_add 90 = .ok (.return_, 1) := by decide +kernel
theorem dX0_size_0 : decode cX0_size 0 = .ok (.aload_n 0, 1) := by decide +kernel
theorem dX0_size_1 : decode cX0_size 1 = .ok (.getfield 15, 3) := by decide +kernel
theorem dX0_size_4 : decode cX0_size 4 = .ok (.bipush 100, 2) := by decide +kernel
theorem dX0_size_6 : decode cX0_size 6 = .ok (.invokestatic 25, 3) := by decide +kernel
theorem dX0_size_9 : decode cX0_size 9 = .ok (.ireturn, 1) := by decide +kernel
set_option maxRecDepth 20000 in
theorem ggX0_cell_X0_size : GoodIn wsX0_cell wsX0_size := goodIn_r _ [7, 2, 8, 9, 10, 11, 16, 17] (by decide +kernel) (by decide +kernel)
set_option maxRecDepth 20000 in
theorem gX0_cell_X0_size : GoodIn wsX0_cell (wsV RX0 28 RX0 yX0_size wsX0_size) := goodIn_app (goodIn_of _ (by decide +kernel)) ggX0_cell_X0_size
set_option maxRecDepth 20000 in
theorem ggX0_cell_J9_floorMod_7cf53 : GoodIn wsX0_cell wsJ9_floorMod_7cf53 := goodIn_r _ [15] (by decide +kernel) (by decide +kernel)
set_option maxRecDepth 20000 in
theorem gX0_cell_J9_floorMod_7cf53 : GoodIn wsX0_cell (va_wsS RX0 19 yJ9_floorMod_7cf53 wsJ9_floorMod_7cf53) := goodIn_app (goodIn_of _ (by decide +kernel)) ggX0_cell_J9_floorMod_7cf53
theorem dX0_cell_0 : decode cX0_cell 0 = .ok (.aload_n 0, 1) := by decide +kernel
theorem dX0_cell_1 : decode cX0_cell 1 = .ok (.getfield 9, 3) := by decide +kernel
theorem dX0_cell_4 : decode cX0_cell 4 = .ok (.aload_n 0, 1) := by decide +kernel
theorem dX0_cell_5 : decode cX0_cell 5 = .ok (.getfield 15, 3) := by decide +kernel
theorem dX0_cell_8 : decode cX0_cell 8 = .ok (.aload_n 0, 1) := by decide +kernel
theorem dX0_cell_9 : decode cX0_cell 9 = .ok (.invokevirtual 28, 3) := by decide +kernel
theorem dX0_cell_12 : decode cX0_cell 12 = .ok (.isub, 1) := by decide +kernel
theorem dX0_cell_13 : decode cX0_cell 13 = .ok (.iload_n 1, 1) := by decide +kernel
theorem dX0_cell_14 : decode cX0_cell 14 = .ok (.iadd, 1) := by decide +kernel
theorem dX0_cell_15 : decode cX0_cell 15 = .ok (.bipush 100, 2) := by decide +kernel
theorem dX0_cell_17 : decode cX0_cell 17 = .ok (.invokestatic 19, 3) := by decide +kernel
theorem dX0_cell_20 : decode cX0_cell 20 = .ok (.bipush 6, 2) := by decide +kernel
theorem dX0_cell_22 : decode cX0_cell 22 = .ok (.imul, 1) := by decide +kernel
theorem dX0_cell_23 : decode cX0_cell 23 = .ok (.iload_n 2, 1) := by decide +kernel
theorem dX0_cell_24 : decode cX0_cell 24 = .ok (.iadd, 1) := by decide +kernel
theorem dX0_cell_25 : decode cX0_cell 25 = .ok (.laload, 1) := by decide +kernel
theorem dX0_cell_26 : decode cX0_cell 26 = .ok (.lreturn, 1) := by decide +kernel
theorem dX1_init_0 : decode cX1_init 0 = .ok (.aload_n 0, 1) := by decide +kernel
theorem dX1_init_1 : decode cX1_init 1 = .ok (.invokespecial 1, 3) := by decide +kernel
theorem dX1_init_4 : decode cX1_init 4 = .ok (.aload_n 0, 1) := by decide +kernel
theorem dX1_init_5 : decode cX1_init 5 = .ok (.iload_n 1, 1) := by decide +kernel
theorem dX1_init_6 : decode cX1_init 6 = .ok (.putfield 7, 3) := by decide +kernel
theorem dX1_init_9 : decode cX1_init 9 = .ok (.aload_n 0, 1) := by decide +kernel
theorem dX1_init_10 : decode cX1_init 10 = .ok (.iload_n 2, 1) := by decide +kernel
theorem dX1_init_11 : decode cX1_init 11 = .ok (.putfield 13, 3) := by decide +kernel
theorem dX1_init_14 : decode cX1_init 14 = .ok (.aload_n 0, 1) := by decide +kernel
theorem dX1_init_15 : decode cX1_init 15 = .ok (.lload_n 3, 1) := by decide +kernel
theorem dX1_init_16 : decode cX1_init 16 = .ok (.putfield 16, 3) := by decide +kernel
theorem dX1_init_19 : decode cX1_init 19 = .ok (.aload_n 0, 1) := by decide +kernel
theorem dX1_init_20 : decode cX1_init 20 = .ok (.iload 5, 2) := by decide +kernel
theorem dX1_init_22 : decode cX1_init 22 = .ok (.putfield 20, 3) := by decide +kernel
theorem dX1_init_25 : decode cX1_init 25 = .ok (.return_, 1) := by decide +kernel
set_option maxRecDepth 20000 in
theorem ggX2_init_X3_init : GoodIn wsX2_init wsX3_init := goodIn_r _ [23, 24, 2, 3, 25, 26, 38, 39] (by decide +kernel) (by decide +kernel)
set_option maxRecDepth 20000 in
theorem gX2_init_X3_init_n11 : GoodIn wsX2_init (wsX3_init) := ggX2_init_X3_init
set_option maxRecDepth 20000 in
theorem ggX2_init_X4_init : GoodIn wsX2_init wsX4_init := goodIn_r _ [28, 29, 2, 3, 30, 31, 32, 33, 53, 54, 55, 56, 57] (by decide +kernel) (by decide +kernel)
set_option maxRecDepth 20000 in
theorem gX2_init_X4_init_n20 : GoodIn wsX2_init (wsX4_init) := ggX2_init_X4_init
set_option maxRecDepth 20000 in
theorem ggX2_init_X0_init : GoodIn wsX2_init wsX0_init := goodIn_r _ [35, 36, 2, 3, 30, 37, 58, 59] (by decide +kernel) (by decide +kernel)
set_option maxRecDepth 20000 in
theorem gX2_init_X0_init_n27 : GoodIn wsX2_init (wsX0_init) := ggX2_init_X0_init
theorem dX2_init_0 : decode cX2_init 0 = .ok (.aload_n 0, 1) := by decide +kernel
theorem dX2_init_1 : decode cX2_init 1 = .ok (.invokespecial 3, 3) := by decide +kernel
theorem dX2_init_4 : decode cX2_init 4 = .ok (.aload_n 0, 1) := by decide +kernel
theorem dX2_init_5 : decode cX2_init 5 = .ok (.new 9, 3) := by decide +kernel
theorem dX2_init_8 : decode cX2_init 8 = .ok (.dup, 1) := by decide +kernel
theorem dX2_init_9 : decode cX2_init 9 = .ok (.invokespecial 11, 3) := by decide +kernel
theorem dX2_init_12 : decode cX2_init 12 = .ok (.putfield 12, 3) := by decide +kernel
theorem dX2_init_15 : decode cX2_init 15 = .ok (.aload_n 0, 1) := by decide +kernel
theorem dX2_init_16 : decode cX2_init 16 = .ok (.new 18, 3) := by decide +kernel
theorem dX2_init_19 : decode cX2_init 19 = .ok (.dup, 1) := by decide +kernel
theorem dX2_init_20 : decode cX2_init 20 = .ok (.invokespecial 20, 3) := by decide +kernel
theorem dX2_init_23 : decode cX2_init 23 = .ok (.putfield 21, 3) := by decide +kernel
theorem dX2_init_26 : decode cX2_init 26 = .ok (.aload_n 0, 1) := by decide +kernel
theorem dX2_init_27 : decode cX2_init 27 = .ok (.new 25, 3) := by decide +kernel
theorem dX2_init_30 : decode cX2_init 30 = .ok (.dup, 1) := by decide +kernel
theorem dX2_init_31 : decode cX2_init 31 = .ok (.invokespecial 27, 3) := by decide +kernel
theorem dX2_init_34 : decode cX2_init 34 = .ok (.putfield 28, 3) := by decide +kernel
theorem dX2_init_37 : decode cX2_init 37 = .ok (.aload_n 0, 1) := by decide +kernel
theorem dX2_init_38 : decode cX2_init 38 = .ok (.bipush 101, 2) := by decide +kernel
theorem dX2_init_40 : decode cX2_init 40 = .ok (.anewarray 32, 3) := by decide +kernel
theorem dX2_init_43 : decode cX2_init 43 = .ok (.putfield 34, 3) := by decide +kernel
theorem dX2_init_46 : decode cX2_init 46 = .ok (.aload_n 0, 1) := by decide +kernel
theorem dX2_init_47 : decode cX2_init 47 = .ok (.iconst 1, 1) := by decide +kernel
theorem dX2_init_48 : decode cX2_init 48 = .ok (.putfield 38, 3) := by decide +kernel
theorem dX2_init_51 : decode cX2_init 51 = .ok (.aload_n 0, 1) := by decide +kernel
theorem dX2_init_52 : decode cX2_init 52 = .ok (.iload_n 1, 1) := by decide +kernel
theorem dX2_init_53 : decode cX2_init 53 = .ok (.putfield 42, 3) := by decide +kernel
theorem dX2_init_56 : decode cX2_init 56 = .ok (.aload_n 0, 1) := by decide +kernel
theorem dX2_init_57 : decode cX2_init 57 = .ok (.iload_n 2, 1) := by decide +kernel
theorem dX2_init_58 : decode cX2_init 58 = .ok (.putfield 46, 3) := by decide +kernel
theorem dX2_init_61 : decode cX2_init 61 = .ok (.aload_n 0, 1) := by decide +kernel
theorem dX2_init_62 : decode cX2_init 62 = .ok (.aload_n 3, 1) := by decide +kernel
theorem dX2_init_63 : decode cX2_init 63 = .ok (.putfield 49, 3) := by decide +kernel
theorem dX2_init_66 : decode cX2_init 66 = .ok (.return_, 1) := by decide +kernel
theorem dX2_isOfPrimary_0 : decode cX2_isOfPrimary 0 = .ok (.aload_n 0, 1) := by decide +kernel
theorem dX2_isOfPrimary_1 : decode cX2_isOfPrimary 1 = .ok (.getfield 49, 3) := by decide +kernel
end
section
theorem dX2_isOfPrimary_4 : decode cX2_isOfPrimary 4 = .ok (.getfield 53, 3) := by decide +kernel
theorem dX2_isOfPrimary_7 : decode cX2_isOfPrimary 7 = .ok (.ifCond .le 21, 3) := by decide +kernel
theorem dX2_isOfPrimary_10 : decode cX2_isOfPrimary 10 = .ok (.aload_n 0, 1) := by decide +kernel
theorem dX2_isOfPrimary_11 : decode cX2_isOfPrimary 11 = .ok (.getfield 49, 3) := by decide +kernel
theorem dX2_isOfPrimary_14 : decode cX2_isOfPrimary 14 = .ok (.getfield 53, 3) := by decide +kernel
theorem dX2_isOfPrimary_17 : decode cX2_isOfPrimary 17 = .ok (.aload_n 0, 1) := by decide +kernel
theorem dX2_isOfPrimary_18 : decode cX2_isOfPrimary 18 = .ok (.getfield 56, 3) := by decide +kernel
theorem dX2_isOfPrimary_21 : decode cX2_isOfPrimary 21 = .ok (.if_icmp .ne 7, 3) := by decide +kernel
theorem dX2_isOfPrimary_24 : decode cX2_isOfPrimary 24 = .ok (.iconst 1, 1) := by decide +kernel
theorem dX2_isOfPrimary_25 : decode cX2_isOfPrimary 25 = .ok (.goto 4, 3) := by decide +kernel
theorem dX2_isOfPrimary_28 : decode cX2_isOfPrimary 28 = .ok (.iconst 0, 1) := by decide +kernel
theorem dX2_isOfPrimary_29 : decode cX2_isOfPrimary 29 = .ok (.ireturn, 1) := by decide +kernel
theorem dX2_isAheadOf_0 : decode cX2_isAheadOf 0 = .ok (.aload_n 0, 1) := by decide +kernel
theorem dX2_isAheadOf_1 : decode cX2_isAheadOf 1 = .ok (.getfield 56, 3) := by decide +kernel
theorem dX2_isAheadOf_4 : decode cX2_isAheadOf 4 = .ok (.aload_n 1, 1) := by decide +kernel
theorem dX2_isAheadOf_5 : decode cX2_isAheadOf 5 = .ok (.getfield 56, 3) := by decide +kernel
theorem dX2_isAheadOf_8 : decode cX2_isAheadOf 8 = .ok (.if_icmp .eq 20, 3) := by decide +kernel
theorem dX2_isAheadOf_11 : decode cX2_isAheadOf 11 = .ok (.aload_n 0, 1) := by decide +kernel
theorem dX2_isAheadOf_12 : decode cX2_isAheadOf 12 = .ok (.getfield 56, 3) := by decide +kernel
theorem dX2_isAheadOf_15 : decode cX2_isAheadOf 15 = .ok (.aload_n 1, 1) := by decide +kernel
theorem dX2_isAheadOf_16 : decode cX2_isAheadOf 16 = .ok (.getfield 56, 3) := by decide +kernel
theorem dX2_isAheadOf_19 : decode cX2_isAheadOf 19 = .ok (.if_icmp .le 7, 3) := by decide +kernel
theorem dX2_isAheadOf_22 : decode cX2_isAheadOf 22 = .ok (.iconst 1, 1) := by decide +kernel
theorem dX2_isAheadOf_23 : decode cX2_isAheadOf 23 = .ok (.goto 4, 3) := by decide +kernel
theorem dX2_isAheadOf_26 : decode cX2_isAheadOf 26 = .ok (.iconst 0, 1) := by decide +kernel
theorem dX2_isAheadOf_27 : decode cX2_isAheadOf 27 = .ok (.ireturn, 1) := by decide +kernel
theorem dX2_isAheadOf_28 : decode cX2_isAheadOf 28 = .ok (.aload_n 0, 1) := by decide +kernel
theorem dX2_isAheadOf_29 : decode cX2_isAheadOf 29 = .ok (.getfield 21, 3) := by decide +kernel
theorem dX2_isAheadOf_32 : decode cX2_isAheadOf 32 = .ok (.getfield 59, 3) := by decide +kernel
theorem dX2_isAheadOf_35 : decode cX2_isAheadOf 35 = .ok (.aload_n 1, 1) := by decide +kernel
theorem dX2_isAheadOf_36 : decode cX2_isAheadOf 36 = .ok (.getfield 21, 3) := by decide +kernel
theorem dX2_isAheadOf_39 : decode cX2_isAheadOf 39 = .ok (.getfield 59, 3) := by decide +kernel
theorem dX2_isAheadOf_42 : decode cX2_isAheadOf 42 = .ok (.if_icmp .eq 26, 3) := by decide +kernel
theorem dX2_isAheadOf_45 : decode cX2_isAheadOf 45 = .ok (.aload_n 0, 1) := by decide +kernel
theorem dX2_isAheadOf_46 : decode cX2_isAheadOf 46 = .ok (.getfield 21, 3) := by decide +kernel
theorem dX2_isAheadOf_49 : decode cX2_isAheadOf 49 = .ok (.getfield 59, 3) := by decide +kernel
theorem dX2_isAheadOf_52 : decode cX2_isAheadOf 52 = .ok (.aload_n 1, 1) := by decide +kernel
theorem dX2_isAheadOf_53 : decode cX2_isAheadOf 53 = .ok (.getfield 21, 3) := by decide +kernel
theorem dX2_isAheadOf_56 : decode cX2_isAheadOf 56 = .ok (.getfield 59, 3) := by decide +kernel
theorem dX2_isAheadOf_59 : decode cX2_isAheadOf 59 = .ok (.if_icmp .le 7, 3) := by decide +kernel
theorem dX2_isAheadOf_62 : decode cX2_isAheadOf 62 = .ok (.iconst 1, 1) := by decide +kernel
theorem dX2_isAheadOf_63 : decode cX2_isAheadOf 63 = .ok (.goto 4, 3) := by decide +kernel
theorem dX2_isAheadOf_66 : decode cX2_isAheadOf 66 = .ok (.iconst 0, 1) := by decide +kernel
theorem dX2_isAheadOf_67 : decode cX2_isAheadOf 67 = .ok (.ireturn, 1) := by decide +kernel
theorem dX2_isAheadOf_68 : decode cX2_isAheadOf 68 = .ok (.aload_n 0, 1) := by decide +kernel
theorem dX2_isAheadOf_69 : decode cX2_isAheadOf 69 = .ok (.getfield 42, 3) := by decide +kernel
theorem dX2_isAheadOf_72 : decode cX2_isAheadOf 72 = .ok (.aload_n 1, 1) := by decide +kernel
theorem dX2_isAheadOf_73 : decode cX2_isAheadOf 73 = .ok (.getfield 42, 3) := by decide +kernel
theorem dX2_isAheadOf_76 : decode cX2_isAheadOf 76 = .ok (.if_icmp .ge 7, 3) := by decide +kernel
theorem dX2_isAheadOf_79 : decode cX2_isAheadOf 79 = .ok (.iconst 1, 1) := by decide +kernel
theorem dX2_isAheadOf_80 : decode cX2_isAheadOf 80 = .ok (.goto 4, 3) := by decide +kernel
theorem dX2_isAheadOf_83 : decode cX2_isAheadOf 83 = .ok (.iconst 0, 1) := by decide +kernel
theorem dX2_isAheadOf_84 : decode cX2_isAheadOf 84 = .ok (.ireturn, 1) := by decide +kernel
theorem dX2_full_0 : decode cX2_full 0 = .ok (.iconst 0, 1) := by decide +kernel
theorem dX2_full_1 : decode cX2_full 1 = .ok (.istore_n 1, 1) := by decide +kernel
theorem dX2_full_2 : decode cX2_full 2 = .ok (.iload_n 1, 1) := by decide +kernel
theorem dX2_full_3 : decode cX2_full 3 = .ok (.bipush 100, 2) := by decide +kernel
theorem dX2_full_5 : decode cX2_full 5 = .ok (.if_icmp .ge 20, 3) := by decide +kernel
theorem dX2_full_8 : decode cX2_full 8 = .ok (.aload_n 0, 1) := by decide +kernel
theorem dX2_full_9 : decode cX2_full 9 = .ok (.getfield 34, 3) := by decide +kernel
theorem dX2_full_12 : decode cX2_full 12 = .ok (.iload_n 1, 1) := by decide +kernel
theorem dX2_full_13 : decode cX2_full 13 = .ok (.iconst 1, 1) := by decide +kernel
theorem dX2_full_14 : decode cX2_full 14 = .ok (.iadd, 1) := by decide +kernel
theorem dX2_full_15 : decode cX2_full 15 = .ok (.aaload, 1) := by decide +kernel
theorem dX2_full_16 : decode cX2_full 16 = .ok (.ifnull 9, 3) := by decide +kernel
theorem dX2_full_19 : decode cX2_full 19 = .ok (.iinc 1 1, 3) := by decide +kernel
theorem dX2_full_22 : decode cX2_full 22 = .ok (.goto (-20), 3) := by decide +kernel
theorem dX2_full_25 : decode cX2_full 25 = .ok (.iload_n 1, 1) := by decide +kernel
theorem dX2_full_26 : decode cX2_full 26 = .ok (.ireturn, 1) := by decide +kernel
set_option maxRecDepth 20000 in
theorem ggX2_receive_X2_isOfPrimary : GoodIn wsX2_receive wsX2_isOfPrimary := goodIn_r _ [9, 10, 11, 12, 13, 14, 15, 16, 17, 18, 19, 20, 21, 22, 23, 24, 25, 35, 36, 37, 38, 39, 40] (by decide +kernel) (by decide +kernel)
set_option maxRecDepth 20000 in
theorem gX2_receive_X2_isOfPrimary : GoodIn wsX2_receive (wsV RX2 65 RX2 yX2_isOfPrimary wsX2_isOfPrimary) := goodIn_app (goodIn_of _ (by decide +kernel)) ggX2_receive_X2_isOfPrimary
theorem dX2_receive_0 : decode cX2_receive 0 = .ok (.aload_n 0, 1) := by decide +kernel
theorem dX2_receive_1 : decode cX2_receive 1 = .ok (.getfield 34, 3) := by decide +kernel
theorem dX2_receive_4 : decode cX2_receive 4 = .ok (.iload_n 1, 1) := by decide +kernel
theorem dX2_receive_5 : decode cX2_receive 5 = .ok (.aload_n 2, 1) := by decide +kernel
theorem dX2_receive_6 : decode cX2_receive 6 = .ok (.aastore, 1) := by decide +kernel
theorem dX2_receive_7 : decode cX2_receive 7 = .ok (.aload_n 2, 1) := by decide +kernel
theorem dX2_receive_8 : decode cX2_receive 8 = .ok (.getfield 62, 3) := by decide +kernel
theorem dX2_receive_11 : decode cX2_receive 11 = .ok (.ifCond .eq 20, 3) := by decide +kernel
theorem dX2_receive_14 : decode cX2_receive 14 = .ok (.aload_n 0, 1) := by decide +kernel
theorem dX2_receive_15 : decode cX2_receive 15 = .ok (.invokevirtual 65, 3) := by decide +kernel
theorem dX2_receive_18 : decode cX2_receive 18 = .ok (.ifCond .eq 13, 3) := by decide +kernel
theorem dX2_receive_21 : decode cX2_receive 21 = .ok (.aload_n 0, 1) := by decide +kernel
theorem dX2_receive_22 : decode cX2_receive 22 = .ok (.getfield 21, 3) := by decide +kernel
theorem dX2_receive_25 : decode cX2_receive 25 = .ok (.getfield 69, 3) := by decide +kernel
theorem dX2_receive_28 : decode cX2_receive 28 = .ok (.iload_n 1, 1) := by decide +kernel
theorem dX2_receive_29 : decode cX2_receive 29 = .ok (.aload_n 2, 1) := by decide +kernel
theorem dX2_receive_30 : decode cX2_receive 30 = .ok (.aastore, 1) := by decide +kernel
theorem dX2_receive_31 : decode cX2_receive 31 = .ok (.return_, 1) := by decide +kernel
set_option maxRecDepth 20000 in
theorem ggX2_deliverInTurn_X2_tell : GoodIn wsX2_deliverInTurn wsX2_tell := goodIn_r _ [10, 1, 11, 12, 13, 14, 15, 16, 17, 18, 19, 20, 21, 22, 23, 24, 25, 26, 27, 45, 46, 47, 48, 49, 50, 51, 52, 53, 54, 55, 56, 57, 58, 59, 60, 61, 62, 63, 64, 65, 66, 67, 68, 69] (by decide +kernel) (by decide +kernel)
set_option maxRecDepth 20000 in
theorem gX2_deliverInTurn_X2_tell : GoodIn wsX2_deliverInTurn (wsV RX2 78 RX2 yX2_tell wsX2_tell) := goodIn_app (goodIn_of _ (by decide +kernel)) ggX2_deliverInTurn_X2_tell
set_option maxRecDepth 20000 in
theorem ggX2_deliverInTurn_X2_isOfPrimary : GoodIn wsX2_deliverInTurn wsX2_isOfPrimary := goodIn_r _ [31, 15, 16, 32, 45, 46, 47, 48, 49, 50, 51, 52, 53, 54, 55, 56, 57, 62, 63, 64, 65, 66, 67] (by decide +kernel) (by decide +kernel)
set_option maxRecDepth 20000 in
theorem gX2_deliverInTurn_X2_isOfPrimary : GoodIn wsX2_deliverInTurn (wsV RX2 65 RX2 yX2_isOfPrimary wsX2_isOfPrimary) := goodIn_app (goodIn_of _ (by decide +kernel)) ggX2_deliverInTurn_X2_isOfPrimary
set_option maxRecDepth 20000 in
theorem ggX2_deliverInTurn_X4_apply : GoodIn wsX2_deliverInTurn wsX4_apply := goodIn_r _ [37, 38, 39, 40, 41, 42, 43, 44, 70, 71, 72, 73, 74, 58, 59, 60, 61] (by decide +kernel) (by decide +kernel)
set_option maxRecDepth 20000 in
theorem gX2_deliverInTurn_X4_apply : GoodIn wsX2_deliverInTurn (wsV RX2 82 RX4 yX4_apply wsX4_apply) := goodIn_app (goodIn_of _ (by decide +kernel)) ggX2_deliverInTurn_X4_apply
theorem dX2_deliverInTurn_0 : decode cX2_deliverInTurn 0 = .ok (.aload_n 0, 1) := by decide +kernel
theorem dX2_deliverInTurn_1 : decode cX2_deliverInTurn 1 = .ok (.getfield 72, 3) := by decide +kernel
theorem dX2_deliverInTurn_4 : decode cX2_deliverInTurn 4 = .ok (.istore_n 1, 1) := by decide +kernel
theorem dX2_deliverInTurn_5 : decode cX2_deliverInTurn 5 = .ok (.iload_n 1, 1) := by decide +kernel
theorem dX2_deliverInTurn_6 : decode cX2_deliverInTurn 6 = .ok (.iconst 1, 1) := by decide +kernel
theorem dX2_deliverInTurn_7 : decode cX2_deliverInTurn 7 = .ok (.iadd, 1) := by decide +kernel
theorem dX2_deliverInTurn_8 : decode cX2_deliverInTurn 8 = .ok (.istore_n 2, 1) := by decide +kernel
theorem dX2_deliverInTurn_9 : decode cX2_deliverInTurn 9 = .ok (.iload_n 2, 1) := by decide +kernel
theorem dX2_deliverInTurn_10 : decode cX2_deliverInTurn 10 = .ok (.bipush 100, 2) := by decide +kernel
theorem dX2_deliverInTurn_12 : decode cX2_deliverInTurn 12 = .ok (.if_icmp .gt 67, 3) := by decide +kernel
theorem dX2_deliverInTurn_15 : decode cX2_deliverInTurn 15 = .ok (.aload_n 0, 1) := by decide +kernel
theorem dX2_deliverInTurn_16 : decode cX2_deliverInTurn 16 = .ok (.getfield 34, 3) := by decide +kernel
theorem dX2_deliverInTurn_19 : decode cX2_deliverInTurn 19 = .ok (.iload_n 2, 1) := by decide +kernel
theorem dX2_deliverInTurn_20 : decode cX2_deliverInTurn 20 = .ok (.aaload, 1) := by decide +kernel
theorem dX2_deliverInTurn_21 : decode cX2_deliverInTurn 21 = .ok (.astore_n 3, 1) := by decide +kernel
theorem dX2_deliverInTurn_22 : decode cX2_deliverInTurn 22 = .ok (.aload_n 3, 1) := by decide +kernel
theorem dX2_deliverInTurn_23 : decode cX2_deliverInTurn 23 = .ok (.ifnull 56, 3) := by decide +kernel
theorem dX2_deliverInTurn_26 : decode cX2_deliverInTurn 26 = .ok (.aload_n 3, 1) := by decide +kernel
theorem dX2_deliverInTurn_27 : decode cX2_deliverInTurn 27 = .ok (.getfield 62, 3) := by decide +kernel
theorem dX2_deliverInTurn_30 : decode cX2_deliverInTurn 30 = .ok (.ifCond .eq 14, 3) := by decide +kernel
theorem dX2_deliverInTurn_33 : decode cX2_deliverInTurn 33 = .ok (.iload_n 2, 1) := by decide +kernel
theorem dX2_deliverInTurn_34 : decode cX2_deliverInTurn 34 = .ok (.aload_n 0, 1) := by decide +kernel
theorem dX2_deliverInTurn_35 : decode cX2_deliverInTurn 35 = .ok (.getfield 75, 3) := by decide +kernel
theorem dX2_deliverInTurn_38 : decode cX2_deliverInTurn 38 = .ok (.if_icmp .le 6, 3) := by decide +kernel
theorem dX2_deliverInTurn_41 : decode cX2_deliverInTurn 41 = .ok (.goto 38, 3) := by decide +kernel
theorem dX2_deliverInTurn_44 : decode cX2_deliverInTurn 44 = .ok (.aload_n 0, 1) := by decide +kernel
theorem dX2_deliverInTurn_45 : decode cX2_deliverInTurn 45 = .ok (.iload_n 2, 1) := by decide +kernel
theorem dX2_deliverInTurn_46 : decode cX2_deliverInTurn 46 = .ok (.aload_n 3, 1) := by decide +kernel
theorem dX2_deliverInTurn_47 : decode cX2_deliverInTurn 47 = .ok (.invokevirtual 78, 3) := by decide +kernel
theorem dX2_deliverInTurn_50 : decode cX2_deliverInTurn 50 = .ok (.aload_n 3, 1) := by decide +kernel
theorem dX2_deliverInTurn_51 : decode cX2_deliverInTurn 51 = .ok (.getfield 62, 3) := by decide +kernel
theorem dX2_deliverInTurn_54 : decode cX2_deliverInTurn 54 = .ok (.ifCond .eq 19, 3) := by decide +kernel
theorem dX2_deliverInTurn_57 : decode cX2_deliverInTurn 57 = .ok (.aload_n 0, 1) := by decide +kernel
theorem dX2_deliverInTurn_58 : decode cX2_deliverInTurn 58 = .ok (.invokevirtual 65, 3) := by decide +kernel
theorem dX2_deliverInTurn_61 : decode cX2_deliverInTurn 61 = .ok (.ifCond .eq 12, 3) := by decide +kernel
theorem dX2_deliverInTurn_64 : decode cX2_deliverInTurn 64 = .ok (.aload_n 0, 1) := by decide +kernel
theorem dX2_deliverInTurn_65 : decode cX2_deliverInTurn 65 = .ok (.getfield 21, 3) := by decide +kernel
theorem dX2_deliverInTurn_68 : decode cX2_deliverInTurn 68 = .ok (.iload_n 2, 1) := by decide +kernel
theorem dX2_deliverInTurn_69 : decode cX2_deliverInTurn 69 = .ok (.aload_n 3, 1) := by decide +kernel
theorem dX2_deliverInTurn_70 : decode cX2_deliverInTurn 70 = .ok (.invokevirtual 82, 3) := by decide +kernel
theorem dX2_deliverInTurn_73 : decode cX2_deliverInTurn 73 = .ok (.iinc 2 1, 3) := by decide +kernel
theorem dX2_deliverInTurn_76 : decode cX2_deliverInTurn 76 = .ok (.goto (-67), 3) := by decide +kernel
theorem dX2_deliverInTurn_79 : decode cX2_deliverInTurn 79 = .ok (.aload_n 0, 1) := by decide +kernel
theorem dX2_deliverInTurn_80 : decode cX2_deliverInTurn 80 = .ok (.getfield 72, 3) := by decide +kernel
theorem dX2_deliverInTurn_83 : decode cX2_deliverInTurn 83 = .ok (.iload_n 1, 1) := by decide +kernel
theorem dX2_deliverInTurn_84 : decode cX2_deliverInTurn 84 = .ok (.isub, 1) := by decide +kernel
theorem dX2_deliverInTurn_85 : decode cX2_deliverInTurn 85 = .ok (.ireturn, 1) := by decide +kernel
set_option maxRecDepth 20000 in
theorem ggX2_deliverLeft_X6_isIn : GoodIn wsX2_deliverLeft wsX6_isIn := goodIn_r _ [6] (by decide +kernel) (by decide +kernel)
set_option maxRecDepth 20000 in
theorem gX2_deliverLeft_X6_isIn_n88 : GoodIn wsX2_deliverLeft (wsX6_isIn) := ggX2_deliverLeft_X6_isIn
set_option maxRecDepth 20000 in
theorem ggX2_deliverLeft_X2_tell : GoodIn wsX2_deliverLeft wsX2_tell := goodIn_r _ [11, 1, 12, 3, 13, 14, 15, 16, 17, 18, 19, 20, 21, 22, 23, 24, 25, 26, 27, 28, 29, 30, 31, 32, 33, 34, 35, 36, 37, 38, 39, 40, 41, 42, 43, 44, 45, 46, 47, 48, 49, 50, 51, 52] (by decide +kernel) (by decide +kernel)
set_option maxRecDepth 20000 in
theorem gX2_deliverLeft_X2_tell : GoodIn wsX2_deliverLeft (wsV RX2 78 RX2 yX2_tell wsX2_tell) := goodIn_app (goodIn_of _ (by decide +kernel)) ggX2_deliverLeft_X2_tell
theorem dX2_deliverLeft_0 : decode cX2_deliverLeft 0 = .ok (.iconst 0, 1) := by decide +kernel
theorem dX2_deliverLeft_1 : decode cX2_deliverLeft 1 = .ok (.istore_n 2, 1) := by decide +kernel
theorem dX2_deliverLeft_2 : decode cX2_deliverLeft 2 = .ok (.aload_n 0, 1) := by decide +kernel
theorem dX2_deliverLeft_3 : decode cX2_deliverLeft 3 = .ok (.getfield 72, 3) := by decide +kernel
theorem dX2_deliverLeft_6 : decode cX2_deliverLeft 6 = .ok (.iconst 1, 1) := by decide +kernel
theorem dX2_deliverLeft_7 : decode cX2_deliverLeft 7 = .ok (.iadd, 1) := by decide +kernel
theorem dX2_deliverLeft_8 : decode cX2_deliverLeft 8 = .ok (.istore_n 3, 1) := by decide +kernel
theorem dX2_deliverLeft_9 : decode cX2_deliverLeft 9 = .ok (.iload_n 3, 1) := by decide +kernel
theorem dX2_deliverLeft_10 : decode cX2_deliverLeft 10 = .ok (.bipush 100, 2) := by decide +kernel
theorem dX2_deliverLeft_12 : decode cX2_deliverLeft 12 = .ok (.if_icmp .gt 50, 3) := by decide +kernel
theorem dX2_deliverLeft_15 : decode cX2_deliverLeft 15 = .ok (.aload_n 0, 1) := by decide +kernel
theorem dX2_deliverLeft_16 : decode cX2_deliverLeft 16 = .ok (.getfield 34, 3) := by decide +kernel
theorem dX2_deliverLeft_19 : decode cX2_deliverLeft 19 = .ok (.iload_n 3, 1) := by decide +kernel
theorem dX2_deliverLeft_20 : decode cX2_deliverLeft 20 = .ok (.aaload, 1) := by decide +kernel
theorem dX2_deliverLeft_21 : decode cX2_deliverLeft 21 = .ok (.astore 4, 2) := by decide +kernel
theorem dX2_deliverLeft_23 : decode cX2_deliverLeft 23 = .ok (.aload 4, 2) := by decide +kernel
theorem dX2_deliverLeft_25 : decode cX2_deliverLeft 25 = .ok (.ifnonnull 8, 3) := by decide +kernel
theorem dX2_deliverLeft_28 : decode cX2_deliverLeft 28 = .ok (.iconst 1, 1) := by decide +kernel
theorem dX2_deliverLeft_29 : decode cX2_deliverLeft 29 = .ok (.istore_n 2, 1) := by decide +kernel
theorem dX2_deliverLeft_30 : decode cX2_deliverLeft 30 = .ok (.goto 26, 3) := by decide +kernel
theorem dX2_deliverLeft_33 : decode cX2_deliverLeft 33 = .ok (.iload_n 2, 1) := by decide +kernel
theorem dX2_deliverLeft_34 : decode cX2_deliverLeft 34 = .ok (.ifCond .eq 15, 3) := by decide +kernel
theorem dX2_deliverLeft_37 : decode cX2_deliverLeft 37 = .ok (.aload 4, 2) := by decide +kernel
theorem dX2_deliverLeft_39 : decode cX2_deliverLeft 39 = .ok (.getfield 85, 3) := by decide +kernel
theorem dX2_deliverLeft_42 : decode cX2_deliverLeft 42 = .ok (.iload_n 1, 1) := by decide +kernel
theorem dX2_deliverLeft_43 : decode cX2_deliverLeft 43 = .ok (.invokestatic 88, 3) := by decide +kernel
theorem dX2_deliverLeft_46 : decode cX2_deliverLeft 46 = .ok (.ifCond .eq 10, 3) := by decide +kernel
theorem dX2_deliverLeft_49 : decode cX2_deliverLeft 49 = .ok (.aload_n 0, 1) := by decide +kernel
theorem dX2_deliverLeft_50 : decode cX2_deliverLeft 50 = .ok (.iload_n 3, 1) := by decide +kernel
theorem dX2_deliverLeft_51 : decode cX2_deliverLeft 51 = .ok (.aload 4, 2) := by decide +kernel
theorem dX2_deliverLeft_53 : decode cX2_deliverLeft 53 = .ok (.invokevirtual 78, 3) := by decide +kernel
theorem dX2_deliverLeft_56 : decode cX2_deliverLeft 56 = .ok (.iinc 3 1, 3) := by decide +kernel
theorem dX2_deliverLeft_59 : decode cX2_deliverLeft 59 = .ok (.goto (-50), 3) := by decide +kernel
theorem dX2_deliverLeft_62 : decode cX2_deliverLeft 62 = .ok (.return_, 1) := by decide +kernel
set_option maxRecDepth 20000 in
theorem ggX2_tell_X0_add : GoodIn wsX2_tell wsX0_add := goodIn_r _ [12, 13, 14, 15, 16, 17, 18, 42, 43] (by decide +kernel) (by decide +kernel)
set_option maxRecDepth 20000 in
theorem gX2_tell_X0_add : GoodIn wsX2_tell (wsV RX2 99 RX0 yX0_add wsX0_add) := goodIn_app (goodIn_of _ (by decide +kernel)) ggX2_tell_X0_add
theorem dX2_tell_0 : decode cX2_tell 0 = .ok (.aload_n 0, 1) := by decide +kernel
theorem dX2_tell_1 : decode cX2_tell 1 = .ok (.iload_n 1, 1) := by decide +kernel
theorem dX2_tell_2 : decode cX2_tell 2 = .ok (.putfield 72, 3) := by decide +kernel
theorem dX2_tell_5 : decode cX2_tell 5 = .ok (.aload_n 0, 1) := by decide +kernel
theorem dX2_tell_6 : decode cX2_tell 6 = .ok (.getfield 28, 3) := by decide +kernel
theorem dX2_tell_9 : decode cX2_tell 9 = .ok (.iconst 1, 1) := by decide +kernel
theorem dX2_tell_10 : decode cX2_tell 10 = .ok (.iload_n 1, 1) := by decide +kernel
theorem dX2_tell_11 : decode cX2_tell 11 = .ok (.aload_n 2, 1) := by decide +kernel
theorem dX2_tell_12 : decode cX2_tell 12 = .ok (.getfield 85, 3) := by decide +kernel
theorem dX2_tell_15 : decode cX2_tell 15 = .ok (.aload_n 2, 1) := by decide +kernel
theorem dX2_tell_16 : decode cX2_tell 16 = .ok (.getfield 92, 3) := by decide +kernel
theorem dX2_tell_19 : decode cX2_tell 19 = .ok (.aload_n 2, 1) := by decide +kernel
theorem dX2_tell_20 : decode cX2_tell 20 = .ok (.getfield 95, 3) := by decide +kernel
theorem dX2_tell_23 : decode cX2_tell 23 = .ok (.aload_n 0, 1) := by decide +kernel
theorem dX2_tell_24 : decode cX2_tell 24 = .ok (.getfield 49, 3) := by decide +kernel
theorem dX2_tell_27 : decode cX2_tell 27 = .ok (.getfield 53, 3) := by decide +kernel
theorem dX2_tell_30 : decode cX2_tell 30 = .ok (.invokevirtual 99, 3) := by decide +kernel
theorem dX2_tell_33 : decode cX2_tell 33 = .ok (.return_, 1) := by decide +kernel
theorem dX2_leaveRing_0 : decode cX2_leaveRing 0 = .ok (.aload_n 0, 1) := by decide +kernel
theorem dX2_leaveRing_1 : decode cX2_leaveRing 1 = .ok (.getfield 49, 3) := by decide +kernel
theorem dX2_leaveRing_4 : decode cX2_leaveRing 4 = .ok (.getfield 103, 3) := by decide +kernel
theorem dX2_leaveRing_7 : decode cX2_leaveRing 7 = .ok (.aload_n 0, 1) := by decide +kernel
theorem dX2_leaveRing_8 : decode cX2_leaveRing 8 = .ok (.getfield 42, 3) := by decide +kernel
theorem dX2_leaveRing_11 : decode cX2_leaveRing 11 = .ok (.if_icmp .ne 11, 3) := by decide +kernel
theorem dX2_leaveRing_14 : decode cX2_leaveRing 14 = .ok (.aload_n 0, 1) := by decide +kernel
theorem dX2_leaveRing_15 : decode cX2_leaveRing 15 = .ok (.getfield 49, 3) := by decide +kernel
theorem dX2_leaveRing_18 : decode cX2_leaveRing 18 = .ok (.iconst (-1), 1) := by decide +kernel
theorem dX2_leaveRing_19 : decode cX2_leaveRing 19 = .ok (.putfield 103, 3) := by decide +kernel
theorem dX2_leaveRing_22 : decode cX2_leaveRing 22 = .ok (.aload_n 0, 1) := by decide +kernel
theorem dX2_leaveRing_23 : decode cX2_leaveRing 23 = .ok (.aload_n 1, 1) := by decide +kernel
theorem dX2_leaveRing_24 : decode cX2_leaveRing 24 = .ok (.putfield 49, 3) := by decide +kernel
theorem dX2_leaveRing_27 : decode cX2_leaveRing 27 = .ok (.aload_n 0, 1) := by decide +kernel
theorem dX2_leaveRing_28 : decode cX2_leaveRing 28 = .ok (.iconst 0, 1) := by decide +kernel
theorem dX2_leaveRing_29 : decode cX2_leaveRing 29 = .ok (.putfield 72, 3) := by decide +kernel
theorem dX2_leaveRing_32 : decode cX2_leaveRing 32 = .ok (.aload_n 0, 1) := by decide +kernel
theorem dX2_leaveRing_33 : decode cX2_leaveRing 33 = .ok (.iconst 0, 1) := by decide +kernel
theorem dX2_leaveRing_34 : decode cX2_leaveRing 34 = .ok (.putfield 75, 3) := by decide +kernel
theorem dX2_leaveRing_37 : decode cX2_leaveRing 37 = .ok (.iconst 0, 1) := by decide +kernel
theorem dX2_leaveRing_38 : decode cX2_leaveRing 38 = .ok (.istore_n 2, 1) := by decide +kernel
theorem dX2_leaveRing_39 : decode cX2_leaveRing 39 = .ok (.iload_n 2, 1) := by decide +kernel
theorem dX2_leaveRing_40 : decode cX2_leaveRing 40 = .ok (.bipush 100, 2) := by decide +kernel
theorem dX2_leaveRing_42 : decode cX2_leaveRing 42 = .ok (.if_icmp .gt 16, 3) := by decide +kernel
theorem dX2_leaveRing_45 : decode cX2_leaveRing 45 = .ok (.aload_n 0, 1) := by decide +kernel
theorem dX2_leaveRing_46 : decode cX2_leaveRing 46 = .ok (.getfield 34, 3) := by decide +kernel
theorem dX2_leaveRing_49 : decode cX2_leaveRing 49 = .ok (.iload_n 2, 1) := by decide +kernel
theorem dX2_leaveRing_50 : decode cX2_leaveRing 50 = .ok (.aconst_null, 1) := by decide +kernel
theorem dX2_leaveRing_51 : decode cX2_leaveRing 51 = .ok (.aastore, 1) := by decide +kernel
theorem dX2_leaveRing_52 : decode cX2_leaveRing 52 = .ok (.iinc 2 1, 3) := by decide +kernel
theorem dX2_leaveRing_55 : decode cX2_leaveRing 55 = .ok (.goto (-16), 3) := by decide +kernel
theorem dX2_leaveRing_58 : decode cX2_leaveRing 58 = .ok (.return_, 1) := by decide +kernel
set_option maxRecDepth 20000 in
theorem ggX2_joinRing_X4_forgetKept : GoodIn wsX2_joinRing wsX4_forgetKept := goodIn_r _ [13, 14, 15, 46, 47, 48, 49, 50] (by decide +kernel) (by decide +kernel)
set_option maxRecDepth 20000 in
theorem gX2_joinRing_X4_forgetKept : GoodIn wsX2_joinRing (wsV RX2 112 RX4 yX4_forgetKept wsX4_forgetKept) := goodIn_app (goodIn_of _ (by decide +kernel)) ggX2_joinRing_X4_forgetKept
set_option maxRecDepth 20000 in
theorem ggX2_joinRing_X0_add : GoodIn wsX2_joinRing wsX0_add := goodIn_r _ [20, 21, 22, 23, 24, 25, 26, 51, 52] (by decide +kernel) (by decide +kernel)
set_option maxRecDepth 20000 in
theorem gX2_joinRing_X0_add : GoodIn wsX2_joinRing (wsV RX2 99 RX0 yX0_add wsX0_add) := goodIn_app (goodIn_of _ (by decide +kernel)) ggX2_joinRing_X0_add
theorem dX2_joinRing_0 : decode cX2_joinRing 0 = .ok (.aload_n 0, 1) := by decide +kernel
theorem dX2_joinRing_1 : decode cX2_joinRing 1 = .ok (.aload_n 1, 1) := by decide +kernel
theorem dX2_joinRing_2 : decode cX2_joinRing 2 = .ok (.putfield 49, 3) := by decide +kernel
theorem dX2_joinRing_5 : decode cX2_joinRing 5 = .ok (.aload_n 0, 1) := by decide +kernel
theorem dX2_joinRing_6 : decode cX2_joinRing 6 = .ok (.aload_n 1, 1) := by decide +kernel
theorem dX2_joinRing_7 : decode cX2_joinRing 7 = .ok (.getfield 53, 3) := by decide +kernel
theorem dX2_joinRing_10 : decode cX2_joinRing 10 = .ok (.putfield 106, 3) := by decide +kernel
theorem dX2_joinRing_13 : decode cX2_joinRing 13 = .ok (.iload_n 2, 1) := by decide +kernel
theorem dX2_joinRing_14 : decode cX2_joinRing 14 = .ok (.ifCond .eq 26, 3) := by decide +kernel
theorem dX2_joinRing_17 : decode cX2_joinRing 17 = .ok (.aload_n 0, 1) := by decide +kernel
theorem dX2_joinRing_18 : decode cX2_joinRing 18 = .ok (.aload_n 1, 1) := by decide +kernel
theorem dX2_joinRing_19 : decode cX2_joinRing 19 = .ok (.getfield 53, 3) := by decide +kernel
theorem dX2_joinRing_22 : decode cX2_joinRing 22 = .ok (.putfield 56, 3) := by decide +kernel
theorem dX2_joinRing_25 : decode cX2_joinRing 25 = .ok (.aload_n 0, 1) := by decide +kernel
theorem dX2_joinRing_26 : decode cX2_joinRing 26 = .ok (.aload_n 1, 1) := by decide +kernel
theorem dX2_joinRing_27 : decode cX2_joinRing 27 = .ok (.getfield 109, 3) := by decide +kernel
theorem dX2_joinRing_30 : decode cX2_joinRing 30 = .ok (.putfield 46, 3) := by decide +kernel
theorem dX2_joinRing_33 : decode cX2_joinRing 33 = .ok (.aload_n 0, 1) := by decide +kernel
theorem dX2_joinRing_34 : decode cX2_joinRing 34 = .ok (.getfield 21, 3) := by decide +kernel
theorem dX2_joinRing_37 : decode cX2_joinRing 37 = .ok (.invokevirtual 112, 3) := by decide +kernel
theorem dX2_joinRing_40 : decode cX2_joinRing 40 = .ok (.aload_n 0, 1) := by decide +kernel
theorem dX2_joinRing_41 : decode cX2_joinRing 41 = .ok (.getfield 28, 3) := by decide +kernel
theorem dX2_joinRing_44 : decode cX2_joinRing 44 = .ok (.iconst 3, 1) := by decide +kernel
theorem dX2_joinRing_45 : decode cX2_joinRing 45 = .ok (.aload_n 1, 1) := by decide +kernel
theorem dX2_joinRing_46 : decode cX2_joinRing 46 = .ok (.getfield 109, 3) := by decide +kernel
theorem dX2_joinRing_49 : decode cX2_joinRing 49 = .ok (.iconst 0, 1) := by decide +kernel
theorem dX2_joinRing_50 : decode cX2_joinRing 50 = .ok (.iconst 0, 1) := by decide +kernel
theorem dX2_joinRing_51 : decode cX2_joinRing 51 = .ok (.lconst 0, 1) := by decide +kernel
theorem dX2_joinRing_52 : decode cX2_joinRing 52 = .ok (.aload_n 1, 1) := by decide +kernel
theorem dX2_joinRing_53 : decode cX2_joinRing 53 = .ok (.getfield 53, 3) := by decide +kernel
theorem dX2_joinRing_56 : decode cX2_joinRing 56 = .ok (.invokevirtual 99, 3) := by decide +kernel
theorem dX2_joinRing_59 : decode cX2_joinRing 59 = .ok (.return_, 1) := by decide +kernel
theorem dX3_init_0 : decode cX3_init 0 = .ok (.aload_n 0, 1) := by decide +kernel
theorem dX3_init_1 : decode cX3_init 1 = .ok (.invokespecial 3, 3) := by decide +kernel
theorem dX3_init_4 : decode cX3_init 4 = .ok (.aload_n 0, 1) := by decide +kernel
theorem dX3_init_5 : decode cX3_init 5 = .ok (.bipush 12, 2) := by decide +kernel
theorem dX3_init_7 : decode cX3_init 7 = .ok (.anewarray 9, 3) := by decide +kernel
theorem dX3_init_10 : decode cX3_init 10 = .ok (.putfield 11, 3) := by decide +kernel
theorem dX3_init_13 : decode cX3_init 13 = .ok (.return_, 1) := by decide +kernel
theorem dX3_isFull_0 : decode cX3_isFull 0 = .ok (.aload_n 0, 1) := by decide +kernel
theorem dX3_isFull_1 : decode cX3_isFull 1 = .ok (.getfield 17, 3) := by decide +kernel
theorem dX3_isFull_4 : decode cX3_isFull 4 = .ok (.bipush 12, 2) := by decide +kernel
theorem dX3_isFull_6 : decode cX3_isFull 6 = .ok (.if_icmp .lt 7, 3) := by decide +kernel
theorem dX3_isFull_9 : decode cX3_isFull 9 = .ok (.iconst 1, 1) := by decide +kernel
theorem dX3_isFull_10 : decode cX3_isFull 10 = .ok (.goto 4, 3) := by decide +kernel
theorem dX3_isFull_13 : decode cX3_isFull 13 = .ok (.iconst 0, 1) := by decide +kernel
theorem dX3_isFull_14 : decode cX3_isFull 14 = .ok (.ireturn, 1) := by decide +kernel
theorem dX3_put_0 : decode cX3_put 0 = .ok (.aload_n 0, 1) := by decide +kernel
theorem dX3_put_1 : decode cX3_put 1 = .ok (.getfield 11, 3) := by decide +kernel
theorem dX3_put_4 : decode cX3_put 4 = .ok (.aload_n 0, 1) := by decide +kernel
theorem dX3_put_5 : decode cX3_put 5 = .ok (.getfield 17, 3) := by decide +kernel
theorem dX3_put_8 : decode cX3_put 8 = .ok (.aload_n 1, 1) := by decide +kernel
theorem dX3_put_9 : decode cX3_put 9 = .ok (.aastore, 1) := by decide +kernel
theorem dX3_put_10 : decode cX3_put 10 = .ok (.aload_n 0, 1) := by decide +kernel
theorem dX3_put_11 : decode cX3_put 11 = .ok (.dup, 1) := by decide +kernel
theorem dX3_put_12 : decode cX3_put 12 = .ok (.getfield 17, 3) := by decide +kernel
theorem dX3_put_15 : decode cX3_put 15 = .ok (.iconst 1, 1) := by decide +kernel
theorem dX3_put_16 : decode cX3_put 16 = .ok (.iadd, 1) := by decide +kernel
theorem dX3_put_17 : decode cX3_put 17 = .ok (.putfield 17, 3) := by decide +kernel
theorem dX3_put_20 : decode cX3_put 20 = .ok (.aload_n 0, 1) := by decide +kernel
theorem dX3_put_21 : decode cX3_put 21 = .ok (.getfield 17, 3) := by decide +kernel
theorem dX3_put_24 : decode cX3_put 24 = .ok (.ireturn, 1) := by decide +kernel
theorem dX3_takeFirst_0 : decode cX3_takeFirst 0 = .ok (.aload_n 0, 1) := by decide +kernel
theorem dX3_takeFirst_1 : decode cX3_takeFirst 1 = .ok (.getfield 17, 3) := by decide +kernel
theorem dX3_takeFirst_4 : decode cX3_takeFirst 4 = .ok (.ifCond .ne 5, 3) := by decide +kernel
theorem dX3_takeFirst_7 : decode cX3_takeFirst 7 = .ok (.aconst_null, 1) := by decide +kernel
theorem dX3_takeFirst_8 : decode cX3_takeFirst 8 = .ok (.areturn, 1) := by decide +kernel
theorem dX3_takeFirst_9 : decode cX3_takeFirst 9 = .ok (.aload_n 0, 1) := by decide +kernel
theorem dX3_takeFirst_10 : decode cX3_takeFirst 10 = .ok (.getfield 11, 3) := by decide +kernel
theorem dX3_takeFirst_13 : decode cX3_takeFirst 13 = .ok (.iconst 0, 1) := by decide +kernel
theorem dX3_takeFirst_14 : decode cX3_takeFirst 14 = .ok (.aaload, 1) := by decide +kernel
theorem dX3_takeFirst_15 : decode cX3_takeFirst 15 = .ok (.astore_n 1, 1) := by decide +kernel
theorem dX3_takeFirst_16 : decode cX3_takeFirst 16 = .ok (.aload_n 0, 1) := by decide +kernel
theorem dX3_takeFirst_17 : decode cX3_takeFirst 17 = .ok (.dup, 1) := by decide +kernel
theorem dX3_takeFirst_18 : decode cX3_takeFirst 18 = .ok (.getfield 17, 3) := by decide +kernel
theorem dX3_takeFirst_21 : decode cX3_takeFirst 21 = .ok (.iconst 1, 1) := by decide +kernel
theorem dX3_takeFirst_22 : decode cX3_takeFirst 22 = .ok (.isub, 1) := by decide +kernel
theorem dX3_takeFirst_23 : decode cX3_takeFirst 23 = .ok (.putfield 17, 3) := by decide +kernel
theorem dX3_takeFirst_26 : decode cX3_takeFirst 26 = .ok (.iconst 0, 1) := by decide +kernel
theorem dX3_takeFirst_27 : decode cX3_takeFirst 27 = .ok (.istore_n 2, 1) := by decide +kernel
theorem dX3_takeFirst_28 : decode cX3_takeFirst 28 = .ok (.iload_n 2, 1) := by decide +kernel
theorem dX3_takeFirst_29 : decode cX3_takeFirst 29 = .ok (.aload_n 0, 1) := by decide +kernel
theorem dX3_takeFirst_30 : decode cX3_takeFirst 30 = .ok (.getfield 17, 3) := by decide +kernel
theorem dX3_takeFirst_33 : decode cX3_takeFirst 33 = .ok (.if_icmp .ge 23, 3) := by decide +kernel
theorem dX3_takeFirst_36 : decode cX3_takeFirst 36 = .ok (.aload_n 0, 1) := by decide +kernel
theorem dX3_takeFirst_37 : decode cX3_takeFirst 37 = .ok (.getfield 11, 3) := by decide +kernel
theorem dX3_takeFirst_40 : decode cX3_takeFirst 40 = .ok (.iload_n 2, 1) := by decide +kernel
theorem dX3_takeFirst_41 : decode cX3_takeFirst 41 = .ok (.aload_n 0, 1) := by decide +kernel
theorem dX3_takeFirst_42 : decode cX3_takeFirst 42 = .ok (.getfield 11, 3) := by decide +kernel
theorem dX3_takeFirst_45 : decode cX3_takeFirst 45 = .ok (.iload_n 2, 1) := by decide +kernel
theorem dX3_takeFirst_46 : decode cX3_takeFirst 46 = .ok (.iconst 1, 1) := by decide +kernel
theorem dX3_takeFirst_47 : decode cX3_takeFirst 47 = .ok (.iadd, 1) := by decide +kernel
theorem dX3_takeFirst_48 : decode cX3_takeFirst 48 = .ok (.aaload, 1) := by decide +kernel
theorem dX3_takeFirst_49 : decode cX3_takeFirst 49 = .ok (.aastore, 1) := by decide +kernel
theorem dX3_takeFirst_50 : decode cX3_takeFirst 50 = .ok (.iinc 2 1, 3) := by decide +kernel
theorem dX3_takeFirst_53 : decode cX3_takeFirst 53 = .ok (.goto (-25), 3) := by decide +kernel
theorem dX3_takeFirst_56 : decode cX3_takeFirst 56 = .ok (.aload_n 1, 1) := by decide +kernel
theorem dX3_takeFirst_57 : decode cX3_takeFirst 57 = .ok (.areturn, 1) := by decide +kernel
theorem dX3_drop_0 : decode cX3_drop 0 = .ok (.aload_n 0, 1) := by decide +kernel
theorem dX3_drop_1 : decode cX3_drop 1 = .ok (.iconst 0, 1) := by decide +kernel
theorem dX3_drop_2 : decode cX3_drop 2 = .ok (.putfield 17, 3) := by decide +kernel
theorem dX3_drop_5 : decode cX3_drop 5 = .ok (.return_, 1) := by decide +kernel
theorem dX4_init_0 : decode cX4_init 0 = .ok (.aload_n 0, 1) := by decide +kernel
theorem dX4_init_1 : decode cX4_init 1 = .ok (.invokespecial 3, 3) := by decide +kernel
theorem dX4_init_4 : decode cX4_init 4 = .ok (.aload_n 0, 1) := by decide +kernel
theorem dX4_init_5 : decode cX4_init 5 = .ok (.bipush 16, 2) := by decide +kernel
theorem dX4_init_7 : decode cX4_init 7 = .ok (.newarray .long, 2) := by decide +kernel
theorem dX4_init_9 : decode cX4_init 9 = .ok (.putfield 9, 3) := by decide +kernel
theorem dX4_init_12 : decode cX4_init 12 = .ok (.aload_n 0, 1) := by decide +kernel
theorem dX4_init_13 : decode cX4_init 13 = .ok (.bipush 101, 2) := by decide +kernel
theorem dX4_init_15 : decode cX4_init 15 = .ok (.anewarray 15, 3) := by decide +kernel
theorem dX4_init_18 : decode cX4_init 18 = .ok (.putfield 17, 3) := by decide +kernel
theorem dX4_init_21 : decode cX4_init 21 = .ok (.return_, 1) := by decide +kernel
theorem dX4_apply_0 : decode cX4_apply 0 = .ok (.aload_n 0, 1) := by decide +kernel
theorem dX4_apply_1 : decode cX4_apply 1 = .ok (.getfield 9, 3) := by decide +kernel
theorem dX4_apply_4 : decode cX4_apply 4 = .ok (.aload_n 2, 1) := by decide +kernel
theorem dX4_apply_5 : decode cX4_apply 5 = .ok (.getfield 21, 3) := by decide +kernel
theorem dX4_apply_8 : decode cX4_apply 8 = .ok (.aload_n 2, 1) := by decide +kernel
theorem dX4_apply_9 : decode cX4_apply 9 = .ok (.getfield 25, 3) := by decide +kernel
theorem dX4_apply_12 : decode cX4_apply 12 = .ok (.lastore, 1) := by decide +kernel
theorem dX4_apply_13 : decode cX4_apply 13 = .ok (.aload_n 0, 1) := by decide +kernel
theorem dX4_apply_14 : decode cX4_apply 14 = .ok (.dup, 1) := by decide +kernel
theorem dX4_apply_15 : decode cX4_apply 15 = .ok (.getfield 29, 3) := by decide +kernel
theorem dX4_apply_18 : decode cX4_apply 18 = .ok (.iconst 1, 1) := by decide +kernel
theorem dX4_apply_19 : decode cX4_apply 19 = .ok (.iadd, 1) := by decide +kernel
theorem dX4_apply_20 : decode cX4_apply 20 = .ok (.putfield 29, 3) := by decide +kernel
theorem dX4_apply_23 : decode cX4_apply 23 = .ok (.aload_n 0, 1) := by decide +kernel
theorem dX4_apply_24 : decode cX4_apply 24 = .ok (.aload_n 0, 1) := by decide +kernel
theorem dX4_apply_25 : decode cX4_apply 25 = .ok (.getfield 32, 3) := by decide +kernel
theorem dX4_apply_28 : decode cX4_apply 28 = .ok (.ldc2_w 35, 3) := by decide +kernel
theorem dX4_apply_31 : decode cX4_apply 31 = .ok (.lmul, 1) := by decide +kernel
theorem dX4_apply_32 : decode cX4_apply 32 = .ok (.aload_n 2, 1) := by decide +kernel
theorem dX4_apply_33 : decode cX4_apply 33 = .ok (.getfield 21, 3) := by decide +kernel
theorem dX4_apply_36 : decode cX4_apply 36 = .ok (.bipush 17, 2) := by decide +kernel
theorem dX4_apply_38 : decode cX4_apply 38 = .ok (.imul, 1) := by decide +kernel
theorem dX4_apply_39 : decode cX4_apply 39 = .ok (.i2l, 1) := by decide +kernel
theorem dX4_apply_40 : decode cX4_apply 40 = .ok (.ladd, 1) := by decide +kernel
theorem dX4_apply_41 : decode cX4_apply 41 = .ok (.aload_n 2, 1) := by decide +kernel
theorem dX4_apply_42 : decode cX4_apply 42 = .ok (.getfield 25, 3) := by decide +kernel
theorem dX4_apply_45 : decode cX4_apply 45 = .ok (.ladd, 1) := by decide +kernel
theorem dX4_apply_46 : decode cX4_apply 46 = .ok (.putfield 32, 3) := by decide +kernel
theorem dX4_apply_49 : decode cX4_apply 49 = .ok (.aload_n 0, 1) := by decide +kernel
theorem dX4_apply_50 : decode cX4_apply 50 = .ok (.iload_n 1, 1) := by decide +kernel
theorem dX4_apply_51 : decode cX4_apply 51 = .ok (.putfield 37, 3) := by decide +kernel
theorem dX4_apply_54 : decode cX4_apply 54 = .ok (.return_, 1) := by decide +kernel
theorem dX4_copyTable_0 : decode cX4_copyTable 0 = .ok (.iconst 0, 1) := by decide +kernel
theorem dX4_copyTable_1 : decode cX4_copyTable 1 = .ok (.istore_n 2, 1) := by decide +kernel
theorem dX4_copyTable_2 : decode cX4_copyTable 2 = .ok (.iload_n 2, 1) := by decide +kernel
theorem dX4_copyTable_3 : decode cX4_copyTable 3 = .ok (.bipush 16, 2) := by decide +kernel
theorem dX4_copyTable_5 : decode cX4_copyTable 5 = .ok (.if_icmp .ge 21, 3) := by decide +kernel
theorem dX4_copyTable_8 : decode cX4_copyTable 8 = .ok (.aload_n 0, 1) := by decide +kernel
theorem dX4_copyTable_9 : decode cX4_copyTable 9 = .ok (.getfield 9, 3) := by decide +kernel
theorem dX4_copyTable_12 : decode cX4_copyTable 12 = .ok (.iload_n 2, 1) := by decide +kernel
theorem dX4_copyTable_13 : decode cX4_copyTable 13 = .ok (.aload_n 1, 1) := by decide +kernel
theorem dX4_copyTable_14 : decode cX4_copyTable 14 = .ok (.getfield 9, 3) := by decide +kernel
theorem dX4_copyTable_17 : decode cX4_copyTable 17 = .ok (.iload_n 2, 1) := by decide +kernel
theorem dX4_copyTable_18 : decode cX4_copyTable 18 = .ok (.laload, 1) := by decide +kernel
theorem dX4_copyTable_19 : decode cX4_copyTable 19 = .ok (.lastore, 1) := by decide +kernel
theorem dX4_copyTable_20 : decode cX4_copyTable 20 = .ok (.iinc 2 1, 3) := by decide +kernel
theorem dX4_copyTable_23 : decode cX4_copyTable 23 = .ok (.goto (-21), 3) := by decide +kernel
theorem dX4_copyTable_26 : decode cX4_copyTable 26 = .ok (.aload_n 0, 1) := by decide +kernel
theorem dX4_copyTable_27 : decode cX4_copyTable 27 = .ok (.aload_n 1, 1) := by decide +kernel
theorem dX4_copyTable_28 : decode cX4_copyTable 28 = .ok (.getfield 29, 3) := by decide +kernel
theorem dX4_copyTable_31 : decode cX4_copyTable 31 = .ok (.putfield 29, 3) := by decide +kernel
theorem dX4_copyTable_34 : decode cX4_copyTable 34 = .ok (.aload_n 0, 1) := by decide +kernel
theorem dX4_copyTable_35 : decode cX4_copyTable 35 = .ok (.aload_n 1, 1) := by decide +kernel
theorem dX4_copyTable_36 : decode cX4_copyTable 36 = .ok (.getfield 32, 3) := by decide +kernel
theorem dX4_copyTable_39 : decode cX4_copyTable 39 = .ok (.putfield 32, 3) := by decide +kernel
theorem dX4_copyTable_42 : decode cX4_copyTable 42 = .ok (.return_, 1) := by decide +kernel
theorem dX4_forgetKept_0 : decode cX4_forgetKept 0 = .ok (.aload_n 0, 1) := by decide +kernel
theorem dX4_forgetKept_1 : decode cX4_forgetKept 1 = .ok (.iconst 0, 1) := by decide +kernel
theorem dX4_forgetKept_2 : decode cX4_forgetKept 2 = .ok (.putfield 37, 3) := by decide +kernel
theorem dX4_forgetKept_5 : decode cX4_forgetKept 5 = .ok (.iconst 0, 1) := by decide +kernel
theorem dX4_forgetKept_6 : decode cX4_forgetKept 6 = .ok (.istore_n 1, 1) := by decide +kernel
theorem dX4_forgetKept_7 : decode cX4_forgetKept 7 = .ok (.iload_n 1, 1) := by decide +kernel
theorem dX4_forgetKept_8 : decode cX4_forgetKept 8 = .ok (.bipush 100, 2) := by decide +kernel
theorem dX4_forgetKept_10 : decode cX4_forgetKept 10 = .ok (.if_icmp .gt 16, 3) := by decide +kernel
theorem dX4_forgetKept_13 : decode cX4_forgetKept 13 = .ok (.aload_n 0, 1) := by decide +kernel
theorem dX4_forgetKept_14 : decode cX4_forgetKept 14 = .ok (.getfield 17, 3) := by decide +kernel
theorem dX4_forgetKept_17 : decode cX4_forgetKept 17 = .ok (.iload_n 1, 1) := by decide +kernel
theorem dX4_forgetKept_18 : decode cX4_forgetKept 18 = .ok (.aconst_null, 1) := by decide +kernel
theorem dX4_forgetKept_19 : decode cX4_forgetKept 19 = .ok (.aastore, 1) := by decide +kernel
theorem dX4_forgetKept_20 : decode cX4_forgetKept 20 = .ok (.iinc 1 1, 3) := by decide +kernel
theorem dX4_forgetKept_23 : decode cX4_forgetKept 23 = .ok (.goto (-16), 3) := by decide +kernel
theorem dX4_forgetKept_26 : decode cX4_forgetKept 26 = .ok (.return_, 1) := by decide +kernel
theorem dX5_init_0 : decode cX5_init 0 = .ok (.aload_n 0, 1) := by decide +kernel
theorem dX5_init_1 : decode cX5_init 1 = .ok (.invokespecial 3, 3) := by decide +kernel
theorem dX5_init_4 : decode cX5_init 4 = .ok (.aload_n 0, 1) := by decide +kernel
theorem dX5_init_5 : decode cX5_init 5 = .ok (.bipush 101, 2) := by decide +kernel
theorem dX5_init_7 : decode cX5_init 7 = .ok (.newarray .boolean, 2) := by decide +kernel
theorem dX5_init_9 : decode cX5_init 9 = .ok (.putfield 9, 3) := by decide +kernel
theorem dX5_init_12 : decode cX5_init 12 = .ok (.aload_n 0, 1) := by decide +kernel
theorem dX5_init_13 : decode cX5_init 13 = .ok (.bipush 8, 2) := by decide +kernel
theorem dX5_init_15 : decode cX5_init 15 = .ok (.newarray .int, 2) := by decide +kernel
theorem dX5_init_17 : decode cX5_init 17 = .ok (.putfield 15, 3) := by decide +kernel
theorem dX5_init_20 : decode cX5_init 20 = .ok (.aload_n 0, 1) := by decide +kernel
theorem dX5_init_21 : decode cX5_init 21 = .ok (.iconst (-1), 1) := by decide +kernel
theorem dX5_init_22 : decode cX5_init 22 = .ok (.putfield 19, 3) := by decide +kernel
theorem dX5_init_25 : decode cX5_init 25 = .ok (.return_, 1) := by decide +kernel
set_option maxRecDepth 20000 in
theorem ggX5_begin_X6_leastOf : GoodIn wsX5_begin wsX6_leastOf := goodIn_r _ [9, 10, 11, 8, 12] (by decide +kernel) (by decide +kernel)
set_option maxRecDepth 20000 in
theorem gX5_begin_X6_leastOf_n29 : GoodIn wsX5_begin (wsX6_leastOf) := ggX5_begin_X6_leastOf
theorem dX5_begin_0 : decode cX5_begin 0 = .ok (.aload_n 0, 1) := by decide +kernel
theorem dX5_begin_1 : decode cX5_begin 1 = .ok (.iload_n 1, 1) := by decide +kernel
theorem dX5_begin_2 : decode cX5_begin 2 = .ok (.putfield 23, 3) := by decide +kernel
theorem dX5_begin_5 : decode cX5_begin 5 = .ok (.aload_n 0, 1) := by decide +kernel
theorem dX5_begin_6 : decode cX5_begin 6 = .ok (.iload_n 2, 1) := by decide +kernel
theorem dX5_begin_7 : decode cX5_begin 7 = .ok (.putfield 26, 3) := by decide +kernel
theorem dX5_begin_10 : decode cX5_begin 10 = .ok (.aload_n 0, 1) := by decide +kernel
theorem dX5_begin_11 : decode cX5_begin 11 = .ok (.iload_n 2, 1) := by decide +kernel
theorem dX5_begin_12 : decode cX5_begin 12 = .ok (.invokestatic 29, 3) := by decide +kernel
theorem dX5_begin_15 : decode cX5_begin 15 = .ok (.putfield 19, 3) := by decide +kernel
theorem dX5_begin_18 : decode cX5_begin 18 = .ok (.aload_n 0, 1) := by decide +kernel
theorem dX5_begin_19 : decode cX5_begin 19 = .ok (.iconst 0, 1) := by decide +kernel
theorem dX5_begin_20 : decode cX5_begin 20 = .ok (.putfield 33, 3) := by decide +kernel
theorem dX5_begin_23 : decode cX5_begin 23 = .ok (.iconst 0, 1) := by decide +kernel
theorem dX5_begin_24 : decode cX5_begin 24 = .ok (.istore_n 3, 1) := by decide +kernel
theorem dX5_begin_25 : decode cX5_begin 25 = .ok (.iload_n 3, 1) := by decide +kernel
theorem dX5_begin_26 : decode cX5_begin 26 = .ok (.bipush 100, 2) := by decide +kernel
theorem dX5_begin_28 : decode cX5_begin 28 = .ok (.if_icmp .gt 16, 3) := by decide +kernel
theorem dX5_begin_31 : decode cX5_begin 31 = .ok (.aload_n 0, 1) := by decide +kernel
theorem dX5_begin_32 : decode cX5_begin 32 = .ok (.getfield 9, 3) := by decide +kernel
theorem dX5_begin_35 : decode cX5_begin 35 = .ok (.iload_n 3, 1) := by decide +kernel
theorem dX5_begin_36 : decode cX5_begin 36 = .ok (.iconst 0, 1) := by decide +kernel
theorem dX5_begin_37 : decode cX5_begin 37 = .ok (.bastore, 1) := by decide +kernel
theorem dX5_begin_38 : decode cX5_begin 38 = .ok (.iinc 3 1, 3) := by decide +kernel
theorem dX5_begin_41 : decode cX5_begin 41 = .ok (.goto (-16), 3) := by decide +kernel
theorem dX5_begin_44 : decode cX5_begin 44 = .ok (.iconst 0, 1) := by decide +kernel
theorem dX5_begin_45 : decode cX5_begin 45 = .ok (.istore_n 3, 1) := by decide +kernel
theorem dX5_begin_46 : decode cX5_begin 46 = .ok (.iload_n 3, 1) := by decide +kernel
theorem dX5_begin_47 : decode cX5_begin 47 = .ok (.bipush 8, 2) := by decide +kernel
theorem dX5_begin_49 : decode cX5_begin 49 = .ok (.if_icmp .ge 16, 3) := by decide +kernel
theorem dX5_begin_52 : decode cX5_begin 52 = .ok (.aload_n 0, 1) := by decide +kernel
theorem dX5_begin_53 : decode cX5_begin 53 = .ok (.getfield 15, 3) := by decide +kernel
theorem dX5_begin_56 : decode cX5_begin 56 = .ok (.iload_n 3, 1) := by decide +kernel
theorem dX5_begin_57 : decode cX5_begin 57 = .ok (.iconst 0, 1) := by decide +kernel
theorem dX5_begin_58 : decode cX5_begin 58 = .ok (.iastore, 1) := by decide +kernel
theorem dX5_begin_59 : decode cX5_begin 59 = .ok (.iinc 3 1, 3) := by decide +kernel
theorem dX5_begin_62 : decode cX5_begin 62 = .ok (.goto (-16), 3) := by decide +kernel
theorem dX5_begin_65 : decode cX5_begin 65 = .ok (.return_, 1) := by decide +kernel
set_option maxRecDepth 20000 in
theorem ggX5_memberBehind_X6_isIn : GoodIn wsX5_memberBehind wsX6_isIn := goodIn_r _ [4] (by decide +kernel) (by decide +kernel)
set_option maxRecDepth 20000 in
theorem gX5_memberBehind_X6_isIn_n36 : GoodIn wsX5_memberBehind (wsX6_isIn) := ggX5_memberBehind_X6_isIn
theorem dX5_memberBehind_0 : decode cX5_memberBehind 0 = .ok (.iconst 1, 1) := by decide +kernel
theorem dX5_memberBehind_1 : decode cX5_memberBehind 1 = .ok (.istore_n 2, 1) := by decide +kernel
theorem dX5_memberBehind_2 : decode cX5_memberBehind 2 = .ok (.iload_n 2, 1) := by decide +kernel
theorem dX5_memberBehind_3 : decode cX5_memberBehind 3 = .ok (.bipush 8, 2) := by decide +kernel
theorem dX5_memberBehind_5 : decode cX5_memberBehind 5 = .ok (.if_icmp .ge 29, 3) := by decide +kernel
theorem dX5_memberBehind_8 : decode cX5_memberBehind 8 = .ok (.iload_n 1, 1) := by decide +kernel
theorem dX5_memberBehind_9 : decode cX5_memberBehind 9 = .ok (.iload_n 2, 1) := by decide +kernel
theorem dX5_memberBehind_10 : decode cX5_memberBehind 10 = .ok (.iadd, 1) := by decide +kernel
theorem dX5_memberBehind_11 : decode cX5_memberBehind 11 = .ok (.bipush 8, 2) := by decide +kernel
theorem dX5_memberBehind_13 : decode cX5_memberBehind 13 = .ok (.irem, 1) := by decide +kernel
theorem dX5_memberBehind_14 : decode cX5_memberBehind 14 = .ok (.istore_n 3, 1) := by decide +kernel
theorem dX5_memberBehind_15 : decode cX5_memberBehind 15 = .ok (.iload_n 3, 1) := by decide +kernel
theorem dX5_memberBehind_16 : decode cX5_memberBehind 16 = .ok (.aload_n 0, 1) := by decide +kernel
theorem dX5_memberBehind_17 : decode cX5_memberBehind 17 = .ok (.getfield 26, 3) := by decide +kernel
theorem dX5_memberBehind_20 : decode cX5_memberBehind 20 = .ok (.invokestatic 36, 3) := by decide +kernel
theorem dX5_memberBehind_23 : decode cX5_memberBehind 23 = .ok (.ifCond .eq 5, 3) := by decide +kernel
theorem dX5_memberBehind_26 : decode cX5_memberBehind 26 = .ok (.iload_n 3, 1) := by decide +kernel
theorem dX5_memberBehind_27 : decode cX5_memberBehind 27 = .ok (.ireturn, 1) := by decide +kernel
theorem dX5_memberBehind_28 : decode cX5_memberBehind 28 = .ok (.iinc 2 1, 3) := by decide +kernel
theorem dX5_memberBehind_31 : decode cX5_memberBehind 31 = .ok (.goto (-29), 3) := by decide +kernel
theorem dX5_memberBehind_34 : decode cX5_memberBehind 34 = .ok (.iload_n 1, 1) := by decide +kernel
theorem dX5_memberBehind_35 : decode cX5_memberBehind 35 = .ok (.ireturn, 1) := by decide +kernel
set_option maxRecDepth 20000 in
theorem ggX5_leastFull_X6_isIn : GoodIn wsX5_leastFull wsX6_isIn := goodIn_r _ [9] (by decide +kernel) (by decide +kernel)
set_option maxRecDepth 20000 in
theorem gX5_leastFull_X6_isIn_n36 : GoodIn wsX5_leastFull (wsX6_isIn) := ggX5_leastFull_X6_isIn
theorem dX5_leastFull_0 : decode cX5_leastFull 0 = .ok (.bipush 100, 2) := by decide +kernel
theorem dX5_leastFull_2 : decode cX5_leastFull 2 = .ok (.istore_n 1, 1) := by decide +kernel
theorem dX5_leastFull_3 : decode cX5_leastFull 3 = .ok (.iconst 0, 1) := by decide +kernel
theorem dX5_leastFull_4 : decode cX5_leastFull 4 = .ok (.istore_n 2, 1) := by decide +kernel
theorem dX5_leastFull_5 : decode cX5_leastFull 5 = .ok (.iload_n 2, 1) := by decide +kernel
theorem dX5_leastFull_6 : decode cX5_leastFull 6 = .ok (.bipush 8, 2) := by decide +kernel
theorem dX5_leastFull_8 : decode cX5_leastFull 8 = .ok (.if_icmp .ge 31, 3) := by decide +kernel
theorem dX5_leastFull_11 : decode cX5_leastFull 11 = .ok (.iload_n 2, 1) := by decide +kernel
theorem dX5_leastFull_12 : decode cX5_leastFull 12 = .ok (.aload_n 0, 1) := by decide +kernel
theorem dX5_leastFull_13 : decode cX5_leastFull 13 = .ok (.getfield 26, 3) := by decide +kernel
theorem dX5_leastFull_16 : decode cX5_leastFull 16 = .ok (.invokestatic 36, 3) := by decide +kernel
theorem dX5_leastFull_19 : decode cX5_leastFull 19 = .ok (.ifCond .eq 14, 3) := by decide +kernel
theorem dX5_leastFull_22 : decode cX5_leastFull 22 = .ok (.iload_n 1, 1) := by decide +kernel
theorem dX5_leastFull_23 : decode cX5_leastFull 23 = .ok (.aload_n 0, 1) := by decide +kernel
theorem dX5_leastFull_24 : decode cX5_leastFull 24 = .ok (.getfield 15, 3) := by decide +kernel
theorem dX5_leastFull_27 : decode cX5_leastFull 27 = .ok (.iload_n 2, 1) := by decide +kernel
theorem dX5_leastFull_28 : decode cX5_leastFull 28 = .ok (.iaload, 1) := by decide +kernel
theorem dX5_leastFull_29 : decode cX5_leastFull 29 = .ok (.invokestatic 40, 3) := by decide +kernel
theorem dX5_leastFull_32 : decode cX5_leastFull 32 = .ok (.istore_n 1, 1) := by decide +kernel
theorem dX5_leastFull_33 : decode cX5_leastFull 33 = .ok (.iinc 2 1, 3) := by decide +kernel
theorem dX5_leastFull_36 : decode cX5_leastFull 36 = .ok (.goto (-31), 3) := by decide +kernel
theorem dX5_leastFull_39 : decode cX5_leastFull 39 = .ok (.iload_n 1, 1) := by decide +kernel
theorem dX5_leastFull_40 : decode cX5_leastFull 40 = .ok (.ireturn, 1) := by decide +kernel
set_option maxRecDepth 20000 in
theorem ggX6_init_X5_init : GoodIn wsX6_init wsX5_init := goodIn_r _ [22, 23, 2, 3, 24, 25, 26, 27, 28, 71, 72, 73, 74, 75, 76] (by decide +kernel) (by decide +kernel)
set_option maxRecDepth 20000 in
theorem gX6_init_X5_init_n24 : GoodIn wsX6_init (wsX5_init) := ggX6_init_X5_init
set_option maxRecDepth 20000 in
theorem ggX6_init_X2_init : GoodIn wsX6_init wsX2_init := goodIn_r _ [31, 32, 2, 3, 33, 34, 35, 36, 37, 38, 39, 40, 41, 42, 43, 44, 45, 46, 47, 48, 49, 50, 51, 52, 53, 54, 55, 56, 57, 58, 59, 60, 61, 62, 63, 64, 65, 66, 90, 91, 77, 78, 79, 80, 81, 82, 83, 84, 85, 86, 87, 88, 89, 92, 93, 94, 95, 96, 97, 98] (by decide +kernel) (by decide +kernel)
set_option maxRecDepth 20000 in
theorem gX6_init_X2_init : GoodIn wsX6_init (wsX2_init) := ggX6_init_X2_init
theorem dX6_init_0 : decode cX6_init 0 = .ok (.aload_n 0, 1) := by decide +kernel
theorem dX6_init_1 : decode cX6_init 1 = .ok (.invokespecial 1, 3) := by decide +kernel
theorem dX6_init_4 : decode cX6_init 4 = .ok (.iconst 2, 1) := by decide +kernel
theorem dX6_init_5 : decode cX6_init 5 = .ok (.bipush 8, 2) := by decide +kernel
theorem dX6_init_7 : decode cX6_init 7 = .ok (.iload_n 1, 1) := by decide +kernel
theorem dX6_init_8 : decode cX6_init 8 = .ok (.invokestatic 9, 3) := by decide +kernel
theorem dX6_init_11 : decode cX6_init 11 = .ok (.invokestatic 15, 3) := by decide +kernel
theorem dX6_init_14 : decode cX6_init 14 = .ok (.istore_n 3, 1) := by decide +kernel
theorem dX6_init_15 : decode cX6_init 15 = .ok (.aload_n 0, 1) := by decide +kernel
theorem dX6_init_16 : decode cX6_init 16 = .ok (.iconst 1, 1) := by decide +kernel
theorem dX6_init_17 : decode cX6_init 17 = .ok (.bipush 8, 2) := by decide +kernel
theorem dX6_init_19 : decode cX6_init 19 = .ok (.iload_n 2, 1) := by decide +kernel
theorem dX6_init_20 : decode cX6_init 20 = .ok (.invokestatic 9, 3) := by decide +kernel
theorem dX6_init_23 : decode cX6_init 23 = .ok (.invokestatic 15, 3) := by decide +kernel
theorem dX6_init_26 : decode cX6_init 26 = .ok (.putfield 18, 3) := by decide +kernel
theorem dX6_init_29 : decode cX6_init 29 = .ok (.aload_n 0, 1) := by decide +kernel
theorem dX6_init_30 : decode cX6_init 30 = .ok (.new 22, 3) := by decide +kernel
theorem dX6_init_33 : decode cX6_init 33 = .ok (.dup, 1) := by decide +kernel
theorem dX6_init_34 : decode cX6_init 34 = .ok (.invokespecial 24, 3) := by decide +kernel
theorem dX6_init_37 : decode cX6_init 37 = .ok (.putfield 25, 3) := by decide +kernel
theorem dX6_init_40 : decode cX6_init 40 = .ok (.aload_n 0, 1) := by decide +kernel
theorem dX6_init_41 : decode cX6_init 41 = .ok (.iload_n 3, 1) := by decide +kernel
theorem dX6_init_42 : decode cX6_init 42 = .ok (.anewarray 29, 3) := by decide +kernel
theorem dX6_init_45 : decode cX6_init 45 = .ok (.putfield 31, 3) := by decide +kernel
theorem dX6_init_48 : decode cX6_init 48 = .ok (.aload_n 0, 1) := by decide +kernel
theorem dX6_init_49 : decode cX6_init 49 = .ok (.iload_n 3, 1) := by decide +kernel
theorem dX6_init_50 : decode cX6_init 50 = .ok (.anewarray 22, 3) := by decide +kernel
theorem dX6_init_53 : decode cX6_init 53 = .ok (.putfield 35, 3) := by decide +kernel
theorem dX6_init_56 : decode cX6_init 56 = .ok (.iconst 0, 1) := by decide +kernel
theorem dX6_init_57 : decode cX6_init 57 = .ok (.istore 4, 2) := by decide +kernel
theorem dX6_init_59 : decode cX6_init 59 = .ok (.iload 4, 2) := by decide +kernel
theorem dX6_init_61 : decode cX6_init 61 = .ok (.iload_n 3, 1) := by decide +kernel
theorem dX6_init_62 : decode cX6_init 62 = .ok (.if_icmp .ge 48, 3) := by decide +kernel
theorem dX6_init_65 : decode cX6_init 65 = .ok (.aload_n 0, 1) := by decide +kernel
theorem dX6_init_66 : decode cX6_init 66 = .ok (.getfield 31, 3) := by decide +kernel
theorem dX6_init_69 : decode cX6_init 69 = .ok (.iload 4, 2) := by decide +kernel
theorem dX6_init_71 : decode cX6_init 71 = .ok (.new 29, 3) := by decide +kernel
theorem dX6_init_74 : decode cX6_init 74 = .ok (.dup, 1) := by decide +kernel
theorem dX6_init_75 : decode cX6_init 75 = .ok (.iload 4, 2) := by decide +kernel
theorem dX6_init_77 : decode cX6_init 77 = .ok (.iconst 1, 1) := by decide +kernel
theorem dX6_init_78 : decode cX6_init 78 = .ok (.iload_n 3, 1) := by decide +kernel
theorem dX6_init_79 : decode cX6_init 79 = .ok (.ishl, 1) := by decide +kernel
theorem dX6_init_80 : decode cX6_init 80 = .ok (.iconst 1, 1) := by decide +kernel
theorem dX6_init_81 : decode cX6_init 81 = .ok (.isub, 1) := by decide +kernel
theorem dX6_init_82 : decode cX6_init 82 = .ok (.aload_n 0, 1) := by decide +kernel
theorem dX6_init_83 : decode cX6_init 83 = .ok (.getfield 25, 3) := by decide +kernel
theorem dX6_init_86 : decode cX6_init 86 = .ok (.invokespecial 39, 3) := by decide +kernel
theorem dX6_init_89 : decode cX6_init 89 = .ok (.aastore, 1) := by decide +kernel
theorem dX6_init_90 : decode cX6_init 90 = .ok (.aload_n 0, 1) := by decide +kernel
theorem dX6_init_91 : decode cX6_init 91 = .ok (.getfield 35, 3) := by decide +kernel
theorem dX6_init_94 : decode cX6_init 94 = .ok (.iload 4, 2) := by decide +kernel
theorem dX6_init_96 : decode cX6_init 96 = .ok (.new 22, 3) := by decide +kernel
theorem dX6_init_99 : decode cX6_init 99 = .ok (.dup, 1) := by decide +kernel
theorem dX6_init_100 : decode cX6_init 100 = .ok (.invokespecial 24, 3) := by decide +kernel
theorem dX6_init_103 : decode cX6_init 103 = .ok (.aastore, 1) := by decide +kernel
theorem dX6_init_104 : decode cX6_init 104 = .ok (.iinc 4 1, 3) := by decide +kernel
theorem dX6_init_107 : decode cX6_init 107 = .ok (.goto (-48), 3) := by decide +kernel
theorem dX6_init_110 : decode cX6_init 110 = .ok (.return_, 1) := by decide +kernel
set_option maxRecDepth 20000 in
theorem ggX6_send_X6_nodeAt : GoodIn wsX6_send wsX6_nodeAt := goodIn_ca (goodIn_r _ [12, 13, 14, 15, 57, 58, 59, 60] (by decide +kernel) (by decide +kernel)) (goodIn_sub (fun _ h => List.mem_cons_of_mem _ (List.mem_append_right _ h)) (by decide +kernel))
set_option maxRecDepth 20000 in
theorem gX6_send_X6_nodeAt : GoodIn wsX6_send (wsV RX6 42 RX6 yX6_nodeAt wsX6_nodeAt) := goodIn_app (goodIn_of _ (by decide +kernel)) ggX6_send_X6_nodeAt
set_option maxRecDepth 20000 in
theorem ggX6_send_X6_checkKey : GoodIn wsX6_send wsX6_checkKey := goodIn_ca (goodIn_r _ [18, 13, 14] (by decide +kernel) (by decide +kernel)) (goodIn_sub (fun _ h => List.mem_cons_of_mem _ (List.mem_append_right _ h)) (by decide +kernel))
set_option maxRecDepth 20000 in
theorem gX6_send_X6_checkKey : GoodIn wsX6_send (va_wsS RX6 46 yX6_checkKey wsX6_checkKey) := goodIn_app (goodIn_of _ (by decide +kernel)) ggX6_send_X6_checkKey
set_option maxRecDepth 20000 in
theorem ggX6_send_X3_isFull : GoodIn wsX6_send wsX3_isFull := goodIn_r _ [23, 24, 61, 62] (by decide +kernel) (by decide +kernel)
set_option maxRecDepth 20000 in
theorem gX6_send_X3_isFull : GoodIn wsX6_send (wsV RX6 58 RX3 yX3_isFull wsX3_isFull) := goodIn_app (goodIn_of _ (by decide +kernel)) ggX6_send_X3_isFull
set_option maxRecDepth 20000 in
theorem ggX6_send_X1_init : GoodIn wsX6_send wsX1_init := goodIn_r _ [27, 28, 29, 30, 31, 32, 33, 34, 53, 54, 55, 56] (by decide +kernel) (by decide +kernel)
set_option maxRecDepth 20000 in
theorem gX6_send_X1_init : GoodIn wsX6_send (wsX1_init) := ggX6_send_X1_init
set_option maxRecDepth 20000 in
theorem ggX6_send_X3_put : GoodIn wsX6_send wsX3_put := goodIn_r _ [38, 39, 24, 61, 62] (by decide +kernel) (by decide +kernel)
set_option maxRecDepth 20000 in
theorem gX6_send_X3_put : GoodIn wsX6_send (wsV RX6 76 RX3 yX3_put wsX3_put) := goodIn_app (goodIn_of _ (by decide +kernel)) ggX6_send_X3_put
theorem dX6_send_0 : decode cX6_send 0 = .ok (.aload_n 0, 1) := by decide +kernel
theorem dX6_send_1 : decode cX6_send 1 = .ok (.iload_n 1, 1) := by decide +kernel
theorem dX6_send_2 : decode cX6_send 2 = .ok (.invokevirtual 42, 3) := by decide +kernel
theorem dX6_send_5 : decode cX6_send 5 = .ok (.astore 6, 2) := by decide +kernel
theorem dX6_send_7 : decode cX6_send 7 = .ok (.iload_n 2, 1) := by decide +kernel
theorem dX6_send_8 : decode cX6_send 8 = .ok (.invokestatic 46, 3) := by decide +kernel
theorem dX6_send_11 : decode cX6_send 11 = .ok (.aload 6, 2) := by decide +kernel
theorem dX6_send_13 : decode cX6_send 13 = .ok (.getfield 50, 3) := by decide +kernel
theorem dX6_send_16 : decode cX6_send 16 = .ok (.ifCond .eq 14, 3) := by decide +kernel
theorem dX6_send_19 : decode cX6_send 19 = .ok (.aload 6, 2) := by decide +kernel
theorem dX6_send_21 : decode cX6_send 21 = .ok (.getfield 54, 3) := by decide +kernel
theorem dX6_send_24 : decode cX6_send 24 = .ok (.invokevirtual 58, 3) := by decide +kernel
theorem dX6_send_27 : decode cX6_send 27 = .ok (.ifCond .eq 13, 3) := by decide +kernel
theorem dX6_send_30 : decode cX6_send 30 = .ok (.new 64, 3) := by decide +kernel
theorem dX6_send_33 : decode cX6_send 33 = .ok (.dup, 1) := by decide +kernel
theorem dX6_send_34 : decode cX6_send 34 = .ok (.ldc 66, 2) := by decide +kernel
theorem dX6_send_36 : decode cX6_send 36 = .ok (.invokespecial 68, 3) := by decide +kernel
theorem dX6_send_39 : decode cX6_send 39 = .ok (.athrow, 1) := by decide +kernel
theorem dX6_send_40 : decode cX6_send 40 = .ok (.aload 6, 2) := by decide +kernel
theorem dX6_send_42 : decode cX6_send 42 = .ok (.getfield 54, 3) := by decide +kernel
theorem dX6_send_45 : decode cX6_send 45 = .ok (.new 71, 3) := by decide +kernel
theorem dX6_send_48 : decode cX6_send 48 = .ok (.dup, 1) := by decide +kernel
theorem dX6_send_49 : decode cX6_send 49 = .ok (.iload_n 1, 1) := by decide +kernel
theorem dX6_send_50 : decode cX6_send 50 = .ok (.iload_n 2, 1) := by decide +kernel
theorem dX6_send_51 : decode cX6_send 51 = .ok (.lload_n 3, 1) := by decide +kernel
theorem dX6_send_52 : decode cX6_send 52 = .ok (.iload 5, 2) := by decide +kernel
theorem dX6_send_54 : decode cX6_send 54 = .ok (.invokespecial 73, 3) := by decide +kernel
theorem dX6_send_57 : decode cX6_send 57 = .ok (.invokevirtual 76, 3) := by decide +kernel
theorem dX6_send_60 : decode cX6_send 60 = .ok (.ireturn, 1) := by decide +kernel
set_option maxRecDepth 20000 in
theorem ggX6_pass_X6_nodeAt : GoodIn wsX6_pass wsX6_nodeAt := goodIn_ca (goodIn_r _ [15, 16, 17, 18, 153, 154, 155, 156] (by decide +kernel) (by decide +kernel)) (goodIn_sub (fun _ h => List.mem_cons_of_mem _ (List.mem_append_right _ h)) (by decide +kernel))
set_option maxRecDepth 20000 in
theorem gX6_pass_X6_nodeAt : GoodIn wsX6_pass (wsV RX6 42 RX6 yX6_nodeAt wsX6_nodeAt) := goodIn_app (goodIn_of _ (by decide +kernel)) ggX6_pass_X6_nodeAt
set_option maxRecDepth 20000 in
theorem ggX6_pass_X6_receiversOf : GoodIn wsX6_pass wsX6_receiversOf := goodIn_r _ [22, 18, 23, 24, 25, 14, 26, 27, 28, 3, 153, 154, 155, 156, 134, 135, 136, 137, 138, 139, 140, 141, 142, 143, 144, 145, 146] (by decide +kernel) (by decide +kernel)
set_option maxRecDepth 20000 in
theorem gX6_pass_X6_receiversOf : GoodIn wsX6_pass (wsV RX6 88 RX6 yX6_receiversOf wsX6_receiversOf) := goodIn_app (goodIn_of _ (by decide +kernel)) ggX6_pass_X6_receiversOf
set_option maxRecDepth 20000 in
theorem ggX6_pass_X6_sendRequested : GoodIn wsX6_pass wsX6_sendRequested := goodIn_r _ [32, 3, 33, 34, 35, 36, 37, 38, 14, 39, 18, 23, 40, 41, 42, 43, 44, 45, 46, 47, 48, 49, 50, 51, 52, 53, 54, 55, 56, 57, 58, 134, 135, 136, 137, 138, 139, 140, 141, 142, 143, 144, 145, 146, 147, 148, 149, 150, 151, 152, 153, 154, 155, 156, 157, 158, 159, 160, 161, 162, 163, 164, 165] (by decide +kernel) (by decide +kernel)
set_option maxRecDepth 20000 in
theorem gX6_pass_X6_sendRequested : GoodIn wsX6_pass (wsV RX6 92 RX6 yX6_sendRequested wsX6_sendRequested) := goodIn_app (goodIn_of _ (by decide +kernel)) ggX6_pass_X6_sendRequested
set_option maxRecDepth 20000 in
theorem ggX6_pass_X6_sendPending : GoodIn wsX6_pass wsX6_sendPending := goodIn_r _ [62, 3, 63, 33, 64, 23, 65, 66, 67, 68, 69, 70, 71, 36, 37, 38, 14, 39, 18, 40, 41, 42, 43, 44, 45, 46, 47, 48, 49, 50, 51, 52, 53, 54, 55, 56, 57, 58, 134, 135, 136, 137, 138, 139, 140, 141, 142, 143, 144, 145, 146, 153, 154, 155, 156, 147, 148, 149, 150, 151, 152, 166, 167, 157, 158, 159, 160, 161, 162, 163, 164, 165] (by decide +kernel) (by decide +kernel)
set_option maxRecDepth 20000 in
theorem gX6_pass_X6_sendPending : GoodIn wsX6_pass (wsV RX6 96 RX6 yX6_sendPending wsX6_sendPending) := goodIn_app (goodIn_of _ (by decide +kernel)) ggX6_pass_X6_sendPending
set_option maxRecDepth 20000 in
theorem ggX6_pass_X2_full : GoodIn wsX6_pass wsX2_full := goodIn_r _ [75, 48, 134, 135, 136, 137, 138, 139, 140, 141, 142, 143, 144, 145, 146] (by decide +kernel) (by decide +kernel)
set_option maxRecDepth 20000 in
theorem gX6_pass_X2_full : GoodIn wsX6_pass (wsV RX6 103 RX2 yX2_full wsX2_full) := goodIn_app (goodIn_of _ (by decide +kernel)) ggX6_pass_X2_full
set_option maxRecDepth 20000 in
theorem ggX6_pass_X5_leastFull : GoodIn wsX6_pass wsX5_leastFull := goodIn_r _ [80, 81, 82, 83, 84, 9, 85, 41, 14, 42, 147, 148, 149, 150, 151, 152] (by decide +kernel) (by decide +kernel)
set_option maxRecDepth 20000 in
theorem gX6_pass_X5_leastFull : GoodIn wsX6_pass (wsV RX6 109 RX5 yX5_leastFull wsX5_leastFull) := goodIn_app (goodIn_of _ (by decide +kernel)) ggX6_pass_X5_leastFull
set_option maxRecDepth 20000 in
theorem ggX6_pass_X6_requestMissing : GoodIn wsX6_pass wsX6_requestMissing := goodIn_r _ [88, 3, 33, 35, 34, 134, 135, 136, 137, 138, 139, 140, 141, 142, 143, 144, 145, 146, 147, 148, 149, 150, 151, 152] (by decide +kernel) (by decide +kernel)
set_option maxRecDepth 20000 in
theorem gX6_pass_X6_requestMissing : GoodIn wsX6_pass (va_wsS RX6 112 yX6_requestMissing wsX6_requestMissing) := goodIn_app (goodIn_of _ (by decide +kernel)) ggX6_pass_X6_requestMissing
set_option maxRecDepth 20000 in
theorem ggX6_pass_X2_deliverInTurn : GoodIn wsX6_pass wsX2_deliverInTurn := goodIn_r _ [92, 93, 48, 49, 94, 50, 95, 96, 97, 46, 98, 99, 100, 101, 102, 56, 57, 103, 104, 105, 106, 107, 108, 109, 110, 111, 112, 113, 52, 53, 54, 55, 58, 114, 115, 116, 117, 118, 119, 120, 121, 122, 123, 124, 125, 134, 135, 136, 137, 138, 139, 140, 141, 142, 143, 144, 145, 146, 157, 158, 159, 160, 147, 148, 149, 150, 151, 152, 168, 169, 161, 162, 163, 164, 165] (by decide +kernel) (by decide +kernel)
set_option maxRecDepth 20000 in
theorem gX6_pass_X2_deliverInTurn : GoodIn wsX6_pass (wsV RX6 116 RX2 yX2_deliverInTurn wsX2_deliverInTurn) := goodIn_app (goodIn_of _ (by decide +kernel)) ggX6_pass_X2_deliverInTurn
set_option maxRecDepth 20000 in
theorem ggX6_pass_X6_handOn : GoodIn wsX6_pass wsX6_handOn := goodIn_r _ [129, 3, 18, 23, 4, 130, 131, 132, 79, 133, 81, 41, 14, 42, 24, 25, 26, 27, 28, 134, 135, 136, 137, 138, 139, 140, 141, 142, 143, 144, 145, 146, 153, 154, 155, 156, 147, 148, 149, 150, 151, 152] (by decide +kernel) (by decide +kernel)
set_option maxRecDepth 20000 in
theorem gX6_pass_X6_handOn : GoodIn wsX6_pass (wsV RX6 119 RX6 yX6_handOn wsX6_handOn) := goodIn_app (goodIn_of _ (by decide +kernel)) ggX6_pass_X6_handOn
theorem dX6_pass_0 : decode cX6_pass 0 = .ok (.aload_n 0, 1) := by decide +kernel
theorem dX6_pass_1 : decode cX6_pass 1 = .ok (.iload_n 1, 1) := by decide +kernel
theorem dX6_pass_2 : decode cX6_pass 2 = .ok (.invokevirtual 42, 3) := by decide +kernel
theorem dX6_pass_5 : decode cX6_pass 5 = .ok (.astore_n 3, 1) := by decide +kernel
theorem dX6_pass_6 : decode cX6_pass 6 = .ok (.aload_n 3, 1) := by decide +kernel
theorem dX6_pass_7 : decode cX6_pass 7 = .ok (.getfield 80, 3) := by decide +kernel
theorem dX6_pass_10 : decode cX6_pass 10 = .ok (.astore 4, 2) := by decide +kernel
theorem dX6_pass_12 : decode cX6_pass 12 = .ok (.aload 4, 2) := by decide +kernel
theorem dX6_pass_14 : decode cX6_pass 14 = .ok (.getfield 83, 3) := by decide +kernel
theorem dX6_pass_17 : decode cX6_pass 17 = .ok (.iload_n 1, 1) := by decide +kernel
theorem dX6_pass_18 : decode cX6_pass 18 = .ok (.if_icmp .eq 13, 3) := by decide +kernel
theorem dX6_pass_21 : decode cX6_pass 21 = .ok (.new 64, 3) := by decide +kernel
theorem dX6_pass_24 : decode cX6_pass 24 = .ok (.dup, 1) := by decide +kernel
theorem dX6_pass_25 : decode cX6_pass 25 = .ok (.ldc 86, 2) := by decide +kernel
theorem dX6_pass_27 : decode cX6_pass 27 = .ok (.invokespecial 68, 3) := by decide +kernel
theorem dX6_pass_30 : decode cX6_pass 30 = .ok (.athrow, 1) := by decide +kernel
theorem dX6_pass_31 : decode cX6_pass 31 = .ok (.aload_n 0, 1) := by decide +kernel
theorem dX6_pass_32 : decode cX6_pass 32 = .ok (.aload_n 3, 1) := by decide +kernel
theorem dX6_pass_33 : decode cX6_pass 33 = .ok (.invokevirtual 88, 3) := by decide +kernel
theorem dX6_pass_36 : decode cX6_pass 36 = .ok (.iload_n 2, 1) := by decide +kernel
theorem dX6_pass_37 : decode cX6_pass 37 = .ok (.iconst (-1), 1) := by decide +kernel
theorem dX6_pass_38 : decode cX6_pass 38 = .ok (.ixor, 1) := by decide +kernel
theorem dX6_pass_39 : decode cX6_pass 39 = .ok (.iand, 1) := by decide +kernel
theorem dX6_pass_40 : decode cX6_pass 40 = .ok (.istore 5, 2) := by decide +kernel
theorem dX6_pass_42 : decode cX6_pass 42 = .ok (.aload_n 0, 1) := by decide +kernel
theorem dX6_pass_43 : decode cX6_pass 43 = .ok (.aload_n 3, 1) := by decide +kernel
theorem dX6_pass_44 : decode cX6_pass 44 = .ok (.iload 5, 2) := by decide +kernel
theorem dX6_pass_46 : decode cX6_pass 46 = .ok (.invokevirtual 92, 3) := by decide +kernel
theorem dX6_pass_49 : decode cX6_pass 49 = .ok (.aload_n 0, 1) := by decide +kernel
theorem dX6_pass_50 : decode cX6_pass 50 = .ok (.aload_n 3, 1) := by decide +kernel
theorem dX6_pass_51 : decode cX6_pass 51 = .ok (.iload 5, 2) := by decide +kernel
theorem dX6_pass_53 : decode cX6_pass 53 = .ok (.invokevirtual 96, 3) := by decide +kernel
theorem dX6_pass_56 : decode cX6_pass 56 = .ok (.aload 4, 2) := by decide +kernel
theorem dX6_pass_58 : decode cX6_pass 58 = .ok (.getfield 99, 3) := by decide +kernel
theorem dX6_pass_61 : decode cX6_pass 61 = .ok (.iload_n 1, 1) := by decide +kernel
theorem dX6_pass_62 : decode cX6_pass 62 = .ok (.aload_n 3, 1) := by decide +kernel
theorem dX6_pass_63 : decode cX6_pass 63 = .ok (.invokevirtual 103, 3) := by decide +kernel
theorem dX6_pass_66 : decode cX6_pass 66 = .ok (.iastore, 1) := by decide +kernel
theorem dX6_pass_67 : decode cX6_pass 67 = .ok (.aload_n 3, 1) := by decide +kernel
theorem dX6_pass_68 : decode cX6_pass 68 = .ok (.aload_n 3, 1) := by decide +kernel
theorem dX6_pass_69 : decode cX6_pass 69 = .ok (.getfield 106, 3) := by decide +kernel
theorem dX6_pass_72 : decode cX6_pass 72 = .ok (.aload 4, 2) := by decide +kernel
theorem dX6_pass_74 : decode cX6_pass 74 = .ok (.invokevirtual 109, 3) := by decide +kernel
theorem dX6_pass_77 : decode cX6_pass 77 = .ok (.invokestatic 15, 3) := by decide +kernel
theorem dX6_pass_80 : decode cX6_pass 80 = .ok (.putfield 106, 3) := by decide +kernel
theorem dX6_pass_83 : decode cX6_pass 83 = .ok (.aload_n 3, 1) := by decide +kernel
theorem dX6_pass_84 : decode cX6_pass 84 = .ok (.invokestatic 112, 3) := by decide +kernel
theorem dX6_pass_87 : decode cX6_pass 87 = .ok (.aload_n 3, 1) := by decide +kernel
theorem dX6_pass_88 : decode cX6_pass 88 = .ok (.invokevirtual 116, 3) := by decide +kernel
theorem dX6_pass_91 : decode cX6_pass 91 = .ok (.istore 6, 2) := by decide +kernel
theorem dX6_pass_93 : decode cX6_pass 93 = .ok (.aload_n 0, 1) := by decide +kernel
theorem dX6_pass_94 : decode cX6_pass 94 = .ok (.aload_n 3, 1) := by decide +kernel
theorem dX6_pass_95 : decode cX6_pass 95 = .ok (.invokevirtual 119, 3) := by decide +kernel
theorem dX6_pass_98 : decode cX6_pass 98 = .ok (.iload 6, 2) := by decide +kernel
theorem dX6_pass_100 : decode cX6_pass 100 = .ok (.ireturn, 1) := by decide +kernel
set_option maxRecDepth 20000 in
theorem ggX6_gather_X6_nodeAt : GoodIn wsX6_gather wsX6_nodeAt := goodIn_ca (goodIn_r _ [11, 12, 13, 14, 207, 208, 209, 210] (by decide +kernel) (by decide +kernel)) (goodIn_sub (fun _ h => List.mem_cons_of_mem _ (List.mem_append_right _ h)) (by decide +kernel))
set_option maxRecDepth 20000 in
theorem gX6_gather_X6_nodeAt : GoodIn wsX6_gather (wsV RX6 42 RX6 yX6_nodeAt wsX6_nodeAt) := goodIn_app (goodIn_of _ (by decide +kernel)) ggX6_gather_X6_nodeAt
set_option maxRecDepth 20000 in
theorem ggX6_gather_X6_upInGroup : GoodIn wsX6_gather wsX6_upInGroup := goodIn_r _ [18, 14, 3, 4, 19, 207, 208, 209, 210, 194, 195, 196, 197, 198, 199, 200, 201, 202, 203, 204, 205, 206] (by decide +kernel) (by decide +kernel)
set_option maxRecDepth 20000 in
theorem gX6_gather_X6_upInGroup : GoodIn wsX6_gather (wsV RX6 127 RX6 yX6_upInGroup wsX6_upInGroup) := goodIn_app (goodIn_of _ (by decide +kernel)) ggX6_gather_X6_upInGroup
set_option maxRecDepth 20000 in
theorem ggX6_gather_X6_isWhole : GoodIn wsX6_gather wsX6_isWhole := goodIn_r _ [23, 24, 25, 26, 27, 28, 10, 29, 14, 5, 19, 30, 31, 32, 211, 212, 213, 214, 215, 216, 207, 208, 209, 210, 194, 195, 196, 197, 198, 199, 200, 201, 202, 203, 204, 205, 206] (by decide +kernel) (by decide +kernel)
set_option maxRecDepth 20000 in
theorem gX6_gather_X6_isWhole : GoodIn wsX6_gather (wsV RX6 131 RX6 yX6_isWhole wsX6_isWhole) := goodIn_app (goodIn_of _ (by decide +kernel)) ggX6_gather_X6_isWhole
set_option maxRecDepth 20000 in
theorem ggX6_gather_X6_foremost : GoodIn wsX6_gather wsX6_foremost := goodIn_r _ [36, 14, 19, 30, 31, 10, 32, 37, 38, 39, 40, 41, 42, 43, 44, 45, 207, 208, 209, 210, 194, 195, 196, 197, 198, 199, 200, 201, 202, 203, 204, 205, 206, 217, 218, 219, 220, 221] (by decide +kernel) (by decide +kernel)
set_option maxRecDepth 20000 in
theorem gX6_gather_X6_foremost : GoodIn wsX6_gather (wsV RX6 135 RX6 yX6_foremost wsX6_foremost) := goodIn_app (goodIn_of _ (by decide +kernel)) ggX6_gather_X6_foremost
set_option maxRecDepth 20000 in
theorem ggX6_gather_X6_isQuorum : GoodIn wsX6_gather wsX6_isQuorum := goodIn_r _ [48, 49, 50, 51, 52, 53, 54, 55, 56, 57, 10, 58, 30, 31, 32] (by decide +kernel) (by decide +kernel)
set_option maxRecDepth 20000 in
theorem gX6_gather_X6_isQuorum : GoodIn wsX6_gather (va_wsS RX6 142 yX6_isQuorum wsX6_isQuorum) := goodIn_app (goodIn_of _ (by decide +kernel)) ggX6_gather_X6_isQuorum
set_option maxRecDepth 20000 in
theorem ggX6_gather_X6_endOldRings : GoodIn wsX6_gather wsX6_endOldRings := goodIn_r _ [62, 14, 5, 63, 19, 30, 31, 10, 32, 26, 27, 28, 29, 56, 57, 58, 64, 65, 66, 67, 68, 69, 70, 71, 72, 73, 74, 75, 76, 77, 78, 79, 80, 81, 82, 83, 84, 85, 86, 40, 87, 88, 89, 43, 90, 91, 92, 93, 94, 95, 96, 42, 97, 98, 99, 100, 101, 102, 103, 104, 105, 106, 107, 108, 109, 110, 111, 112, 113, 114, 115, 116, 117, 118, 119, 120, 121, 122, 123, 124, 125, 126, 127, 128, 129, 130, 131, 132, 133, 134, 135, 136, 137, 138, 207, 208, 209, 210, 194, 195, 196, 197, 198, 199, 200, 201, 202, 203, 204, 205, 206, 211, 212, 213, 214, 215, 216, 222, 223, 224, 225, 217, 218, 219, 220, 221, 226, 227] (by decide +kernel) (by decide +kernel)
set_option maxRecDepth 20000 in
theorem gX6_gather_X6_endOldRings : GoodIn wsX6_gather (wsV RX6 146 RX6 yX6_endOldRings wsX6_endOldRings) := goodIn_app (goodIn_of _ (by decide +kernel)) ggX6_gather_X6_endOldRings
set_option maxRecDepth 20000 in
theorem ggX6_gather_X6_bringTablesUpToDate : GoodIn wsX6_gather wsX6_bringTablesUpToDate := goodIn_r _ [142, 143, 144, 145, 14, 19, 146, 147, 148, 10, 149, 150, 30, 31, 32, 151, 123, 124, 125, 126, 127, 128, 129, 130, 131, 132, 133, 152, 153, 154, 155, 194, 195, 196, 197, 198, 199, 200, 201, 202, 203, 204, 205, 206, 217, 218, 219, 220, 221, 207, 208, 209, 210, 222, 223, 224, 225] (by decide +kernel) (by decide +kernel)
set_option maxRecDepth 20000 in
theorem gX6_gather_X6_bringTablesUpToDate : GoodIn wsX6_gather (wsV RX6 149 RX6 yX6_bringTablesUpToDate wsX6_bringTablesUpToDate) := goodIn_app (goodIn_of _ (by decide +kernel)) ggX6_gather_X6_bringTablesUpToDate
set_option maxRecDepth 20000 in
theorem ggX6_gather_X6_beginRing : GoodIn wsX6_gather wsX6_beginRing := goodIn_r _ [159, 14, 19, 160, 75, 76, 77, 78, 63, 30, 31, 10, 32, 161, 162, 163, 40, 164, 95, 165, 45, 101, 102, 88, 166, 167, 168, 169, 170, 26, 27, 28, 29, 5, 171, 172, 173, 174, 175, 176, 177, 178, 179, 180, 181, 57, 58, 182, 183, 184, 185, 96, 186, 42, 187, 188, 43, 107, 189, 190, 191, 125, 192, 133, 193, 111, 112, 113, 114, 115, 116, 117, 118, 119, 120, 121, 207, 208, 209, 210, 194, 195, 196, 197, 198, 199, 200, 201, 202, 203, 204, 205, 206, 211, 212, 213, 214, 215, 216, 217, 218, 219, 220, 221, 226, 227] (by decide +kernel) (by decide +kernel)
set_option maxRecDepth 20000 in
theorem gX6_gather_X6_beginRing : GoodIn wsX6_gather (wsV RX6 152 RX6 yX6_beginRing wsX6_beginRing) := goodIn_app (goodIn_of _ (by decide +kernel)) ggX6_gather_X6_beginRing
theorem dX6_gather_0 : decode cX6_gather 0 = .ok (.aload_n 0, 1) := by decide +kernel
theorem dX6_gather_1 : decode cX6_gather 1 = .ok (.iload_n 1, 1) := by decide +kernel
theorem dX6_gather_2 : decode cX6_gather 2 = .ok (.invokevirtual 42, 3) := by decide +kernel
theorem dX6_gather_5 : decode cX6_gather 5 = .ok (.astore_n 2, 1) := by decide +kernel
theorem dX6_gather_6 : decode cX6_gather 6 = .ok (.aload_n 2, 1) := by decide +kernel
theorem dX6_gather_7 : decode cX6_gather 7 = .ok (.getfield 50, 3) := by decide +kernel
theorem dX6_gather_10 : decode cX6_gather 10 = .ok (.ifCond .ne 13, 3) := by decide +kernel
theorem dX6_gather_13 : decode cX6_gather 13 = .ok (.new 64, 3) := by decide +kernel
theorem dX6_gather_16 : decode cX6_gather 16 = .ok (.dup, 1) := by decide +kernel
theorem dX6_gather_17 : decode cX6_gather 17 = .ok (.ldc 122, 2) := by decide +kernel
theorem dX6_gather_19 : decode cX6_gather 19 = .ok (.invokespecial 68, 3) := by decide +kernel
theorem dX6_gather_22 : decode cX6_gather 22 = .ok (.athrow, 1) := by decide +kernel
theorem dX6_gather_23 : decode cX6_gather 23 = .ok (.aload_n 0, 1) := by decide +kernel
theorem dX6_gather_24 : decode cX6_gather 24 = .ok (.aload_n 2, 1) := by decide +kernel
theorem dX6_gather_25 : decode cX6_gather 25 = .ok (.getfield 124, 3) := by decide +kernel
theorem dX6_gather_28 : decode cX6_gather 28 = .ok (.invokevirtual 127, 3) := by decide +kernel
theorem dX6_gather_31 : decode cX6_gather 31 = .ok (.istore_n 3, 1) := by decide +kernel
theorem dX6_gather_32 : decode cX6_gather 32 = .ok (.aload_n 0, 1) := by decide +kernel
theorem dX6_gather_33 : decode cX6_gather 33 = .ok (.aload_n 2, 1) := by decide +kernel
theorem dX6_gather_34 : decode cX6_gather 34 = .ok (.getfield 80, 3) := by decide +kernel
theorem dX6_gather_37 : decode cX6_gather 37 = .ok (.iload_n 3, 1) := by decide +kernel
theorem dX6_gather_38 : decode cX6_gather 38 = .ok (.invokevirtual 131, 3) := by decide +kernel
theorem dX6_gather_41 : decode cX6_gather 41 = .ok (.ifCond .eq 5, 3) := by decide +kernel
theorem dX6_gather_44 : decode cX6_gather 44 = .ok (.iconst 0, 1) := by decide +kernel
theorem dX6_gather_45 : decode cX6_gather 45 = .ok (.ireturn, 1) := by decide +kernel
theorem dX6_gather_46 : decode cX6_gather 46 = .ok (.iload_n 3, 1) := by decide +kernel
theorem dX6_gather_47 : decode cX6_gather 47 = .ok (.aload_n 0, 1) := by decide +kernel
theorem dX6_gather_48 : decode cX6_gather 48 = .ok (.aload_n 2, 1) := by decide +kernel
theorem dX6_gather_49 : decode cX6_gather 49 = .ok (.iload_n 3, 1) := by decide +kernel
theorem dX6_gather_50 : decode cX6_gather 50 = .ok (.invokevirtual 135, 3) := by decide +kernel
theorem dX6_gather_53 : decode cX6_gather 53 = .ok (.getfield 139, 3) := by decide +kernel
theorem dX6_gather_56 : decode cX6_gather 56 = .ok (.invokestatic 142, 3) := by decide +kernel
theorem dX6_gather_59 : decode cX6_gather 59 = .ok (.istore 4, 2) := by decide +kernel
theorem dX6_gather_61 : decode cX6_gather 61 = .ok (.aload_n 0, 1) := by decide +kernel
theorem dX6_gather_62 : decode cX6_gather 62 = .ok (.iload_n 3, 1) := by decide +kernel
theorem dX6_gather_63 : decode cX6_gather 63 = .ok (.invokevirtual 146, 3) := by decide +kernel
theorem dX6_gather_66 : decode cX6_gather 66 = .ok (.iload 4, 2) := by decide +kernel
theorem dX6_gather_68 : decode cX6_gather 68 = .ok (.ifCond .eq 14, 3) := by decide +kernel
theorem dX6_gather_71 : decode cX6_gather 71 = .ok (.aload_n 0, 1) := by decide +kernel
theorem dX6_gather_72 : decode cX6_gather 72 = .ok (.aload_n 0, 1) := by decide +kernel
theorem dX6_gather_73 : decode cX6_gather 73 = .ok (.aload_n 2, 1) := by decide +kernel
theorem dX6_gather_74 : decode cX6_gather 74 = .ok (.iload_n 3, 1) := by decide +kernel
theorem dX6_gather_75 : decode cX6_gather 75 = .ok (.invokevirtual 135, 3) := by decide +kernel
theorem dX6_gather_78 : decode cX6_gather 78 = .ok (.iload_n 3, 1) := by decide +kernel
theorem dX6_gather_79 : decode cX6_gather 79 = .ok (.invokevirtual 149, 3) := by decide +kernel
theorem dX6_gather_82 : decode cX6_gather 82 = .ok (.aload_n 0, 1) := by decide +kernel
theorem dX6_gather_83 : decode cX6_gather 83 = .ok (.iload_n 3, 1) := by decide +kernel
theorem dX6_gather_84 : decode cX6_gather 84 = .ok (.iload 4, 2) := by decide +kernel
theorem dX6_gather_86 : decode cX6_gather 86 = .ok (.invokevirtual 152, 3) := by decide +kernel
theorem dX6_gather_89 : decode cX6_gather 89 = .ok (.ireturn, 1) := by decide +kernel
set_option maxRecDepth 20000 in
theorem ggX6_part_X6_nodeAt : GoodIn wsX6_part wsX6_nodeAt := goodIn_ca (goodIn_r _ [8, 9, 10, 11, 25, 26, 27, 28] (by decide +kernel) (by decide +kernel)) (goodIn_sub (fun _ h => List.mem_cons_of_mem _ (List.mem_append_right _ h)) (by decide +kernel))
set_option maxRecDepth 20000 in
theorem gX6_part_X6_nodeAt : GoodIn wsX6_part (wsV RX6 42 RX6 yX6_nodeAt wsX6_nodeAt) := goodIn_app (goodIn_of _ (by decide +kernel)) ggX6_part_X6_nodeAt
theorem dX6_part_0 : decode cX6_part 0 = .ok (.aload_n 0, 1) := by decide +kernel
theorem dX6_part_1 : decode cX6_part 1 = .ok (.iload_n 1, 1) := by decide +kernel
theorem dX6_part_2 : decode cX6_part 2 = .ok (.invokevirtual 42, 3) := by decide +kernel
theorem dX6_part_5 : decode cX6_part 5 = .ok (.astore_n 3, 1) := by decide +kernel
theorem dX6_part_6 : decode cX6_part 6 = .ok (.iload_n 2, 1) := by decide +kernel
theorem dX6_part_7 : decode cX6_part 7 = .ok (.ifCond .lt 9, 3) := by decide +kernel
theorem dX6_part_10 : decode cX6_part 10 = .ok (.iload_n 2, 1) := by decide +kernel
theorem dX6_part_11 : decode cX6_part 11 = .ok (.bipush 8, 2) := by decide +kernel
theorem dX6_part_13 : decode cX6_part 13 = .ok (.if_icmp .lt 13, 3) := by decide +kernel
theorem dX6_part_16 : decode cX6_part 16 = .ok (.new 156, 3) := by decide +kernel
theorem dX6_part_19 : decode cX6_part 19 = .ok (.dup, 1) := by decide +kernel
theorem dX6_part_20 : decode cX6_part 20 = .ok (.ldc 158, 2) := by decide +kernel
theorem dX6_part_22 : decode cX6_part 22 = .ok (.invokespecial 160, 3) := by decide +kernel
theorem dX6_part_25 : decode cX6_part 25 = .ok (.athrow, 1) := by decide +kernel
theorem dX6_part_26 : decode cX6_part 26 = .ok (.aload_n 3, 1) := by decide +kernel
theorem dX6_part_27 : decode cX6_part 27 = .ok (.iload_n 2, 1) := by decide +kernel
theorem dX6_part_28 : decode cX6_part 28 = .ok (.putfield 124, 3) := by decide +kernel
theorem dX6_part_31 : decode cX6_part 31 = .ok (.return_, 1) := by decide +kernel
set_option maxRecDepth 20000 in
theorem ggX6_crash_X6_nodeAt : GoodIn wsX6_crash wsX6_nodeAt := goodIn_ca (goodIn_r _ [10, 11, 12, 13, 44, 45, 46, 47] (by decide +kernel) (by decide +kernel)) (goodIn_sub (fun _ h => List.mem_cons_of_mem _ (List.mem_append_right _ h)) (by decide +kernel))
set_option maxRecDepth 20000 in
theorem gX6_crash_X6_nodeAt : GoodIn wsX6_crash (wsV RX6 42 RX6 yX6_nodeAt wsX6_nodeAt) := goodIn_app (goodIn_of _ (by decide +kernel)) ggX6_crash_X6_nodeAt
set_option maxRecDepth 20000 in
theorem ggX6_crash_X3_drop : GoodIn wsX6_crash wsX3_drop := goodIn_r _ [18, 19, 48, 49] (by decide +kernel) (by decide +kernel)
set_option maxRecDepth 20000 in
theorem gX6_crash_X3_drop : GoodIn wsX6_crash (wsV RX6 161 RX3 yX3_drop wsX3_drop) := goodIn_app (goodIn_of _ (by decide +kernel)) ggX6_crash_X3_drop
set_option maxRecDepth 20000 in
theorem ggX6_crash_X2_leaveRing : GoodIn wsX6_crash wsX2_leaveRing := goodIn_r _ [24, 25, 26, 27, 28, 29, 30, 31, 32, 33, 34, 35, 36, 37, 38, 39, 40, 41, 42, 43, 50, 51, 52, 53, 54, 55] (by decide +kernel) (by decide +kernel)
set_option maxRecDepth 20000 in
theorem gX6_crash_X2_leaveRing : GoodIn wsX6_crash (wsV RX6 164 RX2 yX2_leaveRing wsX2_leaveRing) := goodIn_app (goodIn_of _ (by decide +kernel)) ggX6_crash_X2_leaveRing
theorem dX6_crash_0 : decode cX6_crash 0 = .ok (.aload_n 0, 1) := by decide +kernel
theorem dX6_crash_1 : decode cX6_crash 1 = .ok (.iload_n 1, 1) := by decide +kernel
theorem dX6_crash_2 : decode cX6_crash 2 = .ok (.invokevirtual 42, 3) := by decide +kernel
theorem dX6_crash_5 : decode cX6_crash 5 = .ok (.astore_n 2, 1) := by decide +kernel
theorem dX6_crash_6 : decode cX6_crash 6 = .ok (.aload_n 2, 1) := by decide +kernel
theorem dX6_crash_7 : decode cX6_crash 7 = .ok (.getfield 50, 3) := by decide +kernel
theorem dX6_crash_10 : decode cX6_crash 10 = .ok (.ifCond .ne 13, 3) := by decide +kernel
theorem dX6_crash_13 : decode cX6_crash 13 = .ok (.new 64, 3) := by decide +kernel
theorem dX6_crash_16 : decode cX6_crash 16 = .ok (.dup, 1) := by decide +kernel
theorem dX6_crash_17 : decode cX6_crash 17 = .ok (.ldc 122, 2) := by decide +kernel
theorem dX6_crash_19 : decode cX6_crash 19 = .ok (.invokespecial 68, 3) := by decide +kernel
theorem dX6_crash_22 : decode cX6_crash 22 = .ok (.athrow, 1) := by decide +kernel
theorem dX6_crash_23 : decode cX6_crash 23 = .ok (.aload_n 2, 1) := by decide +kernel
theorem dX6_crash_24 : decode cX6_crash 24 = .ok (.iconst 0, 1) := by decide +kernel
theorem dX6_crash_25 : decode cX6_crash 25 = .ok (.putfield 50, 3) := by decide +kernel
theorem dX6_crash_28 : decode cX6_crash 28 = .ok (.aload_n 2, 1) := by decide +kernel
theorem dX6_crash_29 : decode cX6_crash 29 = .ok (.getfield 54, 3) := by decide +kernel
theorem dX6_crash_32 : decode cX6_crash 32 = .ok (.invokevirtual 161, 3) := by decide +kernel
theorem dX6_crash_35 : decode cX6_crash 35 = .ok (.aload_n 2, 1) := by decide +kernel
theorem dX6_crash_36 : decode cX6_crash 36 = .ok (.aload_n 0, 1) := by decide +kernel
theorem dX6_crash_37 : decode cX6_crash 37 = .ok (.getfield 25, 3) := by decide +kernel
theorem dX6_crash_40 : decode cX6_crash 40 = .ok (.invokevirtual 164, 3) := by decide +kernel
theorem dX6_crash_43 : decode cX6_crash 43 = .ok (.return_, 1) := by decide +kernel
set_option maxRecDepth 20000 in
theorem ggX6_restart_X6_nodeAt : GoodIn wsX6_restart wsX6_nodeAt := goodIn_ca (goodIn_r _ [8, 9, 10, 11, 25, 26, 27, 28] (by decide +kernel) (by decide +kernel)) (goodIn_sub (fun _ h => List.mem_cons_of_mem _ (List.mem_append_right _ h)) (by decide +kernel))
set_option maxRecDepth 20000 in
theorem gX6_restart_X6_nodeAt : GoodIn wsX6_restart (wsV RX6 42 RX6 yX6_nodeAt wsX6_nodeAt) := goodIn_app (goodIn_of _ (by decide +kernel)) ggX6_restart_X6_nodeAt
theorem dX6_restart_0 : decode cX6_restart 0 = .ok (.aload_n 0, 1) := by decide +kernel
theorem dX6_restart_1 : decode cX6_restart 1 = .ok (.iload_n 1, 1) := by decide +kernel
theorem dX6_restart_2 : decode cX6_restart 2 = .ok (.invokevirtual 42, 3) := by decide +kernel
end
section
theorem dX6_restart_5 : decode cX6_restart 5 = .ok (.astore_n 2, 1) := by decide +kernel
theorem dX6_restart_6 : decode cX6_restart 6 = .ok (.aload_n 2, 1) := by decide +kernel
theorem dX6_restart_7 : decode cX6_restart 7 = .ok (.getfield 50, 3) := by decide +kernel
theorem dX6_restart_10 : decode cX6_restart 10 = .ok (.ifCond .eq 13, 3) := by decide +kernel
theorem dX6_restart_13 : decode cX6_restart 13 = .ok (.new 64, 3) := by decide +kernel
theorem dX6_restart_16 : decode cX6_restart 16 = .ok (.dup, 1) := by decide +kernel
theorem dX6_restart_17 : decode cX6_restart 17 = .ok (.ldc 168, 2) := by decide +kernel
theorem dX6_restart_19 : decode cX6_restart 19 = .ok (.invokespecial 68, 3) := by decide +kernel
theorem dX6_restart_22 : decode cX6_restart 22 = .ok (.athrow, 1) := by decide +kernel
theorem dX6_restart_23 : decode cX6_restart 23 = .ok (.aload_n 2, 1) := by decide +kernel
theorem dX6_restart_24 : decode cX6_restart 24 = .ok (.iconst 1, 1) := by decide +kernel
theorem dX6_restart_25 : decode cX6_restart 25 = .ok (.putfield 50, 3) := by decide +kernel
theorem dX6_restart_28 : decode cX6_restart 28 = .ok (.return_, 1) := by decide +kernel
set_option maxRecDepth 20000 in
theorem ggX6_about_X6_nodeAt : GoodIn wsX6_about wsX6_nodeAt := goodIn_ca (goodIn_r _ [24, 25, 26, 27, 62, 63, 64, 65] (by decide +kernel) (by decide +kernel)) (goodIn_sub (fun _ h => List.mem_cons_of_mem _ (List.mem_append_right _ h)) (by decide +kernel))
set_option maxRecDepth 20000 in
theorem gX6_about_X6_nodeAt : GoodIn wsX6_about (wsV RX6 42 RX6 yX6_nodeAt wsX6_nodeAt) := goodIn_app (goodIn_of _ (by decide +kernel)) ggX6_about_X6_nodeAt
set_option maxRecDepth 20000 in
theorem ggX6_about_X2_full : GoodIn wsX6_about wsX2_full := goodIn_r _ [32, 33, 34, 35, 36, 37, 38, 39, 40, 41, 42, 43, 44, 45, 46] (by decide +kernel) (by decide +kernel)
set_option maxRecDepth 20000 in
theorem gX6_about_X2_full : GoodIn wsX6_about (wsV RX6 103 RX2 yX2_full wsX2_full) := goodIn_app (goodIn_of _ (by decide +kernel)) ggX6_about_X2_full
theorem dX6_about_0 : decode cX6_about 0 = .ok (.aload_n 0, 1) := by decide +kernel
theorem dX6_about_1 : decode cX6_about 1 = .ok (.iload_n 1, 1) := by decide +kernel
theorem dX6_about_2 : decode cX6_about 2 = .ok (.invokevirtual 42, 3) := by decide +kernel
theorem dX6_about_5 : decode cX6_about 5 = .ok (.astore_n 3, 1) := by decide +kernel
theorem dX6_about_6 : decode cX6_about 6 = .ok (.iload_n 2, 1) := by decide +kernel
theorem dX6_about_7 : decode cX6_about 7 = .ok (.tableswitch 174 0 13 #[69, 82, 87, 95, 103, 111, 116, 121, 126, 134, 139, 144, 149, 166], 69) := by decide +kernel
theorem dX6_about_76 : decode cX6_about 76 = .ok (.aload_n 3, 1) := by decide +kernel
theorem dX6_about_77 : decode cX6_about 77 = .ok (.getfield 50, 3) := by decide +kernel
theorem dX6_about_80 : decode cX6_about 80 = .ok (.ifCond .eq 7, 3) := by decide +kernel
theorem dX6_about_83 : decode cX6_about 83 = .ok (.iconst 1, 1) := by decide +kernel
theorem dX6_about_84 : decode cX6_about 84 = .ok (.goto 4, 3) := by decide +kernel
theorem dX6_about_87 : decode cX6_about 87 = .ok (.iconst 0, 1) := by decide +kernel
theorem dX6_about_88 : decode cX6_about 88 = .ok (.ireturn, 1) := by decide +kernel
theorem dX6_about_89 : decode cX6_about 89 = .ok (.aload_n 3, 1) := by decide +kernel
theorem dX6_about_90 : decode cX6_about 90 = .ok (.getfield 124, 3) := by decide +kernel
theorem dX6_about_93 : decode cX6_about 93 = .ok (.ireturn, 1) := by decide +kernel
theorem dX6_about_94 : decode cX6_about 94 = .ok (.aload_n 3, 1) := by decide +kernel
theorem dX6_about_95 : decode cX6_about 95 = .ok (.getfield 80, 3) := by decide +kernel
theorem dX6_about_98 : decode cX6_about 98 = .ok (.getfield 170, 3) := by decide +kernel
theorem dX6_about_101 : decode cX6_about 101 = .ok (.ireturn, 1) := by decide +kernel
theorem dX6_about_102 : decode cX6_about 102 = .ok (.aload_n 3, 1) := by decide +kernel
theorem dX6_about_103 : decode cX6_about 103 = .ok (.getfield 80, 3) := by decide +kernel
theorem dX6_about_106 : decode cX6_about 106 = .ok (.getfield 173, 3) := by decide +kernel
theorem dX6_about_109 : decode cX6_about 109 = .ok (.ireturn, 1) := by decide +kernel
theorem dX6_about_110 : decode cX6_about 110 = .ok (.aload_n 3, 1) := by decide +kernel
theorem dX6_about_111 : decode cX6_about 111 = .ok (.getfield 54, 3) := by decide +kernel
theorem dX6_about_114 : decode cX6_about 114 = .ok (.getfield 176, 3) := by decide +kernel
theorem dX6_about_117 : decode cX6_about 117 = .ok (.ireturn, 1) := by decide +kernel
theorem dX6_about_118 : decode cX6_about 118 = .ok (.aload_n 3, 1) := by decide +kernel
theorem dX6_about_119 : decode cX6_about 119 = .ok (.invokevirtual 103, 3) := by decide +kernel
theorem dX6_about_122 : decode cX6_about 122 = .ok (.ireturn, 1) := by decide +kernel
theorem dX6_about_123 : decode cX6_about 123 = .ok (.aload_n 3, 1) := by decide +kernel
theorem dX6_about_124 : decode cX6_about 124 = .ok (.getfield 179, 3) := by decide +kernel
theorem dX6_about_127 : decode cX6_about 127 = .ok (.ireturn, 1) := by decide +kernel
theorem dX6_about_128 : decode cX6_about 128 = .ok (.aload_n 3, 1) := by decide +kernel
theorem dX6_about_129 : decode cX6_about 129 = .ok (.getfield 106, 3) := by decide +kernel
theorem dX6_about_132 : decode cX6_about 132 = .ok (.ireturn, 1) := by decide +kernel
theorem dX6_about_133 : decode cX6_about 133 = .ok (.aload_n 3, 1) := by decide +kernel
theorem dX6_about_134 : decode cX6_about 134 = .ok (.getfield 182, 3) := by decide +kernel
theorem dX6_about_137 : decode cX6_about 137 = .ok (.getfield 186, 3) := by decide +kernel
theorem dX6_about_140 : decode cX6_about 140 = .ok (.ireturn, 1) := by decide +kernel
theorem dX6_about_141 : decode cX6_about 141 = .ok (.aload_n 3, 1) := by decide +kernel
theorem dX6_about_142 : decode cX6_about 142 = .ok (.getfield 191, 3) := by decide +kernel
theorem dX6_about_145 : decode cX6_about 145 = .ok (.ireturn, 1) := by decide +kernel
theorem dX6_about_146 : decode cX6_about 146 = .ok (.aload_n 3, 1) := by decide +kernel
theorem dX6_about_147 : decode cX6_about 147 = .ok (.getfield 139, 3) := by decide +kernel
theorem dX6_about_150 : decode cX6_about 150 = .ok (.ireturn, 1) := by decide +kernel
theorem dX6_about_151 : decode cX6_about 151 = .ok (.aload_n 3, 1) := by decide +kernel
theorem dX6_about_152 : decode cX6_about 152 = .ok (.getfield 194, 3) := by decide +kernel
theorem dX6_about_155 : decode cX6_about 155 = .ok (.ireturn, 1) := by decide +kernel
theorem dX6_about_156 : decode cX6_about 156 = .ok (.aload_n 3, 1) := by decide +kernel
theorem dX6_about_157 : decode cX6_about 157 = .ok (.getfield 80, 3) := by decide +kernel
theorem dX6_about_160 : decode cX6_about 160 = .ok (.getfield 83, 3) := by decide +kernel
theorem dX6_about_163 : decode cX6_about 163 = .ok (.iload_n 1, 1) := by decide +kernel
theorem dX6_about_164 : decode cX6_about 164 = .ok (.if_icmp .ne 7, 3) := by decide +kernel
theorem dX6_about_167 : decode cX6_about 167 = .ok (.iconst 1, 1) := by decide +kernel
theorem dX6_about_168 : decode cX6_about 168 = .ok (.goto 4, 3) := by decide +kernel
theorem dX6_about_171 : decode cX6_about 171 = .ok (.iconst 0, 1) := by decide +kernel
theorem dX6_about_172 : decode cX6_about 172 = .ok (.ireturn, 1) := by decide +kernel
theorem dX6_about_173 : decode cX6_about 173 = .ok (.aload_n 3, 1) := by decide +kernel
theorem dX6_about_174 : decode cX6_about 174 = .ok (.getfield 197, 3) := by decide +kernel
theorem dX6_about_177 : decode cX6_about 177 = .ok (.getfield 201, 3) := by decide +kernel
theorem dX6_about_180 : decode cX6_about 180 = .ok (.ireturn, 1) := by decide +kernel
theorem dX6_about_181 : decode cX6_about 181 = .ok (.new 156, 3) := by decide +kernel
theorem dX6_about_184 : decode cX6_about 184 = .ok (.dup, 1) := by decide +kernel
theorem dX6_about_185 : decode cX6_about 185 = .ok (.ldc 206, 2) := by decide +kernel
theorem dX6_about_187 : decode cX6_about 187 = .ok (.invokespecial 160, 3) := by decide +kernel
theorem dX6_about_190 : decode cX6_about 190 = .ok (.athrow, 1) := by decide +kernel
set_option maxRecDepth 20000 in
theorem ggX6_table_X6_nodeAt : GoodIn wsX6_table wsX6_nodeAt := goodIn_ca (goodIn_r _ [7, 8, 9, 10, 32, 33, 34, 35] (by decide +kernel) (by decide +kernel)) (goodIn_sub (fun _ h => List.mem_cons_of_mem _ (List.mem_append_right _ h)) (by decide +kernel))
set_option maxRecDepth 20000 in
theorem gX6_table_X6_nodeAt : GoodIn wsX6_table (wsV RX6 42 RX6 yX6_nodeAt wsX6_nodeAt) := goodIn_app (goodIn_of _ (by decide +kernel)) ggX6_table_X6_nodeAt
set_option maxRecDepth 20000 in
theorem ggX6_table_X6_checkKey : GoodIn wsX6_table wsX6_checkKey := goodIn_ca (goodIn_r _ [13, 8, 9] (by decide +kernel) (by decide +kernel)) (goodIn_sub (fun _ h => List.mem_cons_of_mem _ (List.mem_append_right _ h)) (by decide +kernel))
set_option maxRecDepth 20000 in
theorem gX6_table_X6_checkKey : GoodIn wsX6_table (va_wsS RX6 46 yX6_checkKey wsX6_checkKey) := goodIn_app (goodIn_of _ (by decide +kernel)) ggX6_table_X6_checkKey
theorem dX6_table_0 : decode cX6_table 0 = .ok (.aload_n 0, 1) := by decide +kernel
theorem dX6_table_1 : decode cX6_table 1 = .ok (.iload_n 1, 1) := by decide +kernel
theorem dX6_table_2 : decode cX6_table 2 = .ok (.invokevirtual 42, 3) := by decide +kernel
theorem dX6_table_5 : decode cX6_table 5 = .ok (.astore_n 3, 1) := by decide +kernel
theorem dX6_table_6 : decode cX6_table 6 = .ok (.iload_n 2, 1) := by decide +kernel
theorem dX6_table_7 : decode cX6_table 7 = .ok (.invokestatic 46, 3) := by decide +kernel
theorem dX6_table_10 : decode cX6_table 10 = .ok (.aload_n 3, 1) := by decide +kernel
theorem dX6_table_11 : decode cX6_table 11 = .ok (.getfield 182, 3) := by decide +kernel
theorem dX6_table_14 : decode cX6_table 14 = .ok (.getfield 208, 3) := by decide +kernel
theorem dX6_table_17 : decode cX6_table 17 = .ok (.iload_n 2, 1) := by decide +kernel
theorem dX6_table_18 : decode cX6_table 18 = .ok (.laload, 1) := by decide +kernel
theorem dX6_table_19 : decode cX6_table 19 = .ok (.lreturn, 1) := by decide +kernel
set_option maxRecDepth 20000 in
theorem ggX6_mark_X6_nodeAt : GoodIn wsX6_mark wsX6_nodeAt := goodIn_ca (goodIn_r _ [7, 8, 9, 10, 29, 30, 31, 32] (by decide +kernel) (by decide +kernel)) (goodIn_sub (fun _ h => List.mem_cons_of_mem _ (List.mem_append_right _ h)) (by decide +kernel))
set_option maxRecDepth 20000 in
theorem gX6_mark_X6_nodeAt : GoodIn wsX6_mark (wsV RX6 42 RX6 yX6_nodeAt wsX6_nodeAt) := goodIn_app (goodIn_of _ (by decide +kernel)) ggX6_mark_X6_nodeAt
theorem dX6_mark_0 : decode cX6_mark 0 = .ok (.aload_n 0, 1) := by decide +kernel
theorem dX6_mark_1 : decode cX6_mark 1 = .ok (.iload_n 1, 1) := by decide +kernel
theorem dX6_mark_2 : decode cX6_mark 2 = .ok (.invokevirtual 42, 3) := by decide +kernel
theorem dX6_mark_5 : decode cX6_mark 5 = .ok (.getfield 182, 3) := by decide +kernel
theorem dX6_mark_8 : decode cX6_mark 8 = .ok (.getfield 212, 3) := by decide +kernel
theorem dX6_mark_11 : decode cX6_mark 11 = .ok (.lreturn, 1) := by decide +kernel
set_option maxRecDepth 20000 in
theorem ggX6_entry_X6_nodeAt : GoodIn wsX6_entry wsX6_nodeAt := goodIn_ca (goodIn_r _ [10, 1, 2, 11, 45, 46, 47, 48] (by decide +kernel) (by decide +kernel)) (goodIn_sub (fun _ h => List.mem_cons_of_mem _ (List.mem_append_left _ (List.mem_append_right _ h))) (by decide +kernel))
set_option maxRecDepth 20000 in
theorem gX6_entry_X6_nodeAt : GoodIn wsX6_entry (wsV RX6 42 RX6 yX6_nodeAt wsX6_nodeAt) := goodIn_app (goodIn_of _ (by decide +kernel)) ggX6_entry_X6_nodeAt
set_option maxRecDepth 20000 in
theorem ggX6_entry_X0_size : GoodIn wsX6_entry wsX0_size := goodIn_r _ [16, 17, 18, 19, 20, 21, 49, 50] (by decide +kernel) (by decide +kernel)
set_option maxRecDepth 20000 in
theorem gX6_entry_X0_size : GoodIn wsX6_entry (wsV RX6 216 RX0 yX0_size wsX0_size) := goodIn_app (goodIn_of _ (by decide +kernel)) ggX6_entry_X0_size
set_option maxRecDepth 20000 in
theorem ggX6_entry_X0_cell : GoodIn wsX6_entry wsX0_cell := goodIn_r _ [25, 26, 17, 27, 13, 14, 15, 16, 18, 19, 20, 21, 28, 29, 30, 31, 49, 50] (by decide +kernel) (by decide +kernel)
set_option maxRecDepth 20000 in
theorem gX6_entry_X0_cell : GoodIn wsX6_entry (wsV RX6 226 RX0 yX0_cell wsX0_cell) := goodIn_app (goodIn_of _ (by decide +kernel)) ggX6_entry_X0_cell
theorem dX6_entry_0 : decode cX6_entry 0 = .ok (.aload_n 0, 1) := by decide +kernel
theorem dX6_entry_1 : decode cX6_entry 1 = .ok (.iload_n 1, 1) := by decide +kernel
theorem dX6_entry_2 : decode cX6_entry 2 = .ok (.invokevirtual 42, 3) := by decide +kernel
theorem dX6_entry_5 : decode cX6_entry 5 = .ok (.getfield 197, 3) := by decide +kernel
theorem dX6_entry_8 : decode cX6_entry 8 = .ok (.astore 4, 2) := by decide +kernel
theorem dX6_entry_10 : decode cX6_entry 10 = .ok (.iload_n 2, 1) := by decide +kernel
theorem dX6_entry_11 : decode cX6_entry 11 = .ok (.ifCond .lt 12, 3) := by decide +kernel
theorem dX6_entry_14 : decode cX6_entry 14 = .ok (.iload_n 2, 1) := by decide +kernel
theorem dX6_entry_15 : decode cX6_entry 15 = .ok (.aload 4, 2) := by decide +kernel
theorem dX6_entry_17 : decode cX6_entry 17 = .ok (.invokevirtual 216, 3) := by decide +kernel
theorem dX6_entry_20 : decode cX6_entry 20 = .ok (.if_icmp .lt 13, 3) := by decide +kernel
theorem dX6_entry_23 : decode cX6_entry 23 = .ok (.new 219, 3) := by decide +kernel
theorem dX6_entry_26 : decode cX6_entry 26 = .ok (.dup, 1) := by decide +kernel
theorem dX6_entry_27 : decode cX6_entry 27 = .ok (.ldc 221, 2) := by decide +kernel
theorem dX6_entry_29 : decode cX6_entry 29 = .ok (.invokespecial 223, 3) := by decide +kernel
theorem dX6_entry_32 : decode cX6_entry 32 = .ok (.athrow, 1) := by decide +kernel
theorem dX6_entry_33 : decode cX6_entry 33 = .ok (.iload_n 3, 1) := by decide +kernel
theorem dX6_entry_34 : decode cX6_entry 34 = .ok (.ifCond .lt 9, 3) := by decide +kernel
theorem dX6_entry_37 : decode cX6_entry 37 = .ok (.iload_n 3, 1) := by decide +kernel
theorem dX6_entry_38 : decode cX6_entry 38 = .ok (.bipush 6, 2) := by decide +kernel
theorem dX6_entry_40 : decode cX6_entry 40 = .ok (.if_icmp .lt 13, 3) := by decide +kernel
theorem dX6_entry_43 : decode cX6_entry 43 = .ok (.new 156, 3) := by decide +kernel
theorem dX6_entry_46 : decode cX6_entry 46 = .ok (.dup, 1) := by decide +kernel
theorem dX6_entry_47 : decode cX6_entry 47 = .ok (.ldc 224, 2) := by decide +kernel
theorem dX6_entry_49 : decode cX6_entry 49 = .ok (.invokespecial 160, 3) := by decide +kernel
theorem dX6_entry_52 : decode cX6_entry 52 = .ok (.athrow, 1) := by decide +kernel
theorem dX6_entry_53 : decode cX6_entry 53 = .ok (.aload 4, 2) := by decide +kernel
theorem dX6_entry_55 : decode cX6_entry 55 = .ok (.iload_n 2, 1) := by decide +kernel
theorem dX6_entry_56 : decode cX6_entry 56 = .ok (.iload_n 3, 1) := by decide +kernel
theorem dX6_entry_57 : decode cX6_entry 57 = .ok (.invokevirtual 226, 3) := by decide +kernel
theorem dX6_entry_60 : decode cX6_entry 60 = .ok (.lreturn, 1) := by decide +kernel
set_option maxRecDepth 20000 in
theorem ggX6_primary_X6_nodeAt : GoodIn wsX6_primary wsX6_nodeAt := goodIn_ca (goodIn_r _ [5, 6, 7, 8, 17, 18, 19, 20] (by decide +kernel) (by decide +kernel)) (goodIn_sub (fun _ h => List.mem_cons_of_mem _ (List.mem_append_right _ h)) (by decide +kernel))
set_option maxRecDepth 20000 in
theorem gX6_primary_X6_nodeAt : GoodIn wsX6_primary (wsV RX6 42 RX6 yX6_nodeAt wsX6_nodeAt) := goodIn_app (goodIn_of _ (by decide +kernel)) ggX6_primary_X6_nodeAt
set_option maxRecDepth 20000 in
theorem ggX6_primary_X2_isOfPrimary : GoodIn wsX6_primary wsX2_isOfPrimary := goodIn_r _ [13, 14, 15, 16, 21, 22, 23, 24, 25, 26, 27, 28, 29, 30, 31, 32, 33, 34, 35, 36, 37, 38, 39] (by decide +kernel) (by decide +kernel)
set_option maxRecDepth 20000 in
theorem gX6_primary_X2_isOfPrimary : GoodIn wsX6_primary (wsV RX6 230 RX2 yX2_isOfPrimary wsX2_isOfPrimary) := goodIn_app (goodIn_of _ (by decide +kernel)) ggX6_primary_X2_isOfPrimary
theorem dX6_primary_0 : decode cX6_primary 0 = .ok (.aload_n 0, 1) := by decide +kernel
theorem dX6_primary_1 : decode cX6_primary 1 = .ok (.iload_n 1, 1) := by decide +kernel
theorem dX6_primary_2 : decode cX6_primary 2 = .ok (.invokevirtual 42, 3) := by decide +kernel
theorem dX6_primary_5 : decode cX6_primary 5 = .ok (.invokevirtual 230, 3) := by decide +kernel
theorem dX6_primary_8 : decode cX6_primary 8 = .ok (.ireturn, 1) := by decide +kernel
theorem dX6_nodeAt_0 : decode cX6_nodeAt 0 = .ok (.iload_n 1, 1) := by decide +kernel
theorem dX6_nodeAt_1 : decode cX6_nodeAt 1 = .ok (.ifCond .lt 12, 3) := by decide +kernel
theorem dX6_nodeAt_4 : decode cX6_nodeAt 4 = .ok (.iload_n 1, 1) := by decide +kernel
theorem dX6_nodeAt_5 : decode cX6_nodeAt 5 = .ok (.aload_n 0, 1) := by decide +kernel
theorem dX6_nodeAt_6 : decode cX6_nodeAt 6 = .ok (.getfield 31, 3) := by decide +kernel
theorem dX6_nodeAt_9 : decode cX6_nodeAt 9 = .ok (.arraylength, 1) := by decide +kernel
theorem dX6_nodeAt_10 : decode cX6_nodeAt 10 = .ok (.if_icmp .lt 13, 3) := by decide +kernel
theorem dX6_nodeAt_13 : decode cX6_nodeAt 13 = .ok (.new 219, 3) := by decide +kernel
theorem dX6_nodeAt_16 : decode cX6_nodeAt 16 = .ok (.dup, 1) := by decide +kernel
theorem dX6_nodeAt_17 : decode cX6_nodeAt 17 = .ok (.ldc 233, 2) := by decide +kernel
theorem dX6_nodeAt_19 : decode cX6_nodeAt 19 = .ok (.invokespecial 223, 3) := by decide +kernel
theorem dX6_nodeAt_22 : decode cX6_nodeAt 22 = .ok (.athrow, 1) := by decide +kernel
theorem dX6_nodeAt_23 : decode cX6_nodeAt 23 = .ok (.aload_n 0, 1) := by decide +kernel
theorem dX6_nodeAt_24 : decode cX6_nodeAt 24 = .ok (.getfield 31, 3) := by decide +kernel
theorem dX6_nodeAt_27 : decode cX6_nodeAt 27 = .ok (.iload_n 1, 1) := by decide +kernel
theorem dX6_nodeAt_28 : decode cX6_nodeAt 28 = .ok (.aaload, 1) := by decide +kernel
theorem dX6_nodeAt_29 : decode cX6_nodeAt 29 = .ok (.areturn, 1) := by decide +kernel
theorem dX6_checkKey_0 : decode cX6_checkKey 0 = .ok (.iload_n 0, 1) := by decide +kernel
theorem dX6_checkKey_1 : decode cX6_checkKey 1 = .ok (.ifCond .lt 9, 3) := by decide +kernel
theorem dX6_checkKey_4 : decode cX6_checkKey 4 = .ok (.iload_n 0, 1) := by decide +kernel
theorem dX6_checkKey_5 : decode cX6_checkKey 5 = .ok (.bipush 16, 2) := by decide +kernel
theorem dX6_checkKey_7 : decode cX6_checkKey 7 = .ok (.if_icmp .lt 13, 3) := by decide +kernel
theorem dX6_checkKey_10 : decode cX6_checkKey 10 = .ok (.new 219, 3) := by decide +kernel
theorem dX6_checkKey_13 : decode cX6_checkKey 13 = .ok (.dup, 1) := by decide +kernel
theorem dX6_checkKey_14 : decode cX6_checkKey 14 = .ok (.ldc 235, 2) := by decide +kernel
theorem dX6_checkKey_16 : decode cX6_checkKey 16 = .ok (.invokespecial 223, 3) := by decide +kernel
theorem dX6_checkKey_19 : decode cX6_checkKey 19 = .ok (.athrow, 1) := by decide +kernel
theorem dX6_checkKey_20 : decode cX6_checkKey 20 = .ok (.return_, 1) := by decide +kernel
theorem dX6_isIn_0 : decode cX6_isIn 0 = .ok (.iload_n 1, 1) := by decide +kernel
theorem dX6_isIn_1 : decode cX6_isIn 1 = .ok (.iconst 1, 1) := by decide +kernel
theorem dX6_isIn_2 : decode cX6_isIn 2 = .ok (.iload_n 0, 1) := by decide +kernel
theorem dX6_isIn_3 : decode cX6_isIn 3 = .ok (.ishl, 1) := by decide +kernel
theorem dX6_isIn_4 : decode cX6_isIn 4 = .ok (.iand, 1) := by decide +kernel
theorem dX6_isIn_5 : decode cX6_isIn 5 = .ok (.ifCond .eq 7, 3) := by decide +kernel
theorem dX6_isIn_8 : decode cX6_isIn 8 = .ok (.iconst 1, 1) := by decide +kernel
theorem dX6_isIn_9 : decode cX6_isIn 9 = .ok (.goto 4, 3) := by decide +kernel
theorem dX6_isIn_12 : decode cX6_isIn 12 = .ok (.iconst 0, 1) := by decide +kernel
theorem dX6_isIn_13 : decode cX6_isIn 13 = .ok (.ireturn, 1) := by decide +kernel
set_option maxRecDepth 20000 in
theorem ggX6_leastOf_X6_isIn : GoodIn wsX6_leastOf wsX6_isIn := goodIn_r _ [4] (by decide +kernel) (by decide +kernel)
set_option maxRecDepth 20000 in
theorem gX6_leastOf_X6_isIn : GoodIn wsX6_leastOf (va_wsS RX6 237 yX6_isIn wsX6_isIn) := goodIn_app (goodIn_of _ (by decide +kernel)) ggX6_leastOf_X6_isIn
theorem dX6_leastOf_0 : decode cX6_leastOf 0 = .ok (.iconst 0, 1) := by decide +kernel
theorem dX6_leastOf_1 : decode cX6_leastOf 1 = .ok (.istore_n 1, 1) := by decide +kernel
theorem dX6_leastOf_2 : decode cX6_leastOf 2 = .ok (.iload_n 1, 1) := by decide +kernel
theorem dX6_leastOf_3 : decode cX6_leastOf 3 = .ok (.bipush 8, 2) := by decide +kernel
theorem dX6_leastOf_5 : decode cX6_leastOf 5 = .ok (.if_icmp .ge 19, 3) := by decide +kernel
theorem dX6_leastOf_8 : decode cX6_leastOf 8 = .ok (.iload_n 1, 1) := by decide +kernel
theorem dX6_leastOf_9 : decode cX6_leastOf 9 = .ok (.iload_n 0, 1) := by decide +kernel
theorem dX6_leastOf_10 : decode cX6_leastOf 10 = .ok (.invokestatic 237, 3) := by decide +kernel
theorem dX6_leastOf_13 : decode cX6_leastOf 13 = .ok (.ifCond .eq 5, 3) := by decide +kernel
theorem dX6_leastOf_16 : decode cX6_leastOf 16 = .ok (.iload_n 1, 1) := by decide +kernel
theorem dX6_leastOf_17 : decode cX6_leastOf 17 = .ok (.ireturn, 1) := by decide +kernel
theorem dX6_leastOf_18 : decode cX6_leastOf 18 = .ok (.iinc 1 1, 3) := by decide +kernel
theorem dX6_leastOf_21 : decode cX6_leastOf 21 = .ok (.goto (-19), 3) := by decide +kernel
theorem dX6_leastOf_24 : decode cX6_leastOf 24 = .ok (.iconst (-1), 1) := by decide +kernel
theorem dX6_leastOf_25 : decode cX6_leastOf 25 = .ok (.ireturn, 1) := by decide +kernel
theorem dX6_reaches_0 : decode cX6_reaches 0 = .ok (.aload_n 1, 1) := by decide +kernel
theorem dX6_reaches_1 : decode cX6_reaches 1 = .ok (.getfield 50, 3) := by decide +kernel
theorem dX6_reaches_4 : decode cX6_reaches 4 = .ok (.ifCond .eq 29, 3) := by decide +kernel
theorem dX6_reaches_7 : decode cX6_reaches 7 = .ok (.aload_n 1, 1) := by decide +kernel
theorem dX6_reaches_8 : decode cX6_reaches 8 = .ok (.getfield 124, 3) := by decide +kernel
theorem dX6_reaches_11 : decode cX6_reaches 11 = .ok (.aload_n 0, 1) := by decide +kernel
theorem dX6_reaches_12 : decode cX6_reaches 12 = .ok (.getfield 124, 3) := by decide +kernel
theorem dX6_reaches_15 : decode cX6_reaches 15 = .ok (.if_icmp .ne 18, 3) := by decide +kernel
theorem dX6_reaches_18 : decode cX6_reaches 18 = .ok (.aload_n 1, 1) := by decide +kernel
theorem dX6_reaches_19 : decode cX6_reaches 19 = .ok (.getfield 80, 3) := by decide +kernel
theorem dX6_reaches_22 : decode cX6_reaches 22 = .ok (.aload_n 0, 1) := by decide +kernel
theorem dX6_reaches_23 : decode cX6_reaches 23 = .ok (.getfield 80, 3) := by decide +kernel
theorem dX6_reaches_26 : decode cX6_reaches 26 = .ok (.if_acmp .ne 7, 3) := by decide +kernel
theorem dX6_reaches_29 : decode cX6_reaches 29 = .ok (.iconst 1, 1) := by decide +kernel
theorem dX6_reaches_30 : decode cX6_reaches 30 = .ok (.goto 4, 3) := by decide +kernel
theorem dX6_reaches_33 : decode cX6_reaches 33 = .ok (.iconst 0, 1) := by decide +kernel
theorem dX6_reaches_34 : decode cX6_reaches 34 = .ok (.ireturn, 1) := by decide +kernel
set_option maxRecDepth 20000 in
theorem ggX6_receiversOf_X6_reaches : GoodIn wsX6_receiversOf wsX6_reaches := goodIn_r _ [6, 7, 8, 9, 14, 15, 16, 17, 18, 19, 20, 21, 22, 23, 24, 25, 26] (by decide +kernel) (by decide +kernel)
set_option maxRecDepth 20000 in
theorem gX6_receiversOf_X6_reaches : GoodIn wsX6_receiversOf (va_wsS RX6 240 yX6_reaches wsX6_reaches) := goodIn_app (goodIn_of _ (by decide +kernel)) ggX6_receiversOf_X6_reaches
theorem dX6_receiversOf_0 : decode cX6_receiversOf 0 = .ok (.iconst 0, 1) := by decide +kernel
theorem dX6_receiversOf_1 : decode cX6_receiversOf 1 = .ok (.istore_n 2, 1) := by decide +kernel
theorem dX6_receiversOf_2 : decode cX6_receiversOf 2 = .ok (.aload_n 0, 1) := by decide +kernel
theorem dX6_receiversOf_3 : decode cX6_receiversOf 3 = .ok (.getfield 31, 3) := by decide +kernel
theorem dX6_receiversOf_6 : decode cX6_receiversOf 6 = .ok (.astore_n 3, 1) := by decide +kernel
theorem dX6_receiversOf_7 : decode cX6_receiversOf 7 = .ok (.aload_n 3, 1) := by decide +kernel
theorem dX6_receiversOf_8 : decode cX6_receiversOf 8 = .ok (.arraylength, 1) := by decide +kernel
theorem dX6_receiversOf_9 : decode cX6_receiversOf 9 = .ok (.istore 4, 2) := by decide +kernel
theorem dX6_receiversOf_11 : decode cX6_receiversOf 11 = .ok (.iconst 0, 1) := by decide +kernel
theorem dX6_receiversOf_12 : decode cX6_receiversOf 12 = .ok (.istore 5, 2) := by decide +kernel
theorem dX6_receiversOf_14 : decode cX6_receiversOf 14 = .ok (.iload 5, 2) := by decide +kernel
theorem dX6_receiversOf_16 : decode cX6_receiversOf 16 = .ok (.iload 4, 2) := by decide +kernel
theorem dX6_receiversOf_18 : decode cX6_receiversOf 18 = .ok (.if_icmp .ge 40, 3) := by decide +kernel
theorem dX6_receiversOf_21 : decode cX6_receiversOf 21 = .ok (.aload_n 3, 1) := by decide +kernel
theorem dX6_receiversOf_22 : decode cX6_receiversOf 22 = .ok (.iload 5, 2) := by decide +kernel
theorem dX6_receiversOf_24 : decode cX6_receiversOf 24 = .ok (.aaload, 1) := by decide +kernel
theorem dX6_receiversOf_25 : decode cX6_receiversOf 25 = .ok (.astore 6, 2) := by decide +kernel
theorem dX6_receiversOf_27 : decode cX6_receiversOf 27 = .ok (.aload 6, 2) := by decide +kernel
theorem dX6_receiversOf_29 : decode cX6_receiversOf 29 = .ok (.aload_n 1, 1) := by decide +kernel
theorem dX6_receiversOf_30 : decode cX6_receiversOf 30 = .ok (.if_acmp .eq 22, 3) := by decide +kernel
theorem dX6_receiversOf_33 : decode cX6_receiversOf 33 = .ok (.aload_n 1, 1) := by decide +kernel
theorem dX6_receiversOf_34 : decode cX6_receiversOf 34 = .ok (.aload 6, 2) := by decide +kernel
theorem dX6_receiversOf_36 : decode cX6_receiversOf 36 = .ok (.invokestatic 240, 3) := by decide +kernel
theorem dX6_receiversOf_39 : decode cX6_receiversOf 39 = .ok (.ifCond .eq 13, 3) := by decide +kernel
theorem dX6_receiversOf_42 : decode cX6_receiversOf 42 = .ok (.iload_n 2, 1) := by decide +kernel
theorem dX6_receiversOf_43 : decode cX6_receiversOf 43 = .ok (.iconst 1, 1) := by decide +kernel
theorem dX6_receiversOf_44 : decode cX6_receiversOf 44 = .ok (.aload 6, 2) := by decide +kernel
theorem dX6_receiversOf_46 : decode cX6_receiversOf 46 = .ok (.getfield 244, 3) := by decide +kernel
theorem dX6_receiversOf_49 : decode cX6_receiversOf 49 = .ok (.ishl, 1) := by decide +kernel
theorem dX6_receiversOf_50 : decode cX6_receiversOf 50 = .ok (.ior, 1) := by decide +kernel
theorem dX6_receiversOf_51 : decode cX6_receiversOf 51 = .ok (.istore_n 2, 1) := by decide +kernel
theorem dX6_receiversOf_52 : decode cX6_receiversOf 52 = .ok (.iinc 5 1, 3) := by decide +kernel
theorem dX6_receiversOf_55 : decode cX6_receiversOf 55 = .ok (.goto (-41), 3) := by decide +kernel
theorem dX6_receiversOf_58 : decode cX6_receiversOf 58 = .ok (.iload_n 2, 1) := by decide +kernel
theorem dX6_receiversOf_59 : decode cX6_receiversOf 59 = .ok (.ireturn, 1) := by decide +kernel
set_option maxRecDepth 20000 in
theorem ggX6_sendRequested_X6_giveTo : GoodIn wsX6_sendRequested wsX6_giveTo := goodIn_r _ [9, 10, 11, 12, 13, 8, 14, 15, 16, 17, 18, 19, 20, 21, 22, 23, 24, 25, 26, 27, 28, 29, 30, 50, 51, 52, 53, 31, 32, 33, 34, 35, 36, 37, 38, 39, 40, 41, 42, 43, 54, 55, 56, 57, 58, 59, 60, 61, 62, 44, 45, 46, 47, 48, 49] (by decide +kernel) (by decide +kernel)
set_option maxRecDepth 20000 in
theorem gX6_sendRequested_X6_giveTo : GoodIn wsX6_sendRequested (wsV RX6 256 RX6 yX6_giveTo wsX6_giveTo) := goodIn_app (goodIn_of _ (by decide +kernel)) ggX6_sendRequested_X6_giveTo
theorem dX6_sendRequested_0 : decode cX6_sendRequested 0 = .ok (.aload_n 1, 1) := by decide +kernel
theorem dX6_sendRequested_1 : decode cX6_sendRequested 1 = .ok (.getfield 80, 3) := by decide +kernel
theorem dX6_sendRequested_4 : decode cX6_sendRequested 4 = .ok (.astore_n 3, 1) := by decide +kernel
theorem dX6_sendRequested_5 : decode cX6_sendRequested 5 = .ok (.iconst 1, 1) := by decide +kernel
theorem dX6_sendRequested_6 : decode cX6_sendRequested 6 = .ok (.istore 4, 2) := by decide +kernel
theorem dX6_sendRequested_8 : decode cX6_sendRequested 8 = .ok (.iload 4, 2) := by decide +kernel
theorem dX6_sendRequested_10 : decode cX6_sendRequested 10 = .ok (.aload_n 3, 1) := by decide +kernel
theorem dX6_sendRequested_11 : decode cX6_sendRequested 11 = .ok (.getfield 245, 3) := by decide +kernel
theorem dX6_sendRequested_14 : decode cX6_sendRequested 14 = .ok (.if_icmp .gt 51, 3) := by decide +kernel
theorem dX6_sendRequested_17 : decode cX6_sendRequested 17 = .ok (.aload_n 3, 1) := by decide +kernel
theorem dX6_sendRequested_18 : decode cX6_sendRequested 18 = .ok (.getfield 248, 3) := by decide +kernel
theorem dX6_sendRequested_21 : decode cX6_sendRequested 21 = .ok (.iload 4, 2) := by decide +kernel
theorem dX6_sendRequested_23 : decode cX6_sendRequested 23 = .ok (.baload, 1) := by decide +kernel
theorem dX6_sendRequested_24 : decode cX6_sendRequested 24 = .ok (.ifCond .eq 35, 3) := by decide +kernel
theorem dX6_sendRequested_27 : decode cX6_sendRequested 27 = .ok (.aload_n 1, 1) := by decide +kernel
theorem dX6_sendRequested_28 : decode cX6_sendRequested 28 = .ok (.getfield 252, 3) := by decide +kernel
theorem dX6_sendRequested_31 : decode cX6_sendRequested 31 = .ok (.iload 4, 2) := by decide +kernel
theorem dX6_sendRequested_33 : decode cX6_sendRequested 33 = .ok (.aaload, 1) := by decide +kernel
theorem dX6_sendRequested_34 : decode cX6_sendRequested 34 = .ok (.ifnull 25, 3) := by decide +kernel
theorem dX6_sendRequested_37 : decode cX6_sendRequested 37 = .ok (.aload_n 0, 1) := by decide +kernel
theorem dX6_sendRequested_38 : decode cX6_sendRequested 38 = .ok (.iload_n 2, 1) := by decide +kernel
theorem dX6_sendRequested_39 : decode cX6_sendRequested 39 = .ok (.iload 4, 2) := by decide +kernel
theorem dX6_sendRequested_41 : decode cX6_sendRequested 41 = .ok (.aload_n 1, 1) := by decide +kernel
theorem dX6_sendRequested_42 : decode cX6_sendRequested 42 = .ok (.getfield 252, 3) := by decide +kernel
theorem dX6_sendRequested_45 : decode cX6_sendRequested 45 = .ok (.iload 4, 2) := by decide +kernel
theorem dX6_sendRequested_47 : decode cX6_sendRequested 47 = .ok (.aaload, 1) := by decide +kernel
theorem dX6_sendRequested_48 : decode cX6_sendRequested 48 = .ok (.invokevirtual 256, 3) := by decide +kernel
theorem dX6_sendRequested_51 : decode cX6_sendRequested 51 = .ok (.aload_n 3, 1) := by decide +kernel
theorem dX6_sendRequested_52 : decode cX6_sendRequested 52 = .ok (.getfield 248, 3) := by decide +kernel
theorem dX6_sendRequested_55 : decode cX6_sendRequested 55 = .ok (.iload 4, 2) := by decide +kernel
theorem dX6_sendRequested_57 : decode cX6_sendRequested 57 = .ok (.iconst 0, 1) := by decide +kernel
theorem dX6_sendRequested_58 : decode cX6_sendRequested 58 = .ok (.bastore, 1) := by decide +kernel
theorem dX6_sendRequested_59 : decode cX6_sendRequested 59 = .ok (.iinc 4 1, 3) := by decide +kernel
theorem dX6_sendRequested_62 : decode cX6_sendRequested 62 = .ok (.goto (-54), 3) := by decide +kernel
theorem dX6_sendRequested_65 : decode cX6_sendRequested 65 = .ok (.return_, 1) := by decide +kernel
set_option maxRecDepth 20000 in
theorem ggX6_sendPending_X3_takeFirst : GoodIn wsX6_sendPending wsX3_takeFirst := goodIn_r _ [10, 11, 12, 61, 62] (by decide +kernel) (by decide +kernel)
set_option maxRecDepth 20000 in
theorem gX6_sendPending_X3_takeFirst : GoodIn wsX6_sendPending (wsV RX6 260 RX3 yX3_takeFirst wsX3_takeFirst) := goodIn_app (goodIn_of _ (by decide +kernel)) ggX6_sendPending_X3_takeFirst
set_option maxRecDepth 20000 in
theorem ggX6_sendPending_X6_giveTo : GoodIn wsX6_sendPending wsX6_giveTo := goodIn_r _ [17, 18, 5, 19, 20, 16, 21, 22, 23, 24, 25, 26, 27, 28, 29, 30, 31, 32, 33, 34, 35, 36, 37, 51, 52, 53, 54, 38, 39, 40, 41, 42, 43, 44, 45, 46, 47, 48, 49, 50, 63, 64, 65, 66, 67, 68, 69, 70, 71, 55, 56, 57, 58, 59, 60] (by decide +kernel) (by decide +kernel)
set_option maxRecDepth 20000 in
theorem gX6_sendPending_X6_giveTo : GoodIn wsX6_sendPending (wsV RX6 256 RX6 yX6_giveTo wsX6_giveTo) := goodIn_app (goodIn_of _ (by decide +kernel)) ggX6_sendPending_X6_giveTo
theorem dX6_sendPending_0 : decode cX6_sendPending 0 = .ok (.aload_n 1, 1) := by decide +kernel
theorem dX6_sendPending_1 : decode cX6_sendPending 1 = .ok (.getfield 80, 3) := by decide +kernel
theorem dX6_sendPending_4 : decode cX6_sendPending 4 = .ok (.astore_n 3, 1) := by decide +kernel
theorem dX6_sendPending_5 : decode cX6_sendPending 5 = .ok (.iconst 0, 1) := by decide +kernel
theorem dX6_sendPending_6 : decode cX6_sendPending 6 = .ok (.istore 4, 2) := by decide +kernel
theorem dX6_sendPending_8 : decode cX6_sendPending 8 = .ok (.iload 4, 2) := by decide +kernel
theorem dX6_sendPending_10 : decode cX6_sendPending 10 = .ok (.aload_n 0, 1) := by decide +kernel
theorem dX6_sendPending_11 : decode cX6_sendPending 11 = .ok (.getfield 18, 3) := by decide +kernel
theorem dX6_sendPending_14 : decode cX6_sendPending 14 = .ok (.if_icmp .ge 61, 3) := by decide +kernel
theorem dX6_sendPending_17 : decode cX6_sendPending 17 = .ok (.aload_n 3, 1) := by decide +kernel
theorem dX6_sendPending_18 : decode cX6_sendPending 18 = .ok (.getfield 245, 3) := by decide +kernel
theorem dX6_sendPending_21 : decode cX6_sendPending 21 = .ok (.bipush 100, 2) := by decide +kernel
theorem dX6_sendPending_23 : decode cX6_sendPending 23 = .ok (.if_icmp .ge 52, 3) := by decide +kernel
theorem dX6_sendPending_26 : decode cX6_sendPending 26 = .ok (.aload_n 1, 1) := by decide +kernel
theorem dX6_sendPending_27 : decode cX6_sendPending 27 = .ok (.getfield 54, 3) := by decide +kernel
theorem dX6_sendPending_30 : decode cX6_sendPending 30 = .ok (.invokevirtual 260, 3) := by decide +kernel
theorem dX6_sendPending_33 : decode cX6_sendPending 33 = .ok (.astore 5, 2) := by decide +kernel
theorem dX6_sendPending_35 : decode cX6_sendPending 35 = .ok (.aload 5, 2) := by decide +kernel
theorem dX6_sendPending_37 : decode cX6_sendPending 37 = .ok (.ifnonnull 4, 3) := by decide +kernel
theorem dX6_sendPending_40 : decode cX6_sendPending 40 = .ok (.return_, 1) := by decide +kernel
theorem dX6_sendPending_41 : decode cX6_sendPending 41 = .ok (.aload_n 3, 1) := by decide +kernel
theorem dX6_sendPending_42 : decode cX6_sendPending 42 = .ok (.dup, 1) := by decide +kernel
theorem dX6_sendPending_43 : decode cX6_sendPending 43 = .ok (.getfield 245, 3) := by decide +kernel
theorem dX6_sendPending_46 : decode cX6_sendPending 46 = .ok (.iconst 1, 1) := by decide +kernel
theorem dX6_sendPending_47 : decode cX6_sendPending 47 = .ok (.iadd, 1) := by decide +kernel
theorem dX6_sendPending_48 : decode cX6_sendPending 48 = .ok (.putfield 245, 3) := by decide +kernel
theorem dX6_sendPending_51 : decode cX6_sendPending 51 = .ok (.aload_n 0, 1) := by decide +kernel
theorem dX6_sendPending_52 : decode cX6_sendPending 52 = .ok (.iload_n 2, 1) := by decide +kernel
theorem dX6_sendPending_53 : decode cX6_sendPending 53 = .ok (.iconst 1, 1) := by decide +kernel
theorem dX6_sendPending_54 : decode cX6_sendPending 54 = .ok (.aload_n 1, 1) := by decide +kernel
theorem dX6_sendPending_55 : decode cX6_sendPending 55 = .ok (.getfield 244, 3) := by decide +kernel
theorem dX6_sendPending_58 : decode cX6_sendPending 58 = .ok (.ishl, 1) := by decide +kernel
theorem dX6_sendPending_59 : decode cX6_sendPending 59 = .ok (.ior, 1) := by decide +kernel
theorem dX6_sendPending_60 : decode cX6_sendPending 60 = .ok (.aload_n 3, 1) := by decide +kernel
theorem dX6_sendPending_61 : decode cX6_sendPending 61 = .ok (.getfield 245, 3) := by decide +kernel
theorem dX6_sendPending_64 : decode cX6_sendPending 64 = .ok (.aload 5, 2) := by decide +kernel
theorem dX6_sendPending_66 : decode cX6_sendPending 66 = .ok (.invokevirtual 256, 3) := by decide +kernel
theorem dX6_sendPending_69 : decode cX6_sendPending 69 = .ok (.iinc 4 1, 3) := by decide +kernel
theorem dX6_sendPending_72 : decode cX6_sendPending 72 = .ok (.goto (-64), 3) := by decide +kernel
theorem dX6_sendPending_75 : decode cX6_sendPending 75 = .ok (.return_, 1) := by decide +kernel
set_option maxRecDepth 20000 in
theorem ggX6_giveTo_X6_isIn : GoodIn wsX6_giveTo wsX6_isIn := goodIn_r _ [6] (by decide +kernel) (by decide +kernel)
set_option maxRecDepth 20000 in
theorem gX6_giveTo_X6_isIn : GoodIn wsX6_giveTo (va_wsS RX6 237 yX6_isIn wsX6_isIn) := goodIn_app (goodIn_of _ (by decide +kernel)) ggX6_giveTo_X6_isIn
set_option maxRecDepth 20000 in
theorem ggX6_giveTo_X2_receive : GoodIn wsX6_giveTo wsX2_receive := goodIn_r _ [11, 12, 13, 14, 15, 16, 17, 18, 10, 19, 20, 21, 22, 27, 28, 29, 30, 31, 32, 33, 34, 35, 36, 37, 38, 39, 40, 41, 42, 43, 44, 45, 46, 47, 48, 49, 50, 51, 52, 53, 54] (by decide +kernel) (by decide +kernel)
set_option maxRecDepth 20000 in
theorem gX6_giveTo_X2_receive : GoodIn wsX6_giveTo (wsV RX6 264 RX2 yX2_receive wsX2_receive) := goodIn_app (goodIn_of _ (by decide +kernel)) ggX6_giveTo_X2_receive
theorem dX6_giveTo_0 : decode cX6_giveTo 0 = .ok (.aload_n 0, 1) := by decide +kernel
theorem dX6_giveTo_1 : decode cX6_giveTo 1 = .ok (.getfield 31, 3) := by decide +kernel
theorem dX6_giveTo_4 : decode cX6_giveTo 4 = .ok (.astore 4, 2) := by decide +kernel
theorem dX6_giveTo_6 : decode cX6_giveTo 6 = .ok (.aload 4, 2) := by decide +kernel
theorem dX6_giveTo_8 : decode cX6_giveTo 8 = .ok (.arraylength, 1) := by decide +kernel
theorem dX6_giveTo_9 : decode cX6_giveTo 9 = .ok (.istore 5, 2) := by decide +kernel
theorem dX6_giveTo_11 : decode cX6_giveTo 11 = .ok (.iconst 0, 1) := by decide +kernel
theorem dX6_giveTo_12 : decode cX6_giveTo 12 = .ok (.istore 6, 2) := by decide +kernel
theorem dX6_giveTo_14 : decode cX6_giveTo 14 = .ok (.iload 6, 2) := by decide +kernel
theorem dX6_giveTo_16 : decode cX6_giveTo 16 = .ok (.iload 5, 2) := by decide +kernel
theorem dX6_giveTo_18 : decode cX6_giveTo 18 = .ok (.if_icmp .ge 35, 3) := by decide +kernel
theorem dX6_giveTo_21 : decode cX6_giveTo 21 = .ok (.aload 4, 2) := by decide +kernel
theorem dX6_giveTo_23 : decode cX6_giveTo 23 = .ok (.iload 6, 2) := by decide +kernel
theorem dX6_giveTo_25 : decode cX6_giveTo 25 = .ok (.aaload, 1) := by decide +kernel
theorem dX6_giveTo_26 : decode cX6_giveTo 26 = .ok (.astore 7, 2) := by decide +kernel
theorem dX6_giveTo_28 : decode cX6_giveTo 28 = .ok (.aload 7, 2) := by decide +kernel
theorem dX6_giveTo_30 : decode cX6_giveTo 30 = .ok (.getfield 244, 3) := by decide +kernel
theorem dX6_giveTo_33 : decode cX6_giveTo 33 = .ok (.iload_n 1, 1) := by decide +kernel
theorem dX6_giveTo_34 : decode cX6_giveTo 34 = .ok (.invokestatic 237, 3) := by decide +kernel
theorem dX6_giveTo_37 : decode cX6_giveTo 37 = .ok (.ifCond .eq 10, 3) := by decide +kernel
theorem dX6_giveTo_40 : decode cX6_giveTo 40 = .ok (.aload 7, 2) := by decide +kernel
theorem dX6_giveTo_42 : decode cX6_giveTo 42 = .ok (.iload_n 2, 1) := by decide +kernel
theorem dX6_giveTo_43 : decode cX6_giveTo 43 = .ok (.aload_n 3, 1) := by decide +kernel
theorem dX6_giveTo_44 : decode cX6_giveTo 44 = .ok (.invokevirtual 264, 3) := by decide +kernel
theorem dX6_giveTo_47 : decode cX6_giveTo 47 = .ok (.iinc 6 1, 3) := by decide +kernel
theorem dX6_giveTo_50 : decode cX6_giveTo 50 = .ok (.goto (-36), 3) := by decide +kernel
theorem dX6_giveTo_53 : decode cX6_giveTo 53 = .ok (.return_, 1) := by decide +kernel
theorem dX6_requestMissing_0 : decode cX6_requestMissing 0 = .ok (.aload_n 0, 1) := by decide +kernel
theorem dX6_requestMissing_1 : decode cX6_requestMissing 1 = .ok (.getfield 80, 3) := by decide +kernel
theorem dX6_requestMissing_4 : decode cX6_requestMissing 4 = .ok (.astore_n 1, 1) := by decide +kernel
theorem dX6_requestMissing_5 : decode cX6_requestMissing 5 = .ok (.iconst 1, 1) := by decide +kernel
theorem dX6_requestMissing_6 : decode cX6_requestMissing 6 = .ok (.istore_n 2, 1) := by decide +kernel
theorem dX6_requestMissing_7 : decode cX6_requestMissing 7 = .ok (.iload_n 2, 1) := by decide +kernel
theorem dX6_requestMissing_8 : decode cX6_requestMissing 8 = .ok (.aload_n 1, 1) := by decide +kernel
theorem dX6_requestMissing_9 : decode cX6_requestMissing 9 = .ok (.getfield 245, 3) := by decide +kernel
theorem dX6_requestMissing_12 : decode cX6_requestMissing 12 = .ok (.if_icmp .gt 25, 3) := by decide +kernel
theorem dX6_requestMissing_15 : decode cX6_requestMissing 15 = .ok (.aload_n 0, 1) := by decide +kernel
theorem dX6_requestMissing_16 : decode cX6_requestMissing 16 = .ok (.getfield 252, 3) := by decide +kernel
theorem dX6_requestMissing_19 : decode cX6_requestMissing 19 = .ok (.iload_n 2, 1) := by decide +kernel
theorem dX6_requestMissing_20 : decode cX6_requestMissing 20 = .ok (.aaload, 1) := by decide +kernel
theorem dX6_requestMissing_21 : decode cX6_requestMissing 21 = .ok (.ifnonnull 10, 3) := by decide +kernel
theorem dX6_requestMissing_24 : decode cX6_requestMissing 24 = .ok (.aload_n 1, 1) := by decide +kernel
theorem dX6_requestMissing_25 : decode cX6_requestMissing 25 = .ok (.getfield 248, 3) := by decide +kernel
theorem dX6_requestMissing_28 : decode cX6_requestMissing 28 = .ok (.iload_n 2, 1) := by decide +kernel
theorem dX6_requestMissing_29 : decode cX6_requestMissing 29 = .ok (.iconst 1, 1) := by decide +kernel
theorem dX6_requestMissing_30 : decode cX6_requestMissing 30 = .ok (.bastore, 1) := by decide +kernel
theorem dX6_requestMissing_31 : decode cX6_requestMissing 31 = .ok (.iinc 2 1, 3) := by decide +kernel
theorem dX6_requestMissing_34 : decode cX6_requestMissing 34 = .ok (.goto (-27), 3) := by decide +kernel
theorem dX6_requestMissing_37 : decode cX6_requestMissing 37 = .ok (.return_, 1) := by decide +kernel
set_option maxRecDepth 20000 in
theorem ggX6_handOn_X5_memberBehind : GoodIn wsX6_handOn wsX5_memberBehind := goodIn_r _ [9, 10, 11, 12, 13, 36, 37, 38, 39, 40, 41] (by decide +kernel) (by decide +kernel)
set_option maxRecDepth 20000 in
theorem gX6_handOn_X5_memberBehind : GoodIn wsX6_handOn (wsV RX6 268 RX5 yX5_memberBehind wsX5_memberBehind) := goodIn_app (goodIn_of _ (by decide +kernel)) ggX6_handOn_X5_memberBehind
set_option maxRecDepth 20000 in
theorem ggX6_handOn_X6_reaches : GoodIn wsX6_handOn wsX6_reaches := goodIn_r _ [16, 17, 18, 1, 19, 20, 21, 22, 23, 24, 25, 26, 27, 28, 29, 30, 31] (by decide +kernel) (by decide +kernel)
set_option maxRecDepth 20000 in
theorem gX6_handOn_X6_reaches : GoodIn wsX6_handOn (va_wsS RX6 240 yX6_reaches wsX6_reaches) := goodIn_app (goodIn_of _ (by decide +kernel)) ggX6_handOn_X6_reaches
theorem dX6_handOn_0 : decode cX6_handOn 0 = .ok (.aload_n 1, 1) := by decide +kernel
theorem dX6_handOn_1 : decode cX6_handOn 1 = .ok (.getfield 80, 3) := by decide +kernel
theorem dX6_handOn_4 : decode cX6_handOn 4 = .ok (.astore_n 2, 1) := by decide +kernel
theorem dX6_handOn_5 : decode cX6_handOn 5 = .ok (.aload_n 0, 1) := by decide +kernel
theorem dX6_handOn_6 : decode cX6_handOn 6 = .ok (.getfield 31, 3) := by decide +kernel
theorem dX6_handOn_9 : decode cX6_handOn 9 = .ok (.aload_n 2, 1) := by decide +kernel
theorem dX6_handOn_10 : decode cX6_handOn 10 = .ok (.aload_n 1, 1) := by decide +kernel
theorem dX6_handOn_11 : decode cX6_handOn 11 = .ok (.getfield 244, 3) := by decide +kernel
theorem dX6_handOn_14 : decode cX6_handOn 14 = .ok (.invokevirtual 268, 3) := by decide +kernel
theorem dX6_handOn_17 : decode cX6_handOn 17 = .ok (.aaload, 1) := by decide +kernel
theorem dX6_handOn_18 : decode cX6_handOn 18 = .ok (.astore_n 3, 1) := by decide +kernel
theorem dX6_handOn_19 : decode cX6_handOn 19 = .ok (.aload_n 2, 1) := by decide +kernel
theorem dX6_handOn_20 : decode cX6_handOn 20 = .ok (.aload_n 1, 1) := by decide +kernel
theorem dX6_handOn_21 : decode cX6_handOn 21 = .ok (.aload_n 3, 1) := by decide +kernel
theorem dX6_handOn_22 : decode cX6_handOn 22 = .ok (.invokestatic 240, 3) := by decide +kernel
theorem dX6_handOn_25 : decode cX6_handOn 25 = .ok (.ifCond .eq 10, 3) := by decide +kernel
theorem dX6_handOn_28 : decode cX6_handOn 28 = .ok (.aload_n 3, 1) := by decide +kernel
theorem dX6_handOn_29 : decode cX6_handOn 29 = .ok (.getfield 244, 3) := by decide +kernel
theorem dX6_handOn_32 : decode cX6_handOn 32 = .ok (.goto 4, 3) := by decide +kernel
theorem dX6_handOn_35 : decode cX6_handOn 35 = .ok (.iconst (-1), 1) := by decide +kernel
theorem dX6_handOn_36 : decode cX6_handOn 36 = .ok (.putfield 83, 3) := by decide +kernel
theorem dX6_handOn_39 : decode cX6_handOn 39 = .ok (.return_, 1) := by decide +kernel
theorem dX6_upInGroup_0 : decode cX6_upInGroup 0 = .ok (.iconst 0, 1) := by decide +kernel
theorem dX6_upInGroup_1 : decode cX6_upInGroup 1 = .ok (.istore_n 2, 1) := by decide +kernel
theorem dX6_upInGroup_2 : decode cX6_upInGroup 2 = .ok (.aload_n 0, 1) := by decide +kernel
theorem dX6_upInGroup_3 : decode cX6_upInGroup 3 = .ok (.getfield 31, 3) := by decide +kernel
theorem dX6_upInGroup_6 : decode cX6_upInGroup 6 = .ok (.astore_n 3, 1) := by decide +kernel
theorem dX6_upInGroup_7 : decode cX6_upInGroup 7 = .ok (.aload_n 3, 1) := by decide +kernel
theorem dX6_upInGroup_8 : decode cX6_upInGroup 8 = .ok (.arraylength, 1) := by decide +kernel
theorem dX6_upInGroup_9 : decode cX6_upInGroup 9 = .ok (.istore 4, 2) := by decide +kernel
theorem dX6_upInGroup_11 : decode cX6_upInGroup 11 = .ok (.iconst 0, 1) := by decide +kernel
theorem dX6_upInGroup_12 : decode cX6_upInGroup 12 = .ok (.istore 5, 2) := by decide +kernel
theorem dX6_upInGroup_14 : decode cX6_upInGroup 14 = .ok (.iload 5, 2) := by decide +kernel
theorem dX6_upInGroup_16 : decode cX6_upInGroup 16 = .ok (.iload 4, 2) := by decide +kernel
theorem dX6_upInGroup_18 : decode cX6_upInGroup 18 = .ok (.if_icmp .ge 42, 3) := by decide +kernel
theorem dX6_upInGroup_21 : decode cX6_upInGroup 21 = .ok (.aload_n 3, 1) := by decide +kernel
theorem dX6_upInGroup_22 : decode cX6_upInGroup 22 = .ok (.iload 5, 2) := by decide +kernel
theorem dX6_upInGroup_24 : decode cX6_upInGroup 24 = .ok (.aaload, 1) := by decide +kernel
theorem dX6_upInGroup_25 : decode cX6_upInGroup 25 = .ok (.astore 6, 2) := by decide +kernel
theorem dX6_upInGroup_27 : decode cX6_upInGroup 27 = .ok (.aload 6, 2) := by decide +kernel
theorem dX6_upInGroup_29 : decode cX6_upInGroup 29 = .ok (.getfield 50, 3) := by decide +kernel
theorem dX6_upInGroup_32 : decode cX6_upInGroup 32 = .ok (.ifCond .eq 22, 3) := by decide +kernel
theorem dX6_upInGroup_35 : decode cX6_upInGroup 35 = .ok (.aload 6, 2) := by decide +kernel
theorem dX6_upInGroup_37 : decode cX6_upInGroup 37 = .ok (.getfield 124, 3) := by decide +kernel
theorem dX6_upInGroup_40 : decode cX6_upInGroup 40 = .ok (.iload_n 1, 1) := by decide +kernel
theorem dX6_upInGroup_41 : decode cX6_upInGroup 41 = .ok (.if_icmp .ne 13, 3) := by decide +kernel
theorem dX6_upInGroup_44 : decode cX6_upInGroup 44 = .ok (.iload_n 2, 1) := by decide +kernel
theorem dX6_upInGroup_45 : decode cX6_upInGroup 45 = .ok (.iconst 1, 1) := by decide +kernel
theorem dX6_upInGroup_46 : decode cX6_upInGroup 46 = .ok (.aload 6, 2) := by decide +kernel
theorem dX6_upInGroup_48 : decode cX6_upInGroup 48 = .ok (.getfield 244, 3) := by decide +kernel
theorem dX6_upInGroup_51 : decode cX6_upInGroup 51 = .ok (.ishl, 1) := by decide +kernel
theorem dX6_upInGroup_52 : decode cX6_upInGroup 52 = .ok (.ior, 1) := by decide +kernel
theorem dX6_upInGroup_53 : decode cX6_upInGroup 53 = .ok (.istore_n 2, 1) := by decide +kernel
theorem dX6_upInGroup_54 : decode cX6_upInGroup 54 = .ok (.iinc 5 1, 3) := by decide +kernel
theorem dX6_upInGroup_57 : decode cX6_upInGroup 57 = .ok (.goto (-43), 3) := by decide +kernel
theorem dX6_upInGroup_60 : decode cX6_upInGroup 60 = .ok (.iload_n 2, 1) := by decide +kernel
theorem dX6_upInGroup_61 : decode cX6_upInGroup 61 = .ok (.ireturn, 1) := by decide +kernel
set_option maxRecDepth 20000 in
theorem ggX6_ofRing_X6_isIn : GoodIn wsX6_ofRing wsX6_isIn := goodIn_r _ [7] (by decide +kernel) (by decide +kernel)
set_option maxRecDepth 20000 in
theorem gX6_ofRing_X6_isIn : GoodIn wsX6_ofRing (va_wsS RX6 237 yX6_isIn wsX6_isIn) := goodIn_app (goodIn_of _ (by decide +kernel)) ggX6_ofRing_X6_isIn
theorem dX6_ofRing_0 : decode cX6_ofRing 0 = .ok (.iconst 0, 1) := by decide +kernel
theorem dX6_ofRing_1 : decode cX6_ofRing 1 = .ok (.istore_n 3, 1) := by decide +kernel
theorem dX6_ofRing_2 : decode cX6_ofRing 2 = .ok (.aload_n 0, 1) := by decide +kernel
theorem dX6_ofRing_3 : decode cX6_ofRing 3 = .ok (.getfield 31, 3) := by decide +kernel
theorem dX6_ofRing_6 : decode cX6_ofRing 6 = .ok (.astore 4, 2) := by decide +kernel
theorem dX6_ofRing_8 : decode cX6_ofRing 8 = .ok (.aload 4, 2) := by decide +kernel
theorem dX6_ofRing_10 : decode cX6_ofRing 10 = .ok (.arraylength, 1) := by decide +kernel
theorem dX6_ofRing_11 : decode cX6_ofRing 11 = .ok (.istore 5, 2) := by decide +kernel
theorem dX6_ofRing_13 : decode cX6_ofRing 13 = .ok (.iconst 0, 1) := by decide +kernel
theorem dX6_ofRing_14 : decode cX6_ofRing 14 = .ok (.istore 6, 2) := by decide +kernel
theorem dX6_ofRing_16 : decode cX6_ofRing 16 = .ok (.iload 6, 2) := by decide +kernel
theorem dX6_ofRing_18 : decode cX6_ofRing 18 = .ok (.iload 5, 2) := by decide +kernel
theorem dX6_ofRing_20 : decode cX6_ofRing 20 = .ok (.if_icmp .ge 47, 3) := by decide +kernel
theorem dX6_ofRing_23 : decode cX6_ofRing 23 = .ok (.aload 4, 2) := by decide +kernel
theorem dX6_ofRing_25 : decode cX6_ofRing 25 = .ok (.iload 6, 2) := by decide +kernel
theorem dX6_ofRing_27 : decode cX6_ofRing 27 = .ok (.aaload, 1) := by decide +kernel
theorem dX6_ofRing_28 : decode cX6_ofRing 28 = .ok (.astore 7, 2) := by decide +kernel
theorem dX6_ofRing_30 : decode cX6_ofRing 30 = .ok (.aload 7, 2) := by decide +kernel
theorem dX6_ofRing_32 : decode cX6_ofRing 32 = .ok (.getfield 80, 3) := by decide +kernel
theorem dX6_ofRing_35 : decode cX6_ofRing 35 = .ok (.aload_n 1, 1) := by decide +kernel
theorem dX6_ofRing_36 : decode cX6_ofRing 36 = .ok (.if_acmp .ne 25, 3) := by decide +kernel
theorem dX6_ofRing_39 : decode cX6_ofRing 39 = .ok (.aload 7, 2) := by decide +kernel
theorem dX6_ofRing_41 : decode cX6_ofRing 41 = .ok (.getfield 244, 3) := by decide +kernel
theorem dX6_ofRing_44 : decode cX6_ofRing 44 = .ok (.iload_n 2, 1) := by decide +kernel
theorem dX6_ofRing_45 : decode cX6_ofRing 45 = .ok (.invokestatic 237, 3) := by decide +kernel
theorem dX6_ofRing_48 : decode cX6_ofRing 48 = .ok (.ifCond .eq 13, 3) := by decide +kernel
theorem dX6_ofRing_51 : decode cX6_ofRing 51 = .ok (.iload_n 3, 1) := by decide +kernel
theorem dX6_ofRing_52 : decode cX6_ofRing 52 = .ok (.iconst 1, 1) := by decide +kernel
theorem dX6_ofRing_53 : decode cX6_ofRing 53 = .ok (.aload 7, 2) := by decide +kernel
theorem dX6_ofRing_55 : decode cX6_ofRing 55 = .ok (.getfield 244, 3) := by decide +kernel
theorem dX6_ofRing_58 : decode cX6_ofRing 58 = .ok (.ishl, 1) := by decide +kernel
theorem dX6_ofRing_59 : decode cX6_ofRing 59 = .ok (.ior, 1) := by decide +kernel
theorem dX6_ofRing_60 : decode cX6_ofRing 60 = .ok (.istore_n 3, 1) := by decide +kernel
theorem dX6_ofRing_61 : decode cX6_ofRing 61 = .ok (.iinc 6 1, 3) := by decide +kernel
theorem dX6_ofRing_64 : decode cX6_ofRing 64 = .ok (.goto (-48), 3) := by decide +kernel
theorem dX6_ofRing_67 : decode cX6_ofRing 67 = .ok (.iload_n 3, 1) := by decide +kernel
theorem dX6_ofRing_68 : decode cX6_ofRing 68 = .ok (.ireturn, 1) := by decide +kernel
set_option maxRecDepth 20000 in
theorem ggX6_isWhole_X6_ofRing : GoodIn wsX6_isWhole wsX6_ofRing := goodIn_r _ [7, 8, 9, 10, 11, 12, 6, 13, 20, 21, 22, 23, 24, 25, 26, 27, 28, 29, 30, 31, 32, 33, 34, 35, 36] (by decide +kernel) (by decide +kernel)
set_option maxRecDepth 20000 in
theorem gX6_isWhole_X6_ofRing : GoodIn wsX6_isWhole (wsV RX6 271 RX6 yX6_ofRing wsX6_ofRing) := goodIn_app (goodIn_of _ (by decide +kernel)) ggX6_isWhole_X6_ofRing
theorem dX6_isWhole_0 : decode cX6_isWhole 0 = .ok (.aload_n 1, 1) := by decide +kernel
theorem dX6_isWhole_1 : decode cX6_isWhole 1 = .ok (.getfield 173, 3) := by decide +kernel
theorem dX6_isWhole_4 : decode cX6_isWhole 4 = .ok (.iload_n 2, 1) := by decide +kernel
theorem dX6_isWhole_5 : decode cX6_isWhole 5 = .ok (.if_icmp .ne 25, 3) := by decide +kernel
theorem dX6_isWhole_8 : decode cX6_isWhole 8 = .ok (.aload_n 1, 1) := by decide +kernel
theorem dX6_isWhole_9 : decode cX6_isWhole 9 = .ok (.getfield 83, 3) := by decide +kernel
theorem dX6_isWhole_12 : decode cX6_isWhole 12 = .ok (.iconst (-1), 1) := by decide +kernel
theorem dX6_isWhole_13 : decode cX6_isWhole 13 = .ok (.if_icmp .eq 17, 3) := by decide +kernel
theorem dX6_isWhole_16 : decode cX6_isWhole 16 = .ok (.aload_n 0, 1) := by decide +kernel
theorem dX6_isWhole_17 : decode cX6_isWhole 17 = .ok (.aload_n 1, 1) := by decide +kernel
theorem dX6_isWhole_18 : decode cX6_isWhole 18 = .ok (.iload_n 2, 1) := by decide +kernel
theorem dX6_isWhole_19 : decode cX6_isWhole 19 = .ok (.invokevirtual 271, 3) := by decide +kernel
theorem dX6_isWhole_22 : decode cX6_isWhole 22 = .ok (.iload_n 2, 1) := by decide +kernel
theorem dX6_isWhole_23 : decode cX6_isWhole 23 = .ok (.if_icmp .ne 7, 3) := by decide +kernel
theorem dX6_isWhole_26 : decode cX6_isWhole 26 = .ok (.iconst 1, 1) := by decide +kernel
theorem dX6_isWhole_27 : decode cX6_isWhole 27 = .ok (.goto 4, 3) := by decide +kernel
theorem dX6_isWhole_30 : decode cX6_isWhole 30 = .ok (.iconst 0, 1) := by decide +kernel
theorem dX6_isWhole_31 : decode cX6_isWhole 31 = .ok (.ireturn, 1) := by decide +kernel
set_option maxRecDepth 20000 in
theorem ggX6_foremost_X6_isIn : GoodIn wsX6_foremost wsX6_isIn := goodIn_r _ [6] (by decide +kernel) (by decide +kernel)
set_option maxRecDepth 20000 in
theorem gX6_foremost_X6_isIn : GoodIn wsX6_foremost (va_wsS RX6 237 yX6_isIn wsX6_isIn) := goodIn_app (goodIn_of _ (by decide +kernel)) ggX6_foremost_X6_isIn
set_option maxRecDepth 20000 in
theorem ggX6_foremost_X2_isAheadOf : GoodIn wsX6_foremost wsX2_isAheadOf := goodIn_r _ [11, 12, 13, 14, 15, 20, 21, 22, 23, 24, 25, 26, 27, 28, 29, 30, 31, 32, 33, 34, 35, 36, 37] (by decide +kernel) (by decide +kernel)
set_option maxRecDepth 20000 in
theorem gX6_foremost_X2_isAheadOf : GoodIn wsX6_foremost (wsV RX6 275 RX2 yX2_isAheadOf wsX2_isAheadOf) := goodIn_app (goodIn_of _ (by decide +kernel)) ggX6_foremost_X2_isAheadOf
theorem dX6_foremost_0 : decode cX6_foremost 0 = .ok (.aload_n 1, 1) := by decide +kernel
theorem dX6_foremost_1 : decode cX6_foremost 1 = .ok (.astore_n 3, 1) := by decide +kernel
theorem dX6_foremost_2 : decode cX6_foremost 2 = .ok (.aload_n 0, 1) := by decide +kernel
theorem dX6_foremost_3 : decode cX6_foremost 3 = .ok (.getfield 31, 3) := by decide +kernel
theorem dX6_foremost_6 : decode cX6_foremost 6 = .ok (.astore 4, 2) := by decide +kernel
theorem dX6_foremost_8 : decode cX6_foremost 8 = .ok (.aload 4, 2) := by decide +kernel
theorem dX6_foremost_10 : decode cX6_foremost 10 = .ok (.arraylength, 1) := by decide +kernel
theorem dX6_foremost_11 : decode cX6_foremost 11 = .ok (.istore 5, 2) := by decide +kernel
theorem dX6_foremost_13 : decode cX6_foremost 13 = .ok (.iconst 0, 1) := by decide +kernel
theorem dX6_foremost_14 : decode cX6_foremost 14 = .ok (.istore 6, 2) := by decide +kernel
theorem dX6_foremost_16 : decode cX6_foremost 16 = .ok (.iload 6, 2) := by decide +kernel
theorem dX6_foremost_18 : decode cX6_foremost 18 = .ok (.iload 5, 2) := by decide +kernel
theorem dX6_foremost_20 : decode cX6_foremost 20 = .ok (.if_icmp .ge 40, 3) := by decide +kernel
theorem dX6_foremost_23 : decode cX6_foremost 23 = .ok (.aload 4, 2) := by decide +kernel
theorem dX6_foremost_25 : decode cX6_foremost 25 = .ok (.iload 6, 2) := by decide +kernel
theorem dX6_foremost_27 : decode cX6_foremost 27 = .ok (.aaload, 1) := by decide +kernel
theorem dX6_foremost_28 : decode cX6_foremost 28 = .ok (.astore 7, 2) := by decide +kernel
theorem dX6_foremost_30 : decode cX6_foremost 30 = .ok (.aload 7, 2) := by decide +kernel
theorem dX6_foremost_32 : decode cX6_foremost 32 = .ok (.getfield 244, 3) := by decide +kernel
theorem dX6_foremost_35 : decode cX6_foremost 35 = .ok (.iload_n 2, 1) := by decide +kernel
theorem dX6_foremost_36 : decode cX6_foremost 36 = .ok (.invokestatic 237, 3) := by decide +kernel
theorem dX6_foremost_39 : decode cX6_foremost 39 = .ok (.ifCond .eq 15, 3) := by decide +kernel
theorem dX6_foremost_42 : decode cX6_foremost 42 = .ok (.aload 7, 2) := by decide +kernel
theorem dX6_foremost_44 : decode cX6_foremost 44 = .ok (.aload_n 3, 1) := by decide +kernel
theorem dX6_foremost_45 : decode cX6_foremost 45 = .ok (.invokevirtual 275, 3) := by decide +kernel
theorem dX6_foremost_48 : decode cX6_foremost 48 = .ok (.ifCond .eq 6, 3) := by decide +kernel
theorem dX6_foremost_51 : decode cX6_foremost 51 = .ok (.aload 7, 2) := by decide +kernel
theorem dX6_foremost_53 : decode cX6_foremost 53 = .ok (.astore_n 3, 1) := by decide +kernel
theorem dX6_foremost_54 : decode cX6_foremost 54 = .ok (.iinc 6 1, 3) := by decide +kernel
theorem dX6_foremost_57 : decode cX6_foremost 57 = .ok (.goto (-41), 3) := by decide +kernel
theorem dX6_foremost_60 : decode cX6_foremost 60 = .ok (.aload_n 3, 1) := by decide +kernel
theorem dX6_foremost_61 : decode cX6_foremost 61 = .ok (.areturn, 1) := by decide +kernel
set_option maxRecDepth 20000 in
theorem ggX6_isQuorum_J6_bitCount_0f7a4 : GoodIn wsX6_isQuorum wsJ6_bitCount_0f7a4 := goodIn_r _ [4, 5, 6, 7] (by decide +kernel) (by decide +kernel)
set_option maxRecDepth 20000 in
theorem gX6_isQuorum_J6_bitCount_0f7a4 : GoodIn wsX6_isQuorum (va_wsS RX6 279 yJ6_bitCount_0f7a4 wsJ6_bitCount_0f7a4) := goodIn_app (goodIn_of _ (by decide +kernel)) ggX6_isQuorum_J6_bitCount_0f7a4
set_option maxRecDepth 20000 in
theorem ggX6_isQuorum_X6_leastOf : GoodIn wsX6_isQuorum wsX6_leastOf := goodIn_r _ [11, 12, 13, 10, 14] (by decide +kernel) (by decide +kernel)
set_option maxRecDepth 20000 in
theorem gX6_isQuorum_X6_leastOf : GoodIn wsX6_isQuorum (va_wsS RX6 284 yX6_leastOf wsX6_leastOf) := goodIn_app (goodIn_of _ (by decide +kernel)) ggX6_isQuorum_X6_leastOf
set_option maxRecDepth 20000 in
theorem ggX6_isQuorum_X6_isIn : GoodIn wsX6_isQuorum wsX6_isIn := goodIn_r _ [14] (by decide +kernel) (by decide +kernel)
set_option maxRecDepth 20000 in
theorem gX6_isQuorum_X6_isIn : GoodIn wsX6_isQuorum (va_wsS RX6 237 yX6_isIn wsX6_isIn) := goodIn_app (goodIn_of _ (by decide +kernel)) ggX6_isQuorum_X6_isIn
theorem dX6_isQuorum_0 : decode cX6_isQuorum 0 = .ok (.iconst 2, 1) := by decide +kernel
theorem dX6_isQuorum_1 : decode cX6_isQuorum 1 = .ok (.iload_n 1, 1) := by decide +kernel
theorem dX6_isQuorum_2 : decode cX6_isQuorum 2 = .ok (.iload_n 0, 1) := by decide +kernel
theorem dX6_isQuorum_3 : decode cX6_isQuorum 3 = .ok (.iand, 1) := by decide +kernel
theorem dX6_isQuorum_4 : decode cX6_isQuorum 4 = .ok (.invokestatic 279, 3) := by decide +kernel
theorem dX6_isQuorum_7 : decode cX6_isQuorum 7 = .ok (.imul, 1) := by decide +kernel
theorem dX6_isQuorum_8 : decode cX6_isQuorum 8 = .ok (.istore_n 2, 1) := by decide +kernel
theorem dX6_isQuorum_9 : decode cX6_isQuorum 9 = .ok (.iload_n 1, 1) := by decide +kernel
theorem dX6_isQuorum_10 : decode cX6_isQuorum 10 = .ok (.invokestatic 279, 3) := by decide +kernel
theorem dX6_isQuorum_13 : decode cX6_isQuorum 13 = .ok (.istore_n 3, 1) := by decide +kernel
theorem dX6_isQuorum_14 : decode cX6_isQuorum 14 = .ok (.iload_n 2, 1) := by decide +kernel
theorem dX6_isQuorum_15 : decode cX6_isQuorum 15 = .ok (.iload_n 3, 1) := by decide +kernel
theorem dX6_isQuorum_16 : decode cX6_isQuorum 16 = .ok (.if_icmp .gt 19, 3) := by decide +kernel
theorem dX6_isQuorum_19 : decode cX6_isQuorum 19 = .ok (.iload_n 2, 1) := by decide +kernel
theorem dX6_isQuorum_20 : decode cX6_isQuorum 20 = .ok (.iload_n 3, 1) := by decide +kernel
theorem dX6_isQuorum_21 : decode cX6_isQuorum 21 = .ok (.if_icmp .ne 18, 3) := by decide +kernel
theorem dX6_isQuorum_24 : decode cX6_isQuorum 24 = .ok (.iload_n 1, 1) := by decide +kernel
theorem dX6_isQuorum_25 : decode cX6_isQuorum 25 = .ok (.invokestatic 284, 3) := by decide +kernel
theorem dX6_isQuorum_28 : decode cX6_isQuorum 28 = .ok (.iload_n 0, 1) := by decide +kernel
theorem dX6_isQuorum_29 : decode cX6_isQuorum 29 = .ok (.invokestatic 237, 3) := by decide +kernel
theorem dX6_isQuorum_32 : decode cX6_isQuorum 32 = .ok (.ifCond .eq 7, 3) := by decide +kernel
theorem dX6_isQuorum_35 : decode cX6_isQuorum 35 = .ok (.iconst 1, 1) := by decide +kernel
theorem dX6_isQuorum_36 : decode cX6_isQuorum 36 = .ok (.goto 4, 3) := by decide +kernel
theorem dX6_isQuorum_39 : decode cX6_isQuorum 39 = .ok (.iconst 0, 1) := by decide +kernel
theorem dX6_isQuorum_40 : decode cX6_isQuorum 40 = .ok (.ireturn, 1) := by decide +kernel
set_option maxRecDepth 20000 in
theorem ggX6_endOldRings_X6_isIn : GoodIn wsX6_endOldRings wsX6_isIn := goodIn_r _ [8] (by decide +kernel) (by decide +kernel)
set_option maxRecDepth 20000 in
theorem gX6_endOldRings_X6_isIn : GoodIn wsX6_endOldRings (va_wsS RX6 237 yX6_isIn wsX6_isIn) := goodIn_app (goodIn_of _ (by decide +kernel)) ggX6_endOldRings_X6_isIn
set_option maxRecDepth 20000 in
theorem ggX6_endOldRings_X6_ofRing : GoodIn wsX6_endOldRings wsX6_ofRing := goodIn_r _ [12, 1, 2, 4, 5, 6, 7, 8, 94, 95, 96, 97, 98, 99, 100, 101, 102, 103, 104, 105, 106, 107, 108, 109, 110] (by decide +kernel) (by decide +kernel)
set_option maxRecDepth 20000 in
theorem gX6_endOldRings_X6_ofRing : GoodIn wsX6_endOldRings (wsV RX6 271 RX6 yX6_ofRing wsX6_ofRing) := goodIn_app (goodIn_of _ (by decide +kernel)) ggX6_endOldRings_X6_ofRing
set_option maxRecDepth 20000 in
theorem ggX6_endOldRings_X6_leastOf : GoodIn wsX6_endOldRings wsX6_leastOf := goodIn_r _ [15, 5, 6, 7, 8] (by decide +kernel) (by decide +kernel)
set_option maxRecDepth 20000 in
theorem gX6_endOldRings_X6_leastOf : GoodIn wsX6_endOldRings (va_wsS RX6 284 yX6_leastOf wsX6_leastOf) := goodIn_app (goodIn_of _ (by decide +kernel)) ggX6_endOldRings_X6_leastOf
set_option maxRecDepth 20000 in
theorem ggX6_endOldRings_X6_endRing : GoodIn wsX6_endOldRings wsX6_endRing := goodIn_r _ [19, 1, 4, 20, 2, 21, 22, 23, 24, 7, 25, 26, 27, 28, 29, 30, 31, 5, 6, 8, 32, 33, 34, 35, 36, 37, 38, 39, 40, 41, 42, 43, 44, 45, 46, 47, 48, 49, 50, 51, 52, 53, 54, 55, 56, 57, 58, 59, 60, 61, 62, 63, 64, 65, 66, 67, 68, 69, 70, 71, 72, 73, 74, 75, 76, 77, 78, 79, 80, 81, 82, 83, 84, 85, 86, 87, 88, 89, 90, 91, 92, 93, 94, 95, 96, 97, 98, 99, 100, 101, 102, 103, 104, 105, 106, 107, 108, 109, 110, 111, 112, 113, 114, 115, 116, 117, 118, 119, 120, 121, 122, 123, 124, 125, 126, 127] (by decide +kernel) (by decide +kernel)
set_option maxRecDepth 20000 in
theorem gX6_endOldRings_X6_endRing : GoodIn wsX6_endOldRings (wsV RX6 287 RX6 yX6_endRing wsX6_endRing) := goodIn_app (goodIn_of _ (by decide +kernel)) ggX6_endOldRings_X6_endRing
theorem dX6_endOldRings_0 : decode cX6_endOldRings 0 = .ok (.aload_n 0, 1) := by decide +kernel
theorem dX6_endOldRings_1 : decode cX6_endOldRings 1 = .ok (.getfield 31, 3) := by decide +kernel
theorem dX6_endOldRings_4 : decode cX6_endOldRings 4 = .ok (.astore_n 2, 1) := by decide +kernel
theorem dX6_endOldRings_5 : decode cX6_endOldRings 5 = .ok (.aload_n 2, 1) := by decide +kernel
theorem dX6_endOldRings_6 : decode cX6_endOldRings 6 = .ok (.arraylength, 1) := by decide +kernel
theorem dX6_endOldRings_7 : decode cX6_endOldRings 7 = .ok (.istore_n 3, 1) := by decide +kernel
theorem dX6_endOldRings_8 : decode cX6_endOldRings 8 = .ok (.iconst 0, 1) := by decide +kernel
theorem dX6_endOldRings_9 : decode cX6_endOldRings 9 = .ok (.istore 4, 2) := by decide +kernel
theorem dX6_endOldRings_11 : decode cX6_endOldRings 11 = .ok (.iload 4, 2) := by decide +kernel
theorem dX6_endOldRings_13 : decode cX6_endOldRings 13 = .ok (.iload_n 3, 1) := by decide +kernel
theorem dX6_endOldRings_14 : decode cX6_endOldRings 14 = .ok (.if_icmp .ge 70, 3) := by decide +kernel
theorem dX6_endOldRings_17 : decode cX6_endOldRings 17 = .ok (.aload_n 2, 1) := by decide +kernel
theorem dX6_endOldRings_18 : decode cX6_endOldRings 18 = .ok (.iload 4, 2) := by decide +kernel
theorem dX6_endOldRings_20 : decode cX6_endOldRings 20 = .ok (.aaload, 1) := by decide +kernel
theorem dX6_endOldRings_21 : decode cX6_endOldRings 21 = .ok (.astore 5, 2) := by decide +kernel
theorem dX6_endOldRings_23 : decode cX6_endOldRings 23 = .ok (.aload 5, 2) := by decide +kernel
theorem dX6_endOldRings_25 : decode cX6_endOldRings 25 = .ok (.getfield 80, 3) := by decide +kernel
theorem dX6_endOldRings_28 : decode cX6_endOldRings 28 = .ok (.aload_n 0, 1) := by decide +kernel
theorem dX6_endOldRings_29 : decode cX6_endOldRings 29 = .ok (.getfield 25, 3) := by decide +kernel
theorem dX6_endOldRings_32 : decode cX6_endOldRings 32 = .ok (.if_acmp .eq 46, 3) := by decide +kernel
theorem dX6_endOldRings_35 : decode cX6_endOldRings 35 = .ok (.aload 5, 2) := by decide +kernel
theorem dX6_endOldRings_37 : decode cX6_endOldRings 37 = .ok (.getfield 244, 3) := by decide +kernel
theorem dX6_endOldRings_40 : decode cX6_endOldRings 40 = .ok (.iload_n 1, 1) := by decide +kernel
theorem dX6_endOldRings_41 : decode cX6_endOldRings 41 = .ok (.invokestatic 237, 3) := by decide +kernel
theorem dX6_endOldRings_44 : decode cX6_endOldRings 44 = .ok (.ifCond .eq 34, 3) := by decide +kernel
theorem dX6_endOldRings_47 : decode cX6_endOldRings 47 = .ok (.aload_n 0, 1) := by decide +kernel
theorem dX6_endOldRings_48 : decode cX6_endOldRings 48 = .ok (.aload 5, 2) := by decide +kernel
theorem dX6_endOldRings_50 : decode cX6_endOldRings 50 = .ok (.getfield 80, 3) := by decide +kernel
theorem dX6_endOldRings_53 : decode cX6_endOldRings 53 = .ok (.iload_n 1, 1) := by decide +kernel
theorem dX6_endOldRings_54 : decode cX6_endOldRings 54 = .ok (.invokevirtual 271, 3) := by decide +kernel
theorem dX6_endOldRings_57 : decode cX6_endOldRings 57 = .ok (.istore 6, 2) := by decide +kernel
theorem dX6_endOldRings_59 : decode cX6_endOldRings 59 = .ok (.iload 6, 2) := by decide +kernel
theorem dX6_endOldRings_61 : decode cX6_endOldRings 61 = .ok (.invokestatic 284, 3) := by decide +kernel
theorem dX6_endOldRings_64 : decode cX6_endOldRings 64 = .ok (.aload 5, 2) := by decide +kernel
theorem dX6_endOldRings_66 : decode cX6_endOldRings 66 = .ok (.getfield 244, 3) := by decide +kernel
theorem dX6_endOldRings_69 : decode cX6_endOldRings 69 = .ok (.if_icmp .ne 9, 3) := by decide +kernel
theorem dX6_endOldRings_72 : decode cX6_endOldRings 72 = .ok (.aload_n 0, 1) := by decide +kernel
theorem dX6_endOldRings_73 : decode cX6_endOldRings 73 = .ok (.iload 6, 2) := by decide +kernel
theorem dX6_endOldRings_75 : decode cX6_endOldRings 75 = .ok (.invokevirtual 287, 3) := by decide +kernel
theorem dX6_endOldRings_78 : decode cX6_endOldRings 78 = .ok (.iinc 4 1, 3) := by decide +kernel
theorem dX6_endOldRings_81 : decode cX6_endOldRings 81 = .ok (.goto (-70), 3) := by decide +kernel
theorem dX6_endOldRings_84 : decode cX6_endOldRings 84 = .ok (.return_, 1) := by decide +kernel
set_option maxRecDepth 20000 in
theorem ggX6_endRing_X6_shareAll : GoodIn wsX6_endRing wsX6_shareAll := goodIn_r _ [10, 1, 2, 11, 12, 13, 14, 15, 16, 17, 18, 9, 19, 20, 21, 22, 23, 24, 25, 26, 27, 28, 29, 30, 31, 32, 33, 34, 35, 36, 37, 38, 39, 82, 83, 84, 85, 86, 87, 88, 89, 90, 91, 92, 93, 94, 95, 96, 97, 98, 105, 106, 107, 108, 109, 110, 111, 112, 113, 99, 100, 101, 102, 103, 104] (by decide +kernel) (by decide +kernel)
set_option maxRecDepth 20000 in
theorem gX6_endRing_X6_shareAll : GoodIn wsX6_endRing (wsV RX6 290 RX6 yX6_shareAll wsX6_shareAll) := goodIn_app (goodIn_of _ (by decide +kernel)) ggX6_endRing_X6_shareAll
set_option maxRecDepth 20000 in
theorem ggX6_endRing_X6_isIn : GoodIn wsX6_endRing wsX6_isIn := goodIn_r _ [19] (by decide +kernel) (by decide +kernel)
set_option maxRecDepth 20000 in
theorem gX6_endRing_X6_isIn : GoodIn wsX6_endRing (va_wsS RX6 237 yX6_isIn wsX6_isIn) := goodIn_app (goodIn_of _ (by decide +kernel)) ggX6_endRing_X6_isIn
set_option maxRecDepth 20000 in
theorem ggX6_endRing_X2_deliverInTurn : GoodIn wsX6_endRing wsX2_deliverInTurn := goodIn_r _ [43, 44, 29, 30, 45, 31, 46, 47, 48, 27, 49, 50, 51, 52, 53, 37, 38, 54, 55, 56, 57, 58, 59, 60, 61, 62, 63, 64, 33, 34, 35, 36, 39, 65, 66, 67, 68, 69, 70, 71, 72, 73, 74, 75, 76, 86, 87, 88, 89, 90, 91, 92, 93, 94, 95, 96, 97, 98, 105, 106, 107, 108, 99, 100, 101, 102, 103, 104, 114, 115, 109, 110, 111, 112, 113] (by decide +kernel) (by decide +kernel)
set_option maxRecDepth 20000 in
theorem gX6_endRing_X2_deliverInTurn : GoodIn wsX6_endRing (wsV RX6 116 RX2 yX2_deliverInTurn wsX2_deliverInTurn) := goodIn_app (goodIn_of _ (by decide +kernel)) ggX6_endRing_X2_deliverInTurn
set_option maxRecDepth 20000 in
theorem ggX6_endRing_X0_add : GoodIn wsX6_endRing wsX0_add := goodIn_r _ [58, 59, 60, 61, 62, 63, 64, 114, 115] (by decide +kernel) (by decide +kernel)
set_option maxRecDepth 20000 in
theorem gX6_endRing_X0_add : GoodIn wsX6_endRing (wsV RX6 293 RX0 yX0_add wsX0_add) := goodIn_app (goodIn_of _ (by decide +kernel)) ggX6_endRing_X0_add
set_option maxRecDepth 20000 in
theorem ggX6_endRing_X2_deliverLeft : GoodIn wsX6_endRing wsX2_deliverLeft := goodIn_r _ [81, 44, 29, 51, 18, 9, 19, 46, 47, 48, 27, 49, 50, 52, 53, 37, 38, 54, 55, 56, 57, 58, 59, 60, 61, 62, 63, 64, 86, 87, 88, 89, 90, 91, 92, 93, 94, 95, 96, 97, 98, 105, 106, 107, 108, 99, 100, 101, 102, 103, 104, 114, 115] (by decide +kernel) (by decide +kernel)
set_option maxRecDepth 20000 in
theorem gX6_endRing_X2_deliverLeft : GoodIn wsX6_endRing (wsV RX6 297 RX2 yX2_deliverLeft wsX2_deliverLeft) := goodIn_app (goodIn_of _ (by decide +kernel)) ggX6_endRing_X2_deliverLeft
theorem dX6_endRing_0 : decode cX6_endRing 0 = .ok (.aload_n 0, 1) := by decide +kernel
theorem dX6_endRing_1 : decode cX6_endRing 1 = .ok (.iload_n 1, 1) := by decide +kernel
theorem dX6_endRing_2 : decode cX6_endRing 2 = .ok (.invokevirtual 290, 3) := by decide +kernel
theorem dX6_endRing_5 : decode cX6_endRing 5 = .ok (.aload_n 0, 1) := by decide +kernel
theorem dX6_endRing_6 : decode cX6_endRing 6 = .ok (.getfield 31, 3) := by decide +kernel
theorem dX6_endRing_9 : decode cX6_endRing 9 = .ok (.astore_n 2, 1) := by decide +kernel
theorem dX6_endRing_10 : decode cX6_endRing 10 = .ok (.aload_n 2, 1) := by decide +kernel
theorem dX6_endRing_11 : decode cX6_endRing 11 = .ok (.arraylength, 1) := by decide +kernel
theorem dX6_endRing_12 : decode cX6_endRing 12 = .ok (.istore_n 3, 1) := by decide +kernel
theorem dX6_endRing_13 : decode cX6_endRing 13 = .ok (.iconst 0, 1) := by decide +kernel
theorem dX6_endRing_14 : decode cX6_endRing 14 = .ok (.istore 4, 2) := by decide +kernel
theorem dX6_endRing_16 : decode cX6_endRing 16 = .ok (.iload 4, 2) := by decide +kernel
theorem dX6_endRing_18 : decode cX6_endRing 18 = .ok (.iload_n 3, 1) := by decide +kernel
theorem dX6_endRing_19 : decode cX6_endRing 19 = .ok (.if_icmp .ge 60, 3) := by decide +kernel
theorem dX6_endRing_22 : decode cX6_endRing 22 = .ok (.aload_n 2, 1) := by decide +kernel
theorem dX6_endRing_23 : decode cX6_endRing 23 = .ok (.iload 4, 2) := by decide +kernel
theorem dX6_endRing_25 : decode cX6_endRing 25 = .ok (.aaload, 1) := by decide +kernel
theorem dX6_endRing_26 : decode cX6_endRing 26 = .ok (.astore 5, 2) := by decide +kernel
theorem dX6_endRing_28 : decode cX6_endRing 28 = .ok (.aload 5, 2) := by decide +kernel
theorem dX6_endRing_30 : decode cX6_endRing 30 = .ok (.getfield 244, 3) := by decide +kernel
theorem dX6_endRing_33 : decode cX6_endRing 33 = .ok (.iload_n 1, 1) := by decide +kernel
theorem dX6_endRing_34 : decode cX6_endRing 34 = .ok (.invokestatic 237, 3) := by decide +kernel
theorem dX6_endRing_37 : decode cX6_endRing 37 = .ok (.ifCond .eq 36, 3) := by decide +kernel
theorem dX6_endRing_40 : decode cX6_endRing 40 = .ok (.aload 5, 2) := by decide +kernel
theorem dX6_endRing_42 : decode cX6_endRing 42 = .ok (.invokevirtual 116, 3) := by decide +kernel
theorem dX6_endRing_45 : decode cX6_endRing 45 = .ok (.pop, 1) := by decide +kernel
theorem dX6_endRing_46 : decode cX6_endRing 46 = .ok (.aload 5, 2) := by decide +kernel
theorem dX6_endRing_48 : decode cX6_endRing 48 = .ok (.getfield 197, 3) := by decide +kernel
theorem dX6_endRing_51 : decode cX6_endRing 51 = .ok (.iconst 2, 1) := by decide +kernel
theorem dX6_endRing_52 : decode cX6_endRing 52 = .ok (.iload_n 1, 1) := by decide +kernel
theorem dX6_endRing_53 : decode cX6_endRing 53 = .ok (.iconst 0, 1) := by decide +kernel
theorem dX6_endRing_54 : decode cX6_endRing 54 = .ok (.iconst 0, 1) := by decide +kernel
theorem dX6_endRing_55 : decode cX6_endRing 55 = .ok (.lconst 0, 1) := by decide +kernel
theorem dX6_endRing_56 : decode cX6_endRing 56 = .ok (.aload 5, 2) := by decide +kernel
theorem dX6_endRing_58 : decode cX6_endRing 58 = .ok (.getfield 80, 3) := by decide +kernel
theorem dX6_endRing_61 : decode cX6_endRing 61 = .ok (.getfield 170, 3) := by decide +kernel
theorem dX6_endRing_64 : decode cX6_endRing 64 = .ok (.invokevirtual 293, 3) := by decide +kernel
theorem dX6_endRing_67 : decode cX6_endRing 67 = .ok (.aload 5, 2) := by decide +kernel
theorem dX6_endRing_69 : decode cX6_endRing 69 = .ok (.iload_n 1, 1) := by decide +kernel
theorem dX6_endRing_70 : decode cX6_endRing 70 = .ok (.invokevirtual 297, 3) := by decide +kernel
theorem dX6_endRing_73 : decode cX6_endRing 73 = .ok (.iinc 4 1, 3) := by decide +kernel
theorem dX6_endRing_76 : decode cX6_endRing 76 = .ok (.goto (-60), 3) := by decide +kernel
theorem dX6_endRing_79 : decode cX6_endRing 79 = .ok (.return_, 1) := by decide +kernel
set_option maxRecDepth 20000 in
theorem ggX6_shareAll_X6_isIn : GoodIn wsX6_shareAll wsX6_isIn := goodIn_r _ [12] (by decide +kernel) (by decide +kernel)
set_option maxRecDepth 20000 in
theorem gX6_shareAll_X6_isIn : GoodIn wsX6_shareAll (va_wsS RX6 237 yX6_isIn wsX6_isIn) := goodIn_app (goodIn_of _ (by decide +kernel)) ggX6_shareAll_X6_isIn
set_option maxRecDepth 20000 in
theorem ggX6_shareAll_X6_giveTo : GoodIn wsX6_shareAll wsX6_giveTo := goodIn_r _ [16, 1, 2, 9, 10, 11, 12, 17, 18, 19, 20, 21, 22, 23, 24, 25, 26, 27, 28, 29, 30, 31, 32, 33, 34, 35, 36, 37, 38, 39, 40, 41, 42, 43, 44, 45, 46, 47, 48, 49, 50, 51, 52, 53, 54, 55, 56, 57, 58, 59, 60, 61, 62, 63, 64] (by decide +kernel) (by decide +kernel)
set_option maxRecDepth 20000 in
theorem gX6_shareAll_X6_giveTo : GoodIn wsX6_shareAll (wsV RX6 256 RX6 yX6_giveTo wsX6_giveTo) := goodIn_app (goodIn_of _ (by decide +kernel)) ggX6_shareAll_X6_giveTo
theorem dX6_shareAll_0 : decode cX6_shareAll 0 = .ok (.iconst 0, 1) := by decide +kernel
theorem dX6_shareAll_1 : decode cX6_shareAll 1 = .ok (.istore_n 2, 1) := by decide +kernel
theorem dX6_shareAll_2 : decode cX6_shareAll 2 = .ok (.aload_n 0, 1) := by decide +kernel
theorem dX6_shareAll_3 : decode cX6_shareAll 3 = .ok (.getfield 31, 3) := by decide +kernel
theorem dX6_shareAll_6 : decode cX6_shareAll 6 = .ok (.astore_n 3, 1) := by decide +kernel
theorem dX6_shareAll_7 : decode cX6_shareAll 7 = .ok (.aload_n 3, 1) := by decide +kernel
theorem dX6_shareAll_8 : decode cX6_shareAll 8 = .ok (.arraylength, 1) := by decide +kernel
theorem dX6_shareAll_9 : decode cX6_shareAll 9 = .ok (.istore 4, 2) := by decide +kernel
theorem dX6_shareAll_11 : decode cX6_shareAll 11 = .ok (.iconst 0, 1) := by decide +kernel
theorem dX6_shareAll_12 : decode cX6_shareAll 12 = .ok (.istore 5, 2) := by decide +kernel
theorem dX6_shareAll_14 : decode cX6_shareAll 14 = .ok (.iload 5, 2) := by decide +kernel
theorem dX6_shareAll_16 : decode cX6_shareAll 16 = .ok (.iload 4, 2) := by decide +kernel
theorem dX6_shareAll_18 : decode cX6_shareAll 18 = .ok (.if_icmp .ge 79, 3) := by decide +kernel
theorem dX6_shareAll_21 : decode cX6_shareAll 21 = .ok (.aload_n 3, 1) := by decide +kernel
theorem dX6_shareAll_22 : decode cX6_shareAll 22 = .ok (.iload 5, 2) := by decide +kernel
theorem dX6_shareAll_24 : decode cX6_shareAll 24 = .ok (.aaload, 1) := by decide +kernel
theorem dX6_shareAll_25 : decode cX6_shareAll 25 = .ok (.astore 6, 2) := by decide +kernel
theorem dX6_shareAll_27 : decode cX6_shareAll 27 = .ok (.aload 6, 2) := by decide +kernel
theorem dX6_shareAll_29 : decode cX6_shareAll 29 = .ok (.getfield 244, 3) := by decide +kernel
theorem dX6_shareAll_32 : decode cX6_shareAll 32 = .ok (.iload_n 1, 1) := by decide +kernel
theorem dX6_shareAll_33 : decode cX6_shareAll 33 = .ok (.invokestatic 237, 3) := by decide +kernel
theorem dX6_shareAll_36 : decode cX6_shareAll 36 = .ok (.ifCond .eq 55, 3) := by decide +kernel
theorem dX6_shareAll_39 : decode cX6_shareAll 39 = .ok (.iload_n 2, 1) := by decide +kernel
theorem dX6_shareAll_40 : decode cX6_shareAll 40 = .ok (.aload 6, 2) := by decide +kernel
theorem dX6_shareAll_42 : decode cX6_shareAll 42 = .ok (.getfield 106, 3) := by decide +kernel
theorem dX6_shareAll_45 : decode cX6_shareAll 45 = .ok (.invokestatic 15, 3) := by decide +kernel
theorem dX6_shareAll_48 : decode cX6_shareAll 48 = .ok (.istore_n 2, 1) := by decide +kernel
theorem dX6_shareAll_49 : decode cX6_shareAll 49 = .ok (.iconst 1, 1) := by decide +kernel
theorem dX6_shareAll_50 : decode cX6_shareAll 50 = .ok (.istore 7, 2) := by decide +kernel
theorem dX6_shareAll_52 : decode cX6_shareAll 52 = .ok (.iload 7, 2) := by decide +kernel
theorem dX6_shareAll_54 : decode cX6_shareAll 54 = .ok (.bipush 100, 2) := by decide +kernel
theorem dX6_shareAll_56 : decode cX6_shareAll 56 = .ok (.if_icmp .gt 35, 3) := by decide +kernel
theorem dX6_shareAll_59 : decode cX6_shareAll 59 = .ok (.aload 6, 2) := by decide +kernel
theorem dX6_shareAll_61 : decode cX6_shareAll 61 = .ok (.getfield 252, 3) := by decide +kernel
theorem dX6_shareAll_64 : decode cX6_shareAll 64 = .ok (.iload 7, 2) := by decide +kernel
theorem dX6_shareAll_66 : decode cX6_shareAll 66 = .ok (.aaload, 1) := by decide +kernel
theorem dX6_shareAll_67 : decode cX6_shareAll 67 = .ok (.ifnull 18, 3) := by decide +kernel
theorem dX6_shareAll_70 : decode cX6_shareAll 70 = .ok (.aload_n 0, 1) := by decide +kernel
theorem dX6_shareAll_71 : decode cX6_shareAll 71 = .ok (.iload_n 1, 1) := by decide +kernel
theorem dX6_shareAll_72 : decode cX6_shareAll 72 = .ok (.iload 7, 2) := by decide +kernel
theorem dX6_shareAll_74 : decode cX6_shareAll 74 = .ok (.aload 6, 2) := by decide +kernel
theorem dX6_shareAll_76 : decode cX6_shareAll 76 = .ok (.getfield 252, 3) := by decide +kernel
theorem dX6_shareAll_79 : decode cX6_shareAll 79 = .ok (.iload 7, 2) := by decide +kernel
theorem dX6_shareAll_81 : decode cX6_shareAll 81 = .ok (.aaload, 1) := by decide +kernel
theorem dX6_shareAll_82 : decode cX6_shareAll 82 = .ok (.invokevirtual 256, 3) := by decide +kernel
theorem dX6_shareAll_85 : decode cX6_shareAll 85 = .ok (.iinc 7 1, 3) := by decide +kernel
theorem dX6_shareAll_88 : decode cX6_shareAll 88 = .ok (.goto (-36), 3) := by decide +kernel
theorem dX6_shareAll_91 : decode cX6_shareAll 91 = .ok (.iinc 5 1, 3) := by decide +kernel
theorem dX6_shareAll_94 : decode cX6_shareAll 94 = .ok (.goto (-80), 3) := by decide +kernel
theorem dX6_shareAll_97 : decode cX6_shareAll 97 = .ok (.aload_n 0, 1) := by decide +kernel
theorem dX6_shareAll_98 : decode cX6_shareAll 98 = .ok (.getfield 31, 3) := by decide +kernel
theorem dX6_shareAll_101 : decode cX6_shareAll 101 = .ok (.astore_n 3, 1) := by decide +kernel
theorem dX6_shareAll_102 : decode cX6_shareAll 102 = .ok (.aload_n 3, 1) := by decide +kernel
theorem dX6_shareAll_103 : decode cX6_shareAll 103 = .ok (.arraylength, 1) := by decide +kernel
theorem dX6_shareAll_104 : decode cX6_shareAll 104 = .ok (.istore 4, 2) := by decide +kernel
theorem dX6_shareAll_106 : decode cX6_shareAll 106 = .ok (.iconst 0, 1) := by decide +kernel
theorem dX6_shareAll_107 : decode cX6_shareAll 107 = .ok (.istore 5, 2) := by decide +kernel
theorem dX6_shareAll_109 : decode cX6_shareAll 109 = .ok (.iload 5, 2) := by decide +kernel
theorem dX6_shareAll_111 : decode cX6_shareAll 111 = .ok (.iload 4, 2) := by decide +kernel
theorem dX6_shareAll_113 : decode cX6_shareAll 113 = .ok (.if_icmp .ge 33, 3) := by decide +kernel
theorem dX6_shareAll_116 : decode cX6_shareAll 116 = .ok (.aload_n 3, 1) := by decide +kernel
theorem dX6_shareAll_117 : decode cX6_shareAll 117 = .ok (.iload 5, 2) := by decide +kernel
theorem dX6_shareAll_119 : decode cX6_shareAll 119 = .ok (.aaload, 1) := by decide +kernel
theorem dX6_shareAll_120 : decode cX6_shareAll 120 = .ok (.astore 6, 2) := by decide +kernel
theorem dX6_shareAll_122 : decode cX6_shareAll 122 = .ok (.aload 6, 2) := by decide +kernel
theorem dX6_shareAll_124 : decode cX6_shareAll 124 = .ok (.getfield 244, 3) := by decide +kernel
theorem dX6_shareAll_127 : decode cX6_shareAll 127 = .ok (.iload_n 1, 1) := by decide +kernel
theorem dX6_shareAll_128 : decode cX6_shareAll 128 = .ok (.invokestatic 237, 3) := by decide +kernel
theorem dX6_shareAll_131 : decode cX6_shareAll 131 = .ok (.ifCond .eq 9, 3) := by decide +kernel
theorem dX6_shareAll_134 : decode cX6_shareAll 134 = .ok (.aload 6, 2) := by decide +kernel
theorem dX6_shareAll_136 : decode cX6_shareAll 136 = .ok (.iload_n 2, 1) := by decide +kernel
theorem dX6_shareAll_137 : decode cX6_shareAll 137 = .ok (.putfield 106, 3) := by decide +kernel
theorem dX6_shareAll_140 : decode cX6_shareAll 140 = .ok (.iinc 5 1, 3) := by decide +kernel
theorem dX6_shareAll_143 : decode cX6_shareAll 143 = .ok (.goto (-34), 3) := by decide +kernel
theorem dX6_shareAll_146 : decode cX6_shareAll 146 = .ok (.return_, 1) := by decide +kernel
set_option maxRecDepth 20000 in
theorem ggX6_bringTablesUpToDate_X6_keptByOne : GoodIn wsX6_bringTablesUpToDate wsX6_keptByOne := goodIn_r _ [10, 4, 5, 3, 1, 11, 12, 13, 9, 14, 49, 50, 51, 52, 31, 32, 33, 34, 35, 36, 37, 38, 39, 40, 41, 42, 43, 44, 45, 46, 47, 48] (by decide +kernel) (by decide +kernel)
set_option maxRecDepth 20000 in
theorem gX6_bringTablesUpToDate_X6_keptByOne : GoodIn wsX6_bringTablesUpToDate (wsV RX6 303 RX6 yX6_keptByOne wsX6_keptByOne) := goodIn_app (goodIn_of _ (by decide +kernel)) ggX6_bringTablesUpToDate_X6_keptByOne
set_option maxRecDepth 20000 in
theorem ggX6_bringTablesUpToDate_X4_apply : GoodIn wsX6_bringTablesUpToDate wsX4_apply := goodIn_r _ [19, 20, 21, 22, 23, 24, 25, 26, 44, 45, 46, 47, 48, 53, 54, 55, 56] (by decide +kernel) (by decide +kernel)
set_option maxRecDepth 20000 in
theorem gX6_bringTablesUpToDate_X4_apply : GoodIn wsX6_bringTablesUpToDate (wsV RX6 307 RX4 yX4_apply wsX4_apply) := goodIn_app (goodIn_of _ (by decide +kernel)) ggX6_bringTablesUpToDate_X4_apply
set_option maxRecDepth 20000 in
theorem ggX6_bringTablesUpToDate_X6_isIn : GoodIn wsX6_bringTablesUpToDate wsX6_isIn := goodIn_r _ [14] (by decide +kernel) (by decide +kernel)
set_option maxRecDepth 20000 in
theorem gX6_bringTablesUpToDate_X6_isIn : GoodIn wsX6_bringTablesUpToDate (va_wsS RX6 237 yX6_isIn wsX6_isIn) := goodIn_app (goodIn_of _ (by decide +kernel)) ggX6_bringTablesUpToDate_X6_isIn
set_option maxRecDepth 20000 in
theorem ggX6_bringTablesUpToDate_X4_copyTable : GoodIn wsX6_bringTablesUpToDate wsX4_copyTable := goodIn_r _ [30, 20, 23, 24, 44, 45, 46, 47, 48] (by decide +kernel) (by decide +kernel)
set_option maxRecDepth 20000 in
theorem gX6_bringTablesUpToDate_X4_copyTable : GoodIn wsX6_bringTablesUpToDate (wsV RX6 310 RX4 yX4_copyTable wsX4_copyTable) := goodIn_app (goodIn_of _ (by decide +kernel)) ggX6_bringTablesUpToDate_X4_copyTable
theorem dX6_bringTablesUpToDate_0 : decode cX6_bringTablesUpToDate 0 = .ok (.aload_n 1, 1) := by decide +kernel
theorem dX6_bringTablesUpToDate_1 : decode cX6_bringTablesUpToDate 1 = .ok (.getfield 182, 3) := by decide +kernel
theorem dX6_bringTablesUpToDate_4 : decode cX6_bringTablesUpToDate 4 = .ok (.getfield 300, 3) := by decide +kernel
theorem dX6_bringTablesUpToDate_7 : decode cX6_bringTablesUpToDate 7 = .ok (.iconst 1, 1) := by decide +kernel
theorem dX6_bringTablesUpToDate_8 : decode cX6_bringTablesUpToDate 8 = .ok (.iadd, 1) := by decide +kernel
theorem dX6_bringTablesUpToDate_9 : decode cX6_bringTablesUpToDate 9 = .ok (.istore_n 3, 1) := by decide +kernel
theorem dX6_bringTablesUpToDate_10 : decode cX6_bringTablesUpToDate 10 = .ok (.iload_n 3, 1) := by decide +kernel
theorem dX6_bringTablesUpToDate_11 : decode cX6_bringTablesUpToDate 11 = .ok (.bipush 100, 2) := by decide +kernel
theorem dX6_bringTablesUpToDate_13 : decode cX6_bringTablesUpToDate 13 = .ok (.if_icmp .gt 36, 3) := by decide +kernel
theorem dX6_bringTablesUpToDate_16 : decode cX6_bringTablesUpToDate 16 = .ok (.aload_n 0, 1) := by decide +kernel
theorem dX6_bringTablesUpToDate_17 : decode cX6_bringTablesUpToDate 17 = .ok (.iload_n 2, 1) := by decide +kernel
theorem dX6_bringTablesUpToDate_18 : decode cX6_bringTablesUpToDate 18 = .ok (.aload_n 1, 1) := by decide +kernel
theorem dX6_bringTablesUpToDate_19 : decode cX6_bringTablesUpToDate 19 = .ok (.getfield 191, 3) := by decide +kernel
theorem dX6_bringTablesUpToDate_22 : decode cX6_bringTablesUpToDate 22 = .ok (.iload_n 3, 1) := by decide +kernel
theorem dX6_bringTablesUpToDate_23 : decode cX6_bringTablesUpToDate 23 = .ok (.invokevirtual 303, 3) := by decide +kernel
theorem dX6_bringTablesUpToDate_26 : decode cX6_bringTablesUpToDate 26 = .ok (.astore 4, 2) := by decide +kernel
theorem dX6_bringTablesUpToDate_28 : decode cX6_bringTablesUpToDate 28 = .ok (.aload 4, 2) := by decide +kernel
theorem dX6_bringTablesUpToDate_30 : decode cX6_bringTablesUpToDate 30 = .ok (.ifnull 13, 3) := by decide +kernel
theorem dX6_bringTablesUpToDate_33 : decode cX6_bringTablesUpToDate 33 = .ok (.aload_n 1, 1) := by decide +kernel
theorem dX6_bringTablesUpToDate_34 : decode cX6_bringTablesUpToDate 34 = .ok (.getfield 182, 3) := by decide +kernel
theorem dX6_bringTablesUpToDate_37 : decode cX6_bringTablesUpToDate 37 = .ok (.iload_n 3, 1) := by decide +kernel
theorem dX6_bringTablesUpToDate_38 : decode cX6_bringTablesUpToDate 38 = .ok (.aload 4, 2) := by decide +kernel
theorem dX6_bringTablesUpToDate_40 : decode cX6_bringTablesUpToDate 40 = .ok (.invokevirtual 307, 3) := by decide +kernel
theorem dX6_bringTablesUpToDate_43 : decode cX6_bringTablesUpToDate 43 = .ok (.iinc 3 1, 3) := by decide +kernel
theorem dX6_bringTablesUpToDate_46 : decode cX6_bringTablesUpToDate 46 = .ok (.goto (-36), 3) := by decide +kernel
theorem dX6_bringTablesUpToDate_49 : decode cX6_bringTablesUpToDate 49 = .ok (.aload_n 0, 1) := by decide +kernel
theorem dX6_bringTablesUpToDate_50 : decode cX6_bringTablesUpToDate 50 = .ok (.getfield 31, 3) := by decide +kernel
theorem dX6_bringTablesUpToDate_53 : decode cX6_bringTablesUpToDate 53 = .ok (.astore_n 3, 1) := by decide +kernel
theorem dX6_bringTablesUpToDate_54 : decode cX6_bringTablesUpToDate 54 = .ok (.aload_n 3, 1) := by decide +kernel
theorem dX6_bringTablesUpToDate_55 : decode cX6_bringTablesUpToDate 55 = .ok (.arraylength, 1) := by decide +kernel
theorem dX6_bringTablesUpToDate_56 : decode cX6_bringTablesUpToDate 56 = .ok (.istore 4, 2) := by decide +kernel
theorem dX6_bringTablesUpToDate_58 : decode cX6_bringTablesUpToDate 58 = .ok (.iconst 0, 1) := by decide +kernel
theorem dX6_bringTablesUpToDate_59 : decode cX6_bringTablesUpToDate 59 = .ok (.istore 5, 2) := by decide +kernel
theorem dX6_bringTablesUpToDate_61 : decode cX6_bringTablesUpToDate 61 = .ok (.iload 5, 2) := by decide +kernel
theorem dX6_bringTablesUpToDate_63 : decode cX6_bringTablesUpToDate 63 = .ok (.iload 4, 2) := by decide +kernel
theorem dX6_bringTablesUpToDate_65 : decode cX6_bringTablesUpToDate 65 = .ok (.if_icmp .ge 39, 3) := by decide +kernel
theorem dX6_bringTablesUpToDate_68 : decode cX6_bringTablesUpToDate 68 = .ok (.aload_n 3, 1) := by decide +kernel
theorem dX6_bringTablesUpToDate_69 : decode cX6_bringTablesUpToDate 69 = .ok (.iload 5, 2) := by decide +kernel
theorem dX6_bringTablesUpToDate_71 : decode cX6_bringTablesUpToDate 71 = .ok (.aaload, 1) := by decide +kernel
theorem dX6_bringTablesUpToDate_72 : decode cX6_bringTablesUpToDate 72 = .ok (.astore 6, 2) := by decide +kernel
theorem dX6_bringTablesUpToDate_74 : decode cX6_bringTablesUpToDate 74 = .ok (.aload 6, 2) := by decide +kernel
theorem dX6_bringTablesUpToDate_76 : decode cX6_bringTablesUpToDate 76 = .ok (.getfield 244, 3) := by decide +kernel
theorem dX6_bringTablesUpToDate_79 : decode cX6_bringTablesUpToDate 79 = .ok (.iload_n 2, 1) := by decide +kernel
end
section
theorem dX6_bringTablesUpToDate_80 : decode cX6_bringTablesUpToDate 80 = .ok (.invokestatic 237, 3) := by decide +kernel
theorem dX6_bringTablesUpToDate_83 : decode cX6_bringTablesUpToDate 83 = .ok (.ifCond .eq 15, 3) := by decide +kernel
theorem dX6_bringTablesUpToDate_86 : decode cX6_bringTablesUpToDate 86 = .ok (.aload 6, 2) := by decide +kernel
theorem dX6_bringTablesUpToDate_88 : decode cX6_bringTablesUpToDate 88 = .ok (.getfield 182, 3) := by decide +kernel
theorem dX6_bringTablesUpToDate_91 : decode cX6_bringTablesUpToDate 91 = .ok (.aload_n 1, 1) := by decide +kernel
theorem dX6_bringTablesUpToDate_92 : decode cX6_bringTablesUpToDate 92 = .ok (.getfield 182, 3) := by decide +kernel
theorem dX6_bringTablesUpToDate_95 : decode cX6_bringTablesUpToDate 95 = .ok (.invokevirtual 310, 3) := by decide +kernel
theorem dX6_bringTablesUpToDate_98 : decode cX6_bringTablesUpToDate 98 = .ok (.iinc 5 1, 3) := by decide +kernel
theorem dX6_bringTablesUpToDate_101 : decode cX6_bringTablesUpToDate 101 = .ok (.goto (-40), 3) := by decide +kernel
theorem dX6_bringTablesUpToDate_104 : decode cX6_bringTablesUpToDate 104 = .ok (.return_, 1) := by decide +kernel
set_option maxRecDepth 20000 in
theorem ggX6_keptByOne_X6_isIn : GoodIn wsX6_keptByOne wsX6_isIn := goodIn_r _ [9] (by decide +kernel) (by decide +kernel)
set_option maxRecDepth 20000 in
theorem gX6_keptByOne_X6_isIn : GoodIn wsX6_keptByOne (va_wsS RX6 237 yX6_isIn wsX6_isIn) := goodIn_app (goodIn_of _ (by decide +kernel)) ggX6_keptByOne_X6_isIn
theorem dX6_keptByOne_0 : decode cX6_keptByOne 0 = .ok (.aload_n 0, 1) := by decide +kernel
theorem dX6_keptByOne_1 : decode cX6_keptByOne 1 = .ok (.getfield 31, 3) := by decide +kernel
theorem dX6_keptByOne_4 : decode cX6_keptByOne 4 = .ok (.astore 4, 2) := by decide +kernel
theorem dX6_keptByOne_6 : decode cX6_keptByOne 6 = .ok (.aload 4, 2) := by decide +kernel
theorem dX6_keptByOne_8 : decode cX6_keptByOne 8 = .ok (.arraylength, 1) := by decide +kernel
theorem dX6_keptByOne_9 : decode cX6_keptByOne 9 = .ok (.istore 5, 2) := by decide +kernel
theorem dX6_keptByOne_11 : decode cX6_keptByOne 11 = .ok (.iconst 0, 1) := by decide +kernel
theorem dX6_keptByOne_12 : decode cX6_keptByOne 12 = .ok (.istore 6, 2) := by decide +kernel
theorem dX6_keptByOne_14 : decode cX6_keptByOne 14 = .ok (.iload 6, 2) := by decide +kernel
theorem dX6_keptByOne_16 : decode cX6_keptByOne 16 = .ok (.iload 5, 2) := by decide +kernel
theorem dX6_keptByOne_18 : decode cX6_keptByOne 18 = .ok (.if_icmp .ge 61, 3) := by decide +kernel
theorem dX6_keptByOne_21 : decode cX6_keptByOne 21 = .ok (.aload 4, 2) := by decide +kernel
theorem dX6_keptByOne_23 : decode cX6_keptByOne 23 = .ok (.iload 6, 2) := by decide +kernel
theorem dX6_keptByOne_25 : decode cX6_keptByOne 25 = .ok (.aaload, 1) := by decide +kernel
theorem dX6_keptByOne_26 : decode cX6_keptByOne 26 = .ok (.astore 7, 2) := by decide +kernel
theorem dX6_keptByOne_28 : decode cX6_keptByOne 28 = .ok (.aload 7, 2) := by decide +kernel
theorem dX6_keptByOne_30 : decode cX6_keptByOne 30 = .ok (.getfield 244, 3) := by decide +kernel
theorem dX6_keptByOne_33 : decode cX6_keptByOne 33 = .ok (.iload_n 1, 1) := by decide +kernel
theorem dX6_keptByOne_34 : decode cX6_keptByOne 34 = .ok (.invokestatic 237, 3) := by decide +kernel
theorem dX6_keptByOne_37 : decode cX6_keptByOne 37 = .ok (.ifCond .eq 36, 3) := by decide +kernel
theorem dX6_keptByOne_40 : decode cX6_keptByOne 40 = .ok (.aload 7, 2) := by decide +kernel
theorem dX6_keptByOne_42 : decode cX6_keptByOne 42 = .ok (.getfield 191, 3) := by decide +kernel
theorem dX6_keptByOne_45 : decode cX6_keptByOne 45 = .ok (.iload_n 2, 1) := by decide +kernel
theorem dX6_keptByOne_46 : decode cX6_keptByOne 46 = .ok (.if_icmp .ne 27, 3) := by decide +kernel
theorem dX6_keptByOne_49 : decode cX6_keptByOne 49 = .ok (.aload 7, 2) := by decide +kernel
theorem dX6_keptByOne_51 : decode cX6_keptByOne 51 = .ok (.getfield 182, 3) := by decide +kernel
theorem dX6_keptByOne_54 : decode cX6_keptByOne 54 = .ok (.getfield 314, 3) := by decide +kernel
theorem dX6_keptByOne_57 : decode cX6_keptByOne 57 = .ok (.iload_n 3, 1) := by decide +kernel
theorem dX6_keptByOne_58 : decode cX6_keptByOne 58 = .ok (.aaload, 1) := by decide +kernel
theorem dX6_keptByOne_59 : decode cX6_keptByOne 59 = .ok (.ifnull 14, 3) := by decide +kernel
theorem dX6_keptByOne_62 : decode cX6_keptByOne 62 = .ok (.aload 7, 2) := by decide +kernel
theorem dX6_keptByOne_64 : decode cX6_keptByOne 64 = .ok (.getfield 182, 3) := by decide +kernel
theorem dX6_keptByOne_67 : decode cX6_keptByOne 67 = .ok (.getfield 314, 3) := by decide +kernel
theorem dX6_keptByOne_70 : decode cX6_keptByOne 70 = .ok (.iload_n 3, 1) := by decide +kernel
theorem dX6_keptByOne_71 : decode cX6_keptByOne 71 = .ok (.aaload, 1) := by decide +kernel
theorem dX6_keptByOne_72 : decode cX6_keptByOne 72 = .ok (.areturn, 1) := by decide +kernel
theorem dX6_keptByOne_73 : decode cX6_keptByOne 73 = .ok (.iinc 6 1, 3) := by decide +kernel
theorem dX6_keptByOne_76 : decode cX6_keptByOne 76 = .ok (.goto (-62), 3) := by decide +kernel
theorem dX6_keptByOne_79 : decode cX6_keptByOne 79 = .ok (.aconst_null, 1) := by decide +kernel
theorem dX6_keptByOne_80 : decode cX6_keptByOne 80 = .ok (.areturn, 1) := by decide +kernel
set_option maxRecDepth 20000 in
theorem ggX6_beginRing_X6_isIn : GoodIn wsX6_beginRing wsX6_isIn := goodIn_r _ [12] (by decide +kernel) (by decide +kernel)
set_option maxRecDepth 20000 in
theorem gX6_beginRing_X6_isIn : GoodIn wsX6_beginRing (va_wsS RX6 237 yX6_isIn wsX6_isIn) := goodIn_app (goodIn_of _ (by decide +kernel)) ggX6_beginRing_X6_isIn
set_option maxRecDepth 20000 in
theorem ggX6_beginRing_X2_leaveRing : GoodIn wsX6_beginRing wsX2_leaveRing := goodIn_r _ [17, 18, 19, 20, 21, 22, 23, 80, 81, 82, 83, 84, 85, 86, 87, 88, 89, 90, 91, 92, 93, 94, 95, 96, 97, 98] (by decide +kernel) (by decide +kernel)
set_option maxRecDepth 20000 in
theorem gX6_beginRing_X2_leaveRing : GoodIn wsX6_beginRing (wsV RX6 164 RX2 yX2_leaveRing wsX2_leaveRing) := goodIn_app (goodIn_of _ (by decide +kernel)) ggX6_beginRing_X2_leaveRing
set_option maxRecDepth 20000 in
theorem ggX6_beginRing_X6_unusedRing : GoodIn wsX6_beginRing wsX6_unusedRing := goodIn_r _ [27, 1, 28, 29, 30, 31, 11, 32, 33, 2, 9, 10, 12, 76, 77, 78, 79, 80, 81, 82, 83, 84, 85, 86, 87, 88, 89, 90, 91, 92] (by decide +kernel) (by decide +kernel)
set_option maxRecDepth 20000 in
theorem gX6_beginRing_X6_unusedRing : GoodIn wsX6_beginRing (wsV RX6 317 RX6 yX6_unusedRing wsX6_unusedRing) := goodIn_app (goodIn_of _ (by decide +kernel)) ggX6_beginRing_X6_unusedRing
set_option maxRecDepth 20000 in
theorem ggX6_beginRing_X5_begin : GoodIn wsX6_beginRing wsX5_begin := goodIn_r _ [38, 39, 40, 41, 42, 43, 44, 45, 11, 46, 9, 10, 12, 93, 94, 95, 96, 97, 98] (by decide +kernel) (by decide +kernel)
set_option maxRecDepth 20000 in
theorem gX6_beginRing_X5_begin : GoodIn wsX6_beginRing (wsV RX6 321 RX5 yX5_begin wsX5_begin) := goodIn_app (goodIn_of _ (by decide +kernel)) ggX6_beginRing_X5_begin
set_option maxRecDepth 20000 in
theorem ggX6_beginRing_X2_joinRing : GoodIn wsX6_beginRing wsX2_joinRing := goodIn_r _ [50, 18, 51, 52, 53, 54, 55, 56, 57, 58, 59, 60, 61, 62, 63, 64, 65, 66, 67, 68, 69, 70, 71, 72, 73, 74, 75, 80, 81, 82, 83, 84, 85, 86, 87, 88, 89, 90, 91, 92, 93, 94, 95, 96, 97, 98, 99, 100, 101, 102, 103, 104, 105] (by decide +kernel) (by decide +kernel)
set_option maxRecDepth 20000 in
theorem gX6_beginRing_X2_joinRing : GoodIn wsX6_beginRing (wsV RX6 325 RX2 yX2_joinRing wsX2_joinRing) := goodIn_app (goodIn_of _ (by decide +kernel)) ggX6_beginRing_X2_joinRing
theorem dX6_beginRing_0 : decode cX6_beginRing 0 = .ok (.iconst 0, 1) := by decide +kernel
theorem dX6_beginRing_1 : decode cX6_beginRing 1 = .ok (.istore_n 3, 1) := by decide +kernel
theorem dX6_beginRing_2 : decode cX6_beginRing 2 = .ok (.aload_n 0, 1) := by decide +kernel
theorem dX6_beginRing_3 : decode cX6_beginRing 3 = .ok (.getfield 31, 3) := by decide +kernel
theorem dX6_beginRing_6 : decode cX6_beginRing 6 = .ok (.astore 4, 2) := by decide +kernel
theorem dX6_beginRing_8 : decode cX6_beginRing 8 = .ok (.aload 4, 2) := by decide +kernel
theorem dX6_beginRing_10 : decode cX6_beginRing 10 = .ok (.arraylength, 1) := by decide +kernel
theorem dX6_beginRing_11 : decode cX6_beginRing 11 = .ok (.istore 5, 2) := by decide +kernel
theorem dX6_beginRing_13 : decode cX6_beginRing 13 = .ok (.iconst 0, 1) := by decide +kernel
theorem dX6_beginRing_14 : decode cX6_beginRing 14 = .ok (.istore 6, 2) := by decide +kernel
theorem dX6_beginRing_16 : decode cX6_beginRing 16 = .ok (.iload 6, 2) := by decide +kernel
theorem dX6_beginRing_18 : decode cX6_beginRing 18 = .ok (.iload 5, 2) := by decide +kernel
theorem dX6_beginRing_20 : decode cX6_beginRing 20 = .ok (.if_icmp .ge 47, 3) := by decide +kernel
theorem dX6_beginRing_23 : decode cX6_beginRing 23 = .ok (.aload 4, 2) := by decide +kernel
theorem dX6_beginRing_25 : decode cX6_beginRing 25 = .ok (.iload 6, 2) := by decide +kernel
theorem dX6_beginRing_27 : decode cX6_beginRing 27 = .ok (.aaload, 1) := by decide +kernel
theorem dX6_beginRing_28 : decode cX6_beginRing 28 = .ok (.astore 7, 2) := by decide +kernel
theorem dX6_beginRing_30 : decode cX6_beginRing 30 = .ok (.aload 7, 2) := by decide +kernel
theorem dX6_beginRing_32 : decode cX6_beginRing 32 = .ok (.getfield 244, 3) := by decide +kernel
theorem dX6_beginRing_35 : decode cX6_beginRing 35 = .ok (.iload_n 1, 1) := by decide +kernel
theorem dX6_beginRing_36 : decode cX6_beginRing 36 = .ok (.invokestatic 237, 3) := by decide +kernel
theorem dX6_beginRing_39 : decode cX6_beginRing 39 = .ok (.ifCond .eq 22, 3) := by decide +kernel
theorem dX6_beginRing_42 : decode cX6_beginRing 42 = .ok (.iload_n 3, 1) := by decide +kernel
theorem dX6_beginRing_43 : decode cX6_beginRing 43 = .ok (.aload 7, 2) := by decide +kernel
theorem dX6_beginRing_45 : decode cX6_beginRing 45 = .ok (.getfield 194, 3) := by decide +kernel
theorem dX6_beginRing_48 : decode cX6_beginRing 48 = .ok (.invokestatic 15, 3) := by decide +kernel
theorem dX6_beginRing_51 : decode cX6_beginRing 51 = .ok (.istore_n 3, 1) := by decide +kernel
theorem dX6_beginRing_52 : decode cX6_beginRing 52 = .ok (.aload 7, 2) := by decide +kernel
theorem dX6_beginRing_54 : decode cX6_beginRing 54 = .ok (.aload_n 0, 1) := by decide +kernel
theorem dX6_beginRing_55 : decode cX6_beginRing 55 = .ok (.getfield 25, 3) := by decide +kernel
theorem dX6_beginRing_58 : decode cX6_beginRing 58 = .ok (.invokevirtual 164, 3) := by decide +kernel
theorem dX6_beginRing_61 : decode cX6_beginRing 61 = .ok (.iinc 6 1, 3) := by decide +kernel
theorem dX6_beginRing_64 : decode cX6_beginRing 64 = .ok (.goto (-48), 3) := by decide +kernel
theorem dX6_beginRing_67 : decode cX6_beginRing 67 = .ok (.iinc 3 1, 3) := by decide +kernel
theorem dX6_beginRing_70 : decode cX6_beginRing 70 = .ok (.aload_n 0, 1) := by decide +kernel
theorem dX6_beginRing_71 : decode cX6_beginRing 71 = .ok (.invokevirtual 317, 3) := by decide +kernel
theorem dX6_beginRing_74 : decode cX6_beginRing 74 = .ok (.astore 4, 2) := by decide +kernel
theorem dX6_beginRing_76 : decode cX6_beginRing 76 = .ok (.aload 4, 2) := by decide +kernel
theorem dX6_beginRing_78 : decode cX6_beginRing 78 = .ok (.iload_n 3, 1) := by decide +kernel
theorem dX6_beginRing_79 : decode cX6_beginRing 79 = .ok (.iload_n 1, 1) := by decide +kernel
theorem dX6_beginRing_80 : decode cX6_beginRing 80 = .ok (.invokevirtual 321, 3) := by decide +kernel
theorem dX6_beginRing_83 : decode cX6_beginRing 83 = .ok (.aload_n 0, 1) := by decide +kernel
theorem dX6_beginRing_84 : decode cX6_beginRing 84 = .ok (.getfield 31, 3) := by decide +kernel
theorem dX6_beginRing_87 : decode cX6_beginRing 87 = .ok (.astore 5, 2) := by decide +kernel
theorem dX6_beginRing_89 : decode cX6_beginRing 89 = .ok (.aload 5, 2) := by decide +kernel
theorem dX6_beginRing_91 : decode cX6_beginRing 91 = .ok (.arraylength, 1) := by decide +kernel
theorem dX6_beginRing_92 : decode cX6_beginRing 92 = .ok (.istore 6, 2) := by decide +kernel
theorem dX6_beginRing_94 : decode cX6_beginRing 94 = .ok (.iconst 0, 1) := by decide +kernel
theorem dX6_beginRing_95 : decode cX6_beginRing 95 = .ok (.istore 7, 2) := by decide +kernel
theorem dX6_beginRing_97 : decode cX6_beginRing 97 = .ok (.iload 7, 2) := by decide +kernel
theorem dX6_beginRing_99 : decode cX6_beginRing 99 = .ok (.iload 6, 2) := by decide +kernel
theorem dX6_beginRing_101 : decode cX6_beginRing 101 = .ok (.if_icmp .ge 36, 3) := by decide +kernel
theorem dX6_beginRing_104 : decode cX6_beginRing 104 = .ok (.aload 5, 2) := by decide +kernel
theorem dX6_beginRing_106 : decode cX6_beginRing 106 = .ok (.iload 7, 2) := by decide +kernel
theorem dX6_beginRing_108 : decode cX6_beginRing 108 = .ok (.aaload, 1) := by decide +kernel
theorem dX6_beginRing_109 : decode cX6_beginRing 109 = .ok (.astore 8, 2) := by decide +kernel
theorem dX6_beginRing_111 : decode cX6_beginRing 111 = .ok (.aload 8, 2) := by decide +kernel
theorem dX6_beginRing_113 : decode cX6_beginRing 113 = .ok (.getfield 244, 3) := by decide +kernel
theorem dX6_beginRing_116 : decode cX6_beginRing 116 = .ok (.iload_n 1, 1) := by decide +kernel
theorem dX6_beginRing_117 : decode cX6_beginRing 117 = .ok (.invokestatic 237, 3) := by decide +kernel
theorem dX6_beginRing_120 : decode cX6_beginRing 120 = .ok (.ifCond .eq 11, 3) := by decide +kernel
theorem dX6_beginRing_123 : decode cX6_beginRing 123 = .ok (.aload 8, 2) := by decide +kernel
theorem dX6_beginRing_125 : decode cX6_beginRing 125 = .ok (.aload 4, 2) := by decide +kernel
theorem dX6_beginRing_127 : decode cX6_beginRing 127 = .ok (.iload_n 2, 1) := by decide +kernel
theorem dX6_beginRing_128 : decode cX6_beginRing 128 = .ok (.invokevirtual 325, 3) := by decide +kernel
theorem dX6_beginRing_131 : decode cX6_beginRing 131 = .ok (.iinc 7 1, 3) := by decide +kernel
theorem dX6_beginRing_134 : decode cX6_beginRing 134 = .ok (.goto (-37), 3) := by decide +kernel
theorem dX6_beginRing_137 : decode cX6_beginRing 137 = .ok (.iload_n 3, 1) := by decide +kernel
theorem dX6_beginRing_138 : decode cX6_beginRing 138 = .ok (.ireturn, 1) := by decide +kernel
set_option maxRecDepth 20000 in
theorem ggX6_unusedRing_X6_ofRing : GoodIn wsX6_unusedRing wsX6_ofRing := goodIn_r _ [7, 1, 8, 9, 10, 11, 6, 12, 13, 14, 15, 16, 17, 18, 19, 20, 21, 22, 23, 24, 25, 26, 27, 28, 29] (by decide +kernel) (by decide +kernel)
set_option maxRecDepth 20000 in
theorem gX6_unusedRing_X6_ofRing : GoodIn wsX6_unusedRing (wsV RX6 271 RX6 yX6_ofRing wsX6_ofRing) := goodIn_app (goodIn_of _ (by decide +kernel)) ggX6_unusedRing_X6_ofRing
theorem dX6_unusedRing_0 : decode cX6_unusedRing 0 = .ok (.iconst 1, 1) := by decide +kernel
theorem dX6_unusedRing_1 : decode cX6_unusedRing 1 = .ok (.aload_n 0, 1) := by decide +kernel
theorem dX6_unusedRing_2 : decode cX6_unusedRing 2 = .ok (.getfield 31, 3) := by decide +kernel
theorem dX6_unusedRing_5 : decode cX6_unusedRing 5 = .ok (.arraylength, 1) := by decide +kernel
theorem dX6_unusedRing_6 : decode cX6_unusedRing 6 = .ok (.ishl, 1) := by decide +kernel
theorem dX6_unusedRing_7 : decode cX6_unusedRing 7 = .ok (.iconst 1, 1) := by decide +kernel
theorem dX6_unusedRing_8 : decode cX6_unusedRing 8 = .ok (.isub, 1) := by decide +kernel
theorem dX6_unusedRing_9 : decode cX6_unusedRing 9 = .ok (.istore_n 1, 1) := by decide +kernel
theorem dX6_unusedRing_10 : decode cX6_unusedRing 10 = .ok (.aload_n 0, 1) := by decide +kernel
theorem dX6_unusedRing_11 : decode cX6_unusedRing 11 = .ok (.getfield 35, 3) := by decide +kernel
theorem dX6_unusedRing_14 : decode cX6_unusedRing 14 = .ok (.iconst 0, 1) := by decide +kernel
theorem dX6_unusedRing_15 : decode cX6_unusedRing 15 = .ok (.aaload, 1) := by decide +kernel
theorem dX6_unusedRing_16 : decode cX6_unusedRing 16 = .ok (.astore_n 2, 1) := by decide +kernel
theorem dX6_unusedRing_17 : decode cX6_unusedRing 17 = .ok (.aload_n 0, 1) := by decide +kernel
theorem dX6_unusedRing_18 : decode cX6_unusedRing 18 = .ok (.getfield 35, 3) := by decide +kernel
theorem dX6_unusedRing_21 : decode cX6_unusedRing 21 = .ok (.astore_n 3, 1) := by decide +kernel
theorem dX6_unusedRing_22 : decode cX6_unusedRing 22 = .ok (.aload_n 3, 1) := by decide +kernel
theorem dX6_unusedRing_23 : decode cX6_unusedRing 23 = .ok (.arraylength, 1) := by decide +kernel
theorem dX6_unusedRing_24 : decode cX6_unusedRing 24 = .ok (.istore 4, 2) := by decide +kernel
theorem dX6_unusedRing_26 : decode cX6_unusedRing 26 = .ok (.iconst 0, 1) := by decide +kernel
theorem dX6_unusedRing_27 : decode cX6_unusedRing 27 = .ok (.istore 5, 2) := by decide +kernel
theorem dX6_unusedRing_29 : decode cX6_unusedRing 29 = .ok (.iload 5, 2) := by decide +kernel
theorem dX6_unusedRing_31 : decode cX6_unusedRing 31 = .ok (.iload 4, 2) := by decide +kernel
theorem dX6_unusedRing_33 : decode cX6_unusedRing 33 = .ok (.if_icmp .ge 28, 3) := by decide +kernel
theorem dX6_unusedRing_36 : decode cX6_unusedRing 36 = .ok (.aload_n 3, 1) := by decide +kernel
theorem dX6_unusedRing_37 : decode cX6_unusedRing 37 = .ok (.iload 5, 2) := by decide +kernel
theorem dX6_unusedRing_39 : decode cX6_unusedRing 39 = .ok (.aaload, 1) := by decide +kernel
theorem dX6_unusedRing_40 : decode cX6_unusedRing 40 = .ok (.astore 6, 2) := by decide +kernel
theorem dX6_unusedRing_42 : decode cX6_unusedRing 42 = .ok (.aload_n 0, 1) := by decide +kernel
theorem dX6_unusedRing_43 : decode cX6_unusedRing 43 = .ok (.aload 6, 2) := by decide +kernel
theorem dX6_unusedRing_45 : decode cX6_unusedRing 45 = .ok (.iload_n 1, 1) := by decide +kernel
theorem dX6_unusedRing_46 : decode cX6_unusedRing 46 = .ok (.invokevirtual 271, 3) := by decide +kernel
theorem dX6_unusedRing_49 : decode cX6_unusedRing 49 = .ok (.ifCond .ne 6, 3) := by decide +kernel
theorem dX6_unusedRing_52 : decode cX6_unusedRing 52 = .ok (.aload 6, 2) := by decide +kernel
theorem dX6_unusedRing_54 : decode cX6_unusedRing 54 = .ok (.astore_n 2, 1) := by decide +kernel
theorem dX6_unusedRing_55 : decode cX6_unusedRing 55 = .ok (.iinc 5 1, 3) := by decide +kernel
theorem dX6_unusedRing_58 : decode cX6_unusedRing 58 = .ok (.goto (-29), 3) := by decide +kernel
theorem dX6_unusedRing_61 : decode cX6_unusedRing 61 = .ok (.aload_n 2, 1) := by decide +kernel
theorem dX6_unusedRing_62 : decode cX6_unusedRing 62 = .ok (.areturn, 1) := by decide +kernel
theorem dX7_init_0 : decode cX7_init 0 = .ok (.aload_n 0, 1) := by decide +kernel
theorem dX7_init_1 : decode cX7_init 1 = .ok (.invokespecial 1, 3) := by decide +kernel
theorem dX7_init_4 : decode cX7_init 4 = .ok (.aload_n 0, 1) := by decide +kernel
theorem dX7_init_5 : decode cX7_init 5 = .ok (.bipush 8, 2) := by decide +kernel
theorem dX7_init_7 : decode cX7_init 7 = .ok (.newarray .boolean, 2) := by decide +kernel
theorem dX7_init_9 : decode cX7_init 9 = .ok (.putfield 7, 3) := by decide +kernel
theorem dX7_init_12 : decode cX7_init 12 = .ok (.aload_n 0, 1) := by decide +kernel
theorem dX7_init_13 : decode cX7_init 13 = .ok (.bipush 8, 2) := by decide +kernel
theorem dX7_init_15 : decode cX7_init 15 = .ok (.newarray .int, 2) := by decide +kernel
theorem dX7_init_17 : decode cX7_init 17 = .ok (.putfield 13, 3) := by decide +kernel
theorem dX7_init_20 : decode cX7_init 20 = .ok (.aload_n 0, 1) := by decide +kernel
theorem dX7_init_21 : decode cX7_init 21 = .ok (.bipush 8, 2) := by decide +kernel
theorem dX7_init_23 : decode cX7_init 23 = .ok (.newarray .int, 2) := by decide +kernel
theorem dX7_init_25 : decode cX7_init 25 = .ok (.putfield 17, 3) := by decide +kernel
theorem dX7_init_28 : decode cX7_init 28 = .ok (.aload_n 0, 1) := by decide +kernel
theorem dX7_init_29 : decode cX7_init 29 = .ok (.bipush 8, 2) := by decide +kernel
theorem dX7_init_31 : decode cX7_init 31 = .ok (.newarray .int, 2) := by decide +kernel
theorem dX7_init_33 : decode cX7_init 33 = .ok (.putfield 20, 3) := by decide +kernel
theorem dX7_init_36 : decode cX7_init 36 = .ok (.aload_n 0, 1) := by decide +kernel
theorem dX7_init_37 : decode cX7_init 37 = .ok (.sipush 128, 3) := by decide +kernel
theorem dX7_init_40 : decode cX7_init 40 = .ok (.newarray .long, 2) := by decide +kernel
theorem dX7_init_42 : decode cX7_init 42 = .ok (.putfield 23, 3) := by decide +kernel
theorem dX7_init_45 : decode cX7_init 45 = .ok (.aload_n 0, 1) := by decide +kernel
theorem dX7_init_46 : decode cX7_init 46 = .ok (.bipush 8, 2) := by decide +kernel
theorem dX7_init_48 : decode cX7_init 48 = .ok (.newarray .int, 2) := by decide +kernel
theorem dX7_init_50 : decode cX7_init 50 = .ok (.putfield 27, 3) := by decide +kernel
theorem dX7_init_53 : decode cX7_init 53 = .ok (.aload_n 0, 1) := by decide +kernel
theorem dX7_init_54 : decode cX7_init 54 = .ok (.bipush 8, 2) := by decide +kernel
theorem dX7_init_56 : decode cX7_init 56 = .ok (.newarray .long, 2) := by decide +kernel
theorem dX7_init_58 : decode cX7_init 58 = .ok (.putfield 30, 3) := by decide +kernel
theorem dX7_init_61 : decode cX7_init 61 = .ok (.aload_n 0, 1) := by decide +kernel
theorem dX7_init_62 : decode cX7_init 62 = .ok (.bipush 8, 2) := by decide +kernel
theorem dX7_init_64 : decode cX7_init 64 = .ok (.newarray .int, 2) := by decide +kernel
theorem dX7_init_66 : decode cX7_init 66 = .ok (.putfield 33, 3) := by decide +kernel
theorem dX7_init_69 : decode cX7_init 69 = .ok (.aload_n 0, 1) := by decide +kernel
theorem dX7_init_70 : decode cX7_init 70 = .ok (.bipush 8, 2) := by decide +kernel
theorem dX7_init_72 : decode cX7_init 72 = .ok (.newarray .int, 2) := by decide +kernel
theorem dX7_init_74 : decode cX7_init 74 = .ok (.putfield 36, 3) := by decide +kernel
theorem dX7_init_77 : decode cX7_init 77 = .ok (.aload_n 0, 1) := by decide +kernel
theorem dX7_init_78 : decode cX7_init 78 = .ok (.bipush 8, 2) := by decide +kernel
theorem dX7_init_80 : decode cX7_init 80 = .ok (.newarray .int, 2) := by decide +kernel
theorem dX7_init_82 : decode cX7_init 82 = .ok (.putfield 39, 3) := by decide +kernel
theorem dX7_init_85 : decode cX7_init 85 = .ok (.aload_n 0, 1) := by decide +kernel
theorem dX7_init_86 : decode cX7_init 86 = .ok (.bipush 96, 2) := by decide +kernel
theorem dX7_init_88 : decode cX7_init 88 = .ok (.newarray .int, 2) := by decide +kernel
theorem dX7_init_90 : decode cX7_init 90 = .ok (.putfield 42, 3) := by decide +kernel
theorem dX7_init_93 : decode cX7_init 93 = .ok (.aload_n 0, 1) := by decide +kernel
theorem dX7_init_94 : decode cX7_init 94 = .ok (.bipush 96, 2) := by decide +kernel
theorem dX7_init_96 : decode cX7_init 96 = .ok (.newarray .long, 2) := by decide +kernel
theorem dX7_init_98 : decode cX7_init 98 = .ok (.putfield 45, 3) := by decide +kernel
theorem dX7_init_101 : decode cX7_init 101 = .ok (.aload_n 0, 1) := by decide +kernel
theorem dX7_init_102 : decode cX7_init 102 = .ok (.bipush 96, 2) := by decide +kernel
theorem dX7_init_104 : decode cX7_init 104 = .ok (.newarray .boolean, 2) := by decide +kernel
theorem dX7_init_106 : decode cX7_init 106 = .ok (.putfield 48, 3) := by decide +kernel
theorem dX7_init_109 : decode cX7_init 109 = .ok (.aload_n 0, 1) := by decide +kernel
theorem dX7_init_110 : decode cX7_init 110 = .ok (.bipush 8, 2) := by decide +kernel
theorem dX7_init_112 : decode cX7_init 112 = .ok (.newarray .int, 2) := by decide +kernel
theorem dX7_init_114 : decode cX7_init 114 = .ok (.putfield 51, 3) := by decide +kernel
theorem dX7_init_117 : decode cX7_init 117 = .ok (.aload_n 0, 1) := by decide +kernel
theorem dX7_init_118 : decode cX7_init 118 = .ok (.bipush 8, 2) := by decide +kernel
theorem dX7_init_120 : decode cX7_init 120 = .ok (.newarray .int, 2) := by decide +kernel
theorem dX7_init_122 : decode cX7_init 122 = .ok (.putfield 54, 3) := by decide +kernel
theorem dX7_init_125 : decode cX7_init 125 = .ok (.aload_n 0, 1) := by decide +kernel
theorem dX7_init_126 : decode cX7_init 126 = .ok (.bipush 8, 2) := by decide +kernel
theorem dX7_init_128 : decode cX7_init 128 = .ok (.newarray .int, 2) := by decide +kernel
theorem dX7_init_130 : decode cX7_init 130 = .ok (.putfield 57, 3) := by decide +kernel
theorem dX7_init_133 : decode cX7_init 133 = .ok (.aload_n 0, 1) := by decide +kernel
theorem dX7_init_134 : decode cX7_init 134 = .ok (.sipush 808, 3) := by decide +kernel
theorem dX7_init_137 : decode cX7_init 137 = .ok (.newarray .boolean, 2) := by decide +kernel
theorem dX7_init_139 : decode cX7_init 139 = .ok (.putfield 60, 3) := by decide +kernel
theorem dX7_init_142 : decode cX7_init 142 = .ok (.aload_n 0, 1) := by decide +kernel
theorem dX7_init_143 : decode cX7_init 143 = .ok (.sipush 808, 3) := by decide +kernel
theorem dX7_init_146 : decode cX7_init 146 = .ok (.newarray .int, 2) := by decide +kernel
theorem dX7_init_148 : decode cX7_init 148 = .ok (.putfield 63, 3) := by decide +kernel
theorem dX7_init_151 : decode cX7_init 151 = .ok (.aload_n 0, 1) := by decide +kernel
theorem dX7_init_152 : decode cX7_init 152 = .ok (.sipush 808, 3) := by decide +kernel
theorem dX7_init_155 : decode cX7_init 155 = .ok (.newarray .long, 2) := by decide +kernel
theorem dX7_init_157 : decode cX7_init 157 = .ok (.putfield 66, 3) := by decide +kernel
theorem dX7_init_160 : decode cX7_init 160 = .ok (.aload_n 0, 1) := by decide +kernel
theorem dX7_init_161 : decode cX7_init 161 = .ok (.bipush 8, 2) := by decide +kernel
theorem dX7_init_163 : decode cX7_init 163 = .ok (.newarray .int, 2) := by decide +kernel
theorem dX7_init_165 : decode cX7_init 165 = .ok (.putfield 69, 3) := by decide +kernel
theorem dX7_init_168 : decode cX7_init 168 = .ok (.aload_n 0, 1) := by decide +kernel
theorem dX7_init_169 : decode cX7_init 169 = .ok (.sipush 4800, 3) := by decide +kernel
theorem dX7_init_172 : decode cX7_init 172 = .ok (.newarray .long, 2) := by decide +kernel
theorem dX7_init_174 : decode cX7_init 174 = .ok (.putfield 72, 3) := by decide +kernel
theorem dX7_init_177 : decode cX7_init 177 = .ok (.aload_n 0, 1) := by decide +kernel
theorem dX7_init_178 : decode cX7_init 178 = .ok (.bipush 16, 2) := by decide +kernel
theorem dX7_init_180 : decode cX7_init 180 = .ok (.newarray .int, 2) := by decide +kernel
theorem dX7_init_182 : decode cX7_init 182 = .ok (.putfield 75, 3) := by decide +kernel
theorem dX7_init_185 : decode cX7_init 185 = .ok (.aload_n 0, 1) := by decide +kernel
theorem dX7_init_186 : decode cX7_init 186 = .ok (.bipush 16, 2) := by decide +kernel
theorem dX7_init_188 : decode cX7_init 188 = .ok (.newarray .int, 2) := by decide +kernel
theorem dX7_init_190 : decode cX7_init 190 = .ok (.putfield 78, 3) := by decide +kernel
theorem dX7_init_193 : decode cX7_init 193 = .ok (.aload_n 0, 1) := by decide +kernel
theorem dX7_init_194 : decode cX7_init 194 = .ok (.bipush 16, 2) := by decide +kernel
theorem dX7_init_196 : decode cX7_init 196 = .ok (.newarray .boolean, 2) := by decide +kernel
theorem dX7_init_198 : decode cX7_init 198 = .ok (.putfield 81, 3) := by decide +kernel
theorem dX7_init_201 : decode cX7_init 201 = .ok (.aload_n 0, 1) := by decide +kernel
theorem dX7_init_202 : decode cX7_init 202 = .ok (.bipush 16, 2) := by decide +kernel
theorem dX7_init_204 : decode cX7_init 204 = .ok (.newarray .int, 2) := by decide +kernel
theorem dX7_init_206 : decode cX7_init 206 = .ok (.putfield 84, 3) := by decide +kernel
theorem dX7_init_209 : decode cX7_init 209 = .ok (.aload_n 0, 1) := by decide +kernel
theorem dX7_init_210 : decode cX7_init 210 = .ok (.bipush 16, 2) := by decide +kernel
theorem dX7_init_212 : decode cX7_init 212 = .ok (.newarray .int, 2) := by decide +kernel
theorem dX7_init_214 : decode cX7_init 214 = .ok (.putfield 87, 3) := by decide +kernel
theorem dX7_init_217 : decode cX7_init 217 = .ok (.aload_n 0, 1) := by decide +kernel
theorem dX7_init_218 : decode cX7_init 218 = .ok (.sipush 1616, 3) := by decide +kernel
theorem dX7_init_221 : decode cX7_init 221 = .ok (.newarray .int, 2) := by decide +kernel
theorem dX7_init_223 : decode cX7_init 223 = .ok (.putfield 90, 3) := by decide +kernel
theorem dX7_init_226 : decode cX7_init 226 = .ok (.aload_n 0, 1) := by decide +kernel
theorem dX7_init_227 : decode cX7_init 227 = .ok (.sipush 1616, 3) := by decide +kernel
theorem dX7_init_230 : decode cX7_init 230 = .ok (.newarray .int, 2) := by decide +kernel
theorem dX7_init_232 : decode cX7_init 232 = .ok (.putfield 93, 3) := by decide +kernel
theorem dX7_init_235 : decode cX7_init 235 = .ok (.aload_n 0, 1) := by decide +kernel
theorem dX7_init_236 : decode cX7_init 236 = .ok (.sipush 1616, 3) := by decide +kernel
theorem dX7_init_239 : decode cX7_init 239 = .ok (.newarray .long, 2) := by decide +kernel
theorem dX7_init_241 : decode cX7_init 241 = .ok (.putfield 96, 3) := by decide +kernel
theorem dX7_init_244 : decode cX7_init 244 = .ok (.aload_n 0, 1) := by decide +kernel
theorem dX7_init_245 : decode cX7_init 245 = .ok (.sipush 1616, 3) := by decide +kernel
theorem dX7_init_248 : decode cX7_init 248 = .ok (.newarray .boolean, 2) := by decide +kernel
theorem dX7_init_250 : decode cX7_init 250 = .ok (.putfield 99, 3) := by decide +kernel
theorem dX7_init_253 : decode cX7_init 253 = .ok (.aload_n 0, 1) := by decide +kernel
theorem dX7_init_254 : decode cX7_init 254 = .ok (.sipush 1616, 3) := by decide +kernel
theorem dX7_init_257 : decode cX7_init 257 = .ok (.newarray .int, 2) := by decide +kernel
theorem dX7_init_259 : decode cX7_init 259 = .ok (.putfield 102, 3) := by decide +kernel
theorem dX7_init_262 : decode cX7_init 262 = .ok (.aload_n 0, 1) := by decide +kernel
theorem dX7_init_263 : decode cX7_init 263 = .ok (.sipush 1616, 3) := by decide +kernel
theorem dX7_init_266 : decode cX7_init 266 = .ok (.newarray .boolean, 2) := by decide +kernel
theorem dX7_init_268 : decode cX7_init 268 = .ok (.putfield 105, 3) := by decide +kernel
theorem dX7_init_271 : decode cX7_init 271 = .ok (.aload_n 0, 1) := by decide +kernel
theorem dX7_init_272 : decode cX7_init 272 = .ok (.sipush 128, 3) := by decide +kernel
theorem dX7_init_275 : decode cX7_init 275 = .ok (.newarray .int, 2) := by decide +kernel
theorem dX7_init_277 : decode cX7_init 277 = .ok (.putfield 108, 3) := by decide +kernel
theorem dX7_init_280 : decode cX7_init 280 = .ok (.aload_n 0, 1) := by decide +kernel
theorem dX7_init_281 : decode cX7_init 281 = .ok (.iload_n 1, 1) := by decide +kernel
theorem dX7_init_282 : decode cX7_init 282 = .ok (.iconst 2, 1) := by decide +kernel
theorem dX7_init_283 : decode cX7_init 283 = .ok (.if_icmp .ge 7, 3) := by decide +kernel
theorem dX7_init_286 : decode cX7_init 286 = .ok (.iconst 2, 1) := by decide +kernel
theorem dX7_init_287 : decode cX7_init 287 = .ok (.goto 15, 3) := by decide +kernel
theorem dX7_init_290 : decode cX7_init 290 = .ok (.iload_n 1, 1) := by decide +kernel
theorem dX7_init_291 : decode cX7_init 291 = .ok (.bipush 8, 2) := by decide +kernel
theorem dX7_init_293 : decode cX7_init 293 = .ok (.if_icmp .le 8, 3) := by decide +kernel
theorem dX7_init_296 : decode cX7_init 296 = .ok (.bipush 8, 2) := by decide +kernel
theorem dX7_init_298 : decode cX7_init 298 = .ok (.goto 4, 3) := by decide +kernel
theorem dX7_init_301 : decode cX7_init 301 = .ok (.iload_n 1, 1) := by decide +kernel
theorem dX7_init_302 : decode cX7_init 302 = .ok (.putfield 111, 3) := by decide +kernel
theorem dX7_init_305 : decode cX7_init 305 = .ok (.aload_n 0, 1) := by decide +kernel
theorem dX7_init_306 : decode cX7_init 306 = .ok (.iload_n 2, 1) := by decide +kernel
theorem dX7_init_307 : decode cX7_init 307 = .ok (.iconst 1, 1) := by decide +kernel
theorem dX7_init_308 : decode cX7_init 308 = .ok (.if_icmp .ge 7, 3) := by decide +kernel
theorem dX7_init_311 : decode cX7_init 311 = .ok (.iconst 1, 1) := by decide +kernel
theorem dX7_init_312 : decode cX7_init 312 = .ok (.goto 15, 3) := by decide +kernel
theorem dX7_init_315 : decode cX7_init 315 = .ok (.iload_n 2, 1) := by decide +kernel
theorem dX7_init_316 : decode cX7_init 316 = .ok (.bipush 8, 2) := by decide +kernel
theorem dX7_init_318 : decode cX7_init 318 = .ok (.if_icmp .le 8, 3) := by decide +kernel
theorem dX7_init_321 : decode cX7_init 321 = .ok (.bipush 8, 2) := by decide +kernel
theorem dX7_init_323 : decode cX7_init 323 = .ok (.goto 4, 3) := by decide +kernel
theorem dX7_init_326 : decode cX7_init 326 = .ok (.iload_n 2, 1) := by decide +kernel
theorem dX7_init_327 : decode cX7_init 327 = .ok (.putfield 115, 3) := by decide +kernel
theorem dX7_init_330 : decode cX7_init 330 = .ok (.iconst 0, 1) := by decide +kernel
theorem dX7_init_331 : decode cX7_init 331 = .ok (.istore_n 3, 1) := by decide +kernel
theorem dX7_init_332 : decode cX7_init 332 = .ok (.iload_n 3, 1) := by decide +kernel
theorem dX7_init_333 : decode cX7_init 333 = .ok (.bipush 8, 2) := by decide +kernel
theorem dX7_init_335 : decode cX7_init 335 = .ok (.if_icmp .ge 49, 3) := by decide +kernel
theorem dX7_init_338 : decode cX7_init 338 = .ok (.aload_n 0, 1) := by decide +kernel
theorem dX7_init_339 : decode cX7_init 339 = .ok (.getfield 7, 3) := by decide +kernel
theorem dX7_init_342 : decode cX7_init 342 = .ok (.iload_n 3, 1) := by decide +kernel
theorem dX7_init_343 : decode cX7_init 343 = .ok (.iload_n 3, 1) := by decide +kernel
theorem dX7_init_344 : decode cX7_init 344 = .ok (.aload_n 0, 1) := by decide +kernel
theorem dX7_init_345 : decode cX7_init 345 = .ok (.getfield 111, 3) := by decide +kernel
theorem dX7_init_348 : decode cX7_init 348 = .ok (.if_icmp .ge 7, 3) := by decide +kernel
theorem dX7_init_351 : decode cX7_init 351 = .ok (.iconst 1, 1) := by decide +kernel
theorem dX7_init_352 : decode cX7_init 352 = .ok (.goto 4, 3) := by decide +kernel
theorem dX7_init_355 : decode cX7_init 355 = .ok (.iconst 0, 1) := by decide +kernel
theorem dX7_init_356 : decode cX7_init 356 = .ok (.bastore, 1) := by decide +kernel
theorem dX7_init_357 : decode cX7_init 357 = .ok (.aload_n 0, 1) := by decide +kernel
theorem dX7_init_358 : decode cX7_init 358 = .ok (.getfield 17, 3) := by decide +kernel
theorem dX7_init_361 : decode cX7_init 361 = .ok (.iload_n 3, 1) := by decide +kernel
theorem dX7_init_362 : decode cX7_init 362 = .ok (.iconst (-1), 1) := by decide +kernel
theorem dX7_init_363 : decode cX7_init 363 = .ok (.iastore, 1) := by decide +kernel
theorem dX7_init_364 : decode cX7_init 364 = .ok (.aload_n 0, 1) := by decide +kernel
theorem dX7_init_365 : decode cX7_init 365 = .ok (.getfield 36, 3) := by decide +kernel
theorem dX7_init_368 : decode cX7_init 368 = .ok (.iload_n 3, 1) := by decide +kernel
theorem dX7_init_369 : decode cX7_init 369 = .ok (.iconst 1, 1) := by decide +kernel
theorem dX7_init_370 : decode cX7_init 370 = .ok (.aload_n 0, 1) := by decide +kernel
theorem dX7_init_371 : decode cX7_init 371 = .ok (.getfield 111, 3) := by decide +kernel
theorem dX7_init_374 : decode cX7_init 374 = .ok (.ishl, 1) := by decide +kernel
theorem dX7_init_375 : decode cX7_init 375 = .ok (.iconst 1, 1) := by decide +kernel
theorem dX7_init_376 : decode cX7_init 376 = .ok (.isub, 1) := by decide +kernel
theorem dX7_init_377 : decode cX7_init 377 = .ok (.iastore, 1) := by decide +kernel
theorem dX7_init_378 : decode cX7_init 378 = .ok (.iinc 3 1, 3) := by decide +kernel
theorem dX7_init_381 : decode cX7_init 381 = .ok (.goto (-49), 3) := by decide +kernel
theorem dX7_init_384 : decode cX7_init 384 = .ok (.return_, 1) := by decide +kernel
theorem dX7_thrown_0 : decode cX7_thrown 0 = .ok (.aload_n 0, 1) := by decide +kernel
theorem dX7_thrown_1 : decode cX7_thrown 1 = .ok (.getfield 118, 3) := by decide +kernel
theorem dX7_thrown_4 : decode cX7_thrown 4 = .ok (.ireturn, 1) := by decide +kernel
theorem dX7_noNode_0 : decode cX7_noNode 0 = .ok (.iload_n 1, 1) := by decide +kernel
theorem dX7_noNode_1 : decode cX7_noNode 1 = .ok (.ifCond .lt 11, 3) := by decide +kernel
theorem dX7_noNode_4 : decode cX7_noNode 4 = .ok (.iload_n 1, 1) := by decide +kernel
theorem dX7_noNode_5 : decode cX7_noNode 5 = .ok (.aload_n 0, 1) := by decide +kernel
theorem dX7_noNode_6 : decode cX7_noNode 6 = .ok (.getfield 111, 3) := by decide +kernel
theorem dX7_noNode_9 : decode cX7_noNode 9 = .ok (.if_icmp .lt 7, 3) := by decide +kernel
theorem dX7_noNode_12 : decode cX7_noNode 12 = .ok (.iconst 1, 1) := by decide +kernel
theorem dX7_noNode_13 : decode cX7_noNode 13 = .ok (.goto 4, 3) := by decide +kernel
theorem dX7_noNode_16 : decode cX7_noNode 16 = .ok (.iconst 0, 1) := by decide +kernel
theorem dX7_noNode_17 : decode cX7_noNode 17 = .ok (.ireturn, 1) := by decide +kernel
theorem dX7_isIn_0 : decode cX7_isIn 0 = .ok (.iload_n 0, 1) := by decide +kernel
theorem dX7_isIn_1 : decode cX7_isIn 1 = .ok (.iload_n 1, 1) := by decide +kernel
theorem dX7_isIn_2 : decode cX7_isIn 2 = .ok (.ishr, 1) := by decide +kernel
theorem dX7_isIn_3 : decode cX7_isIn 3 = .ok (.iconst 1, 1) := by decide +kernel
theorem dX7_isIn_4 : decode cX7_isIn 4 = .ok (.iand, 1) := by decide +kernel
theorem dX7_isIn_5 : decode cX7_isIn 5 = .ok (.iconst 1, 1) := by decide +kernel
theorem dX7_isIn_6 : decode cX7_isIn 6 = .ok (.if_icmp .ne 7, 3) := by decide +kernel
theorem dX7_isIn_9 : decode cX7_isIn 9 = .ok (.iconst 1, 1) := by decide +kernel
theorem dX7_isIn_10 : decode cX7_isIn 10 = .ok (.goto 4, 3) := by decide +kernel
theorem dX7_isIn_13 : decode cX7_isIn 13 = .ok (.iconst 0, 1) := by decide +kernel
theorem dX7_isIn_14 : decode cX7_isIn 14 = .ok (.ireturn, 1) := by decide +kernel
theorem dX7_place_0 : decode cX7_place 0 = .ok (.bipush 101, 2) := by decide +kernel
theorem dX7_place_2 : decode cX7_place 2 = .ok (.iload_n 0, 1) := by decide +kernel
theorem dX7_place_3 : decode cX7_place 3 = .ok (.imul, 1) := by decide +kernel
theorem dX7_place_4 : decode cX7_place 4 = .ok (.iload_n 1, 1) := by decide +kernel
theorem dX7_place_5 : decode cX7_place 5 = .ok (.iadd, 1) := by decide +kernel
theorem dX7_place_6 : decode cX7_place 6 = .ok (.ireturn, 1) := by decide +kernel
set_option maxRecDepth 20000 in
theorem ggX7_hasPlace_X7_place : GoodIn wsX7_hasPlace wsX7_place := goodIn_r _ [6] (by decide +kernel) (by decide +kernel)
set_option maxRecDepth 20000 in
theorem gX7_hasPlace_X7_place : GoodIn wsX7_hasPlace (va_wsS RX7 121 yX7_place wsX7_place) := goodIn_app (goodIn_of _ (by decide +kernel)) ggX7_hasPlace_X7_place
set_option maxRecDepth 20000 in
theorem ggX7_hasPlace_X7_isIn : GoodIn wsX7_hasPlace wsX7_isIn := goodIn_r _ [9] (by decide +kernel) (by decide +kernel)
set_option maxRecDepth 20000 in
theorem gX7_hasPlace_X7_isIn : GoodIn wsX7_hasPlace (va_wsS RX7 125 yX7_isIn wsX7_isIn) := goodIn_app (goodIn_of _ (by decide +kernel)) ggX7_hasPlace_X7_isIn
theorem dX7_hasPlace_0 : decode cX7_hasPlace 0 = .ok (.aload_n 0, 1) := by decide +kernel
theorem dX7_hasPlace_1 : decode cX7_hasPlace 1 = .ok (.getfield 102, 3) := by decide +kernel
theorem dX7_hasPlace_4 : decode cX7_hasPlace 4 = .ok (.aload_n 0, 1) := by decide +kernel
theorem dX7_hasPlace_5 : decode cX7_hasPlace 5 = .ok (.getfield 17, 3) := by decide +kernel
theorem dX7_hasPlace_8 : decode cX7_hasPlace 8 = .ok (.iload_n 1, 1) := by decide +kernel
theorem dX7_hasPlace_9 : decode cX7_hasPlace 9 = .ok (.iaload, 1) := by decide +kernel
theorem dX7_hasPlace_10 : decode cX7_hasPlace 10 = .ok (.iload_n 2, 1) := by decide +kernel
theorem dX7_hasPlace_11 : decode cX7_hasPlace 11 = .ok (.invokestatic 121, 3) := by decide +kernel
theorem dX7_hasPlace_14 : decode cX7_hasPlace 14 = .ok (.iaload, 1) := by decide +kernel
theorem dX7_hasPlace_15 : decode cX7_hasPlace 15 = .ok (.iload_n 1, 1) := by decide +kernel
theorem dX7_hasPlace_16 : decode cX7_hasPlace 16 = .ok (.invokestatic 125, 3) := by decide +kernel
theorem dX7_hasPlace_19 : decode cX7_hasPlace 19 = .ok (.ireturn, 1) := by decide +kernel
set_option maxRecDepth 20000 in
theorem ggX7_full_X7_hasPlace : GoodIn wsX7_full wsX7_hasPlace := goodIn_r _ [7, 8, 2, 9, 10, 6, 11, 12, 13, 14, 15, 16, 17, 18, 19, 20, 21, 22, 23, 24, 25, 26, 27, 28, 29, 30, 31, 32, 33, 34, 35, 36, 37, 38, 39, 40, 41, 42, 43, 44, 45, 46, 47, 48, 49, 50] (by decide +kernel) (by decide +kernel)
set_option maxRecDepth 20000 in
theorem gX7_full_X7_hasPlace : GoodIn wsX7_full (wsV RX7 129 RX7 yX7_hasPlace wsX7_hasPlace) := goodIn_app (goodIn_of _ (by decide +kernel)) ggX7_full_X7_hasPlace
theorem dX7_full_0 : decode cX7_full 0 = .ok (.iconst 0, 1) := by decide +kernel
theorem dX7_full_1 : decode cX7_full 1 = .ok (.istore_n 2, 1) := by decide +kernel
theorem dX7_full_2 : decode cX7_full 2 = .ok (.iload_n 2, 1) := by decide +kernel
theorem dX7_full_3 : decode cX7_full 3 = .ok (.aload_n 0, 1) := by decide +kernel
theorem dX7_full_4 : decode cX7_full 4 = .ok (.getfield 87, 3) := by decide +kernel
theorem dX7_full_7 : decode cX7_full 7 = .ok (.aload_n 0, 1) := by decide +kernel
theorem dX7_full_8 : decode cX7_full 8 = .ok (.getfield 17, 3) := by decide +kernel
theorem dX7_full_11 : decode cX7_full 11 = .ok (.iload_n 1, 1) := by decide +kernel
theorem dX7_full_12 : decode cX7_full 12 = .ok (.iaload, 1) := by decide +kernel
theorem dX7_full_13 : decode cX7_full 13 = .ok (.iaload, 1) := by decide +kernel
theorem dX7_full_14 : decode cX7_full 14 = .ok (.if_icmp .ge 20, 3) := by decide +kernel
theorem dX7_full_17 : decode cX7_full 17 = .ok (.aload_n 0, 1) := by decide +kernel
theorem dX7_full_18 : decode cX7_full 18 = .ok (.iload_n 1, 1) := by decide +kernel
theorem dX7_full_19 : decode cX7_full 19 = .ok (.iload_n 2, 1) := by decide +kernel
theorem dX7_full_20 : decode cX7_full 20 = .ok (.iconst 1, 1) := by decide +kernel
theorem dX7_full_21 : decode cX7_full 21 = .ok (.iadd, 1) := by decide +kernel
theorem dX7_full_22 : decode cX7_full 22 = .ok (.invokevirtual 129, 3) := by decide +kernel
theorem dX7_full_25 : decode cX7_full 25 = .ok (.ifCond .eq 9, 3) := by decide +kernel
theorem dX7_full_28 : decode cX7_full 28 = .ok (.iinc 2 1, 3) := by decide +kernel
theorem dX7_full_31 : decode cX7_full 31 = .ok (.goto (-29), 3) := by decide +kernel
theorem dX7_full_34 : decode cX7_full 34 = .ok (.iload_n 2, 1) := by decide +kernel
theorem dX7_full_35 : decode cX7_full 35 = .ok (.ireturn, 1) := by decide +kernel
theorem dX7_holds_0 : decode cX7_holds 0 = .ok (.aload_n 0, 1) := by decide +kernel
theorem dX7_holds_1 : decode cX7_holds 1 = .ok (.getfield 7, 3) := by decide +kernel
theorem dX7_holds_4 : decode cX7_holds 4 = .ok (.iload_n 1, 1) := by decide +kernel
theorem dX7_holds_5 : decode cX7_holds 5 = .ok (.baload, 1) := by decide +kernel
theorem dX7_holds_6 : decode cX7_holds 6 = .ok (.ifCond .eq 46, 3) := by decide +kernel
theorem dX7_holds_9 : decode cX7_holds 9 = .ok (.aload_n 0, 1) := by decide +kernel
theorem dX7_holds_10 : decode cX7_holds 10 = .ok (.getfield 17, 3) := by decide +kernel
theorem dX7_holds_13 : decode cX7_holds 13 = .ok (.iload_n 1, 1) := by decide +kernel
theorem dX7_holds_14 : decode cX7_holds 14 = .ok (.iaload, 1) := by decide +kernel
theorem dX7_holds_15 : decode cX7_holds 15 = .ok (.iconst (-1), 1) := by decide +kernel
theorem dX7_holds_16 : decode cX7_holds 16 = .ok (.if_icmp .eq 36, 3) := by decide +kernel
theorem dX7_holds_19 : decode cX7_holds 19 = .ok (.aload_n 0, 1) := by decide +kernel
theorem dX7_holds_20 : decode cX7_holds 20 = .ok (.getfield 81, 3) := by decide +kernel
theorem dX7_holds_23 : decode cX7_holds 23 = .ok (.aload_n 0, 1) := by decide +kernel
theorem dX7_holds_24 : decode cX7_holds 24 = .ok (.getfield 17, 3) := by decide +kernel
theorem dX7_holds_27 : decode cX7_holds 27 = .ok (.iload_n 1, 1) := by decide +kernel
theorem dX7_holds_28 : decode cX7_holds 28 = .ok (.iaload, 1) := by decide +kernel
theorem dX7_holds_29 : decode cX7_holds 29 = .ok (.baload, 1) := by decide +kernel
theorem dX7_holds_30 : decode cX7_holds 30 = .ok (.ifCond .ne 22, 3) := by decide +kernel
theorem dX7_holds_33 : decode cX7_holds 33 = .ok (.aload_n 0, 1) := by decide +kernel
theorem dX7_holds_34 : decode cX7_holds 34 = .ok (.getfield 84, 3) := by decide +kernel
theorem dX7_holds_37 : decode cX7_holds 37 = .ok (.aload_n 0, 1) := by decide +kernel
theorem dX7_holds_38 : decode cX7_holds 38 = .ok (.getfield 17, 3) := by decide +kernel
theorem dX7_holds_41 : decode cX7_holds 41 = .ok (.iload_n 1, 1) := by decide +kernel
theorem dX7_holds_42 : decode cX7_holds 42 = .ok (.iaload, 1) := by decide +kernel
theorem dX7_holds_43 : decode cX7_holds 43 = .ok (.iaload, 1) := by decide +kernel
theorem dX7_holds_44 : decode cX7_holds 44 = .ok (.iload_n 1, 1) := by decide +kernel
theorem dX7_holds_45 : decode cX7_holds 45 = .ok (.if_icmp .ne 7, 3) := by decide +kernel
theorem dX7_holds_48 : decode cX7_holds 48 = .ok (.iconst 1, 1) := by decide +kernel
theorem dX7_holds_49 : decode cX7_holds 49 = .ok (.goto 4, 3) := by decide +kernel
theorem dX7_holds_52 : decode cX7_holds 52 = .ok (.iconst 0, 1) := by decide +kernel
theorem dX7_holds_53 : decode cX7_holds 53 = .ok (.ireturn, 1) := by decide +kernel
theorem dX7_tell_0 : decode cX7_tell 0 = .ok (.bipush 6, 2) := by decide +kernel
theorem dX7_tell_2 : decode cX7_tell 2 = .ok (.bipush 100, 2) := by decide +kernel
theorem dX7_tell_4 : decode cX7_tell 4 = .ok (.iload_n 1, 1) := by decide +kernel
theorem dX7_tell_5 : decode cX7_tell 5 = .ok (.imul, 1) := by decide +kernel
theorem dX7_tell_6 : decode cX7_tell 6 = .ok (.aload_n 0, 1) := by decide +kernel
theorem dX7_tell_7 : decode cX7_tell 7 = .ok (.getfield 57, 3) := by decide +kernel
theorem dX7_tell_10 : decode cX7_tell 10 = .ok (.iload_n 1, 1) := by decide +kernel
theorem dX7_tell_11 : decode cX7_tell 11 = .ok (.iaload, 1) := by decide +kernel
theorem dX7_tell_12 : decode cX7_tell 12 = .ok (.bipush 100, 2) := by decide +kernel
theorem dX7_tell_14 : decode cX7_tell 14 = .ok (.irem, 1) := by decide +kernel
theorem dX7_tell_15 : decode cX7_tell 15 = .ok (.iadd, 1) := by decide +kernel
theorem dX7_tell_16 : decode cX7_tell 16 = .ok (.imul, 1) := by decide +kernel
theorem dX7_tell_17 : decode cX7_tell 17 = .ok (.istore 14, 2) := by decide +kernel
theorem dX7_tell_19 : decode cX7_tell 19 = .ok (.aload_n 0, 1) := by decide +kernel
theorem dX7_tell_20 : decode cX7_tell 20 = .ok (.getfield 72, 3) := by decide +kernel
theorem dX7_tell_23 : decode cX7_tell 23 = .ok (.iload 14, 2) := by decide +kernel
theorem dX7_tell_25 : decode cX7_tell 25 = .ok (.lload_n 2, 1) := by decide +kernel
theorem dX7_tell_26 : decode cX7_tell 26 = .ok (.lastore, 1) := by decide +kernel
theorem dX7_tell_27 : decode cX7_tell 27 = .ok (.aload_n 0, 1) := by decide +kernel
theorem dX7_tell_28 : decode cX7_tell 28 = .ok (.getfield 72, 3) := by decide +kernel
theorem dX7_tell_31 : decode cX7_tell 31 = .ok (.iload 14, 2) := by decide +kernel
theorem dX7_tell_33 : decode cX7_tell 33 = .ok (.iconst 1, 1) := by decide +kernel
theorem dX7_tell_34 : decode cX7_tell 34 = .ok (.iadd, 1) := by decide +kernel
theorem dX7_tell_35 : decode cX7_tell 35 = .ok (.lload 4, 2) := by decide +kernel
theorem dX7_tell_37 : decode cX7_tell 37 = .ok (.lastore, 1) := by decide +kernel
theorem dX7_tell_38 : decode cX7_tell 38 = .ok (.aload_n 0, 1) := by decide +kernel
theorem dX7_tell_39 : decode cX7_tell 39 = .ok (.getfield 72, 3) := by decide +kernel
theorem dX7_tell_42 : decode cX7_tell 42 = .ok (.iload 14, 2) := by decide +kernel
theorem dX7_tell_44 : decode cX7_tell 44 = .ok (.iconst 2, 1) := by decide +kernel
theorem dX7_tell_45 : decode cX7_tell 45 = .ok (.iadd, 1) := by decide +kernel
theorem dX7_tell_46 : decode cX7_tell 46 = .ok (.lload 6, 2) := by decide +kernel
theorem dX7_tell_48 : decode cX7_tell 48 = .ok (.lastore, 1) := by decide +kernel
theorem dX7_tell_49 : decode cX7_tell 49 = .ok (.aload_n 0, 1) := by decide +kernel
theorem dX7_tell_50 : decode cX7_tell 50 = .ok (.getfield 72, 3) := by decide +kernel
theorem dX7_tell_53 : decode cX7_tell 53 = .ok (.iload 14, 2) := by decide +kernel
theorem dX7_tell_55 : decode cX7_tell 55 = .ok (.iconst 3, 1) := by decide +kernel
theorem dX7_tell_56 : decode cX7_tell 56 = .ok (.iadd, 1) := by decide +kernel
theorem dX7_tell_57 : decode cX7_tell 57 = .ok (.lload 8, 2) := by decide +kernel
theorem dX7_tell_59 : decode cX7_tell 59 = .ok (.lastore, 1) := by decide +kernel
theorem dX7_tell_60 : decode cX7_tell 60 = .ok (.aload_n 0, 1) := by decide +kernel
theorem dX7_tell_61 : decode cX7_tell 61 = .ok (.getfield 72, 3) := by decide +kernel
theorem dX7_tell_64 : decode cX7_tell 64 = .ok (.iload 14, 2) := by decide +kernel
theorem dX7_tell_66 : decode cX7_tell 66 = .ok (.iconst 4, 1) := by decide +kernel
theorem dX7_tell_67 : decode cX7_tell 67 = .ok (.iadd, 1) := by decide +kernel
theorem dX7_tell_68 : decode cX7_tell 68 = .ok (.lload 10, 2) := by decide +kernel
theorem dX7_tell_70 : decode cX7_tell 70 = .ok (.lastore, 1) := by decide +kernel
theorem dX7_tell_71 : decode cX7_tell 71 = .ok (.aload_n 0, 1) := by decide +kernel
theorem dX7_tell_72 : decode cX7_tell 72 = .ok (.getfield 72, 3) := by decide +kernel
theorem dX7_tell_75 : decode cX7_tell 75 = .ok (.iload 14, 2) := by decide +kernel
theorem dX7_tell_77 : decode cX7_tell 77 = .ok (.iconst 5, 1) := by decide +kernel
theorem dX7_tell_78 : decode cX7_tell 78 = .ok (.iadd, 1) := by decide +kernel
theorem dX7_tell_79 : decode cX7_tell 79 = .ok (.lload 12, 2) := by decide +kernel
theorem dX7_tell_81 : decode cX7_tell 81 = .ok (.lastore, 1) := by decide +kernel
theorem dX7_tell_82 : decode cX7_tell 82 = .ok (.aload_n 0, 1) := by decide +kernel
theorem dX7_tell_83 : decode cX7_tell 83 = .ok (.getfield 57, 3) := by decide +kernel
theorem dX7_tell_86 : decode cX7_tell 86 = .ok (.iload_n 1, 1) := by decide +kernel
theorem dX7_tell_87 : decode cX7_tell 87 = .ok (.dup2, 1) := by decide +kernel
theorem dX7_tell_88 : decode cX7_tell 88 = .ok (.iaload, 1) := by decide +kernel
theorem dX7_tell_89 : decode cX7_tell 89 = .ok (.iconst 1, 1) := by decide +kernel
theorem dX7_tell_90 : decode cX7_tell 90 = .ok (.iadd, 1) := by decide +kernel
theorem dX7_tell_91 : decode cX7_tell 91 = .ok (.iastore, 1) := by decide +kernel
theorem dX7_tell_92 : decode cX7_tell 92 = .ok (.return_, 1) := by decide +kernel
set_option maxRecDepth 20000 in
theorem ggX7_send_X7_noNode : GoodIn wsX7_send wsX7_noNode := goodIn_r _ [11, 12, 13, 14, 15, 16, 17, 18, 19, 20, 21, 22, 23, 24, 25, 26, 27, 28, 29, 30, 31, 32, 33, 34, 35, 36, 37, 38, 39, 40, 41, 42, 43, 44, 45, 46, 47, 48] (by decide +kernel) (by decide +kernel)
set_option maxRecDepth 20000 in
theorem gX7_send_X7_noNode : GoodIn wsX7_send (wsV RX7 132 RX7 yX7_noNode wsX7_noNode) := goodIn_app (goodIn_of _ (by decide +kernel)) ggX7_send_X7_noNode
theorem dX7_send_0 : decode cX7_send 0 = .ok (.aload_n 0, 1) := by decide +kernel
theorem dX7_send_1 : decode cX7_send 1 = .ok (.aload_n 0, 1) := by decide +kernel
theorem dX7_send_2 : decode cX7_send 2 = .ok (.iload_n 1, 1) := by decide +kernel
theorem dX7_send_3 : decode cX7_send 3 = .ok (.invokevirtual 132, 3) := by decide +kernel
theorem dX7_send_6 : decode cX7_send 6 = .ok (.ifCond .ne 13, 3) := by decide +kernel
theorem dX7_send_9 : decode cX7_send 9 = .ok (.iload_n 2, 1) := by decide +kernel
theorem dX7_send_10 : decode cX7_send 10 = .ok (.ifCond .lt 9, 3) := by decide +kernel
theorem dX7_send_13 : decode cX7_send 13 = .ok (.iload_n 2, 1) := by decide +kernel
theorem dX7_send_14 : decode cX7_send 14 = .ok (.bipush 16, 2) := by decide +kernel
theorem dX7_send_16 : decode cX7_send 16 = .ok (.if_icmp .lt 7, 3) := by decide +kernel
theorem dX7_send_19 : decode cX7_send 19 = .ok (.iconst 1, 1) := by decide +kernel
theorem dX7_send_20 : decode cX7_send 20 = .ok (.goto 28, 3) := by decide +kernel
theorem dX7_send_23 : decode cX7_send 23 = .ok (.aload_n 0, 1) := by decide +kernel
theorem dX7_send_24 : decode cX7_send 24 = .ok (.getfield 7, 3) := by decide +kernel
theorem dX7_send_27 : decode cX7_send 27 = .ok (.iload_n 1, 1) := by decide +kernel
theorem dX7_send_28 : decode cX7_send 28 = .ok (.baload, 1) := by decide +kernel
theorem dX7_send_29 : decode cX7_send 29 = .ok (.ifCond .eq 14, 3) := by decide +kernel
theorem dX7_send_32 : decode cX7_send 32 = .ok (.aload_n 0, 1) := by decide +kernel
theorem dX7_send_33 : decode cX7_send 33 = .ok (.getfield 39, 3) := by decide +kernel
theorem dX7_send_36 : decode cX7_send 36 = .ok (.iload_n 1, 1) := by decide +kernel
theorem dX7_send_37 : decode cX7_send 37 = .ok (.iaload, 1) := by decide +kernel
theorem dX7_send_38 : decode cX7_send 38 = .ok (.bipush 12, 2) := by decide +kernel
theorem dX7_send_40 : decode cX7_send 40 = .ok (.if_icmp .ne 7, 3) := by decide +kernel
theorem dX7_send_43 : decode cX7_send 43 = .ok (.iconst 2, 1) := by decide +kernel
theorem dX7_send_44 : decode cX7_send 44 = .ok (.goto 4, 3) := by decide +kernel
theorem dX7_send_47 : decode cX7_send 47 = .ok (.iconst 0, 1) := by decide +kernel
theorem dX7_send_48 : decode cX7_send 48 = .ok (.putfield 118, 3) := by decide +kernel
theorem dX7_send_51 : decode cX7_send 51 = .ok (.aload_n 0, 1) := by decide +kernel
theorem dX7_send_52 : decode cX7_send 52 = .ok (.getfield 118, 3) := by decide +kernel
theorem dX7_send_55 : decode cX7_send 55 = .ok (.ifCond .le 5, 3) := by decide +kernel
theorem dX7_send_58 : decode cX7_send 58 = .ok (.iconst 0, 1) := by decide +kernel
theorem dX7_send_59 : decode cX7_send 59 = .ok (.ireturn, 1) := by decide +kernel
theorem dX7_send_60 : decode cX7_send 60 = .ok (.bipush 12, 2) := by decide +kernel
theorem dX7_send_62 : decode cX7_send 62 = .ok (.iload_n 1, 1) := by decide +kernel
theorem dX7_send_63 : decode cX7_send 63 = .ok (.imul, 1) := by decide +kernel
theorem dX7_send_64 : decode cX7_send 64 = .ok (.aload_n 0, 1) := by decide +kernel
theorem dX7_send_65 : decode cX7_send 65 = .ok (.getfield 39, 3) := by decide +kernel
theorem dX7_send_68 : decode cX7_send 68 = .ok (.iload_n 1, 1) := by decide +kernel
theorem dX7_send_69 : decode cX7_send 69 = .ok (.iaload, 1) := by decide +kernel
theorem dX7_send_70 : decode cX7_send 70 = .ok (.iadd, 1) := by decide +kernel
theorem dX7_send_71 : decode cX7_send 71 = .ok (.istore 6, 2) := by decide +kernel
theorem dX7_send_73 : decode cX7_send 73 = .ok (.aload_n 0, 1) := by decide +kernel
theorem dX7_send_74 : decode cX7_send 74 = .ok (.getfield 42, 3) := by decide +kernel
theorem dX7_send_77 : decode cX7_send 77 = .ok (.iload 6, 2) := by decide +kernel
theorem dX7_send_79 : decode cX7_send 79 = .ok (.iload_n 2, 1) := by decide +kernel
theorem dX7_send_80 : decode cX7_send 80 = .ok (.iastore, 1) := by decide +kernel
theorem dX7_send_81 : decode cX7_send 81 = .ok (.aload_n 0, 1) := by decide +kernel
theorem dX7_send_82 : decode cX7_send 82 = .ok (.getfield 45, 3) := by decide +kernel
theorem dX7_send_85 : decode cX7_send 85 = .ok (.iload 6, 2) := by decide +kernel
theorem dX7_send_87 : decode cX7_send 87 = .ok (.lload_n 3, 1) := by decide +kernel
theorem dX7_send_88 : decode cX7_send 88 = .ok (.lastore, 1) := by decide +kernel
theorem dX7_send_89 : decode cX7_send 89 = .ok (.aload_n 0, 1) := by decide +kernel
theorem dX7_send_90 : decode cX7_send 90 = .ok (.getfield 48, 3) := by decide +kernel
theorem dX7_send_93 : decode cX7_send 93 = .ok (.iload 6, 2) := by decide +kernel
theorem dX7_send_95 : decode cX7_send 95 = .ok (.iload 5, 2) := by decide +kernel
theorem dX7_send_97 : decode cX7_send 97 = .ok (.bastore, 1) := by decide +kernel
theorem dX7_send_98 : decode cX7_send 98 = .ok (.aload_n 0, 1) := by decide +kernel
theorem dX7_send_99 : decode cX7_send 99 = .ok (.getfield 39, 3) := by decide +kernel
theorem dX7_send_102 : decode cX7_send 102 = .ok (.iload_n 1, 1) := by decide +kernel
theorem dX7_send_103 : decode cX7_send 103 = .ok (.dup2, 1) := by decide +kernel
theorem dX7_send_104 : decode cX7_send 104 = .ok (.iaload, 1) := by decide +kernel
theorem dX7_send_105 : decode cX7_send 105 = .ok (.iconst 1, 1) := by decide +kernel
theorem dX7_send_106 : decode cX7_send 106 = .ok (.iadd, 1) := by decide +kernel
theorem dX7_send_107 : decode cX7_send 107 = .ok (.iastore, 1) := by decide +kernel
theorem dX7_send_108 : decode cX7_send 108 = .ok (.aload_n 0, 1) := by decide +kernel
theorem dX7_send_109 : decode cX7_send 109 = .ok (.getfield 39, 3) := by decide +kernel
theorem dX7_send_112 : decode cX7_send 112 = .ok (.iload_n 1, 1) := by decide +kernel
theorem dX7_send_113 : decode cX7_send 113 = .ok (.iaload, 1) := by decide +kernel
theorem dX7_send_114 : decode cX7_send 114 = .ok (.ireturn, 1) := by decide +kernel
theorem dX7_apply_0 : decode cX7_apply 0 = .ok (.aload_n 0, 1) := by decide +kernel
theorem dX7_apply_1 : decode cX7_apply 1 = .ok (.getfield 23, 3) := by decide +kernel
theorem dX7_apply_4 : decode cX7_apply 4 = .ok (.bipush 16, 2) := by decide +kernel
theorem dX7_apply_6 : decode cX7_apply 6 = .ok (.iload_n 1, 1) := by decide +kernel
theorem dX7_apply_7 : decode cX7_apply 7 = .ok (.imul, 1) := by decide +kernel
theorem dX7_apply_8 : decode cX7_apply 8 = .ok (.iload_n 3, 1) := by decide +kernel
theorem dX7_apply_9 : decode cX7_apply 9 = .ok (.iadd, 1) := by decide +kernel
theorem dX7_apply_10 : decode cX7_apply 10 = .ok (.lload 4, 2) := by decide +kernel
theorem dX7_apply_12 : decode cX7_apply 12 = .ok (.lastore, 1) := by decide +kernel
theorem dX7_apply_13 : decode cX7_apply 13 = .ok (.aload_n 0, 1) := by decide +kernel
theorem dX7_apply_14 : decode cX7_apply 14 = .ok (.getfield 27, 3) := by decide +kernel
theorem dX7_apply_17 : decode cX7_apply 17 = .ok (.iload_n 1, 1) := by decide +kernel
theorem dX7_apply_18 : decode cX7_apply 18 = .ok (.dup2, 1) := by decide +kernel
theorem dX7_apply_19 : decode cX7_apply 19 = .ok (.iaload, 1) := by decide +kernel
theorem dX7_apply_20 : decode cX7_apply 20 = .ok (.iconst 1, 1) := by decide +kernel
theorem dX7_apply_21 : decode cX7_apply 21 = .ok (.iadd, 1) := by decide +kernel
theorem dX7_apply_22 : decode cX7_apply 22 = .ok (.iastore, 1) := by decide +kernel
theorem dX7_apply_23 : decode cX7_apply 23 = .ok (.aload_n 0, 1) := by decide +kernel
theorem dX7_apply_24 : decode cX7_apply 24 = .ok (.getfield 30, 3) := by decide +kernel
theorem dX7_apply_27 : decode cX7_apply 27 = .ok (.iload_n 1, 1) := by decide +kernel
theorem dX7_apply_28 : decode cX7_apply 28 = .ok (.aload_n 0, 1) := by decide +kernel
theorem dX7_apply_29 : decode cX7_apply 29 = .ok (.getfield 30, 3) := by decide +kernel
theorem dX7_apply_32 : decode cX7_apply 32 = .ok (.iload_n 1, 1) := by decide +kernel
theorem dX7_apply_33 : decode cX7_apply 33 = .ok (.laload, 1) := by decide +kernel
theorem dX7_apply_34 : decode cX7_apply 34 = .ok (.ldc2_w 136, 3) := by decide +kernel
theorem dX7_apply_37 : decode cX7_apply 37 = .ok (.lmul, 1) := by decide +kernel
theorem dX7_apply_38 : decode cX7_apply 38 = .ok (.iload_n 3, 1) := by decide +kernel
theorem dX7_apply_39 : decode cX7_apply 39 = .ok (.i2l, 1) := by decide +kernel
theorem dX7_apply_40 : decode cX7_apply 40 = .ok (.ldc2_w 138, 3) := by decide +kernel
theorem dX7_apply_43 : decode cX7_apply 43 = .ok (.lmul, 1) := by decide +kernel
theorem dX7_apply_44 : decode cX7_apply 44 = .ok (.ladd, 1) := by decide +kernel
theorem dX7_apply_45 : decode cX7_apply 45 = .ok (.lload 4, 2) := by decide +kernel
theorem dX7_apply_47 : decode cX7_apply 47 = .ok (.ladd, 1) := by decide +kernel
theorem dX7_apply_48 : decode cX7_apply 48 = .ok (.lastore, 1) := by decide +kernel
theorem dX7_apply_49 : decode cX7_apply 49 = .ok (.aload_n 0, 1) := by decide +kernel
theorem dX7_apply_50 : decode cX7_apply 50 = .ok (.getfield 69, 3) := by decide +kernel
theorem dX7_apply_53 : decode cX7_apply 53 = .ok (.iload_n 1, 1) := by decide +kernel
theorem dX7_apply_54 : decode cX7_apply 54 = .ok (.iload_n 2, 1) := by decide +kernel
theorem dX7_apply_55 : decode cX7_apply 55 = .ok (.iastore, 1) := by decide +kernel
theorem dX7_apply_56 : decode cX7_apply 56 = .ok (.return_, 1) := by decide +kernel
set_option maxRecDepth 20000 in
theorem ggX7_deliver_X7_place : GoodIn wsX7_deliver wsX7_place := goodIn_r _ [11] (by decide +kernel) (by decide +kernel)
set_option maxRecDepth 20000 in
theorem gX7_deliver_X7_place : GoodIn wsX7_deliver (va_wsS RX7 121 yX7_place wsX7_place) := goodIn_app (goodIn_of _ (by decide +kernel)) ggX7_deliver_X7_place
set_option maxRecDepth 20000 in
theorem ggX7_deliver_X7_tell : GoodIn wsX7_deliver wsX7_tell := goodIn_r _ [15, 16, 17, 28, 29, 30, 31, 32, 33, 34, 35, 36, 37, 38, 39, 40, 41, 42, 43, 44, 45, 46, 47, 48, 49, 50, 51, 52, 53, 54, 55, 56, 57, 58, 59, 60, 61, 62, 63] (by decide +kernel) (by decide +kernel)
set_option maxRecDepth 20000 in
theorem gX7_deliver_X7_tell : GoodIn wsX7_deliver (wsV RX7 140 RX7 yX7_tell wsX7_tell) := goodIn_app (goodIn_of _ (by decide +kernel)) ggX7_deliver_X7_tell
set_option maxRecDepth 20000 in
theorem ggX7_deliver_X7_apply : GoodIn wsX7_deliver wsX7_apply := goodIn_r _ [21, 22, 23, 24, 25, 26, 27, 28, 29, 30, 31, 32, 33, 34, 35, 36, 37, 38, 39, 40, 41, 42, 43, 44, 45, 46, 47, 48, 49, 50, 51, 52, 53, 54, 55, 56, 57, 58, 59, 60, 61, 62, 63] (by decide +kernel) (by decide +kernel)
set_option maxRecDepth 20000 in
theorem gX7_deliver_X7_apply : GoodIn wsX7_deliver (wsV RX7 144 RX7 yX7_apply wsX7_apply) := goodIn_app (goodIn_of _ (by decide +kernel)) ggX7_deliver_X7_apply
theorem dX7_deliver_0 : decode cX7_deliver 0 = .ok (.aload_n 0, 1) := by decide +kernel
theorem dX7_deliver_1 : decode cX7_deliver 1 = .ok (.getfield 17, 3) := by decide +kernel
theorem dX7_deliver_4 : decode cX7_deliver 4 = .ok (.iload_n 1, 1) := by decide +kernel
theorem dX7_deliver_5 : decode cX7_deliver 5 = .ok (.iaload, 1) := by decide +kernel
theorem dX7_deliver_6 : decode cX7_deliver 6 = .ok (.iload_n 2, 1) := by decide +kernel
theorem dX7_deliver_7 : decode cX7_deliver 7 = .ok (.invokestatic 121, 3) := by decide +kernel
theorem dX7_deliver_10 : decode cX7_deliver 10 = .ok (.istore 4, 2) := by decide +kernel
theorem dX7_deliver_12 : decode cX7_deliver 12 = .ok (.aload_n 0, 1) := by decide +kernel
theorem dX7_deliver_13 : decode cX7_deliver 13 = .ok (.iload_n 1, 1) := by decide +kernel
theorem dX7_deliver_14 : decode cX7_deliver 14 = .ok (.lconst 1, 1) := by decide +kernel
theorem dX7_deliver_15 : decode cX7_deliver 15 = .ok (.iload_n 2, 1) := by decide +kernel
theorem dX7_deliver_16 : decode cX7_deliver 16 = .ok (.i2l, 1) := by decide +kernel
theorem dX7_deliver_17 : decode cX7_deliver 17 = .ok (.aload_n 0, 1) := by decide +kernel
theorem dX7_deliver_18 : decode cX7_deliver 18 = .ok (.getfield 90, 3) := by decide +kernel
theorem dX7_deliver_21 : decode cX7_deliver 21 = .ok (.iload 4, 2) := by decide +kernel
theorem dX7_deliver_23 : decode cX7_deliver 23 = .ok (.iaload, 1) := by decide +kernel
theorem dX7_deliver_24 : decode cX7_deliver 24 = .ok (.i2l, 1) := by decide +kernel
theorem dX7_deliver_25 : decode cX7_deliver 25 = .ok (.aload_n 0, 1) := by decide +kernel
theorem dX7_deliver_26 : decode cX7_deliver 26 = .ok (.getfield 93, 3) := by decide +kernel
theorem dX7_deliver_29 : decode cX7_deliver 29 = .ok (.iload 4, 2) := by decide +kernel
theorem dX7_deliver_31 : decode cX7_deliver 31 = .ok (.iaload, 1) := by decide +kernel
theorem dX7_deliver_32 : decode cX7_deliver 32 = .ok (.i2l, 1) := by decide +kernel
theorem dX7_deliver_33 : decode cX7_deliver 33 = .ok (.aload_n 0, 1) := by decide +kernel
theorem dX7_deliver_34 : decode cX7_deliver 34 = .ok (.getfield 96, 3) := by decide +kernel
theorem dX7_deliver_37 : decode cX7_deliver 37 = .ok (.iload 4, 2) := by decide +kernel
theorem dX7_deliver_39 : decode cX7_deliver 39 = .ok (.laload, 1) := by decide +kernel
theorem dX7_deliver_40 : decode cX7_deliver 40 = .ok (.aload_n 0, 1) := by decide +kernel
theorem dX7_deliver_41 : decode cX7_deliver 41 = .ok (.getfield 75, 3) := by decide +kernel
theorem dX7_deliver_44 : decode cX7_deliver 44 = .ok (.aload_n 0, 1) := by decide +kernel
theorem dX7_deliver_45 : decode cX7_deliver 45 = .ok (.getfield 17, 3) := by decide +kernel
theorem dX7_deliver_48 : decode cX7_deliver 48 = .ok (.iload_n 1, 1) := by decide +kernel
theorem dX7_deliver_49 : decode cX7_deliver 49 = .ok (.iaload, 1) := by decide +kernel
theorem dX7_deliver_50 : decode cX7_deliver 50 = .ok (.iaload, 1) := by decide +kernel
theorem dX7_deliver_51 : decode cX7_deliver 51 = .ok (.i2l, 1) := by decide +kernel
theorem dX7_deliver_52 : decode cX7_deliver 52 = .ok (.invokevirtual 140, 3) := by decide +kernel
theorem dX7_deliver_55 : decode cX7_deliver 55 = .ok (.aload_n 0, 1) := by decide +kernel
theorem dX7_deliver_56 : decode cX7_deliver 56 = .ok (.getfield 99, 3) := by decide +kernel
theorem dX7_deliver_59 : decode cX7_deliver 59 = .ok (.iload 4, 2) := by decide +kernel
theorem dX7_deliver_61 : decode cX7_deliver 61 = .ok (.baload, 1) := by decide +kernel
theorem dX7_deliver_62 : decode cX7_deliver 62 = .ok (.ifCond .eq 47, 3) := by decide +kernel
theorem dX7_deliver_65 : decode cX7_deliver 65 = .ok (.iload_n 3, 1) := by decide +kernel
theorem dX7_deliver_66 : decode cX7_deliver 66 = .ok (.ifCond .eq 43, 3) := by decide +kernel
theorem dX7_deliver_69 : decode cX7_deliver 69 = .ok (.aload_n 0, 1) := by decide +kernel
theorem dX7_deliver_70 : decode cX7_deliver 70 = .ok (.getfield 33, 3) := by decide +kernel
theorem dX7_deliver_73 : decode cX7_deliver 73 = .ok (.iload_n 1, 1) := by decide +kernel
theorem dX7_deliver_74 : decode cX7_deliver 74 = .ok (.iaload, 1) := by decide +kernel
theorem dX7_deliver_75 : decode cX7_deliver 75 = .ok (.aload_n 0, 1) := by decide +kernel
theorem dX7_deliver_76 : decode cX7_deliver 76 = .ok (.getfield 75, 3) := by decide +kernel
theorem dX7_deliver_79 : decode cX7_deliver 79 = .ok (.aload_n 0, 1) := by decide +kernel
theorem dX7_deliver_80 : decode cX7_deliver 80 = .ok (.getfield 17, 3) := by decide +kernel
theorem dX7_deliver_83 : decode cX7_deliver 83 = .ok (.iload_n 1, 1) := by decide +kernel
theorem dX7_deliver_84 : decode cX7_deliver 84 = .ok (.iaload, 1) := by decide +kernel
theorem dX7_deliver_85 : decode cX7_deliver 85 = .ok (.iaload, 1) := by decide +kernel
theorem dX7_deliver_86 : decode cX7_deliver 86 = .ok (.if_icmp .ne 23, 3) := by decide +kernel
theorem dX7_deliver_89 : decode cX7_deliver 89 = .ok (.aload_n 0, 1) := by decide +kernel
theorem dX7_deliver_90 : decode cX7_deliver 90 = .ok (.iload_n 1, 1) := by decide +kernel
theorem dX7_deliver_91 : decode cX7_deliver 91 = .ok (.iload_n 2, 1) := by decide +kernel
theorem dX7_deliver_92 : decode cX7_deliver 92 = .ok (.aload_n 0, 1) := by decide +kernel
theorem dX7_deliver_93 : decode cX7_deliver 93 = .ok (.getfield 93, 3) := by decide +kernel
theorem dX7_deliver_96 : decode cX7_deliver 96 = .ok (.iload 4, 2) := by decide +kernel
theorem dX7_deliver_98 : decode cX7_deliver 98 = .ok (.iaload, 1) := by decide +kernel
theorem dX7_deliver_99 : decode cX7_deliver 99 = .ok (.aload_n 0, 1) := by decide +kernel
theorem dX7_deliver_100 : decode cX7_deliver 100 = .ok (.getfield 96, 3) := by decide +kernel
theorem dX7_deliver_103 : decode cX7_deliver 103 = .ok (.iload 4, 2) := by decide +kernel
theorem dX7_deliver_105 : decode cX7_deliver 105 = .ok (.laload, 1) := by decide +kernel
theorem dX7_deliver_106 : decode cX7_deliver 106 = .ok (.invokevirtual 144, 3) := by decide +kernel
theorem dX7_deliver_109 : decode cX7_deliver 109 = .ok (.return_, 1) := by decide +kernel
set_option maxRecDepth 20000 in
theorem ggX7_gets_X7_place : GoodIn wsX7_gets wsX7_place := goodIn_r _ [14] (by decide +kernel) (by decide +kernel)
set_option maxRecDepth 20000 in
theorem gX7_gets_X7_place : GoodIn wsX7_gets (va_wsS RX7 121 yX7_place wsX7_place) := goodIn_app (goodIn_of _ (by decide +kernel)) ggX7_gets_X7_place
theorem dX7_gets_0 : decode cX7_gets 0 = .ok (.aload_n 0, 1) := by decide +kernel
theorem dX7_gets_1 : decode cX7_gets 1 = .ok (.getfield 17, 3) := by decide +kernel
theorem dX7_gets_4 : decode cX7_gets 4 = .ok (.iload_n 1, 1) := by decide +kernel
theorem dX7_gets_5 : decode cX7_gets 5 = .ok (.iaload, 1) := by decide +kernel
theorem dX7_gets_6 : decode cX7_gets 6 = .ok (.iload_n 2, 1) := by decide +kernel
theorem dX7_gets_7 : decode cX7_gets 7 = .ok (.invokestatic 121, 3) := by decide +kernel
theorem dX7_gets_10 : decode cX7_gets 10 = .ok (.istore_n 3, 1) := by decide +kernel
theorem dX7_gets_11 : decode cX7_gets 11 = .ok (.aload_n 0, 1) := by decide +kernel
theorem dX7_gets_12 : decode cX7_gets 12 = .ok (.getfield 102, 3) := by decide +kernel
theorem dX7_gets_15 : decode cX7_gets 15 = .ok (.iload_n 3, 1) := by decide +kernel
theorem dX7_gets_16 : decode cX7_gets 16 = .ok (.aload_n 0, 1) := by decide +kernel
theorem dX7_gets_17 : decode cX7_gets 17 = .ok (.getfield 102, 3) := by decide +kernel
theorem dX7_gets_20 : decode cX7_gets 20 = .ok (.iload_n 3, 1) := by decide +kernel
theorem dX7_gets_21 : decode cX7_gets 21 = .ok (.iaload, 1) := by decide +kernel
theorem dX7_gets_22 : decode cX7_gets 22 = .ok (.iconst 1, 1) := by decide +kernel
theorem dX7_gets_23 : decode cX7_gets 23 = .ok (.iload_n 1, 1) := by decide +kernel
theorem dX7_gets_24 : decode cX7_gets 24 = .ok (.ishl, 1) := by decide +kernel
theorem dX7_gets_25 : decode cX7_gets 25 = .ok (.ior, 1) := by decide +kernel
theorem dX7_gets_26 : decode cX7_gets 26 = .ok (.iastore, 1) := by decide +kernel
theorem dX7_gets_27 : decode cX7_gets 27 = .ok (.aload_n 0, 1) := by decide +kernel
theorem dX7_gets_28 : decode cX7_gets 28 = .ok (.getfield 99, 3) := by decide +kernel
theorem dX7_gets_31 : decode cX7_gets 31 = .ok (.iload_n 3, 1) := by decide +kernel
theorem dX7_gets_32 : decode cX7_gets 32 = .ok (.baload, 1) := by decide +kernel
theorem dX7_gets_33 : decode cX7_gets 33 = .ok (.ifCond .eq 69, 3) := by decide +kernel
theorem dX7_gets_36 : decode cX7_gets 36 = .ok (.aload_n 0, 1) := by decide +kernel
theorem dX7_gets_37 : decode cX7_gets 37 = .ok (.getfield 33, 3) := by decide +kernel
theorem dX7_gets_40 : decode cX7_gets 40 = .ok (.iload_n 1, 1) := by decide +kernel
theorem dX7_gets_41 : decode cX7_gets 41 = .ok (.iaload, 1) := by decide +kernel
theorem dX7_gets_42 : decode cX7_gets 42 = .ok (.aload_n 0, 1) := by decide +kernel
theorem dX7_gets_43 : decode cX7_gets 43 = .ok (.getfield 75, 3) := by decide +kernel
theorem dX7_gets_46 : decode cX7_gets 46 = .ok (.aload_n 0, 1) := by decide +kernel
theorem dX7_gets_47 : decode cX7_gets 47 = .ok (.getfield 17, 3) := by decide +kernel
theorem dX7_gets_50 : decode cX7_gets 50 = .ok (.iload_n 1, 1) := by decide +kernel
theorem dX7_gets_51 : decode cX7_gets 51 = .ok (.iaload, 1) := by decide +kernel
theorem dX7_gets_52 : decode cX7_gets 52 = .ok (.iaload, 1) := by decide +kernel
theorem dX7_gets_53 : decode cX7_gets 53 = .ok (.if_icmp .ne 49, 3) := by decide +kernel
theorem dX7_gets_56 : decode cX7_gets 56 = .ok (.aload_n 0, 1) := by decide +kernel
theorem dX7_gets_57 : decode cX7_gets 57 = .ok (.getfield 60, 3) := by decide +kernel
theorem dX7_gets_60 : decode cX7_gets 60 = .ok (.bipush 101, 2) := by decide +kernel
theorem dX7_gets_62 : decode cX7_gets 62 = .ok (.iload_n 1, 1) := by decide +kernel
theorem dX7_gets_63 : decode cX7_gets 63 = .ok (.imul, 1) := by decide +kernel
theorem dX7_gets_64 : decode cX7_gets 64 = .ok (.iload_n 2, 1) := by decide +kernel
theorem dX7_gets_65 : decode cX7_gets 65 = .ok (.iadd, 1) := by decide +kernel
theorem dX7_gets_66 : decode cX7_gets 66 = .ok (.iconst 1, 1) := by decide +kernel
theorem dX7_gets_67 : decode cX7_gets 67 = .ok (.bastore, 1) := by decide +kernel
theorem dX7_gets_68 : decode cX7_gets 68 = .ok (.aload_n 0, 1) := by decide +kernel
theorem dX7_gets_69 : decode cX7_gets 69 = .ok (.getfield 63, 3) := by decide +kernel
theorem dX7_gets_72 : decode cX7_gets 72 = .ok (.bipush 101, 2) := by decide +kernel
theorem dX7_gets_74 : decode cX7_gets 74 = .ok (.iload_n 1, 1) := by decide +kernel
theorem dX7_gets_75 : decode cX7_gets 75 = .ok (.imul, 1) := by decide +kernel
theorem dX7_gets_76 : decode cX7_gets 76 = .ok (.iload_n 2, 1) := by decide +kernel
theorem dX7_gets_77 : decode cX7_gets 77 = .ok (.iadd, 1) := by decide +kernel
theorem dX7_gets_78 : decode cX7_gets 78 = .ok (.aload_n 0, 1) := by decide +kernel
theorem dX7_gets_79 : decode cX7_gets 79 = .ok (.getfield 93, 3) := by decide +kernel
theorem dX7_gets_82 : decode cX7_gets 82 = .ok (.iload_n 3, 1) := by decide +kernel
theorem dX7_gets_83 : decode cX7_gets 83 = .ok (.iaload, 1) := by decide +kernel
theorem dX7_gets_84 : decode cX7_gets 84 = .ok (.iastore, 1) := by decide +kernel
theorem dX7_gets_85 : decode cX7_gets 85 = .ok (.aload_n 0, 1) := by decide +kernel
theorem dX7_gets_86 : decode cX7_gets 86 = .ok (.getfield 66, 3) := by decide +kernel
theorem dX7_gets_89 : decode cX7_gets 89 = .ok (.bipush 101, 2) := by decide +kernel
theorem dX7_gets_91 : decode cX7_gets 91 = .ok (.iload_n 1, 1) := by decide +kernel
theorem dX7_gets_92 : decode cX7_gets 92 = .ok (.imul, 1) := by decide +kernel
theorem dX7_gets_93 : decode cX7_gets 93 = .ok (.iload_n 2, 1) := by decide +kernel
theorem dX7_gets_94 : decode cX7_gets 94 = .ok (.iadd, 1) := by decide +kernel
theorem dX7_gets_95 : decode cX7_gets 95 = .ok (.aload_n 0, 1) := by decide +kernel
theorem dX7_gets_96 : decode cX7_gets 96 = .ok (.getfield 96, 3) := by decide +kernel
theorem dX7_gets_99 : decode cX7_gets 99 = .ok (.iload_n 3, 1) := by decide +kernel
theorem dX7_gets_100 : decode cX7_gets 100 = .ok (.laload, 1) := by decide +kernel
theorem dX7_gets_101 : decode cX7_gets 101 = .ok (.lastore, 1) := by decide +kernel
theorem dX7_gets_102 : decode cX7_gets 102 = .ok (.return_, 1) := by decide +kernel
set_option maxRecDepth 20000 in
theorem ggX7_deliverAll_X7_hasPlace : GoodIn wsX7_deliverAll wsX7_hasPlace := goodIn_r _ [10, 11, 3, 12, 13, 9, 14, 15, 16, 17, 43, 44, 45, 46, 47, 48, 49, 50, 51, 52, 53, 54, 55, 56, 57, 58, 59, 60, 61, 62, 63, 64, 65, 66, 67, 68, 69, 70, 71, 72, 73, 74, 75, 76, 77, 78] (by decide +kernel) (by decide +kernel)
set_option maxRecDepth 20000 in
theorem gX7_deliverAll_X7_hasPlace : GoodIn wsX7_deliverAll (wsV RX7 129 RX7 yX7_hasPlace wsX7_hasPlace) := goodIn_app (goodIn_of _ (by decide +kernel)) ggX7_deliverAll_X7_hasPlace
set_option maxRecDepth 20000 in
theorem ggX7_deliverAll_X7_place : GoodIn wsX7_deliverAll wsX7_place := goodIn_r _ [14] (by decide +kernel) (by decide +kernel)
set_option maxRecDepth 20000 in
theorem gX7_deliverAll_X7_place : GoodIn wsX7_deliverAll (va_wsS RX7 121 yX7_place wsX7_place) := goodIn_app (goodIn_of _ (by decide +kernel)) ggX7_deliverAll_X7_place
set_option maxRecDepth 20000 in
theorem ggX7_deliverAll_X7_deliver : GoodIn wsX7_deliverAll wsX7_deliver := goodIn_r _ [21, 3, 22, 23, 24, 25, 4, 26, 12, 13, 9, 14, 27, 28, 29, 30, 31, 32, 33, 34, 35, 36, 37, 38, 39, 40, 41, 42, 43, 44, 45, 46, 47, 48, 49, 50, 51, 52, 53, 54, 55, 56, 57, 58, 59, 60, 61, 62, 63, 64, 65, 66, 67, 68, 69, 70, 71, 72, 73, 74, 75, 76, 77, 78] (by decide +kernel) (by decide +kernel)
set_option maxRecDepth 20000 in
theorem gX7_deliverAll_X7_deliver : GoodIn wsX7_deliverAll (wsV RX7 148 RX7 yX7_deliver wsX7_deliver) := goodIn_app (goodIn_of _ (by decide +kernel)) ggX7_deliverAll_X7_deliver
theorem dX7_deliverAll_0 : decode cX7_deliverAll 0 = .ok (.iconst 0, 1) := by decide +kernel
theorem dX7_deliverAll_1 : decode cX7_deliverAll 1 = .ok (.istore_n 2, 1) := by decide +kernel
theorem dX7_deliverAll_2 : decode cX7_deliverAll 2 = .ok (.aload_n 0, 1) := by decide +kernel
theorem dX7_deliverAll_3 : decode cX7_deliverAll 3 = .ok (.getfield 51, 3) := by decide +kernel
theorem dX7_deliverAll_6 : decode cX7_deliverAll 6 = .ok (.iload_n 1, 1) := by decide +kernel
theorem dX7_deliverAll_7 : decode cX7_deliverAll 7 = .ok (.iaload, 1) := by decide +kernel
theorem dX7_deliverAll_8 : decode cX7_deliverAll 8 = .ok (.iconst 1, 1) := by decide +kernel
theorem dX7_deliverAll_9 : decode cX7_deliverAll 9 = .ok (.iadd, 1) := by decide +kernel
theorem dX7_deliverAll_10 : decode cX7_deliverAll 10 = .ok (.istore_n 3, 1) := by decide +kernel
theorem dX7_deliverAll_11 : decode cX7_deliverAll 11 = .ok (.iload_n 3, 1) := by decide +kernel
theorem dX7_deliverAll_12 : decode cX7_deliverAll 12 = .ok (.aload_n 0, 1) := by decide +kernel
theorem dX7_deliverAll_13 : decode cX7_deliverAll 13 = .ok (.getfield 87, 3) := by decide +kernel
theorem dX7_deliverAll_16 : decode cX7_deliverAll 16 = .ok (.aload_n 0, 1) := by decide +kernel
theorem dX7_deliverAll_17 : decode cX7_deliverAll 17 = .ok (.getfield 17, 3) := by decide +kernel
theorem dX7_deliverAll_20 : decode cX7_deliverAll 20 = .ok (.iload_n 1, 1) := by decide +kernel
theorem dX7_deliverAll_21 : decode cX7_deliverAll 21 = .ok (.iaload, 1) := by decide +kernel
theorem dX7_deliverAll_22 : decode cX7_deliverAll 22 = .ok (.iaload, 1) := by decide +kernel
theorem dX7_deliverAll_23 : decode cX7_deliverAll 23 = .ok (.if_icmp .gt 63, 3) := by decide +kernel
theorem dX7_deliverAll_26 : decode cX7_deliverAll 26 = .ok (.aload_n 0, 1) := by decide +kernel
theorem dX7_deliverAll_27 : decode cX7_deliverAll 27 = .ok (.iload_n 1, 1) := by decide +kernel
theorem dX7_deliverAll_28 : decode cX7_deliverAll 28 = .ok (.iload_n 3, 1) := by decide +kernel
theorem dX7_deliverAll_29 : decode cX7_deliverAll 29 = .ok (.invokevirtual 129, 3) := by decide +kernel
theorem dX7_deliverAll_32 : decode cX7_deliverAll 32 = .ok (.ifCond .eq 54, 3) := by decide +kernel
theorem dX7_deliverAll_35 : decode cX7_deliverAll 35 = .ok (.aload_n 0, 1) := by decide +kernel
theorem dX7_deliverAll_36 : decode cX7_deliverAll 36 = .ok (.getfield 99, 3) := by decide +kernel
theorem dX7_deliverAll_39 : decode cX7_deliverAll 39 = .ok (.aload_n 0, 1) := by decide +kernel
theorem dX7_deliverAll_40 : decode cX7_deliverAll 40 = .ok (.getfield 17, 3) := by decide +kernel
theorem dX7_deliverAll_43 : decode cX7_deliverAll 43 = .ok (.iload_n 1, 1) := by decide +kernel
theorem dX7_deliverAll_44 : decode cX7_deliverAll 44 = .ok (.iaload, 1) := by decide +kernel
theorem dX7_deliverAll_45 : decode cX7_deliverAll 45 = .ok (.iload_n 3, 1) := by decide +kernel
theorem dX7_deliverAll_46 : decode cX7_deliverAll 46 = .ok (.invokestatic 121, 3) := by decide +kernel
theorem dX7_deliverAll_49 : decode cX7_deliverAll 49 = .ok (.baload, 1) := by decide +kernel
theorem dX7_deliverAll_50 : decode cX7_deliverAll 50 = .ok (.ifCond .eq 13, 3) := by decide +kernel
theorem dX7_deliverAll_53 : decode cX7_deliverAll 53 = .ok (.iload_n 3, 1) := by decide +kernel
theorem dX7_deliverAll_54 : decode cX7_deliverAll 54 = .ok (.aload_n 0, 1) := by decide +kernel
theorem dX7_deliverAll_55 : decode cX7_deliverAll 55 = .ok (.getfield 54, 3) := by decide +kernel
theorem dX7_deliverAll_58 : decode cX7_deliverAll 58 = .ok (.iload_n 1, 1) := by decide +kernel
theorem dX7_deliverAll_59 : decode cX7_deliverAll 59 = .ok (.iaload, 1) := by decide +kernel
theorem dX7_deliverAll_60 : decode cX7_deliverAll 60 = .ok (.if_icmp .gt 26, 3) := by decide +kernel
theorem dX7_deliverAll_63 : decode cX7_deliverAll 63 = .ok (.aload_n 0, 1) := by decide +kernel
theorem dX7_deliverAll_64 : decode cX7_deliverAll 64 = .ok (.iload_n 1, 1) := by decide +kernel
theorem dX7_deliverAll_65 : decode cX7_deliverAll 65 = .ok (.iload_n 3, 1) := by decide +kernel
theorem dX7_deliverAll_66 : decode cX7_deliverAll 66 = .ok (.iconst 1, 1) := by decide +kernel
theorem dX7_deliverAll_67 : decode cX7_deliverAll 67 = .ok (.invokevirtual 148, 3) := by decide +kernel
theorem dX7_deliverAll_70 : decode cX7_deliverAll 70 = .ok (.aload_n 0, 1) := by decide +kernel
theorem dX7_deliverAll_71 : decode cX7_deliverAll 71 = .ok (.getfield 51, 3) := by decide +kernel
theorem dX7_deliverAll_74 : decode cX7_deliverAll 74 = .ok (.iload_n 1, 1) := by decide +kernel
theorem dX7_deliverAll_75 : decode cX7_deliverAll 75 = .ok (.iload_n 3, 1) := by decide +kernel
theorem dX7_deliverAll_76 : decode cX7_deliverAll 76 = .ok (.iastore, 1) := by decide +kernel
theorem dX7_deliverAll_77 : decode cX7_deliverAll 77 = .ok (.iinc 2 1, 3) := by decide +kernel
theorem dX7_deliverAll_80 : decode cX7_deliverAll 80 = .ok (.iinc 3 1, 3) := by decide +kernel
theorem dX7_deliverAll_83 : decode cX7_deliverAll 83 = .ok (.goto (-72), 3) := by decide +kernel
theorem dX7_deliverAll_86 : decode cX7_deliverAll 86 = .ok (.iload_n 2, 1) := by decide +kernel
theorem dX7_deliverAll_87 : decode cX7_deliverAll 87 = .ok (.ireturn, 1) := by decide +kernel
set_option maxRecDepth 20000 in
theorem ggX7_comes_X7_isIn : GoodIn wsX7_comes wsX7_isIn := goodIn_r _ [8] (by decide +kernel) (by decide +kernel)
set_option maxRecDepth 20000 in
theorem gX7_comes_X7_isIn : GoodIn wsX7_comes (va_wsS RX7 125 yX7_isIn wsX7_isIn) := goodIn_app (goodIn_of _ (by decide +kernel)) ggX7_comes_X7_isIn
set_option maxRecDepth 20000 in
theorem ggX7_comes_X7_gets : GoodIn wsX7_comes wsX7_gets := goodIn_r _ [12, 4, 13, 14, 15, 16, 17, 18, 19, 20, 21, 22, 23, 7, 24, 25, 26, 27, 28, 29, 30, 31, 32, 33, 34, 35, 36, 37, 38, 39, 40, 41, 42, 43, 44, 45, 46, 47, 48, 49, 50, 51, 52, 53, 54, 55, 56, 57, 58, 59, 60] (by decide +kernel) (by decide +kernel)
set_option maxRecDepth 20000 in
theorem gX7_comes_X7_gets : GoodIn wsX7_comes (wsV RX7 152 RX7 yX7_gets wsX7_gets) := goodIn_app (goodIn_of _ (by decide +kernel)) ggX7_comes_X7_gets
theorem dX7_comes_0 : decode cX7_comes 0 = .ok (.iconst 0, 1) := by decide +kernel
theorem dX7_comes_1 : decode cX7_comes 1 = .ok (.istore 4, 2) := by decide +kernel
theorem dX7_comes_3 : decode cX7_comes 3 = .ok (.iload 4, 2) := by decide +kernel
theorem dX7_comes_5 : decode cX7_comes 5 = .ok (.aload_n 0, 1) := by decide +kernel
theorem dX7_comes_6 : decode cX7_comes 6 = .ok (.getfield 111, 3) := by decide +kernel
theorem dX7_comes_9 : decode cX7_comes 9 = .ok (.if_icmp .ge 73, 3) := by decide +kernel
theorem dX7_comes_12 : decode cX7_comes 12 = .ok (.iload 4, 2) := by decide +kernel
theorem dX7_comes_14 : decode cX7_comes 14 = .ok (.iload_n 1, 1) := by decide +kernel
theorem dX7_comes_15 : decode cX7_comes 15 = .ok (.if_icmp .eq 61, 3) := by decide +kernel
theorem dX7_comes_18 : decode cX7_comes 18 = .ok (.aload_n 0, 1) := by decide +kernel
end
section
theorem dX7_comes_19 : decode cX7_comes 19 = .ok (.getfield 7, 3) := by decide +kernel
theorem dX7_comes_22 : decode cX7_comes 22 = .ok (.iload 4, 2) := by decide +kernel
theorem dX7_comes_24 : decode cX7_comes 24 = .ok (.baload, 1) := by decide +kernel
theorem dX7_comes_25 : decode cX7_comes 25 = .ok (.ifCond .eq 51, 3) := by decide +kernel
theorem dX7_comes_28 : decode cX7_comes 28 = .ok (.aload_n 0, 1) := by decide +kernel
theorem dX7_comes_29 : decode cX7_comes 29 = .ok (.getfield 13, 3) := by decide +kernel
theorem dX7_comes_32 : decode cX7_comes 32 = .ok (.iload 4, 2) := by decide +kernel
theorem dX7_comes_34 : decode cX7_comes 34 = .ok (.iaload, 1) := by decide +kernel
theorem dX7_comes_35 : decode cX7_comes 35 = .ok (.aload_n 0, 1) := by decide +kernel
theorem dX7_comes_36 : decode cX7_comes 36 = .ok (.getfield 13, 3) := by decide +kernel
theorem dX7_comes_39 : decode cX7_comes 39 = .ok (.iload_n 1, 1) := by decide +kernel
theorem dX7_comes_40 : decode cX7_comes 40 = .ok (.iaload, 1) := by decide +kernel
theorem dX7_comes_41 : decode cX7_comes 41 = .ok (.if_icmp .ne 35, 3) := by decide +kernel
theorem dX7_comes_44 : decode cX7_comes 44 = .ok (.aload_n 0, 1) := by decide +kernel
theorem dX7_comes_45 : decode cX7_comes 45 = .ok (.getfield 17, 3) := by decide +kernel
theorem dX7_comes_48 : decode cX7_comes 48 = .ok (.iload 4, 2) := by decide +kernel
theorem dX7_comes_50 : decode cX7_comes 50 = .ok (.iaload, 1) := by decide +kernel
theorem dX7_comes_51 : decode cX7_comes 51 = .ok (.aload_n 0, 1) := by decide +kernel
theorem dX7_comes_52 : decode cX7_comes 52 = .ok (.getfield 17, 3) := by decide +kernel
theorem dX7_comes_55 : decode cX7_comes 55 = .ok (.iload_n 1, 1) := by decide +kernel
theorem dX7_comes_56 : decode cX7_comes 56 = .ok (.iaload, 1) := by decide +kernel
theorem dX7_comes_57 : decode cX7_comes 57 = .ok (.if_icmp .ne 19, 3) := by decide +kernel
theorem dX7_comes_60 : decode cX7_comes 60 = .ok (.iload_n 3, 1) := by decide +kernel
theorem dX7_comes_61 : decode cX7_comes 61 = .ok (.iload 4, 2) := by decide +kernel
theorem dX7_comes_63 : decode cX7_comes 63 = .ok (.invokestatic 125, 3) := by decide +kernel
theorem dX7_comes_66 : decode cX7_comes 66 = .ok (.ifCond .ne 10, 3) := by decide +kernel
theorem dX7_comes_69 : decode cX7_comes 69 = .ok (.aload_n 0, 1) := by decide +kernel
theorem dX7_comes_70 : decode cX7_comes 70 = .ok (.iload 4, 2) := by decide +kernel
theorem dX7_comes_72 : decode cX7_comes 72 = .ok (.iload_n 2, 1) := by decide +kernel
theorem dX7_comes_73 : decode cX7_comes 73 = .ok (.invokevirtual 152, 3) := by decide +kernel
theorem dX7_comes_76 : decode cX7_comes 76 = .ok (.iinc 4 1, 3) := by decide +kernel
theorem dX7_comes_79 : decode cX7_comes 79 = .ok (.goto (-76), 3) := by decide +kernel
theorem dX7_comes_82 : decode cX7_comes 82 = .ok (.return_, 1) := by decide +kernel
set_option maxRecDepth 20000 in
theorem ggX7_give_X7_place : GoodIn wsX7_give wsX7_place := goodIn_r _ [17] (by decide +kernel) (by decide +kernel)
set_option maxRecDepth 20000 in
theorem gX7_give_X7_place : GoodIn wsX7_give (va_wsS RX7 121 yX7_place wsX7_place) := goodIn_app (goodIn_of _ (by decide +kernel)) ggX7_give_X7_place
set_option maxRecDepth 20000 in
theorem ggX7_give_X7_gets : GoodIn wsX7_give wsX7_gets := goodIn_r _ [21, 1, 12, 10, 22, 23, 24, 25, 6, 26, 8, 14, 15, 16, 17, 37, 38, 39, 40, 41, 42, 43, 44, 45, 46, 47, 48, 49, 50, 51, 52, 53, 54, 55, 56, 57, 58, 59, 60, 61, 62, 63, 64, 65, 66, 67, 68, 69, 70, 71, 72] (by decide +kernel) (by decide +kernel)
set_option maxRecDepth 20000 in
theorem gX7_give_X7_gets : GoodIn wsX7_give (wsV RX7 152 RX7 yX7_gets wsX7_gets) := goodIn_app (goodIn_of _ (by decide +kernel)) ggX7_give_X7_gets
set_option maxRecDepth 20000 in
theorem ggX7_give_X7_comes : GoodIn wsX7_give wsX7_comes := goodIn_r _ [30, 31, 32, 33, 1, 34, 35, 16, 36, 18, 19, 20, 21, 12, 10, 22, 23, 24, 25, 6, 26, 8, 14, 15, 17, 37, 38, 39, 40, 41, 42, 43, 44, 45, 46, 47, 48, 49, 50, 51, 52, 53, 54, 55, 56, 57, 58, 59, 60, 61, 62, 63, 64, 65, 66, 67, 68, 69, 70, 71, 72] (by decide +kernel) (by decide +kernel)
set_option maxRecDepth 20000 in
theorem gX7_give_X7_comes : GoodIn wsX7_give (wsV RX7 156 RX7 yX7_comes wsX7_comes) := goodIn_app (goodIn_of _ (by decide +kernel)) ggX7_give_X7_comes
theorem dX7_give_0 : decode cX7_give 0 = .ok (.aload_n 0, 1) := by decide +kernel
theorem dX7_give_1 : decode cX7_give 1 = .ok (.getfield 17, 3) := by decide +kernel
theorem dX7_give_4 : decode cX7_give 4 = .ok (.iload_n 1, 1) := by decide +kernel
theorem dX7_give_5 : decode cX7_give 5 = .ok (.iaload, 1) := by decide +kernel
theorem dX7_give_6 : decode cX7_give 6 = .ok (.istore_n 3, 1) := by decide +kernel
theorem dX7_give_7 : decode cX7_give 7 = .ok (.iconst 0, 1) := by decide +kernel
theorem dX7_give_8 : decode cX7_give 8 = .ok (.istore 4, 2) := by decide +kernel
theorem dX7_give_10 : decode cX7_give 10 = .ok (.iload 4, 2) := by decide +kernel
theorem dX7_give_12 : decode cX7_give 12 = .ok (.aload_n 0, 1) := by decide +kernel
theorem dX7_give_13 : decode cX7_give 13 = .ok (.getfield 115, 3) := by decide +kernel
theorem dX7_give_16 : decode cX7_give 16 = .ok (.if_icmp .ge 157, 3) := by decide +kernel
theorem dX7_give_19 : decode cX7_give 19 = .ok (.iload 4, 2) := by decide +kernel
theorem dX7_give_21 : decode cX7_give 21 = .ok (.aload_n 0, 1) := by decide +kernel
theorem dX7_give_22 : decode cX7_give 22 = .ok (.getfield 39, 3) := by decide +kernel
theorem dX7_give_25 : decode cX7_give 25 = .ok (.iload_n 1, 1) := by decide +kernel
theorem dX7_give_26 : decode cX7_give 26 = .ok (.iaload, 1) := by decide +kernel
theorem dX7_give_27 : decode cX7_give 27 = .ok (.if_icmp .ge 146, 3) := by decide +kernel
theorem dX7_give_30 : decode cX7_give 30 = .ok (.aload_n 0, 1) := by decide +kernel
theorem dX7_give_31 : decode cX7_give 31 = .ok (.getfield 87, 3) := by decide +kernel
theorem dX7_give_34 : decode cX7_give 34 = .ok (.iload_n 3, 1) := by decide +kernel
theorem dX7_give_35 : decode cX7_give 35 = .ok (.iaload, 1) := by decide +kernel
theorem dX7_give_36 : decode cX7_give 36 = .ok (.bipush 100, 2) := by decide +kernel
theorem dX7_give_38 : decode cX7_give 38 = .ok (.if_icmp .ge 135, 3) := by decide +kernel
theorem dX7_give_41 : decode cX7_give 41 = .ok (.aload_n 0, 1) := by decide +kernel
theorem dX7_give_42 : decode cX7_give 42 = .ok (.getfield 87, 3) := by decide +kernel
theorem dX7_give_45 : decode cX7_give 45 = .ok (.iload_n 3, 1) := by decide +kernel
theorem dX7_give_46 : decode cX7_give 46 = .ok (.dup2, 1) := by decide +kernel
theorem dX7_give_47 : decode cX7_give 47 = .ok (.iaload, 1) := by decide +kernel
theorem dX7_give_48 : decode cX7_give 48 = .ok (.iconst 1, 1) := by decide +kernel
theorem dX7_give_49 : decode cX7_give 49 = .ok (.iadd, 1) := by decide +kernel
theorem dX7_give_50 : decode cX7_give 50 = .ok (.iastore, 1) := by decide +kernel
theorem dX7_give_51 : decode cX7_give 51 = .ok (.iload_n 3, 1) := by decide +kernel
theorem dX7_give_52 : decode cX7_give 52 = .ok (.aload_n 0, 1) := by decide +kernel
theorem dX7_give_53 : decode cX7_give 53 = .ok (.getfield 87, 3) := by decide +kernel
theorem dX7_give_56 : decode cX7_give 56 = .ok (.iload_n 3, 1) := by decide +kernel
theorem dX7_give_57 : decode cX7_give 57 = .ok (.iaload, 1) := by decide +kernel
theorem dX7_give_58 : decode cX7_give 58 = .ok (.invokestatic 121, 3) := by decide +kernel
theorem dX7_give_61 : decode cX7_give 61 = .ok (.istore 5, 2) := by decide +kernel
theorem dX7_give_63 : decode cX7_give 63 = .ok (.aload_n 0, 1) := by decide +kernel
theorem dX7_give_64 : decode cX7_give 64 = .ok (.getfield 90, 3) := by decide +kernel
theorem dX7_give_67 : decode cX7_give 67 = .ok (.iload 5, 2) := by decide +kernel
theorem dX7_give_69 : decode cX7_give 69 = .ok (.iload_n 1, 1) := by decide +kernel
theorem dX7_give_70 : decode cX7_give 70 = .ok (.iastore, 1) := by decide +kernel
theorem dX7_give_71 : decode cX7_give 71 = .ok (.aload_n 0, 1) := by decide +kernel
theorem dX7_give_72 : decode cX7_give 72 = .ok (.getfield 93, 3) := by decide +kernel
theorem dX7_give_75 : decode cX7_give 75 = .ok (.iload 5, 2) := by decide +kernel
theorem dX7_give_77 : decode cX7_give 77 = .ok (.aload_n 0, 1) := by decide +kernel
theorem dX7_give_78 : decode cX7_give 78 = .ok (.getfield 42, 3) := by decide +kernel
theorem dX7_give_81 : decode cX7_give 81 = .ok (.bipush 12, 2) := by decide +kernel
theorem dX7_give_83 : decode cX7_give 83 = .ok (.iload_n 1, 1) := by decide +kernel
theorem dX7_give_84 : decode cX7_give 84 = .ok (.imul, 1) := by decide +kernel
theorem dX7_give_85 : decode cX7_give 85 = .ok (.iload 4, 2) := by decide +kernel
theorem dX7_give_87 : decode cX7_give 87 = .ok (.iadd, 1) := by decide +kernel
theorem dX7_give_88 : decode cX7_give 88 = .ok (.iaload, 1) := by decide +kernel
theorem dX7_give_89 : decode cX7_give 89 = .ok (.iastore, 1) := by decide +kernel
theorem dX7_give_90 : decode cX7_give 90 = .ok (.aload_n 0, 1) := by decide +kernel
theorem dX7_give_91 : decode cX7_give 91 = .ok (.getfield 96, 3) := by decide +kernel
theorem dX7_give_94 : decode cX7_give 94 = .ok (.iload 5, 2) := by decide +kernel
theorem dX7_give_96 : decode cX7_give 96 = .ok (.aload_n 0, 1) := by decide +kernel
theorem dX7_give_97 : decode cX7_give 97 = .ok (.getfield 45, 3) := by decide +kernel
theorem dX7_give_100 : decode cX7_give 100 = .ok (.bipush 12, 2) := by decide +kernel
theorem dX7_give_102 : decode cX7_give 102 = .ok (.iload_n 1, 1) := by decide +kernel
theorem dX7_give_103 : decode cX7_give 103 = .ok (.imul, 1) := by decide +kernel
theorem dX7_give_104 : decode cX7_give 104 = .ok (.iload 4, 2) := by decide +kernel
theorem dX7_give_106 : decode cX7_give 106 = .ok (.iadd, 1) := by decide +kernel
theorem dX7_give_107 : decode cX7_give 107 = .ok (.laload, 1) := by decide +kernel
theorem dX7_give_108 : decode cX7_give 108 = .ok (.lastore, 1) := by decide +kernel
theorem dX7_give_109 : decode cX7_give 109 = .ok (.aload_n 0, 1) := by decide +kernel
theorem dX7_give_110 : decode cX7_give 110 = .ok (.getfield 99, 3) := by decide +kernel
theorem dX7_give_113 : decode cX7_give 113 = .ok (.iload 5, 2) := by decide +kernel
theorem dX7_give_115 : decode cX7_give 115 = .ok (.aload_n 0, 1) := by decide +kernel
theorem dX7_give_116 : decode cX7_give 116 = .ok (.getfield 48, 3) := by decide +kernel
theorem dX7_give_119 : decode cX7_give 119 = .ok (.bipush 12, 2) := by decide +kernel
theorem dX7_give_121 : decode cX7_give 121 = .ok (.iload_n 1, 1) := by decide +kernel
theorem dX7_give_122 : decode cX7_give 122 = .ok (.imul, 1) := by decide +kernel
theorem dX7_give_123 : decode cX7_give 123 = .ok (.iload 4, 2) := by decide +kernel
theorem dX7_give_125 : decode cX7_give 125 = .ok (.iadd, 1) := by decide +kernel
theorem dX7_give_126 : decode cX7_give 126 = .ok (.baload, 1) := by decide +kernel
theorem dX7_give_127 : decode cX7_give 127 = .ok (.bastore, 1) := by decide +kernel
theorem dX7_give_128 : decode cX7_give 128 = .ok (.aload_n 0, 1) := by decide +kernel
theorem dX7_give_129 : decode cX7_give 129 = .ok (.getfield 102, 3) := by decide +kernel
theorem dX7_give_132 : decode cX7_give 132 = .ok (.iload 5, 2) := by decide +kernel
theorem dX7_give_134 : decode cX7_give 134 = .ok (.iconst 0, 1) := by decide +kernel
theorem dX7_give_135 : decode cX7_give 135 = .ok (.iastore, 1) := by decide +kernel
theorem dX7_give_136 : decode cX7_give 136 = .ok (.aload_n 0, 1) := by decide +kernel
theorem dX7_give_137 : decode cX7_give 137 = .ok (.getfield 105, 3) := by decide +kernel
theorem dX7_give_140 : decode cX7_give 140 = .ok (.iload 5, 2) := by decide +kernel
theorem dX7_give_142 : decode cX7_give 142 = .ok (.iconst 0, 1) := by decide +kernel
theorem dX7_give_143 : decode cX7_give 143 = .ok (.bastore, 1) := by decide +kernel
theorem dX7_give_144 : decode cX7_give 144 = .ok (.aload_n 0, 1) := by decide +kernel
theorem dX7_give_145 : decode cX7_give 145 = .ok (.iload_n 1, 1) := by decide +kernel
theorem dX7_give_146 : decode cX7_give 146 = .ok (.aload_n 0, 1) := by decide +kernel
theorem dX7_give_147 : decode cX7_give 147 = .ok (.getfield 87, 3) := by decide +kernel
theorem dX7_give_150 : decode cX7_give 150 = .ok (.iload_n 3, 1) := by decide +kernel
theorem dX7_give_151 : decode cX7_give 151 = .ok (.iaload, 1) := by decide +kernel
theorem dX7_give_152 : decode cX7_give 152 = .ok (.invokevirtual 152, 3) := by decide +kernel
theorem dX7_give_155 : decode cX7_give 155 = .ok (.aload_n 0, 1) := by decide +kernel
theorem dX7_give_156 : decode cX7_give 156 = .ok (.iload_n 1, 1) := by decide +kernel
theorem dX7_give_157 : decode cX7_give 157 = .ok (.aload_n 0, 1) := by decide +kernel
theorem dX7_give_158 : decode cX7_give 158 = .ok (.getfield 87, 3) := by decide +kernel
theorem dX7_give_161 : decode cX7_give 161 = .ok (.iload_n 3, 1) := by decide +kernel
theorem dX7_give_162 : decode cX7_give 162 = .ok (.iaload, 1) := by decide +kernel
theorem dX7_give_163 : decode cX7_give 163 = .ok (.iload_n 2, 1) := by decide +kernel
theorem dX7_give_164 : decode cX7_give 164 = .ok (.invokevirtual 156, 3) := by decide +kernel
theorem dX7_give_167 : decode cX7_give 167 = .ok (.iinc 4 1, 3) := by decide +kernel
theorem dX7_give_170 : decode cX7_give 170 = .ok (.goto (-160), 3) := by decide +kernel
theorem dX7_give_173 : decode cX7_give 173 = .ok (.aload_n 0, 1) := by decide +kernel
theorem dX7_give_174 : decode cX7_give 174 = .ok (.getfield 39, 3) := by decide +kernel
theorem dX7_give_177 : decode cX7_give 177 = .ok (.iload_n 1, 1) := by decide +kernel
theorem dX7_give_178 : decode cX7_give 178 = .ok (.aload_n 0, 1) := by decide +kernel
theorem dX7_give_179 : decode cX7_give 179 = .ok (.getfield 39, 3) := by decide +kernel
theorem dX7_give_182 : decode cX7_give 182 = .ok (.iload_n 1, 1) := by decide +kernel
theorem dX7_give_183 : decode cX7_give 183 = .ok (.iaload, 1) := by decide +kernel
theorem dX7_give_184 : decode cX7_give 184 = .ok (.iload 4, 2) := by decide +kernel
theorem dX7_give_186 : decode cX7_give 186 = .ok (.isub, 1) := by decide +kernel
theorem dX7_give_187 : decode cX7_give 187 = .ok (.iastore, 1) := by decide +kernel
theorem dX7_give_188 : decode cX7_give 188 = .ok (.iconst 0, 1) := by decide +kernel
theorem dX7_give_189 : decode cX7_give 189 = .ok (.istore 5, 2) := by decide +kernel
theorem dX7_give_191 : decode cX7_give 191 = .ok (.iload 5, 2) := by decide +kernel
theorem dX7_give_193 : decode cX7_give 193 = .ok (.aload_n 0, 1) := by decide +kernel
theorem dX7_give_194 : decode cX7_give 194 = .ok (.getfield 39, 3) := by decide +kernel
theorem dX7_give_197 : decode cX7_give 197 = .ok (.iload_n 1, 1) := by decide +kernel
theorem dX7_give_198 : decode cX7_give 198 = .ok (.iaload, 1) := by decide +kernel
theorem dX7_give_199 : decode cX7_give 199 = .ok (.if_icmp .ge 69, 3) := by decide +kernel
theorem dX7_give_202 : decode cX7_give 202 = .ok (.bipush 12, 2) := by decide +kernel
theorem dX7_give_204 : decode cX7_give 204 = .ok (.iload_n 1, 1) := by decide +kernel
theorem dX7_give_205 : decode cX7_give 205 = .ok (.imul, 1) := by decide +kernel
theorem dX7_give_206 : decode cX7_give 206 = .ok (.iload 5, 2) := by decide +kernel
theorem dX7_give_208 : decode cX7_give 208 = .ok (.iadd, 1) := by decide +kernel
theorem dX7_give_209 : decode cX7_give 209 = .ok (.istore 6, 2) := by decide +kernel
theorem dX7_give_211 : decode cX7_give 211 = .ok (.aload_n 0, 1) := by decide +kernel
theorem dX7_give_212 : decode cX7_give 212 = .ok (.getfield 42, 3) := by decide +kernel
theorem dX7_give_215 : decode cX7_give 215 = .ok (.iload 6, 2) := by decide +kernel
theorem dX7_give_217 : decode cX7_give 217 = .ok (.aload_n 0, 1) := by decide +kernel
theorem dX7_give_218 : decode cX7_give 218 = .ok (.getfield 42, 3) := by decide +kernel
theorem dX7_give_221 : decode cX7_give 221 = .ok (.iload 6, 2) := by decide +kernel
theorem dX7_give_223 : decode cX7_give 223 = .ok (.iload 4, 2) := by decide +kernel
theorem dX7_give_225 : decode cX7_give 225 = .ok (.iadd, 1) := by decide +kernel
theorem dX7_give_226 : decode cX7_give 226 = .ok (.iaload, 1) := by decide +kernel
theorem dX7_give_227 : decode cX7_give 227 = .ok (.iastore, 1) := by decide +kernel
theorem dX7_give_228 : decode cX7_give 228 = .ok (.aload_n 0, 1) := by decide +kernel
theorem dX7_give_229 : decode cX7_give 229 = .ok (.getfield 45, 3) := by decide +kernel
theorem dX7_give_232 : decode cX7_give 232 = .ok (.iload 6, 2) := by decide +kernel
theorem dX7_give_234 : decode cX7_give 234 = .ok (.aload_n 0, 1) := by decide +kernel
theorem dX7_give_235 : decode cX7_give 235 = .ok (.getfield 45, 3) := by decide +kernel
theorem dX7_give_238 : decode cX7_give 238 = .ok (.iload 6, 2) := by decide +kernel
theorem dX7_give_240 : decode cX7_give 240 = .ok (.iload 4, 2) := by decide +kernel
theorem dX7_give_242 : decode cX7_give 242 = .ok (.iadd, 1) := by decide +kernel
theorem dX7_give_243 : decode cX7_give 243 = .ok (.laload, 1) := by decide +kernel
theorem dX7_give_244 : decode cX7_give 244 = .ok (.lastore, 1) := by decide +kernel
theorem dX7_give_245 : decode cX7_give 245 = .ok (.aload_n 0, 1) := by decide +kernel
theorem dX7_give_246 : decode cX7_give 246 = .ok (.getfield 48, 3) := by decide +kernel
theorem dX7_give_249 : decode cX7_give 249 = .ok (.iload 6, 2) := by decide +kernel
theorem dX7_give_251 : decode cX7_give 251 = .ok (.aload_n 0, 1) := by decide +kernel
theorem dX7_give_252 : decode cX7_give 252 = .ok (.getfield 48, 3) := by decide +kernel
theorem dX7_give_255 : decode cX7_give 255 = .ok (.iload 6, 2) := by decide +kernel
theorem dX7_give_257 : decode cX7_give 257 = .ok (.iload 4, 2) := by decide +kernel
theorem dX7_give_259 : decode cX7_give 259 = .ok (.iadd, 1) := by decide +kernel
theorem dX7_give_260 : decode cX7_give 260 = .ok (.baload, 1) := by decide +kernel
theorem dX7_give_261 : decode cX7_give 261 = .ok (.bastore, 1) := by decide +kernel
theorem dX7_give_262 : decode cX7_give 262 = .ok (.iinc 5 1, 3) := by decide +kernel
theorem dX7_give_265 : decode cX7_give 265 = .ok (.goto (-74), 3) := by decide +kernel
theorem dX7_give_268 : decode cX7_give 268 = .ok (.return_, 1) := by decide +kernel
set_option maxRecDepth 20000 in
theorem ggX7_goesOn_X7_isIn : GoodIn wsX7_goesOn wsX7_isIn := goodIn_r _ [10] (by decide +kernel) (by decide +kernel)
set_option maxRecDepth 20000 in
theorem gX7_goesOn_X7_isIn : GoodIn wsX7_goesOn (va_wsS RX7 125 yX7_isIn wsX7_isIn) := goodIn_app (goodIn_of _ (by decide +kernel)) ggX7_goesOn_X7_isIn
theorem dX7_goesOn_0 : decode cX7_goesOn 0 = .ok (.aload_n 0, 1) := by decide +kernel
theorem dX7_goesOn_1 : decode cX7_goesOn 1 = .ok (.getfield 17, 3) := by decide +kernel
theorem dX7_goesOn_4 : decode cX7_goesOn 4 = .ok (.iload_n 1, 1) := by decide +kernel
theorem dX7_goesOn_5 : decode cX7_goesOn 5 = .ok (.iaload, 1) := by decide +kernel
theorem dX7_goesOn_6 : decode cX7_goesOn 6 = .ok (.istore_n 2, 1) := by decide +kernel
theorem dX7_goesOn_7 : decode cX7_goesOn 7 = .ok (.iload_n 1, 1) := by decide +kernel
theorem dX7_goesOn_8 : decode cX7_goesOn 8 = .ok (.istore_n 3, 1) := by decide +kernel
theorem dX7_goesOn_9 : decode cX7_goesOn 9 = .ok (.iload_n 3, 1) := by decide +kernel
theorem dX7_goesOn_10 : decode cX7_goesOn 10 = .ok (.iconst 1, 1) := by decide +kernel
theorem dX7_goesOn_11 : decode cX7_goesOn 11 = .ok (.iadd, 1) := by decide +kernel
theorem dX7_goesOn_12 : decode cX7_goesOn 12 = .ok (.bipush 8, 2) := by decide +kernel
theorem dX7_goesOn_14 : decode cX7_goesOn 14 = .ok (.irem, 1) := by decide +kernel
theorem dX7_goesOn_15 : decode cX7_goesOn 15 = .ok (.istore_n 3, 1) := by decide +kernel
theorem dX7_goesOn_16 : decode cX7_goesOn 16 = .ok (.aload_n 0, 1) := by decide +kernel
theorem dX7_goesOn_17 : decode cX7_goesOn 17 = .ok (.getfield 78, 3) := by decide +kernel
theorem dX7_goesOn_20 : decode cX7_goesOn 20 = .ok (.iload_n 2, 1) := by decide +kernel
theorem dX7_goesOn_21 : decode cX7_goesOn 21 = .ok (.iaload, 1) := by decide +kernel
theorem dX7_goesOn_22 : decode cX7_goesOn 22 = .ok (.iload_n 3, 1) := by decide +kernel
theorem dX7_goesOn_23 : decode cX7_goesOn 23 = .ok (.invokestatic 125, 3) := by decide +kernel
theorem dX7_goesOn_26 : decode cX7_goesOn 26 = .ok (.ifCond .eq (-17), 3) := by decide +kernel
theorem dX7_goesOn_29 : decode cX7_goesOn 29 = .ok (.aload_n 0, 1) := by decide +kernel
theorem dX7_goesOn_30 : decode cX7_goesOn 30 = .ok (.getfield 7, 3) := by decide +kernel
theorem dX7_goesOn_33 : decode cX7_goesOn 33 = .ok (.iload_n 3, 1) := by decide +kernel
theorem dX7_goesOn_34 : decode cX7_goesOn 34 = .ok (.baload, 1) := by decide +kernel
theorem dX7_goesOn_35 : decode cX7_goesOn 35 = .ok (.ifCond .eq 32, 3) := by decide +kernel
theorem dX7_goesOn_38 : decode cX7_goesOn 38 = .ok (.aload_n 0, 1) := by decide +kernel
theorem dX7_goesOn_39 : decode cX7_goesOn 39 = .ok (.getfield 13, 3) := by decide +kernel
theorem dX7_goesOn_42 : decode cX7_goesOn 42 = .ok (.iload_n 3, 1) := by decide +kernel
theorem dX7_goesOn_43 : decode cX7_goesOn 43 = .ok (.iaload, 1) := by decide +kernel
theorem dX7_goesOn_44 : decode cX7_goesOn 44 = .ok (.aload_n 0, 1) := by decide +kernel
theorem dX7_goesOn_45 : decode cX7_goesOn 45 = .ok (.getfield 13, 3) := by decide +kernel
theorem dX7_goesOn_48 : decode cX7_goesOn 48 = .ok (.iload_n 1, 1) := by decide +kernel
theorem dX7_goesOn_49 : decode cX7_goesOn 49 = .ok (.iaload, 1) := by decide +kernel
theorem dX7_goesOn_50 : decode cX7_goesOn 50 = .ok (.if_icmp .ne 17, 3) := by decide +kernel
theorem dX7_goesOn_53 : decode cX7_goesOn 53 = .ok (.aload_n 0, 1) := by decide +kernel
theorem dX7_goesOn_54 : decode cX7_goesOn 54 = .ok (.getfield 17, 3) := by decide +kernel
theorem dX7_goesOn_57 : decode cX7_goesOn 57 = .ok (.iload_n 3, 1) := by decide +kernel
theorem dX7_goesOn_58 : decode cX7_goesOn 58 = .ok (.iaload, 1) := by decide +kernel
theorem dX7_goesOn_59 : decode cX7_goesOn 59 = .ok (.iload_n 2, 1) := by decide +kernel
theorem dX7_goesOn_60 : decode cX7_goesOn 60 = .ok (.if_icmp .ne 7, 3) := by decide +kernel
theorem dX7_goesOn_63 : decode cX7_goesOn 63 = .ok (.iconst 1, 1) := by decide +kernel
theorem dX7_goesOn_64 : decode cX7_goesOn 64 = .ok (.goto 4, 3) := by decide +kernel
theorem dX7_goesOn_67 : decode cX7_goesOn 67 = .ok (.iconst 0, 1) := by decide +kernel
theorem dX7_goesOn_68 : decode cX7_goesOn 68 = .ok (.istore 4, 2) := by decide +kernel
theorem dX7_goesOn_70 : decode cX7_goesOn 70 = .ok (.aload_n 0, 1) := by decide +kernel
theorem dX7_goesOn_71 : decode cX7_goesOn 71 = .ok (.getfield 81, 3) := by decide +kernel
theorem dX7_goesOn_74 : decode cX7_goesOn 74 = .ok (.iload_n 2, 1) := by decide +kernel
theorem dX7_goesOn_75 : decode cX7_goesOn 75 = .ok (.iload 4, 2) := by decide +kernel
theorem dX7_goesOn_77 : decode cX7_goesOn 77 = .ok (.ifCond .ne 7, 3) := by decide +kernel
theorem dX7_goesOn_80 : decode cX7_goesOn 80 = .ok (.iconst 1, 1) := by decide +kernel
theorem dX7_goesOn_81 : decode cX7_goesOn 81 = .ok (.goto 4, 3) := by decide +kernel
theorem dX7_goesOn_84 : decode cX7_goesOn 84 = .ok (.iconst 0, 1) := by decide +kernel
theorem dX7_goesOn_85 : decode cX7_goesOn 85 = .ok (.bastore, 1) := by decide +kernel
theorem dX7_goesOn_86 : decode cX7_goesOn 86 = .ok (.aload_n 0, 1) := by decide +kernel
theorem dX7_goesOn_87 : decode cX7_goesOn 87 = .ok (.getfield 84, 3) := by decide +kernel
theorem dX7_goesOn_90 : decode cX7_goesOn 90 = .ok (.iload_n 2, 1) := by decide +kernel
theorem dX7_goesOn_91 : decode cX7_goesOn 91 = .ok (.iload_n 3, 1) := by decide +kernel
theorem dX7_goesOn_92 : decode cX7_goesOn 92 = .ok (.iastore, 1) := by decide +kernel
theorem dX7_goesOn_93 : decode cX7_goesOn 93 = .ok (.return_, 1) := by decide +kernel
set_option maxRecDepth 20000 in
theorem ggX7_pass_X7_noNode : GoodIn wsX7_pass wsX7_noNode := goodIn_r _ [13, 6, 92, 93, 94, 95, 96, 97, 98, 99, 100, 101, 102, 103, 104, 105, 106, 107, 108, 109, 110, 111, 112, 113, 114, 115, 116, 117, 118, 119, 120, 121, 122, 123, 124, 125, 126, 127] (by decide +kernel) (by decide +kernel)
set_option maxRecDepth 20000 in
theorem gX7_pass_X7_noNode : GoodIn wsX7_pass (wsV RX7 132 RX7 yX7_noNode wsX7_noNode) := goodIn_app (goodIn_of _ (by decide +kernel)) ggX7_pass_X7_noNode
set_option maxRecDepth 20000 in
theorem ggX7_pass_X7_holds : GoodIn wsX7_pass wsX7_holds := goodIn_r _ [17, 18, 2, 19, 20, 92, 93, 94, 95, 96, 97, 98, 99, 100, 101, 102, 103, 104, 105, 106, 107, 108, 109, 110, 111, 112, 113, 114, 115, 116, 117, 118, 119, 120, 121, 122, 123, 124, 125, 126, 127] (by decide +kernel) (by decide +kernel)
set_option maxRecDepth 20000 in
theorem gX7_pass_X7_holds : GoodIn wsX7_pass (wsV RX7 160 RX7 yX7_holds wsX7_holds) := goodIn_app (goodIn_of _ (by decide +kernel)) ggX7_pass_X7_holds
set_option maxRecDepth 20000 in
theorem ggX7_pass_X7_full : GoodIn wsX7_pass wsX7_full := goodIn_r _ [24, 4, 2, 25, 26, 27, 12, 28, 29, 30, 31, 32, 33, 34, 35, 92, 93, 94, 95, 96, 97, 98, 99, 100, 101, 102, 103, 104, 105, 106, 107, 108, 109, 110, 111, 112, 113, 114, 115, 116, 117, 118, 119, 120, 121, 122, 123, 124, 125, 126, 127] (by decide +kernel) (by decide +kernel)
set_option maxRecDepth 20000 in
theorem gX7_pass_X7_full : GoodIn wsX7_pass (wsV RX7 163 RX7 yX7_full wsX7_full) := goodIn_app (goodIn_of _ (by decide +kernel)) ggX7_pass_X7_full
set_option maxRecDepth 20000 in
theorem ggX7_pass_X7_place : GoodIn wsX7_pass wsX7_place := goodIn_r _ [32] (by decide +kernel) (by decide +kernel)
set_option maxRecDepth 20000 in
theorem gX7_pass_X7_place : GoodIn wsX7_pass (va_wsS RX7 121 yX7_place wsX7_place) := goodIn_app (goodIn_of _ (by decide +kernel)) ggX7_pass_X7_place
set_option maxRecDepth 20000 in
theorem ggX7_pass_X7_hasPlace : GoodIn wsX7_pass wsX7_hasPlace := goodIn_r _ [28, 29, 2, 30, 31, 12, 32, 33, 34, 35, 92, 93, 94, 95, 96, 97, 98, 99, 100, 101, 102, 103, 104, 105, 106, 107, 108, 109, 110, 111, 112, 113, 114, 115, 116, 117, 118, 119, 120, 121, 122, 123, 124, 125, 126, 127] (by decide +kernel) (by decide +kernel)
set_option maxRecDepth 20000 in
theorem gX7_pass_X7_hasPlace : GoodIn wsX7_pass (wsV RX7 129 RX7 yX7_hasPlace wsX7_hasPlace) := goodIn_app (goodIn_of _ (by decide +kernel)) ggX7_pass_X7_hasPlace
set_option maxRecDepth 20000 in
theorem ggX7_pass_X7_comes : GoodIn wsX7_pass wsX7_comes := goodIn_r _ [39, 6, 18, 40, 2, 33, 34, 12, 35, 41, 42, 43, 44, 29, 45, 46, 47, 48, 49, 50, 51, 52, 30, 31, 32, 92, 93, 94, 95, 96, 97, 98, 99, 100, 101, 102, 103, 104, 105, 106, 107, 108, 109, 110, 111, 112, 113, 114, 115, 116, 117, 118, 119, 120, 121, 122, 123, 124, 125, 126, 127] (by decide +kernel) (by decide +kernel)
set_option maxRecDepth 20000 in
theorem gX7_pass_X7_comes : GoodIn wsX7_pass (wsV RX7 156 RX7 yX7_comes wsX7_comes) := goodIn_app (goodIn_of _ (by decide +kernel)) ggX7_pass_X7_comes
set_option maxRecDepth 20000 in
theorem ggX7_pass_X7_give : GoodIn wsX7_pass wsX7_give := goodIn_r _ [56, 2, 57, 58, 4, 59, 50, 60, 52, 61, 45, 62, 29, 5, 30, 31, 12, 32, 41, 42, 43, 44, 46, 47, 48, 49, 51, 36, 37, 38, 39, 6, 18, 40, 33, 34, 35, 92, 93, 94, 95, 96, 97, 98, 99, 100, 101, 102, 103, 104, 105, 106, 107, 108, 109, 110, 111, 112, 113, 114, 115, 116, 117, 118, 119, 120, 121, 122, 123, 124, 125, 126, 127] (by decide +kernel) (by decide +kernel)
set_option maxRecDepth 20000 in
theorem gX7_pass_X7_give : GoodIn wsX7_pass (wsV RX7 167 RX7 yX7_give wsX7_give) := goodIn_app (goodIn_of _ (by decide +kernel)) ggX7_pass_X7_give
set_option maxRecDepth 20000 in
theorem ggX7_pass_X7_isIn : GoodIn wsX7_pass wsX7_isIn := goodIn_r _ [35] (by decide +kernel) (by decide +kernel)
set_option maxRecDepth 20000 in
theorem gX7_pass_X7_isIn : GoodIn wsX7_pass (va_wsS RX7 125 yX7_isIn wsX7_isIn) := goodIn_app (goodIn_of _ (by decide +kernel)) ggX7_pass_X7_isIn
set_option maxRecDepth 20000 in
theorem ggX7_pass_X7_deliverAll : GoodIn wsX7_pass wsX7_deliverAll := goodIn_r _ [66, 67, 4, 2, 45, 8, 25, 26, 27, 12, 28, 29, 30, 31, 32, 33, 34, 35, 68, 69, 70, 71, 59, 50, 52, 47, 46, 72, 73, 74, 75, 76, 77, 78, 79, 80, 81, 82, 83, 84, 85, 86, 87, 92, 93, 94, 95, 96, 97, 98, 99, 100, 101, 102, 103, 104, 105, 106, 107, 108, 109, 110, 111, 112, 113, 114, 115, 116, 117, 118, 119, 120, 121, 122, 123, 124, 125, 126, 127] (by decide +kernel) (by decide +kernel)
set_option maxRecDepth 20000 in
theorem gX7_pass_X7_deliverAll : GoodIn wsX7_pass (wsV RX7 170 RX7 yX7_deliverAll wsX7_deliverAll) := goodIn_app (goodIn_of _ (by decide +kernel)) ggX7_pass_X7_deliverAll
set_option maxRecDepth 20000 in
theorem ggX7_pass_X7_goesOn : GoodIn wsX7_pass wsX7_goesOn := goodIn_r _ [91, 2, 7, 18, 40, 19, 20, 33, 34, 12, 35, 92, 93, 94, 95, 96, 97, 98, 99, 100, 101, 102, 103, 104, 105, 106, 107, 108, 109, 110, 111, 112, 113, 114, 115, 116, 117, 118, 119, 120, 121, 122, 123, 124, 125, 126, 127] (by decide +kernel) (by decide +kernel)
set_option maxRecDepth 20000 in
theorem gX7_pass_X7_goesOn : GoodIn wsX7_pass (wsV RX7 173 RX7 yX7_goesOn wsX7_goesOn) := goodIn_app (goodIn_of _ (by decide +kernel)) ggX7_pass_X7_goesOn
theorem dX7_pass_0 : decode cX7_pass 0 = .ok (.aload_n 0, 1) := by decide +kernel
theorem dX7_pass_1 : decode cX7_pass 1 = .ok (.aload_n 0, 1) := by decide +kernel
theorem dX7_pass_2 : decode cX7_pass 2 = .ok (.iload_n 1, 1) := by decide +kernel
theorem dX7_pass_3 : decode cX7_pass 3 = .ok (.invokevirtual 132, 3) := by decide +kernel
theorem dX7_pass_6 : decode cX7_pass 6 = .ok (.ifCond .eq 7, 3) := by decide +kernel
theorem dX7_pass_9 : decode cX7_pass 9 = .ok (.iconst 1, 1) := by decide +kernel
theorem dX7_pass_10 : decode cX7_pass 10 = .ok (.goto 16, 3) := by decide +kernel
theorem dX7_pass_13 : decode cX7_pass 13 = .ok (.aload_n 0, 1) := by decide +kernel
theorem dX7_pass_14 : decode cX7_pass 14 = .ok (.iload_n 1, 1) := by decide +kernel
theorem dX7_pass_15 : decode cX7_pass 15 = .ok (.invokevirtual 160, 3) := by decide +kernel
theorem dX7_pass_18 : decode cX7_pass 18 = .ok (.ifCond .eq 7, 3) := by decide +kernel
theorem dX7_pass_21 : decode cX7_pass 21 = .ok (.iconst 0, 1) := by decide +kernel
theorem dX7_pass_22 : decode cX7_pass 22 = .ok (.goto 4, 3) := by decide +kernel
theorem dX7_pass_25 : decode cX7_pass 25 = .ok (.iconst 2, 1) := by decide +kernel
theorem dX7_pass_26 : decode cX7_pass 26 = .ok (.putfield 118, 3) := by decide +kernel
theorem dX7_pass_29 : decode cX7_pass 29 = .ok (.aload_n 0, 1) := by decide +kernel
theorem dX7_pass_30 : decode cX7_pass 30 = .ok (.getfield 118, 3) := by decide +kernel
theorem dX7_pass_33 : decode cX7_pass 33 = .ok (.ifCond .le 5, 3) := by decide +kernel
theorem dX7_pass_36 : decode cX7_pass 36 = .ok (.iconst 0, 1) := by decide +kernel
theorem dX7_pass_37 : decode cX7_pass 37 = .ok (.ireturn, 1) := by decide +kernel
theorem dX7_pass_38 : decode cX7_pass 38 = .ok (.aload_n 0, 1) := by decide +kernel
theorem dX7_pass_39 : decode cX7_pass 39 = .ok (.getfield 17, 3) := by decide +kernel
theorem dX7_pass_42 : decode cX7_pass 42 = .ok (.iload_n 1, 1) := by decide +kernel
theorem dX7_pass_43 : decode cX7_pass 43 = .ok (.iaload, 1) := by decide +kernel
theorem dX7_pass_44 : decode cX7_pass 44 = .ok (.istore_n 3, 1) := by decide +kernel
theorem dX7_pass_45 : decode cX7_pass 45 = .ok (.aload_n 0, 1) := by decide +kernel
theorem dX7_pass_46 : decode cX7_pass 46 = .ok (.getfield 108, 3) := by decide +kernel
theorem dX7_pass_49 : decode cX7_pass 49 = .ok (.bipush 8, 2) := by decide +kernel
theorem dX7_pass_51 : decode cX7_pass 51 = .ok (.iload_n 3, 1) := by decide +kernel
theorem dX7_pass_52 : decode cX7_pass 52 = .ok (.imul, 1) := by decide +kernel
theorem dX7_pass_53 : decode cX7_pass 53 = .ok (.iload_n 1, 1) := by decide +kernel
theorem dX7_pass_54 : decode cX7_pass 54 = .ok (.iadd, 1) := by decide +kernel
theorem dX7_pass_55 : decode cX7_pass 55 = .ok (.aload_n 0, 1) := by decide +kernel
theorem dX7_pass_56 : decode cX7_pass 56 = .ok (.iload_n 1, 1) := by decide +kernel
theorem dX7_pass_57 : decode cX7_pass 57 = .ok (.invokevirtual 163, 3) := by decide +kernel
theorem dX7_pass_60 : decode cX7_pass 60 = .ok (.iastore, 1) := by decide +kernel
theorem dX7_pass_61 : decode cX7_pass 61 = .ok (.iconst 1, 1) := by decide +kernel
theorem dX7_pass_62 : decode cX7_pass 62 = .ok (.istore 4, 2) := by decide +kernel
theorem dX7_pass_64 : decode cX7_pass 64 = .ok (.iload 4, 2) := by decide +kernel
theorem dX7_pass_66 : decode cX7_pass 66 = .ok (.aload_n 0, 1) := by decide +kernel
theorem dX7_pass_67 : decode cX7_pass 67 = .ok (.getfield 87, 3) := by decide +kernel
theorem dX7_pass_70 : decode cX7_pass 70 = .ok (.iload_n 3, 1) := by decide +kernel
theorem dX7_pass_71 : decode cX7_pass 71 = .ok (.iaload, 1) := by decide +kernel
theorem dX7_pass_72 : decode cX7_pass 72 = .ok (.if_icmp .gt 53, 3) := by decide +kernel
theorem dX7_pass_75 : decode cX7_pass 75 = .ok (.iload_n 3, 1) := by decide +kernel
theorem dX7_pass_76 : decode cX7_pass 76 = .ok (.iload 4, 2) := by decide +kernel
theorem dX7_pass_78 : decode cX7_pass 78 = .ok (.invokestatic 121, 3) := by decide +kernel
theorem dX7_pass_81 : decode cX7_pass 81 = .ok (.istore 5, 2) := by decide +kernel
theorem dX7_pass_83 : decode cX7_pass 83 = .ok (.aload_n 0, 1) := by decide +kernel
theorem dX7_pass_84 : decode cX7_pass 84 = .ok (.getfield 105, 3) := by decide +kernel
theorem dX7_pass_87 : decode cX7_pass 87 = .ok (.iload 5, 2) := by decide +kernel
theorem dX7_pass_89 : decode cX7_pass 89 = .ok (.baload, 1) := by decide +kernel
theorem dX7_pass_90 : decode cX7_pass 90 = .ok (.ifCond .eq 29, 3) := by decide +kernel
theorem dX7_pass_93 : decode cX7_pass 93 = .ok (.aload_n 0, 1) := by decide +kernel
theorem dX7_pass_94 : decode cX7_pass 94 = .ok (.iload_n 1, 1) := by decide +kernel
theorem dX7_pass_95 : decode cX7_pass 95 = .ok (.iload 4, 2) := by decide +kernel
theorem dX7_pass_97 : decode cX7_pass 97 = .ok (.invokevirtual 129, 3) := by decide +kernel
theorem dX7_pass_100 : decode cX7_pass 100 = .ok (.ifCond .eq 19, 3) := by decide +kernel
theorem dX7_pass_103 : decode cX7_pass 103 = .ok (.aload_n 0, 1) := by decide +kernel
theorem dX7_pass_104 : decode cX7_pass 104 = .ok (.getfield 105, 3) := by decide +kernel
theorem dX7_pass_107 : decode cX7_pass 107 = .ok (.iload 5, 2) := by decide +kernel
theorem dX7_pass_109 : decode cX7_pass 109 = .ok (.iconst 0, 1) := by decide +kernel
theorem dX7_pass_110 : decode cX7_pass 110 = .ok (.bastore, 1) := by decide +kernel
theorem dX7_pass_111 : decode cX7_pass 111 = .ok (.aload_n 0, 1) := by decide +kernel
theorem dX7_pass_112 : decode cX7_pass 112 = .ok (.iload_n 1, 1) := by decide +kernel
theorem dX7_pass_113 : decode cX7_pass 113 = .ok (.iload 4, 2) := by decide +kernel
theorem dX7_pass_115 : decode cX7_pass 115 = .ok (.iload_n 2, 1) := by decide +kernel
theorem dX7_pass_116 : decode cX7_pass 116 = .ok (.invokevirtual 156, 3) := by decide +kernel
theorem dX7_pass_119 : decode cX7_pass 119 = .ok (.iinc 4 1, 3) := by decide +kernel
theorem dX7_pass_122 : decode cX7_pass 122 = .ok (.goto (-58), 3) := by decide +kernel
theorem dX7_pass_125 : decode cX7_pass 125 = .ok (.aload_n 0, 1) := by decide +kernel
theorem dX7_pass_126 : decode cX7_pass 126 = .ok (.iload_n 1, 1) := by decide +kernel
theorem dX7_pass_127 : decode cX7_pass 127 = .ok (.iload_n 2, 1) := by decide +kernel
theorem dX7_pass_128 : decode cX7_pass 128 = .ok (.invokevirtual 167, 3) := by decide +kernel
theorem dX7_pass_131 : decode cX7_pass 131 = .ok (.aload_n 0, 1) := by decide +kernel
theorem dX7_pass_132 : decode cX7_pass 132 = .ok (.getfield 108, 3) := by decide +kernel
theorem dX7_pass_135 : decode cX7_pass 135 = .ok (.bipush 8, 2) := by decide +kernel
theorem dX7_pass_137 : decode cX7_pass 137 = .ok (.iload_n 3, 1) := by decide +kernel
theorem dX7_pass_138 : decode cX7_pass 138 = .ok (.imul, 1) := by decide +kernel
theorem dX7_pass_139 : decode cX7_pass 139 = .ok (.iload_n 1, 1) := by decide +kernel
theorem dX7_pass_140 : decode cX7_pass 140 = .ok (.iadd, 1) := by decide +kernel
theorem dX7_pass_141 : decode cX7_pass 141 = .ok (.aload_n 0, 1) := by decide +kernel
theorem dX7_pass_142 : decode cX7_pass 142 = .ok (.iload_n 1, 1) := by decide +kernel
theorem dX7_pass_143 : decode cX7_pass 143 = .ok (.invokevirtual 163, 3) := by decide +kernel
theorem dX7_pass_146 : decode cX7_pass 146 = .ok (.iastore, 1) := by decide +kernel
theorem dX7_pass_147 : decode cX7_pass 147 = .ok (.bipush 100, 2) := by decide +kernel
theorem dX7_pass_149 : decode cX7_pass 149 = .ok (.istore 4, 2) := by decide +kernel
theorem dX7_pass_151 : decode cX7_pass 151 = .ok (.iconst 0, 1) := by decide +kernel
theorem dX7_pass_152 : decode cX7_pass 152 = .ok (.istore 5, 2) := by decide +kernel
theorem dX7_pass_154 : decode cX7_pass 154 = .ok (.iload 5, 2) := by decide +kernel
theorem dX7_pass_156 : decode cX7_pass 156 = .ok (.aload_n 0, 1) := by decide +kernel
theorem dX7_pass_157 : decode cX7_pass 157 = .ok (.getfield 111, 3) := by decide +kernel
theorem dX7_pass_160 : decode cX7_pass 160 = .ok (.if_icmp .ge 53, 3) := by decide +kernel
theorem dX7_pass_163 : decode cX7_pass 163 = .ok (.aload_n 0, 1) := by decide +kernel
theorem dX7_pass_164 : decode cX7_pass 164 = .ok (.getfield 108, 3) := by decide +kernel
theorem dX7_pass_167 : decode cX7_pass 167 = .ok (.bipush 8, 2) := by decide +kernel
theorem dX7_pass_169 : decode cX7_pass 169 = .ok (.iload_n 3, 1) := by decide +kernel
theorem dX7_pass_170 : decode cX7_pass 170 = .ok (.imul, 1) := by decide +kernel
theorem dX7_pass_171 : decode cX7_pass 171 = .ok (.iload 5, 2) := by decide +kernel
theorem dX7_pass_173 : decode cX7_pass 173 = .ok (.iadd, 1) := by decide +kernel
theorem dX7_pass_174 : decode cX7_pass 174 = .ok (.iaload, 1) := by decide +kernel
theorem dX7_pass_175 : decode cX7_pass 175 = .ok (.istore 6, 2) := by decide +kernel
theorem dX7_pass_177 : decode cX7_pass 177 = .ok (.aload_n 0, 1) := by decide +kernel
theorem dX7_pass_178 : decode cX7_pass 178 = .ok (.getfield 78, 3) := by decide +kernel
theorem dX7_pass_181 : decode cX7_pass 181 = .ok (.iload_n 3, 1) := by decide +kernel
theorem dX7_pass_182 : decode cX7_pass 182 = .ok (.iaload, 1) := by decide +kernel
theorem dX7_pass_183 : decode cX7_pass 183 = .ok (.iload 5, 2) := by decide +kernel
theorem dX7_pass_185 : decode cX7_pass 185 = .ok (.invokestatic 125, 3) := by decide +kernel
theorem dX7_pass_188 : decode cX7_pass 188 = .ok (.ifCond .eq 15, 3) := by decide +kernel
theorem dX7_pass_191 : decode cX7_pass 191 = .ok (.iload 6, 2) := by decide +kernel
theorem dX7_pass_193 : decode cX7_pass 193 = .ok (.iload 4, 2) := by decide +kernel
theorem dX7_pass_195 : decode cX7_pass 195 = .ok (.if_icmp .ge 8, 3) := by decide +kernel
theorem dX7_pass_198 : decode cX7_pass 198 = .ok (.iload 6, 2) := by decide +kernel
theorem dX7_pass_200 : decode cX7_pass 200 = .ok (.goto 5, 3) := by decide +kernel
theorem dX7_pass_203 : decode cX7_pass 203 = .ok (.iload 4, 2) := by decide +kernel
theorem dX7_pass_205 : decode cX7_pass 205 = .ok (.istore 4, 2) := by decide +kernel
theorem dX7_pass_207 : decode cX7_pass 207 = .ok (.iinc 5 1, 3) := by decide +kernel
theorem dX7_pass_210 : decode cX7_pass 210 = .ok (.goto (-56), 3) := by decide +kernel
theorem dX7_pass_213 : decode cX7_pass 213 = .ok (.aload_n 0, 1) := by decide +kernel
theorem dX7_pass_214 : decode cX7_pass 214 = .ok (.getfield 54, 3) := by decide +kernel
theorem dX7_pass_217 : decode cX7_pass 217 = .ok (.iload_n 1, 1) := by decide +kernel
theorem dX7_pass_218 : decode cX7_pass 218 = .ok (.iload 4, 2) := by decide +kernel
theorem dX7_pass_220 : decode cX7_pass 220 = .ok (.aload_n 0, 1) := by decide +kernel
theorem dX7_pass_221 : decode cX7_pass 221 = .ok (.getfield 54, 3) := by decide +kernel
theorem dX7_pass_224 : decode cX7_pass 224 = .ok (.iload_n 1, 1) := by decide +kernel
theorem dX7_pass_225 : decode cX7_pass 225 = .ok (.iaload, 1) := by decide +kernel
theorem dX7_pass_226 : decode cX7_pass 226 = .ok (.if_icmp .le 8, 3) := by decide +kernel
theorem dX7_pass_229 : decode cX7_pass 229 = .ok (.iload 4, 2) := by decide +kernel
theorem dX7_pass_231 : decode cX7_pass 231 = .ok (.goto 9, 3) := by decide +kernel
theorem dX7_pass_234 : decode cX7_pass 234 = .ok (.aload_n 0, 1) := by decide +kernel
theorem dX7_pass_235 : decode cX7_pass 235 = .ok (.getfield 54, 3) := by decide +kernel
theorem dX7_pass_238 : decode cX7_pass 238 = .ok (.iload_n 1, 1) := by decide +kernel
theorem dX7_pass_239 : decode cX7_pass 239 = .ok (.iaload, 1) := by decide +kernel
theorem dX7_pass_240 : decode cX7_pass 240 = .ok (.iastore, 1) := by decide +kernel
theorem dX7_pass_241 : decode cX7_pass 241 = .ok (.iconst 1, 1) := by decide +kernel
theorem dX7_pass_242 : decode cX7_pass 242 = .ok (.istore 5, 2) := by decide +kernel
theorem dX7_pass_244 : decode cX7_pass 244 = .ok (.iload 5, 2) := by decide +kernel
theorem dX7_pass_246 : decode cX7_pass 246 = .ok (.aload_n 0, 1) := by decide +kernel
theorem dX7_pass_247 : decode cX7_pass 247 = .ok (.getfield 87, 3) := by decide +kernel
theorem dX7_pass_250 : decode cX7_pass 250 = .ok (.iload_n 3, 1) := by decide +kernel
theorem dX7_pass_251 : decode cX7_pass 251 = .ok (.iaload, 1) := by decide +kernel
theorem dX7_pass_252 : decode cX7_pass 252 = .ok (.if_icmp .gt 38, 3) := by decide +kernel
theorem dX7_pass_255 : decode cX7_pass 255 = .ok (.aload_n 0, 1) := by decide +kernel
theorem dX7_pass_256 : decode cX7_pass 256 = .ok (.getfield 105, 3) := by decide +kernel
theorem dX7_pass_259 : decode cX7_pass 259 = .ok (.iload_n 3, 1) := by decide +kernel
theorem dX7_pass_260 : decode cX7_pass 260 = .ok (.iload 5, 2) := by decide +kernel
theorem dX7_pass_262 : decode cX7_pass 262 = .ok (.invokestatic 121, 3) := by decide +kernel
theorem dX7_pass_265 : decode cX7_pass 265 = .ok (.dup2, 1) := by decide +kernel
theorem dX7_pass_266 : decode cX7_pass 266 = .ok (.baload, 1) := by decide +kernel
theorem dX7_pass_267 : decode cX7_pass 267 = .ok (.aload_n 0, 1) := by decide +kernel
theorem dX7_pass_268 : decode cX7_pass 268 = .ok (.iload_n 1, 1) := by decide +kernel
theorem dX7_pass_269 : decode cX7_pass 269 = .ok (.iload 5, 2) := by decide +kernel
theorem dX7_pass_271 : decode cX7_pass 271 = .ok (.invokevirtual 129, 3) := by decide +kernel
theorem dX7_pass_274 : decode cX7_pass 274 = .ok (.ifCond .ne 7, 3) := by decide +kernel
theorem dX7_pass_277 : decode cX7_pass 277 = .ok (.iconst 1, 1) := by decide +kernel
theorem dX7_pass_278 : decode cX7_pass 278 = .ok (.goto 4, 3) := by decide +kernel
theorem dX7_pass_281 : decode cX7_pass 281 = .ok (.iconst 0, 1) := by decide +kernel
theorem dX7_pass_282 : decode cX7_pass 282 = .ok (.ior, 1) := by decide +kernel
theorem dX7_pass_283 : decode cX7_pass 283 = .ok (.bastore, 1) := by decide +kernel
theorem dX7_pass_284 : decode cX7_pass 284 = .ok (.iinc 5 1, 3) := by decide +kernel
theorem dX7_pass_287 : decode cX7_pass 287 = .ok (.goto (-43), 3) := by decide +kernel
theorem dX7_pass_290 : decode cX7_pass 290 = .ok (.aload_n 0, 1) := by decide +kernel
theorem dX7_pass_291 : decode cX7_pass 291 = .ok (.iload_n 1, 1) := by decide +kernel
theorem dX7_pass_292 : decode cX7_pass 292 = .ok (.invokevirtual 170, 3) := by decide +kernel
theorem dX7_pass_295 : decode cX7_pass 295 = .ok (.istore 5, 2) := by decide +kernel
theorem dX7_pass_297 : decode cX7_pass 297 = .ok (.aload_n 0, 1) := by decide +kernel
theorem dX7_pass_298 : decode cX7_pass 298 = .ok (.iload_n 1, 1) := by decide +kernel
theorem dX7_pass_299 : decode cX7_pass 299 = .ok (.invokevirtual 173, 3) := by decide +kernel
theorem dX7_pass_302 : decode cX7_pass 302 = .ok (.iload 5, 2) := by decide +kernel
theorem dX7_pass_304 : decode cX7_pass 304 = .ok (.ireturn, 1) := by decide +kernel
theorem dX7_together_0 : decode cX7_together 0 = .ok (.iconst 0, 1) := by decide +kernel
theorem dX7_together_1 : decode cX7_together 1 = .ok (.istore_n 2, 1) := by decide +kernel
theorem dX7_together_2 : decode cX7_together 2 = .ok (.iconst 0, 1) := by decide +kernel
theorem dX7_together_3 : decode cX7_together 3 = .ok (.istore_n 3, 1) := by decide +kernel
theorem dX7_together_4 : decode cX7_together 4 = .ok (.iload_n 3, 1) := by decide +kernel
theorem dX7_together_5 : decode cX7_together 5 = .ok (.aload_n 0, 1) := by decide +kernel
theorem dX7_together_6 : decode cX7_together 6 = .ok (.getfield 111, 3) := by decide +kernel
theorem dX7_together_9 : decode cX7_together 9 = .ok (.if_icmp .ge 43, 3) := by decide +kernel
theorem dX7_together_12 : decode cX7_together 12 = .ok (.aload_n 0, 1) := by decide +kernel
theorem dX7_together_13 : decode cX7_together 13 = .ok (.getfield 7, 3) := by decide +kernel
theorem dX7_together_16 : decode cX7_together 16 = .ok (.iload_n 3, 1) := by decide +kernel
theorem dX7_together_17 : decode cX7_together 17 = .ok (.baload, 1) := by decide +kernel
theorem dX7_together_18 : decode cX7_together 18 = .ok (.ifCond .eq 26, 3) := by decide +kernel
theorem dX7_together_21 : decode cX7_together 21 = .ok (.aload_n 0, 1) := by decide +kernel
theorem dX7_together_22 : decode cX7_together 22 = .ok (.getfield 13, 3) := by decide +kernel
theorem dX7_together_25 : decode cX7_together 25 = .ok (.iload_n 3, 1) := by decide +kernel
theorem dX7_together_26 : decode cX7_together 26 = .ok (.iaload, 1) := by decide +kernel
theorem dX7_together_27 : decode cX7_together 27 = .ok (.aload_n 0, 1) := by decide +kernel
theorem dX7_together_28 : decode cX7_together 28 = .ok (.getfield 13, 3) := by decide +kernel
theorem dX7_together_31 : decode cX7_together 31 = .ok (.iload_n 1, 1) := by decide +kernel
theorem dX7_together_32 : decode cX7_together 32 = .ok (.iaload, 1) := by decide +kernel
theorem dX7_together_33 : decode cX7_together 33 = .ok (.if_icmp .ne 11, 3) := by decide +kernel
theorem dX7_together_36 : decode cX7_together 36 = .ok (.iload_n 2, 1) := by decide +kernel
theorem dX7_together_37 : decode cX7_together 37 = .ok (.iconst 1, 1) := by decide +kernel
theorem dX7_together_38 : decode cX7_together 38 = .ok (.iload_n 3, 1) := by decide +kernel
theorem dX7_together_39 : decode cX7_together 39 = .ok (.ishl, 1) := by decide +kernel
theorem dX7_together_40 : decode cX7_together 40 = .ok (.ior, 1) := by decide +kernel
theorem dX7_together_41 : decode cX7_together 41 = .ok (.goto 4, 3) := by decide +kernel
theorem dX7_together_44 : decode cX7_together 44 = .ok (.iload_n 2, 1) := by decide +kernel
theorem dX7_together_45 : decode cX7_together 45 = .ok (.istore_n 2, 1) := by decide +kernel
theorem dX7_together_46 : decode cX7_together 46 = .ok (.iinc 3 1, 3) := by decide +kernel
theorem dX7_together_49 : decode cX7_together 49 = .ok (.goto (-45), 3) := by decide +kernel
theorem dX7_together_52 : decode cX7_together 52 = .ok (.iload_n 2, 1) := by decide +kernel
theorem dX7_together_53 : decode cX7_together 53 = .ok (.ireturn, 1) := by decide +kernel
theorem dX7_count_0 : decode cX7_count 0 = .ok (.iconst 0, 1) := by decide +kernel
theorem dX7_count_1 : decode cX7_count 1 = .ok (.istore_n 1, 1) := by decide +kernel
theorem dX7_count_2 : decode cX7_count 2 = .ok (.iconst 0, 1) := by decide +kernel
theorem dX7_count_3 : decode cX7_count 3 = .ok (.istore_n 2, 1) := by decide +kernel
theorem dX7_count_4 : decode cX7_count 4 = .ok (.iload_n 2, 1) := by decide +kernel
theorem dX7_count_5 : decode cX7_count 5 = .ok (.bipush 8, 2) := by decide +kernel
theorem dX7_count_7 : decode cX7_count 7 = .ok (.if_icmp .ge 17, 3) := by decide +kernel
theorem dX7_count_10 : decode cX7_count 10 = .ok (.iload_n 1, 1) := by decide +kernel
theorem dX7_count_11 : decode cX7_count 11 = .ok (.iload_n 0, 1) := by decide +kernel
theorem dX7_count_12 : decode cX7_count 12 = .ok (.iload_n 2, 1) := by decide +kernel
theorem dX7_count_13 : decode cX7_count 13 = .ok (.ishr, 1) := by decide +kernel
theorem dX7_count_14 : decode cX7_count 14 = .ok (.iconst 1, 1) := by decide +kernel
theorem dX7_count_15 : decode cX7_count 15 = .ok (.iand, 1) := by decide +kernel
theorem dX7_count_16 : decode cX7_count 16 = .ok (.iadd, 1) := by decide +kernel
theorem dX7_count_17 : decode cX7_count 17 = .ok (.istore_n 1, 1) := by decide +kernel
theorem dX7_count_18 : decode cX7_count 18 = .ok (.iinc 2 1, 3) := by decide +kernel
theorem dX7_count_21 : decode cX7_count 21 = .ok (.goto (-17), 3) := by decide +kernel
theorem dX7_count_24 : decode cX7_count 24 = .ok (.iload_n 1, 1) := by decide +kernel
theorem dX7_count_25 : decode cX7_count 25 = .ok (.ireturn, 1) := by decide +kernel
set_option maxRecDepth 20000 in
theorem ggX7_least_X7_isIn : GoodIn wsX7_least wsX7_isIn := goodIn_r _ [4] (by decide +kernel) (by decide +kernel)
set_option maxRecDepth 20000 in
theorem gX7_least_X7_isIn : GoodIn wsX7_least (va_wsS RX7 125 yX7_isIn wsX7_isIn) := goodIn_app (goodIn_of _ (by decide +kernel)) ggX7_least_X7_isIn
theorem dX7_least_0 : decode cX7_least 0 = .ok (.iconst 0, 1) := by decide +kernel
theorem dX7_least_1 : decode cX7_least 1 = .ok (.istore_n 1, 1) := by decide +kernel
theorem dX7_least_2 : decode cX7_least 2 = .ok (.iload_n 0, 1) := by decide +kernel
theorem dX7_least_3 : decode cX7_least 3 = .ok (.iload_n 1, 1) := by decide +kernel
theorem dX7_least_4 : decode cX7_least 4 = .ok (.invokestatic 125, 3) := by decide +kernel
theorem dX7_least_7 : decode cX7_least 7 = .ok (.ifCond .ne 9, 3) := by decide +kernel
theorem dX7_least_10 : decode cX7_least 10 = .ok (.iinc 1 1, 3) := by decide +kernel
theorem dX7_least_13 : decode cX7_least 13 = .ok (.goto (-11), 3) := by decide +kernel
theorem dX7_least_16 : decode cX7_least 16 = .ok (.iload_n 1, 1) := by decide +kernel
theorem dX7_least_17 : decode cX7_least 17 = .ok (.ireturn, 1) := by decide +kernel
set_option maxRecDepth 20000 in
theorem ggX7_isWhole_X7_least : GoodIn wsX7_isWhole wsX7_least := goodIn_r _ [8, 9, 10, 7, 11] (by decide +kernel) (by decide +kernel)
set_option maxRecDepth 20000 in
theorem gX7_isWhole_X7_least : GoodIn wsX7_isWhole (va_wsS RX7 177 yX7_least wsX7_least) := goodIn_app (goodIn_of _ (by decide +kernel)) ggX7_isWhole_X7_least
set_option maxRecDepth 20000 in
theorem ggX7_isWhole_X7_isIn : GoodIn wsX7_isWhole wsX7_isIn := goodIn_r _ [11] (by decide +kernel) (by decide +kernel)
set_option maxRecDepth 20000 in
theorem gX7_isWhole_X7_isIn : GoodIn wsX7_isWhole (va_wsS RX7 125 yX7_isIn wsX7_isIn) := goodIn_app (goodIn_of _ (by decide +kernel)) ggX7_isWhole_X7_isIn
theorem dX7_isWhole_0 : decode cX7_isWhole 0 = .ok (.aload_n 0, 1) := by decide +kernel
theorem dX7_isWhole_1 : decode cX7_isWhole 1 = .ok (.getfield 17, 3) := by decide +kernel
theorem dX7_isWhole_4 : decode cX7_isWhole 4 = .ok (.iload_n 1, 1) := by decide +kernel
theorem dX7_isWhole_5 : decode cX7_isWhole 5 = .ok (.invokestatic 177, 3) := by decide +kernel
theorem dX7_isWhole_8 : decode cX7_isWhole 8 = .ok (.iaload, 1) := by decide +kernel
theorem dX7_isWhole_9 : decode cX7_isWhole 9 = .ok (.istore_n 2, 1) := by decide +kernel
theorem dX7_isWhole_10 : decode cX7_isWhole 10 = .ok (.iload_n 2, 1) := by decide +kernel
theorem dX7_isWhole_11 : decode cX7_isWhole 11 = .ok (.iconst (-1), 1) := by decide +kernel
theorem dX7_isWhole_12 : decode cX7_isWhole 12 = .ok (.if_icmp .eq 26, 3) := by decide +kernel
theorem dX7_isWhole_15 : decode cX7_isWhole 15 = .ok (.aload_n 0, 1) := by decide +kernel
theorem dX7_isWhole_16 : decode cX7_isWhole 16 = .ok (.getfield 78, 3) := by decide +kernel
theorem dX7_isWhole_19 : decode cX7_isWhole 19 = .ok (.iload_n 2, 1) := by decide +kernel
theorem dX7_isWhole_20 : decode cX7_isWhole 20 = .ok (.iaload, 1) := by decide +kernel
theorem dX7_isWhole_21 : decode cX7_isWhole 21 = .ok (.iload_n 1, 1) := by decide +kernel
theorem dX7_isWhole_22 : decode cX7_isWhole 22 = .ok (.if_icmp .ne 16, 3) := by decide +kernel
theorem dX7_isWhole_25 : decode cX7_isWhole 25 = .ok (.aload_n 0, 1) := by decide +kernel
theorem dX7_isWhole_26 : decode cX7_isWhole 26 = .ok (.getfield 81, 3) := by decide +kernel
theorem dX7_isWhole_29 : decode cX7_isWhole 29 = .ok (.iload_n 2, 1) := by decide +kernel
theorem dX7_isWhole_30 : decode cX7_isWhole 30 = .ok (.baload, 1) := by decide +kernel
theorem dX7_isWhole_31 : decode cX7_isWhole 31 = .ok (.ifCond .ne 7, 3) := by decide +kernel
theorem dX7_isWhole_34 : decode cX7_isWhole 34 = .ok (.iconst 1, 1) := by decide +kernel
theorem dX7_isWhole_35 : decode cX7_isWhole 35 = .ok (.goto 4, 3) := by decide +kernel
theorem dX7_isWhole_38 : decode cX7_isWhole 38 = .ok (.iconst 0, 1) := by decide +kernel
theorem dX7_isWhole_39 : decode cX7_isWhole 39 = .ok (.istore_n 3, 1) := by decide +kernel
theorem dX7_isWhole_40 : decode cX7_isWhole 40 = .ok (.iconst 0, 1) := by decide +kernel
theorem dX7_isWhole_41 : decode cX7_isWhole 41 = .ok (.istore 4, 2) := by decide +kernel
theorem dX7_isWhole_43 : decode cX7_isWhole 43 = .ok (.iload 4, 2) := by decide +kernel
theorem dX7_isWhole_45 : decode cX7_isWhole 45 = .ok (.aload_n 0, 1) := by decide +kernel
theorem dX7_isWhole_46 : decode cX7_isWhole 46 = .ok (.getfield 111, 3) := by decide +kernel
theorem dX7_isWhole_49 : decode cX7_isWhole 49 = .ok (.if_icmp .ge 39, 3) := by decide +kernel
theorem dX7_isWhole_52 : decode cX7_isWhole 52 = .ok (.iload_n 3, 1) := by decide +kernel
theorem dX7_isWhole_53 : decode cX7_isWhole 53 = .ok (.ifCond .eq 35, 3) := by decide +kernel
theorem dX7_isWhole_56 : decode cX7_isWhole 56 = .ok (.iload_n 1, 1) := by decide +kernel
theorem dX7_isWhole_57 : decode cX7_isWhole 57 = .ok (.iload 4, 2) := by decide +kernel
theorem dX7_isWhole_59 : decode cX7_isWhole 59 = .ok (.invokestatic 125, 3) := by decide +kernel
theorem dX7_isWhole_62 : decode cX7_isWhole 62 = .ok (.ifCond .eq 14, 3) := by decide +kernel
theorem dX7_isWhole_65 : decode cX7_isWhole 65 = .ok (.aload_n 0, 1) := by decide +kernel
theorem dX7_isWhole_66 : decode cX7_isWhole 66 = .ok (.getfield 17, 3) := by decide +kernel
theorem dX7_isWhole_69 : decode cX7_isWhole 69 = .ok (.iload 4, 2) := by decide +kernel
theorem dX7_isWhole_71 : decode cX7_isWhole 71 = .ok (.iaload, 1) := by decide +kernel
theorem dX7_isWhole_72 : decode cX7_isWhole 72 = .ok (.iload_n 2, 1) := by decide +kernel
theorem dX7_isWhole_73 : decode cX7_isWhole 73 = .ok (.if_icmp .ne 7, 3) := by decide +kernel
theorem dX7_isWhole_76 : decode cX7_isWhole 76 = .ok (.iconst 1, 1) := by decide +kernel
theorem dX7_isWhole_77 : decode cX7_isWhole 77 = .ok (.goto 4, 3) := by decide +kernel
theorem dX7_isWhole_80 : decode cX7_isWhole 80 = .ok (.iconst 0, 1) := by decide +kernel
theorem dX7_isWhole_81 : decode cX7_isWhole 81 = .ok (.istore_n 3, 1) := by decide +kernel
theorem dX7_isWhole_82 : decode cX7_isWhole 82 = .ok (.iinc 4 1, 3) := by decide +kernel
theorem dX7_isWhole_85 : decode cX7_isWhole 85 = .ok (.goto (-42), 3) := by decide +kernel
theorem dX7_isWhole_88 : decode cX7_isWhole 88 = .ok (.iload_n 3, 1) := by decide +kernel
theorem dX7_isWhole_89 : decode cX7_isWhole 89 = .ok (.ireturn, 1) := by decide +kernel
set_option maxRecDepth 20000 in
theorem ggX7_voter_X7_least : GoodIn wsX7_voter wsX7_least := goodIn_r _ [6, 7, 8, 5, 9] (by decide +kernel) (by decide +kernel)
set_option maxRecDepth 20000 in
theorem gX7_voter_X7_least : GoodIn wsX7_voter (va_wsS RX7 177 yX7_least wsX7_least) := goodIn_app (goodIn_of _ (by decide +kernel)) ggX7_voter_X7_least
set_option maxRecDepth 20000 in
theorem ggX7_voter_X7_isIn : GoodIn wsX7_voter wsX7_isIn := goodIn_r _ [9] (by decide +kernel) (by decide +kernel)
set_option maxRecDepth 20000 in
theorem gX7_voter_X7_isIn : GoodIn wsX7_voter (va_wsS RX7 125 yX7_isIn wsX7_isIn) := goodIn_app (goodIn_of _ (by decide +kernel)) ggX7_voter_X7_isIn
theorem dX7_voter_0 : decode cX7_voter 0 = .ok (.iload_n 1, 1) := by decide +kernel
theorem dX7_voter_1 : decode cX7_voter 1 = .ok (.invokestatic 177, 3) := by decide +kernel
theorem dX7_voter_4 : decode cX7_voter 4 = .ok (.istore_n 2, 1) := by decide +kernel
theorem dX7_voter_5 : decode cX7_voter 5 = .ok (.iconst 0, 1) := by decide +kernel
theorem dX7_voter_6 : decode cX7_voter 6 = .ok (.istore_n 3, 1) := by decide +kernel
theorem dX7_voter_7 : decode cX7_voter 7 = .ok (.iload_n 3, 1) := by decide +kernel
theorem dX7_voter_8 : decode cX7_voter 8 = .ok (.aload_n 0, 1) := by decide +kernel
theorem dX7_voter_9 : decode cX7_voter 9 = .ok (.getfield 111, 3) := by decide +kernel
theorem dX7_voter_12 : decode cX7_voter 12 = .ok (.if_icmp .ge 38, 3) := by decide +kernel
theorem dX7_voter_15 : decode cX7_voter 15 = .ok (.iload_n 1, 1) := by decide +kernel
theorem dX7_voter_16 : decode cX7_voter 16 = .ok (.iload_n 3, 1) := by decide +kernel
theorem dX7_voter_17 : decode cX7_voter 17 = .ok (.invokestatic 125, 3) := by decide +kernel
theorem dX7_voter_20 : decode cX7_voter 20 = .ok (.ifCond .eq 22, 3) := by decide +kernel
theorem dX7_voter_23 : decode cX7_voter 23 = .ok (.aload_n 0, 1) := by decide +kernel
theorem dX7_voter_24 : decode cX7_voter 24 = .ok (.getfield 33, 3) := by decide +kernel
theorem dX7_voter_27 : decode cX7_voter 27 = .ok (.iload_n 3, 1) := by decide +kernel
theorem dX7_voter_28 : decode cX7_voter 28 = .ok (.iaload, 1) := by decide +kernel
theorem dX7_voter_29 : decode cX7_voter 29 = .ok (.aload_n 0, 1) := by decide +kernel
theorem dX7_voter_30 : decode cX7_voter 30 = .ok (.getfield 33, 3) := by decide +kernel
theorem dX7_voter_33 : decode cX7_voter 33 = .ok (.iload_n 2, 1) := by decide +kernel
theorem dX7_voter_34 : decode cX7_voter 34 = .ok (.iaload, 1) := by decide +kernel
theorem dX7_voter_35 : decode cX7_voter 35 = .ok (.if_icmp .le 7, 3) := by decide +kernel
theorem dX7_voter_38 : decode cX7_voter 38 = .ok (.iload_n 3, 1) := by decide +kernel
theorem dX7_voter_39 : decode cX7_voter 39 = .ok (.goto 4, 3) := by decide +kernel
theorem dX7_voter_42 : decode cX7_voter 42 = .ok (.iload_n 2, 1) := by decide +kernel
theorem dX7_voter_43 : decode cX7_voter 43 = .ok (.istore_n 2, 1) := by decide +kernel
theorem dX7_voter_44 : decode cX7_voter 44 = .ok (.iinc 3 1, 3) := by decide +kernel
theorem dX7_voter_47 : decode cX7_voter 47 = .ok (.goto (-40), 3) := by decide +kernel
theorem dX7_voter_50 : decode cX7_voter 50 = .ok (.iload_n 2, 1) := by decide +kernel
theorem dX7_voter_51 : decode cX7_voter 51 = .ok (.ireturn, 1) := by decide +kernel
set_option maxRecDepth 20000 in
theorem ggX7_isPrimary_X7_voter : GoodIn wsX7_isPrimary wsX7_voter := goodIn_r _ [6, 7, 8, 9, 10, 5, 11, 12, 13, 14, 18, 19, 20, 21, 22, 23, 24, 25, 26, 27, 28, 29, 30, 31, 32, 33, 34, 35, 36, 37, 38, 39, 40, 41, 42, 43, 44, 45, 46, 47, 48, 49, 50, 51, 52, 53] (by decide +kernel) (by decide +kernel)
set_option maxRecDepth 20000 in
theorem gX7_isPrimary_X7_voter : GoodIn wsX7_isPrimary (wsV RX7 180 RX7 yX7_voter wsX7_voter) := goodIn_app (goodIn_of _ (by decide +kernel)) ggX7_isPrimary_X7_voter
set_option maxRecDepth 20000 in
theorem ggX7_isPrimary_X7_count : GoodIn wsX7_isPrimary wsX7_count := goodIn_r _ [17] (by decide +kernel) (by decide +kernel)
set_option maxRecDepth 20000 in
theorem gX7_isPrimary_X7_count : GoodIn wsX7_isPrimary (va_wsS RX7 183 yX7_count wsX7_count) := goodIn_app (goodIn_of _ (by decide +kernel)) ggX7_isPrimary_X7_count
set_option maxRecDepth 20000 in
theorem ggX7_isPrimary_X7_least : GoodIn wsX7_isPrimary wsX7_least := goodIn_r _ [11, 12, 13, 5, 14] (by decide +kernel) (by decide +kernel)
set_option maxRecDepth 20000 in
theorem gX7_isPrimary_X7_least : GoodIn wsX7_isPrimary (va_wsS RX7 177 yX7_least wsX7_least) := goodIn_app (goodIn_of _ (by decide +kernel)) ggX7_isPrimary_X7_least
set_option maxRecDepth 20000 in
theorem ggX7_isPrimary_X7_isIn : GoodIn wsX7_isPrimary wsX7_isIn := goodIn_r _ [14] (by decide +kernel) (by decide +kernel)
set_option maxRecDepth 20000 in
theorem gX7_isPrimary_X7_isIn : GoodIn wsX7_isPrimary (va_wsS RX7 125 yX7_isIn wsX7_isIn) := goodIn_app (goodIn_of _ (by decide +kernel)) ggX7_isPrimary_X7_isIn
theorem dX7_isPrimary_0 : decode cX7_isPrimary 0 = .ok (.aload_n 0, 1) := by decide +kernel
theorem dX7_isPrimary_1 : decode cX7_isPrimary 1 = .ok (.getfield 36, 3) := by decide +kernel
theorem dX7_isPrimary_4 : decode cX7_isPrimary 4 = .ok (.aload_n 0, 1) := by decide +kernel
theorem dX7_isPrimary_5 : decode cX7_isPrimary 5 = .ok (.iload_n 1, 1) := by decide +kernel
theorem dX7_isPrimary_6 : decode cX7_isPrimary 6 = .ok (.invokevirtual 180, 3) := by decide +kernel
theorem dX7_isPrimary_9 : decode cX7_isPrimary 9 = .ok (.iaload, 1) := by decide +kernel
theorem dX7_isPrimary_10 : decode cX7_isPrimary 10 = .ok (.istore_n 2, 1) := by decide +kernel
theorem dX7_isPrimary_11 : decode cX7_isPrimary 11 = .ok (.iconst 2, 1) := by decide +kernel
theorem dX7_isPrimary_12 : decode cX7_isPrimary 12 = .ok (.iload_n 2, 1) := by decide +kernel
theorem dX7_isPrimary_13 : decode cX7_isPrimary 13 = .ok (.iload_n 1, 1) := by decide +kernel
theorem dX7_isPrimary_14 : decode cX7_isPrimary 14 = .ok (.iand, 1) := by decide +kernel
theorem dX7_isPrimary_15 : decode cX7_isPrimary 15 = .ok (.invokestatic 183, 3) := by decide +kernel
theorem dX7_isPrimary_18 : decode cX7_isPrimary 18 = .ok (.imul, 1) := by decide +kernel
theorem dX7_isPrimary_19 : decode cX7_isPrimary 19 = .ok (.istore_n 3, 1) := by decide +kernel
theorem dX7_isPrimary_20 : decode cX7_isPrimary 20 = .ok (.iload_n 3, 1) := by decide +kernel
theorem dX7_isPrimary_21 : decode cX7_isPrimary 21 = .ok (.iload_n 2, 1) := by decide +kernel
theorem dX7_isPrimary_22 : decode cX7_isPrimary 22 = .ok (.invokestatic 183, 3) := by decide +kernel
theorem dX7_isPrimary_25 : decode cX7_isPrimary 25 = .ok (.if_icmp .gt 22, 3) := by decide +kernel
theorem dX7_isPrimary_28 : decode cX7_isPrimary 28 = .ok (.iload_n 3, 1) := by decide +kernel
theorem dX7_isPrimary_29 : decode cX7_isPrimary 29 = .ok (.iload_n 2, 1) := by decide +kernel
theorem dX7_isPrimary_30 : decode cX7_isPrimary 30 = .ok (.invokestatic 183, 3) := by decide +kernel
theorem dX7_isPrimary_33 : decode cX7_isPrimary 33 = .ok (.if_icmp .ne 18, 3) := by decide +kernel
theorem dX7_isPrimary_36 : decode cX7_isPrimary 36 = .ok (.iload_n 1, 1) := by decide +kernel
theorem dX7_isPrimary_37 : decode cX7_isPrimary 37 = .ok (.iload_n 2, 1) := by decide +kernel
theorem dX7_isPrimary_38 : decode cX7_isPrimary 38 = .ok (.invokestatic 177, 3) := by decide +kernel
theorem dX7_isPrimary_41 : decode cX7_isPrimary 41 = .ok (.invokestatic 125, 3) := by decide +kernel
theorem dX7_isPrimary_44 : decode cX7_isPrimary 44 = .ok (.ifCond .eq 7, 3) := by decide +kernel
theorem dX7_isPrimary_47 : decode cX7_isPrimary 47 = .ok (.iconst 1, 1) := by decide +kernel
theorem dX7_isPrimary_48 : decode cX7_isPrimary 48 = .ok (.goto 4, 3) := by decide +kernel
theorem dX7_isPrimary_51 : decode cX7_isPrimary 51 = .ok (.iconst 0, 1) := by decide +kernel
theorem dX7_isPrimary_52 : decode cX7_isPrimary 52 = .ok (.ireturn, 1) := by decide +kernel
set_option maxRecDepth 20000 in
theorem ggX7_of_X7_isIn : GoodIn wsX7_of wsX7_isIn := goodIn_r _ [6] (by decide +kernel) (by decide +kernel)
set_option maxRecDepth 20000 in
theorem gX7_of_X7_isIn : GoodIn wsX7_of (va_wsS RX7 125 yX7_isIn wsX7_isIn) := goodIn_app (goodIn_of _ (by decide +kernel)) ggX7_of_X7_isIn
theorem dX7_of_0 : decode cX7_of 0 = .ok (.iconst 0, 1) := by decide +kernel
theorem dX7_of_1 : decode cX7_of 1 = .ok (.istore_n 3, 1) := by decide +kernel
theorem dX7_of_2 : decode cX7_of 2 = .ok (.iconst 0, 1) := by decide +kernel
theorem dX7_of_3 : decode cX7_of 3 = .ok (.istore 4, 2) := by decide +kernel
theorem dX7_of_5 : decode cX7_of 5 = .ok (.iload 4, 2) := by decide +kernel
theorem dX7_of_7 : decode cX7_of 7 = .ok (.aload_n 0, 1) := by decide +kernel
theorem dX7_of_8 : decode cX7_of 8 = .ok (.getfield 111, 3) := by decide +kernel
theorem dX7_of_11 : decode cX7_of 11 = .ok (.if_icmp .ge 40, 3) := by decide +kernel
theorem dX7_of_14 : decode cX7_of 14 = .ok (.iload_n 1, 1) := by decide +kernel
theorem dX7_of_15 : decode cX7_of 15 = .ok (.iload 4, 2) := by decide +kernel
theorem dX7_of_17 : decode cX7_of 17 = .ok (.invokestatic 125, 3) := by decide +kernel
theorem dX7_of_20 : decode cX7_of 20 = .ok (.ifCond .eq 23, 3) := by decide +kernel
theorem dX7_of_23 : decode cX7_of 23 = .ok (.aload_n 0, 1) := by decide +kernel
theorem dX7_of_24 : decode cX7_of 24 = .ok (.getfield 17, 3) := by decide +kernel
theorem dX7_of_27 : decode cX7_of 27 = .ok (.iload 4, 2) := by decide +kernel
theorem dX7_of_29 : decode cX7_of 29 = .ok (.iaload, 1) := by decide +kernel
theorem dX7_of_30 : decode cX7_of 30 = .ok (.iload_n 2, 1) := by decide +kernel
theorem dX7_of_31 : decode cX7_of 31 = .ok (.if_icmp .ne 12, 3) := by decide +kernel
theorem dX7_of_34 : decode cX7_of 34 = .ok (.iload_n 3, 1) := by decide +kernel
theorem dX7_of_35 : decode cX7_of 35 = .ok (.iconst 1, 1) := by decide +kernel
theorem dX7_of_36 : decode cX7_of 36 = .ok (.iload 4, 2) := by decide +kernel
theorem dX7_of_38 : decode cX7_of 38 = .ok (.ishl, 1) := by decide +kernel
theorem dX7_of_39 : decode cX7_of 39 = .ok (.ior, 1) := by decide +kernel
theorem dX7_of_40 : decode cX7_of 40 = .ok (.goto 4, 3) := by decide +kernel
theorem dX7_of_43 : decode cX7_of 43 = .ok (.iload_n 3, 1) := by decide +kernel
theorem dX7_of_44 : decode cX7_of 44 = .ok (.istore_n 3, 1) := by decide +kernel
theorem dX7_of_45 : decode cX7_of 45 = .ok (.iinc 4 1, 3) := by decide +kernel
theorem dX7_of_48 : decode cX7_of 48 = .ok (.goto (-43), 3) := by decide +kernel
theorem dX7_of_51 : decode cX7_of 51 = .ok (.iload_n 3, 1) := by decide +kernel
theorem dX7_of_52 : decode cX7_of 52 = .ok (.ireturn, 1) := by decide +kernel
set_option maxRecDepth 20000 in
theorem ggX7_nextRing_X7_of : GoodIn wsX7_nextRing wsX7_of := goodIn_r _ [5, 6, 7, 8, 9, 4, 10, 20, 21, 22, 23, 24, 25, 26, 27, 28, 29, 30, 31, 32, 33, 34, 35, 36, 37, 38, 39, 40, 41, 42, 43, 44, 45, 46, 47, 48, 49, 50, 51, 52, 53, 54, 55] (by decide +kernel) (by decide +kernel)
set_option maxRecDepth 20000 in
theorem gX7_nextRing_X7_of : GoodIn wsX7_nextRing (wsV RX7 186 RX7 yX7_of wsX7_of) := goodIn_app (goodIn_of _ (by decide +kernel)) ggX7_nextRing_X7_of
set_option maxRecDepth 20000 in
theorem ggX7_nextRing_X7_isBefore : GoodIn wsX7_nextRing wsX7_isBefore := goodIn_r _ [14, 15, 16, 17, 18, 4, 19, 8, 9, 10, 20, 21, 22, 23, 24, 25, 26, 27, 28, 29, 30, 31, 32, 33, 34, 35, 36, 37, 38, 39, 40, 41, 42, 43, 44, 45, 46, 47, 48, 49, 50, 51, 52, 53, 54, 55] (by decide +kernel) (by decide +kernel)
set_option maxRecDepth 20000 in
theorem gX7_nextRing_X7_isBefore : GoodIn wsX7_nextRing (wsV RX7 189 RX7 yX7_isBefore wsX7_isBefore) := goodIn_app (goodIn_of _ (by decide +kernel)) ggX7_nextRing_X7_isBefore
theorem dX7_nextRing_0 : decode cX7_nextRing 0 = .ok (.iconst (-1), 1) := by decide +kernel
theorem dX7_nextRing_1 : decode cX7_nextRing 1 = .ok (.istore_n 3, 1) := by decide +kernel
theorem dX7_nextRing_2 : decode cX7_nextRing 2 = .ok (.iconst 0, 1) := by decide +kernel
theorem dX7_nextRing_3 : decode cX7_nextRing 3 = .ok (.istore 4, 2) := by decide +kernel
theorem dX7_nextRing_5 : decode cX7_nextRing 5 = .ok (.iload 4, 2) := by decide +kernel
theorem dX7_nextRing_7 : decode cX7_nextRing 7 = .ok (.bipush 16, 2) := by decide +kernel
theorem dX7_nextRing_9 : decode cX7_nextRing 9 = .ok (.if_icmp .ge 52, 3) := by decide +kernel
theorem dX7_nextRing_12 : decode cX7_nextRing 12 = .ok (.aload_n 0, 1) := by decide +kernel
theorem dX7_nextRing_13 : decode cX7_nextRing 13 = .ok (.iload_n 1, 1) := by decide +kernel
theorem dX7_nextRing_14 : decode cX7_nextRing 14 = .ok (.iload 4, 2) := by decide +kernel
theorem dX7_nextRing_16 : decode cX7_nextRing 16 = .ok (.invokevirtual 186, 3) := by decide +kernel
theorem dX7_nextRing_19 : decode cX7_nextRing 19 = .ok (.ifCond .eq 36, 3) := by decide +kernel
theorem dX7_nextRing_22 : decode cX7_nextRing 22 = .ok (.iload_n 2, 1) := by decide +kernel
theorem dX7_nextRing_23 : decode cX7_nextRing 23 = .ok (.iconst (-1), 1) := by decide +kernel
theorem dX7_nextRing_24 : decode cX7_nextRing 24 = .ok (.if_icmp .eq 13, 3) := by decide +kernel
theorem dX7_nextRing_27 : decode cX7_nextRing 27 = .ok (.aload_n 0, 1) := by decide +kernel
theorem dX7_nextRing_28 : decode cX7_nextRing 28 = .ok (.iload_n 2, 1) := by decide +kernel
theorem dX7_nextRing_29 : decode cX7_nextRing 29 = .ok (.iload 4, 2) := by decide +kernel
theorem dX7_nextRing_31 : decode cX7_nextRing 31 = .ok (.invokevirtual 189, 3) := by decide +kernel
theorem dX7_nextRing_34 : decode cX7_nextRing 34 = .ok (.ifCond .eq 21, 3) := by decide +kernel
theorem dX7_nextRing_37 : decode cX7_nextRing 37 = .ok (.iload_n 3, 1) := by decide +kernel
theorem dX7_nextRing_38 : decode cX7_nextRing 38 = .ok (.iconst (-1), 1) := by decide +kernel
theorem dX7_nextRing_39 : decode cX7_nextRing 39 = .ok (.if_icmp .eq 13, 3) := by decide +kernel
theorem dX7_nextRing_42 : decode cX7_nextRing 42 = .ok (.aload_n 0, 1) := by decide +kernel
theorem dX7_nextRing_43 : decode cX7_nextRing 43 = .ok (.iload 4, 2) := by decide +kernel
theorem dX7_nextRing_45 : decode cX7_nextRing 45 = .ok (.iload_n 3, 1) := by decide +kernel
theorem dX7_nextRing_46 : decode cX7_nextRing 46 = .ok (.invokevirtual 189, 3) := by decide +kernel
theorem dX7_nextRing_49 : decode cX7_nextRing 49 = .ok (.ifCond .eq 6, 3) := by decide +kernel
theorem dX7_nextRing_52 : decode cX7_nextRing 52 = .ok (.iload 4, 2) := by decide +kernel
theorem dX7_nextRing_54 : decode cX7_nextRing 54 = .ok (.istore_n 3, 1) := by decide +kernel
theorem dX7_nextRing_55 : decode cX7_nextRing 55 = .ok (.iinc 4 1, 3) := by decide +kernel
theorem dX7_nextRing_58 : decode cX7_nextRing 58 = .ok (.goto (-53), 3) := by decide +kernel
theorem dX7_nextRing_61 : decode cX7_nextRing 61 = .ok (.iload_n 3, 1) := by decide +kernel
theorem dX7_nextRing_62 : decode cX7_nextRing 62 = .ok (.ireturn, 1) := by decide +kernel
set_option maxRecDepth 20000 in
theorem ggX7_isBefore_X7_least : GoodIn wsX7_isBefore wsX7_least := goodIn_r _ [6, 7, 8, 5, 9] (by decide +kernel) (by decide +kernel)
set_option maxRecDepth 20000 in
theorem gX7_isBefore_X7_least : GoodIn wsX7_isBefore (va_wsS RX7 177 yX7_least wsX7_least) := goodIn_app (goodIn_of _ (by decide +kernel)) ggX7_isBefore_X7_least
theorem dX7_isBefore_0 : decode cX7_isBefore 0 = .ok (.aload_n 0, 1) := by decide +kernel
theorem dX7_isBefore_1 : decode cX7_isBefore 1 = .ok (.getfield 75, 3) := by decide +kernel
theorem dX7_isBefore_4 : decode cX7_isBefore 4 = .ok (.iload_n 1, 1) := by decide +kernel
theorem dX7_isBefore_5 : decode cX7_isBefore 5 = .ok (.iaload, 1) := by decide +kernel
theorem dX7_isBefore_6 : decode cX7_isBefore 6 = .ok (.aload_n 0, 1) := by decide +kernel
theorem dX7_isBefore_7 : decode cX7_isBefore 7 = .ok (.getfield 75, 3) := by decide +kernel
theorem dX7_isBefore_10 : decode cX7_isBefore 10 = .ok (.iload_n 2, 1) := by decide +kernel
theorem dX7_isBefore_11 : decode cX7_isBefore 11 = .ok (.iaload, 1) := by decide +kernel
theorem dX7_isBefore_12 : decode cX7_isBefore 12 = .ok (.if_icmp .lt 39, 3) := by decide +kernel
theorem dX7_isBefore_15 : decode cX7_isBefore 15 = .ok (.aload_n 0, 1) := by decide +kernel
theorem dX7_isBefore_16 : decode cX7_isBefore 16 = .ok (.getfield 75, 3) := by decide +kernel
theorem dX7_isBefore_19 : decode cX7_isBefore 19 = .ok (.iload_n 1, 1) := by decide +kernel
theorem dX7_isBefore_20 : decode cX7_isBefore 20 = .ok (.iaload, 1) := by decide +kernel
theorem dX7_isBefore_21 : decode cX7_isBefore 21 = .ok (.aload_n 0, 1) := by decide +kernel
theorem dX7_isBefore_22 : decode cX7_isBefore 22 = .ok (.getfield 75, 3) := by decide +kernel
theorem dX7_isBefore_25 : decode cX7_isBefore 25 = .ok (.iload_n 2, 1) := by decide +kernel
theorem dX7_isBefore_26 : decode cX7_isBefore 26 = .ok (.iaload, 1) := by decide +kernel
theorem dX7_isBefore_27 : decode cX7_isBefore 27 = .ok (.if_icmp .ne 28, 3) := by decide +kernel
theorem dX7_isBefore_30 : decode cX7_isBefore 30 = .ok (.aload_n 0, 1) := by decide +kernel
theorem dX7_isBefore_31 : decode cX7_isBefore 31 = .ok (.getfield 78, 3) := by decide +kernel
theorem dX7_isBefore_34 : decode cX7_isBefore 34 = .ok (.iload_n 1, 1) := by decide +kernel
theorem dX7_isBefore_35 : decode cX7_isBefore 35 = .ok (.iaload, 1) := by decide +kernel
theorem dX7_isBefore_36 : decode cX7_isBefore 36 = .ok (.invokestatic 177, 3) := by decide +kernel
theorem dX7_isBefore_39 : decode cX7_isBefore 39 = .ok (.aload_n 0, 1) := by decide +kernel
theorem dX7_isBefore_40 : decode cX7_isBefore 40 = .ok (.getfield 78, 3) := by decide +kernel
theorem dX7_isBefore_43 : decode cX7_isBefore 43 = .ok (.iload_n 2, 1) := by decide +kernel
theorem dX7_isBefore_44 : decode cX7_isBefore 44 = .ok (.iaload, 1) := by decide +kernel
theorem dX7_isBefore_45 : decode cX7_isBefore 45 = .ok (.invokestatic 177, 3) := by decide +kernel
theorem dX7_isBefore_48 : decode cX7_isBefore 48 = .ok (.if_icmp .ge 7, 3) := by decide +kernel
theorem dX7_isBefore_51 : decode cX7_isBefore 51 = .ok (.iconst 1, 1) := by decide +kernel
theorem dX7_isBefore_52 : decode cX7_isBefore 52 = .ok (.goto 4, 3) := by decide +kernel
theorem dX7_isBefore_55 : decode cX7_isBefore 55 = .ok (.iconst 0, 1) := by decide +kernel
theorem dX7_isBefore_56 : decode cX7_isBefore 56 = .ok (.ireturn, 1) := by decide +kernel
set_option maxRecDepth 20000 in
theorem ggX7_end_X7_isIn : GoodIn wsX7_end wsX7_isIn := goodIn_r _ [12] (by decide +kernel) (by decide +kernel)
set_option maxRecDepth 20000 in
theorem gX7_end_X7_isIn : GoodIn wsX7_end (va_wsS RX7 125 yX7_isIn wsX7_isIn) := goodIn_app (goodIn_of _ (by decide +kernel)) ggX7_end_X7_isIn
set_option maxRecDepth 20000 in
theorem ggX7_end_X7_place : GoodIn wsX7_end wsX7_place := goodIn_r _ [15] (by decide +kernel) (by decide +kernel)
set_option maxRecDepth 20000 in
theorem gX7_end_X7_place : GoodIn wsX7_end (va_wsS RX7 121 yX7_place wsX7_place) := goodIn_app (goodIn_of _ (by decide +kernel)) ggX7_end_X7_place
set_option maxRecDepth 20000 in
theorem ggX7_end_X7_gets : GoodIn wsX7_end wsX7_gets := goodIn_r _ [19, 20, 4, 21, 22, 6, 23, 24, 25, 26, 27, 13, 14, 11, 15, 56, 57, 58, 59, 60, 61, 62, 63, 64, 65, 66, 67, 68, 69, 70, 71, 72, 73, 74, 75, 76, 77, 78, 79, 80, 81, 82, 83, 84, 85, 86, 87, 88, 89, 90, 91] (by decide +kernel) (by decide +kernel)
set_option maxRecDepth 20000 in
theorem gX7_end_X7_gets : GoodIn wsX7_end (wsV RX7 152 RX7 yX7_gets wsX7_gets) := goodIn_app (goodIn_of _ (by decide +kernel)) ggX7_end_X7_gets
set_option maxRecDepth 20000 in
theorem ggX7_end_X7_deliverAll : GoodIn wsX7_end wsX7_deliverAll := goodIn_r _ [31, 7, 3, 20, 21, 2, 32, 33, 34, 11, 35, 4, 13, 14, 15, 9, 10, 12, 36, 37, 38, 39, 8, 25, 27, 6, 22, 40, 41, 42, 43, 44, 45, 46, 47, 48, 49, 50, 51, 52, 53, 54, 55, 56, 57, 58, 59, 60, 61, 62, 63, 64, 65, 66, 67, 68, 69, 70, 71, 72, 73, 74, 75, 76, 77, 78, 79, 80, 81, 82, 83, 84, 85, 86, 87, 88, 89, 90, 91] (by decide +kernel) (by decide +kernel)
set_option maxRecDepth 20000 in
theorem gX7_end_X7_deliverAll : GoodIn wsX7_end (wsV RX7 170 RX7 yX7_deliverAll wsX7_deliverAll) := goodIn_app (goodIn_of _ (by decide +kernel)) ggX7_end_X7_deliverAll
set_option maxRecDepth 20000 in
theorem ggX7_end_X7_tell : GoodIn wsX7_end wsX7_tell := goodIn_r _ [43, 44, 45, 56, 57, 58, 59, 60, 61, 62, 63, 64, 65, 66, 67, 68, 69, 70, 71, 72, 73, 74, 75, 76, 77, 78, 79, 80, 81, 82, 83, 84, 85, 86, 87, 88, 89, 90, 91] (by decide +kernel) (by decide +kernel)
set_option maxRecDepth 20000 in
theorem gX7_end_X7_tell : GoodIn wsX7_end (wsV RX7 140 RX7 yX7_tell wsX7_tell) := goodIn_app (goodIn_of _ (by decide +kernel)) ggX7_end_X7_tell
set_option maxRecDepth 20000 in
theorem ggX7_end_X7_hasPlace : GoodIn wsX7_end wsX7_hasPlace := goodIn_r _ [35, 4, 20, 13, 14, 11, 15, 9, 10, 12, 56, 57, 58, 59, 60, 61, 62, 63, 64, 65, 66, 67, 68, 69, 70, 71, 72, 73, 74, 75, 76, 77, 78, 79, 80, 81, 82, 83, 84, 85, 86, 87, 88, 89, 90, 91] (by decide +kernel) (by decide +kernel)
set_option maxRecDepth 20000 in
theorem gX7_end_X7_hasPlace : GoodIn wsX7_end (wsV RX7 129 RX7 yX7_hasPlace wsX7_hasPlace) := goodIn_app (goodIn_of _ (by decide +kernel)) ggX7_end_X7_hasPlace
set_option maxRecDepth 20000 in
theorem ggX7_end_X7_deliver : GoodIn wsX7_end wsX7_deliver := goodIn_r _ [39, 20, 8, 25, 27, 6, 21, 22, 13, 14, 11, 15, 40, 41, 42, 43, 44, 45, 46, 47, 48, 49, 50, 51, 52, 53, 54, 55, 56, 57, 58, 59, 60, 61, 62, 63, 64, 65, 66, 67, 68, 69, 70, 71, 72, 73, 74, 75, 76, 77, 78, 79, 80, 81, 82, 83, 84, 85, 86, 87, 88, 89, 90, 91] (by decide +kernel) (by decide +kernel)
set_option maxRecDepth 20000 in
theorem gX7_end_X7_deliver : GoodIn wsX7_end (wsV RX7 148 RX7 yX7_deliver wsX7_deliver) := goodIn_app (goodIn_of _ (by decide +kernel)) ggX7_end_X7_deliver
theorem dX7_end_0 : decode cX7_end 0 = .ok (.iconst 0, 1) := by decide +kernel
theorem dX7_end_1 : decode cX7_end 1 = .ok (.istore_n 3, 1) := by decide +kernel
theorem dX7_end_2 : decode cX7_end 2 = .ok (.iconst 0, 1) := by decide +kernel
theorem dX7_end_3 : decode cX7_end 3 = .ok (.istore 4, 2) := by decide +kernel
theorem dX7_end_5 : decode cX7_end 5 = .ok (.iload 4, 2) := by decide +kernel
theorem dX7_end_7 : decode cX7_end 7 = .ok (.aload_n 0, 1) := by decide +kernel
theorem dX7_end_8 : decode cX7_end 8 = .ok (.getfield 111, 3) := by decide +kernel
theorem dX7_end_11 : decode cX7_end 11 = .ok (.if_icmp .ge 41, 3) := by decide +kernel
theorem dX7_end_14 : decode cX7_end 14 = .ok (.iload_n 2, 1) := by decide +kernel
theorem dX7_end_15 : decode cX7_end 15 = .ok (.iload 4, 2) := by decide +kernel
theorem dX7_end_17 : decode cX7_end 17 = .ok (.invokestatic 125, 3) := by decide +kernel
theorem dX7_end_20 : decode cX7_end 20 = .ok (.ifCond .eq 24, 3) := by decide +kernel
theorem dX7_end_23 : decode cX7_end 23 = .ok (.aload_n 0, 1) := by decide +kernel
theorem dX7_end_24 : decode cX7_end 24 = .ok (.getfield 54, 3) := by decide +kernel
theorem dX7_end_27 : decode cX7_end 27 = .ok (.iload 4, 2) := by decide +kernel
theorem dX7_end_29 : decode cX7_end 29 = .ok (.iaload, 1) := by decide +kernel
theorem dX7_end_30 : decode cX7_end 30 = .ok (.iload_n 3, 1) := by decide +kernel
theorem dX7_end_31 : decode cX7_end 31 = .ok (.if_icmp .le 13, 3) := by decide +kernel
theorem dX7_end_34 : decode cX7_end 34 = .ok (.aload_n 0, 1) := by decide +kernel
theorem dX7_end_35 : decode cX7_end 35 = .ok (.getfield 54, 3) := by decide +kernel
theorem dX7_end_38 : decode cX7_end 38 = .ok (.iload 4, 2) := by decide +kernel
theorem dX7_end_40 : decode cX7_end 40 = .ok (.iaload, 1) := by decide +kernel
theorem dX7_end_41 : decode cX7_end 41 = .ok (.goto 4, 3) := by decide +kernel
theorem dX7_end_44 : decode cX7_end 44 = .ok (.iload_n 3, 1) := by decide +kernel
theorem dX7_end_45 : decode cX7_end 45 = .ok (.istore_n 3, 1) := by decide +kernel
theorem dX7_end_46 : decode cX7_end 46 = .ok (.iinc 4 1, 3) := by decide +kernel
theorem dX7_end_49 : decode cX7_end 49 = .ok (.goto (-44), 3) := by decide +kernel
theorem dX7_end_52 : decode cX7_end 52 = .ok (.iconst 1, 1) := by decide +kernel
theorem dX7_end_53 : decode cX7_end 53 = .ok (.istore 4, 2) := by decide +kernel
theorem dX7_end_55 : decode cX7_end 55 = .ok (.iload 4, 2) := by decide +kernel
theorem dX7_end_57 : decode cX7_end 57 = .ok (.aload_n 0, 1) := by decide +kernel
theorem dX7_end_58 : decode cX7_end 58 = .ok (.getfield 87, 3) := by decide +kernel
theorem dX7_end_61 : decode cX7_end 61 = .ok (.iload_n 1, 1) := by decide +kernel
theorem dX7_end_62 : decode cX7_end 62 = .ok (.iaload, 1) := by decide +kernel
theorem dX7_end_63 : decode cX7_end 63 = .ok (.if_icmp .gt 72, 3) := by decide +kernel
theorem dX7_end_66 : decode cX7_end 66 = .ok (.aload_n 0, 1) := by decide +kernel
theorem dX7_end_67 : decode cX7_end 67 = .ok (.getfield 102, 3) := by decide +kernel
theorem dX7_end_70 : decode cX7_end 70 = .ok (.iload_n 1, 1) := by decide +kernel
theorem dX7_end_71 : decode cX7_end 71 = .ok (.iload 4, 2) := by decide +kernel
theorem dX7_end_73 : decode cX7_end 73 = .ok (.invokestatic 121, 3) := by decide +kernel
theorem dX7_end_76 : decode cX7_end 76 = .ok (.iaload, 1) := by decide +kernel
theorem dX7_end_77 : decode cX7_end 77 = .ok (.iload_n 2, 1) := by decide +kernel
theorem dX7_end_78 : decode cX7_end 78 = .ok (.iand, 1) := by decide +kernel
theorem dX7_end_79 : decode cX7_end 79 = .ok (.ifCond .eq 7, 3) := by decide +kernel
theorem dX7_end_82 : decode cX7_end 82 = .ok (.iconst 1, 1) := by decide +kernel
theorem dX7_end_83 : decode cX7_end 83 = .ok (.goto 4, 3) := by decide +kernel
theorem dX7_end_86 : decode cX7_end 86 = .ok (.iconst 0, 1) := by decide +kernel
theorem dX7_end_87 : decode cX7_end 87 = .ok (.istore 5, 2) := by decide +kernel
theorem dX7_end_89 : decode cX7_end 89 = .ok (.iconst 0, 1) := by decide +kernel
theorem dX7_end_90 : decode cX7_end 90 = .ok (.istore 6, 2) := by decide +kernel
theorem dX7_end_92 : decode cX7_end 92 = .ok (.iload 6, 2) := by decide +kernel
theorem dX7_end_94 : decode cX7_end 94 = .ok (.aload_n 0, 1) := by decide +kernel
theorem dX7_end_95 : decode cX7_end 95 = .ok (.getfield 111, 3) := by decide +kernel
theorem dX7_end_98 : decode cX7_end 98 = .ok (.if_icmp .ge 31, 3) := by decide +kernel
theorem dX7_end_101 : decode cX7_end 101 = .ok (.iload 5, 2) := by decide +kernel
theorem dX7_end_103 : decode cX7_end 103 = .ok (.ifCond .eq 26, 3) := by decide +kernel
theorem dX7_end_106 : decode cX7_end 106 = .ok (.iload_n 2, 1) := by decide +kernel
theorem dX7_end_107 : decode cX7_end 107 = .ok (.iload 6, 2) := by decide +kernel
theorem dX7_end_109 : decode cX7_end 109 = .ok (.invokestatic 125, 3) := by decide +kernel
theorem dX7_end_112 : decode cX7_end 112 = .ok (.ifCond .eq 11, 3) := by decide +kernel
theorem dX7_end_115 : decode cX7_end 115 = .ok (.aload_n 0, 1) := by decide +kernel
theorem dX7_end_116 : decode cX7_end 116 = .ok (.iload 6, 2) := by decide +kernel
theorem dX7_end_118 : decode cX7_end 118 = .ok (.iload 4, 2) := by decide +kernel
theorem dX7_end_120 : decode cX7_end 120 = .ok (.invokevirtual 152, 3) := by decide +kernel
theorem dX7_end_123 : decode cX7_end 123 = .ok (.iinc 6 1, 3) := by decide +kernel
theorem dX7_end_126 : decode cX7_end 126 = .ok (.goto (-34), 3) := by decide +kernel
theorem dX7_end_129 : decode cX7_end 129 = .ok (.iinc 4 1, 3) := by decide +kernel
theorem dX7_end_132 : decode cX7_end 132 = .ok (.goto (-77), 3) := by decide +kernel
end
section
theorem dX7_end_135 : decode cX7_end 135 = .ok (.iconst 0, 1) := by decide +kernel
theorem dX7_end_136 : decode cX7_end 136 = .ok (.istore 4, 2) := by decide +kernel
theorem dX7_end_138 : decode cX7_end 138 = .ok (.iload 4, 2) := by decide +kernel
theorem dX7_end_140 : decode cX7_end 140 = .ok (.aload_n 0, 1) := by decide +kernel
theorem dX7_end_141 : decode cX7_end 141 = .ok (.getfield 111, 3) := by decide +kernel
theorem dX7_end_144 : decode cX7_end 144 = .ok (.if_icmp .ge 150, 3) := by decide +kernel
theorem dX7_end_147 : decode cX7_end 147 = .ok (.iload_n 2, 1) := by decide +kernel
theorem dX7_end_148 : decode cX7_end 148 = .ok (.iload 4, 2) := by decide +kernel
theorem dX7_end_150 : decode cX7_end 150 = .ok (.invokestatic 125, 3) := by decide +kernel
theorem dX7_end_153 : decode cX7_end 153 = .ok (.ifCond .eq 135, 3) := by decide +kernel
theorem dX7_end_156 : decode cX7_end 156 = .ok (.aload_n 0, 1) := by decide +kernel
theorem dX7_end_157 : decode cX7_end 157 = .ok (.getfield 54, 3) := by decide +kernel
theorem dX7_end_160 : decode cX7_end 160 = .ok (.iload 4, 2) := by decide +kernel
theorem dX7_end_162 : decode cX7_end 162 = .ok (.iload_n 3, 1) := by decide +kernel
theorem dX7_end_163 : decode cX7_end 163 = .ok (.iastore, 1) := by decide +kernel
theorem dX7_end_164 : decode cX7_end 164 = .ok (.aload_n 0, 1) := by decide +kernel
theorem dX7_end_165 : decode cX7_end 165 = .ok (.iload 4, 2) := by decide +kernel
theorem dX7_end_167 : decode cX7_end 167 = .ok (.invokevirtual 170, 3) := by decide +kernel
theorem dX7_end_170 : decode cX7_end 170 = .ok (.istore 5, 2) := by decide +kernel
theorem dX7_end_172 : decode cX7_end 172 = .ok (.aload_n 0, 1) := by decide +kernel
theorem dX7_end_173 : decode cX7_end 173 = .ok (.iload 4, 2) := by decide +kernel
theorem dX7_end_175 : decode cX7_end 175 = .ok (.ldc2_w 192, 3) := by decide +kernel
theorem dX7_end_178 : decode cX7_end 178 = .ok (.iload_n 2, 1) := by decide +kernel
theorem dX7_end_179 : decode cX7_end 179 = .ok (.i2l, 1) := by decide +kernel
theorem dX7_end_180 : decode cX7_end 180 = .ok (.lconst 0, 1) := by decide +kernel
theorem dX7_end_181 : decode cX7_end 181 = .ok (.lconst 0, 1) := by decide +kernel
theorem dX7_end_182 : decode cX7_end 182 = .ok (.lconst 0, 1) := by decide +kernel
theorem dX7_end_183 : decode cX7_end 183 = .ok (.aload_n 0, 1) := by decide +kernel
theorem dX7_end_184 : decode cX7_end 184 = .ok (.getfield 75, 3) := by decide +kernel
theorem dX7_end_187 : decode cX7_end 187 = .ok (.iload_n 1, 1) := by decide +kernel
theorem dX7_end_188 : decode cX7_end 188 = .ok (.iaload, 1) := by decide +kernel
theorem dX7_end_189 : decode cX7_end 189 = .ok (.i2l, 1) := by decide +kernel
theorem dX7_end_190 : decode cX7_end 190 = .ok (.invokevirtual 140, 3) := by decide +kernel
theorem dX7_end_193 : decode cX7_end 193 = .ok (.iconst 0, 1) := by decide +kernel
theorem dX7_end_194 : decode cX7_end 194 = .ok (.istore 6, 2) := by decide +kernel
theorem dX7_end_196 : decode cX7_end 196 = .ok (.aload_n 0, 1) := by decide +kernel
theorem dX7_end_197 : decode cX7_end 197 = .ok (.getfield 51, 3) := by decide +kernel
theorem dX7_end_200 : decode cX7_end 200 = .ok (.iload 4, 2) := by decide +kernel
theorem dX7_end_202 : decode cX7_end 202 = .ok (.iaload, 1) := by decide +kernel
theorem dX7_end_203 : decode cX7_end 203 = .ok (.iconst 1, 1) := by decide +kernel
theorem dX7_end_204 : decode cX7_end 204 = .ok (.iadd, 1) := by decide +kernel
theorem dX7_end_205 : decode cX7_end 205 = .ok (.istore 7, 2) := by decide +kernel
theorem dX7_end_207 : decode cX7_end 207 = .ok (.iload 7, 2) := by decide +kernel
theorem dX7_end_209 : decode cX7_end 209 = .ok (.aload_n 0, 1) := by decide +kernel
theorem dX7_end_210 : decode cX7_end 210 = .ok (.getfield 87, 3) := by decide +kernel
theorem dX7_end_213 : decode cX7_end 213 = .ok (.iload_n 1, 1) := by decide +kernel
theorem dX7_end_214 : decode cX7_end 214 = .ok (.iaload, 1) := by decide +kernel
theorem dX7_end_215 : decode cX7_end 215 = .ok (.if_icmp .gt 73, 3) := by decide +kernel
theorem dX7_end_218 : decode cX7_end 218 = .ok (.aload_n 0, 1) := by decide +kernel
theorem dX7_end_219 : decode cX7_end 219 = .ok (.iload 4, 2) := by decide +kernel
theorem dX7_end_221 : decode cX7_end 221 = .ok (.iload 7, 2) := by decide +kernel
theorem dX7_end_223 : decode cX7_end 223 = .ok (.invokevirtual 129, 3) := by decide +kernel
theorem dX7_end_226 : decode cX7_end 226 = .ok (.istore 8, 2) := by decide +kernel
theorem dX7_end_228 : decode cX7_end 228 = .ok (.iload 6, 2) := by decide +kernel
theorem dX7_end_230 : decode cX7_end 230 = .ok (.ifCond .ne 8, 3) := by decide +kernel
theorem dX7_end_233 : decode cX7_end 233 = .ok (.iload 8, 2) := by decide +kernel
theorem dX7_end_235 : decode cX7_end 235 = .ok (.ifCond .ne 7, 3) := by decide +kernel
theorem dX7_end_238 : decode cX7_end 238 = .ok (.iconst 1, 1) := by decide +kernel
theorem dX7_end_239 : decode cX7_end 239 = .ok (.goto 4, 3) := by decide +kernel
theorem dX7_end_242 : decode cX7_end 242 = .ok (.iconst 0, 1) := by decide +kernel
theorem dX7_end_243 : decode cX7_end 243 = .ok (.istore 6, 2) := by decide +kernel
theorem dX7_end_245 : decode cX7_end 245 = .ok (.iload 8, 2) := by decide +kernel
theorem dX7_end_247 : decode cX7_end 247 = .ok (.ifCond .eq 35, 3) := by decide +kernel
theorem dX7_end_250 : decode cX7_end 250 = .ok (.iload 6, 2) := by decide +kernel
theorem dX7_end_252 : decode cX7_end 252 = .ok (.ifCond .eq 21, 3) := by decide +kernel
theorem dX7_end_255 : decode cX7_end 255 = .ok (.iload_n 2, 1) := by decide +kernel
theorem dX7_end_256 : decode cX7_end 256 = .ok (.aload_n 0, 1) := by decide +kernel
theorem dX7_end_257 : decode cX7_end 257 = .ok (.getfield 90, 3) := by decide +kernel
theorem dX7_end_260 : decode cX7_end 260 = .ok (.iload_n 1, 1) := by decide +kernel
theorem dX7_end_261 : decode cX7_end 261 = .ok (.iload 7, 2) := by decide +kernel
theorem dX7_end_263 : decode cX7_end 263 = .ok (.invokestatic 121, 3) := by decide +kernel
theorem dX7_end_266 : decode cX7_end 266 = .ok (.iaload, 1) := by decide +kernel
theorem dX7_end_267 : decode cX7_end 267 = .ok (.invokestatic 125, 3) := by decide +kernel
theorem dX7_end_270 : decode cX7_end 270 = .ok (.ifCond .eq 12, 3) := by decide +kernel
theorem dX7_end_273 : decode cX7_end 273 = .ok (.aload_n 0, 1) := by decide +kernel
theorem dX7_end_274 : decode cX7_end 274 = .ok (.iload 4, 2) := by decide +kernel
theorem dX7_end_276 : decode cX7_end 276 = .ok (.iload 7, 2) := by decide +kernel
theorem dX7_end_278 : decode cX7_end 278 = .ok (.iconst 0, 1) := by decide +kernel
theorem dX7_end_279 : decode cX7_end 279 = .ok (.invokevirtual 148, 3) := by decide +kernel
theorem dX7_end_282 : decode cX7_end 282 = .ok (.iinc 7 1, 3) := by decide +kernel
theorem dX7_end_285 : decode cX7_end 285 = .ok (.goto (-78), 3) := by decide +kernel
theorem dX7_end_288 : decode cX7_end 288 = .ok (.iinc 4 1, 3) := by decide +kernel
theorem dX7_end_291 : decode cX7_end 291 = .ok (.goto (-153), 3) := by decide +kernel
theorem dX7_end_294 : decode cX7_end 294 = .ok (.return_, 1) := by decide +kernel
set_option maxRecDepth 20000 in
theorem ggX7_share_X7_voter : GoodIn wsX7_share wsX7_voter := goodIn_r _ [14, 2, 1, 15, 16, 13, 17, 18, 19, 20, 27, 28, 29, 30, 31, 32, 33, 34, 35, 36, 37, 38, 39, 40, 41, 42, 43, 44, 45, 46, 47, 48, 49, 50, 51, 52, 53, 54, 55, 56, 57, 58, 59, 60, 61, 62] (by decide +kernel) (by decide +kernel)
set_option maxRecDepth 20000 in
theorem gX7_share_X7_voter : GoodIn wsX7_share (wsV RX7 180 RX7 yX7_voter wsX7_voter) := goodIn_app (goodIn_of _ (by decide +kernel)) ggX7_share_X7_voter
set_option maxRecDepth 20000 in
theorem ggX7_share_X7_isIn : GoodIn wsX7_share wsX7_isIn := goodIn_r _ [20] (by decide +kernel) (by decide +kernel)
set_option maxRecDepth 20000 in
theorem gX7_share_X7_isIn : GoodIn wsX7_share (va_wsS RX7 125 yX7_isIn wsX7_isIn) := goodIn_app (goodIn_of _ (by decide +kernel)) ggX7_share_X7_isIn
set_option maxRecDepth 20000 in
theorem ggX7_share_X7_apply : GoodIn wsX7_share wsX7_apply := goodIn_r _ [24, 9, 3, 8, 25, 26, 4, 27, 28, 29, 30, 31, 32, 33, 34, 35, 36, 37, 38, 39, 40, 41, 42, 43, 44, 45, 46, 47, 48, 49, 50, 51, 52, 53, 54, 55, 56, 57, 58, 59, 60, 61, 62] (by decide +kernel) (by decide +kernel)
set_option maxRecDepth 20000 in
theorem gX7_share_X7_apply : GoodIn wsX7_share (wsV RX7 144 RX7 yX7_apply wsX7_apply) := goodIn_app (goodIn_of _ (by decide +kernel)) ggX7_share_X7_apply
theorem dX7_share_0 : decode cX7_share 0 = .ok (.aload_n 0, 1) := by decide +kernel
theorem dX7_share_1 : decode cX7_share 1 = .ok (.getfield 33, 3) := by decide +kernel
theorem dX7_share_4 : decode cX7_share 4 = .ok (.aload_n 0, 1) := by decide +kernel
theorem dX7_share_5 : decode cX7_share 5 = .ok (.iload_n 1, 1) := by decide +kernel
theorem dX7_share_6 : decode cX7_share 6 = .ok (.invokevirtual 180, 3) := by decide +kernel
theorem dX7_share_9 : decode cX7_share 9 = .ok (.iaload, 1) := by decide +kernel
theorem dX7_share_10 : decode cX7_share 10 = .ok (.istore_n 2, 1) := by decide +kernel
theorem dX7_share_11 : decode cX7_share 11 = .ok (.aload_n 0, 1) := by decide +kernel
theorem dX7_share_12 : decode cX7_share 12 = .ok (.iload_n 1, 1) := by decide +kernel
theorem dX7_share_13 : decode cX7_share 13 = .ok (.invokevirtual 180, 3) := by decide +kernel
theorem dX7_share_16 : decode cX7_share 16 = .ok (.istore_n 3, 1) := by decide +kernel
theorem dX7_share_17 : decode cX7_share 17 = .ok (.aload_n 0, 1) := by decide +kernel
theorem dX7_share_18 : decode cX7_share 18 = .ok (.getfield 111, 3) := by decide +kernel
theorem dX7_share_21 : decode cX7_share 21 = .ok (.iconst 1, 1) := by decide +kernel
theorem dX7_share_22 : decode cX7_share 22 = .ok (.isub, 1) := by decide +kernel
theorem dX7_share_23 : decode cX7_share 23 = .ok (.istore 4, 2) := by decide +kernel
theorem dX7_share_25 : decode cX7_share 25 = .ok (.iload 4, 2) := by decide +kernel
theorem dX7_share_27 : decode cX7_share 27 = .ok (.ifCond .lt 52, 3) := by decide +kernel
theorem dX7_share_30 : decode cX7_share 30 = .ok (.iload_n 1, 1) := by decide +kernel
theorem dX7_share_31 : decode cX7_share 31 = .ok (.iload 4, 2) := by decide +kernel
theorem dX7_share_33 : decode cX7_share 33 = .ok (.invokestatic 125, 3) := by decide +kernel
theorem dX7_share_36 : decode cX7_share 36 = .ok (.ifCond .eq 35, 3) := by decide +kernel
theorem dX7_share_39 : decode cX7_share 39 = .ok (.aload_n 0, 1) := by decide +kernel
theorem dX7_share_40 : decode cX7_share 40 = .ok (.getfield 33, 3) := by decide +kernel
theorem dX7_share_43 : decode cX7_share 43 = .ok (.iload 4, 2) := by decide +kernel
theorem dX7_share_45 : decode cX7_share 45 = .ok (.iaload, 1) := by decide +kernel
theorem dX7_share_46 : decode cX7_share 46 = .ok (.iload_n 2, 1) := by decide +kernel
theorem dX7_share_47 : decode cX7_share 47 = .ok (.if_icmp .ne 24, 3) := by decide +kernel
theorem dX7_share_50 : decode cX7_share 50 = .ok (.aload_n 0, 1) := by decide +kernel
theorem dX7_share_51 : decode cX7_share 51 = .ok (.getfield 27, 3) := by decide +kernel
theorem dX7_share_54 : decode cX7_share 54 = .ok (.iload 4, 2) := by decide +kernel
theorem dX7_share_56 : decode cX7_share 56 = .ok (.iaload, 1) := by decide +kernel
theorem dX7_share_57 : decode cX7_share 57 = .ok (.aload_n 0, 1) := by decide +kernel
theorem dX7_share_58 : decode cX7_share 58 = .ok (.getfield 27, 3) := by decide +kernel
theorem dX7_share_61 : decode cX7_share 61 = .ok (.iload_n 3, 1) := by decide +kernel
theorem dX7_share_62 : decode cX7_share 62 = .ok (.iaload, 1) := by decide +kernel
theorem dX7_share_63 : decode cX7_share 63 = .ok (.if_icmp .lt 8, 3) := by decide +kernel
theorem dX7_share_66 : decode cX7_share 66 = .ok (.iload 4, 2) := by decide +kernel
theorem dX7_share_68 : decode cX7_share 68 = .ok (.goto 4, 3) := by decide +kernel
theorem dX7_share_71 : decode cX7_share 71 = .ok (.iload_n 3, 1) := by decide +kernel
theorem dX7_share_72 : decode cX7_share 72 = .ok (.istore_n 3, 1) := by decide +kernel
theorem dX7_share_73 : decode cX7_share 73 = .ok (.iinc 4 (-1), 3) := by decide +kernel
theorem dX7_share_76 : decode cX7_share 76 = .ok (.goto (-51), 3) := by decide +kernel
theorem dX7_share_79 : decode cX7_share 79 = .ok (.aload_n 0, 1) := by decide +kernel
theorem dX7_share_80 : decode cX7_share 80 = .ok (.getfield 69, 3) := by decide +kernel
theorem dX7_share_83 : decode cX7_share 83 = .ok (.iload_n 3, 1) := by decide +kernel
theorem dX7_share_84 : decode cX7_share 84 = .ok (.iaload, 1) := by decide +kernel
theorem dX7_share_85 : decode cX7_share 85 = .ok (.iconst 1, 1) := by decide +kernel
theorem dX7_share_86 : decode cX7_share 86 = .ok (.iadd, 1) := by decide +kernel
theorem dX7_share_87 : decode cX7_share 87 = .ok (.istore 4, 2) := by decide +kernel
theorem dX7_share_89 : decode cX7_share 89 = .ok (.iload 4, 2) := by decide +kernel
theorem dX7_share_91 : decode cX7_share 91 = .ok (.bipush 100, 2) := by decide +kernel
theorem dX7_share_93 : decode cX7_share 93 = .ok (.if_icmp .gt 114, 3) := by decide +kernel
theorem dX7_share_96 : decode cX7_share 96 = .ok (.iconst (-1), 1) := by decide +kernel
theorem dX7_share_97 : decode cX7_share 97 = .ok (.istore 5, 2) := by decide +kernel
theorem dX7_share_99 : decode cX7_share 99 = .ok (.iconst 0, 1) := by decide +kernel
theorem dX7_share_100 : decode cX7_share 100 = .ok (.istore 6, 2) := by decide +kernel
theorem dX7_share_102 : decode cX7_share 102 = .ok (.iload 6, 2) := by decide +kernel
theorem dX7_share_104 : decode cX7_share 104 = .ok (.aload_n 0, 1) := by decide +kernel
theorem dX7_share_105 : decode cX7_share 105 = .ok (.getfield 111, 3) := by decide +kernel
theorem dX7_share_108 : decode cX7_share 108 = .ok (.if_icmp .ge 54, 3) := by decide +kernel
theorem dX7_share_111 : decode cX7_share 111 = .ok (.iload_n 1, 1) := by decide +kernel
theorem dX7_share_112 : decode cX7_share 112 = .ok (.iload 6, 2) := by decide +kernel
theorem dX7_share_114 : decode cX7_share 114 = .ok (.invokestatic 125, 3) := by decide +kernel
theorem dX7_share_117 : decode cX7_share 117 = .ok (.ifCond .eq 35, 3) := by decide +kernel
theorem dX7_share_120 : decode cX7_share 120 = .ok (.aload_n 0, 1) := by decide +kernel
theorem dX7_share_121 : decode cX7_share 121 = .ok (.getfield 33, 3) := by decide +kernel
theorem dX7_share_124 : decode cX7_share 124 = .ok (.iload 6, 2) := by decide +kernel
theorem dX7_share_126 : decode cX7_share 126 = .ok (.iaload, 1) := by decide +kernel
theorem dX7_share_127 : decode cX7_share 127 = .ok (.iload_n 2, 1) := by decide +kernel
theorem dX7_share_128 : decode cX7_share 128 = .ok (.if_icmp .ne 24, 3) := by decide +kernel
theorem dX7_share_131 : decode cX7_share 131 = .ok (.aload_n 0, 1) := by decide +kernel
theorem dX7_share_132 : decode cX7_share 132 = .ok (.getfield 60, 3) := by decide +kernel
theorem dX7_share_135 : decode cX7_share 135 = .ok (.bipush 101, 2) := by decide +kernel
theorem dX7_share_137 : decode cX7_share 137 = .ok (.iload 6, 2) := by decide +kernel
theorem dX7_share_139 : decode cX7_share 139 = .ok (.imul, 1) := by decide +kernel
theorem dX7_share_140 : decode cX7_share 140 = .ok (.iload 4, 2) := by decide +kernel
theorem dX7_share_142 : decode cX7_share 142 = .ok (.iadd, 1) := by decide +kernel
theorem dX7_share_143 : decode cX7_share 143 = .ok (.baload, 1) := by decide +kernel
theorem dX7_share_144 : decode cX7_share 144 = .ok (.ifCond .eq 8, 3) := by decide +kernel
theorem dX7_share_147 : decode cX7_share 147 = .ok (.iload 6, 2) := by decide +kernel
theorem dX7_share_149 : decode cX7_share 149 = .ok (.goto 5, 3) := by decide +kernel
theorem dX7_share_152 : decode cX7_share 152 = .ok (.iload 5, 2) := by decide +kernel
theorem dX7_share_154 : decode cX7_share 154 = .ok (.istore 5, 2) := by decide +kernel
theorem dX7_share_156 : decode cX7_share 156 = .ok (.iinc 6 1, 3) := by decide +kernel
theorem dX7_share_159 : decode cX7_share 159 = .ok (.goto (-57), 3) := by decide +kernel
theorem dX7_share_162 : decode cX7_share 162 = .ok (.iload 5, 2) := by decide +kernel
theorem dX7_share_164 : decode cX7_share 164 = .ok (.iconst (-1), 1) := by decide +kernel
theorem dX7_share_165 : decode cX7_share 165 = .ok (.if_icmp .eq 36, 3) := by decide +kernel
theorem dX7_share_168 : decode cX7_share 168 = .ok (.aload_n 0, 1) := by decide +kernel
theorem dX7_share_169 : decode cX7_share 169 = .ok (.iload_n 3, 1) := by decide +kernel
theorem dX7_share_170 : decode cX7_share 170 = .ok (.iload 4, 2) := by decide +kernel
theorem dX7_share_172 : decode cX7_share 172 = .ok (.aload_n 0, 1) := by decide +kernel
theorem dX7_share_173 : decode cX7_share 173 = .ok (.getfield 63, 3) := by decide +kernel
theorem dX7_share_176 : decode cX7_share 176 = .ok (.bipush 101, 2) := by decide +kernel
theorem dX7_share_178 : decode cX7_share 178 = .ok (.iload 5, 2) := by decide +kernel
theorem dX7_share_180 : decode cX7_share 180 = .ok (.imul, 1) := by decide +kernel
theorem dX7_share_181 : decode cX7_share 181 = .ok (.iload 4, 2) := by decide +kernel
theorem dX7_share_183 : decode cX7_share 183 = .ok (.iadd, 1) := by decide +kernel
theorem dX7_share_184 : decode cX7_share 184 = .ok (.iaload, 1) := by decide +kernel
theorem dX7_share_185 : decode cX7_share 185 = .ok (.aload_n 0, 1) := by decide +kernel
theorem dX7_share_186 : decode cX7_share 186 = .ok (.getfield 66, 3) := by decide +kernel
theorem dX7_share_189 : decode cX7_share 189 = .ok (.bipush 101, 2) := by decide +kernel
theorem dX7_share_191 : decode cX7_share 191 = .ok (.iload 5, 2) := by decide +kernel
theorem dX7_share_193 : decode cX7_share 193 = .ok (.imul, 1) := by decide +kernel
theorem dX7_share_194 : decode cX7_share 194 = .ok (.iload 4, 2) := by decide +kernel
theorem dX7_share_196 : decode cX7_share 196 = .ok (.iadd, 1) := by decide +kernel
theorem dX7_share_197 : decode cX7_share 197 = .ok (.laload, 1) := by decide +kernel
theorem dX7_share_198 : decode cX7_share 198 = .ok (.invokevirtual 144, 3) := by decide +kernel
theorem dX7_share_201 : decode cX7_share 201 = .ok (.iinc 4 1, 3) := by decide +kernel
theorem dX7_share_204 : decode cX7_share 204 = .ok (.goto (-115), 3) := by decide +kernel
theorem dX7_share_207 : decode cX7_share 207 = .ok (.iconst 0, 1) := by decide +kernel
theorem dX7_share_208 : decode cX7_share 208 = .ok (.istore 4, 2) := by decide +kernel
theorem dX7_share_210 : decode cX7_share 210 = .ok (.iload 4, 2) := by decide +kernel
theorem dX7_share_212 : decode cX7_share 212 = .ok (.aload_n 0, 1) := by decide +kernel
theorem dX7_share_213 : decode cX7_share 213 = .ok (.getfield 111, 3) := by decide +kernel
theorem dX7_share_216 : decode cX7_share 216 = .ok (.if_icmp .ge 91, 3) := by decide +kernel
theorem dX7_share_219 : decode cX7_share 219 = .ok (.iload_n 1, 1) := by decide +kernel
theorem dX7_share_220 : decode cX7_share 220 = .ok (.iload 4, 2) := by decide +kernel
theorem dX7_share_222 : decode cX7_share 222 = .ok (.invokestatic 125, 3) := by decide +kernel
theorem dX7_share_225 : decode cX7_share 225 = .ok (.ifCond .eq 76, 3) := by decide +kernel
theorem dX7_share_228 : decode cX7_share 228 = .ok (.iload 4, 2) := by decide +kernel
theorem dX7_share_230 : decode cX7_share 230 = .ok (.iload_n 3, 1) := by decide +kernel
theorem dX7_share_231 : decode cX7_share 231 = .ok (.if_icmp .eq 70, 3) := by decide +kernel
theorem dX7_share_234 : decode cX7_share 234 = .ok (.aload_n 0, 1) := by decide +kernel
theorem dX7_share_235 : decode cX7_share 235 = .ok (.getfield 27, 3) := by decide +kernel
theorem dX7_share_238 : decode cX7_share 238 = .ok (.iload 4, 2) := by decide +kernel
theorem dX7_share_240 : decode cX7_share 240 = .ok (.aload_n 0, 1) := by decide +kernel
theorem dX7_share_241 : decode cX7_share 241 = .ok (.getfield 27, 3) := by decide +kernel
theorem dX7_share_244 : decode cX7_share 244 = .ok (.iload_n 3, 1) := by decide +kernel
theorem dX7_share_245 : decode cX7_share 245 = .ok (.iaload, 1) := by decide +kernel
theorem dX7_share_246 : decode cX7_share 246 = .ok (.iastore, 1) := by decide +kernel
theorem dX7_share_247 : decode cX7_share 247 = .ok (.aload_n 0, 1) := by decide +kernel
theorem dX7_share_248 : decode cX7_share 248 = .ok (.getfield 30, 3) := by decide +kernel
theorem dX7_share_251 : decode cX7_share 251 = .ok (.iload 4, 2) := by decide +kernel
theorem dX7_share_253 : decode cX7_share 253 = .ok (.aload_n 0, 1) := by decide +kernel
theorem dX7_share_254 : decode cX7_share 254 = .ok (.getfield 30, 3) := by decide +kernel
theorem dX7_share_257 : decode cX7_share 257 = .ok (.iload_n 3, 1) := by decide +kernel
theorem dX7_share_258 : decode cX7_share 258 = .ok (.laload, 1) := by decide +kernel
theorem dX7_share_259 : decode cX7_share 259 = .ok (.lastore, 1) := by decide +kernel
theorem dX7_share_260 : decode cX7_share 260 = .ok (.iconst 0, 1) := by decide +kernel
theorem dX7_share_261 : decode cX7_share 261 = .ok (.istore 5, 2) := by decide +kernel
theorem dX7_share_263 : decode cX7_share 263 = .ok (.iload 5, 2) := by decide +kernel
theorem dX7_share_265 : decode cX7_share 265 = .ok (.bipush 16, 2) := by decide +kernel
theorem dX7_share_267 : decode cX7_share 267 = .ok (.if_icmp .ge 34, 3) := by decide +kernel
theorem dX7_share_270 : decode cX7_share 270 = .ok (.aload_n 0, 1) := by decide +kernel
theorem dX7_share_271 : decode cX7_share 271 = .ok (.getfield 23, 3) := by decide +kernel
theorem dX7_share_274 : decode cX7_share 274 = .ok (.bipush 16, 2) := by decide +kernel
theorem dX7_share_276 : decode cX7_share 276 = .ok (.iload 4, 2) := by decide +kernel
theorem dX7_share_278 : decode cX7_share 278 = .ok (.imul, 1) := by decide +kernel
theorem dX7_share_279 : decode cX7_share 279 = .ok (.iload 5, 2) := by decide +kernel
theorem dX7_share_281 : decode cX7_share 281 = .ok (.iadd, 1) := by decide +kernel
theorem dX7_share_282 : decode cX7_share 282 = .ok (.aload_n 0, 1) := by decide +kernel
theorem dX7_share_283 : decode cX7_share 283 = .ok (.getfield 23, 3) := by decide +kernel
theorem dX7_share_286 : decode cX7_share 286 = .ok (.bipush 16, 2) := by decide +kernel
theorem dX7_share_288 : decode cX7_share 288 = .ok (.iload_n 3, 1) := by decide +kernel
theorem dX7_share_289 : decode cX7_share 289 = .ok (.imul, 1) := by decide +kernel
theorem dX7_share_290 : decode cX7_share 290 = .ok (.iload 5, 2) := by decide +kernel
theorem dX7_share_292 : decode cX7_share 292 = .ok (.iadd, 1) := by decide +kernel
theorem dX7_share_293 : decode cX7_share 293 = .ok (.laload, 1) := by decide +kernel
theorem dX7_share_294 : decode cX7_share 294 = .ok (.lastore, 1) := by decide +kernel
theorem dX7_share_295 : decode cX7_share 295 = .ok (.iinc 5 1, 3) := by decide +kernel
theorem dX7_share_298 : decode cX7_share 298 = .ok (.goto (-35), 3) := by decide +kernel
theorem dX7_share_301 : decode cX7_share 301 = .ok (.iinc 4 1, 3) := by decide +kernel
theorem dX7_share_304 : decode cX7_share 304 = .ok (.goto (-94), 3) := by decide +kernel
theorem dX7_share_307 : decode cX7_share 307 = .ok (.return_, 1) := by decide +kernel
theorem dX7_forget_0 : decode cX7_forget 0 = .ok (.aload_n 0, 1) := by decide +kernel
theorem dX7_forget_1 : decode cX7_forget 1 = .ok (.getfield 69, 3) := by decide +kernel
theorem dX7_forget_4 : decode cX7_forget 4 = .ok (.iload_n 1, 1) := by decide +kernel
theorem dX7_forget_5 : decode cX7_forget 5 = .ok (.iconst 0, 1) := by decide +kernel
theorem dX7_forget_6 : decode cX7_forget 6 = .ok (.iastore, 1) := by decide +kernel
theorem dX7_forget_7 : decode cX7_forget 7 = .ok (.iconst 0, 1) := by decide +kernel
theorem dX7_forget_8 : decode cX7_forget 8 = .ok (.istore_n 2, 1) := by decide +kernel
theorem dX7_forget_9 : decode cX7_forget 9 = .ok (.iload_n 2, 1) := by decide +kernel
theorem dX7_forget_10 : decode cX7_forget 10 = .ok (.bipush 100, 2) := by decide +kernel
theorem dX7_forget_12 : decode cX7_forget 12 = .ok (.if_icmp .gt 21, 3) := by decide +kernel
theorem dX7_forget_15 : decode cX7_forget 15 = .ok (.aload_n 0, 1) := by decide +kernel
theorem dX7_forget_16 : decode cX7_forget 16 = .ok (.getfield 60, 3) := by decide +kernel
theorem dX7_forget_19 : decode cX7_forget 19 = .ok (.bipush 101, 2) := by decide +kernel
theorem dX7_forget_21 : decode cX7_forget 21 = .ok (.iload_n 1, 1) := by decide +kernel
theorem dX7_forget_22 : decode cX7_forget 22 = .ok (.imul, 1) := by decide +kernel
theorem dX7_forget_23 : decode cX7_forget 23 = .ok (.iload_n 2, 1) := by decide +kernel
theorem dX7_forget_24 : decode cX7_forget 24 = .ok (.iadd, 1) := by decide +kernel
theorem dX7_forget_25 : decode cX7_forget 25 = .ok (.iconst 0, 1) := by decide +kernel
theorem dX7_forget_26 : decode cX7_forget 26 = .ok (.bastore, 1) := by decide +kernel
theorem dX7_forget_27 : decode cX7_forget 27 = .ok (.iinc 2 1, 3) := by decide +kernel
theorem dX7_forget_30 : decode cX7_forget 30 = .ok (.goto (-21), 3) := by decide +kernel
theorem dX7_forget_33 : decode cX7_forget 33 = .ok (.return_, 1) := by decide +kernel
set_option maxRecDepth 20000 in
theorem ggX7_freeSlot_X7_of : GoodIn wsX7_freeSlot wsX7_of := goodIn_r _ [6, 1, 7, 8, 9, 5, 10, 11, 12, 13, 14, 15, 16, 17, 18, 19, 20, 21, 22, 23, 24, 25, 26, 27, 28, 29, 30, 31, 32, 33, 34, 35, 36, 37, 38, 39, 40, 41, 42, 43, 44, 45, 46] (by decide +kernel) (by decide +kernel)
set_option maxRecDepth 20000 in
theorem gX7_freeSlot_X7_of : GoodIn wsX7_freeSlot (wsV RX7 186 RX7 yX7_of wsX7_of) := goodIn_app (goodIn_of _ (by decide +kernel)) ggX7_freeSlot_X7_of
theorem dX7_freeSlot_0 : decode cX7_freeSlot 0 = .ok (.iconst 0, 1) := by decide +kernel
theorem dX7_freeSlot_1 : decode cX7_freeSlot 1 = .ok (.istore_n 1, 1) := by decide +kernel
theorem dX7_freeSlot_2 : decode cX7_freeSlot 2 = .ok (.aload_n 0, 1) := by decide +kernel
theorem dX7_freeSlot_3 : decode cX7_freeSlot 3 = .ok (.iconst 1, 1) := by decide +kernel
theorem dX7_freeSlot_4 : decode cX7_freeSlot 4 = .ok (.aload_n 0, 1) := by decide +kernel
theorem dX7_freeSlot_5 : decode cX7_freeSlot 5 = .ok (.getfield 111, 3) := by decide +kernel
theorem dX7_freeSlot_8 : decode cX7_freeSlot 8 = .ok (.ishl, 1) := by decide +kernel
theorem dX7_freeSlot_9 : decode cX7_freeSlot 9 = .ok (.iconst 1, 1) := by decide +kernel
theorem dX7_freeSlot_10 : decode cX7_freeSlot 10 = .ok (.isub, 1) := by decide +kernel
theorem dX7_freeSlot_11 : decode cX7_freeSlot 11 = .ok (.iload_n 1, 1) := by decide +kernel
theorem dX7_freeSlot_12 : decode cX7_freeSlot 12 = .ok (.invokevirtual 186, 3) := by decide +kernel
theorem dX7_freeSlot_15 : decode cX7_freeSlot 15 = .ok (.ifCond .eq 9, 3) := by decide +kernel
theorem dX7_freeSlot_18 : decode cX7_freeSlot 18 = .ok (.iinc 1 1, 3) := by decide +kernel
theorem dX7_freeSlot_21 : decode cX7_freeSlot 21 = .ok (.goto (-19), 3) := by decide +kernel
theorem dX7_freeSlot_24 : decode cX7_freeSlot 24 = .ok (.iload_n 1, 1) := by decide +kernel
theorem dX7_freeSlot_25 : decode cX7_freeSlot 25 = .ok (.ireturn, 1) := by decide +kernel
set_option maxRecDepth 20000 in
theorem ggX7_form_X7_isIn : GoodIn wsX7_form wsX7_isIn := goodIn_r _ [18] (by decide +kernel) (by decide +kernel)
set_option maxRecDepth 20000 in
theorem gX7_form_X7_isIn : GoodIn wsX7_form (va_wsS RX7 125 yX7_isIn wsX7_isIn) := goodIn_app (goodIn_of _ (by decide +kernel)) ggX7_form_X7_isIn
set_option maxRecDepth 20000 in
theorem ggX7_form_X7_freeSlot : GoodIn wsX7_form wsX7_freeSlot := goodIn_r _ [22, 1, 23, 24, 25, 17, 26, 9, 15, 16, 18, 42, 43, 44, 45, 46, 47, 48, 49, 50, 51, 52, 53, 54, 55, 56, 57, 58, 59, 60, 61, 62, 63, 64, 65, 66, 67, 68, 69, 70, 71, 72, 73, 74, 75, 76, 77] (by decide +kernel) (by decide +kernel)
set_option maxRecDepth 20000 in
theorem gX7_form_X7_freeSlot : GoodIn wsX7_form (wsV RX7 194 RX7 yX7_freeSlot wsX7_freeSlot) := goodIn_app (goodIn_of _ (by decide +kernel)) ggX7_form_X7_freeSlot
set_option maxRecDepth 20000 in
theorem ggX7_form_X7_least : GoodIn wsX7_form wsX7_least := goodIn_r _ [29, 15, 16, 17, 18] (by decide +kernel) (by decide +kernel)
set_option maxRecDepth 20000 in
theorem gX7_form_X7_least : GoodIn wsX7_form (va_wsS RX7 177 yX7_least wsX7_least) := goodIn_app (goodIn_of _ (by decide +kernel)) ggX7_form_X7_least
set_option maxRecDepth 20000 in
theorem ggX7_form_X7_forget : GoodIn wsX7_form wsX7_forget := goodIn_r _ [33, 34, 35, 42, 43, 44, 45, 46, 47, 48, 49, 50, 51, 52, 53, 54, 55, 56, 57, 58, 59, 60, 61, 62, 63, 64, 65, 66, 67, 68, 69, 70, 71, 72, 73, 74, 75, 76, 77] (by decide +kernel) (by decide +kernel)
set_option maxRecDepth 20000 in
theorem gX7_form_X7_forget : GoodIn wsX7_form (wsV RX7 198 RX7 yX7_forget wsX7_forget) := goodIn_app (goodIn_of _ (by decide +kernel)) ggX7_form_X7_forget
set_option maxRecDepth 20000 in
theorem ggX7_form_X7_tell : GoodIn wsX7_form wsX7_tell := goodIn_r _ [39, 40, 41, 42, 43, 44, 45, 46, 47, 48, 49, 50, 51, 52, 53, 54, 55, 56, 57, 58, 59, 60, 61, 62, 63, 64, 65, 66, 67, 68, 69, 70, 71, 72, 73, 74, 75, 76, 77] (by decide +kernel) (by decide +kernel)
set_option maxRecDepth 20000 in
theorem gX7_form_X7_tell : GoodIn wsX7_form (wsV RX7 140 RX7 yX7_tell wsX7_tell) := goodIn_app (goodIn_of _ (by decide +kernel)) ggX7_form_X7_tell
theorem dX7_form_0 : decode cX7_form 0 = .ok (.iconst 0, 1) := by decide +kernel
theorem dX7_form_1 : decode cX7_form 1 = .ok (.istore_n 3, 1) := by decide +kernel
theorem dX7_form_2 : decode cX7_form 2 = .ok (.iconst 0, 1) := by decide +kernel
theorem dX7_form_3 : decode cX7_form 3 = .ok (.istore 4, 2) := by decide +kernel
theorem dX7_form_5 : decode cX7_form 5 = .ok (.iload 4, 2) := by decide +kernel
theorem dX7_form_7 : decode cX7_form 7 = .ok (.aload_n 0, 1) := by decide +kernel
theorem dX7_form_8 : decode cX7_form 8 = .ok (.getfield 111, 3) := by decide +kernel
theorem dX7_form_11 : decode cX7_form 11 = .ok (.if_icmp .ge 41, 3) := by decide +kernel
theorem dX7_form_14 : decode cX7_form 14 = .ok (.iload_n 1, 1) := by decide +kernel
theorem dX7_form_15 : decode cX7_form 15 = .ok (.iload 4, 2) := by decide +kernel
theorem dX7_form_17 : decode cX7_form 17 = .ok (.invokestatic 125, 3) := by decide +kernel
theorem dX7_form_20 : decode cX7_form 20 = .ok (.ifCond .eq 24, 3) := by decide +kernel
theorem dX7_form_23 : decode cX7_form 23 = .ok (.aload_n 0, 1) := by decide +kernel
theorem dX7_form_24 : decode cX7_form 24 = .ok (.getfield 20, 3) := by decide +kernel
theorem dX7_form_27 : decode cX7_form 27 = .ok (.iload 4, 2) := by decide +kernel
theorem dX7_form_29 : decode cX7_form 29 = .ok (.iaload, 1) := by decide +kernel
theorem dX7_form_30 : decode cX7_form 30 = .ok (.iload_n 3, 1) := by decide +kernel
theorem dX7_form_31 : decode cX7_form 31 = .ok (.if_icmp .le 13, 3) := by decide +kernel
theorem dX7_form_34 : decode cX7_form 34 = .ok (.aload_n 0, 1) := by decide +kernel
theorem dX7_form_35 : decode cX7_form 35 = .ok (.getfield 20, 3) := by decide +kernel
theorem dX7_form_38 : decode cX7_form 38 = .ok (.iload 4, 2) := by decide +kernel
theorem dX7_form_40 : decode cX7_form 40 = .ok (.iaload, 1) := by decide +kernel
theorem dX7_form_41 : decode cX7_form 41 = .ok (.goto 4, 3) := by decide +kernel
theorem dX7_form_44 : decode cX7_form 44 = .ok (.iload_n 3, 1) := by decide +kernel
theorem dX7_form_45 : decode cX7_form 45 = .ok (.istore_n 3, 1) := by decide +kernel
theorem dX7_form_46 : decode cX7_form 46 = .ok (.iinc 4 1, 3) := by decide +kernel
theorem dX7_form_49 : decode cX7_form 49 = .ok (.goto (-44), 3) := by decide +kernel
theorem dX7_form_52 : decode cX7_form 52 = .ok (.iinc 3 1, 3) := by decide +kernel
theorem dX7_form_55 : decode cX7_form 55 = .ok (.aload_n 0, 1) := by decide +kernel
theorem dX7_form_56 : decode cX7_form 56 = .ok (.invokevirtual 194, 3) := by decide +kernel
theorem dX7_form_59 : decode cX7_form 59 = .ok (.istore 4, 2) := by decide +kernel
theorem dX7_form_61 : decode cX7_form 61 = .ok (.aload_n 0, 1) := by decide +kernel
theorem dX7_form_62 : decode cX7_form 62 = .ok (.getfield 75, 3) := by decide +kernel
theorem dX7_form_65 : decode cX7_form 65 = .ok (.iload 4, 2) := by decide +kernel
theorem dX7_form_67 : decode cX7_form 67 = .ok (.iload_n 3, 1) := by decide +kernel
theorem dX7_form_68 : decode cX7_form 68 = .ok (.iastore, 1) := by decide +kernel
theorem dX7_form_69 : decode cX7_form 69 = .ok (.aload_n 0, 1) := by decide +kernel
theorem dX7_form_70 : decode cX7_form 70 = .ok (.getfield 78, 3) := by decide +kernel
theorem dX7_form_73 : decode cX7_form 73 = .ok (.iload 4, 2) := by decide +kernel
theorem dX7_form_75 : decode cX7_form 75 = .ok (.iload_n 1, 1) := by decide +kernel
theorem dX7_form_76 : decode cX7_form 76 = .ok (.iastore, 1) := by decide +kernel
theorem dX7_form_77 : decode cX7_form 77 = .ok (.aload_n 0, 1) := by decide +kernel
theorem dX7_form_78 : decode cX7_form 78 = .ok (.getfield 81, 3) := by decide +kernel
theorem dX7_form_81 : decode cX7_form 81 = .ok (.iload 4, 2) := by decide +kernel
theorem dX7_form_83 : decode cX7_form 83 = .ok (.iconst 0, 1) := by decide +kernel
theorem dX7_form_84 : decode cX7_form 84 = .ok (.bastore, 1) := by decide +kernel
theorem dX7_form_85 : decode cX7_form 85 = .ok (.aload_n 0, 1) := by decide +kernel
theorem dX7_form_86 : decode cX7_form 86 = .ok (.getfield 84, 3) := by decide +kernel
theorem dX7_form_89 : decode cX7_form 89 = .ok (.iload 4, 2) := by decide +kernel
theorem dX7_form_91 : decode cX7_form 91 = .ok (.iload_n 1, 1) := by decide +kernel
theorem dX7_form_92 : decode cX7_form 92 = .ok (.invokestatic 177, 3) := by decide +kernel
theorem dX7_form_95 : decode cX7_form 95 = .ok (.iastore, 1) := by decide +kernel
theorem dX7_form_96 : decode cX7_form 96 = .ok (.aload_n 0, 1) := by decide +kernel
theorem dX7_form_97 : decode cX7_form 97 = .ok (.getfield 87, 3) := by decide +kernel
theorem dX7_form_100 : decode cX7_form 100 = .ok (.iload 4, 2) := by decide +kernel
theorem dX7_form_102 : decode cX7_form 102 = .ok (.iconst 0, 1) := by decide +kernel
theorem dX7_form_103 : decode cX7_form 103 = .ok (.iastore, 1) := by decide +kernel
theorem dX7_form_104 : decode cX7_form 104 = .ok (.iconst 0, 1) := by decide +kernel
theorem dX7_form_105 : decode cX7_form 105 = .ok (.istore 5, 2) := by decide +kernel
theorem dX7_form_107 : decode cX7_form 107 = .ok (.iload 5, 2) := by decide +kernel
theorem dX7_form_109 : decode cX7_form 109 = .ok (.aload_n 0, 1) := by decide +kernel
theorem dX7_form_110 : decode cX7_form 110 = .ok (.getfield 111, 3) := by decide +kernel
theorem dX7_form_113 : decode cX7_form 113 = .ok (.if_icmp .ge 135, 3) := by decide +kernel
theorem dX7_form_116 : decode cX7_form 116 = .ok (.aload_n 0, 1) := by decide +kernel
theorem dX7_form_117 : decode cX7_form 117 = .ok (.getfield 108, 3) := by decide +kernel
theorem dX7_form_120 : decode cX7_form 120 = .ok (.bipush 8, 2) := by decide +kernel
theorem dX7_form_122 : decode cX7_form 122 = .ok (.iload 4, 2) := by decide +kernel
theorem dX7_form_124 : decode cX7_form 124 = .ok (.imul, 1) := by decide +kernel
theorem dX7_form_125 : decode cX7_form 125 = .ok (.iload 5, 2) := by decide +kernel
theorem dX7_form_127 : decode cX7_form 127 = .ok (.iadd, 1) := by decide +kernel
theorem dX7_form_128 : decode cX7_form 128 = .ok (.iconst 0, 1) := by decide +kernel
theorem dX7_form_129 : decode cX7_form 129 = .ok (.iastore, 1) := by decide +kernel
theorem dX7_form_130 : decode cX7_form 130 = .ok (.iload_n 1, 1) := by decide +kernel
theorem dX7_form_131 : decode cX7_form 131 = .ok (.iload 5, 2) := by decide +kernel
theorem dX7_form_133 : decode cX7_form 133 = .ok (.invokestatic 125, 3) := by decide +kernel
theorem dX7_form_136 : decode cX7_form 136 = .ok (.ifCond .eq 106, 3) := by decide +kernel
theorem dX7_form_139 : decode cX7_form 139 = .ok (.aload_n 0, 1) := by decide +kernel
theorem dX7_form_140 : decode cX7_form 140 = .ok (.getfield 17, 3) := by decide +kernel
theorem dX7_form_143 : decode cX7_form 143 = .ok (.iload 5, 2) := by decide +kernel
theorem dX7_form_145 : decode cX7_form 145 = .ok (.iload 4, 2) := by decide +kernel
theorem dX7_form_147 : decode cX7_form 147 = .ok (.iastore, 1) := by decide +kernel
theorem dX7_form_148 : decode cX7_form 148 = .ok (.aload_n 0, 1) := by decide +kernel
theorem dX7_form_149 : decode cX7_form 149 = .ok (.getfield 20, 3) := by decide +kernel
theorem dX7_form_152 : decode cX7_form 152 = .ok (.iload 5, 2) := by decide +kernel
theorem dX7_form_154 : decode cX7_form 154 = .ok (.iload_n 3, 1) := by decide +kernel
theorem dX7_form_155 : decode cX7_form 155 = .ok (.iastore, 1) := by decide +kernel
theorem dX7_form_156 : decode cX7_form 156 = .ok (.aload_n 0, 1) := by decide +kernel
theorem dX7_form_157 : decode cX7_form 157 = .ok (.getfield 51, 3) := by decide +kernel
theorem dX7_form_160 : decode cX7_form 160 = .ok (.iload 5, 2) := by decide +kernel
theorem dX7_form_162 : decode cX7_form 162 = .ok (.iconst 0, 1) := by decide +kernel
theorem dX7_form_163 : decode cX7_form 163 = .ok (.iastore, 1) := by decide +kernel
theorem dX7_form_164 : decode cX7_form 164 = .ok (.aload_n 0, 1) := by decide +kernel
theorem dX7_form_165 : decode cX7_form 165 = .ok (.getfield 54, 3) := by decide +kernel
theorem dX7_form_168 : decode cX7_form 168 = .ok (.iload 5, 2) := by decide +kernel
theorem dX7_form_170 : decode cX7_form 170 = .ok (.iconst 0, 1) := by decide +kernel
theorem dX7_form_171 : decode cX7_form 171 = .ok (.iastore, 1) := by decide +kernel
theorem dX7_form_172 : decode cX7_form 172 = .ok (.aload_n 0, 1) := by decide +kernel
theorem dX7_form_173 : decode cX7_form 173 = .ok (.getfield 33, 3) := by decide +kernel
theorem dX7_form_176 : decode cX7_form 176 = .ok (.iload 5, 2) := by decide +kernel
theorem dX7_form_178 : decode cX7_form 178 = .ok (.iload_n 2, 1) := by decide +kernel
theorem dX7_form_179 : decode cX7_form 179 = .ok (.ifCond .eq 7, 3) := by decide +kernel
theorem dX7_form_182 : decode cX7_form 182 = .ok (.iload_n 3, 1) := by decide +kernel
theorem dX7_form_183 : decode cX7_form 183 = .ok (.goto 10, 3) := by decide +kernel
theorem dX7_form_186 : decode cX7_form 186 = .ok (.aload_n 0, 1) := by decide +kernel
theorem dX7_form_187 : decode cX7_form 187 = .ok (.getfield 33, 3) := by decide +kernel
theorem dX7_form_190 : decode cX7_form 190 = .ok (.iload 5, 2) := by decide +kernel
theorem dX7_form_192 : decode cX7_form 192 = .ok (.iaload, 1) := by decide +kernel
theorem dX7_form_193 : decode cX7_form 193 = .ok (.iastore, 1) := by decide +kernel
theorem dX7_form_194 : decode cX7_form 194 = .ok (.aload_n 0, 1) := by decide +kernel
theorem dX7_form_195 : decode cX7_form 195 = .ok (.getfield 36, 3) := by decide +kernel
theorem dX7_form_198 : decode cX7_form 198 = .ok (.iload 5, 2) := by decide +kernel
theorem dX7_form_200 : decode cX7_form 200 = .ok (.iload_n 2, 1) := by decide +kernel
theorem dX7_form_201 : decode cX7_form 201 = .ok (.ifCond .eq 7, 3) := by decide +kernel
theorem dX7_form_204 : decode cX7_form 204 = .ok (.iload_n 1, 1) := by decide +kernel
theorem dX7_form_205 : decode cX7_form 205 = .ok (.goto 10, 3) := by decide +kernel
theorem dX7_form_208 : decode cX7_form 208 = .ok (.aload_n 0, 1) := by decide +kernel
theorem dX7_form_209 : decode cX7_form 209 = .ok (.getfield 36, 3) := by decide +kernel
theorem dX7_form_212 : decode cX7_form 212 = .ok (.iload 5, 2) := by decide +kernel
theorem dX7_form_214 : decode cX7_form 214 = .ok (.iaload, 1) := by decide +kernel
theorem dX7_form_215 : decode cX7_form 215 = .ok (.iastore, 1) := by decide +kernel
theorem dX7_form_216 : decode cX7_form 216 = .ok (.iload_n 2, 1) := by decide +kernel
theorem dX7_form_217 : decode cX7_form 217 = .ok (.ifCond .eq 9, 3) := by decide +kernel
theorem dX7_form_220 : decode cX7_form 220 = .ok (.aload_n 0, 1) := by decide +kernel
theorem dX7_form_221 : decode cX7_form 221 = .ok (.iload 5, 2) := by decide +kernel
theorem dX7_form_223 : decode cX7_form 223 = .ok (.invokevirtual 198, 3) := by decide +kernel
theorem dX7_form_226 : decode cX7_form 226 = .ok (.aload_n 0, 1) := by decide +kernel
theorem dX7_form_227 : decode cX7_form 227 = .ok (.iload 5, 2) := by decide +kernel
theorem dX7_form_229 : decode cX7_form 229 = .ok (.ldc2_w 201, 3) := by decide +kernel
theorem dX7_form_232 : decode cX7_form 232 = .ok (.iload_n 1, 1) := by decide +kernel
theorem dX7_form_233 : decode cX7_form 233 = .ok (.i2l, 1) := by decide +kernel
theorem dX7_form_234 : decode cX7_form 234 = .ok (.lconst 0, 1) := by decide +kernel
theorem dX7_form_235 : decode cX7_form 235 = .ok (.lconst 0, 1) := by decide +kernel
theorem dX7_form_236 : decode cX7_form 236 = .ok (.lconst 0, 1) := by decide +kernel
theorem dX7_form_237 : decode cX7_form 237 = .ok (.iload_n 3, 1) := by decide +kernel
theorem dX7_form_238 : decode cX7_form 238 = .ok (.i2l, 1) := by decide +kernel
theorem dX7_form_239 : decode cX7_form 239 = .ok (.invokevirtual 140, 3) := by decide +kernel
theorem dX7_form_242 : decode cX7_form 242 = .ok (.iinc 5 1, 3) := by decide +kernel
theorem dX7_form_245 : decode cX7_form 245 = .ok (.goto (-138), 3) := by decide +kernel
theorem dX7_form_248 : decode cX7_form 248 = .ok (.iload_n 3, 1) := by decide +kernel
theorem dX7_form_249 : decode cX7_form 249 = .ok (.ireturn, 1) := by decide +kernel
set_option maxRecDepth 20000 in
theorem ggX7_gather_X7_noNode : GoodIn wsX7_gather wsX7_noNode := goodIn_r _ [7, 8, 124, 125, 126, 127, 128, 129, 130, 131, 132, 133, 134, 135, 136, 137, 138, 139, 140, 141, 142, 143, 144, 145, 146, 147, 148, 149, 150, 151, 152, 153, 154, 155, 156, 157, 158, 159] (by decide +kernel) (by decide +kernel)
set_option maxRecDepth 20000 in
theorem gX7_gather_X7_noNode : GoodIn wsX7_gather (wsV RX7 132 RX7 yX7_noNode wsX7_noNode) := goodIn_app (goodIn_of _ (by decide +kernel)) ggX7_gather_X7_noNode
set_option maxRecDepth 20000 in
theorem ggX7_gather_X7_together : GoodIn wsX7_gather wsX7_together := goodIn_r _ [12, 8, 1, 13, 124, 125, 126, 127, 128, 129, 130, 131, 132, 133, 134, 135, 136, 137, 138, 139, 140, 141, 142, 143, 144, 145, 146, 147, 148, 149, 150, 151, 152, 153, 154, 155, 156, 157, 158, 159] (by decide +kernel) (by decide +kernel)
set_option maxRecDepth 20000 in
theorem gX7_gather_X7_together : GoodIn wsX7_gather (wsV RX7 203 RX7 yX7_together wsX7_together) := goodIn_app (goodIn_of _ (by decide +kernel)) ggX7_gather_X7_together
set_option maxRecDepth 20000 in
theorem ggX7_gather_X7_isWhole : GoodIn wsX7_gather wsX7_isWhole := goodIn_r _ [17, 18, 19, 20, 8, 21, 22, 6, 23, 24, 25, 26, 124, 125, 126, 127, 128, 129, 130, 131, 132, 133, 134, 135, 136, 137, 138, 139, 140, 141, 142, 143, 144, 145, 146, 147, 148, 149, 150, 151, 152, 153, 154, 155, 156, 157, 158, 159] (by decide +kernel) (by decide +kernel)
set_option maxRecDepth 20000 in
theorem gX7_gather_X7_isWhole : GoodIn wsX7_gather (wsV RX7 206 RX7 yX7_isWhole wsX7_isWhole) := goodIn_app (goodIn_of _ (by decide +kernel)) ggX7_gather_X7_isWhole
set_option maxRecDepth 20000 in
theorem ggX7_gather_X7_isPrimary : GoodIn wsX7_gather wsX7_isPrimary := goodIn_r _ [30, 31, 32, 33, 34, 6, 35, 8, 36, 21, 22, 23, 24, 25, 26, 37, 38, 39, 124, 125, 126, 127, 128, 129, 130, 131, 132, 133, 134, 135, 136, 137, 138, 139, 140, 141, 142, 143, 144, 145, 146, 147, 148, 149, 150, 151, 152, 153, 154, 155, 156, 157, 158, 159] (by decide +kernel) (by decide +kernel)
set_option maxRecDepth 20000 in
theorem gX7_gather_X7_isPrimary : GoodIn wsX7_gather (wsV RX7 209 RX7 yX7_isPrimary wsX7_isPrimary) := goodIn_app (goodIn_of _ (by decide +kernel)) ggX7_gather_X7_isPrimary
set_option maxRecDepth 20000 in
theorem ggX7_gather_X7_nextRing : GoodIn wsX7_gather wsX7_nextRing := goodIn_r _ [43, 44, 45, 46, 6, 47, 8, 18, 24, 25, 26, 48, 49, 50, 51, 52, 19, 21, 22, 23, 124, 125, 126, 127, 128, 129, 130, 131, 132, 133, 134, 135, 136, 137, 138, 139, 140, 141, 142, 143, 144, 145, 146, 147, 148, 149, 150, 151, 152, 153, 154, 155, 156, 157, 158, 159] (by decide +kernel) (by decide +kernel)
set_option maxRecDepth 20000 in
theorem gX7_gather_X7_nextRing : GoodIn wsX7_gather (wsV RX7 212 RX7 yX7_nextRing wsX7_nextRing) := goodIn_app (goodIn_of _ (by decide +kernel)) ggX7_gather_X7_nextRing
set_option maxRecDepth 20000 in
theorem ggX7_gather_X7_of : GoodIn wsX7_gather wsX7_of := goodIn_r _ [47, 8, 18, 24, 25, 6, 26, 124, 125, 126, 127, 128, 129, 130, 131, 132, 133, 134, 135, 136, 137, 138, 139, 140, 141, 142, 143, 144, 145, 146, 147, 148, 149, 150, 151, 152, 153, 154, 155, 156, 157, 158, 159] (by decide +kernel) (by decide +kernel)
set_option maxRecDepth 20000 in
theorem gX7_gather_X7_of : GoodIn wsX7_gather (wsV RX7 186 RX7 yX7_of wsX7_of) := goodIn_app (goodIn_of _ (by decide +kernel)) ggX7_gather_X7_of
set_option maxRecDepth 20000 in
theorem ggX7_gather_X7_end : GoodIn wsX7_gather wsX7_end := goodIn_r _ [56, 8, 57, 58, 59, 60, 52, 61, 62, 24, 25, 6, 26, 63, 64, 65, 66, 67, 68, 69, 18, 70, 36, 71, 72, 73, 74, 75, 76, 77, 78, 79, 80, 81, 82, 83, 84, 85, 86, 87, 88, 89, 90, 91, 92, 93, 94, 95, 96, 97, 98, 99, 100, 101, 102, 103, 124, 125, 126, 127, 128, 129, 130, 131, 132, 133, 134, 135, 136, 137, 138, 139, 140, 141, 142, 143, 144, 145, 146, 147, 148, 149, 150, 151, 152, 153, 154, 155, 156, 157, 158, 159] (by decide +kernel) (by decide +kernel)
set_option maxRecDepth 20000 in
theorem gX7_gather_X7_end : GoodIn wsX7_gather (wsV RX7 215 RX7 yX7_end wsX7_end) := goodIn_app (goodIn_of _ (by decide +kernel)) ggX7_gather_X7_end
set_option maxRecDepth 20000 in
theorem ggX7_gather_X7_share : GoodIn wsX7_gather wsX7_share := goodIn_r _ [107, 36, 8, 99, 103, 71, 72, 74, 100, 98, 32, 33, 34, 6, 35, 21, 22, 23, 24, 25, 26, 94, 95, 96, 97, 101, 102, 124, 125, 126, 127, 128, 129, 130, 131, 132, 133, 134, 135, 136, 137, 138, 139, 140, 141, 142, 143, 144, 145, 146, 147, 148, 149, 150, 151, 152, 153, 154, 155, 156, 157, 158, 159] (by decide +kernel) (by decide +kernel)
set_option maxRecDepth 20000 in
theorem gX7_gather_X7_share : GoodIn wsX7_gather (wsV RX7 218 RX7 yX7_share wsX7_share) := goodIn_app (goodIn_of _ (by decide +kernel)) ggX7_gather_X7_share
set_option maxRecDepth 20000 in
theorem ggX7_gather_X7_form : GoodIn wsX7_gather wsX7_form := goodIn_r _ [111, 8, 112, 52, 19, 20, 113, 58, 114, 18, 61, 57, 36, 31, 115, 24, 25, 6, 26, 116, 117, 118, 119, 44, 45, 46, 47, 21, 22, 23, 120, 121, 122, 123, 103, 71, 88, 89, 90, 91, 92, 93, 124, 125, 126, 127, 128, 129, 130, 131, 132, 133, 134, 135, 136, 137, 138, 139, 140, 141, 142, 143, 144, 145, 146, 147, 148, 149, 150, 151, 152, 153, 154, 155, 156, 157, 158, 159] (by decide +kernel) (by decide +kernel)
set_option maxRecDepth 20000 in
theorem gX7_gather_X7_form : GoodIn wsX7_gather (wsV RX7 221 RX7 yX7_form wsX7_form) := goodIn_app (goodIn_of _ (by decide +kernel)) ggX7_gather_X7_form
theorem dX7_gather_0 : decode cX7_gather 0 = .ok (.aload_n 0, 1) := by decide +kernel
theorem dX7_gather_1 : decode cX7_gather 1 = .ok (.aload_n 0, 1) := by decide +kernel
theorem dX7_gather_2 : decode cX7_gather 2 = .ok (.iload_n 1, 1) := by decide +kernel
theorem dX7_gather_3 : decode cX7_gather 3 = .ok (.invokevirtual 132, 3) := by decide +kernel
theorem dX7_gather_6 : decode cX7_gather 6 = .ok (.ifCond .eq 7, 3) := by decide +kernel
theorem dX7_gather_9 : decode cX7_gather 9 = .ok (.iconst 1, 1) := by decide +kernel
theorem dX7_gather_10 : decode cX7_gather 10 = .ok (.goto 17, 3) := by decide +kernel
theorem dX7_gather_13 : decode cX7_gather 13 = .ok (.aload_n 0, 1) := by decide +kernel
theorem dX7_gather_14 : decode cX7_gather 14 = .ok (.getfield 7, 3) := by decide +kernel
theorem dX7_gather_17 : decode cX7_gather 17 = .ok (.iload_n 1, 1) := by decide +kernel
theorem dX7_gather_18 : decode cX7_gather 18 = .ok (.baload, 1) := by decide +kernel
theorem dX7_gather_19 : decode cX7_gather 19 = .ok (.ifCond .eq 7, 3) := by decide +kernel
theorem dX7_gather_22 : decode cX7_gather 22 = .ok (.iconst 0, 1) := by decide +kernel
theorem dX7_gather_23 : decode cX7_gather 23 = .ok (.goto 4, 3) := by decide +kernel
theorem dX7_gather_26 : decode cX7_gather 26 = .ok (.iconst 2, 1) := by decide +kernel
theorem dX7_gather_27 : decode cX7_gather 27 = .ok (.putfield 118, 3) := by decide +kernel
theorem dX7_gather_30 : decode cX7_gather 30 = .ok (.aload_n 0, 1) := by decide +kernel
theorem dX7_gather_31 : decode cX7_gather 31 = .ok (.getfield 118, 3) := by decide +kernel
theorem dX7_gather_34 : decode cX7_gather 34 = .ok (.ifCond .le 5, 3) := by decide +kernel
theorem dX7_gather_37 : decode cX7_gather 37 = .ok (.iconst 0, 1) := by decide +kernel
theorem dX7_gather_38 : decode cX7_gather 38 = .ok (.ireturn, 1) := by decide +kernel
theorem dX7_gather_39 : decode cX7_gather 39 = .ok (.aload_n 0, 1) := by decide +kernel
theorem dX7_gather_40 : decode cX7_gather 40 = .ok (.iload_n 1, 1) := by decide +kernel
theorem dX7_gather_41 : decode cX7_gather 41 = .ok (.invokevirtual 203, 3) := by decide +kernel
theorem dX7_gather_44 : decode cX7_gather 44 = .ok (.istore_n 2, 1) := by decide +kernel
theorem dX7_gather_45 : decode cX7_gather 45 = .ok (.aload_n 0, 1) := by decide +kernel
theorem dX7_gather_46 : decode cX7_gather 46 = .ok (.iload_n 2, 1) := by decide +kernel
theorem dX7_gather_47 : decode cX7_gather 47 = .ok (.invokevirtual 206, 3) := by decide +kernel
theorem dX7_gather_50 : decode cX7_gather 50 = .ok (.ifCond .eq 5, 3) := by decide +kernel
theorem dX7_gather_53 : decode cX7_gather 53 = .ok (.iconst 0, 1) := by decide +kernel
theorem dX7_gather_54 : decode cX7_gather 54 = .ok (.ireturn, 1) := by decide +kernel
theorem dX7_gather_55 : decode cX7_gather 55 = .ok (.aload_n 0, 1) := by decide +kernel
theorem dX7_gather_56 : decode cX7_gather 56 = .ok (.iload_n 2, 1) := by decide +kernel
theorem dX7_gather_57 : decode cX7_gather 57 = .ok (.invokevirtual 209, 3) := by decide +kernel
theorem dX7_gather_60 : decode cX7_gather 60 = .ok (.istore_n 3, 1) := by decide +kernel
theorem dX7_gather_61 : decode cX7_gather 61 = .ok (.aload_n 0, 1) := by decide +kernel
theorem dX7_gather_62 : decode cX7_gather 62 = .ok (.iload_n 2, 1) := by decide +kernel
theorem dX7_gather_63 : decode cX7_gather 63 = .ok (.iconst (-1), 1) := by decide +kernel
theorem dX7_gather_64 : decode cX7_gather 64 = .ok (.invokevirtual 212, 3) := by decide +kernel
theorem dX7_gather_67 : decode cX7_gather 67 = .ok (.istore 4, 2) := by decide +kernel
theorem dX7_gather_69 : decode cX7_gather 69 = .ok (.iload 4, 2) := by decide +kernel
theorem dX7_gather_71 : decode cX7_gather 71 = .ok (.iconst (-1), 1) := by decide +kernel
theorem dX7_gather_72 : decode cX7_gather 72 = .ok (.if_icmp .eq 28, 3) := by decide +kernel
theorem dX7_gather_75 : decode cX7_gather 75 = .ok (.aload_n 0, 1) := by decide +kernel
theorem dX7_gather_76 : decode cX7_gather 76 = .ok (.iload 4, 2) := by decide +kernel
theorem dX7_gather_78 : decode cX7_gather 78 = .ok (.aload_n 0, 1) := by decide +kernel
theorem dX7_gather_79 : decode cX7_gather 79 = .ok (.iload_n 2, 1) := by decide +kernel
theorem dX7_gather_80 : decode cX7_gather 80 = .ok (.iload 4, 2) := by decide +kernel
theorem dX7_gather_82 : decode cX7_gather 82 = .ok (.invokevirtual 186, 3) := by decide +kernel
theorem dX7_gather_85 : decode cX7_gather 85 = .ok (.invokevirtual 215, 3) := by decide +kernel
theorem dX7_gather_88 : decode cX7_gather 88 = .ok (.aload_n 0, 1) := by decide +kernel
theorem dX7_gather_89 : decode cX7_gather 89 = .ok (.iload_n 2, 1) := by decide +kernel
theorem dX7_gather_90 : decode cX7_gather 90 = .ok (.iload 4, 2) := by decide +kernel
theorem dX7_gather_92 : decode cX7_gather 92 = .ok (.invokevirtual 212, 3) := by decide +kernel
theorem dX7_gather_95 : decode cX7_gather 95 = .ok (.istore 4, 2) := by decide +kernel
theorem dX7_gather_97 : decode cX7_gather 97 = .ok (.goto (-28), 3) := by decide +kernel
theorem dX7_gather_100 : decode cX7_gather 100 = .ok (.iload_n 3, 1) := by decide +kernel
theorem dX7_gather_101 : decode cX7_gather 101 = .ok (.ifCond .eq 8, 3) := by decide +kernel
theorem dX7_gather_104 : decode cX7_gather 104 = .ok (.aload_n 0, 1) := by decide +kernel
theorem dX7_gather_105 : decode cX7_gather 105 = .ok (.iload_n 2, 1) := by decide +kernel
theorem dX7_gather_106 : decode cX7_gather 106 = .ok (.invokevirtual 218, 3) := by decide +kernel
theorem dX7_gather_109 : decode cX7_gather 109 = .ok (.aload_n 0, 1) := by decide +kernel
theorem dX7_gather_110 : decode cX7_gather 110 = .ok (.iload_n 2, 1) := by decide +kernel
theorem dX7_gather_111 : decode cX7_gather 111 = .ok (.iload_n 3, 1) := by decide +kernel
theorem dX7_gather_112 : decode cX7_gather 112 = .ok (.invokevirtual 221, 3) := by decide +kernel
theorem dX7_gather_115 : decode cX7_gather 115 = .ok (.ireturn, 1) := by decide +kernel
set_option maxRecDepth 20000 in
theorem ggX7_part_X7_noNode : GoodIn wsX7_part wsX7_noNode := goodIn_r _ [7, 8, 9, 10, 11, 12, 13, 14, 15, 16, 17, 18, 19, 20, 21, 22, 23, 24, 25, 26, 27, 28, 29, 30, 31, 32, 33, 34, 35, 36, 37, 38, 39, 40, 41, 42, 43, 44] (by decide +kernel) (by decide +kernel)
set_option maxRecDepth 20000 in
theorem gX7_part_X7_noNode : GoodIn wsX7_part (wsV RX7 132 RX7 yX7_noNode wsX7_noNode) := goodIn_app (goodIn_of _ (by decide +kernel)) ggX7_part_X7_noNode
theorem dX7_part_0 : decode cX7_part 0 = .ok (.aload_n 0, 1) := by decide +kernel
theorem dX7_part_1 : decode cX7_part 1 = .ok (.aload_n 0, 1) := by decide +kernel
theorem dX7_part_2 : decode cX7_part 2 = .ok (.iload_n 1, 1) := by decide +kernel
theorem dX7_part_3 : decode cX7_part 3 = .ok (.invokevirtual 132, 3) := by decide +kernel
theorem dX7_part_6 : decode cX7_part 6 = .ok (.ifCond .eq 7, 3) := by decide +kernel
theorem dX7_part_9 : decode cX7_part 9 = .ok (.iconst 1, 1) := by decide +kernel
theorem dX7_part_10 : decode cX7_part 10 = .ok (.goto 18, 3) := by decide +kernel
theorem dX7_part_13 : decode cX7_part 13 = .ok (.iload_n 2, 1) := by decide +kernel
theorem dX7_part_14 : decode cX7_part 14 = .ok (.ifCond .lt 9, 3) := by decide +kernel
theorem dX7_part_17 : decode cX7_part 17 = .ok (.iload_n 2, 1) := by decide +kernel
theorem dX7_part_18 : decode cX7_part 18 = .ok (.bipush 7, 2) := by decide +kernel
theorem dX7_part_20 : decode cX7_part 20 = .ok (.if_icmp .le 7, 3) := by decide +kernel
theorem dX7_part_23 : decode cX7_part 23 = .ok (.iconst 2, 1) := by decide +kernel
theorem dX7_part_24 : decode cX7_part 24 = .ok (.goto 4, 3) := by decide +kernel
theorem dX7_part_27 : decode cX7_part 27 = .ok (.iconst 0, 1) := by decide +kernel
theorem dX7_part_28 : decode cX7_part 28 = .ok (.putfield 118, 3) := by decide +kernel
theorem dX7_part_31 : decode cX7_part 31 = .ok (.aload_n 0, 1) := by decide +kernel
theorem dX7_part_32 : decode cX7_part 32 = .ok (.getfield 118, 3) := by decide +kernel
theorem dX7_part_35 : decode cX7_part 35 = .ok (.ifCond .ne 10, 3) := by decide +kernel
theorem dX7_part_38 : decode cX7_part 38 = .ok (.aload_n 0, 1) := by decide +kernel
theorem dX7_part_39 : decode cX7_part 39 = .ok (.getfield 13, 3) := by decide +kernel
theorem dX7_part_42 : decode cX7_part 42 = .ok (.iload_n 1, 1) := by decide +kernel
theorem dX7_part_43 : decode cX7_part 43 = .ok (.iload_n 2, 1) := by decide +kernel
theorem dX7_part_44 : decode cX7_part 44 = .ok (.iastore, 1) := by decide +kernel
theorem dX7_part_45 : decode cX7_part 45 = .ok (.return_, 1) := by decide +kernel
set_option maxRecDepth 20000 in
theorem ggX7_crash_X7_noNode : GoodIn wsX7_crash wsX7_noNode := goodIn_r _ [10, 11, 17, 18, 19, 20, 21, 22, 23, 24, 25, 26, 27, 28, 29, 30, 31, 32, 33, 34, 35, 36, 37, 38, 39, 40, 41, 42, 43, 44, 45, 46, 47, 48, 49, 50, 51, 52] (by decide +kernel) (by decide +kernel)
set_option maxRecDepth 20000 in
theorem gX7_crash_X7_noNode : GoodIn wsX7_crash (wsV RX7 132 RX7 yX7_noNode wsX7_noNode) := goodIn_app (goodIn_of _ (by decide +kernel)) ggX7_crash_X7_noNode
set_option maxRecDepth 20000 in
theorem ggX7_crash_X7_holds : GoodIn wsX7_crash wsX7_holds := goodIn_r _ [15, 1, 4, 3, 16, 17, 18, 19, 20, 21, 22, 23, 24, 25, 26, 27, 28, 29, 30, 31, 32, 33, 34, 35, 36, 37, 38, 39, 40, 41, 42, 43, 44, 45, 46, 47, 48, 49, 50, 51, 52] (by decide +kernel) (by decide +kernel)
set_option maxRecDepth 20000 in
theorem gX7_crash_X7_holds : GoodIn wsX7_crash (wsV RX7 160 RX7 yX7_holds wsX7_holds) := goodIn_app (goodIn_of _ (by decide +kernel)) ggX7_crash_X7_holds
theorem dX7_crash_0 : decode cX7_crash 0 = .ok (.aload_n 0, 1) := by decide +kernel
theorem dX7_crash_1 : decode cX7_crash 1 = .ok (.aload_n 0, 1) := by decide +kernel
theorem dX7_crash_2 : decode cX7_crash 2 = .ok (.iload_n 1, 1) := by decide +kernel
theorem dX7_crash_3 : decode cX7_crash 3 = .ok (.invokevirtual 132, 3) := by decide +kernel
theorem dX7_crash_6 : decode cX7_crash 6 = .ok (.ifCond .eq 7, 3) := by decide +kernel
theorem dX7_crash_9 : decode cX7_crash 9 = .ok (.iconst 1, 1) := by decide +kernel
theorem dX7_crash_10 : decode cX7_crash 10 = .ok (.goto 17, 3) := by decide +kernel
theorem dX7_crash_13 : decode cX7_crash 13 = .ok (.aload_n 0, 1) := by decide +kernel
theorem dX7_crash_14 : decode cX7_crash 14 = .ok (.getfield 7, 3) := by decide +kernel
theorem dX7_crash_17 : decode cX7_crash 17 = .ok (.iload_n 1, 1) := by decide +kernel
theorem dX7_crash_18 : decode cX7_crash 18 = .ok (.baload, 1) := by decide +kernel
theorem dX7_crash_19 : decode cX7_crash 19 = .ok (.ifCond .eq 7, 3) := by decide +kernel
theorem dX7_crash_22 : decode cX7_crash 22 = .ok (.iconst 0, 1) := by decide +kernel
theorem dX7_crash_23 : decode cX7_crash 23 = .ok (.goto 4, 3) := by decide +kernel
theorem dX7_crash_26 : decode cX7_crash 26 = .ok (.iconst 2, 1) := by decide +kernel
theorem dX7_crash_27 : decode cX7_crash 27 = .ok (.putfield 118, 3) := by decide +kernel
theorem dX7_crash_30 : decode cX7_crash 30 = .ok (.aload_n 0, 1) := by decide +kernel
theorem dX7_crash_31 : decode cX7_crash 31 = .ok (.getfield 118, 3) := by decide +kernel
theorem dX7_crash_34 : decode cX7_crash 34 = .ok (.ifCond .ne 44, 3) := by decide +kernel
theorem dX7_crash_37 : decode cX7_crash 37 = .ok (.aload_n 0, 1) := by decide +kernel
theorem dX7_crash_38 : decode cX7_crash 38 = .ok (.iload_n 1, 1) := by decide +kernel
theorem dX7_crash_39 : decode cX7_crash 39 = .ok (.invokevirtual 160, 3) := by decide +kernel
theorem dX7_crash_42 : decode cX7_crash 42 = .ok (.ifCond .eq 15, 3) := by decide +kernel
theorem dX7_crash_45 : decode cX7_crash 45 = .ok (.aload_n 0, 1) := by decide +kernel
theorem dX7_crash_46 : decode cX7_crash 46 = .ok (.getfield 81, 3) := by decide +kernel
theorem dX7_crash_49 : decode cX7_crash 49 = .ok (.aload_n 0, 1) := by decide +kernel
theorem dX7_crash_50 : decode cX7_crash 50 = .ok (.getfield 17, 3) := by decide +kernel
theorem dX7_crash_53 : decode cX7_crash 53 = .ok (.iload_n 1, 1) := by decide +kernel
theorem dX7_crash_54 : decode cX7_crash 54 = .ok (.iaload, 1) := by decide +kernel
theorem dX7_crash_55 : decode cX7_crash 55 = .ok (.iconst 1, 1) := by decide +kernel
theorem dX7_crash_56 : decode cX7_crash 56 = .ok (.bastore, 1) := by decide +kernel
theorem dX7_crash_57 : decode cX7_crash 57 = .ok (.aload_n 0, 1) := by decide +kernel
theorem dX7_crash_58 : decode cX7_crash 58 = .ok (.getfield 7, 3) := by decide +kernel
theorem dX7_crash_61 : decode cX7_crash 61 = .ok (.iload_n 1, 1) := by decide +kernel
theorem dX7_crash_62 : decode cX7_crash 62 = .ok (.iconst 0, 1) := by decide +kernel
theorem dX7_crash_63 : decode cX7_crash 63 = .ok (.bastore, 1) := by decide +kernel
theorem dX7_crash_64 : decode cX7_crash 64 = .ok (.aload_n 0, 1) := by decide +kernel
theorem dX7_crash_65 : decode cX7_crash 65 = .ok (.getfield 17, 3) := by decide +kernel
theorem dX7_crash_68 : decode cX7_crash 68 = .ok (.iload_n 1, 1) := by decide +kernel
theorem dX7_crash_69 : decode cX7_crash 69 = .ok (.iconst (-1), 1) := by decide +kernel
theorem dX7_crash_70 : decode cX7_crash 70 = .ok (.iastore, 1) := by decide +kernel
theorem dX7_crash_71 : decode cX7_crash 71 = .ok (.aload_n 0, 1) := by decide +kernel
theorem dX7_crash_72 : decode cX7_crash 72 = .ok (.getfield 39, 3) := by decide +kernel
theorem dX7_crash_75 : decode cX7_crash 75 = .ok (.iload_n 1, 1) := by decide +kernel
theorem dX7_crash_76 : decode cX7_crash 76 = .ok (.iconst 0, 1) := by decide +kernel
theorem dX7_crash_77 : decode cX7_crash 77 = .ok (.iastore, 1) := by decide +kernel
theorem dX7_crash_78 : decode cX7_crash 78 = .ok (.return_, 1) := by decide +kernel
set_option maxRecDepth 20000 in
theorem ggX7_restart_X7_noNode : GoodIn wsX7_restart wsX7_noNode := goodIn_r _ [7, 8, 9, 10, 11, 12, 13, 14, 15, 16, 17, 18, 19, 20, 21, 22, 23, 24, 25, 26, 27, 28, 29, 30, 31, 32, 33, 34, 35, 36, 37, 38, 39, 40, 41, 42, 43, 44] (by decide +kernel) (by decide +kernel)
set_option maxRecDepth 20000 in
theorem gX7_restart_X7_noNode : GoodIn wsX7_restart (wsV RX7 132 RX7 yX7_noNode wsX7_noNode) := goodIn_app (goodIn_of _ (by decide +kernel)) ggX7_restart_X7_noNode
theorem dX7_restart_0 : decode cX7_restart 0 = .ok (.aload_n 0, 1) := by decide +kernel
theorem dX7_restart_1 : decode cX7_restart 1 = .ok (.aload_n 0, 1) := by decide +kernel
theorem dX7_restart_2 : decode cX7_restart 2 = .ok (.iload_n 1, 1) := by decide +kernel
theorem dX7_restart_3 : decode cX7_restart 3 = .ok (.invokevirtual 132, 3) := by decide +kernel
theorem dX7_restart_6 : decode cX7_restart 6 = .ok (.ifCond .eq 7, 3) := by decide +kernel
theorem dX7_restart_9 : decode cX7_restart 9 = .ok (.iconst 1, 1) := by decide +kernel
theorem dX7_restart_10 : decode cX7_restart 10 = .ok (.goto 17, 3) := by decide +kernel
theorem dX7_restart_13 : decode cX7_restart 13 = .ok (.aload_n 0, 1) := by decide +kernel
theorem dX7_restart_14 : decode cX7_restart 14 = .ok (.getfield 7, 3) := by decide +kernel
theorem dX7_restart_17 : decode cX7_restart 17 = .ok (.iload_n 1, 1) := by decide +kernel
theorem dX7_restart_18 : decode cX7_restart 18 = .ok (.baload, 1) := by decide +kernel
theorem dX7_restart_19 : decode cX7_restart 19 = .ok (.ifCond .eq 7, 3) := by decide +kernel
theorem dX7_restart_22 : decode cX7_restart 22 = .ok (.iconst 2, 1) := by decide +kernel
theorem dX7_restart_23 : decode cX7_restart 23 = .ok (.goto 4, 3) := by decide +kernel
theorem dX7_restart_26 : decode cX7_restart 26 = .ok (.iconst 0, 1) := by decide +kernel
theorem dX7_restart_27 : decode cX7_restart 27 = .ok (.putfield 118, 3) := by decide +kernel
theorem dX7_restart_30 : decode cX7_restart 30 = .ok (.aload_n 0, 1) := by decide +kernel
theorem dX7_restart_31 : decode cX7_restart 31 = .ok (.getfield 118, 3) := by decide +kernel
theorem dX7_restart_34 : decode cX7_restart 34 = .ok (.ifCond .ne 10, 3) := by decide +kernel
theorem dX7_restart_37 : decode cX7_restart 37 = .ok (.aload_n 0, 1) := by decide +kernel
theorem dX7_restart_38 : decode cX7_restart 38 = .ok (.getfield 7, 3) := by decide +kernel
theorem dX7_restart_41 : decode cX7_restart 41 = .ok (.iload_n 1, 1) := by decide +kernel
theorem dX7_restart_42 : decode cX7_restart 42 = .ok (.iconst 1, 1) := by decide +kernel
theorem dX7_restart_43 : decode cX7_restart 43 = .ok (.bastore, 1) := by decide +kernel
theorem dX7_restart_44 : decode cX7_restart 44 = .ok (.return_, 1) := by decide +kernel
set_option maxRecDepth 20000 in
theorem ggX7_about_X7_noNode : GoodIn wsX7_about wsX7_noNode := goodIn_r _ [19, 20, 43, 44, 45, 46, 47, 48, 49, 50, 51, 52, 53, 54, 55, 56, 57, 58, 59, 60, 61, 62, 63, 64, 65, 66, 67, 68, 69, 70, 71, 72, 73, 74, 75, 76, 77, 78] (by decide +kernel) (by decide +kernel)
set_option maxRecDepth 20000 in
theorem gX7_about_X7_noNode : GoodIn wsX7_about (wsV RX7 132 RX7 yX7_noNode wsX7_noNode) := goodIn_app (goodIn_of _ (by decide +kernel)) ggX7_about_X7_noNode
set_option maxRecDepth 20000 in
theorem ggX7_about_X7_full : GoodIn wsX7_about wsX7_full := goodIn_r _ [24, 25, 2, 26, 27, 28, 18, 29, 30, 31, 32, 33, 34, 35, 36, 43, 44, 45, 46, 47, 48, 49, 50, 51, 52, 53, 54, 55, 56, 57, 58, 59, 60, 61, 62, 63, 64, 65, 66, 67, 68, 69, 70, 71, 72, 73, 74, 75, 76, 77, 78] (by decide +kernel) (by decide +kernel)
set_option maxRecDepth 20000 in
theorem gX7_about_X7_full : GoodIn wsX7_about (wsV RX7 163 RX7 yX7_full wsX7_full) := goodIn_app (goodIn_of _ (by decide +kernel)) ggX7_about_X7_full
set_option maxRecDepth 20000 in
theorem ggX7_about_X7_holds : GoodIn wsX7_about wsX7_holds := goodIn_r _ [40, 3, 2, 41, 42, 43, 44, 45, 46, 47, 48, 49, 50, 51, 52, 53, 54, 55, 56, 57, 58, 59, 60, 61, 62, 63, 64, 65, 66, 67, 68, 69, 70, 71, 72, 73, 74, 75, 76, 77, 78] (by decide +kernel) (by decide +kernel)
set_option maxRecDepth 20000 in
theorem gX7_about_X7_holds : GoodIn wsX7_about (wsV RX7 160 RX7 yX7_holds wsX7_holds) := goodIn_app (goodIn_of _ (by decide +kernel)) ggX7_about_X7_holds
theorem dX7_about_0 : decode cX7_about 0 = .ok (.aload_n 0, 1) := by decide +kernel
theorem dX7_about_1 : decode cX7_about 1 = .ok (.aload_n 0, 1) := by decide +kernel
theorem dX7_about_2 : decode cX7_about 2 = .ok (.iload_n 1, 1) := by decide +kernel
theorem dX7_about_3 : decode cX7_about 3 = .ok (.invokevirtual 132, 3) := by decide +kernel
theorem dX7_about_6 : decode cX7_about 6 = .ok (.ifCond .eq 7, 3) := by decide +kernel
theorem dX7_about_9 : decode cX7_about 9 = .ok (.iconst 1, 1) := by decide +kernel
theorem dX7_about_10 : decode cX7_about 10 = .ok (.goto 18, 3) := by decide +kernel
theorem dX7_about_13 : decode cX7_about 13 = .ok (.iload_n 2, 1) := by decide +kernel
theorem dX7_about_14 : decode cX7_about 14 = .ok (.ifCond .lt 9, 3) := by decide +kernel
theorem dX7_about_17 : decode cX7_about 17 = .ok (.iload_n 2, 1) := by decide +kernel
theorem dX7_about_18 : decode cX7_about 18 = .ok (.bipush 13, 2) := by decide +kernel
theorem dX7_about_20 : decode cX7_about 20 = .ok (.if_icmp .le 7, 3) := by decide +kernel
theorem dX7_about_23 : decode cX7_about 23 = .ok (.iconst 2, 1) := by decide +kernel
theorem dX7_about_24 : decode cX7_about 24 = .ok (.goto 4, 3) := by decide +kernel
theorem dX7_about_27 : decode cX7_about 27 = .ok (.iconst 0, 1) := by decide +kernel
theorem dX7_about_28 : decode cX7_about 28 = .ok (.putfield 118, 3) := by decide +kernel
theorem dX7_about_31 : decode cX7_about 31 = .ok (.aload_n 0, 1) := by decide +kernel
theorem dX7_about_32 : decode cX7_about 32 = .ok (.getfield 118, 3) := by decide +kernel
theorem dX7_about_35 : decode cX7_about 35 = .ok (.ifCond .le 5, 3) := by decide +kernel
theorem dX7_about_38 : decode cX7_about 38 = .ok (.iconst 0, 1) := by decide +kernel
theorem dX7_about_39 : decode cX7_about 39 = .ok (.ireturn, 1) := by decide +kernel
theorem dX7_about_40 : decode cX7_about 40 = .ok (.aload_n 0, 1) := by decide +kernel
theorem dX7_about_41 : decode cX7_about 41 = .ok (.getfield 17, 3) := by decide +kernel
theorem dX7_about_44 : decode cX7_about 44 = .ok (.iload_n 1, 1) := by decide +kernel
theorem dX7_about_45 : decode cX7_about 45 = .ok (.iaload, 1) := by decide +kernel
theorem dX7_about_46 : decode cX7_about 46 = .ok (.istore_n 3, 1) := by decide +kernel
theorem dX7_about_47 : decode cX7_about 47 = .ok (.iload_n 3, 1) := by decide +kernel
theorem dX7_about_48 : decode cX7_about 48 = .ok (.iconst (-1), 1) := by decide +kernel
theorem dX7_about_49 : decode cX7_about 49 = .ok (.if_icmp .eq 7, 3) := by decide +kernel
theorem dX7_about_52 : decode cX7_about 52 = .ok (.iconst 1, 1) := by decide +kernel
theorem dX7_about_53 : decode cX7_about 53 = .ok (.goto 4, 3) := by decide +kernel
theorem dX7_about_56 : decode cX7_about 56 = .ok (.iconst 0, 1) := by decide +kernel
theorem dX7_about_57 : decode cX7_about 57 = .ok (.istore 4, 2) := by decide +kernel
theorem dX7_about_59 : decode cX7_about 59 = .ok (.iload_n 2, 1) := by decide +kernel
theorem dX7_about_60 : decode cX7_about 60 = .ok (.iconst 4, 1) := by decide +kernel
theorem dX7_about_61 : decode cX7_about 61 = .ok (.if_icmp .ge 68, 3) := by decide +kernel
theorem dX7_about_64 : decode cX7_about 64 = .ok (.iload_n 2, 1) := by decide +kernel
theorem dX7_about_65 : decode cX7_about 65 = .ok (.ifCond .ne 20, 3) := by decide +kernel
theorem dX7_about_68 : decode cX7_about 68 = .ok (.aload_n 0, 1) := by decide +kernel
theorem dX7_about_69 : decode cX7_about 69 = .ok (.getfield 7, 3) := by decide +kernel
theorem dX7_about_72 : decode cX7_about 72 = .ok (.iload_n 1, 1) := by decide +kernel
theorem dX7_about_73 : decode cX7_about 73 = .ok (.baload, 1) := by decide +kernel
theorem dX7_about_74 : decode cX7_about 74 = .ok (.ifCond .eq 7, 3) := by decide +kernel
theorem dX7_about_77 : decode cX7_about 77 = .ok (.iconst 1, 1) := by decide +kernel
theorem dX7_about_78 : decode cX7_about 78 = .ok (.goto 50, 3) := by decide +kernel
theorem dX7_about_81 : decode cX7_about 81 = .ok (.iconst 0, 1) := by decide +kernel
theorem dX7_about_82 : decode cX7_about 82 = .ok (.goto 46, 3) := by decide +kernel
theorem dX7_about_85 : decode cX7_about 85 = .ok (.iload_n 2, 1) := by decide +kernel
theorem dX7_about_86 : decode cX7_about 86 = .ok (.iconst 1, 1) := by decide +kernel
theorem dX7_about_87 : decode cX7_about 87 = .ok (.if_icmp .ne 12, 3) := by decide +kernel
theorem dX7_about_90 : decode cX7_about 90 = .ok (.aload_n 0, 1) := by decide +kernel
theorem dX7_about_91 : decode cX7_about 91 = .ok (.getfield 13, 3) := by decide +kernel
theorem dX7_about_94 : decode cX7_about 94 = .ok (.iload_n 1, 1) := by decide +kernel
theorem dX7_about_95 : decode cX7_about 95 = .ok (.iaload, 1) := by decide +kernel
theorem dX7_about_96 : decode cX7_about 96 = .ok (.goto 32, 3) := by decide +kernel
theorem dX7_about_99 : decode cX7_about 99 = .ok (.iload 4, 2) := by decide +kernel
theorem dX7_about_101 : decode cX7_about 101 = .ok (.ifCond .ne 7, 3) := by decide +kernel
theorem dX7_about_104 : decode cX7_about 104 = .ok (.iconst 0, 1) := by decide +kernel
theorem dX7_about_105 : decode cX7_about 105 = .ok (.goto 23, 3) := by decide +kernel
theorem dX7_about_108 : decode cX7_about 108 = .ok (.iload_n 2, 1) := by decide +kernel
theorem dX7_about_109 : decode cX7_about 109 = .ok (.iconst 2, 1) := by decide +kernel
theorem dX7_about_110 : decode cX7_about 110 = .ok (.if_icmp .ne 12, 3) := by decide +kernel
theorem dX7_about_113 : decode cX7_about 113 = .ok (.aload_n 0, 1) := by decide +kernel
theorem dX7_about_114 : decode cX7_about 114 = .ok (.getfield 75, 3) := by decide +kernel
theorem dX7_about_117 : decode cX7_about 117 = .ok (.iload_n 3, 1) := by decide +kernel
theorem dX7_about_118 : decode cX7_about 118 = .ok (.iaload, 1) := by decide +kernel
theorem dX7_about_119 : decode cX7_about 119 = .ok (.goto 9, 3) := by decide +kernel
theorem dX7_about_122 : decode cX7_about 122 = .ok (.aload_n 0, 1) := by decide +kernel
theorem dX7_about_123 : decode cX7_about 123 = .ok (.getfield 78, 3) := by decide +kernel
theorem dX7_about_126 : decode cX7_about 126 = .ok (.iload_n 3, 1) := by decide +kernel
theorem dX7_about_127 : decode cX7_about 127 = .ok (.iaload, 1) := by decide +kernel
theorem dX7_about_128 : decode cX7_about 128 = .ok (.ireturn, 1) := by decide +kernel
theorem dX7_about_129 : decode cX7_about 129 = .ok (.iload_n 2, 1) := by decide +kernel
theorem dX7_about_130 : decode cX7_about 130 = .ok (.bipush 8, 2) := by decide +kernel
theorem dX7_about_132 : decode cX7_about 132 = .ok (.if_icmp .ge 61, 3) := by decide +kernel
theorem dX7_about_135 : decode cX7_about 135 = .ok (.iload_n 2, 1) := by decide +kernel
theorem dX7_about_136 : decode cX7_about 136 = .ok (.iconst 4, 1) := by decide +kernel
theorem dX7_about_137 : decode cX7_about 137 = .ok (.if_icmp .ne 12, 3) := by decide +kernel
theorem dX7_about_140 : decode cX7_about 140 = .ok (.aload_n 0, 1) := by decide +kernel
theorem dX7_about_141 : decode cX7_about 141 = .ok (.getfield 39, 3) := by decide +kernel
theorem dX7_about_144 : decode cX7_about 144 = .ok (.iload_n 1, 1) := by decide +kernel
theorem dX7_about_145 : decode cX7_about 145 = .ok (.iaload, 1) := by decide +kernel
theorem dX7_about_146 : decode cX7_about 146 = .ok (.goto 46, 3) := by decide +kernel
theorem dX7_about_149 : decode cX7_about 149 = .ok (.iload 4, 2) := by decide +kernel
theorem dX7_about_151 : decode cX7_about 151 = .ok (.ifCond .ne 7, 3) := by decide +kernel
theorem dX7_about_154 : decode cX7_about 154 = .ok (.iconst 0, 1) := by decide +kernel
theorem dX7_about_155 : decode cX7_about 155 = .ok (.goto 37, 3) := by decide +kernel
theorem dX7_about_158 : decode cX7_about 158 = .ok (.iload_n 2, 1) := by decide +kernel
theorem dX7_about_159 : decode cX7_about 159 = .ok (.iconst 5, 1) := by decide +kernel
theorem dX7_about_160 : decode cX7_about 160 = .ok (.if_icmp .ne 11, 3) := by decide +kernel
theorem dX7_about_163 : decode cX7_about 163 = .ok (.aload_n 0, 1) := by decide +kernel
theorem dX7_about_164 : decode cX7_about 164 = .ok (.iload_n 1, 1) := by decide +kernel
theorem dX7_about_165 : decode cX7_about 165 = .ok (.invokevirtual 163, 3) := by decide +kernel
theorem dX7_about_168 : decode cX7_about 168 = .ok (.goto 24, 3) := by decide +kernel
theorem dX7_about_171 : decode cX7_about 171 = .ok (.iload_n 2, 1) := by decide +kernel
theorem dX7_about_172 : decode cX7_about 172 = .ok (.bipush 6, 2) := by decide +kernel
theorem dX7_about_174 : decode cX7_about 174 = .ok (.if_icmp .ne 12, 3) := by decide +kernel
theorem dX7_about_177 : decode cX7_about 177 = .ok (.aload_n 0, 1) := by decide +kernel
theorem dX7_about_178 : decode cX7_about 178 = .ok (.getfield 51, 3) := by decide +kernel
theorem dX7_about_181 : decode cX7_about 181 = .ok (.iload_n 1, 1) := by decide +kernel
theorem dX7_about_182 : decode cX7_about 182 = .ok (.iaload, 1) := by decide +kernel
theorem dX7_about_183 : decode cX7_about 183 = .ok (.goto 9, 3) := by decide +kernel
theorem dX7_about_186 : decode cX7_about 186 = .ok (.aload_n 0, 1) := by decide +kernel
theorem dX7_about_187 : decode cX7_about 187 = .ok (.getfield 54, 3) := by decide +kernel
theorem dX7_about_190 : decode cX7_about 190 = .ok (.iload_n 1, 1) := by decide +kernel
theorem dX7_about_191 : decode cX7_about 191 = .ok (.iaload, 1) := by decide +kernel
theorem dX7_about_192 : decode cX7_about 192 = .ok (.ireturn, 1) := by decide +kernel
theorem dX7_about_193 : decode cX7_about 193 = .ok (.iload_n 2, 1) := by decide +kernel
theorem dX7_about_194 : decode cX7_about 194 = .ok (.bipush 12, 2) := by decide +kernel
theorem dX7_about_196 : decode cX7_about 196 = .ok (.if_icmp .ge 55, 3) := by decide +kernel
theorem dX7_about_199 : decode cX7_about 199 = .ok (.iload_n 2, 1) := by decide +kernel
theorem dX7_about_200 : decode cX7_about 200 = .ok (.bipush 8, 2) := by decide +kernel
theorem dX7_about_202 : decode cX7_about 202 = .ok (.if_icmp .ne 12, 3) := by decide +kernel
theorem dX7_about_205 : decode cX7_about 205 = .ok (.aload_n 0, 1) := by decide +kernel
theorem dX7_about_206 : decode cX7_about 206 = .ok (.getfield 27, 3) := by decide +kernel
theorem dX7_about_209 : decode cX7_about 209 = .ok (.iload_n 1, 1) := by decide +kernel
theorem dX7_about_210 : decode cX7_about 210 = .ok (.iaload, 1) := by decide +kernel
theorem dX7_about_211 : decode cX7_about 211 = .ok (.goto 39, 3) := by decide +kernel
theorem dX7_about_214 : decode cX7_about 214 = .ok (.iload_n 2, 1) := by decide +kernel
theorem dX7_about_215 : decode cX7_about 215 = .ok (.bipush 9, 2) := by decide +kernel
theorem dX7_about_217 : decode cX7_about 217 = .ok (.if_icmp .ne 12, 3) := by decide +kernel
theorem dX7_about_220 : decode cX7_about 220 = .ok (.aload_n 0, 1) := by decide +kernel
theorem dX7_about_221 : decode cX7_about 221 = .ok (.getfield 33, 3) := by decide +kernel
theorem dX7_about_224 : decode cX7_about 224 = .ok (.iload_n 1, 1) := by decide +kernel
theorem dX7_about_225 : decode cX7_about 225 = .ok (.iaload, 1) := by decide +kernel
theorem dX7_about_226 : decode cX7_about 226 = .ok (.goto 24, 3) := by decide +kernel
theorem dX7_about_229 : decode cX7_about 229 = .ok (.iload_n 2, 1) := by decide +kernel
theorem dX7_about_230 : decode cX7_about 230 = .ok (.bipush 10, 2) := by decide +kernel
theorem dX7_about_232 : decode cX7_about 232 = .ok (.if_icmp .ne 12, 3) := by decide +kernel
theorem dX7_about_235 : decode cX7_about 235 = .ok (.aload_n 0, 1) := by decide +kernel
theorem dX7_about_236 : decode cX7_about 236 = .ok (.getfield 36, 3) := by decide +kernel
theorem dX7_about_239 : decode cX7_about 239 = .ok (.iload_n 1, 1) := by decide +kernel
theorem dX7_about_240 : decode cX7_about 240 = .ok (.iaload, 1) := by decide +kernel
theorem dX7_about_241 : decode cX7_about 241 = .ok (.goto 9, 3) := by decide +kernel
theorem dX7_about_244 : decode cX7_about 244 = .ok (.aload_n 0, 1) := by decide +kernel
theorem dX7_about_245 : decode cX7_about 245 = .ok (.getfield 20, 3) := by decide +kernel
theorem dX7_about_248 : decode cX7_about 248 = .ok (.iload_n 1, 1) := by decide +kernel
theorem dX7_about_249 : decode cX7_about 249 = .ok (.iaload, 1) := by decide +kernel
theorem dX7_about_250 : decode cX7_about 250 = .ok (.ireturn, 1) := by decide +kernel
theorem dX7_about_251 : decode cX7_about 251 = .ok (.iload_n 2, 1) := by decide +kernel
theorem dX7_about_252 : decode cX7_about 252 = .ok (.bipush 12, 2) := by decide +kernel
theorem dX7_about_254 : decode cX7_about 254 = .ok (.if_icmp .ne 19, 3) := by decide +kernel
theorem dX7_about_257 : decode cX7_about 257 = .ok (.aload_n 0, 1) := by decide +kernel
theorem dX7_about_258 : decode cX7_about 258 = .ok (.iload_n 1, 1) := by decide +kernel
theorem dX7_about_259 : decode cX7_about 259 = .ok (.invokevirtual 160, 3) := by decide +kernel
theorem dX7_about_262 : decode cX7_about 262 = .ok (.ifCond .eq 7, 3) := by decide +kernel
theorem dX7_about_265 : decode cX7_about 265 = .ok (.iconst 1, 1) := by decide +kernel
theorem dX7_about_266 : decode cX7_about 266 = .ok (.goto 13, 3) := by decide +kernel
theorem dX7_about_269 : decode cX7_about 269 = .ok (.iconst 0, 1) := by decide +kernel
theorem dX7_about_270 : decode cX7_about 270 = .ok (.goto 9, 3) := by decide +kernel
theorem dX7_about_273 : decode cX7_about 273 = .ok (.aload_n 0, 1) := by decide +kernel
theorem dX7_about_274 : decode cX7_about 274 = .ok (.getfield 57, 3) := by decide +kernel
theorem dX7_about_277 : decode cX7_about 277 = .ok (.iload_n 1, 1) := by decide +kernel
theorem dX7_about_278 : decode cX7_about 278 = .ok (.iaload, 1) := by decide +kernel
theorem dX7_about_279 : decode cX7_about 279 = .ok (.ireturn, 1) := by decide +kernel
set_option maxRecDepth 20000 in
theorem ggX7_table_X7_noNode : GoodIn wsX7_table wsX7_noNode := goodIn_r _ [7, 8, 9, 10, 11, 12, 13, 14, 15, 16, 17, 18, 19, 20, 21, 22, 23, 24, 25, 26, 27, 28, 29, 30, 31, 32, 33, 34, 35, 36, 37, 38, 39, 40, 41, 42, 43, 44] (by decide +kernel) (by decide +kernel)
set_option maxRecDepth 20000 in
theorem gX7_table_X7_noNode : GoodIn wsX7_table (wsV RX7 132 RX7 yX7_noNode wsX7_noNode) := goodIn_app (goodIn_of _ (by decide +kernel)) ggX7_table_X7_noNode
theorem dX7_table_0 : decode cX7_table 0 = .ok (.aload_n 0, 1) := by decide +kernel
theorem dX7_table_1 : decode cX7_table 1 = .ok (.aload_n 0, 1) := by decide +kernel
theorem dX7_table_2 : decode cX7_table 2 = .ok (.iload_n 1, 1) := by decide +kernel
theorem dX7_table_3 : decode cX7_table 3 = .ok (.invokevirtual 132, 3) := by decide +kernel
theorem dX7_table_6 : decode cX7_table 6 = .ok (.ifCond .ne 13, 3) := by decide +kernel
theorem dX7_table_9 : decode cX7_table 9 = .ok (.iload_n 2, 1) := by decide +kernel
theorem dX7_table_10 : decode cX7_table 10 = .ok (.ifCond .lt 9, 3) := by decide +kernel
theorem dX7_table_13 : decode cX7_table 13 = .ok (.iload_n 2, 1) := by decide +kernel
theorem dX7_table_14 : decode cX7_table 14 = .ok (.bipush 16, 2) := by decide +kernel
theorem dX7_table_16 : decode cX7_table 16 = .ok (.if_icmp .lt 7, 3) := by decide +kernel
theorem dX7_table_19 : decode cX7_table 19 = .ok (.iconst 1, 1) := by decide +kernel
theorem dX7_table_20 : decode cX7_table 20 = .ok (.goto 4, 3) := by decide +kernel
theorem dX7_table_23 : decode cX7_table 23 = .ok (.iconst 0, 1) := by decide +kernel
theorem dX7_table_24 : decode cX7_table 24 = .ok (.putfield 118, 3) := by decide +kernel
theorem dX7_table_27 : decode cX7_table 27 = .ok (.aload_n 0, 1) := by decide +kernel
theorem dX7_table_28 : decode cX7_table 28 = .ok (.getfield 118, 3) := by decide +kernel
theorem dX7_table_31 : decode cX7_table 31 = .ok (.ifCond .le 7, 3) := by decide +kernel
theorem dX7_table_34 : decode cX7_table 34 = .ok (.lconst 0, 1) := by decide +kernel
theorem dX7_table_35 : decode cX7_table 35 = .ok (.goto 14, 3) := by decide +kernel
theorem dX7_table_38 : decode cX7_table 38 = .ok (.aload_n 0, 1) := by decide +kernel
theorem dX7_table_39 : decode cX7_table 39 = .ok (.getfield 23, 3) := by decide +kernel
theorem dX7_table_42 : decode cX7_table 42 = .ok (.bipush 16, 2) := by decide +kernel
theorem dX7_table_44 : decode cX7_table 44 = .ok (.iload_n 1, 1) := by decide +kernel
theorem dX7_table_45 : decode cX7_table 45 = .ok (.imul, 1) := by decide +kernel
theorem dX7_table_46 : decode cX7_table 46 = .ok (.iload_n 2, 1) := by decide +kernel
theorem dX7_table_47 : decode cX7_table 47 = .ok (.iadd, 1) := by decide +kernel
theorem dX7_table_48 : decode cX7_table 48 = .ok (.laload, 1) := by decide +kernel
theorem dX7_table_49 : decode cX7_table 49 = .ok (.lreturn, 1) := by decide +kernel
set_option maxRecDepth 20000 in
theorem ggX7_mark_X7_noNode : GoodIn wsX7_mark wsX7_noNode := goodIn_r _ [7, 8, 9, 10, 11, 12, 13, 14, 15, 16, 17, 18, 19, 20, 21, 22, 23, 24, 25, 26, 27, 28, 29, 30, 31, 32, 33, 34, 35, 36, 37, 38, 39, 40, 41, 42, 43, 44] (by decide +kernel) (by decide +kernel)
set_option maxRecDepth 20000 in
theorem gX7_mark_X7_noNode : GoodIn wsX7_mark (wsV RX7 132 RX7 yX7_noNode wsX7_noNode) := goodIn_app (goodIn_of _ (by decide +kernel)) ggX7_mark_X7_noNode
theorem dX7_mark_0 : decode cX7_mark 0 = .ok (.aload_n 0, 1) := by decide +kernel
theorem dX7_mark_1 : decode cX7_mark 1 = .ok (.aload_n 0, 1) := by decide +kernel
theorem dX7_mark_2 : decode cX7_mark 2 = .ok (.iload_n 1, 1) := by decide +kernel
theorem dX7_mark_3 : decode cX7_mark 3 = .ok (.invokevirtual 132, 3) := by decide +kernel
theorem dX7_mark_6 : decode cX7_mark 6 = .ok (.ifCond .eq 7, 3) := by decide +kernel
theorem dX7_mark_9 : decode cX7_mark 9 = .ok (.iconst 1, 1) := by decide +kernel
theorem dX7_mark_10 : decode cX7_mark 10 = .ok (.goto 4, 3) := by decide +kernel
theorem dX7_mark_13 : decode cX7_mark 13 = .ok (.iconst 0, 1) := by decide +kernel
theorem dX7_mark_14 : decode cX7_mark 14 = .ok (.putfield 118, 3) := by decide +kernel
theorem dX7_mark_17 : decode cX7_mark 17 = .ok (.aload_n 0, 1) := by decide +kernel
theorem dX7_mark_18 : decode cX7_mark 18 = .ok (.getfield 118, 3) := by decide +kernel
theorem dX7_mark_21 : decode cX7_mark 21 = .ok (.ifCond .le 7, 3) := by decide +kernel
theorem dX7_mark_24 : decode cX7_mark 24 = .ok (.lconst 0, 1) := by decide +kernel
theorem dX7_mark_25 : decode cX7_mark 25 = .ok (.goto 9, 3) := by decide +kernel
theorem dX7_mark_28 : decode cX7_mark 28 = .ok (.aload_n 0, 1) := by decide +kernel
theorem dX7_mark_29 : decode cX7_mark 29 = .ok (.getfield 30, 3) := by decide +kernel
theorem dX7_mark_32 : decode cX7_mark 32 = .ok (.iload_n 1, 1) := by decide +kernel
theorem dX7_mark_33 : decode cX7_mark 33 = .ok (.laload, 1) := by decide +kernel
end
section
theorem dX7_mark_34 : decode cX7_mark 34 = .ok (.lreturn, 1) := by decide +kernel
set_option maxRecDepth 20000 in
theorem ggX7_entry_X7_noNode : GoodIn wsX7_entry wsX7_noNode := goodIn_r _ [8, 9, 10, 11, 12, 13, 14, 15, 16, 17, 18, 19, 20, 21, 22, 23, 24, 25, 26, 27, 28, 29, 30, 31, 32, 33, 34, 35, 36, 37, 38, 39, 40, 41, 42, 43, 44, 45] (by decide +kernel) (by decide +kernel)
set_option maxRecDepth 20000 in
theorem gX7_entry_X7_noNode : GoodIn wsX7_entry (wsV RX7 132 RX7 yX7_noNode wsX7_noNode) := goodIn_app (goodIn_of _ (by decide +kernel)) ggX7_entry_X7_noNode
theorem dX7_entry_0 : decode cX7_entry 0 = .ok (.aload_n 0, 1) := by decide +kernel
theorem dX7_entry_1 : decode cX7_entry 1 = .ok (.iload_n 1, 1) := by decide +kernel
theorem dX7_entry_2 : decode cX7_entry 2 = .ok (.invokevirtual 132, 3) := by decide +kernel
theorem dX7_entry_5 : decode cX7_entry 5 = .ok (.ifCond .ne 14, 3) := by decide +kernel
theorem dX7_entry_8 : decode cX7_entry 8 = .ok (.aload_n 0, 1) := by decide +kernel
theorem dX7_entry_9 : decode cX7_entry 9 = .ok (.getfield 57, 3) := by decide +kernel
theorem dX7_entry_12 : decode cX7_entry 12 = .ok (.iload_n 1, 1) := by decide +kernel
theorem dX7_entry_13 : decode cX7_entry 13 = .ok (.iaload, 1) := by decide +kernel
theorem dX7_entry_14 : decode cX7_entry 14 = .ok (.bipush 100, 2) := by decide +kernel
theorem dX7_entry_16 : decode cX7_entry 16 = .ok (.if_icmp .ge 7, 3) := by decide +kernel
theorem dX7_entry_19 : decode cX7_entry 19 = .ok (.iconst 0, 1) := by decide +kernel
theorem dX7_entry_20 : decode cX7_entry 20 = .ok (.goto 12, 3) := by decide +kernel
theorem dX7_entry_23 : decode cX7_entry 23 = .ok (.aload_n 0, 1) := by decide +kernel
theorem dX7_entry_24 : decode cX7_entry 24 = .ok (.getfield 57, 3) := by decide +kernel
theorem dX7_entry_27 : decode cX7_entry 27 = .ok (.iload_n 1, 1) := by decide +kernel
theorem dX7_entry_28 : decode cX7_entry 28 = .ok (.iaload, 1) := by decide +kernel
theorem dX7_entry_29 : decode cX7_entry 29 = .ok (.bipush 100, 2) := by decide +kernel
theorem dX7_entry_31 : decode cX7_entry 31 = .ok (.isub, 1) := by decide +kernel
theorem dX7_entry_32 : decode cX7_entry 32 = .ok (.istore 4, 2) := by decide +kernel
theorem dX7_entry_34 : decode cX7_entry 34 = .ok (.aload_n 0, 1) := by decide +kernel
theorem dX7_entry_35 : decode cX7_entry 35 = .ok (.aload_n 0, 1) := by decide +kernel
theorem dX7_entry_36 : decode cX7_entry 36 = .ok (.iload_n 1, 1) := by decide +kernel
theorem dX7_entry_37 : decode cX7_entry 37 = .ok (.invokevirtual 132, 3) := by decide +kernel
theorem dX7_entry_40 : decode cX7_entry 40 = .ok (.ifCond .ne 20, 3) := by decide +kernel
theorem dX7_entry_43 : decode cX7_entry 43 = .ok (.iload_n 2, 1) := by decide +kernel
theorem dX7_entry_44 : decode cX7_entry 44 = .ok (.ifCond .lt 16, 3) := by decide +kernel
theorem dX7_entry_47 : decode cX7_entry 47 = .ok (.iload_n 2, 1) := by decide +kernel
theorem dX7_entry_48 : decode cX7_entry 48 = .ok (.aload_n 0, 1) := by decide +kernel
theorem dX7_entry_49 : decode cX7_entry 49 = .ok (.getfield 57, 3) := by decide +kernel
theorem dX7_entry_52 : decode cX7_entry 52 = .ok (.iload_n 1, 1) := by decide +kernel
theorem dX7_entry_53 : decode cX7_entry 53 = .ok (.iaload, 1) := by decide +kernel
theorem dX7_entry_54 : decode cX7_entry 54 = .ok (.iload 4, 2) := by decide +kernel
theorem dX7_entry_56 : decode cX7_entry 56 = .ok (.isub, 1) := by decide +kernel
theorem dX7_entry_57 : decode cX7_entry 57 = .ok (.if_icmp .lt 7, 3) := by decide +kernel
theorem dX7_entry_60 : decode cX7_entry 60 = .ok (.iconst 1, 1) := by decide +kernel
theorem dX7_entry_61 : decode cX7_entry 61 = .ok (.goto 17, 3) := by decide +kernel
theorem dX7_entry_64 : decode cX7_entry 64 = .ok (.iload_n 3, 1) := by decide +kernel
theorem dX7_entry_65 : decode cX7_entry 65 = .ok (.ifCond .lt 8, 3) := by decide +kernel
theorem dX7_entry_68 : decode cX7_entry 68 = .ok (.iload_n 3, 1) := by decide +kernel
theorem dX7_entry_69 : decode cX7_entry 69 = .ok (.iconst 5, 1) := by decide +kernel
theorem dX7_entry_70 : decode cX7_entry 70 = .ok (.if_icmp .le 7, 3) := by decide +kernel
theorem dX7_entry_73 : decode cX7_entry 73 = .ok (.iconst 2, 1) := by decide +kernel
theorem dX7_entry_74 : decode cX7_entry 74 = .ok (.goto 4, 3) := by decide +kernel
theorem dX7_entry_77 : decode cX7_entry 77 = .ok (.iconst 0, 1) := by decide +kernel
theorem dX7_entry_78 : decode cX7_entry 78 = .ok (.putfield 118, 3) := by decide +kernel
theorem dX7_entry_81 : decode cX7_entry 81 = .ok (.aload_n 0, 1) := by decide +kernel
theorem dX7_entry_82 : decode cX7_entry 82 = .ok (.getfield 118, 3) := by decide +kernel
theorem dX7_entry_85 : decode cX7_entry 85 = .ok (.ifCond .le 7, 3) := by decide +kernel
theorem dX7_entry_88 : decode cX7_entry 88 = .ok (.lconst 0, 1) := by decide +kernel
theorem dX7_entry_89 : decode cX7_entry 89 = .ok (.goto 25, 3) := by decide +kernel
theorem dX7_entry_92 : decode cX7_entry 92 = .ok (.aload_n 0, 1) := by decide +kernel
theorem dX7_entry_93 : decode cX7_entry 93 = .ok (.getfield 72, 3) := by decide +kernel
theorem dX7_entry_96 : decode cX7_entry 96 = .ok (.bipush 6, 2) := by decide +kernel
theorem dX7_entry_98 : decode cX7_entry 98 = .ok (.bipush 100, 2) := by decide +kernel
theorem dX7_entry_100 : decode cX7_entry 100 = .ok (.iload_n 1, 1) := by decide +kernel
theorem dX7_entry_101 : decode cX7_entry 101 = .ok (.imul, 1) := by decide +kernel
theorem dX7_entry_102 : decode cX7_entry 102 = .ok (.iload 4, 2) := by decide +kernel
theorem dX7_entry_104 : decode cX7_entry 104 = .ok (.iload_n 2, 1) := by decide +kernel
theorem dX7_entry_105 : decode cX7_entry 105 = .ok (.iadd, 1) := by decide +kernel
theorem dX7_entry_106 : decode cX7_entry 106 = .ok (.bipush 100, 2) := by decide +kernel
theorem dX7_entry_108 : decode cX7_entry 108 = .ok (.irem, 1) := by decide +kernel
theorem dX7_entry_109 : decode cX7_entry 109 = .ok (.iadd, 1) := by decide +kernel
theorem dX7_entry_110 : decode cX7_entry 110 = .ok (.imul, 1) := by decide +kernel
theorem dX7_entry_111 : decode cX7_entry 111 = .ok (.iload_n 3, 1) := by decide +kernel
theorem dX7_entry_112 : decode cX7_entry 112 = .ok (.iadd, 1) := by decide +kernel
theorem dX7_entry_113 : decode cX7_entry 113 = .ok (.laload, 1) := by decide +kernel
theorem dX7_entry_114 : decode cX7_entry 114 = .ok (.lreturn, 1) := by decide +kernel
set_option maxRecDepth 20000 in
theorem ggX7_primary_X7_noNode : GoodIn wsX7_primary wsX7_noNode := goodIn_r _ [9, 10, 11, 12, 13, 14, 15, 16, 17, 18, 19, 20, 21, 22, 23, 24, 25, 26, 27, 28, 29, 30, 31, 32, 33, 34, 35, 36, 37, 38, 39, 40, 41, 42, 43, 44, 45, 46] (by decide +kernel) (by decide +kernel)
set_option maxRecDepth 20000 in
theorem gX7_primary_X7_noNode : GoodIn wsX7_primary (wsV RX7 132 RX7 yX7_noNode wsX7_noNode) := goodIn_app (goodIn_of _ (by decide +kernel)) ggX7_primary_X7_noNode
theorem dX7_primary_0 : decode cX7_primary 0 = .ok (.aload_n 0, 1) := by decide +kernel
theorem dX7_primary_1 : decode cX7_primary 1 = .ok (.aload_n 0, 1) := by decide +kernel
theorem dX7_primary_2 : decode cX7_primary 2 = .ok (.iload_n 1, 1) := by decide +kernel
theorem dX7_primary_3 : decode cX7_primary 3 = .ok (.invokevirtual 132, 3) := by decide +kernel
theorem dX7_primary_6 : decode cX7_primary 6 = .ok (.ifCond .eq 7, 3) := by decide +kernel
theorem dX7_primary_9 : decode cX7_primary 9 = .ok (.iconst 1, 1) := by decide +kernel
theorem dX7_primary_10 : decode cX7_primary 10 = .ok (.goto 4, 3) := by decide +kernel
theorem dX7_primary_13 : decode cX7_primary 13 = .ok (.iconst 0, 1) := by decide +kernel
theorem dX7_primary_14 : decode cX7_primary 14 = .ok (.putfield 118, 3) := by decide +kernel
theorem dX7_primary_17 : decode cX7_primary 17 = .ok (.aload_n 0, 1) := by decide +kernel
theorem dX7_primary_18 : decode cX7_primary 18 = .ok (.getfield 118, 3) := by decide +kernel
theorem dX7_primary_21 : decode cX7_primary 21 = .ok (.ifCond .ne 37, 3) := by decide +kernel
theorem dX7_primary_24 : decode cX7_primary 24 = .ok (.aload_n 0, 1) := by decide +kernel
theorem dX7_primary_25 : decode cX7_primary 25 = .ok (.getfield 17, 3) := by decide +kernel
theorem dX7_primary_28 : decode cX7_primary 28 = .ok (.iload_n 1, 1) := by decide +kernel
theorem dX7_primary_29 : decode cX7_primary 29 = .ok (.iaload, 1) := by decide +kernel
theorem dX7_primary_30 : decode cX7_primary 30 = .ok (.iconst (-1), 1) := by decide +kernel
theorem dX7_primary_31 : decode cX7_primary 31 = .ok (.if_icmp .eq 27, 3) := by decide +kernel
theorem dX7_primary_34 : decode cX7_primary 34 = .ok (.aload_n 0, 1) := by decide +kernel
theorem dX7_primary_35 : decode cX7_primary 35 = .ok (.getfield 33, 3) := by decide +kernel
theorem dX7_primary_38 : decode cX7_primary 38 = .ok (.iload_n 1, 1) := by decide +kernel
theorem dX7_primary_39 : decode cX7_primary 39 = .ok (.iaload, 1) := by decide +kernel
theorem dX7_primary_40 : decode cX7_primary 40 = .ok (.aload_n 0, 1) := by decide +kernel
theorem dX7_primary_41 : decode cX7_primary 41 = .ok (.getfield 75, 3) := by decide +kernel
theorem dX7_primary_44 : decode cX7_primary 44 = .ok (.aload_n 0, 1) := by decide +kernel
theorem dX7_primary_45 : decode cX7_primary 45 = .ok (.getfield 17, 3) := by decide +kernel
theorem dX7_primary_48 : decode cX7_primary 48 = .ok (.iload_n 1, 1) := by decide +kernel
theorem dX7_primary_49 : decode cX7_primary 49 = .ok (.iaload, 1) := by decide +kernel
theorem dX7_primary_50 : decode cX7_primary 50 = .ok (.iaload, 1) := by decide +kernel
theorem dX7_primary_51 : decode cX7_primary 51 = .ok (.if_icmp .ne 7, 3) := by decide +kernel
theorem dX7_primary_54 : decode cX7_primary 54 = .ok (.iconst 1, 1) := by decide +kernel
theorem dX7_primary_55 : decode cX7_primary 55 = .ok (.goto 4, 3) := by decide +kernel
theorem dX7_primary_58 : decode cX7_primary 58 = .ok (.iconst 0, 1) := by decide +kernel
theorem dX7_primary_59 : decode cX7_primary 59 = .ok (.ireturn, 1) := by decide +kernel
theorem dJ6_bitCount_0f7a4_0 : decode cJ6_bitCount_0f7a4 0 = .ok (.iload_n 0, 1) := by decide +kernel
theorem dJ6_bitCount_0f7a4_1 : decode cJ6_bitCount_0f7a4 1 = .ok (.iload_n 0, 1) := by decide +kernel
theorem dJ6_bitCount_0f7a4_2 : decode cJ6_bitCount_0f7a4 2 = .ok (.iconst 1, 1) := by decide +kernel
theorem dJ6_bitCount_0f7a4_3 : decode cJ6_bitCount_0f7a4 3 = .ok (.iushr, 1) := by decide +kernel
theorem dJ6_bitCount_0f7a4_4 : decode cJ6_bitCount_0f7a4 4 = .ok (.ldc_w 265, 3) := by decide +kernel
theorem dJ6_bitCount_0f7a4_7 : decode cJ6_bitCount_0f7a4 7 = .ok (.iand, 1) := by decide +kernel
theorem dJ6_bitCount_0f7a4_8 : decode cJ6_bitCount_0f7a4 8 = .ok (.isub, 1) := by decide +kernel
theorem dJ6_bitCount_0f7a4_9 : decode cJ6_bitCount_0f7a4 9 = .ok (.istore_n 0, 1) := by decide +kernel
theorem dJ6_bitCount_0f7a4_10 : decode cJ6_bitCount_0f7a4 10 = .ok (.iload_n 0, 1) := by decide +kernel
theorem dJ6_bitCount_0f7a4_11 : decode cJ6_bitCount_0f7a4 11 = .ok (.ldc_w 266, 3) := by decide +kernel
theorem dJ6_bitCount_0f7a4_14 : decode cJ6_bitCount_0f7a4 14 = .ok (.iand, 1) := by decide +kernel
theorem dJ6_bitCount_0f7a4_15 : decode cJ6_bitCount_0f7a4 15 = .ok (.iload_n 0, 1) := by decide +kernel
theorem dJ6_bitCount_0f7a4_16 : decode cJ6_bitCount_0f7a4 16 = .ok (.iconst 2, 1) := by decide +kernel
theorem dJ6_bitCount_0f7a4_17 : decode cJ6_bitCount_0f7a4 17 = .ok (.iushr, 1) := by decide +kernel
theorem dJ6_bitCount_0f7a4_18 : decode cJ6_bitCount_0f7a4 18 = .ok (.ldc_w 266, 3) := by decide +kernel
theorem dJ6_bitCount_0f7a4_21 : decode cJ6_bitCount_0f7a4 21 = .ok (.iand, 1) := by decide +kernel
theorem dJ6_bitCount_0f7a4_22 : decode cJ6_bitCount_0f7a4 22 = .ok (.iadd, 1) := by decide +kernel
theorem dJ6_bitCount_0f7a4_23 : decode cJ6_bitCount_0f7a4 23 = .ok (.istore_n 0, 1) := by decide +kernel
theorem dJ6_bitCount_0f7a4_24 : decode cJ6_bitCount_0f7a4 24 = .ok (.iload_n 0, 1) := by decide +kernel
theorem dJ6_bitCount_0f7a4_25 : decode cJ6_bitCount_0f7a4 25 = .ok (.iload_n 0, 1) := by decide +kernel
theorem dJ6_bitCount_0f7a4_26 : decode cJ6_bitCount_0f7a4 26 = .ok (.iconst 4, 1) := by decide +kernel
theorem dJ6_bitCount_0f7a4_27 : decode cJ6_bitCount_0f7a4 27 = .ok (.iushr, 1) := by decide +kernel
theorem dJ6_bitCount_0f7a4_28 : decode cJ6_bitCount_0f7a4 28 = .ok (.iadd, 1) := by decide +kernel
theorem dJ6_bitCount_0f7a4_29 : decode cJ6_bitCount_0f7a4 29 = .ok (.ldc_w 267, 3) := by decide +kernel
theorem dJ6_bitCount_0f7a4_32 : decode cJ6_bitCount_0f7a4 32 = .ok (.iand, 1) := by decide +kernel
theorem dJ6_bitCount_0f7a4_33 : decode cJ6_bitCount_0f7a4 33 = .ok (.istore_n 0, 1) := by decide +kernel
theorem dJ6_bitCount_0f7a4_34 : decode cJ6_bitCount_0f7a4 34 = .ok (.iload_n 0, 1) := by decide +kernel
theorem dJ6_bitCount_0f7a4_35 : decode cJ6_bitCount_0f7a4 35 = .ok (.iload_n 0, 1) := by decide +kernel
theorem dJ6_bitCount_0f7a4_36 : decode cJ6_bitCount_0f7a4 36 = .ok (.bipush 8, 2) := by decide +kernel
theorem dJ6_bitCount_0f7a4_38 : decode cJ6_bitCount_0f7a4 38 = .ok (.iushr, 1) := by decide +kernel
theorem dJ6_bitCount_0f7a4_39 : decode cJ6_bitCount_0f7a4 39 = .ok (.iadd, 1) := by decide +kernel
theorem dJ6_bitCount_0f7a4_40 : decode cJ6_bitCount_0f7a4 40 = .ok (.istore_n 0, 1) := by decide +kernel
theorem dJ6_bitCount_0f7a4_41 : decode cJ6_bitCount_0f7a4 41 = .ok (.iload_n 0, 1) := by decide +kernel
theorem dJ6_bitCount_0f7a4_42 : decode cJ6_bitCount_0f7a4 42 = .ok (.iload_n 0, 1) := by decide +kernel
theorem dJ6_bitCount_0f7a4_43 : decode cJ6_bitCount_0f7a4 43 = .ok (.bipush 16, 2) := by decide +kernel
theorem dJ6_bitCount_0f7a4_45 : decode cJ6_bitCount_0f7a4 45 = .ok (.iushr, 1) := by decide +kernel
theorem dJ6_bitCount_0f7a4_46 : decode cJ6_bitCount_0f7a4 46 = .ok (.iadd, 1) := by decide +kernel
theorem dJ6_bitCount_0f7a4_47 : decode cJ6_bitCount_0f7a4 47 = .ok (.istore_n 0, 1) := by decide +kernel
theorem dJ6_bitCount_0f7a4_48 : decode cJ6_bitCount_0f7a4 48 = .ok (.iload_n 0, 1) := by decide +kernel
theorem dJ6_bitCount_0f7a4_49 : decode cJ6_bitCount_0f7a4 49 = .ok (.bipush 63, 2) := by decide +kernel
theorem dJ6_bitCount_0f7a4_51 : decode cJ6_bitCount_0f7a4 51 = .ok (.iand, 1) := by decide +kernel
theorem dJ6_bitCount_0f7a4_52 : decode cJ6_bitCount_0f7a4 52 = .ok (.ireturn, 1) := by decide +kernel
theorem dJ9_floorMod_7cf53_0 : decode cJ9_floorMod_7cf53 0 = .ok (.iload_n 0, 1) := by decide +kernel
theorem dJ9_floorMod_7cf53_1 : decode cJ9_floorMod_7cf53 1 = .ok (.iload_n 1, 1) := by decide +kernel
theorem dJ9_floorMod_7cf53_2 : decode cJ9_floorMod_7cf53 2 = .ok (.irem, 1) := by decide +kernel
theorem dJ9_floorMod_7cf53_3 : decode cJ9_floorMod_7cf53 3 = .ok (.istore_n 2, 1) := by decide +kernel
theorem dJ9_floorMod_7cf53_4 : decode cJ9_floorMod_7cf53 4 = .ok (.iload_n 0, 1) := by decide +kernel
theorem dJ9_floorMod_7cf53_5 : decode cJ9_floorMod_7cf53 5 = .ok (.iload_n 1, 1) := by decide +kernel
theorem dJ9_floorMod_7cf53_6 : decode cJ9_floorMod_7cf53 6 = .ok (.ixor, 1) := by decide +kernel
theorem dJ9_floorMod_7cf53_7 : decode cJ9_floorMod_7cf53 7 = .ok (.ifCond .ge 11, 3) := by decide +kernel
theorem dJ9_floorMod_7cf53_10 : decode cJ9_floorMod_7cf53 10 = .ok (.iload_n 2, 1) := by decide +kernel
theorem dJ9_floorMod_7cf53_11 : decode cJ9_floorMod_7cf53 11 = .ok (.ifCond .eq 7, 3) := by decide +kernel
theorem dJ9_floorMod_7cf53_14 : decode cJ9_floorMod_7cf53 14 = .ok (.iload_n 2, 1) := by decide +kernel
theorem dJ9_floorMod_7cf53_15 : decode cJ9_floorMod_7cf53 15 = .ok (.iload_n 1, 1) := by decide +kernel
theorem dJ9_floorMod_7cf53_16 : decode cJ9_floorMod_7cf53 16 = .ok (.iadd, 1) := by decide +kernel
theorem dJ9_floorMod_7cf53_17 : decode cJ9_floorMod_7cf53 17 = .ok (.ireturn, 1) := by decide +kernel
theorem dJ9_floorMod_7cf53_18 : decode cJ9_floorMod_7cf53 18 = .ok (.iload_n 2, 1) := by decide +kernel
theorem dJ9_floorMod_7cf53_19 : decode cJ9_floorMod_7cf53 19 = .ok (.ireturn, 1) := by decide +kernel
theorem dJ9_max_7cf53_0 : decode cJ9_max_7cf53 0 = .ok (.iload_n 0, 1) := by decide +kernel
theorem dJ9_max_7cf53_1 : decode cJ9_max_7cf53 1 = .ok (.iload_n 1, 1) := by decide +kernel
theorem dJ9_max_7cf53_2 : decode cJ9_max_7cf53 2 = .ok (.if_icmp .lt 7, 3) := by decide +kernel
theorem dJ9_max_7cf53_5 : decode cJ9_max_7cf53 5 = .ok (.iload_n 0, 1) := by decide +kernel
theorem dJ9_max_7cf53_6 : decode cJ9_max_7cf53 6 = .ok (.goto 4, 3) := by decide +kernel
theorem dJ9_max_7cf53_9 : decode cJ9_max_7cf53 9 = .ok (.iload_n 1, 1) := by decide +kernel
theorem dJ9_max_7cf53_10 : decode cJ9_max_7cf53 10 = .ok (.ireturn, 1) := by decide +kernel
theorem dJ9_min_7cf53_0 : decode cJ9_min_7cf53 0 = .ok (.iload_n 0, 1) := by decide +kernel
theorem dJ9_min_7cf53_1 : decode cJ9_min_7cf53 1 = .ok (.iload_n 1, 1) := by decide +kernel
theorem dJ9_min_7cf53_2 : decode cJ9_min_7cf53 2 = .ok (.if_icmp .gt 7, 3) := by decide +kernel
theorem dJ9_min_7cf53_5 : decode cJ9_min_7cf53 5 = .ok (.iload_n 0, 1) := by decide +kernel
theorem dJ9_min_7cf53_6 : decode cJ9_min_7cf53 6 = .ok (.goto 4, 3) := by decide +kernel
theorem dJ9_min_7cf53_9 : decode cJ9_min_7cf53 9 = .ok (.iload_n 1, 1) := by decide +kernel
theorem dJ9_min_7cf53_10 : decode cJ9_min_7cf53 10 = .ok (.ireturn, 1) := by decide +kernel
theorem dL_cell_0 : decode cL_cell 0 = .ok (.iload_n 1, 1) := by decide +kernel
theorem dL_cell_1 : decode cL_cell 1 = .ok (.aload_n 0, 1) := by decide +kernel
theorem dL_cell_2 : decode cL_cell 2 = .ok (.arraylength, 1) := by decide +kernel
theorem dL_cell_3 : decode cL_cell 3 = .ok (.if_icmp .ge 9, 3) := by decide +kernel
theorem dL_cell_6 : decode cL_cell 6 = .ok (.aload_n 0, 1) := by decide +kernel
theorem dL_cell_7 : decode cL_cell 7 = .ok (.iload_n 1, 1) := by decide +kernel
theorem dL_cell_8 : decode cL_cell 8 = .ok (.iaload, 1) := by decide +kernel
theorem dL_cell_9 : decode cL_cell 9 = .ok (.goto 4, 3) := by decide +kernel
theorem dL_cell_12 : decode cL_cell 12 = .ok (.iconst 0, 1) := by decide +kernel
theorem dL_cell_13 : decode cL_cell 13 = .ok (.ireturn, 1) := by decide +kernel
set_option maxRecDepth 20000 in
theorem ggL_send_X6_send : GoodIn wsL_send wsX6_send := goodIn_ca (goodIn_ca (goodIn_r _ [7, 8, 9, 10, 11, 12, 13, 14, 15, 16, 17, 6, 18, 19, 20, 21, 22, 23, 24, 25, 26, 27, 28, 29, 30, 31, 32, 33, 34, 35, 36, 37, 38, 39, 40, 41, 42, 43, 44, 45, 46, 47, 48, 49, 50, 51, 52, 53, 54, 55, 56, 57, 58, 59, 60, 61, 62, 63, 64, 65, 66, 67, 68] (by decide +kernel) (by decide +kernel)) (goodIn_sub (fun _ h => List.mem_cons_of_mem _ (List.mem_append_left _ (List.mem_append_right _ h))) (by decide +kernel))) (goodIn_sub (fun _ h => List.mem_cons_of_mem _ (List.mem_append_right _ h)) (by decide +kernel))
set_option maxRecDepth 20000 in
theorem gL_send_X6_send : GoodIn wsL_send (wsV RL 7 RX6 yX6_send wsX6_send) := goodIn_app (goodIn_of _ (by decide +kernel)) ggL_send_X6_send
theorem dL_send_0 : decode cL_send 0 = .ok (.aload 6, 2) := by decide +kernel
theorem dL_send_2 : decode cL_send 2 = .ok (.iconst 0, 1) := by decide +kernel
theorem dL_send_3 : decode cL_send 3 = .ok (.aload_n 0, 1) := by decide +kernel
theorem dL_send_4 : decode cL_send 4 = .ok (.iload_n 1, 1) := by decide +kernel
theorem dL_send_5 : decode cL_send 5 = .ok (.iload_n 2, 1) := by decide +kernel
theorem dL_send_6 : decode cL_send 6 = .ok (.lload_n 3, 1) := by decide +kernel
theorem dL_send_7 : decode cL_send 7 = .ok (.iload 5, 2) := by decide +kernel
theorem dL_send_9 : decode cL_send 9 = .ok (.invokevirtual 7, 3) := by decide +kernel
theorem dL_send_12 : decode cL_send 12 = .ok (.i2l, 1) := by decide +kernel
theorem dL_send_13 : decode cL_send 13 = .ok (.lastore, 1) := by decide +kernel
theorem dL_send_14 : decode cL_send 14 = .ok (.goto 11, 3) := by decide +kernel
theorem dL_send_17 : decode cL_send 17 = .ok (.astore 7, 2) := by decide +kernel
theorem dL_send_19 : decode cL_send 19 = .ok (.iconst 1, 1) := by decide +kernel
theorem dL_send_20 : decode cL_send 20 = .ok (.ireturn, 1) := by decide +kernel
theorem dL_send_21 : decode cL_send 21 = .ok (.astore 7, 2) := by decide +kernel
theorem dL_send_23 : decode cL_send 23 = .ok (.iconst 2, 1) := by decide +kernel
theorem dL_send_24 : decode cL_send 24 = .ok (.ireturn, 1) := by decide +kernel
theorem dL_send_25 : decode cL_send 25 = .ok (.iconst 0, 1) := by decide +kernel
theorem dL_send_26 : decode cL_send 26 = .ok (.ireturn, 1) := by decide +kernel
set_option maxRecDepth 20000 in
theorem ggL_pass_X6_pass : GoodIn wsL_pass wsX6_pass := goodIn_ca (goodIn_ca (goodIn_r _ [7, 8, 9, 10, 11, 12, 13, 14, 15, 16, 17, 18, 19, 20, 6, 21, 22, 23, 24, 25, 26, 27, 28, 29, 30, 31, 32, 33, 34, 35, 36, 37, 38, 39, 40, 41, 42, 43, 44, 45, 46, 47, 48, 49, 50, 51, 52, 53, 54, 55, 56, 57, 58, 59, 60, 61, 62, 63, 64, 65, 66, 67, 68, 69, 70, 71, 72, 73, 74, 75, 76, 77, 78, 79, 80, 81, 82, 83, 84, 85, 86, 87, 88, 89, 90, 91, 92, 93, 94, 95, 96, 97, 98, 99, 100, 101, 102, 103, 104, 105, 106, 107, 108, 109, 110, 111, 112, 113, 114, 115, 116, 117, 118, 119, 120, 121, 122, 123, 124, 125, 126, 127, 128, 129, 130, 131, 132, 133, 134, 135, 136, 137, 138, 139, 140, 141, 142, 143, 144, 145, 146, 147, 148, 149, 150, 151, 152, 153, 154, 155, 156, 157, 158, 159, 160, 161, 162, 163, 164, 165, 166, 167, 168, 169, 170, 171, 172, 173, 174, 175] (by decide +kernel) (by decide +kernel)) (goodIn_sub (fun _ h => List.mem_cons_of_mem _ (List.mem_append_left _ (List.mem_append_right _ h))) (by decide +kernel))) (goodIn_sub (fun _ h => List.mem_cons_of_mem _ (List.mem_append_right _ h)) (by decide +kernel))
set_option maxRecDepth 20000 in
theorem gL_pass_X6_pass : GoodIn wsL_pass (wsV RL 17 RX6 yX6_pass wsX6_pass) := goodIn_app (goodIn_of _ (by decide +kernel)) ggL_pass_X6_pass
theorem dL_pass_0 : decode cL_pass 0 = .ok (.aload_n 3, 1) := by decide +kernel
theorem dL_pass_1 : decode cL_pass 1 = .ok (.iconst 0, 1) := by decide +kernel
theorem dL_pass_2 : decode cL_pass 2 = .ok (.aload_n 0, 1) := by decide +kernel
theorem dL_pass_3 : decode cL_pass 3 = .ok (.iload_n 1, 1) := by decide +kernel
theorem dL_pass_4 : decode cL_pass 4 = .ok (.iload_n 2, 1) := by decide +kernel
theorem dL_pass_5 : decode cL_pass 5 = .ok (.invokevirtual 17, 3) := by decide +kernel
theorem dL_pass_8 : decode cL_pass 8 = .ok (.i2l, 1) := by decide +kernel
theorem dL_pass_9 : decode cL_pass 9 = .ok (.lastore, 1) := by decide +kernel
theorem dL_pass_10 : decode cL_pass 10 = .ok (.goto 11, 3) := by decide +kernel
theorem dL_pass_13 : decode cL_pass 13 = .ok (.astore 4, 2) := by decide +kernel
theorem dL_pass_15 : decode cL_pass 15 = .ok (.iconst 1, 1) := by decide +kernel
theorem dL_pass_16 : decode cL_pass 16 = .ok (.ireturn, 1) := by decide +kernel
theorem dL_pass_17 : decode cL_pass 17 = .ok (.astore 4, 2) := by decide +kernel
theorem dL_pass_19 : decode cL_pass 19 = .ok (.iconst 2, 1) := by decide +kernel
theorem dL_pass_20 : decode cL_pass 20 = .ok (.ireturn, 1) := by decide +kernel
theorem dL_pass_21 : decode cL_pass 21 = .ok (.iconst 0, 1) := by decide +kernel
theorem dL_pass_22 : decode cL_pass 22 = .ok (.ireturn, 1) := by decide +kernel
set_option maxRecDepth 20000 in
theorem ggL_gather_X6_gather : GoodIn wsL_gather wsX6_gather := goodIn_ca (goodIn_ca (goodIn_r _ [7, 8, 9, 10, 11, 12, 13, 14, 15, 16, 6, 17, 18, 19, 20, 21, 22, 23, 24, 25, 26, 27, 28, 29, 30, 31, 32, 33, 34, 35, 36, 37, 38, 39, 40, 41, 42, 43, 44, 45, 46, 47, 48, 49, 50, 51, 52, 53, 54, 55, 56, 57, 58, 59, 60, 61, 62, 63, 64, 65, 66, 67, 68, 69, 70, 71, 72, 73, 74, 75, 76, 77, 78, 79, 80, 81, 82, 83, 84, 85, 86, 87, 88, 89, 90, 91, 92, 93, 94, 95, 96, 97, 98, 99, 100, 101, 102, 103, 104, 105, 106, 107, 108, 109, 110, 111, 112, 113, 114, 115, 116, 117, 118, 119, 120, 121, 122, 123, 124, 125, 126, 127, 128, 129, 130, 131, 132, 133, 134, 135, 136, 137, 138, 139, 140, 141, 142, 143, 144, 145, 146, 147, 148, 149, 150, 151, 152, 153, 154, 155, 156, 157, 158, 159, 160, 161, 162, 163, 164, 165, 166, 167, 168, 169, 170, 171, 172, 173, 174, 175, 176, 177, 178, 179, 180, 181, 182, 183, 184, 185, 186, 187, 188, 189, 190, 191, 192, 193, 194, 195, 196, 197, 198, 199, 200, 201, 202, 203, 204, 205, 206, 207, 208, 209, 210, 211, 212, 213, 214, 215, 216, 217, 218, 219, 220, 221, 222, 223, 224, 225, 226, 227, 228, 229, 230, 231, 232, 233] (by decide +kernel) (by decide +kernel)) (goodIn_sub (fun _ h => List.mem_cons_of_mem _ (List.mem_append_left _ (List.mem_append_right _ h))) (by decide +kernel))) (goodIn_sub (fun _ h => List.mem_cons_of_mem _ (List.mem_append_right _ h)) (by decide +kernel))
set_option maxRecDepth 20000 in
theorem gL_gather_X6_gather : GoodIn wsL_gather (wsV RL 21 RX6 yX6_gather wsX6_gather) := goodIn_app (goodIn_of _ (by decide +kernel)) ggL_gather_X6_gather
theorem dL_gather_0 : decode cL_gather 0 = .ok (.aload_n 2, 1) := by decide +kernel
theorem dL_gather_1 : decode cL_gather 1 = .ok (.iconst 0, 1) := by decide +kernel
theorem dL_gather_2 : decode cL_gather 2 = .ok (.aload_n 0, 1) := by decide +kernel
theorem dL_gather_3 : decode cL_gather 3 = .ok (.iload_n 1, 1) := by decide +kernel
theorem dL_gather_4 : decode cL_gather 4 = .ok (.invokevirtual 21, 3) := by decide +kernel
theorem dL_gather_7 : decode cL_gather 7 = .ok (.i2l, 1) := by decide +kernel
theorem dL_gather_8 : decode cL_gather 8 = .ok (.lastore, 1) := by decide +kernel
theorem dL_gather_9 : decode cL_gather 9 = .ok (.goto 9, 3) := by decide +kernel
theorem dL_gather_12 : decode cL_gather 12 = .ok (.astore_n 3, 1) := by decide +kernel
theorem dL_gather_13 : decode cL_gather 13 = .ok (.iconst 1, 1) := by decide +kernel
theorem dL_gather_14 : decode cL_gather 14 = .ok (.ireturn, 1) := by decide +kernel
theorem dL_gather_15 : decode cL_gather 15 = .ok (.astore_n 3, 1) := by decide +kernel
theorem dL_gather_16 : decode cL_gather 16 = .ok (.iconst 2, 1) := by decide +kernel
theorem dL_gather_17 : decode cL_gather 17 = .ok (.ireturn, 1) := by decide +kernel
theorem dL_gather_18 : decode cL_gather 18 = .ok (.iconst 0, 1) := by decide +kernel
theorem dL_gather_19 : decode cL_gather 19 = .ok (.ireturn, 1) := by decide +kernel
set_option maxRecDepth 20000 in
theorem ggL_part_X6_part : GoodIn wsL_part wsX6_part := goodIn_ca (goodIn_ca (goodIn_r _ [7, 8, 9, 10, 11, 12, 13, 6, 14, 15, 16, 17, 18, 19, 20, 21, 22, 23, 24, 25, 26, 27, 28, 29, 30, 31, 32, 33, 34] (by decide +kernel) (by decide +kernel)) (goodIn_sub (fun _ h => List.mem_cons_of_mem _ (List.mem_append_left _ (List.mem_append_right _ h))) (by decide +kernel))) (goodIn_sub (fun _ h => List.mem_cons_of_mem _ (List.mem_append_right _ h)) (by decide +kernel))
set_option maxRecDepth 20000 in
theorem gL_part_X6_part : GoodIn wsL_part (wsV RL 25 RX6 yX6_part wsX6_part) := goodIn_app (goodIn_of _ (by decide +kernel)) ggL_part_X6_part
theorem dL_part_0 : decode cL_part 0 = .ok (.aload_n 0, 1) := by decide +kernel
theorem dL_part_1 : decode cL_part 1 = .ok (.iload_n 1, 1) := by decide +kernel
theorem dL_part_2 : decode cL_part 2 = .ok (.iload_n 2, 1) := by decide +kernel
theorem dL_part_3 : decode cL_part 3 = .ok (.invokevirtual 25, 3) := by decide +kernel
theorem dL_part_6 : decode cL_part 6 = .ok (.goto 9, 3) := by decide +kernel
theorem dL_part_9 : decode cL_part 9 = .ok (.astore_n 3, 1) := by decide +kernel
theorem dL_part_10 : decode cL_part 10 = .ok (.iconst 1, 1) := by decide +kernel
theorem dL_part_11 : decode cL_part 11 = .ok (.ireturn, 1) := by decide +kernel
theorem dL_part_12 : decode cL_part 12 = .ok (.astore_n 3, 1) := by decide +kernel
theorem dL_part_13 : decode cL_part 13 = .ok (.iconst 2, 1) := by decide +kernel
theorem dL_part_14 : decode cL_part 14 = .ok (.ireturn, 1) := by decide +kernel
theorem dL_part_15 : decode cL_part 15 = .ok (.iconst 0, 1) := by decide +kernel
theorem dL_part_16 : decode cL_part 16 = .ok (.ireturn, 1) := by decide +kernel
set_option maxRecDepth 20000 in
theorem ggL_crash_X6_crash : GoodIn wsL_crash wsX6_crash := goodIn_ca (goodIn_ca (goodIn_r _ [7, 8, 9, 10, 11, 12, 13, 14, 15, 6, 16, 17, 18, 19, 20, 21, 22, 23, 24, 25, 26, 27, 28, 29, 30, 31, 32, 33, 34, 35, 36, 37, 38, 39, 40, 41, 42, 43, 44, 45, 46, 47, 48, 49, 50, 51, 52, 53, 54, 55, 56, 57, 58, 59, 60, 61] (by decide +kernel) (by decide +kernel)) (goodIn_sub (fun _ h => List.mem_cons_of_mem _ (List.mem_append_left _ (List.mem_append_right _ h))) (by decide +kernel))) (goodIn_sub (fun _ h => List.mem_cons_of_mem _ (List.mem_append_right _ h)) (by decide +kernel))
set_option maxRecDepth 20000 in
theorem gL_crash_X6_crash : GoodIn wsL_crash (wsV RL 31 RX6 yX6_crash wsX6_crash) := goodIn_app (goodIn_of _ (by decide +kernel)) ggL_crash_X6_crash
theorem dL_crash_0 : decode cL_crash 0 = .ok (.aload_n 0, 1) := by decide +kernel
theorem dL_crash_1 : decode cL_crash 1 = .ok (.iload_n 1, 1) := by decide +kernel
theorem dL_crash_2 : decode cL_crash 2 = .ok (.invokevirtual 31, 3) := by decide +kernel
theorem dL_crash_5 : decode cL_crash 5 = .ok (.goto 9, 3) := by decide +kernel
theorem dL_crash_8 : decode cL_crash 8 = .ok (.astore_n 2, 1) := by decide +kernel
theorem dL_crash_9 : decode cL_crash 9 = .ok (.iconst 1, 1) := by decide +kernel
theorem dL_crash_10 : decode cL_crash 10 = .ok (.ireturn, 1) := by decide +kernel
theorem dL_crash_11 : decode cL_crash 11 = .ok (.astore_n 2, 1) := by decide +kernel
theorem dL_crash_12 : decode cL_crash 12 = .ok (.iconst 2, 1) := by decide +kernel
theorem dL_crash_13 : decode cL_crash 13 = .ok (.ireturn, 1) := by decide +kernel
theorem dL_crash_14 : decode cL_crash 14 = .ok (.iconst 0, 1) := by decide +kernel
theorem dL_crash_15 : decode cL_crash 15 = .ok (.ireturn, 1) := by decide +kernel
set_option maxRecDepth 20000 in
theorem ggL_restart_X6_restart : GoodIn wsL_restart wsX6_restart := goodIn_ca (goodIn_ca (goodIn_r _ [7, 8, 9, 10, 11, 12, 13, 6, 14, 15, 16, 17, 18, 19, 20, 21, 22, 23, 24, 25, 26, 27, 28, 29, 30, 31, 32, 33, 34] (by decide +kernel) (by decide +kernel)) (goodIn_sub (fun _ h => List.mem_cons_of_mem _ (List.mem_append_left _ (List.mem_append_right _ h))) (by decide +kernel))) (goodIn_sub (fun _ h => List.mem_cons_of_mem _ (List.mem_append_right _ h)) (by decide +kernel))
set_option maxRecDepth 20000 in
theorem gL_restart_X6_restart : GoodIn wsL_restart (wsV RL 35 RX6 yX6_restart wsX6_restart) := goodIn_app (goodIn_of _ (by decide +kernel)) ggL_restart_X6_restart
theorem dL_restart_0 : decode cL_restart 0 = .ok (.aload_n 0, 1) := by decide +kernel
theorem dL_restart_1 : decode cL_restart 1 = .ok (.iload_n 1, 1) := by decide +kernel
theorem dL_restart_2 : decode cL_restart 2 = .ok (.invokevirtual 35, 3) := by decide +kernel
theorem dL_restart_5 : decode cL_restart 5 = .ok (.goto 9, 3) := by decide +kernel
theorem dL_restart_8 : decode cL_restart 8 = .ok (.astore_n 2, 1) := by decide +kernel
theorem dL_restart_9 : decode cL_restart 9 = .ok (.iconst 1, 1) := by decide +kernel
theorem dL_restart_10 : decode cL_restart 10 = .ok (.ireturn, 1) := by decide +kernel
theorem dL_restart_11 : decode cL_restart 11 = .ok (.astore_n 2, 1) := by decide +kernel
theorem dL_restart_12 : decode cL_restart 12 = .ok (.iconst 2, 1) := by decide +kernel
theorem dL_restart_13 : decode cL_restart 13 = .ok (.ireturn, 1) := by decide +kernel
theorem dL_restart_14 : decode cL_restart 14 = .ok (.iconst 0, 1) := by decide +kernel
theorem dL_restart_15 : decode cL_restart 15 = .ok (.ireturn, 1) := by decide +kernel
set_option maxRecDepth 20000 in
theorem ggL_about_X6_about : GoodIn wsL_about wsX6_about := goodIn_ca (goodIn_ca (goodIn_r _ [7, 8, 9, 10, 11, 12, 13, 14, 15, 16, 17, 18, 19, 20, 21, 22, 23, 24, 25, 26, 27, 28, 29, 6, 30, 31, 32, 33, 34, 35, 36, 37, 38, 39, 40, 41, 42, 43, 44, 45, 46, 47, 48, 49, 50, 51, 52, 53, 54, 55, 56, 57, 58, 59, 60, 61, 62, 63, 64, 65, 66, 67, 68, 69, 70, 71] (by decide +kernel) (by decide +kernel)) (goodIn_sub (fun _ h => List.mem_cons_of_mem _ (List.mem_append_left _ (List.mem_append_right _ h))) (by decide +kernel))) (goodIn_sub (fun _ h => List.mem_cons_of_mem _ (List.mem_append_right _ h)) (by decide +kernel))
set_option maxRecDepth 20000 in
theorem gL_about_X6_about : GoodIn wsL_about (wsV RL 38 RX6 yX6_about wsX6_about) := goodIn_app (goodIn_of _ (by decide +kernel)) ggL_about_X6_about
theorem dL_about_0 : decode cL_about 0 = .ok (.aload_n 3, 1) := by decide +kernel
theorem dL_about_1 : decode cL_about 1 = .ok (.iconst 0, 1) := by decide +kernel
theorem dL_about_2 : decode cL_about 2 = .ok (.aload_n 0, 1) := by decide +kernel
theorem dL_about_3 : decode cL_about 3 = .ok (.iload_n 1, 1) := by decide +kernel
theorem dL_about_4 : decode cL_about 4 = .ok (.iload_n 2, 1) := by decide +kernel
theorem dL_about_5 : decode cL_about 5 = .ok (.invokevirtual 38, 3) := by decide +kernel
theorem dL_about_8 : decode cL_about 8 = .ok (.i2l, 1) := by decide +kernel
theorem dL_about_9 : decode cL_about 9 = .ok (.lastore, 1) := by decide +kernel
theorem dL_about_10 : decode cL_about 10 = .ok (.goto 11, 3) := by decide +kernel
theorem dL_about_13 : decode cL_about 13 = .ok (.astore 4, 2) := by decide +kernel
theorem dL_about_15 : decode cL_about 15 = .ok (.iconst 1, 1) := by decide +kernel
theorem dL_about_16 : decode cL_about 16 = .ok (.ireturn, 1) := by decide +kernel
theorem dL_about_17 : decode cL_about 17 = .ok (.astore 4, 2) := by decide +kernel
theorem dL_about_19 : decode cL_about 19 = .ok (.iconst 2, 1) := by decide +kernel
theorem dL_about_20 : decode cL_about 20 = .ok (.ireturn, 1) := by decide +kernel
theorem dL_about_21 : decode cL_about 21 = .ok (.iconst 0, 1) := by decide +kernel
theorem dL_about_22 : decode cL_about 22 = .ok (.ireturn, 1) := by decide +kernel
set_option maxRecDepth 20000 in
theorem ggL_table_X6_table : GoodIn wsL_table wsX6_table := goodIn_ca (goodIn_r _ [6, 7, 8, 9, 10, 11, 5, 12, 13, 14, 15, 16, 17, 18, 19, 20, 21, 22, 23, 24, 25, 26, 27, 28, 29, 30, 31, 32, 33, 34, 35, 36, 37, 38, 39, 40] (by decide +kernel) (by decide +kernel)) (goodIn_sub (fun _ h => List.mem_cons_of_mem _ (List.mem_append_right _ h)) (by decide +kernel))
set_option maxRecDepth 20000 in
theorem gL_table_X6_table : GoodIn wsL_table (wsV RL 41 RX6 yX6_table wsX6_table) := goodIn_app (goodIn_of _ (by decide +kernel)) ggL_table_X6_table
theorem dL_table_0 : decode cL_table 0 = .ok (.aload_n 3, 1) := by decide +kernel
theorem dL_table_1 : decode cL_table 1 = .ok (.iconst 0, 1) := by decide +kernel
theorem dL_table_2 : decode cL_table 2 = .ok (.aload_n 0, 1) := by decide +kernel
theorem dL_table_3 : decode cL_table 3 = .ok (.iload_n 1, 1) := by decide +kernel
theorem dL_table_4 : decode cL_table 4 = .ok (.iload_n 2, 1) := by decide +kernel
theorem dL_table_5 : decode cL_table 5 = .ok (.invokevirtual 41, 3) := by decide +kernel
theorem dL_table_8 : decode cL_table 8 = .ok (.lastore, 1) := by decide +kernel
theorem dL_table_9 : decode cL_table 9 = .ok (.goto 7, 3) := by decide +kernel
theorem dL_table_12 : decode cL_table 12 = .ok (.astore 4, 2) := by decide +kernel
theorem dL_table_14 : decode cL_table 14 = .ok (.iconst 1, 1) := by decide +kernel
theorem dL_table_15 : decode cL_table 15 = .ok (.ireturn, 1) := by decide +kernel
theorem dL_table_16 : decode cL_table 16 = .ok (.iconst 0, 1) := by decide +kernel
theorem dL_table_17 : decode cL_table 17 = .ok (.ireturn, 1) := by decide +kernel
set_option maxRecDepth 20000 in
theorem ggL_mark_X6_mark : GoodIn wsL_mark wsX6_mark := goodIn_ca (goodIn_r _ [6, 7, 8, 9, 10, 11, 5, 12, 13, 14, 15, 16, 17, 18, 19, 20, 21, 22, 23, 24, 25, 26, 27, 28, 29, 30, 31, 32, 33, 34, 35, 36, 37] (by decide +kernel) (by decide +kernel)) (goodIn_sub (fun _ h => List.mem_cons_of_mem _ (List.mem_append_right _ h)) (by decide +kernel))
set_option maxRecDepth 20000 in
theorem gL_mark_X6_mark : GoodIn wsL_mark (wsV RL 45 RX6 yX6_mark wsX6_mark) := goodIn_app (goodIn_of _ (by decide +kernel)) ggL_mark_X6_mark
theorem dL_mark_0 : decode cL_mark 0 = .ok (.aload_n 2, 1) := by decide +kernel
theorem dL_mark_1 : decode cL_mark 1 = .ok (.iconst 0, 1) := by decide +kernel
theorem dL_mark_2 : decode cL_mark 2 = .ok (.aload_n 0, 1) := by decide +kernel
theorem dL_mark_3 : decode cL_mark 3 = .ok (.iload_n 1, 1) := by decide +kernel
theorem dL_mark_4 : decode cL_mark 4 = .ok (.invokevirtual 45, 3) := by decide +kernel
theorem dL_mark_7 : decode cL_mark 7 = .ok (.lastore, 1) := by decide +kernel
theorem dL_mark_8 : decode cL_mark 8 = .ok (.goto 6, 3) := by decide +kernel
theorem dL_mark_11 : decode cL_mark 11 = .ok (.astore_n 3, 1) := by decide +kernel
theorem dL_mark_12 : decode cL_mark 12 = .ok (.iconst 1, 1) := by decide +kernel
theorem dL_mark_13 : decode cL_mark 13 = .ok (.ireturn, 1) := by decide +kernel
theorem dL_mark_14 : decode cL_mark 14 = .ok (.iconst 0, 1) := by decide +kernel
theorem dL_mark_15 : decode cL_mark 15 = .ok (.ireturn, 1) := by decide +kernel
set_option maxRecDepth 20000 in
theorem ggL_entry_X6_entry : GoodIn wsL_entry wsX6_entry := goodIn_ca (goodIn_ca (goodIn_r _ [7, 8, 9, 10, 11, 12, 13, 14, 15, 6, 16, 17, 18, 19, 20, 21, 22, 23, 24, 25, 26, 27, 28, 29, 30, 31, 32, 33, 34, 35, 36, 37, 38, 39, 40, 41, 42, 43, 44, 45, 46, 47, 48, 49, 50, 51, 52, 53, 54, 55, 56] (by decide +kernel) (by decide +kernel)) (goodIn_sub (fun _ h => List.mem_cons_of_mem _ (List.mem_append_left _ (List.mem_append_right _ h))) (by decide +kernel))) (goodIn_sub (fun _ h => List.mem_cons_of_mem _ (List.mem_append_right _ h)) (by decide +kernel))
set_option maxRecDepth 20000 in
theorem gL_entry_X6_entry : GoodIn wsL_entry (wsV RL 49 RX6 yX6_entry wsX6_entry) := goodIn_app (goodIn_of _ (by decide +kernel)) ggL_entry_X6_entry
theorem dL_entry_0 : decode cL_entry 0 = .ok (.aload 4, 2) := by decide +kernel
theorem dL_entry_2 : decode cL_entry 2 = .ok (.iconst 0, 1) := by decide +kernel
theorem dL_entry_3 : decode cL_entry 3 = .ok (.aload_n 0, 1) := by decide +kernel
theorem dL_entry_4 : decode cL_entry 4 = .ok (.iload_n 1, 1) := by decide +kernel
theorem dL_entry_5 : decode cL_entry 5 = .ok (.iload_n 2, 1) := by decide +kernel
theorem dL_entry_6 : decode cL_entry 6 = .ok (.iload_n 3, 1) := by decide +kernel
theorem dL_entry_7 : decode cL_entry 7 = .ok (.invokevirtual 49, 3) := by decide +kernel
theorem dL_entry_10 : decode cL_entry 10 = .ok (.lastore, 1) := by decide +kernel
theorem dL_entry_11 : decode cL_entry 11 = .ok (.goto 11, 3) := by decide +kernel
theorem dL_entry_14 : decode cL_entry 14 = .ok (.astore 5, 2) := by decide +kernel
theorem dL_entry_16 : decode cL_entry 16 = .ok (.iconst 1, 1) := by decide +kernel
theorem dL_entry_17 : decode cL_entry 17 = .ok (.ireturn, 1) := by decide +kernel
theorem dL_entry_18 : decode cL_entry 18 = .ok (.astore 5, 2) := by decide +kernel
theorem dL_entry_20 : decode cL_entry 20 = .ok (.iconst 2, 1) := by decide +kernel
theorem dL_entry_21 : decode cL_entry 21 = .ok (.ireturn, 1) := by decide +kernel
theorem dL_entry_22 : decode cL_entry 22 = .ok (.iconst 0, 1) := by decide +kernel
theorem dL_entry_23 : decode cL_entry 23 = .ok (.ireturn, 1) := by decide +kernel
set_option maxRecDepth 20000 in
theorem ggL_primary_X6_primary : GoodIn wsL_primary wsX6_primary := goodIn_ca (goodIn_r _ [6, 7, 8, 9, 5, 10, 11, 12, 13, 14, 15, 16, 17, 18, 19, 20, 21, 22, 23, 24, 25, 26, 27, 28, 29, 30, 31, 32, 33, 34, 35, 36, 37, 38, 39, 40, 41, 42, 43, 44] (by decide +kernel) (by decide +kernel)) (goodIn_sub (fun _ h => List.mem_cons_of_mem _ (List.mem_append_right _ h)) (by decide +kernel))
set_option maxRecDepth 20000 in
theorem gL_primary_X6_primary : GoodIn wsL_primary (wsV RL 53 RX6 yX6_primary wsX6_primary) := goodIn_app (goodIn_of _ (by decide +kernel)) ggL_primary_X6_primary
theorem dL_primary_0 : decode cL_primary 0 = .ok (.aload_n 2, 1) := by decide +kernel
theorem dL_primary_1 : decode cL_primary 1 = .ok (.iconst 0, 1) := by decide +kernel
theorem dL_primary_2 : decode cL_primary 2 = .ok (.aload_n 0, 1) := by decide +kernel
theorem dL_primary_3 : decode cL_primary 3 = .ok (.iload_n 1, 1) := by decide +kernel
theorem dL_primary_4 : decode cL_primary 4 = .ok (.invokevirtual 53, 3) := by decide +kernel
theorem dL_primary_7 : decode cL_primary 7 = .ok (.ifCond .eq 7, 3) := by decide +kernel
theorem dL_primary_10 : decode cL_primary 10 = .ok (.lconst 1, 1) := by decide +kernel
theorem dL_primary_11 : decode cL_primary 11 = .ok (.goto 4, 3) := by decide +kernel
theorem dL_primary_14 : decode cL_primary 14 = .ok (.lconst 0, 1) := by decide +kernel
theorem dL_primary_15 : decode cL_primary 15 = .ok (.lastore, 1) := by decide +kernel
theorem dL_primary_16 : decode cL_primary 16 = .ok (.goto 6, 3) := by decide +kernel
theorem dL_primary_19 : decode cL_primary 19 = .ok (.astore_n 3, 1) := by decide +kernel
theorem dL_primary_20 : decode cL_primary 20 = .ok (.iconst 1, 1) := by decide +kernel
theorem dL_primary_21 : decode cL_primary 21 = .ok (.ireturn, 1) := by decide +kernel
theorem dL_primary_22 : decode cL_primary 22 = .ok (.iconst 0, 1) := by decide +kernel
theorem dL_primary_23 : decode cL_primary 23 = .ok (.ireturn, 1) := by decide +kernel
end
section
/-! The heap as functions. Z: the addresses, the kind of each, lengths of arrays, references that are final (and the rows of nodes and rings). S: ints, longs, other references; by address and place. -/
abbrev zZ : Type := List Nat × (Nat → Nat) × (Nat → Nat) × (Nat → Nat → Option Nat)
abbrev zS : Type := (Nat → Nat → Int32) × (Nat → Nat → Int64) × (Nat → Nat → Option Nat)
def zL (Z : zZ) : List Nat := Z.1
def zK (Z : zZ) : Nat → Nat := Z.2.1
def zN (Z : zZ) : Nat → Nat := Z.2.2.1
def zQ (Z : zZ) : Nat → Nat → Option Nat := Z.2.2.2
def zI (S : zS) : Nat → Nat → Int32 := S.1
def zJ (S : zS) : Nat → Nat → Int64 := S.2.1
def zR (S : zS) : Nat → Nat → Option Nat := S.2.2
def zu {α : Type} (f : Nat → Nat → α) (a j : Nat) (v : α) : Nat → Nat → α := fun x y => if x = a ∧ y = j then v else f x y
def zsI (S : zS) (a j : Nat) (v : Int32) : zS := (zu (zI S) a j v, zJ S, zR S)
def zsJ (S : zS) (a j : Nat) (v : Int64) : zS := (zI S, zu (zJ S) a j v, zR S)
def zsR (S : zS) (a j : Nat) (v : Option Nat) : zS := (zI S, zJ S, zu (zR S) a j v)
def zsQ (Z : zZ) (a j : Nat) (v : Option Nat) : zZ := (zL Z, zK Z, zN Z, zu (zQ Z) a j v)
/-- a new cell at a, of kind k, of n places -/
def zalZ (Z : zZ) (a k n : Nat) : zZ := (zL Z ++ [a], va_up (zK Z) a k, va_up (zN Z) a n, va_up (zQ Z) a (fun _ => none))
def zalS (S : zS) (a : Nat) : zS := (va_up (zI S) a (fun _ => 0), va_up (zJ S) a (fun _ => 0), va_up (zR S) a (fun _ => none))
/-- a cell of kind k stands at a -/
def zk (Z : zZ) (a k : Nat) : Prop := a ∈ zL Z ∧ zK Z a = k
theorem zu_ne {α : Type} (f : Nat → Nat → α) (a j : Nat) (v : α) (b : Nat) (h : b ≠ a) : zu f a j v b = f b := by
  funext i
  show (if b = a ∧ i = j then v else f b i) = _
  rw [if_neg (fun q => h q.1)]
theorem zu_eq {α : Type} (f : Nat → Nat → α) (a j : Nat) (v : α) : zu f a j v a = (fun i => if i = j then v else f a i) := by
  funext i
  show (if a = a ∧ i = j then v else f a i) = _
  by_cases h : i = j
  · rw [if_pos ⟨rfl, h⟩, if_pos h]
  · rw [if_neg (fun q => h q.2), if_neg h]
theorem zJ_sI (S : zS) (a j : Nat) (v : Int32) : zJ (zsI S a j v) = zJ S := rfl
theorem zR_sI (S : zS) (a j : Nat) (v : Int32) : zR (zsI S a j v) = zR S := rfl
theorem zI_sI (S : zS) (a j : Nat) (v : Int32) (b i : Nat) : zI (zsI S a j v) b i = if b = a ∧ i = j then v else zI S b i := rfl
theorem zI_sJ (S : zS) (a j : Nat) (v : Int64) : zI (zsJ S a j v) = zI S := rfl
theorem zR_sJ (S : zS) (a j : Nat) (v : Int64) : zR (zsJ S a j v) = zR S := rfl
theorem zJ_sJ (S : zS) (a j : Nat) (v : Int64) (b i : Nat) : zJ (zsJ S a j v) b i = if b = a ∧ i = j then v else zJ S b i := rfl
theorem zI_sR (S : zS) (a j : Nat) (v : Option Nat) : zI (zsR S a j v) = zI S := rfl
theorem zJ_sR (S : zS) (a j : Nat) (v : Option Nat) : zJ (zsR S a j v) = zJ S := rfl
theorem zR_sR (S : zS) (a j : Nat) (v : Option Nat) (b i : Nat) : zR (zsR S a j v) b i = if b = a ∧ i = j then v else zR S b i := rfl
theorem zQ_sQ (Z : zZ) (a j : Nat) (v : Option Nat) (b i : Nat) : zQ (zsQ Z a j v) b i = if b = a ∧ i = j then v else zQ Z b i := rfl
/-- what an object of kind k holds -/
def zfs (Z : zZ) (S : zS) (a : Nat) : Nat → List Value
  | 0 => [va_rf (zQ Z a 0), .int (zI S a 1)]
  | 1 => [.int (zI S a 0), .int (zI S a 1), .long (zJ S a 2), .int (zI S a 3)]
  | 2 => [.int (zI S a 0), va_rf (zQ Z a 1), va_rf (zQ Z a 2), va_rf (zQ Z a 3), va_rf (zQ Z a 4), .int (zI S a 5), .int (zI S a 6), va_rf (zR S a 7), .int (zI S a 8), .int (zI S a 9), .int (zI S a 10), .int (zI S a 11), .int (zI S a 12)]
  | 3 => [va_rf (zQ Z a 0), .int (zI S a 1)]
  | 4 => [va_rf (zQ Z a 0), va_rf (zQ Z a 1), .int (zI S a 2), .long (zJ S a 3), .int (zI S a 4)]
  | 5 => [va_rf (zQ Z a 0), va_rf (zQ Z a 1), .int (zI S a 2), .int (zI S a 3), .int (zI S a 4), .int (zI S a 5)]
  | 6 => [.int (zI S a 0), va_rf (zQ Z a 1), va_rf (zQ Z a 2), va_rf (zQ Z a 3)]
  | 7 => [.int (zI S a 0), .int (zI S a 1), .int (zI S a 2), va_rf (zQ Z a 3), va_rf (zQ Z a 4), va_rf (zQ Z a 5), va_rf (zQ Z a 6), va_rf (zQ Z a 7), va_rf (zQ Z a 8), va_rf (zQ Z a 9), va_rf (zQ Z a 10), va_rf (zQ Z a 11), va_rf (zQ Z a 12), va_rf (zQ Z a 13), va_rf (zQ Z a 14), va_rf (zQ Z a 15), va_rf (zQ Z a 16), va_rf (zQ Z a 17), va_rf (zQ Z a 18), va_rf (zQ Z a 19), va_rf (zQ Z a 20), va_rf (zQ Z a 21), va_rf (zQ Z a 22), va_rf (zQ Z a 23), va_rf (zQ Z a 24), va_rf (zQ Z a 25), va_rf (zQ Z a 26), va_rf (zQ Z a 27), va_rf (zQ Z a 28), va_rf (zQ Z a 29), va_rf (zQ Z a 30), va_rf (zQ Z a 31), va_rf (zQ Z a 32), va_rf (zQ Z a 33), va_rf (zQ Z a 34), va_rf (zQ Z a 35)]
  | _ => []
/-- what lies at a -/
def zF (cy : Nat → ClassId) (Z : zZ) (S : zS) (a : Nat) : va_E := match zK Z a with
  | 8 => .inl (cy 0, zN Z a, .inl (zI S a))
  | 9 => .inl (cy 1, zN Z a, .inr (.inl (zJ S a)))
  | 10 => .inl (cy 2, zN Z a, .inl (zI S a))
  | 11 => .inl (cy 3, zN Z a, .inr (.inr (.inr (.inr (zR S a)))))
  | 12 => .inl (cy 4, zN Z a, .inr (.inr (.inr (.inr (zQ Z a)))))
  | 13 => .inl (cy 5, zN Z a, .inr (.inr (.inr (.inr (zQ Z a)))))
  | k => .inr (k, zfs Z S a k)
abbrev zTy (cy : Nat → ClassId) : List (ClassId × FieldType) := [(cy 0, .int), (cy 1, .long), (cy 2, .boolean), (cy 3, .object RX1), (cy 4, .object RX2), (cy 5, .object RX5)]
def zW (cy : Nat → ClassId) (Z : zZ) (S : zS) : va_W := va_pl (zL Z) (zF cy Z S)
theorem zF_0 (cy : Nat → ClassId) {Z : zZ} {S : zS} {a : Nat} (h : zk Z a 0) : zF cy Z S a = .inr (0, zfs Z S a 0) := by
  unfold zF
  rw [h.2]
  rfl
theorem zF_1 (cy : Nat → ClassId) {Z : zZ} {S : zS} {a : Nat} (h : zk Z a 1) : zF cy Z S a = .inr (1, zfs Z S a 1) := by
  unfold zF
  rw [h.2]
  rfl
theorem zF_2 (cy : Nat → ClassId) {Z : zZ} {S : zS} {a : Nat} (h : zk Z a 2) : zF cy Z S a = .inr (2, zfs Z S a 2) := by
  unfold zF
  rw [h.2]
  rfl
theorem zF_3 (cy : Nat → ClassId) {Z : zZ} {S : zS} {a : Nat} (h : zk Z a 3) : zF cy Z S a = .inr (3, zfs Z S a 3) := by
  unfold zF
  rw [h.2]
  rfl
theorem zF_4 (cy : Nat → ClassId) {Z : zZ} {S : zS} {a : Nat} (h : zk Z a 4) : zF cy Z S a = .inr (4, zfs Z S a 4) := by
  unfold zF
  rw [h.2]
  rfl
theorem zF_5 (cy : Nat → ClassId) {Z : zZ} {S : zS} {a : Nat} (h : zk Z a 5) : zF cy Z S a = .inr (5, zfs Z S a 5) := by
  unfold zF
  rw [h.2]
  rfl
theorem zF_6 (cy : Nat → ClassId) {Z : zZ} {S : zS} {a : Nat} (h : zk Z a 6) : zF cy Z S a = .inr (6, zfs Z S a 6) := by
  unfold zF
  rw [h.2]
  rfl
theorem zF_7 (cy : Nat → ClassId) {Z : zZ} {S : zS} {a : Nat} (h : zk Z a 7) : zF cy Z S a = .inr (7, zfs Z S a 7) := by
  unfold zF
  rw [h.2]
  rfl
theorem zF_8 (cy : Nat → ClassId) {Z : zZ} {S : zS} {a : Nat} (h : zk Z a 8) : zF cy Z S a = .inl (cy 0, zN Z a, .inl (zI S a)) := by
  unfold zF
  rw [h.2]
  rfl
theorem zF_9 (cy : Nat → ClassId) {Z : zZ} {S : zS} {a : Nat} (h : zk Z a 9) : zF cy Z S a = .inl (cy 1, zN Z a, .inr (.inl (zJ S a))) := by
  unfold zF
  rw [h.2]
  rfl
theorem zF_10 (cy : Nat → ClassId) {Z : zZ} {S : zS} {a : Nat} (h : zk Z a 10) : zF cy Z S a = .inl (cy 2, zN Z a, .inl (zI S a)) := by
  unfold zF
  rw [h.2]
  rfl
theorem zF_11 (cy : Nat → ClassId) {Z : zZ} {S : zS} {a : Nat} (h : zk Z a 11) : zF cy Z S a = .inl (cy 3, zN Z a, .inr (.inr (.inr (.inr (zR S a))))) := by
  unfold zF
  rw [h.2]
  rfl
theorem zF_12 (cy : Nat → ClassId) {Z : zZ} {S : zS} {a : Nat} (h : zk Z a 12) : zF cy Z S a = .inl (cy 4, zN Z a, .inr (.inr (.inr (.inr (zQ Z a))))) := by
  unfold zF
  rw [h.2]
  rfl
theorem zF_13 (cy : Nat → ClassId) {Z : zZ} {S : zS} {a : Nat} (h : zk Z a 13) : zF cy Z S a = .inl (cy 5, zN Z a, .inr (.inr (.inr (.inr (zQ Z a))))) := by
  unfold zF
  rw [h.2]
  rfl
theorem zF_cong (cy : Nat → ClassId) {Z Z' : zZ} {S S' : zS} {b : Nat} (hK : zK Z' b = zK Z b) (hN : zN Z' b = zN Z b) (hQ : zQ Z' b = zQ Z b) (hI : zI S' b = zI S b) (hJ : zJ S' b = zJ S b) (hR : zR S' b = zR S b) : zF cy Z' S' b = zF cy Z S b := by
  have e : ∀ k, zfs Z' S' b k = zfs Z S b k := by
    intro k
    unfold zfs
    rw [hI, hJ, hR, hQ]
  unfold zF
  rw [hK, hN, hI, hJ, hR, hQ]
  simp only [e]
theorem zF_offI (cy : Nat → ClassId) (Z : zZ) (S : zS) (a j : Nat) (v : Int32) : ∀ b, b ≠ a → zF cy Z (zsI S a j v) b = zF cy Z S b := fun b h => zF_cong cy rfl rfl rfl (zu_ne _ a j v b h) rfl rfl
theorem zF_offJ (cy : Nat → ClassId) (Z : zZ) (S : zS) (a j : Nat) (v : Int64) : ∀ b, b ≠ a → zF cy Z (zsJ S a j v) b = zF cy Z S b := fun b h => zF_cong cy rfl rfl rfl rfl (zu_ne _ a j v b h) rfl
theorem zF_offR (cy : Nat → ClassId) (Z : zZ) (S : zS) (a j : Nat) (v : Option Nat) : ∀ b, b ≠ a → zF cy Z (zsR S a j v) b = zF cy Z S b := fun b h => zF_cong cy rfl rfl rfl rfl rfl (zu_ne _ a j v b h)
theorem zF_offQ (cy : Nat → ClassId) (Z : zZ) (S : zS) (a j : Nat) (v : Option Nat) : ∀ b, b ≠ a → zF cy (zsQ Z a j v) S b = zF cy Z S b := fun b h => zF_cong cy rfl rfl (zu_ne _ a j v b h) rfl rfl rfl
theorem zP_0_0 (Z : zZ) (S : zS) (a : Nat) (v : Option Nat) : zfs (zsQ Z a 0 v) S a 0 = (zfs Z S a 0).set 0 (va_rf v) := by
  simp [zfs, zI_sI, zJ_sJ, zR_sR, zQ_sQ, zI_sJ, zI_sR, zJ_sI, zJ_sR, zR_sI, zR_sJ]
theorem zP_0_1 (Z : zZ) (S : zS) (a : Nat) (v : Int32) : zfs Z (zsI S a 1 v) a 0 = (zfs Z S a 0).set 1 (.int v) := by
  simp [zfs, zI_sI, zJ_sJ, zR_sR, zQ_sQ, zI_sJ, zI_sR, zJ_sI, zJ_sR, zR_sI, zR_sJ]
theorem zP_1_0 (Z : zZ) (S : zS) (a : Nat) (v : Int32) : zfs Z (zsI S a 0 v) a 1 = (zfs Z S a 1).set 0 (.int v) := by
  simp [zfs, zI_sI, zJ_sJ, zR_sR, zQ_sQ, zI_sJ, zI_sR, zJ_sI, zJ_sR, zR_sI, zR_sJ]
theorem zP_1_1 (Z : zZ) (S : zS) (a : Nat) (v : Int32) : zfs Z (zsI S a 1 v) a 1 = (zfs Z S a 1).set 1 (.int v) := by
  simp [zfs, zI_sI, zJ_sJ, zR_sR, zQ_sQ, zI_sJ, zI_sR, zJ_sI, zJ_sR, zR_sI, zR_sJ]
theorem zP_1_2 (Z : zZ) (S : zS) (a : Nat) (v : Int64) : zfs Z (zsJ S a 2 v) a 1 = (zfs Z S a 1).set 2 (.long v) := by
  simp [zfs, zI_sI, zJ_sJ, zR_sR, zQ_sQ, zI_sJ, zI_sR, zJ_sI, zJ_sR, zR_sI, zR_sJ]
theorem zP_1_3 (Z : zZ) (S : zS) (a : Nat) (v : Int32) : zfs Z (zsI S a 3 v) a 1 = (zfs Z S a 1).set 3 (.int v) := by
  simp [zfs, zI_sI, zJ_sJ, zR_sR, zQ_sQ, zI_sJ, zI_sR, zJ_sI, zJ_sR, zR_sI, zR_sJ]
theorem zP_2_0 (Z : zZ) (S : zS) (a : Nat) (v : Int32) : zfs Z (zsI S a 0 v) a 2 = (zfs Z S a 2).set 0 (.int v) := by
  simp [zfs, zI_sI, zJ_sJ, zR_sR, zQ_sQ, zI_sJ, zI_sR, zJ_sI, zJ_sR, zR_sI, zR_sJ]
theorem zP_2_1 (Z : zZ) (S : zS) (a : Nat) (v : Option Nat) : zfs (zsQ Z a 1 v) S a 2 = (zfs Z S a 2).set 1 (va_rf v) := by
  simp [zfs, zI_sI, zJ_sJ, zR_sR, zQ_sQ, zI_sJ, zI_sR, zJ_sI, zJ_sR, zR_sI, zR_sJ]
theorem zP_2_2 (Z : zZ) (S : zS) (a : Nat) (v : Option Nat) : zfs (zsQ Z a 2 v) S a 2 = (zfs Z S a 2).set 2 (va_rf v) := by
  simp [zfs, zI_sI, zJ_sJ, zR_sR, zQ_sQ, zI_sJ, zI_sR, zJ_sI, zJ_sR, zR_sI, zR_sJ]
theorem zP_2_3 (Z : zZ) (S : zS) (a : Nat) (v : Option Nat) : zfs (zsQ Z a 3 v) S a 2 = (zfs Z S a 2).set 3 (va_rf v) := by
  simp [zfs, zI_sI, zJ_sJ, zR_sR, zQ_sQ, zI_sJ, zI_sR, zJ_sI, zJ_sR, zR_sI, zR_sJ]
theorem zP_2_4 (Z : zZ) (S : zS) (a : Nat) (v : Option Nat) : zfs (zsQ Z a 4 v) S a 2 = (zfs Z S a 2).set 4 (va_rf v) := by
  simp [zfs, zI_sI, zJ_sJ, zR_sR, zQ_sQ, zI_sJ, zI_sR, zJ_sI, zJ_sR, zR_sI, zR_sJ]
theorem zP_2_5 (Z : zZ) (S : zS) (a : Nat) (v : Int32) : zfs Z (zsI S a 5 v) a 2 = (zfs Z S a 2).set 5 (.int v) := by
  simp [zfs, zI_sI, zJ_sJ, zR_sR, zQ_sQ, zI_sJ, zI_sR, zJ_sI, zJ_sR, zR_sI, zR_sJ]
theorem zP_2_6 (Z : zZ) (S : zS) (a : Nat) (v : Int32) : zfs Z (zsI S a 6 v) a 2 = (zfs Z S a 2).set 6 (.int v) := by
  simp [zfs, zI_sI, zJ_sJ, zR_sR, zQ_sQ, zI_sJ, zI_sR, zJ_sI, zJ_sR, zR_sI, zR_sJ]
theorem zP_2_7 (Z : zZ) (S : zS) (a : Nat) (v : Option Nat) : zfs Z (zsR S a 7 v) a 2 = (zfs Z S a 2).set 7 (va_rf v) := by
  simp [zfs, zI_sI, zJ_sJ, zR_sR, zQ_sQ, zI_sJ, zI_sR, zJ_sI, zJ_sR, zR_sI, zR_sJ]
theorem zP_2_8 (Z : zZ) (S : zS) (a : Nat) (v : Int32) : zfs Z (zsI S a 8 v) a 2 = (zfs Z S a 2).set 8 (.int v) := by
  simp [zfs, zI_sI, zJ_sJ, zR_sR, zQ_sQ, zI_sJ, zI_sR, zJ_sI, zJ_sR, zR_sI, zR_sJ]
theorem zP_2_9 (Z : zZ) (S : zS) (a : Nat) (v : Int32) : zfs Z (zsI S a 9 v) a 2 = (zfs Z S a 2).set 9 (.int v) := by
  simp [zfs, zI_sI, zJ_sJ, zR_sR, zQ_sQ, zI_sJ, zI_sR, zJ_sI, zJ_sR, zR_sI, zR_sJ]
theorem zP_2_10 (Z : zZ) (S : zS) (a : Nat) (v : Int32) : zfs Z (zsI S a 10 v) a 2 = (zfs Z S a 2).set 10 (.int v) := by
  simp [zfs, zI_sI, zJ_sJ, zR_sR, zQ_sQ, zI_sJ, zI_sR, zJ_sI, zJ_sR, zR_sI, zR_sJ]
theorem zP_2_11 (Z : zZ) (S : zS) (a : Nat) (v : Int32) : zfs Z (zsI S a 11 v) a 2 = (zfs Z S a 2).set 11 (.int v) := by
  simp [zfs, zI_sI, zJ_sJ, zR_sR, zQ_sQ, zI_sJ, zI_sR, zJ_sI, zJ_sR, zR_sI, zR_sJ]
theorem zP_2_12 (Z : zZ) (S : zS) (a : Nat) (v : Int32) : zfs Z (zsI S a 12 v) a 2 = (zfs Z S a 2).set 12 (.int v) := by
  simp [zfs, zI_sI, zJ_sJ, zR_sR, zQ_sQ, zI_sJ, zI_sR, zJ_sI, zJ_sR, zR_sI, zR_sJ]
theorem zP_3_0 (Z : zZ) (S : zS) (a : Nat) (v : Option Nat) : zfs (zsQ Z a 0 v) S a 3 = (zfs Z S a 3).set 0 (va_rf v) := by
  simp [zfs, zI_sI, zJ_sJ, zR_sR, zQ_sQ, zI_sJ, zI_sR, zJ_sI, zJ_sR, zR_sI, zR_sJ]
theorem zP_3_1 (Z : zZ) (S : zS) (a : Nat) (v : Int32) : zfs Z (zsI S a 1 v) a 3 = (zfs Z S a 3).set 1 (.int v) := by
  simp [zfs, zI_sI, zJ_sJ, zR_sR, zQ_sQ, zI_sJ, zI_sR, zJ_sI, zJ_sR, zR_sI, zR_sJ]
theorem zP_4_0 (Z : zZ) (S : zS) (a : Nat) (v : Option Nat) : zfs (zsQ Z a 0 v) S a 4 = (zfs Z S a 4).set 0 (va_rf v) := by
  simp [zfs, zI_sI, zJ_sJ, zR_sR, zQ_sQ, zI_sJ, zI_sR, zJ_sI, zJ_sR, zR_sI, zR_sJ]
theorem zP_4_1 (Z : zZ) (S : zS) (a : Nat) (v : Option Nat) : zfs (zsQ Z a 1 v) S a 4 = (zfs Z S a 4).set 1 (va_rf v) := by
  simp [zfs, zI_sI, zJ_sJ, zR_sR, zQ_sQ, zI_sJ, zI_sR, zJ_sI, zJ_sR, zR_sI, zR_sJ]
theorem zP_4_2 (Z : zZ) (S : zS) (a : Nat) (v : Int32) : zfs Z (zsI S a 2 v) a 4 = (zfs Z S a 4).set 2 (.int v) := by
  simp [zfs, zI_sI, zJ_sJ, zR_sR, zQ_sQ, zI_sJ, zI_sR, zJ_sI, zJ_sR, zR_sI, zR_sJ]
theorem zP_4_3 (Z : zZ) (S : zS) (a : Nat) (v : Int64) : zfs Z (zsJ S a 3 v) a 4 = (zfs Z S a 4).set 3 (.long v) := by
  simp [zfs, zI_sI, zJ_sJ, zR_sR, zQ_sQ, zI_sJ, zI_sR, zJ_sI, zJ_sR, zR_sI, zR_sJ]
theorem zP_4_4 (Z : zZ) (S : zS) (a : Nat) (v : Int32) : zfs Z (zsI S a 4 v) a 4 = (zfs Z S a 4).set 4 (.int v) := by
  simp [zfs, zI_sI, zJ_sJ, zR_sR, zQ_sQ, zI_sJ, zI_sR, zJ_sI, zJ_sR, zR_sI, zR_sJ]
theorem zP_5_0 (Z : zZ) (S : zS) (a : Nat) (v : Option Nat) : zfs (zsQ Z a 0 v) S a 5 = (zfs Z S a 5).set 0 (va_rf v) := by
  simp [zfs, zI_sI, zJ_sJ, zR_sR, zQ_sQ, zI_sJ, zI_sR, zJ_sI, zJ_sR, zR_sI, zR_sJ]
theorem zP_5_1 (Z : zZ) (S : zS) (a : Nat) (v : Option Nat) : zfs (zsQ Z a 1 v) S a 5 = (zfs Z S a 5).set 1 (va_rf v) := by
  simp [zfs, zI_sI, zJ_sJ, zR_sR, zQ_sQ, zI_sJ, zI_sR, zJ_sI, zJ_sR, zR_sI, zR_sJ]
theorem zP_5_2 (Z : zZ) (S : zS) (a : Nat) (v : Int32) : zfs Z (zsI S a 2 v) a 5 = (zfs Z S a 5).set 2 (.int v) := by
  simp [zfs, zI_sI, zJ_sJ, zR_sR, zQ_sQ, zI_sJ, zI_sR, zJ_sI, zJ_sR, zR_sI, zR_sJ]
theorem zP_5_3 (Z : zZ) (S : zS) (a : Nat) (v : Int32) : zfs Z (zsI S a 3 v) a 5 = (zfs Z S a 5).set 3 (.int v) := by
  simp [zfs, zI_sI, zJ_sJ, zR_sR, zQ_sQ, zI_sJ, zI_sR, zJ_sI, zJ_sR, zR_sI, zR_sJ]
theorem zP_5_4 (Z : zZ) (S : zS) (a : Nat) (v : Int32) : zfs Z (zsI S a 4 v) a 5 = (zfs Z S a 5).set 4 (.int v) := by
  simp [zfs, zI_sI, zJ_sJ, zR_sR, zQ_sQ, zI_sJ, zI_sR, zJ_sI, zJ_sR, zR_sI, zR_sJ]
theorem zP_5_5 (Z : zZ) (S : zS) (a : Nat) (v : Int32) : zfs Z (zsI S a 5 v) a 5 = (zfs Z S a 5).set 5 (.int v) := by
  simp [zfs, zI_sI, zJ_sJ, zR_sR, zQ_sQ, zI_sJ, zI_sR, zJ_sI, zJ_sR, zR_sI, zR_sJ]
theorem zP_6_0 (Z : zZ) (S : zS) (a : Nat) (v : Int32) : zfs Z (zsI S a 0 v) a 6 = (zfs Z S a 6).set 0 (.int v) := by
  simp [zfs, zI_sI, zJ_sJ, zR_sR, zQ_sQ, zI_sJ, zI_sR, zJ_sI, zJ_sR, zR_sI, zR_sJ]
theorem zP_6_1 (Z : zZ) (S : zS) (a : Nat) (v : Option Nat) : zfs (zsQ Z a 1 v) S a 6 = (zfs Z S a 6).set 1 (va_rf v) := by
  simp [zfs, zI_sI, zJ_sJ, zR_sR, zQ_sQ, zI_sJ, zI_sR, zJ_sI, zJ_sR, zR_sI, zR_sJ]
theorem zP_6_2 (Z : zZ) (S : zS) (a : Nat) (v : Option Nat) : zfs (zsQ Z a 2 v) S a 6 = (zfs Z S a 6).set 2 (va_rf v) := by
  simp [zfs, zI_sI, zJ_sJ, zR_sR, zQ_sQ, zI_sJ, zI_sR, zJ_sI, zJ_sR, zR_sI, zR_sJ]
theorem zP_6_3 (Z : zZ) (S : zS) (a : Nat) (v : Option Nat) : zfs (zsQ Z a 3 v) S a 6 = (zfs Z S a 6).set 3 (va_rf v) := by
  simp [zfs, zI_sI, zJ_sJ, zR_sR, zQ_sQ, zI_sJ, zI_sR, zJ_sI, zJ_sR, zR_sI, zR_sJ]
theorem zP_7_0 (Z : zZ) (S : zS) (a : Nat) (v : Int32) : zfs Z (zsI S a 0 v) a 7 = (zfs Z S a 7).set 0 (.int v) := by
  simp [zfs, zI_sI, zJ_sJ, zR_sR, zQ_sQ, zI_sJ, zI_sR, zJ_sI, zJ_sR, zR_sI, zR_sJ]
theorem zP_7_1 (Z : zZ) (S : zS) (a : Nat) (v : Int32) : zfs Z (zsI S a 1 v) a 7 = (zfs Z S a 7).set 1 (.int v) := by
  simp [zfs, zI_sI, zJ_sJ, zR_sR, zQ_sQ, zI_sJ, zI_sR, zJ_sI, zJ_sR, zR_sI, zR_sJ]
theorem zP_7_2 (Z : zZ) (S : zS) (a : Nat) (v : Int32) : zfs Z (zsI S a 2 v) a 7 = (zfs Z S a 7).set 2 (.int v) := by
  simp [zfs, zI_sI, zJ_sJ, zR_sR, zQ_sQ, zI_sJ, zI_sR, zJ_sI, zJ_sR, zR_sI, zR_sJ]
theorem zP_7_3 (Z : zZ) (S : zS) (a : Nat) (v : Option Nat) : zfs (zsQ Z a 3 v) S a 7 = (zfs Z S a 7).set 3 (va_rf v) := by
  simp [zfs, zI_sI, zJ_sJ, zR_sR, zQ_sQ, zI_sJ, zI_sR, zJ_sI, zJ_sR, zR_sI, zR_sJ]
theorem zP_7_4 (Z : zZ) (S : zS) (a : Nat) (v : Option Nat) : zfs (zsQ Z a 4 v) S a 7 = (zfs Z S a 7).set 4 (va_rf v) := by
  simp [zfs, zI_sI, zJ_sJ, zR_sR, zQ_sQ, zI_sJ, zI_sR, zJ_sI, zJ_sR, zR_sI, zR_sJ]
theorem zP_7_5 (Z : zZ) (S : zS) (a : Nat) (v : Option Nat) : zfs (zsQ Z a 5 v) S a 7 = (zfs Z S a 7).set 5 (va_rf v) := by
  simp [zfs, zI_sI, zJ_sJ, zR_sR, zQ_sQ, zI_sJ, zI_sR, zJ_sI, zJ_sR, zR_sI, zR_sJ]
theorem zP_7_6 (Z : zZ) (S : zS) (a : Nat) (v : Option Nat) : zfs (zsQ Z a 6 v) S a 7 = (zfs Z S a 7).set 6 (va_rf v) := by
  simp [zfs, zI_sI, zJ_sJ, zR_sR, zQ_sQ, zI_sJ, zI_sR, zJ_sI, zJ_sR, zR_sI, zR_sJ]
theorem zP_7_7 (Z : zZ) (S : zS) (a : Nat) (v : Option Nat) : zfs (zsQ Z a 7 v) S a 7 = (zfs Z S a 7).set 7 (va_rf v) := by
  simp [zfs, zI_sI, zJ_sJ, zR_sR, zQ_sQ, zI_sJ, zI_sR, zJ_sI, zJ_sR, zR_sI, zR_sJ]
theorem zP_7_8 (Z : zZ) (S : zS) (a : Nat) (v : Option Nat) : zfs (zsQ Z a 8 v) S a 7 = (zfs Z S a 7).set 8 (va_rf v) := by
  simp [zfs, zI_sI, zJ_sJ, zR_sR, zQ_sQ, zI_sJ, zI_sR, zJ_sI, zJ_sR, zR_sI, zR_sJ]
theorem zP_7_9 (Z : zZ) (S : zS) (a : Nat) (v : Option Nat) : zfs (zsQ Z a 9 v) S a 7 = (zfs Z S a 7).set 9 (va_rf v) := by
  simp [zfs, zI_sI, zJ_sJ, zR_sR, zQ_sQ, zI_sJ, zI_sR, zJ_sI, zJ_sR, zR_sI, zR_sJ]
theorem zP_7_10 (Z : zZ) (S : zS) (a : Nat) (v : Option Nat) : zfs (zsQ Z a 10 v) S a 7 = (zfs Z S a 7).set 10 (va_rf v) := by
  simp [zfs, zI_sI, zJ_sJ, zR_sR, zQ_sQ, zI_sJ, zI_sR, zJ_sI, zJ_sR, zR_sI, zR_sJ]
theorem zP_7_11 (Z : zZ) (S : zS) (a : Nat) (v : Option Nat) : zfs (zsQ Z a 11 v) S a 7 = (zfs Z S a 7).set 11 (va_rf v) := by
  simp [zfs, zI_sI, zJ_sJ, zR_sR, zQ_sQ, zI_sJ, zI_sR, zJ_sI, zJ_sR, zR_sI, zR_sJ]
theorem zP_7_12 (Z : zZ) (S : zS) (a : Nat) (v : Option Nat) : zfs (zsQ Z a 12 v) S a 7 = (zfs Z S a 7).set 12 (va_rf v) := by
  simp [zfs, zI_sI, zJ_sJ, zR_sR, zQ_sQ, zI_sJ, zI_sR, zJ_sI, zJ_sR, zR_sI, zR_sJ]
theorem zP_7_13 (Z : zZ) (S : zS) (a : Nat) (v : Option Nat) : zfs (zsQ Z a 13 v) S a 7 = (zfs Z S a 7).set 13 (va_rf v) := by
  simp [zfs, zI_sI, zJ_sJ, zR_sR, zQ_sQ, zI_sJ, zI_sR, zJ_sI, zJ_sR, zR_sI, zR_sJ]
theorem zP_7_14 (Z : zZ) (S : zS) (a : Nat) (v : Option Nat) : zfs (zsQ Z a 14 v) S a 7 = (zfs Z S a 7).set 14 (va_rf v) := by
  simp [zfs, zI_sI, zJ_sJ, zR_sR, zQ_sQ, zI_sJ, zI_sR, zJ_sI, zJ_sR, zR_sI, zR_sJ]
theorem zP_7_15 (Z : zZ) (S : zS) (a : Nat) (v : Option Nat) : zfs (zsQ Z a 15 v) S a 7 = (zfs Z S a 7).set 15 (va_rf v) := by
  simp [zfs, zI_sI, zJ_sJ, zR_sR, zQ_sQ, zI_sJ, zI_sR, zJ_sI, zJ_sR, zR_sI, zR_sJ]
theorem zP_7_16 (Z : zZ) (S : zS) (a : Nat) (v : Option Nat) : zfs (zsQ Z a 16 v) S a 7 = (zfs Z S a 7).set 16 (va_rf v) := by
  simp [zfs, zI_sI, zJ_sJ, zR_sR, zQ_sQ, zI_sJ, zI_sR, zJ_sI, zJ_sR, zR_sI, zR_sJ]
theorem zP_7_17 (Z : zZ) (S : zS) (a : Nat) (v : Option Nat) : zfs (zsQ Z a 17 v) S a 7 = (zfs Z S a 7).set 17 (va_rf v) := by
  simp [zfs, zI_sI, zJ_sJ, zR_sR, zQ_sQ, zI_sJ, zI_sR, zJ_sI, zJ_sR, zR_sI, zR_sJ]
theorem zP_7_18 (Z : zZ) (S : zS) (a : Nat) (v : Option Nat) : zfs (zsQ Z a 18 v) S a 7 = (zfs Z S a 7).set 18 (va_rf v) := by
  simp [zfs, zI_sI, zJ_sJ, zR_sR, zQ_sQ, zI_sJ, zI_sR, zJ_sI, zJ_sR, zR_sI, zR_sJ]
theorem zP_7_19 (Z : zZ) (S : zS) (a : Nat) (v : Option Nat) : zfs (zsQ Z a 19 v) S a 7 = (zfs Z S a 7).set 19 (va_rf v) := by
  simp [zfs, zI_sI, zJ_sJ, zR_sR, zQ_sQ, zI_sJ, zI_sR, zJ_sI, zJ_sR, zR_sI, zR_sJ]
theorem zP_7_20 (Z : zZ) (S : zS) (a : Nat) (v : Option Nat) : zfs (zsQ Z a 20 v) S a 7 = (zfs Z S a 7).set 20 (va_rf v) := by
  simp [zfs, zI_sI, zJ_sJ, zR_sR, zQ_sQ, zI_sJ, zI_sR, zJ_sI, zJ_sR, zR_sI, zR_sJ]
theorem zP_7_21 (Z : zZ) (S : zS) (a : Nat) (v : Option Nat) : zfs (zsQ Z a 21 v) S a 7 = (zfs Z S a 7).set 21 (va_rf v) := by
  simp [zfs, zI_sI, zJ_sJ, zR_sR, zQ_sQ, zI_sJ, zI_sR, zJ_sI, zJ_sR, zR_sI, zR_sJ]
theorem zP_7_22 (Z : zZ) (S : zS) (a : Nat) (v : Option Nat) : zfs (zsQ Z a 22 v) S a 7 = (zfs Z S a 7).set 22 (va_rf v) := by
  simp [zfs, zI_sI, zJ_sJ, zR_sR, zQ_sQ, zI_sJ, zI_sR, zJ_sI, zJ_sR, zR_sI, zR_sJ]
theorem zP_7_23 (Z : zZ) (S : zS) (a : Nat) (v : Option Nat) : zfs (zsQ Z a 23 v) S a 7 = (zfs Z S a 7).set 23 (va_rf v) := by
  simp [zfs, zI_sI, zJ_sJ, zR_sR, zQ_sQ, zI_sJ, zI_sR, zJ_sI, zJ_sR, zR_sI, zR_sJ]
theorem zP_7_24 (Z : zZ) (S : zS) (a : Nat) (v : Option Nat) : zfs (zsQ Z a 24 v) S a 7 = (zfs Z S a 7).set 24 (va_rf v) := by
  simp [zfs, zI_sI, zJ_sJ, zR_sR, zQ_sQ, zI_sJ, zI_sR, zJ_sI, zJ_sR, zR_sI, zR_sJ]
theorem zP_7_25 (Z : zZ) (S : zS) (a : Nat) (v : Option Nat) : zfs (zsQ Z a 25 v) S a 7 = (zfs Z S a 7).set 25 (va_rf v) := by
  simp [zfs, zI_sI, zJ_sJ, zR_sR, zQ_sQ, zI_sJ, zI_sR, zJ_sI, zJ_sR, zR_sI, zR_sJ]
theorem zP_7_26 (Z : zZ) (S : zS) (a : Nat) (v : Option Nat) : zfs (zsQ Z a 26 v) S a 7 = (zfs Z S a 7).set 26 (va_rf v) := by
  simp [zfs, zI_sI, zJ_sJ, zR_sR, zQ_sQ, zI_sJ, zI_sR, zJ_sI, zJ_sR, zR_sI, zR_sJ]
theorem zP_7_27 (Z : zZ) (S : zS) (a : Nat) (v : Option Nat) : zfs (zsQ Z a 27 v) S a 7 = (zfs Z S a 7).set 27 (va_rf v) := by
  simp [zfs, zI_sI, zJ_sJ, zR_sR, zQ_sQ, zI_sJ, zI_sR, zJ_sI, zJ_sR, zR_sI, zR_sJ]
theorem zP_7_28 (Z : zZ) (S : zS) (a : Nat) (v : Option Nat) : zfs (zsQ Z a 28 v) S a 7 = (zfs Z S a 7).set 28 (va_rf v) := by
  simp [zfs, zI_sI, zJ_sJ, zR_sR, zQ_sQ, zI_sJ, zI_sR, zJ_sI, zJ_sR, zR_sI, zR_sJ]
theorem zP_7_29 (Z : zZ) (S : zS) (a : Nat) (v : Option Nat) : zfs (zsQ Z a 29 v) S a 7 = (zfs Z S a 7).set 29 (va_rf v) := by
  simp [zfs, zI_sI, zJ_sJ, zR_sR, zQ_sQ, zI_sJ, zI_sR, zJ_sI, zJ_sR, zR_sI, zR_sJ]
theorem zP_7_30 (Z : zZ) (S : zS) (a : Nat) (v : Option Nat) : zfs (zsQ Z a 30 v) S a 7 = (zfs Z S a 7).set 30 (va_rf v) := by
  simp [zfs, zI_sI, zJ_sJ, zR_sR, zQ_sQ, zI_sJ, zI_sR, zJ_sI, zJ_sR, zR_sI, zR_sJ]
theorem zP_7_31 (Z : zZ) (S : zS) (a : Nat) (v : Option Nat) : zfs (zsQ Z a 31 v) S a 7 = (zfs Z S a 7).set 31 (va_rf v) := by
  simp [zfs, zI_sI, zJ_sJ, zR_sR, zQ_sQ, zI_sJ, zI_sR, zJ_sI, zJ_sR, zR_sI, zR_sJ]
theorem zP_7_32 (Z : zZ) (S : zS) (a : Nat) (v : Option Nat) : zfs (zsQ Z a 32 v) S a 7 = (zfs Z S a 7).set 32 (va_rf v) := by
  simp [zfs, zI_sI, zJ_sJ, zR_sR, zQ_sQ, zI_sJ, zI_sR, zJ_sI, zJ_sR, zR_sI, zR_sJ]
theorem zP_7_33 (Z : zZ) (S : zS) (a : Nat) (v : Option Nat) : zfs (zsQ Z a 33 v) S a 7 = (zfs Z S a 7).set 33 (va_rf v) := by
  simp [zfs, zI_sI, zJ_sJ, zR_sR, zQ_sQ, zI_sJ, zI_sR, zJ_sI, zJ_sR, zR_sI, zR_sJ]
theorem zP_7_34 (Z : zZ) (S : zS) (a : Nat) (v : Option Nat) : zfs (zsQ Z a 34 v) S a 7 = (zfs Z S a 7).set 34 (va_rf v) := by
  simp [zfs, zI_sI, zJ_sJ, zR_sR, zQ_sQ, zI_sJ, zI_sR, zJ_sI, zJ_sR, zR_sI, zR_sJ]
theorem zP_7_35 (Z : zZ) (S : zS) (a : Nat) (v : Option Nat) : zfs (zsQ Z a 35 v) S a 7 = (zfs Z S a 7).set 35 (va_rf v) := by
  simp [zfs, zI_sI, zJ_sJ, zR_sR, zQ_sQ, zI_sJ, zI_sR, zJ_sI, zJ_sR, zR_sI, zR_sJ]
theorem zget {cy : Nat → ClassId} {Z : zZ} {S : zS} {a : Nat} {e : va_E} (h : a ∈ zL Z) (he : zF cy Z S a = e) : ∃ k : Nat, (zW cy Z S)[k]? = some (a, e) := by
  obtain ⟨k, hk⟩ := va_pl_get (X := []) (f := zF cy Z S) h
  exact ⟨k, he ▸ hk⟩
theorem zset {cy : Nat → ClassId} {Z Z' : zZ} {S S' : zS} {A : Nat → Prop} {a k : Nat} {e0 e : va_E} (hD : va_D A (zW cy Z S)) (h : a ∈ zL Z) (he0 : zF cy Z S a = e0) (hk : (zW cy Z S)[k]? = some (a, e0)) (hL : zL Z' = zL Z) (he : zF cy Z' S' a = e) (hoff : ∀ b, b ≠ a → zF cy Z' S' b = zF cy Z S b) : (zW cy Z S).set k (a, e) = zW cy Z' S' := by
  subst he0
  have h1 := va_pl_set (X := []) (f := zF cy Z S) (e := e) hD h hk
  have h2 : va_pl (zL Z) (va_up (zF cy Z S) a e) = zW cy Z' S' := by
    unfold zW
    rw [hL]
    refine va_pl_congr (fun b => ?_)
    by_cases hb : b = a
    · subst hb
      rw [va_up_self, he]
    · rw [va_up_ne _ _ hb, hoff b hb]
  exact h1.trans h2
theorem zwm {i : Nat} {w : Cond} {Ts : List Cond} (h : Ts[i]? = some w) : w ∈ Ts := List.mem_of_getElem? h
theorem zrfc (r : Option Nat) : (va_rf r).category = 1 := by cases r <;> rfl
/-- the texts of the throws -/
def zTx : List (Nat × String) := [(66, "the node is not up or has too much pending"), (86, "the node does not hold a token"), (122, "the node is not up"), (158, "there is no such group"), (168, "the node is up"), (206, "nothing is told of that number"), (221, "there is no such entry"), (224, "an entry has no such part"), (233, "there is no such node"), (235, "there is no such key")]
/-- words that stand beside the lists: nest mates' links -/
def zBw : List Cond := [.methodLinkNest RX6 24 yX5_init RX6, .methodLinkNest RX2 11 yX3_init RX6, .methodLinkNest RX2 20 yX4_init RX6, .methodLinkNest RX2 27 yX0_init RX6, .methodLinkNest RX2 88 yX6_isIn RX6, .methodLinkNest RX5 29 yX6_leastOf RX6, .methodLinkNest RX5 36 yX6_isIn RX6]
theorem zBw_on : ∀ w ∈ zBw, w.onTables = true := by decide +kernel
theorem zBw_warm {s U : State} (hW : s.WarmedH U.vm) : ∀ w ∈ zBw, va_Nw w s → va_Nw w U := by
  intro w hw h
  simp only [zBw, List.mem_cons, List.not_mem_nil, or_false] at hw
  rcases hw with rfl | rfl | rfl | rfl | rfl | rfl | rfl <;> exact va_Nw.warmM hW h
/-- what a method stands on, beside the words of its list -/
def zV (D : va_G) (cy : Nat → ClassId) (A : Nat → Prop) (U : State) (H : Heap) : Prop := va_K D vwCl (zTy cy) U ∧ (∀ w ∈ zBw, va_Nw w U) ∧ vx_Zq Bundle.tN "UNASSIGNED_STACK" Bundle.steD A U H ∧ vx_Zq Bundle.tN "SUPPRESSED_SENTINEL" Bundle.listD A U H ∧ (∀ x ∈ zTx, ∃ sa : Nat, vk_R RX6 x.1 x.2 sa U)
theorem zV.blind {D : va_G} {cy : Nat → ClassId} {A : Nat → Prop} {U : State} {H : Heap} {g : JFrame} {mk : MethodId} {a : Array Value} (h : zV D cy A U H) : zV D cy A (U.calling g mk a) H := by
  obtain ⟨h1, h2, h3, h4, h5⟩ := h
  refine ⟨va_K.moved (u := U) (U := U.calling g mk a) (Vm.Alike.refl U.vm) h1, fun w hw => va_Nw.same (zBw_on w hw) (u := U) rfl (h2 w hw), vx_Zq.moved (u := U) (U := U.calling g mk a) (Vm.Alike.refl U.vm) h3, vx_Zq.moved (u := U) (U := U.calling g mk a) (Vm.Alike.refl U.vm) h4, fun x hx => ?_⟩
  obtain ⟨sa, h6⟩ := h5 x hx
  exact ⟨sa, vk_R.same (u := U) rfl h6⟩
theorem zV.call {D : va_G} {cy : Nat → ClassId} {A A1 : Nat → Prop} {s U : State} {H : Heap} {locs : List Loc} (h : zV D cy A s s.heap) (hS : va_S A s.heap H locs) (hA : ∀ q, A1 q → A q) (hU : U.heap = H) (hW : s.WarmedH U.vm) : zV D cy A1 U U.heap := by
  obtain ⟨h1, h2, h3, h4, h5⟩ := h
  refine ⟨va_K.moved hW.alike h1, fun w hw => zBw_warm hW w hw (h2 w hw), ?_, ?_, fun x hx => ?_⟩
  · rw [hU]
    exact vx_Zq.moved hW.alike ((h3.kept hS.2.1).narrow hA)
  · rw [hU]
    exact vx_Zq.moved hW.alike ((h4.kept hS.2.1).narrow hA)
  · obtain ⟨sa, h6⟩ := h5 x hx
    exact ⟨sa, vk_R.warm hW h6⟩
/-- a contract's start and ends -/
def zPc (D : va_G) (cy : Nat → ClassId) (Z : zZ) (S : zS) (sz : Nat) (av : List Value) : Array Value → State → Prop := va_Pc av (fun U => U.heap.size = sz ∧ va_P D vwCl (zW cy Z S) U.heap ∧ va_D (fun _ => True) (zW cy Z S) ∧ zV D cy (va_A (zW cy Z S) sz) U U.heap)
def zB (D : va_G) (cy : Nat → ClassId) (A : Nat → Prop) (Z : zZ) (u : zS) (t : State) : Prop := va_P D vwCl (zW cy Z u) t.heap ∧ va_D A (zW cy Z u)
theorem zPc_blind {D : va_G} {cy : Nat → ClassId} {Z : zZ} {S : zS} {sz : Nat} {av : List Value} : FrameBlind (zPc D cy Z S sz av) := fun a U g mk q => by
  obtain ⟨q0, q1, q2, q3, q4⟩ := q
  exact ⟨q0, q1, q2, q3, q4.blind⟩
abbrev zA (cy : Nat → ClassId) (Z : zZ) (S : zS) (sz : Nat) : Nat → Prop := va_A (zW cy Z S) sz
/-- the judgement: from here, whatever the heap that holds σ and the locals that hold lv, the machine comes to Q -/
def zG (p : Program) (l : Launch) (e : Env) (R : Room) (s : State) (m : MethodId) (args : Array Value) (below : List Frame) (meth : Method) (c : Code) (D : va_G) (cy : Nat → ClassId) (A : Nat → Prop) (nL : Nat) (cells slots : Nat) (Q : State → Prop) (Z : zZ) (S : zS) (pc : Nat) (lv : List (Nat × Value)) (st : List Value) : Prop :=
  ∀ (H : Heap) (locs : List Loc) (ls : Array Slot), va_P D vwCl (zW cy Z S) H → va_D A (zW cy Z S) → va_S A s.heap H locs → lv_has ls nL lv → W p l e R s m args below meth c H locs cells slots Q (F0 m pc ls st)
def zC (p : Program) (s : State) (m : MethodId) (args : Array Value) (meth : Method) (c : Code) (cc : ByteArray) (nL : Nat) (Ts : List Cond) (own : String) (D : va_G) (cy : Nat → ClassId) (A : Nat → Prop) (rt : Option FieldType) : Prop :=
  CallFix p m c cc nL s args Ts own ∧ zV D cy A s s.heap ∧ (∀ q, s.heap.size ≤ q → A q) ∧ meth.sig.returnType = rt ∧ meth.locks = false
section ZR
variable {p : Program} {l : Launch} {e : Env} {R : Room} {s : State} {m : MethodId} {args : Array Value} {below : List Frame} {meth : Method} {c : Code} {D : va_G} {cy : Nat → ClassId} {A : Nat → Prop} {nL cells slots : Nat} {Q : State → Prop} {Z : zZ} {S : zS} {pc q : Nat} {lv lv' : List (Nat × Value)} {st : List Value} {cc : ByteArray} {Ts : List Cond} {own : String} {rt : Option FieldType}
theorem zg_iconst (C0 : zC p s m args meth c cc nL Ts own D cy A rt) {n : Int} {v : Int32} (hdg : decode cc pc = .ok (.iconst n, 1)) (hv : Int32.ofInt n = v) (hq : pc + 1 = q) (kk : zG p l e R s m args below meth c D cy A nL cells slots Q Z S (q) lv (.int v :: st)) : zG p l e R s m args below meth c D cy A nL cells slots Q Z S (pc) lv (st) := by
  subst hq
  exact fun H locs ls hP hD hS hl => lv_iconst C0.1.1 C0.1.2.1 hdg hv (kk H locs ls hP hD hS hl)
theorem zg_bipush (C0 : zC p s m args meth c cc nL Ts own D cy A rt) {n : Int} {v : Int32} (hdg : decode cc pc = .ok (.bipush n, 2)) (hv : (Int8.ofInt n).toInt32 = v) (hq : pc + 2 = q) (kk : zG p l e R s m args below meth c D cy A nL cells slots Q Z S (q) lv (.int v :: st)) : zG p l e R s m args below meth c D cy A nL cells slots Q Z S (pc) lv (st) := by
  subst hq
  exact fun H locs ls hP hD hS hl => lv_bipush C0.1.1 C0.1.2.1 hdg hv (kk H locs ls hP hD hS hl)
theorem zg_sipush (C0 : zC p s m args meth c cc nL Ts own D cy A rt) {n : Int} {v : Int32} (hdg : decode cc pc = .ok (.sipush n, 3)) (hv : (Int16.ofInt n).toInt32 = v) (hq : pc + 3 = q) (kk : zG p l e R s m args below meth c D cy A nL cells slots Q Z S (q) lv (.int v :: st)) : zG p l e R s m args below meth c D cy A nL cells slots Q Z S (pc) lv (st) := by
  subst hq
  exact fun H locs ls hP hD hS hl => lv_sipush C0.1.1 C0.1.2.1 hdg hv (kk H locs ls hP hD hS hl)
theorem zg_lconst (C0 : zC p s m args meth c cc nL Ts own D cy A rt) {n : Fin 2} {v : Int64} (hdg : decode cc pc = .ok (.lconst n, 1)) (hv : Int64.ofNat (n : Nat) = v) (hq : pc + 1 = q) (kk : zG p l e R s m args below meth c D cy A nL cells slots Q Z S (q) lv (.long v :: st)) : zG p l e R s m args below meth c D cy A nL cells slots Q Z S (pc) lv (st) := by
  subst hq
  exact fun H locs ls hP hD hS hl => lv_lconst C0.1.1 C0.1.2.1 hdg hv (kk H locs ls hP hD hS hl)
theorem zg_iload_n (C0 : zC p s m args meth c cc nL Ts own D cy A rt) {k : Fin 4} {x : Int32} (j : Nat) (hdg : decode cc pc = .ok (.iload_n k, 1)) (hj : lv[j]? = some (k.val, .int x)) (hq : pc + 1 = q) (kk : zG p l e R s m args below meth c D cy A nL cells slots Q Z S (q) lv (.int x :: st)) : zG p l e R s m args below meth c D cy A nL cells slots Q Z S (pc) lv (st) := by
  subst hq
  exact fun H locs ls hP hD hS hl => lv_iload_n C0.1.1 C0.1.2.1 hdg rfl (lv_at hl j hj) (kk H locs ls hP hD hS hl)
theorem zg_iload (C0 : zC p s m args meth c cc nL Ts own D cy A rt) {i : Nat} {x : Int32} (j : Nat) (hdg : decode cc pc = .ok (.iload i, 2)) (hj : lv[j]? = some (i, .int x)) (hq : pc + 2 = q) (kk : zG p l e R s m args below meth c D cy A nL cells slots Q Z S (q) lv (.int x :: st)) : zG p l e R s m args below meth c D cy A nL cells slots Q Z S (pc) lv (st) := by
  subst hq
  exact fun H locs ls hP hD hS hl => lv_iload C0.1.1 C0.1.2.1 hdg (lv_at hl j hj) (kk H locs ls hP hD hS hl)
theorem zg_lload_n (C0 : zC p s m args meth c cc nL Ts own D cy A rt) {k : Fin 4} {x : Int64} (j : Nat) (hdg : decode cc pc = .ok (.lload_n k, 1)) (hj : lv[j]? = some (k.val, .long x)) (hq : pc + 1 = q) (kk : zG p l e R s m args below meth c D cy A nL cells slots Q Z S (q) lv (.long x :: st)) : zG p l e R s m args below meth c D cy A nL cells slots Q Z S (pc) lv (st) := by
  subst hq
  exact fun H locs ls hP hD hS hl => lv_lload_n C0.1.1 C0.1.2.1 hdg rfl (lv_at hl j hj) (kk H locs ls hP hD hS hl)
theorem zg_lload (C0 : zC p s m args meth c cc nL Ts own D cy A rt) {i : Nat} {x : Int64} (j : Nat) (hdg : decode cc pc = .ok (.lload i, 2)) (hj : lv[j]? = some (i, .long x)) (hq : pc + 2 = q) (kk : zG p l e R s m args below meth c D cy A nL cells slots Q Z S (q) lv (.long x :: st)) : zG p l e R s m args below meth c D cy A nL cells slots Q Z S (pc) lv (st) := by
  subst hq
  exact fun H locs ls hP hD hS hl => lv_lload C0.1.1 C0.1.2.1 hdg (lv_at hl j hj) (kk H locs ls hP hD hS hl)
theorem zg_aload_n (C0 : zC p s m args meth c cc nL Ts own D cy A rt) {k : Fin 4} {x : Nat} (j : Nat) (hdg : decode cc pc = .ok (.aload_n k, 1)) (hj : lv[j]? = some (k.val, .ref x)) (hq : pc + 1 = q) (kk : zG p l e R s m args below meth c D cy A nL cells slots Q Z S (q) lv (.ref x :: st)) : zG p l e R s m args below meth c D cy A nL cells slots Q Z S (pc) lv (st) := by
  subst hq
  exact fun H locs ls hP hD hS hl => lv_aload_n C0.1.1 C0.1.2.1 hdg rfl (lv_at hl j hj) (kk H locs ls hP hD hS hl)
theorem zg_aload (C0 : zC p s m args meth c cc nL Ts own D cy A rt) {i : Nat} {x : Nat} (j : Nat) (hdg : decode cc pc = .ok (.aload i, 2)) (hj : lv[j]? = some (i, .ref x)) (hq : pc + 2 = q) (kk : zG p l e R s m args below meth c D cy A nL cells slots Q Z S (q) lv (.ref x :: st)) : zG p l e R s m args below meth c D cy A nL cells slots Q Z S (pc) lv (st) := by
  subst hq
  exact fun H locs ls hP hD hS hl => lv_aload C0.1.1 C0.1.2.1 hdg (lv_at hl j hj) (kk H locs ls hP hD hS hl)
theorem zg_aloadq_n (C0 : zC p s m args meth c cc nL Ts own D cy A rt) {k : Fin 4} {r : Option Nat} (j : Nat) (hdg : decode cc pc = .ok (.aload_n k, 1)) (hj : lv[j]? = some (k.val, va_rf r)) (hq : pc + 1 = q) (kk : zG p l e R s m args below meth c D cy A nL cells slots Q Z S (q) lv (va_rf r :: st)) : zG p l e R s m args below meth c D cy A nL cells slots Q Z S (pc) lv (st) := by
  subst hq
  intro H locs ls hP hD hS hl
  cases r with
  | none => exact lv_aload_nN C0.1.1 C0.1.2.1 hdg rfl (lv_at hl j hj) (kk H locs ls hP hD hS hl)
  | some b => exact lv_aload_n C0.1.1 C0.1.2.1 hdg rfl (lv_at hl j hj) (kk H locs ls hP hD hS hl)
theorem zg_aloadq (C0 : zC p s m args meth c cc nL Ts own D cy A rt) {i : Nat} {r : Option Nat} (j : Nat) (hdg : decode cc pc = .ok (.aload i, 2)) (hj : lv[j]? = some (i, va_rf r)) (hq : pc + 2 = q) (kk : zG p l e R s m args below meth c D cy A nL cells slots Q Z S (q) lv (va_rf r :: st)) : zG p l e R s m args below meth c D cy A nL cells slots Q Z S (pc) lv (st) := by
  subst hq
  intro H locs ls hP hD hS hl
  cases r with
  | none => exact lv_aloadN C0.1.1 C0.1.2.1 hdg (lv_at hl j hj) (kk H locs ls hP hD hS hl)
  | some b => exact lv_aload C0.1.1 C0.1.2.1 hdg (lv_at hl j hj) (kk H locs ls hP hD hS hl)
theorem zg_istore_n (C0 : zC p s m args meth c cc nL Ts own D cy A rt) {k : Fin 4} {x : Int32} (hdg : decode cc pc = .ok (.istore_n k, 1)) (hn : k.val < nL) (hv : (k.val, Value.int x) :: lv.filter (fun q => !(q.1 == k.val) && !(q.1 + 1 == k.val && q.2.category == 2)) = lv') (hq : pc + 1 = q) (kk : zG p l e R s m args below meth c D cy A nL cells slots Q Z S (q) lv' (st)) : zG p l e R s m args below meth c D cy A nL cells slots Q Z S (pc) lv (Value.int x :: st) := by
  subst hq
  exact fun H locs ls hP hD hS hl => lv_istore_n C0.1.1 C0.1.2.1 hdg rfl hl hn hv (fun ls' hl' => kk H locs ls' hP hD hS hl')
theorem zg_istore (C0 : zC p s m args meth c cc nL Ts own D cy A rt) {i : Nat} {x : Int32} (hdg : decode cc pc = .ok (.istore i, 2)) (hn : i < nL) (hv : (i, Value.int x) :: lv.filter (fun q => !(q.1 == i) && !(q.1 + 1 == i && q.2.category == 2)) = lv') (hq : pc + 2 = q) (kk : zG p l e R s m args below meth c D cy A nL cells slots Q Z S (q) lv' (st)) : zG p l e R s m args below meth c D cy A nL cells slots Q Z S (pc) lv (Value.int x :: st) := by
  subst hq
  exact fun H locs ls hP hD hS hl => lv_istore C0.1.1 C0.1.2.1 hdg hl hn hv (fun ls' hl' => kk H locs ls' hP hD hS hl')
theorem zg_lstore_n (C0 : zC p s m args meth c cc nL Ts own D cy A rt) {k : Fin 4} {x : Int64} (hdg : decode cc pc = .ok (.lstore_n k, 1)) (hn : k.val + 1 < nL) (hv : (k.val, Value.long x) :: lv.filter (fun q => !(q.1 == k.val) && (!(q.1 == k.val + 1) && !(q.1 + 1 == k.val && q.2.category == 2))) = lv') (hq : pc + 1 = q) (kk : zG p l e R s m args below meth c D cy A nL cells slots Q Z S (q) lv' (st)) : zG p l e R s m args below meth c D cy A nL cells slots Q Z S (pc) lv (Value.long x :: st) := by
  subst hq
  exact fun H locs ls hP hD hS hl => lv_lstore_n C0.1.1 C0.1.2.1 hdg rfl hl hn hv (fun ls' hl' => kk H locs ls' hP hD hS hl')
theorem zg_lstore (C0 : zC p s m args meth c cc nL Ts own D cy A rt) {i : Nat} {x : Int64} (hdg : decode cc pc = .ok (.lstore i, 2)) (hn : i + 1 < nL) (hv : (i, Value.long x) :: lv.filter (fun q => !(q.1 == i) && (!(q.1 == i + 1) && !(q.1 + 1 == i && q.2.category == 2))) = lv') (hq : pc + 2 = q) (kk : zG p l e R s m args below meth c D cy A nL cells slots Q Z S (q) lv' (st)) : zG p l e R s m args below meth c D cy A nL cells slots Q Z S (pc) lv (Value.long x :: st) := by
  subst hq
  exact fun H locs ls hP hD hS hl => lv_lstore C0.1.1 C0.1.2.1 hdg hl hn hv (fun ls' hl' => kk H locs ls' hP hD hS hl')
theorem zg_astore_n (C0 : zC p s m args meth c cc nL Ts own D cy A rt) {k : Fin 4} {x : Nat} (hdg : decode cc pc = .ok (.astore_n k, 1)) (hn : k.val < nL) (hv : (k.val, Value.ref x) :: lv.filter (fun q => !(q.1 == k.val) && !(q.1 + 1 == k.val && q.2.category == 2)) = lv') (hq : pc + 1 = q) (kk : zG p l e R s m args below meth c D cy A nL cells slots Q Z S (q) lv' (st)) : zG p l e R s m args below meth c D cy A nL cells slots Q Z S (pc) lv (Value.ref x :: st) := by
  subst hq
  exact fun H locs ls hP hD hS hl => lv_astore_n C0.1.1 C0.1.2.1 hdg rfl hl hn hv (fun ls' hl' => kk H locs ls' hP hD hS hl')
theorem zg_astore (C0 : zC p s m args meth c cc nL Ts own D cy A rt) {i : Nat} {x : Nat} (hdg : decode cc pc = .ok (.astore i, 2)) (hn : i < nL) (hv : (i, Value.ref x) :: lv.filter (fun q => !(q.1 == i) && !(q.1 + 1 == i && q.2.category == 2)) = lv') (hq : pc + 2 = q) (kk : zG p l e R s m args below meth c D cy A nL cells slots Q Z S (q) lv' (st)) : zG p l e R s m args below meth c D cy A nL cells slots Q Z S (pc) lv (Value.ref x :: st) := by
  subst hq
  exact fun H locs ls hP hD hS hl => lv_astore C0.1.1 C0.1.2.1 hdg hl hn hv (fun ls' hl' => kk H locs ls' hP hD hS hl')
theorem zg_astoreq_n (C0 : zC p s m args meth c cc nL Ts own D cy A rt) {k : Fin 4} {r : Option Nat} (hdg : decode cc pc = .ok (.astore_n k, 1)) (hn : k.val < nL) (hv : (k.val, va_rf r) :: lv.filter (fun q => !(q.1 == k.val) && !(q.1 + 1 == k.val && q.2.category == 2)) = lv') (hq : pc + 1 = q) (kk : zG p l e R s m args below meth c D cy A nL cells slots Q Z S (q) lv' (st)) : zG p l e R s m args below meth c D cy A nL cells slots Q Z S (pc) lv (va_rf r :: st) := by
  subst hq
  intro H locs ls hP hD hS hl
  cases r with
  | none => exact lv_astore_nN C0.1.1 C0.1.2.1 hdg rfl hl hn hv (fun ls' hl' => kk H locs ls' hP hD hS hl')
  | some b => exact lv_astore_n C0.1.1 C0.1.2.1 hdg rfl hl hn hv (fun ls' hl' => kk H locs ls' hP hD hS hl')
theorem zg_astoreq (C0 : zC p s m args meth c cc nL Ts own D cy A rt) {i : Nat} {r : Option Nat} (hdg : decode cc pc = .ok (.astore i, 2)) (hn : i < nL) (hv : (i, va_rf r) :: lv.filter (fun q => !(q.1 == i) && !(q.1 + 1 == i && q.2.category == 2)) = lv') (hq : pc + 2 = q) (kk : zG p l e R s m args below meth c D cy A nL cells slots Q Z S (q) lv' (st)) : zG p l e R s m args below meth c D cy A nL cells slots Q Z S (pc) lv (va_rf r :: st) := by
  subst hq
  intro H locs ls hP hD hS hl
  cases r with
  | none => exact lv_astoreN C0.1.1 C0.1.2.1 hdg hl hn hv (fun ls' hl' => kk H locs ls' hP hD hS hl')
  | some b => exact lv_astore C0.1.1 C0.1.2.1 hdg hl hn hv (fun ls' hl' => kk H locs ls' hP hD hS hl')
theorem zg_iinc (C0 : zC p s m args meth c cc nL Ts own D cy A rt) {i : Nat} {n : Int} {x : Int32} (j : Nat) (hdg : decode cc pc = .ok (.iinc i n, 3)) (hj : lv[j]? = some (i, .int x)) (hn : i < nL) {d : Int32} (hd : Int32.ofInt n = d) (hq : pc + 3 = q) (kk : ∀ v : Int32, v = x + d → zG p l e R s m args below meth c D cy A nL cells slots Q Z S (q) ((i, .int v) :: lv.filter (fun q => !(q.1 == i) && !(q.1 + 1 == i && q.2.category == 2))) (st)) : zG p l e R s m args below meth c D cy A nL cells slots Q Z S (pc) lv (st) := by
  subst hq
  subst hd
  exact fun H locs ls hP hD hS hl => lv_iinc C0.1.1 C0.1.2.1 hdg hl hj rfl hn rfl (fun ls' hl' => kk _ rfl H locs ls' hP hD hS hl')
theorem zg_iadd (C0 : zC p s m args meth c cc nL Ts own D cy A rt) {x y : Int32} (hdg : decode cc pc = .ok (.iadd, 1)) (hq : pc + 1 = q) (kk : zG p l e R s m args below meth c D cy A nL cells slots Q Z S (q) lv (.int (x + y) :: st)) : zG p l e R s m args below meth c D cy A nL cells slots Q Z S (pc) lv (.int y :: .int x :: st) := by
  subst hq
  exact fun H locs ls hP hD hS hl => lv_iadd C0.1.1 C0.1.2.1 hdg (kk H locs ls hP hD hS hl)
theorem zg_isub (C0 : zC p s m args meth c cc nL Ts own D cy A rt) {x y : Int32} (hdg : decode cc pc = .ok (.isub, 1)) (hq : pc + 1 = q) (kk : zG p l e R s m args below meth c D cy A nL cells slots Q Z S (q) lv (.int (x - y) :: st)) : zG p l e R s m args below meth c D cy A nL cells slots Q Z S (pc) lv (.int y :: .int x :: st) := by
  subst hq
  exact fun H locs ls hP hD hS hl => lv_isub C0.1.1 C0.1.2.1 hdg (kk H locs ls hP hD hS hl)
theorem zg_imul (C0 : zC p s m args meth c cc nL Ts own D cy A rt) {x y : Int32} (hdg : decode cc pc = .ok (.imul, 1)) (hq : pc + 1 = q) (kk : zG p l e R s m args below meth c D cy A nL cells slots Q Z S (q) lv (.int (x * y) :: st)) : zG p l e R s m args below meth c D cy A nL cells slots Q Z S (pc) lv (.int y :: .int x :: st) := by
  subst hq
  exact fun H locs ls hP hD hS hl => lv_imul C0.1.1 C0.1.2.1 hdg (kk H locs ls hP hD hS hl)
theorem zg_iand (C0 : zC p s m args meth c cc nL Ts own D cy A rt) {x y : Int32} (hdg : decode cc pc = .ok (.iand, 1)) (hq : pc + 1 = q) (kk : zG p l e R s m args below meth c D cy A nL cells slots Q Z S (q) lv (.int (x &&& y) :: st)) : zG p l e R s m args below meth c D cy A nL cells slots Q Z S (pc) lv (.int y :: .int x :: st) := by
  subst hq
  exact fun H locs ls hP hD hS hl => lv_iand C0.1.1 C0.1.2.1 hdg (kk H locs ls hP hD hS hl)
theorem zg_ior (C0 : zC p s m args meth c cc nL Ts own D cy A rt) {x y : Int32} (hdg : decode cc pc = .ok (.ior, 1)) (hq : pc + 1 = q) (kk : zG p l e R s m args below meth c D cy A nL cells slots Q Z S (q) lv (.int (x ||| y) :: st)) : zG p l e R s m args below meth c D cy A nL cells slots Q Z S (pc) lv (.int y :: .int x :: st) := by
  subst hq
  exact fun H locs ls hP hD hS hl => lv_ior C0.1.1 C0.1.2.1 hdg (kk H locs ls hP hD hS hl)
theorem zg_ixor (C0 : zC p s m args meth c cc nL Ts own D cy A rt) {x y : Int32} (hdg : decode cc pc = .ok (.ixor, 1)) (hq : pc + 1 = q) (kk : zG p l e R s m args below meth c D cy A nL cells slots Q Z S (q) lv (.int (x ^^^ y) :: st)) : zG p l e R s m args below meth c D cy A nL cells slots Q Z S (pc) lv (.int y :: .int x :: st) := by
  subst hq
  exact fun H locs ls hP hD hS hl => lv_ixor C0.1.1 C0.1.2.1 hdg (kk H locs ls hP hD hS hl)
theorem zg_ishl (C0 : zC p s m args meth c cc nL Ts own D cy A rt) {x y : Int32} (hdg : decode cc pc = .ok (.ishl, 1)) (hq : pc + 1 = q) (kk : zG p l e R s m args below meth c D cy A nL cells slots Q Z S (q) lv (.int (x <<< (y &&& 31)) :: st)) : zG p l e R s m args below meth c D cy A nL cells slots Q Z S (pc) lv (.int y :: .int x :: st) := by
  subst hq
  exact fun H locs ls hP hD hS hl => lv_ishl C0.1.1 C0.1.2.1 hdg (kk H locs ls hP hD hS hl)
theorem zg_ishr (C0 : zC p s m args meth c cc nL Ts own D cy A rt) {x y : Int32} (hdg : decode cc pc = .ok (.ishr, 1)) (hq : pc + 1 = q) (kk : zG p l e R s m args below meth c D cy A nL cells slots Q Z S (q) lv (.int (x >>> (y &&& 31)) :: st)) : zG p l e R s m args below meth c D cy A nL cells slots Q Z S (pc) lv (.int y :: .int x :: st) := by
  subst hq
  exact fun H locs ls hP hD hS hl => lv_ishr C0.1.1 C0.1.2.1 hdg (kk H locs ls hP hD hS hl)
theorem zg_iushr (C0 : zC p s m args meth c cc nL Ts own D cy A rt) {x y : Int32} (hdg : decode cc pc = .ok (.iushr, 1)) (hq : pc + 1 = q) (kk : zG p l e R s m args below meth c D cy A nL cells slots Q Z S (q) lv (.int ((x.toUInt32 >>> (y.toUInt32 &&& Int32.toUInt32 31)).toInt32) :: st)) : zG p l e R s m args below meth c D cy A nL cells slots Q Z S (pc) lv (.int y :: .int x :: st) := by
  subst hq
  exact fun H locs ls hP hD hS hl => lv_iushr C0.1.1 C0.1.2.1 hdg rfl (kk H locs ls hP hD hS hl)
theorem zg_irem (C0 : zC p s m args meth c cc nL Ts own D cy A rt) {x y : Int32} (hdg : decode cc pc = .ok (.irem, 1)) (hne : ¬ y = 0) (hq : pc + 1 = q) (kk : zG p l e R s m args below meth c D cy A nL cells slots Q Z S (q) lv (.int (x - x / y * y) :: st)) : zG p l e R s m args below meth c D cy A nL cells slots Q Z S (pc) lv (.int y :: .int x :: st) := by
  subst hq
  exact fun H locs ls hP hD hS hl => lv_irem C0.1.1 C0.1.2.1 hdg hne (kk H locs ls hP hD hS hl)
theorem zg_ladd (C0 : zC p s m args meth c cc nL Ts own D cy A rt) {x y : Int64} (hdg : decode cc pc = .ok (.ladd, 1)) (hq : pc + 1 = q) (kk : zG p l e R s m args below meth c D cy A nL cells slots Q Z S (q) lv (.long (x + y) :: st)) : zG p l e R s m args below meth c D cy A nL cells slots Q Z S (pc) lv (.long y :: .long x :: st) := by
  subst hq
  exact fun H locs ls hP hD hS hl => lv_ladd C0.1.1 C0.1.2.1 hdg (kk H locs ls hP hD hS hl)
theorem zg_lmul (C0 : zC p s m args meth c cc nL Ts own D cy A rt) {x y : Int64} (hdg : decode cc pc = .ok (.lmul, 1)) (hq : pc + 1 = q) (kk : zG p l e R s m args below meth c D cy A nL cells slots Q Z S (q) lv (.long (x * y) :: st)) : zG p l e R s m args below meth c D cy A nL cells slots Q Z S (pc) lv (.long y :: .long x :: st) := by
  subst hq
  exact fun H locs ls hP hD hS hl => lv_lmul C0.1.1 C0.1.2.1 hdg (kk H locs ls hP hD hS hl)
theorem zg_land (C0 : zC p s m args meth c cc nL Ts own D cy A rt) {x y : Int64} (hdg : decode cc pc = .ok (.land, 1)) (hq : pc + 1 = q) (kk : zG p l e R s m args below meth c D cy A nL cells slots Q Z S (q) lv (.long (x &&& y) :: st)) : zG p l e R s m args below meth c D cy A nL cells slots Q Z S (pc) lv (.long y :: .long x :: st) := by
  subst hq
  exact fun H locs ls hP hD hS hl => lv_land C0.1.1 C0.1.2.1 hdg (kk H locs ls hP hD hS hl)
theorem zg_lor (C0 : zC p s m args meth c cc nL Ts own D cy A rt) {x y : Int64} (hdg : decode cc pc = .ok (.lor, 1)) (hq : pc + 1 = q) (kk : zG p l e R s m args below meth c D cy A nL cells slots Q Z S (q) lv (.long (x ||| y) :: st)) : zG p l e R s m args below meth c D cy A nL cells slots Q Z S (pc) lv (.long y :: .long x :: st) := by
  subst hq
  exact fun H locs ls hP hD hS hl => lv_lor C0.1.1 C0.1.2.1 hdg (kk H locs ls hP hD hS hl)
theorem zg_lshl (C0 : zC p s m args meth c cc nL Ts own D cy A rt) {x : Int64} {y : Int32} (hdg : decode cc pc = .ok (.lshl, 1)) (hq : pc + 1 = q) (kk : zG p l e R s m args below meth c D cy A nL cells slots Q Z S (q) lv (.long (x <<< (y.toInt64 &&& 63)) :: st)) : zG p l e R s m args below meth c D cy A nL cells slots Q Z S (pc) lv (.int y :: .long x :: st) := by
  subst hq
  exact fun H locs ls hP hD hS hl => lv_lshl C0.1.1 C0.1.2.1 hdg rfl (kk H locs ls hP hD hS hl)
theorem zg_i2l (C0 : zC p s m args meth c cc nL Ts own D cy A rt) {x : Int32} (hdg : decode cc pc = .ok (.i2l, 1)) (hq : pc + 1 = q) (kk : zG p l e R s m args below meth c D cy A nL cells slots Q Z S (q) lv (.long x.toInt64 :: st)) : zG p l e R s m args below meth c D cy A nL cells slots Q Z S (pc) lv (.int x :: st) := by
  subst hq
  exact fun H locs ls hP hD hS hl => lv_i2l C0.1.1 C0.1.2.1 hdg rfl (kk H locs ls hP hD hS hl)
theorem zg_lcmp (C0 : zC p s m args meth c cc nL Ts own D cy A rt) {x y : Int64} (hdg : decode cc pc = .ok (.lcmp, 1)) (hq : pc + 1 = q) (kk : zG p l e R s m args below meth c D cy A nL cells slots Q Z S (q) lv (.int (lg_cmp x y) :: st)) : zG p l e R s m args below meth c D cy A nL cells slots Q Z S (pc) lv (.long y :: .long x :: st) := by
  subst hq
  exact fun H locs ls hP hD hS hl => W.lcmp C0.1.1 C0.1.2.1 hdg (kk H locs ls hP hD hS hl)
theorem zg_dup (C0 : zC p s m args meth c cc nL Ts own D cy A rt) {v : Value} (hdg : decode cc pc = .ok (.dup, 1)) (h1 : v.category = 1) (hq : pc + 1 = q) (kk : zG p l e R s m args below meth c D cy A nL cells slots Q Z S (q) lv (v :: v :: st)) : zG p l e R s m args below meth c D cy A nL cells slots Q Z S (pc) lv (v :: st) := by
  subst hq
  exact fun H locs ls hP hD hS hl => lv_dup C0.1.1 C0.1.2.1 hdg h1 (kk H locs ls hP hD hS hl)
theorem zg_pop (C0 : zC p s m args meth c cc nL Ts own D cy A rt) {v : Value} (hdg : decode cc pc = .ok (.pop, 1)) (h1 : v.category = 1) (hq : pc + 1 = q) (kk : zG p l e R s m args below meth c D cy A nL cells slots Q Z S (q) lv (st)) : zG p l e R s m args below meth c D cy A nL cells slots Q Z S (pc) lv (v :: st) := by
  subst hq
  exact fun H locs ls hP hD hS hl => lv_pop C0.1.1 C0.1.2.1 hdg h1 (kk H locs ls hP hD hS hl)
theorem zg_dup2 (C0 : zC p s m args meth c cc nL Ts own D cy A rt) {v u : Value} (hdg : decode cc pc = .ok (.dup2, 1)) (h1 : v.category = 1) (h2 : u.category = 1) (hq : pc + 1 = q) (kk : zG p l e R s m args below meth c D cy A nL cells slots Q Z S (q) lv (v :: u :: v :: u :: st)) : zG p l e R s m args below meth c D cy A nL cells slots Q Z S (pc) lv (v :: u :: st) := by
  subst hq
  exact fun H locs ls hP hD hS hl => lv_dup2_11 C0.1.1 C0.1.2.1 hdg h1 h2 (kk H locs ls hP hD hS hl)
theorem zg_dup2l (C0 : zC p s m args meth c cc nL Ts own D cy A rt) {v : Value} (hdg : decode cc pc = .ok (.dup2, 1)) (h1 : v.category = 2) (hq : pc + 1 = q) (kk : zG p l e R s m args below meth c D cy A nL cells slots Q Z S (q) lv (v :: v :: st)) : zG p l e R s m args below meth c D cy A nL cells slots Q Z S (pc) lv (v :: st) := by
  subst hq
  exact fun H locs ls hP hD hS hl => lv_dup2_2 C0.1.1 C0.1.2.1 hdg h1 (kk H locs ls hP hD hS hl)
theorem zg_null (C0 : zC p s m args meth c cc nL Ts own D cy A rt)  (hdg : decode cc pc = .ok (.aconst_null, 1)) (hq : pc + 1 = q) (kk : zG p l e R s m args below meth c D cy A nL cells slots Q Z S (q) lv (.null :: st)) : zG p l e R s m args below meth c D cy A nL cells slots Q Z S (pc) lv (st) := by
  subst hq
  exact fun H locs ls hP hD hS hl => lv_null C0.1.1 C0.1.2.1 hdg (kk H locs ls hP hD hS hl)
theorem zg_ldcw (C0 : zC p s m args meth c cc nL Ts own D cy A rt) {index : Nat} {v : Int32} (hdg : decode cc pc = .ok (.ldc_w index, 3)) (hw : Cond.constant own index v ∈ Ts) (hq : pc + 3 = q) (kk : zG p l e R s m args below meth c D cy A nL cells slots Q Z S (q) lv (.int v :: st)) : zG p l e R s m args below meth c D cy A nL cells slots Q Z S (pc) lv (st) := by
  subst hq
  exact fun H locs ls hP hD hS hl => lv_ldcw C0.1.1 C0.1.2.1 C0.1.2.2.2.1 (C0.1.2.2.2.2 _ hw) hdg (kk H locs ls hP hD hS hl)
theorem zg_ldc2 (C0 : zC p s m args meth c cc nL Ts own D cy A rt) {index : Nat} {v : Int64} (hdg : decode cc pc = .ok (.ldc2_w index, 3)) (hw : Cond.constantLong own index v ∈ Ts) (hq : pc + 3 = q) (kk : zG p l e R s m args below meth c D cy A nL cells slots Q Z S (q) lv (.long v :: st)) : zG p l e R s m args below meth c D cy A nL cells slots Q Z S (pc) lv (st) := by
  subst hq
  exact fun H locs ls hP hD hS hl => lv_ldc2 C0.1.1 C0.1.2.1 C0.1.2.2.2.1 (C0.1.2.2.2.2 _ hw) hdg (kk H locs ls hP hD hS hl)
theorem zg_if_eq (C0 : zC p s m args meth c cc nL Ts own D cy A rt) {x : Int32} {off : Int} {tgt : Nat} (hdg : decode cc pc = .ok (.ifCond .eq off, 3)) (ht : (pc : Int) + off = (tgt : Int)) (hq : pc + 3 = q) (kt : x = 0 → zG p l e R s m args below meth c D cy A nL cells slots Q Z S (tgt) lv (st)) (kf : ¬ x = 0 → zG p l e R s m args below meth c D cy A nL cells slots Q Z S (q) lv (st)) : zG p l e R s m args below meth c D cy A nL cells slots Q Z S (pc) lv (.int x :: st) := by
  subst hq
  exact fun H locs ls hP hD hS hl => lv_if_eq C0.1.1 C0.1.2.1 hdg ht (fun z => kt z H locs ls hP hD hS hl) (fun z => kf z H locs ls hP hD hS hl)
theorem zg_if_ne (C0 : zC p s m args meth c cc nL Ts own D cy A rt) {x : Int32} {off : Int} {tgt : Nat} (hdg : decode cc pc = .ok (.ifCond .ne off, 3)) (ht : (pc : Int) + off = (tgt : Int)) (hq : pc + 3 = q) (kt : ¬ x = 0 → zG p l e R s m args below meth c D cy A nL cells slots Q Z S (tgt) lv (st)) (kf : x = 0 → zG p l e R s m args below meth c D cy A nL cells slots Q Z S (q) lv (st)) : zG p l e R s m args below meth c D cy A nL cells slots Q Z S (pc) lv (.int x :: st) := by
  subst hq
  exact fun H locs ls hP hD hS hl => lv_if_ne C0.1.1 C0.1.2.1 hdg ht (fun z => kt z H locs ls hP hD hS hl) (fun z => kf z H locs ls hP hD hS hl)
theorem zg_if_lt (C0 : zC p s m args meth c cc nL Ts own D cy A rt) {x : Int32} {off : Int} {tgt : Nat} (hdg : decode cc pc = .ok (.ifCond .lt off, 3)) (ht : (pc : Int) + off = (tgt : Int)) (hq : pc + 3 = q) (kt : x < 0 → zG p l e R s m args below meth c D cy A nL cells slots Q Z S (tgt) lv (st)) (kf : ¬ x < 0 → zG p l e R s m args below meth c D cy A nL cells slots Q Z S (q) lv (st)) : zG p l e R s m args below meth c D cy A nL cells slots Q Z S (pc) lv (.int x :: st) := by
  subst hq
  exact fun H locs ls hP hD hS hl => lv_if_lt C0.1.1 C0.1.2.1 hdg ht (fun z => kt z H locs ls hP hD hS hl) (fun z => kf z H locs ls hP hD hS hl)
theorem zg_if_ge (C0 : zC p s m args meth c cc nL Ts own D cy A rt) {x : Int32} {off : Int} {tgt : Nat} (hdg : decode cc pc = .ok (.ifCond .ge off, 3)) (ht : (pc : Int) + off = (tgt : Int)) (hq : pc + 3 = q) (kt : 0 ≤ x → zG p l e R s m args below meth c D cy A nL cells slots Q Z S (tgt) lv (st)) (kf : ¬ 0 ≤ x → zG p l e R s m args below meth c D cy A nL cells slots Q Z S (q) lv (st)) : zG p l e R s m args below meth c D cy A nL cells slots Q Z S (pc) lv (.int x :: st) := by
  subst hq
  exact fun H locs ls hP hD hS hl => lv_if_ge C0.1.1 C0.1.2.1 hdg ht (fun z => kt z H locs ls hP hD hS hl) (fun z => kf z H locs ls hP hD hS hl)
theorem zg_if_gt (C0 : zC p s m args meth c cc nL Ts own D cy A rt) {x : Int32} {off : Int} {tgt : Nat} (hdg : decode cc pc = .ok (.ifCond .gt off, 3)) (ht : (pc : Int) + off = (tgt : Int)) (hq : pc + 3 = q) (kt : 0 < x → zG p l e R s m args below meth c D cy A nL cells slots Q Z S (tgt) lv (st)) (kf : ¬ 0 < x → zG p l e R s m args below meth c D cy A nL cells slots Q Z S (q) lv (st)) : zG p l e R s m args below meth c D cy A nL cells slots Q Z S (pc) lv (.int x :: st) := by
  subst hq
  exact fun H locs ls hP hD hS hl => lv_if_gt C0.1.1 C0.1.2.1 hdg ht (fun z => kt z H locs ls hP hD hS hl) (fun z => kf z H locs ls hP hD hS hl)
theorem zg_if_le (C0 : zC p s m args meth c cc nL Ts own D cy A rt) {x : Int32} {off : Int} {tgt : Nat} (hdg : decode cc pc = .ok (.ifCond .le off, 3)) (ht : (pc : Int) + off = (tgt : Int)) (hq : pc + 3 = q) (kt : x ≤ 0 → zG p l e R s m args below meth c D cy A nL cells slots Q Z S (tgt) lv (st)) (kf : ¬ x ≤ 0 → zG p l e R s m args below meth c D cy A nL cells slots Q Z S (q) lv (st)) : zG p l e R s m args below meth c D cy A nL cells slots Q Z S (pc) lv (.int x :: st) := by
  subst hq
  exact fun H locs ls hP hD hS hl => lv_if_le C0.1.1 C0.1.2.1 hdg ht (fun z => kt z H locs ls hP hD hS hl) (fun z => kf z H locs ls hP hD hS hl)
theorem zg_icmp_eq (C0 : zC p s m args meth c cc nL Ts own D cy A rt) {x y : Int32} {off : Int} {tgt : Nat} (hdg : decode cc pc = .ok (.if_icmp .eq off, 3)) (ht : (pc : Int) + off = (tgt : Int)) (hq : pc + 3 = q) (kt : x = y → zG p l e R s m args below meth c D cy A nL cells slots Q Z S (tgt) lv (st)) (kf : ¬ x = y → zG p l e R s m args below meth c D cy A nL cells slots Q Z S (q) lv (st)) : zG p l e R s m args below meth c D cy A nL cells slots Q Z S (pc) lv (.int y :: .int x :: st) := by
  subst hq
  exact fun H locs ls hP hD hS hl => lv_icmp_eq C0.1.1 C0.1.2.1 hdg ht (fun z => kt z H locs ls hP hD hS hl) (fun z => kf z H locs ls hP hD hS hl)
theorem zg_icmp_ne (C0 : zC p s m args meth c cc nL Ts own D cy A rt) {x y : Int32} {off : Int} {tgt : Nat} (hdg : decode cc pc = .ok (.if_icmp .ne off, 3)) (ht : (pc : Int) + off = (tgt : Int)) (hq : pc + 3 = q) (kt : ¬ x = y → zG p l e R s m args below meth c D cy A nL cells slots Q Z S (tgt) lv (st)) (kf : x = y → zG p l e R s m args below meth c D cy A nL cells slots Q Z S (q) lv (st)) : zG p l e R s m args below meth c D cy A nL cells slots Q Z S (pc) lv (.int y :: .int x :: st) := by
  subst hq
  exact fun H locs ls hP hD hS hl => lv_icmp_ne C0.1.1 C0.1.2.1 hdg ht (fun z => kt z H locs ls hP hD hS hl) (fun z => kf z H locs ls hP hD hS hl)
theorem zg_icmp_lt (C0 : zC p s m args meth c cc nL Ts own D cy A rt) {x y : Int32} {off : Int} {tgt : Nat} (hdg : decode cc pc = .ok (.if_icmp .lt off, 3)) (ht : (pc : Int) + off = (tgt : Int)) (hq : pc + 3 = q) (kt : x < y → zG p l e R s m args below meth c D cy A nL cells slots Q Z S (tgt) lv (st)) (kf : ¬ x < y → zG p l e R s m args below meth c D cy A nL cells slots Q Z S (q) lv (st)) : zG p l e R s m args below meth c D cy A nL cells slots Q Z S (pc) lv (.int y :: .int x :: st) := by
  subst hq
  exact fun H locs ls hP hD hS hl => lv_icmp_lt C0.1.1 C0.1.2.1 hdg ht (fun z => kt z H locs ls hP hD hS hl) (fun z => kf z H locs ls hP hD hS hl)
theorem zg_icmp_ge (C0 : zC p s m args meth c cc nL Ts own D cy A rt) {x y : Int32} {off : Int} {tgt : Nat} (hdg : decode cc pc = .ok (.if_icmp .ge off, 3)) (ht : (pc : Int) + off = (tgt : Int)) (hq : pc + 3 = q) (kt : y ≤ x → zG p l e R s m args below meth c D cy A nL cells slots Q Z S (tgt) lv (st)) (kf : ¬ y ≤ x → zG p l e R s m args below meth c D cy A nL cells slots Q Z S (q) lv (st)) : zG p l e R s m args below meth c D cy A nL cells slots Q Z S (pc) lv (.int y :: .int x :: st) := by
  subst hq
  exact fun H locs ls hP hD hS hl => lv_icmp_ge C0.1.1 C0.1.2.1 hdg ht (fun z => kt z H locs ls hP hD hS hl) (fun z => kf z H locs ls hP hD hS hl)
theorem zg_icmp_gt (C0 : zC p s m args meth c cc nL Ts own D cy A rt) {x y : Int32} {off : Int} {tgt : Nat} (hdg : decode cc pc = .ok (.if_icmp .gt off, 3)) (ht : (pc : Int) + off = (tgt : Int)) (hq : pc + 3 = q) (kt : y < x → zG p l e R s m args below meth c D cy A nL cells slots Q Z S (tgt) lv (st)) (kf : ¬ y < x → zG p l e R s m args below meth c D cy A nL cells slots Q Z S (q) lv (st)) : zG p l e R s m args below meth c D cy A nL cells slots Q Z S (pc) lv (.int y :: .int x :: st) := by
  subst hq
  exact fun H locs ls hP hD hS hl => lv_icmp_gt C0.1.1 C0.1.2.1 hdg ht (fun z => kt z H locs ls hP hD hS hl) (fun z => kf z H locs ls hP hD hS hl)
theorem zg_icmp_le (C0 : zC p s m args meth c cc nL Ts own D cy A rt) {x y : Int32} {off : Int} {tgt : Nat} (hdg : decode cc pc = .ok (.if_icmp .le off, 3)) (ht : (pc : Int) + off = (tgt : Int)) (hq : pc + 3 = q) (kt : x ≤ y → zG p l e R s m args below meth c D cy A nL cells slots Q Z S (tgt) lv (st)) (kf : ¬ x ≤ y → zG p l e R s m args below meth c D cy A nL cells slots Q Z S (q) lv (st)) : zG p l e R s m args below meth c D cy A nL cells slots Q Z S (pc) lv (.int y :: .int x :: st) := by
  subst hq
  exact fun H locs ls hP hD hS hl => lv_icmp_le C0.1.1 C0.1.2.1 hdg ht (fun z => kt z H locs ls hP hD hS hl) (fun z => kf z H locs ls hP hD hS hl)
theorem zg_acmp_eq (C0 : zC p s m args meth c cc nL Ts own D cy A rt) {a b : Option Nat} {v u : Value} {off : Int} {tgt : Nat} (hdg : decode cc pc = .ok (.if_acmp .eq off, 3)) (ht : (pc : Int) + off = (tgt : Int)) (hu : va_rf a = u) (hv : va_rf b = v) (hq : pc + 3 = q) (kt : a = b → zG p l e R s m args below meth c D cy A nL cells slots Q Z S (tgt) lv (st)) (kf : ¬ a = b → zG p l e R s m args below meth c D cy A nL cells slots Q Z S (q) lv (st)) : zG p l e R s m args below meth c D cy A nL cells slots Q Z S (pc) lv (v :: u :: st) := by
  subst hq
  subst hu
  subst hv
  exact fun H locs ls hP hD hS hl => lv_acmp_eq C0.1.1 C0.1.2.1 hdg ht (fun z => kt z H locs ls hP hD hS hl) (fun z => kf z H locs ls hP hD hS hl)
theorem zg_acmp_ne (C0 : zC p s m args meth c cc nL Ts own D cy A rt) {a b : Option Nat} {v u : Value} {off : Int} {tgt : Nat} (hdg : decode cc pc = .ok (.if_acmp .ne off, 3)) (ht : (pc : Int) + off = (tgt : Int)) (hu : va_rf a = u) (hv : va_rf b = v) (hq : pc + 3 = q) (kt : ¬ a = b → zG p l e R s m args below meth c D cy A nL cells slots Q Z S (tgt) lv (st)) (kf : a = b → zG p l e R s m args below meth c D cy A nL cells slots Q Z S (q) lv (st)) : zG p l e R s m args below meth c D cy A nL cells slots Q Z S (pc) lv (v :: u :: st) := by
  subst hq
  subst hu
  subst hv
  exact fun H locs ls hP hD hS hl => lv_acmp_ne C0.1.1 C0.1.2.1 hdg ht (fun z => kt z H locs ls hP hD hS hl) (fun z => kf z H locs ls hP hD hS hl)
theorem zg_goto (C0 : zC p s m args meth c cc nL Ts own D cy A rt) {off : Int} {tgt : Nat} (hdg : decode cc pc = .ok (.goto off, 3)) (ht : (pc : Int) + off = (tgt : Int)) (kk : zG p l e R s m args below meth c D cy A nL cells slots Q Z S (tgt) lv (st)) : zG p l e R s m args below meth c D cy A nL cells slots Q Z S (pc) lv (st) := fun H locs ls hP hD hS hl => lv_goto C0.1.1 C0.1.2.1 hdg ht (kk H locs ls hP hD hS hl)
theorem zg_ifnull (C0 : zC p s m args meth c cc nL Ts own D cy A rt) {r : Option Nat} {off : Int} {tgt : Nat} (hdg : decode cc pc = .ok (.ifnull off, 3)) (ht : (pc : Int) + off = (tgt : Int)) (hq : pc + 3 = q) (kt : r = none → zG p l e R s m args below meth c D cy A nL cells slots Q Z S (tgt) lv (st)) (kf : ∀ b, r = some b → zG p l e R s m args below meth c D cy A nL cells slots Q Z S (q) lv (st)) : zG p l e R s m args below meth c D cy A nL cells slots Q Z S (pc) lv (va_rf r :: st) := by
  subst hq
  intro H locs ls hP hD hS hl
  cases r with
  | none => exact lv_ifnullN C0.1.1 C0.1.2.1 hdg ht (kt rfl H locs ls hP hD hS hl)
  | some b => exact lv_ifnull C0.1.1 C0.1.2.1 hdg (kf b rfl H locs ls hP hD hS hl)
theorem zg_ifnonnull (C0 : zC p s m args meth c cc nL Ts own D cy A rt) {r : Option Nat} {off : Int} {tgt : Nat} (hdg : decode cc pc = .ok (.ifnonnull off, 3)) (ht : (pc : Int) + off = (tgt : Int)) (hq : pc + 3 = q) (kt : ∀ b, r = some b → zG p l e R s m args below meth c D cy A nL cells slots Q Z S (tgt) lv (st)) (kf : r = none → zG p l e R s m args below meth c D cy A nL cells slots Q Z S (q) lv (st)) : zG p l e R s m args below meth c D cy A nL cells slots Q Z S (pc) lv (va_rf r :: st) := by
  subst hq
  intro H locs ls hP hD hS hl
  cases r with
  | none => exact lv_ifnonnullN C0.1.1 C0.1.2.1 hdg (kf rfl H locs ls hP hD hS hl)
  | some b => exact lv_ifnonnull C0.1.1 C0.1.2.1 hdg ht (kt b rfl H locs ls hP hD hS hl)
theorem zg_ni {x : Int32} (kk : ∀ y : Int32, y = x → zG p l e R s m args below meth c D cy A nL cells slots Q Z S (pc) lv (.int y :: st)) : zG p l e R s m args below meth c D cy A nL cells slots Q Z S (pc) lv (.int x :: st) := kk x rfl
theorem zg_nl {x : Int64} (kk : ∀ y : Int64, y = x → zG p l e R s m args below meth c D cy A nL cells slots Q Z S (pc) lv (.long y :: st)) : zG p l e R s m args below meth c D cy A nL cells slots Q Z S (pc) lv (.long x :: st) := kk x rfl
theorem zg_st {st' : List Value} (h : st = st') (kk : zG p l e R s m args below meth c D cy A nL cells slots Q Z S (pc) lv (st')) : zG p l e R s m args below meth c D cy A nL cells slots Q Z S (pc) lv (st) := h ▸ kk
theorem zg_lv (h : lv = lv') (kk : zG p l e R s m args below meth c D cy A nL cells slots Q Z S (pc) lv' (st)) : zG p l e R s m args below meth c D cy A nL cells slots Q Z S (pc) lv (st) := h ▸ kk
theorem zg_sub (ks : List Nat) (h : lv_pick lv ks = lv') (kk : zG p l e R s m args below meth c D cy A nL cells slots Q Z S (pc) lv' (st)) : zG p l e R s m args below meth c D cy A nL cells slots Q Z S (pc) lv (st) := fun H locs ls hP hD hS hl => kk H locs ls hP hD hS (lv_sub hl ks h)
theorem zg_widen {k n : Nat} (h1 : cells ≤ k) (h2 : slots ≤ n) (kk : zG p l e R s m args below meth c D cy A nL k n Q Z S (pc) lv (st)) : zG p l e R s m args below meth c D cy A nL cells slots Q Z S (pc) lv (st) := fun H locs ls hP hD hS hl => W.widen h1 h2 (kk H locs ls hP hD hS hl)
theorem zg_get (C0 : zC p s m args meth c cc nL Ts own D cy A rt) {a ci N k index : Nat} {Cn ref : String} {T : u_T} {fs : List Value} {v : Value} (hdg : decode cc pc = .ok (.getfield index, 3)) (ha : zk Z a ci) (hF : zF cy Z S a = .inr (ci, fs)) (hc : vwCl[ci]? = some (Cn, T, N)) (hk : k < N) (hin : ∀ w ∈ u_ws Cn T N, w ∈ Ts) (hlink : Cond.fieldLink own index ref (T k).2.1 (T k).2.2.1 ∈ Ts) (href : (T k).1 = ref) (hv : fs[k]? = some v) (hq : pc + 3 = q) (kk : zG p l e R s m args below meth c D cy A nL cells slots Q Z S (q) lv (v :: st)) : zG p l e R s m args below meth c D cy A nL cells slots Q Z S (pc) lv (.ref a :: st) := by
  subst hq
  subst href
  intro H locs ls hP hD hS hl
  obtain ⟨j, hj⟩ := zget ha.1 hF
  exact va_get (D := D) (cl := vwCl) C0.1.1 C0.1.2.1 C0.1.2.2.2.2 hin C0.1.2.2.2.1 C0.2.1.1 hP j hj hc k hk (C0.1.2.2.2.2 _ hlink) (fun _ h => h) hv hdg (kk H locs ls hP hD hS hl)
theorem zg_put (C0 : zC p s m args meth c cc nL Ts own D cy A rt) {Z' : zZ} {S' : zS} {a ci N k index : Nat} {Cn ref : String} {T : u_T} {fs : List Value} {v : Value} {ty0 : Nat → FieldType} (hdg : decode cc pc = .ok (.putfield index, 3)) (ha : zk Z a ci) (hF : zF cy Z S a = .inr (ci, fs)) (hc : vwCl[ci]? = some (Cn, T, N)) (hk : k < N) (hin : ∀ w ∈ u_ws Cn T N, w ∈ Ts) (hty : ∀ k, k < N → parseFieldDescriptor (T k).2.2.1 = some (ty0 k)) (hnm : ∀ a, a < N → ∀ b, b < N → a ≠ b → (T a).2.1 ≠ (T b).2.1) (hlink : Cond.fieldLink own index ref (T k).2.1 (T k).2.2.1 ∈ Ts) (href : (T k).1 = ref) (hfin : (T k).2.2.2 = false ∨ ((T k).2.2.2 = true ∧ meth.name = "<init>" ∧ (T k).1 = own)) (hn : narrow (ty0 k) v = v) (hfit : fits (ty0 k) v = true) (hl2 : k < fs.length) (hL : zL Z' = zL Z) (he : zF cy Z' S' a = .inr (ci, fs.set k v)) (hoff : ∀ b, b ≠ a → zF cy Z' S' b = zF cy Z S b) (hq : pc + 3 = q) (kk : zG p l e R s m args below meth c D cy A nL cells slots Q Z' S' (q) lv (st)) : zG p l e R s m args below meth c D cy A nL cells slots Q Z S (pc) lv (v :: .ref a :: st) := by
  subst hq
  subst href
  intro H locs ls hP hD hS hl
  obtain ⟨j, hj⟩ := zget ha.1 hF
  have hset := zset hD ha.1 hF hj hL he hoff
  rcases hfin with hfin | ⟨hfin, h1, h2⟩
  · exact va_put (D := D) (cl := vwCl) C0.1.1 C0.1.2.1 C0.1.2.2.2.2 hin ty0 hty hnm C0.1.2.2.2.1 C0.2.1.1 hP hD hS j hj hc k hk (C0.1.2.2.2.2 _ hlink) (fun _ h => h) hfin (hty k hk) hn hfit hl2 hdg (fun H1 locs1 hP1 hD1 hS1 => kk H1 locs1 ls (hset ▸ hP1) (hset ▸ hD1) hS1 hl)
  · exact va_putF (D := D) (cl := vwCl) C0.1.1 C0.1.2.1 C0.1.2.2.2.2 hin ty0 hty hnm C0.1.2.2.2.1 C0.2.1.1 hP hD hS j hj hc k hk (C0.1.2.2.2.2 _ hlink) (fun _ h => h) hfin h1 h2 (hty k hk) hn hfit hl2 hdg (fun H1 locs1 hP1 hD1 hS1 => kk H1 locs1 ls (hset ▸ hP1) (hset ▸ hD1) hS1 hl)
theorem zg_iald (C0 : zC p s m args meth c cc nL Ts own D cy A rt) {a : Nat} {i : Int32} (hdg : decode cc pc = .ok (.iaload, 1)) (ha : zk Z a 8) (hi : vp_in i (zN Z a)) (hq : pc + 1 = q) (kk : zG p l e R s m args below meth c D cy A nL cells slots Q Z S (q) lv (.int (zI S a i.toNatClampNeg) :: st)) : zG p l e R s m args below meth c D cy A nL cells slots Q Z S (pc) lv (.int i :: .ref a :: st) := by
  subst hq
  intro H locs ls hP hD hS hl
  obtain ⟨j, hj⟩ := zget ha.1 (zF_8 cy ha)
  exact va_iald (D := D) (cl := vwCl) C0.1.1 C0.1.2.1 C0.2.1.1 hP j 0 hj rfl hi hdg (kk H locs ls hP hD hS hl)
theorem zg_zald (C0 : zC p s m args meth c cc nL Ts own D cy A rt) {a : Nat} {i : Int32} (hdg : decode cc pc = .ok (.baload, 1)) (ha : zk Z a 10) (hi : vp_in i (zN Z a)) (hq : pc + 1 = q) (kk : zG p l e R s m args below meth c D cy A nL cells slots Q Z S (q) lv (.int (zI S a i.toNatClampNeg) :: st)) : zG p l e R s m args below meth c D cy A nL cells slots Q Z S (pc) lv (.int i :: .ref a :: st) := by
  subst hq
  intro H locs ls hP hD hS hl
  obtain ⟨j, hj⟩ := zget ha.1 (zF_10 cy ha)
  exact va_zald (D := D) (cl := vwCl) C0.1.1 C0.1.2.1 C0.2.1.1 hP j 2 hj rfl hi hdg (kk H locs ls hP hD hS hl)
theorem zg_lald (C0 : zC p s m args meth c cc nL Ts own D cy A rt) {a : Nat} {i : Int32} (hdg : decode cc pc = .ok (.laload, 1)) (ha : zk Z a 9) (hi : vp_in i (zN Z a)) (hq : pc + 1 = q) (kk : zG p l e R s m args below meth c D cy A nL cells slots Q Z S (q) lv (.long (zJ S a i.toNatClampNeg) :: st)) : zG p l e R s m args below meth c D cy A nL cells slots Q Z S (pc) lv (.int i :: .ref a :: st) := by
  subst hq
  intro H locs ls hP hD hS hl
  obtain ⟨j, hj⟩ := zget ha.1 (zF_9 cy ha)
  exact va_lald (D := D) (cl := vwCl) C0.1.1 C0.1.2.1 C0.2.1.1 hP j 1 hj rfl hi hdg (kk H locs ls hP hD hS hl)
theorem zg_aald_11 (C0 : zC p s m args meth c cc nL Ts own D cy A rt) {a : Nat} {i : Int32} (hdg : decode cc pc = .ok (.aaload, 1)) (ha : zk Z a 11) (hi : vp_in i (zN Z a)) (hq : pc + 1 = q) (kk : zG p l e R s m args below meth c D cy A nL cells slots Q Z S (q) lv (va_rf (zR S a i.toNatClampNeg) :: st)) : zG p l e R s m args below meth c D cy A nL cells slots Q Z S (pc) lv (.int i :: .ref a :: st) := by
  subst hq
  intro H locs ls hP hD hS hl
  obtain ⟨j, hj⟩ := zget ha.1 (zF_11 cy ha)
  exact va_aldq (D := D) (cl := vwCl) C0.1.1 C0.1.2.1 C0.2.1.1 hP j 3 hj rfl hi hdg (kk H locs ls hP hD hS hl)
theorem zg_aald_12 (C0 : zC p s m args meth c cc nL Ts own D cy A rt) {a : Nat} {i : Int32} (hdg : decode cc pc = .ok (.aaload, 1)) (ha : zk Z a 12) (hi : vp_in i (zN Z a)) (hq : pc + 1 = q) (kk : zG p l e R s m args below meth c D cy A nL cells slots Q Z S (q) lv (va_rf (zQ Z a i.toNatClampNeg) :: st)) : zG p l e R s m args below meth c D cy A nL cells slots Q Z S (pc) lv (.int i :: .ref a :: st) := by
  subst hq
  intro H locs ls hP hD hS hl
  obtain ⟨j, hj⟩ := zget ha.1 (zF_12 cy ha)
  exact va_aldq (D := D) (cl := vwCl) C0.1.1 C0.1.2.1 C0.2.1.1 hP j 4 hj rfl hi hdg (kk H locs ls hP hD hS hl)
theorem zg_aald_13 (C0 : zC p s m args meth c cc nL Ts own D cy A rt) {a : Nat} {i : Int32} (hdg : decode cc pc = .ok (.aaload, 1)) (ha : zk Z a 13) (hi : vp_in i (zN Z a)) (hq : pc + 1 = q) (kk : zG p l e R s m args below meth c D cy A nL cells slots Q Z S (q) lv (va_rf (zQ Z a i.toNatClampNeg) :: st)) : zG p l e R s m args below meth c D cy A nL cells slots Q Z S (pc) lv (.int i :: .ref a :: st) := by
  subst hq
  intro H locs ls hP hD hS hl
  obtain ⟨j, hj⟩ := zget ha.1 (zF_13 cy ha)
  exact va_aldq (D := D) (cl := vwCl) C0.1.1 C0.1.2.1 C0.2.1.1 hP j 5 hj rfl hi hdg (kk H locs ls hP hD hS hl)
theorem zg_alen_8 (C0 : zC p s m args meth c cc nL Ts own D cy A rt) {a : Nat} (hdg : decode cc pc = .ok (.arraylength, 1)) (ha : zk Z a 8) (hq : pc + 1 = q) (kk : zG p l e R s m args below meth c D cy A nL cells slots Q Z S (q) lv (.int (nI (zN Z a)) :: st)) : zG p l e R s m args below meth c D cy A nL cells slots Q Z S (pc) lv (.ref a :: st) := by
  subst hq
  intro H locs ls hP hD hS hl
  obtain ⟨j, hj⟩ := zget ha.1 (zF_8 cy ha)
  exact va_alen (D := D) (cl := vwCl) C0.1.1 C0.1.2.1 C0.2.1.1 hP j 0 hj rfl rfl hdg (kk H locs ls hP hD hS hl)
theorem zg_alen_9 (C0 : zC p s m args meth c cc nL Ts own D cy A rt) {a : Nat} (hdg : decode cc pc = .ok (.arraylength, 1)) (ha : zk Z a 9) (hq : pc + 1 = q) (kk : zG p l e R s m args below meth c D cy A nL cells slots Q Z S (q) lv (.int (nI (zN Z a)) :: st)) : zG p l e R s m args below meth c D cy A nL cells slots Q Z S (pc) lv (.ref a :: st) := by
  subst hq
  intro H locs ls hP hD hS hl
  obtain ⟨j, hj⟩ := zget ha.1 (zF_9 cy ha)
  exact va_alen (D := D) (cl := vwCl) C0.1.1 C0.1.2.1 C0.2.1.1 hP j 1 hj rfl rfl hdg (kk H locs ls hP hD hS hl)
theorem zg_alen_10 (C0 : zC p s m args meth c cc nL Ts own D cy A rt) {a : Nat} (hdg : decode cc pc = .ok (.arraylength, 1)) (ha : zk Z a 10) (hq : pc + 1 = q) (kk : zG p l e R s m args below meth c D cy A nL cells slots Q Z S (q) lv (.int (nI (zN Z a)) :: st)) : zG p l e R s m args below meth c D cy A nL cells slots Q Z S (pc) lv (.ref a :: st) := by
  subst hq
  intro H locs ls hP hD hS hl
  obtain ⟨j, hj⟩ := zget ha.1 (zF_10 cy ha)
  exact va_alen (D := D) (cl := vwCl) C0.1.1 C0.1.2.1 C0.2.1.1 hP j 2 hj rfl rfl hdg (kk H locs ls hP hD hS hl)
theorem zg_alen_11 (C0 : zC p s m args meth c cc nL Ts own D cy A rt) {a : Nat} (hdg : decode cc pc = .ok (.arraylength, 1)) (ha : zk Z a 11) (hq : pc + 1 = q) (kk : zG p l e R s m args below meth c D cy A nL cells slots Q Z S (q) lv (.int (nI (zN Z a)) :: st)) : zG p l e R s m args below meth c D cy A nL cells slots Q Z S (pc) lv (.ref a :: st) := by
  subst hq
  intro H locs ls hP hD hS hl
  obtain ⟨j, hj⟩ := zget ha.1 (zF_11 cy ha)
  exact va_alen (D := D) (cl := vwCl) C0.1.1 C0.1.2.1 C0.2.1.1 hP j 3 hj rfl rfl hdg (kk H locs ls hP hD hS hl)
theorem zg_alen_12 (C0 : zC p s m args meth c cc nL Ts own D cy A rt) {a : Nat} (hdg : decode cc pc = .ok (.arraylength, 1)) (ha : zk Z a 12) (hq : pc + 1 = q) (kk : zG p l e R s m args below meth c D cy A nL cells slots Q Z S (q) lv (.int (nI (zN Z a)) :: st)) : zG p l e R s m args below meth c D cy A nL cells slots Q Z S (pc) lv (.ref a :: st) := by
  subst hq
  intro H locs ls hP hD hS hl
  obtain ⟨j, hj⟩ := zget ha.1 (zF_12 cy ha)
  exact va_alen (D := D) (cl := vwCl) C0.1.1 C0.1.2.1 C0.2.1.1 hP j 4 hj rfl rfl hdg (kk H locs ls hP hD hS hl)
theorem zg_alen_13 (C0 : zC p s m args meth c cc nL Ts own D cy A rt) {a : Nat} (hdg : decode cc pc = .ok (.arraylength, 1)) (ha : zk Z a 13) (hq : pc + 1 = q) (kk : zG p l e R s m args below meth c D cy A nL cells slots Q Z S (q) lv (.int (nI (zN Z a)) :: st)) : zG p l e R s m args below meth c D cy A nL cells slots Q Z S (pc) lv (.ref a :: st) := by
  subst hq
  intro H locs ls hP hD hS hl
  obtain ⟨j, hj⟩ := zget ha.1 (zF_13 cy ha)
  exact va_alen (D := D) (cl := vwCl) C0.1.1 C0.1.2.1 C0.2.1.1 hP j 5 hj rfl rfl hdg (kk H locs ls hP hD hS hl)
theorem zF_sI8 (cy : Nat → ClassId) {Z : zZ} {S : zS} {a : Nat} (h : zk Z a 8) (i : Nat) (v : Int32) : zF cy Z (zsI S a i v) a = .inl (cy 0, zN Z a, .inl (upd (zI S a) i v)) := by
  rw [zF_8 cy h]
  show _ = (Sum.inl (cy 0, zN Z a, Sum.inl _) : va_E)
  rw [show zI (zsI S a i v) a = upd (zI S a) i v from zu_eq (zI S) a i v]
theorem zF_sI10 (cy : Nat → ClassId) {Z : zZ} {S : zS} {a : Nat} (h : zk Z a 10) (i : Nat) (v : Int32) : zF cy Z (zsI S a i v) a = .inl (cy 2, zN Z a, .inl (upd (zI S a) i v)) := by
  rw [zF_10 cy h]
  rw [show zI (zsI S a i v) a = upd (zI S a) i v from zu_eq (zI S) a i v]
theorem zF_sJ9 (cy : Nat → ClassId) {Z : zZ} {S : zS} {a : Nat} (h : zk Z a 9) (i : Nat) (v : Int64) : zF cy Z (zsJ S a i v) a = .inl (cy 1, zN Z a, .inr (.inl (vp_updL (zJ S a) i v))) := by
  rw [zF_9 cy h]
  rw [show zJ (zsJ S a i v) a = vp_updL (zJ S a) i v from zu_eq (zJ S) a i v]
theorem zF_sR11 (cy : Nat → ClassId) {Z : zZ} {S : zS} {a : Nat} (h : zk Z a 11) (i : Nat) (v : Option Nat) : zF cy Z (zsR S a i v) a = .inl (cy 3, zN Z a, .inr (.inr (.inr (.inr (va_up (zR S a) i v))))) := by
  rw [zF_11 cy h]
  rw [show zR (zsR S a i v) a = va_up (zR S a) i v from zu_eq (zR S) a i v]
theorem zF_sQ12 (cy : Nat → ClassId) {Z : zZ} {S : zS} {a : Nat} (h : zk Z a 12) (i : Nat) (v : Option Nat) : zF cy (zsQ Z a i v) S a = .inl (cy 4, zN Z a, .inr (.inr (.inr (.inr (va_up (zQ Z a) i v))))) := by
  rw [zF_12 cy (show zk (zsQ Z a i v) a 12 from h)]
  rw [show zQ (zsQ Z a i v) a = va_up (zQ Z a) i v from zu_eq (zQ Z) a i v]
  rfl
theorem zF_sQ13 (cy : Nat → ClassId) {Z : zZ} {S : zS} {a : Nat} (h : zk Z a 13) (i : Nat) (v : Option Nat) : zF cy (zsQ Z a i v) S a = .inl (cy 5, zN Z a, .inr (.inr (.inr (.inr (va_up (zQ Z a) i v))))) := by
  rw [zF_13 cy (show zk (zsQ Z a i v) a 13 from h)]
  rw [show zQ (zsQ Z a i v) a = va_up (zQ Z a) i v from zu_eq (zQ Z) a i v]
  rfl
theorem zg_iast (C0 : zC p s m args meth c cc nL Ts own D cy A rt) {a : Nat} {i : Int32} {x : Int32} (hdg : decode cc pc = .ok (.iastore, 1)) (ha : zk Z a 8) (hi : vp_in i (zN Z a)) (hq : pc + 1 = q) (kk : ∀ S' : zS, S' = zsI S a i.toNatClampNeg (x) → zG p l e R s m args below meth c D cy A nL cells slots Q Z S' (q) lv (st)) : zG p l e R s m args below meth c D cy A nL cells slots Q Z S (pc) lv (.int x :: .int i :: .ref a :: st) := by
  subst hq
  intro H locs ls hP hD hS hl
  obtain ⟨j, hj⟩ := zget ha.1 (zF_8 cy ha)
  have hset := zset (S' := zsI S a i.toNatClampNeg x) hD ha.1 (zF_8 cy ha) hj rfl (zF_sI8 cy ha i.toNatClampNeg x) (zF_offI cy Z S a i.toNatClampNeg x)
  refine va_iast (D := D) (cl := vwCl) C0.1.1 C0.1.2.1 C0.2.1.1 hP hD hS j 0 hj rfl hi hdg (fun H1 locs1 hP1 hD1 hS1 => ?_)
  exact kk _ rfl H1 locs1 ls (hset ▸ hP1) (hset ▸ hD1) hS1 hl
theorem zg_last (C0 : zC p s m args meth c cc nL Ts own D cy A rt) {a : Nat} {i : Int32} {x : Int64} (hdg : decode cc pc = .ok (.lastore, 1)) (ha : zk Z a 9) (hi : vp_in i (zN Z a)) (hq : pc + 1 = q) (kk : ∀ S' : zS, S' = zsJ S a i.toNatClampNeg (x) → zG p l e R s m args below meth c D cy A nL cells slots Q Z S' (q) lv (st)) : zG p l e R s m args below meth c D cy A nL cells slots Q Z S (pc) lv (.long x :: .int i :: .ref a :: st) := by
  subst hq
  intro H locs ls hP hD hS hl
  obtain ⟨j, hj⟩ := zget ha.1 (zF_9 cy ha)
  have hset := zset (S' := zsJ S a i.toNatClampNeg x) hD ha.1 (zF_9 cy ha) hj rfl (zF_sJ9 cy ha i.toNatClampNeg x) (zF_offJ cy Z S a i.toNatClampNeg x)
  refine va_last (D := D) (cl := vwCl) C0.1.1 C0.1.2.1 C0.2.1.1 hP hD hS j 1 hj rfl hi hdg (fun H1 locs1 hP1 hD1 hS1 => ?_)
  exact kk _ rfl H1 locs1 ls (hset ▸ hP1) (hset ▸ hD1) hS1 hl
theorem zg_zast (C0 : zC p s m args meth c cc nL Ts own D cy A rt) {a : Nat} {i : Int32} {x : Int32} (hdg : decode cc pc = .ok (.bastore, 1)) (ha : zk Z a 10) (hi : vp_in i (zN Z a)) (hx : vp_nar .boolean x = x) (hq : pc + 1 = q) (kk : ∀ S' : zS, S' = zsI S a i.toNatClampNeg (x) → zG p l e R s m args below meth c D cy A nL cells slots Q Z S' (q) lv (st)) : zG p l e R s m args below meth c D cy A nL cells slots Q Z S (pc) lv (.int x :: .int i :: .ref a :: st) := by
  subst hq
  intro H locs ls hP hD hS hl
  obtain ⟨j, hj⟩ := zget ha.1 (zF_10 cy ha)
  have hset := zset (S' := zsI S a i.toNatClampNeg x) hD ha.1 (zF_10 cy ha) hj rfl (zF_sI10 cy ha i.toNatClampNeg x) (zF_offI cy Z S a i.toNatClampNeg x)
  refine va_zast (D := D) (cl := vwCl) C0.1.1 C0.1.2.1 C0.2.1.1 hP hD hS j 2 hj rfl hi hdg (fun H1 locs1 hP1 hD1 hS1 => ?_)
  rw [hx] at hP1 hD1
  exact kk _ rfl H1 locs1 ls (hset ▸ hP1) (hset ▸ hD1) hS1 hl
theorem zg_aast_11 (C0 : zC p s m args meth c cc nL Ts own D cy A rt) {a v : Nat} {i : Int32} (hdg : decode cc pc = .ok (.aastore, 1)) (ha : zk Z a 11) (hv : zk Z v 1) (hi : vp_in i (zN Z a)) (hq : pc + 1 = q) (kk : ∀ S' : zS, S' = zsR S a i.toNatClampNeg (some v) → zG p l e R s m args below meth c D cy A nL cells slots Q Z S' (q) lv (st)) : zG p l e R s m args below meth c D cy A nL cells slots Q Z S (pc) lv (.ref v :: .int i :: .ref a :: st) := by
  subst hq
  intro H locs ls hP hD hS hl
  obtain ⟨j, hj⟩ := zget ha.1 (zF_11 cy ha)
  obtain ⟨j2, hj2⟩ := zget hv.1 (zF_1 cy hv)
  have hset := zset (S' := zsR S a i.toNatClampNeg (some v)) hD ha.1 (zF_11 cy ha) hj rfl (zF_sR11 cy ha i.toNatClampNeg (some v)) (zF_offR cy Z S a i.toNatClampNeg (some v))
  exact va_astq (D := D) (cl := vwCl) C0.1.1 C0.1.2.1 C0.2.1.1 hP hD hS j 3 j2 1 (r := (RX1, TX1, 4)) hj rfl hj2 rfl hi hdg (fun H1 locs1 hP1 hD1 hS1 => kk _ rfl H1 locs1 ls (hset ▸ hP1) (hset ▸ hD1) hS1 hl)
theorem zg_aastN_11 (C0 : zC p s m args meth c cc nL Ts own D cy A rt) {a : Nat} {i : Int32} (hdg : decode cc pc = .ok (.aastore, 1)) (ha : zk Z a 11) (hi : vp_in i (zN Z a)) (hq : pc + 1 = q) (kk : ∀ S' : zS, S' = zsR S a i.toNatClampNeg (none) → zG p l e R s m args below meth c D cy A nL cells slots Q Z S' (q) lv (st)) : zG p l e R s m args below meth c D cy A nL cells slots Q Z S (pc) lv (.null :: .int i :: .ref a :: st) := by
  subst hq
  intro H locs ls hP hD hS hl
  obtain ⟨j, hj⟩ := zget ha.1 (zF_11 cy ha)
  have hset := zset (S' := zsR S a i.toNatClampNeg (none)) hD ha.1 (zF_11 cy ha) hj rfl (zF_sR11 cy ha i.toNatClampNeg (none)) (zF_offR cy Z S a i.toNatClampNeg (none))
  exact va_astqN (D := D) (cl := vwCl) C0.1.1 C0.1.2.1 C0.2.1.1 hP hD hS j 3 hj rfl hi hdg (fun H1 locs1 hP1 hD1 hS1 => kk _ rfl H1 locs1 ls (hset ▸ hP1) (hset ▸ hD1) hS1 hl)
theorem zg_aast_12 (C0 : zC p s m args meth c cc nL Ts own D cy A rt) {a v : Nat} {i : Int32} (hdg : decode cc pc = .ok (.aastore, 1)) (ha : zk Z a 12) (hv : zk Z v 2) (hi : vp_in i (zN Z a)) (hq : pc + 1 = q) (kk : ∀ Z' : zZ, Z' = zsQ Z a i.toNatClampNeg (some v) → zG p l e R s m args below meth c D cy A nL cells slots Q Z' S (q) lv (st)) : zG p l e R s m args below meth c D cy A nL cells slots Q Z S (pc) lv (.ref v :: .int i :: .ref a :: st) := by
  subst hq
  intro H locs ls hP hD hS hl
  obtain ⟨j, hj⟩ := zget ha.1 (zF_12 cy ha)
  obtain ⟨j2, hj2⟩ := zget hv.1 (zF_2 cy hv)
  have hset := zset (Z' := zsQ Z a i.toNatClampNeg (some v)) hD ha.1 (zF_12 cy ha) hj rfl (zF_sQ12 cy ha i.toNatClampNeg (some v)) (zF_offQ cy Z S a i.toNatClampNeg (some v))
  exact va_astq (D := D) (cl := vwCl) C0.1.1 C0.1.2.1 C0.2.1.1 hP hD hS j 4 j2 2 (r := (RX2, TX2, 13)) hj rfl hj2 rfl hi hdg (fun H1 locs1 hP1 hD1 hS1 => kk _ rfl H1 locs1 ls (hset ▸ hP1) (hset ▸ hD1) hS1 hl)
theorem zg_aastN_12 (C0 : zC p s m args meth c cc nL Ts own D cy A rt) {a : Nat} {i : Int32} (hdg : decode cc pc = .ok (.aastore, 1)) (ha : zk Z a 12) (hi : vp_in i (zN Z a)) (hq : pc + 1 = q) (kk : ∀ Z' : zZ, Z' = zsQ Z a i.toNatClampNeg (none) → zG p l e R s m args below meth c D cy A nL cells slots Q Z' S (q) lv (st)) : zG p l e R s m args below meth c D cy A nL cells slots Q Z S (pc) lv (.null :: .int i :: .ref a :: st) := by
  subst hq
  intro H locs ls hP hD hS hl
  obtain ⟨j, hj⟩ := zget ha.1 (zF_12 cy ha)
  have hset := zset (Z' := zsQ Z a i.toNatClampNeg (none)) hD ha.1 (zF_12 cy ha) hj rfl (zF_sQ12 cy ha i.toNatClampNeg (none)) (zF_offQ cy Z S a i.toNatClampNeg (none))
  exact va_astqN (D := D) (cl := vwCl) C0.1.1 C0.1.2.1 C0.2.1.1 hP hD hS j 4 hj rfl hi hdg (fun H1 locs1 hP1 hD1 hS1 => kk _ rfl H1 locs1 ls (hset ▸ hP1) (hset ▸ hD1) hS1 hl)
theorem zg_aast_13 (C0 : zC p s m args meth c cc nL Ts own D cy A rt) {a v : Nat} {i : Int32} (hdg : decode cc pc = .ok (.aastore, 1)) (ha : zk Z a 13) (hv : zk Z v 5) (hi : vp_in i (zN Z a)) (hq : pc + 1 = q) (kk : ∀ Z' : zZ, Z' = zsQ Z a i.toNatClampNeg (some v) → zG p l e R s m args below meth c D cy A nL cells slots Q Z' S (q) lv (st)) : zG p l e R s m args below meth c D cy A nL cells slots Q Z S (pc) lv (.ref v :: .int i :: .ref a :: st) := by
  subst hq
  intro H locs ls hP hD hS hl
  obtain ⟨j, hj⟩ := zget ha.1 (zF_13 cy ha)
  obtain ⟨j2, hj2⟩ := zget hv.1 (zF_5 cy hv)
  have hset := zset (Z' := zsQ Z a i.toNatClampNeg (some v)) hD ha.1 (zF_13 cy ha) hj rfl (zF_sQ13 cy ha i.toNatClampNeg (some v)) (zF_offQ cy Z S a i.toNatClampNeg (some v))
  exact va_astq (D := D) (cl := vwCl) C0.1.1 C0.1.2.1 C0.2.1.1 hP hD hS j 5 j2 5 (r := (RX5, TX5, 6)) hj rfl hj2 rfl hi hdg (fun H1 locs1 hP1 hD1 hS1 => kk _ rfl H1 locs1 ls (hset ▸ hP1) (hset ▸ hD1) hS1 hl)
theorem zg_aastN_13 (C0 : zC p s m args meth c cc nL Ts own D cy A rt) {a : Nat} {i : Int32} (hdg : decode cc pc = .ok (.aastore, 1)) (ha : zk Z a 13) (hi : vp_in i (zN Z a)) (hq : pc + 1 = q) (kk : ∀ Z' : zZ, Z' = zsQ Z a i.toNatClampNeg (none) → zG p l e R s m args below meth c D cy A nL cells slots Q Z' S (q) lv (st)) : zG p l e R s m args below meth c D cy A nL cells slots Q Z S (pc) lv (.null :: .int i :: .ref a :: st) := by
  subst hq
  intro H locs ls hP hD hS hl
  obtain ⟨j, hj⟩ := zget ha.1 (zF_13 cy ha)
  have hset := zset (Z' := zsQ Z a i.toNatClampNeg (none)) hD ha.1 (zF_13 cy ha) hj rfl (zF_sQ13 cy ha i.toNatClampNeg (none)) (zF_offQ cy Z S a i.toNatClampNeg (none))
  exact va_astqN (D := D) (cl := vwCl) C0.1.1 C0.1.2.1 C0.2.1.1 hP hD hS j 5 hj rfl hi hdg (fun H1 locs1 hP1 hD1 hS1 => kk _ rfl H1 locs1 ls (hset ▸ hP1) (hset ▸ hD1) hS1 hl)
theorem zA_sub (hA : ∀ q : Nat, s.heap.size ≤ q → A q) {H : Heap} {locs : List Loc} (hD : va_D A (zW cy Z S)) (hS : va_S A s.heap H locs) : ∀ q, zA cy Z S H.size q → A q := by
  intro q h
  rcases h with ⟨k, x, hk⟩ | h
  · exact hD.2 k (q, x) hk
  · exact hA q (Nat.le_trans hS.1 h)
def zMv (l : Launch) (y : MethodName) (ws : List Cond) (rm : Room) (D : va_G) (cy : Nat → ClassId) (Z : zZ) (S : zS) (sz : Nat) (av : List Value) (Qp : zS → Prop) : Prop := Met l y ws rm (zPc D cy Z S sz av) (va_Qv Qp (zB D cy (zA cy Z S sz) Z) (zA cy Z S sz)) rm.cells rm.slots (zA cy Z S sz)
abbrev zQv (below : List Frame) (D : va_G) (cy : Nat → ClassId) (A : Nat → Prop) (Z : zZ) (Qp : zS → Prop) (args : Array Value) (s : State) (mc ms : Nat) : State → Prop := MQ below (va_Qv Qp (zB D cy A Z) A) args s mc ms A
theorem zMv_of {y : MethodName} {ws ws' : List Cond} {rm : Room} {sz maxL : Nat} {av : List Value} {Qp : zS → Prop} (hy : plainName y.cls = true) (hw : ws = Cond.code y cc maxL rt :: ws') (hlen : (lg_sl av).length ≤ maxL)
    (body : ∀ (p : Program) (e : Env) (s : State) (m : MethodId) (args : Array Value) (below : List Frame) (meth : Method) (c : Code) (A : Nat → Prop), zC p s m args meth c cc maxL ws y.cls D cy A rt → meth.name = y.name → zG p l e (headSpec ws rm).room s m args below meth c D cy A maxL 0 0 (zQv below D cy A Z Qp args s rm.cells rm.slots) Z S 0 (lv_args 0 av) []) : zMv l y ws rm D cy Z S sz av Qp := by
  refine Met.ofW (cc := cc) (maxL := maxL) (ret := rt) hy hw ?_
  intro p e s m args below meth c s₁ B hml hv
  obtain ⟨rfl, hsz, hP, hD0, hV⟩ := hv
  subst hsz
  have hts := atoms_spec (ws := ws) B.pre
  have hown : s.vm.findClass y.cls = some m.cls := findClass_of_methodNamed B.named
  have hl := lv_entry av (n := maxL) hlen
  rw [lg_entry_eq]
  exact body p e s m av.toArray below meth c (zA cy Z S s.heap.size) ⟨⟨B.exec, B.bytes, hml, hown, hts⟩, hV, fun q h => Or.inr h, B.returns, B.notSynchronized⟩ (name_of_methodNamed B.named B.method).1 s.heap [] _ hP hD0.self va_S.rf hl
theorem zg_callVv (C0 : zC p s m args meth c cc nL Ts own D cy A rt) {Cn : String} {T : u_T} {N ci : Nat} {fs : List Value} {b : Nat} {ret : Option FieldType} {index maxL : Nat} {y : MethodName} {bytes : ByteArray} {ws ws' : List Cond} {rm : Room} (As rest : List Value) {Qp : zS → Prop} (hdg : decode cc pc = .ok (.invokevirtual index, 3)) (hM : ∀ sz, zMv l y ws rm D cy Z S sz (.ref b :: As) Qp) (hw : ws = Cond.code y bytes maxL ret :: ws') (hG : GoodIn Ts (wsV own index Cn y ws)) (hd : y.cls = Cn ∧ y.cls ≠ "java/lang/invoke/MethodHandle" ∧ y.cls ≠ "java/lang/invoke/VarHandle" ∧ (parseMethodDescriptor y.desc).map (fun d => d.parameters.length) = some As.length) (hb : zk Z b ci) (hF : zF cy Z S b = .inr (ci, fs)) (hc : vwCl[ci]? = some (Cn, T, N)) (hst : st = As.reverse ++ .ref b :: rest) (hR : rm.frames + 1 ≤ R.frames ∧ 8 + (maxL + 11) + rm.locals ≤ R.locals) (hcat : (rest.map fun v => v.category).sum ≤ 8) (hfit : cells ≤ R.cells ∧ slots ≤ R.slots) (hro : rm.cells = 0 ∧ rm.slots = 0) (hq : pc + 3 = q)
    (kk : ∀ τ, Qp τ → zG p l e R s m args below meth c D cy A nL cells slots Q Z τ (q) lv (rest)) : zG p l e R s m args below meth c D cy A nL cells slots Q Z S (pc) lv (st) := by
  subst hq
  intro H locs ls hP hD hS hl
  obtain ⟨j, hj⟩ := zget hb.1 hF
  have hA1 : ∀ q, zA cy Z S H.size q → A q := zA_sub C0.2.2.1 hD hS
  refine va_callv (va_runV (As := As) (rest := rest) C0.1 (hM H.size) (cwV As.length C0.1.2.2.2.2 hG hw rfl rfl hd hR) ⟨zPc_blind, va_recv C0.2.1.1 hP hc hj, fun U hU hW => ⟨rfl, by rw [hU], by rw [hU]; exact hP, hD.weaken (fun _ _ _ _ => trivial), C0.2.1.call hS hA1 hU hW⟩⟩ rfl rfl hl.1 hst (lv_room hcat) hdg ⟨by rw [hro.1]; exact hfit.1, by rw [hro.2]; exact hfit.2⟩) hS (fun q _ h => hA1 q h) hA1 (fun u t H1 locs1 ht hvm hw hB hz1 hk1 hS1 => ?_)
  subst ht
  rw [hro.1, hro.2]
  exact kk u hw _ locs1 ls hB.1 (hB.2.weaken (fun k x hk h => hA1 x.1 h)) hS1 hl
theorem zg_callSv (C0 : zC p s m args meth c cc nL Ts own D cy A rt) {ret : Option FieldType} {index maxL : Nat} {y : MethodName} {bytes : ByteArray} {ws ws' : List Cond} {rm : Room} (As rest : List Value) {Qp : zS → Prop} (hdg : decode cc pc = .ok (.invokestatic index, 3)) (hM : ∀ sz, zMv l y ws rm D cy Z S sz (As) Qp) (hw : ws = Cond.code y bytes maxL ret :: ws') (hG : GoodIn Ts (va_wsS own index y ws)) (hd : y.cls ≠ "java/lang/invoke/MethodHandle" ∧ y.cls ≠ "java/lang/invoke/VarHandle" ∧ (parseMethodDescriptor y.desc).map (fun d => d.parameters.length) = some As.length) (hst : st = As.reverse ++ rest) (hR : rm.frames + 1 ≤ R.frames ∧ 8 + (maxL + 11) + rm.locals ≤ R.locals) (hcat : (rest.map fun v => v.category).sum ≤ 8) (hfit : cells ≤ R.cells ∧ slots ≤ R.slots) (hro : rm.cells = 0 ∧ rm.slots = 0) (hq : pc + 3 = q)
    (kk : ∀ τ, Qp τ → zG p l e R s m args below meth c D cy A nL cells slots Q Z τ (q) lv (rest)) : zG p l e R s m args below meth c D cy A nL cells slots Q Z S (pc) lv (st) := by
  subst hq
  intro H locs ls hP hD hS hl
  have hA1 : ∀ q, zA cy Z S H.size q → A q := zA_sub C0.2.2.1 hD hS
  refine va_callv (va_runS (As := As) (rest := rest) C0.1 (hM H.size) (va_cwS As.length C0.1.2.2.2.2 hG hw rfl rfl hd hR) ⟨zPc_blind, fun U hU hW => ⟨rfl, by rw [hU], by rw [hU]; exact hP, hD.weaken (fun _ _ _ _ => trivial), C0.2.1.call hS hA1 hU hW⟩⟩ rfl rfl hl.1 hst (lv_room hcat) hdg ⟨by rw [hro.1]; exact hfit.1, by rw [hro.2]; exact hfit.2⟩) hS (fun q _ h => hA1 q h) hA1 (fun u t H1 locs1 ht hvm hw hB hz1 hk1 hS1 => ?_)
  subst ht
  rw [hro.1, hro.2]
  exact kk u hw _ locs1 ls hB.1 (hB.2.weaken (fun k x hk h => hA1 x.1 h)) hS1 hl
theorem zg_callSNv (C0 : zC p s m args meth c cc nL Ts own D cy A rt) {host : String} {ret : Option FieldType} {index maxL : Nat} {y : MethodName} {bytes : ByteArray} {ws ws' : List Cond} {rm : Room} (As rest : List Value) {Qp : zS → Prop} (hdg : decode cc pc = .ok (.invokestatic index, 3)) (hM : ∀ sz, zMv l y ws rm D cy Z S sz (As) Qp) (hw : ws = Cond.code y bytes maxL ret :: ws') (hG : GoodIn Ts ws) (hd : y.cls ≠ "java/lang/invoke/MethodHandle" ∧ y.cls ≠ "java/lang/invoke/VarHandle" ∧ (parseMethodDescriptor y.desc).map (fun d => d.parameters.length) = some As.length) (hnest : Cond.methodLinkNest own index y host ∈ zBw) (hini : Cond.initialized y.cls ∈ Ts) (hsta : Cond.static y ∈ Ts) (hst : st = As.reverse ++ rest) (hR : rm.frames + 1 ≤ R.frames ∧ 8 + (maxL + 11) + rm.locals ≤ R.locals) (hcat : (rest.map fun v => v.category).sum ≤ 8) (hfit : cells ≤ R.cells ∧ slots ≤ R.slots) (hro : rm.cells = 0 ∧ rm.slots = 0) (hq : pc + 3 = q)
    (kk : ∀ τ, Qp τ → zG p l e R s m args below meth c D cy A nL cells slots Q Z τ (q) lv (rest)) : zG p l e R s m args below meth c D cy A nL cells slots Q Z S (pc) lv (st) := by
  subst hq
  intro H locs ls hP hD hS hl
  have hA1 : ∀ q, zA cy Z S H.size q → A q := zA_sub C0.2.2.1 hD hS
  refine va_callv (va_runSN (As := As) (rest := rest) C0.1 (hM H.size) (⟨va_cnB As.length C0.1.2.2.2.2 hG hw rfl rfl (C0.2.1.2.1 _ hnest) (C0.1.2.2.2.2 _ hini) hd hR, C0.1.2.2.2.2 _ hsta, trivial⟩) ⟨zPc_blind, fun U hU hW => ⟨rfl, by rw [hU], by rw [hU]; exact hP, hD.weaken (fun _ _ _ _ => trivial), C0.2.1.call hS hA1 hU hW⟩⟩ rfl rfl hl.1 hst (lv_room hcat) hdg ⟨by rw [hro.1]; exact hfit.1, by rw [hro.2]; exact hfit.2⟩) hS (fun q _ h => hA1 q h) hA1 (fun u t H1 locs1 ht hvm hw hB hz1 hk1 hS1 => ?_)
  subst ht
  rw [hro.1, hro.2]
  exact kk u hw _ locs1 ls hB.1 (hB.2.weaken (fun k x hk h => hA1 x.1 h)) hS1 hl
theorem zg_callIv (C0 : zC p s m args meth c cc nL Ts own D cy A rt) {b : Nat} {index maxL : Nat} {y : MethodName} {bytes : ByteArray} {ws ws' : List Cond} {rm : Room} (As rest : List Value) {Qp : zS → Prop} (hdg : decode cc pc = .ok (.invokespecial index, 3)) (hM : ∀ sz, zMv l y ws rm D cy Z S sz (.ref b :: As) Qp) (hw : ws = Cond.code y bytes maxL none :: ws') (hG : GoodIn Ts ws) (hd : y.cls ≠ "java/lang/invoke/MethodHandle" ∧ y.cls ≠ "java/lang/invoke/VarHandle" ∧ (parseMethodDescriptor y.desc).map (fun d => d.parameters.length) = some As.length) (hini : Cond.initialized y.cls ∈ Ts) (hlk : Cond.methodLink own index y ∈ Ts) (hins : Cond.instanceMethod y ∈ Ts) (hyn : y.name = "<init>") (hst : st = As.reverse ++ .ref b :: rest) (hR : rm.frames + 1 ≤ R.frames ∧ 8 + (maxL + 11) + rm.locals ≤ R.locals) (hcat : (rest.map fun v => v.category).sum ≤ 8) (hfit : cells ≤ R.cells ∧ slots ≤ R.slots) (hro : rm.cells = 0 ∧ rm.slots = 0) (hq : pc + 3 = q)
    (kk : ∀ τ, Qp τ → zG p l e R s m args below meth c D cy A nL cells slots Q Z τ (q) lv (rest)) : zG p l e R s m args below meth c D cy A nL cells slots Q Z S (pc) lv (st) := by
  subst hq
  intro H locs ls hP hD hS hl
  have hA1 : ∀ q, zA cy Z S H.size q → A q := zA_sub C0.2.2.1 hD hS
  refine va_callv (va_runI (As := As) (rest := rest) C0.1 (hM H.size) (cwI As.length C0.1.2.2.2.2 hG hw rfl rfl (C0.1.2.2.2.2 _ hini) (C0.1.2.2.2.2 _ hlk) (C0.1.2.2.2.2 _ hins) hyn hd hR) ⟨zPc_blind, fun U hU hW => ⟨rfl, by rw [hU], by rw [hU]; exact hP, hD.weaken (fun _ _ _ _ => trivial), C0.2.1.call hS hA1 hU hW⟩⟩ rfl rfl hl.1 hst (lv_room hcat) hdg ⟨by rw [hro.1]; exact hfit.1, by rw [hro.2]; exact hfit.2⟩) hS (fun q _ h => hA1 q h) hA1 (fun u t H1 locs1 ht hvm hw hB hz1 hk1 hS1 => ?_)
  subst ht
  rw [hro.1, hro.2]
  exact kk u hw _ locs1 ls hB.1 (hB.2.weaken (fun k x hk h => hA1 x.1 h)) hS1 hl
theorem zg_callINv (C0 : zC p s m args meth c cc nL Ts own D cy A rt) {host : String} {b : Nat} {index maxL : Nat} {y : MethodName} {bytes : ByteArray} {ws ws' : List Cond} {rm : Room} (As rest : List Value) {Qp : zS → Prop} (hdg : decode cc pc = .ok (.invokespecial index, 3)) (hM : ∀ sz, zMv l y ws rm D cy Z S sz (.ref b :: As) Qp) (hw : ws = Cond.code y bytes maxL none :: ws') (hG : GoodIn Ts ws) (hd : y.cls ≠ "java/lang/invoke/MethodHandle" ∧ y.cls ≠ "java/lang/invoke/VarHandle" ∧ (parseMethodDescriptor y.desc).map (fun d => d.parameters.length) = some As.length) (hnest : Cond.methodLinkNest own index y host ∈ zBw) (hini : Cond.initialized y.cls ∈ Ts) (hins : Cond.instanceMethod y ∈ Ts) (hyn : y.name = "<init>") (hst : st = As.reverse ++ .ref b :: rest) (hR : rm.frames + 1 ≤ R.frames ∧ 8 + (maxL + 11) + rm.locals ≤ R.locals) (hcat : (rest.map fun v => v.category).sum ≤ 8) (hfit : cells ≤ R.cells ∧ slots ≤ R.slots) (hro : rm.cells = 0 ∧ rm.slots = 0) (hq : pc + 3 = q)
    (kk : ∀ τ, Qp τ → zG p l e R s m args below meth c D cy A nL cells slots Q Z τ (q) lv (rest)) : zG p l e R s m args below meth c D cy A nL cells slots Q Z S (pc) lv (st) := by
  subst hq
  intro H locs ls hP hD hS hl
  have hA1 : ∀ q, zA cy Z S H.size q → A q := zA_sub C0.2.2.1 hD hS
  refine va_callv (va_runIN (As := As) (rest := rest) C0.1 (hM H.size) (⟨va_cnB As.length C0.1.2.2.2.2 hG hw rfl rfl (C0.2.1.2.1 _ hnest) (C0.1.2.2.2.2 _ hini) hd hR, hyn, C0.1.2.2.2.2 _ hins⟩) ⟨zPc_blind, fun U hU hW => ⟨rfl, by rw [hU], by rw [hU]; exact hP, hD.weaken (fun _ _ _ _ => trivial), C0.2.1.call hS hA1 hU hW⟩⟩ rfl rfl hl.1 hst (lv_room hcat) hdg ⟨by rw [hro.1]; exact hfit.1, by rw [hro.2]; exact hfit.2⟩) hS (fun q _ h => hA1 q h) hA1 (fun u t H1 locs1 ht hvm hw hB hz1 hk1 hS1 => ?_)
  subst ht
  rw [hro.1, hro.2]
  exact kk u hw _ locs1 ls hB.1 (hB.2.weaken (fun k x hk h => hA1 x.1 h)) hS1 hl
def zMi (l : Launch) (y : MethodName) (ws : List Cond) (rm : Room) (D : va_G) (cy : Nat → ClassId) (Z : zZ) (S : zS) (sz : Nat) (av : List Value) (Qp : Int32 → zS → Prop) : Prop := Met l y ws rm (zPc D cy Z S sz av) (va_Qi Qp (zB D cy (zA cy Z S sz) Z) (zA cy Z S sz)) rm.cells rm.slots (zA cy Z S sz)
abbrev zQi (below : List Frame) (D : va_G) (cy : Nat → ClassId) (A : Nat → Prop) (Z : zZ) (Qp : Int32 → zS → Prop) (args : Array Value) (s : State) (mc ms : Nat) : State → Prop := MQ below (va_Qi Qp (zB D cy A Z) A) args s mc ms A
theorem zMi_of {y : MethodName} {ws ws' : List Cond} {rm : Room} {sz maxL : Nat} {av : List Value} {Qp : Int32 → zS → Prop} (hy : plainName y.cls = true) (hw : ws = Cond.code y cc maxL rt :: ws') (hlen : (lg_sl av).length ≤ maxL)
    (body : ∀ (p : Program) (e : Env) (s : State) (m : MethodId) (args : Array Value) (below : List Frame) (meth : Method) (c : Code) (A : Nat → Prop), zC p s m args meth c cc maxL ws y.cls D cy A rt → meth.name = y.name → zG p l e (headSpec ws rm).room s m args below meth c D cy A maxL 0 0 (zQi below D cy A Z Qp args s rm.cells rm.slots) Z S 0 (lv_args 0 av) []) : zMi l y ws rm D cy Z S sz av Qp := by
  refine Met.ofW (cc := cc) (maxL := maxL) (ret := rt) hy hw ?_
  intro p e s m args below meth c s₁ B hml hv
  obtain ⟨rfl, hsz, hP, hD0, hV⟩ := hv
  subst hsz
  have hts := atoms_spec (ws := ws) B.pre
  have hown : s.vm.findClass y.cls = some m.cls := findClass_of_methodNamed B.named
  have hl := lv_entry av (n := maxL) hlen
  rw [lg_entry_eq]
  exact body p e s m av.toArray below meth c (zA cy Z S s.heap.size) ⟨⟨B.exec, B.bytes, hml, hown, hts⟩, hV, fun q h => Or.inr h, B.returns, B.notSynchronized⟩ (name_of_methodNamed B.named B.method).1 s.heap [] _ hP hD0.self va_S.rf hl
theorem zg_callVi (C0 : zC p s m args meth c cc nL Ts own D cy A rt) {Cn : String} {T : u_T} {N ci : Nat} {fs : List Value} {b : Nat} {ret : Option FieldType} {index maxL : Nat} {y : MethodName} {bytes : ByteArray} {ws ws' : List Cond} {rm : Room} (As rest : List Value) {Qp : Int32 → zS → Prop} (hdg : decode cc pc = .ok (.invokevirtual index, 3)) (hM : ∀ sz, zMi l y ws rm D cy Z S sz (.ref b :: As) Qp) (hw : ws = Cond.code y bytes maxL ret :: ws') (hG : GoodIn Ts (wsV own index Cn y ws)) (hd : y.cls = Cn ∧ y.cls ≠ "java/lang/invoke/MethodHandle" ∧ y.cls ≠ "java/lang/invoke/VarHandle" ∧ (parseMethodDescriptor y.desc).map (fun d => d.parameters.length) = some As.length) (hb : zk Z b ci) (hF : zF cy Z S b = .inr (ci, fs)) (hc : vwCl[ci]? = some (Cn, T, N)) (hst : st = As.reverse ++ .ref b :: rest) (hR : rm.frames + 1 ≤ R.frames ∧ 8 + (maxL + 11) + rm.locals ≤ R.locals) (hcat : (rest.map fun v => v.category).sum ≤ 8) (hfit : cells ≤ R.cells ∧ slots ≤ R.slots) (hro : rm.cells = 0 ∧ rm.slots = 0) (hq : pc + 3 = q)
    (kk : ∀ r τ, Qp r τ → zG p l e R s m args below meth c D cy A nL cells slots Q Z τ (q) lv (.int r :: rest)) : zG p l e R s m args below meth c D cy A nL cells slots Q Z S (pc) lv (st) := by
  subst hq
  intro H locs ls hP hD hS hl
  obtain ⟨j, hj⟩ := zget hb.1 hF
  have hA1 : ∀ q, zA cy Z S H.size q → A q := zA_sub C0.2.2.1 hD hS
  refine va_calli (va_runV (As := As) (rest := rest) C0.1 (hM H.size) (cwV As.length C0.1.2.2.2.2 hG hw rfl rfl hd hR) ⟨zPc_blind, va_recv C0.2.1.1 hP hc hj, fun U hU hW => ⟨rfl, by rw [hU], by rw [hU]; exact hP, hD.weaken (fun _ _ _ _ => trivial), C0.2.1.call hS hA1 hU hW⟩⟩ rfl rfl hl.1 hst (lv_room hcat) hdg ⟨by rw [hro.1]; exact hfit.1, by rw [hro.2]; exact hfit.2⟩) hS (fun q _ h => hA1 q h) hA1 (fun r u t H1 locs1 ht hvm hw hB hz1 hk1 hS1 => ?_)
  subst ht
  rw [hro.1, hro.2]
  exact kk r u hw _ locs1 ls hB.1 (hB.2.weaken (fun k x hk h => hA1 x.1 h)) hS1 hl
theorem zg_callSi (C0 : zC p s m args meth c cc nL Ts own D cy A rt) {ret : Option FieldType} {index maxL : Nat} {y : MethodName} {bytes : ByteArray} {ws ws' : List Cond} {rm : Room} (As rest : List Value) {Qp : Int32 → zS → Prop} (hdg : decode cc pc = .ok (.invokestatic index, 3)) (hM : ∀ sz, zMi l y ws rm D cy Z S sz (As) Qp) (hw : ws = Cond.code y bytes maxL ret :: ws') (hG : GoodIn Ts (va_wsS own index y ws)) (hd : y.cls ≠ "java/lang/invoke/MethodHandle" ∧ y.cls ≠ "java/lang/invoke/VarHandle" ∧ (parseMethodDescriptor y.desc).map (fun d => d.parameters.length) = some As.length) (hst : st = As.reverse ++ rest) (hR : rm.frames + 1 ≤ R.frames ∧ 8 + (maxL + 11) + rm.locals ≤ R.locals) (hcat : (rest.map fun v => v.category).sum ≤ 8) (hfit : cells ≤ R.cells ∧ slots ≤ R.slots) (hro : rm.cells = 0 ∧ rm.slots = 0) (hq : pc + 3 = q)
    (kk : ∀ r τ, Qp r τ → zG p l e R s m args below meth c D cy A nL cells slots Q Z τ (q) lv (.int r :: rest)) : zG p l e R s m args below meth c D cy A nL cells slots Q Z S (pc) lv (st) := by
  subst hq
  intro H locs ls hP hD hS hl
  have hA1 : ∀ q, zA cy Z S H.size q → A q := zA_sub C0.2.2.1 hD hS
  refine va_calli (va_runS (As := As) (rest := rest) C0.1 (hM H.size) (va_cwS As.length C0.1.2.2.2.2 hG hw rfl rfl hd hR) ⟨zPc_blind, fun U hU hW => ⟨rfl, by rw [hU], by rw [hU]; exact hP, hD.weaken (fun _ _ _ _ => trivial), C0.2.1.call hS hA1 hU hW⟩⟩ rfl rfl hl.1 hst (lv_room hcat) hdg ⟨by rw [hro.1]; exact hfit.1, by rw [hro.2]; exact hfit.2⟩) hS (fun q _ h => hA1 q h) hA1 (fun r u t H1 locs1 ht hvm hw hB hz1 hk1 hS1 => ?_)
  subst ht
  rw [hro.1, hro.2]
  exact kk r u hw _ locs1 ls hB.1 (hB.2.weaken (fun k x hk h => hA1 x.1 h)) hS1 hl
theorem zg_callSNi (C0 : zC p s m args meth c cc nL Ts own D cy A rt) {host : String} {ret : Option FieldType} {index maxL : Nat} {y : MethodName} {bytes : ByteArray} {ws ws' : List Cond} {rm : Room} (As rest : List Value) {Qp : Int32 → zS → Prop} (hdg : decode cc pc = .ok (.invokestatic index, 3)) (hM : ∀ sz, zMi l y ws rm D cy Z S sz (As) Qp) (hw : ws = Cond.code y bytes maxL ret :: ws') (hG : GoodIn Ts ws) (hd : y.cls ≠ "java/lang/invoke/MethodHandle" ∧ y.cls ≠ "java/lang/invoke/VarHandle" ∧ (parseMethodDescriptor y.desc).map (fun d => d.parameters.length) = some As.length) (hnest : Cond.methodLinkNest own index y host ∈ zBw) (hini : Cond.initialized y.cls ∈ Ts) (hsta : Cond.static y ∈ Ts) (hst : st = As.reverse ++ rest) (hR : rm.frames + 1 ≤ R.frames ∧ 8 + (maxL + 11) + rm.locals ≤ R.locals) (hcat : (rest.map fun v => v.category).sum ≤ 8) (hfit : cells ≤ R.cells ∧ slots ≤ R.slots) (hro : rm.cells = 0 ∧ rm.slots = 0) (hq : pc + 3 = q)
    (kk : ∀ r τ, Qp r τ → zG p l e R s m args below meth c D cy A nL cells slots Q Z τ (q) lv (.int r :: rest)) : zG p l e R s m args below meth c D cy A nL cells slots Q Z S (pc) lv (st) := by
  subst hq
  intro H locs ls hP hD hS hl
  have hA1 : ∀ q, zA cy Z S H.size q → A q := zA_sub C0.2.2.1 hD hS
  refine va_calli (va_runSN (As := As) (rest := rest) C0.1 (hM H.size) (⟨va_cnB As.length C0.1.2.2.2.2 hG hw rfl rfl (C0.2.1.2.1 _ hnest) (C0.1.2.2.2.2 _ hini) hd hR, C0.1.2.2.2.2 _ hsta, trivial⟩) ⟨zPc_blind, fun U hU hW => ⟨rfl, by rw [hU], by rw [hU]; exact hP, hD.weaken (fun _ _ _ _ => trivial), C0.2.1.call hS hA1 hU hW⟩⟩ rfl rfl hl.1 hst (lv_room hcat) hdg ⟨by rw [hro.1]; exact hfit.1, by rw [hro.2]; exact hfit.2⟩) hS (fun q _ h => hA1 q h) hA1 (fun r u t H1 locs1 ht hvm hw hB hz1 hk1 hS1 => ?_)
  subst ht
  rw [hro.1, hro.2]
  exact kk r u hw _ locs1 ls hB.1 (hB.2.weaken (fun k x hk h => hA1 x.1 h)) hS1 hl
def zMl (l : Launch) (y : MethodName) (ws : List Cond) (rm : Room) (D : va_G) (cy : Nat → ClassId) (Z : zZ) (S : zS) (sz : Nat) (av : List Value) (Qp : Int64 → zS → Prop) : Prop := Met l y ws rm (zPc D cy Z S sz av) (va_Ql Qp (zB D cy (zA cy Z S sz) Z) (zA cy Z S sz)) rm.cells rm.slots (zA cy Z S sz)
abbrev zQl (below : List Frame) (D : va_G) (cy : Nat → ClassId) (A : Nat → Prop) (Z : zZ) (Qp : Int64 → zS → Prop) (args : Array Value) (s : State) (mc ms : Nat) : State → Prop := MQ below (va_Ql Qp (zB D cy A Z) A) args s mc ms A
theorem zMl_of {y : MethodName} {ws ws' : List Cond} {rm : Room} {sz maxL : Nat} {av : List Value} {Qp : Int64 → zS → Prop} (hy : plainName y.cls = true) (hw : ws = Cond.code y cc maxL rt :: ws') (hlen : (lg_sl av).length ≤ maxL)
    (body : ∀ (p : Program) (e : Env) (s : State) (m : MethodId) (args : Array Value) (below : List Frame) (meth : Method) (c : Code) (A : Nat → Prop), zC p s m args meth c cc maxL ws y.cls D cy A rt → meth.name = y.name → zG p l e (headSpec ws rm).room s m args below meth c D cy A maxL 0 0 (zQl below D cy A Z Qp args s rm.cells rm.slots) Z S 0 (lv_args 0 av) []) : zMl l y ws rm D cy Z S sz av Qp := by
  refine Met.ofW (cc := cc) (maxL := maxL) (ret := rt) hy hw ?_
  intro p e s m args below meth c s₁ B hml hv
  obtain ⟨rfl, hsz, hP, hD0, hV⟩ := hv
  subst hsz
  have hts := atoms_spec (ws := ws) B.pre
  have hown : s.vm.findClass y.cls = some m.cls := findClass_of_methodNamed B.named
  have hl := lv_entry av (n := maxL) hlen
  rw [lg_entry_eq]
  exact body p e s m av.toArray below meth c (zA cy Z S s.heap.size) ⟨⟨B.exec, B.bytes, hml, hown, hts⟩, hV, fun q h => Or.inr h, B.returns, B.notSynchronized⟩ (name_of_methodNamed B.named B.method).1 s.heap [] _ hP hD0.self va_S.rf hl
theorem zg_callVl (C0 : zC p s m args meth c cc nL Ts own D cy A rt) {Cn : String} {T : u_T} {N ci : Nat} {fs : List Value} {b : Nat} {ret : Option FieldType} {index maxL : Nat} {y : MethodName} {bytes : ByteArray} {ws ws' : List Cond} {rm : Room} (As rest : List Value) {Qp : Int64 → zS → Prop} (hdg : decode cc pc = .ok (.invokevirtual index, 3)) (hM : ∀ sz, zMl l y ws rm D cy Z S sz (.ref b :: As) Qp) (hw : ws = Cond.code y bytes maxL ret :: ws') (hG : GoodIn Ts (wsV own index Cn y ws)) (hd : y.cls = Cn ∧ y.cls ≠ "java/lang/invoke/MethodHandle" ∧ y.cls ≠ "java/lang/invoke/VarHandle" ∧ (parseMethodDescriptor y.desc).map (fun d => d.parameters.length) = some As.length) (hb : zk Z b ci) (hF : zF cy Z S b = .inr (ci, fs)) (hc : vwCl[ci]? = some (Cn, T, N)) (hst : st = As.reverse ++ .ref b :: rest) (hR : rm.frames + 1 ≤ R.frames ∧ 8 + (maxL + 11) + rm.locals ≤ R.locals) (hcat : (rest.map fun v => v.category).sum ≤ 8) (hfit : cells ≤ R.cells ∧ slots ≤ R.slots) (hro : rm.cells = 0 ∧ rm.slots = 0) (hq : pc + 3 = q)
    (kk : ∀ r τ, Qp r τ → zG p l e R s m args below meth c D cy A nL cells slots Q Z τ (q) lv (.long r :: rest)) : zG p l e R s m args below meth c D cy A nL cells slots Q Z S (pc) lv (st) := by
  subst hq
  intro H locs ls hP hD hS hl
  obtain ⟨j, hj⟩ := zget hb.1 hF
  have hA1 : ∀ q, zA cy Z S H.size q → A q := zA_sub C0.2.2.1 hD hS
  refine va_calll (va_runV (As := As) (rest := rest) C0.1 (hM H.size) (cwV As.length C0.1.2.2.2.2 hG hw rfl rfl hd hR) ⟨zPc_blind, va_recv C0.2.1.1 hP hc hj, fun U hU hW => ⟨rfl, by rw [hU], by rw [hU]; exact hP, hD.weaken (fun _ _ _ _ => trivial), C0.2.1.call hS hA1 hU hW⟩⟩ rfl rfl hl.1 hst (lv_room hcat) hdg ⟨by rw [hro.1]; exact hfit.1, by rw [hro.2]; exact hfit.2⟩) hS (fun q _ h => hA1 q h) hA1 (fun r u t H1 locs1 ht hvm hw hB hz1 hk1 hS1 => ?_)
  subst ht
  rw [hro.1, hro.2]
  exact kk r u hw _ locs1 ls hB.1 (hB.2.weaken (fun k x hk h => hA1 x.1 h)) hS1 hl
theorem zg_callSl (C0 : zC p s m args meth c cc nL Ts own D cy A rt) {ret : Option FieldType} {index maxL : Nat} {y : MethodName} {bytes : ByteArray} {ws ws' : List Cond} {rm : Room} (As rest : List Value) {Qp : Int64 → zS → Prop} (hdg : decode cc pc = .ok (.invokestatic index, 3)) (hM : ∀ sz, zMl l y ws rm D cy Z S sz (As) Qp) (hw : ws = Cond.code y bytes maxL ret :: ws') (hG : GoodIn Ts (va_wsS own index y ws)) (hd : y.cls ≠ "java/lang/invoke/MethodHandle" ∧ y.cls ≠ "java/lang/invoke/VarHandle" ∧ (parseMethodDescriptor y.desc).map (fun d => d.parameters.length) = some As.length) (hst : st = As.reverse ++ rest) (hR : rm.frames + 1 ≤ R.frames ∧ 8 + (maxL + 11) + rm.locals ≤ R.locals) (hcat : (rest.map fun v => v.category).sum ≤ 8) (hfit : cells ≤ R.cells ∧ slots ≤ R.slots) (hro : rm.cells = 0 ∧ rm.slots = 0) (hq : pc + 3 = q)
    (kk : ∀ r τ, Qp r τ → zG p l e R s m args below meth c D cy A nL cells slots Q Z τ (q) lv (.long r :: rest)) : zG p l e R s m args below meth c D cy A nL cells slots Q Z S (pc) lv (st) := by
  subst hq
  intro H locs ls hP hD hS hl
  have hA1 : ∀ q, zA cy Z S H.size q → A q := zA_sub C0.2.2.1 hD hS
  refine va_calll (va_runS (As := As) (rest := rest) C0.1 (hM H.size) (va_cwS As.length C0.1.2.2.2.2 hG hw rfl rfl hd hR) ⟨zPc_blind, fun U hU hW => ⟨rfl, by rw [hU], by rw [hU]; exact hP, hD.weaken (fun _ _ _ _ => trivial), C0.2.1.call hS hA1 hU hW⟩⟩ rfl rfl hl.1 hst (lv_room hcat) hdg ⟨by rw [hro.1]; exact hfit.1, by rw [hro.2]; exact hfit.2⟩) hS (fun q _ h => hA1 q h) hA1 (fun r u t H1 locs1 ht hvm hw hB hz1 hk1 hS1 => ?_)
  subst ht
  rw [hro.1, hro.2]
  exact kk r u hw _ locs1 ls hB.1 (hB.2.weaken (fun k x hk h => hA1 x.1 h)) hS1 hl
theorem zg_callSNl (C0 : zC p s m args meth c cc nL Ts own D cy A rt) {host : String} {ret : Option FieldType} {index maxL : Nat} {y : MethodName} {bytes : ByteArray} {ws ws' : List Cond} {rm : Room} (As rest : List Value) {Qp : Int64 → zS → Prop} (hdg : decode cc pc = .ok (.invokestatic index, 3)) (hM : ∀ sz, zMl l y ws rm D cy Z S sz (As) Qp) (hw : ws = Cond.code y bytes maxL ret :: ws') (hG : GoodIn Ts ws) (hd : y.cls ≠ "java/lang/invoke/MethodHandle" ∧ y.cls ≠ "java/lang/invoke/VarHandle" ∧ (parseMethodDescriptor y.desc).map (fun d => d.parameters.length) = some As.length) (hnest : Cond.methodLinkNest own index y host ∈ zBw) (hini : Cond.initialized y.cls ∈ Ts) (hsta : Cond.static y ∈ Ts) (hst : st = As.reverse ++ rest) (hR : rm.frames + 1 ≤ R.frames ∧ 8 + (maxL + 11) + rm.locals ≤ R.locals) (hcat : (rest.map fun v => v.category).sum ≤ 8) (hfit : cells ≤ R.cells ∧ slots ≤ R.slots) (hro : rm.cells = 0 ∧ rm.slots = 0) (hq : pc + 3 = q)
    (kk : ∀ r τ, Qp r τ → zG p l e R s m args below meth c D cy A nL cells slots Q Z τ (q) lv (.long r :: rest)) : zG p l e R s m args below meth c D cy A nL cells slots Q Z S (pc) lv (st) := by
  subst hq
  intro H locs ls hP hD hS hl
  have hA1 : ∀ q, zA cy Z S H.size q → A q := zA_sub C0.2.2.1 hD hS
  refine va_calll (va_runSN (As := As) (rest := rest) C0.1 (hM H.size) (⟨va_cnB As.length C0.1.2.2.2.2 hG hw rfl rfl (C0.2.1.2.1 _ hnest) (C0.1.2.2.2.2 _ hini) hd hR, C0.1.2.2.2.2 _ hsta, trivial⟩) ⟨zPc_blind, fun U hU hW => ⟨rfl, by rw [hU], by rw [hU]; exact hP, hD.weaken (fun _ _ _ _ => trivial), C0.2.1.call hS hA1 hU hW⟩⟩ rfl rfl hl.1 hst (lv_room hcat) hdg ⟨by rw [hro.1]; exact hfit.1, by rw [hro.2]; exact hfit.2⟩) hS (fun q _ h => hA1 q h) hA1 (fun r u t H1 locs1 ht hvm hw hB hz1 hk1 hS1 => ?_)
  subst ht
  rw [hro.1, hro.2]
  exact kk r u hw _ locs1 ls hB.1 (hB.2.weaken (fun k x hk h => hA1 x.1 h)) hS1 hl
def zMq (l : Launch) (y : MethodName) (ws : List Cond) (rm : Room) (D : va_G) (cy : Nat → ClassId) (Z : zZ) (S : zS) (sz : Nat) (av : List Value) (Qp : Option Nat → zS → Prop) : Prop := Met l y ws rm (zPc D cy Z S sz av) (va_Qq Qp (zB D cy (zA cy Z S sz) Z) (zA cy Z S sz)) rm.cells rm.slots (zA cy Z S sz)
abbrev zQq (below : List Frame) (D : va_G) (cy : Nat → ClassId) (A : Nat → Prop) (Z : zZ) (Qp : Option Nat → zS → Prop) (args : Array Value) (s : State) (mc ms : Nat) : State → Prop := MQ below (va_Qq Qp (zB D cy A Z) A) args s mc ms A
theorem zMq_of {y : MethodName} {ws ws' : List Cond} {rm : Room} {sz maxL : Nat} {av : List Value} {Qp : Option Nat → zS → Prop} (hy : plainName y.cls = true) (hw : ws = Cond.code y cc maxL rt :: ws') (hlen : (lg_sl av).length ≤ maxL)
    (body : ∀ (p : Program) (e : Env) (s : State) (m : MethodId) (args : Array Value) (below : List Frame) (meth : Method) (c : Code) (A : Nat → Prop), zC p s m args meth c cc maxL ws y.cls D cy A rt → meth.name = y.name → zG p l e (headSpec ws rm).room s m args below meth c D cy A maxL 0 0 (zQq below D cy A Z Qp args s rm.cells rm.slots) Z S 0 (lv_args 0 av) []) : zMq l y ws rm D cy Z S sz av Qp := by
  refine Met.ofW (cc := cc) (maxL := maxL) (ret := rt) hy hw ?_
  intro p e s m args below meth c s₁ B hml hv
  obtain ⟨rfl, hsz, hP, hD0, hV⟩ := hv
  subst hsz
  have hts := atoms_spec (ws := ws) B.pre
  have hown : s.vm.findClass y.cls = some m.cls := findClass_of_methodNamed B.named
  have hl := lv_entry av (n := maxL) hlen
  rw [lg_entry_eq]
  exact body p e s m av.toArray below meth c (zA cy Z S s.heap.size) ⟨⟨B.exec, B.bytes, hml, hown, hts⟩, hV, fun q h => Or.inr h, B.returns, B.notSynchronized⟩ (name_of_methodNamed B.named B.method).1 s.heap [] _ hP hD0.self va_S.rf hl
theorem zg_callVq (C0 : zC p s m args meth c cc nL Ts own D cy A rt) {Cn : String} {T : u_T} {N ci : Nat} {fs : List Value} {b : Nat} {ret : Option FieldType} {index maxL : Nat} {y : MethodName} {bytes : ByteArray} {ws ws' : List Cond} {rm : Room} (As rest : List Value) {Qp : Option Nat → zS → Prop} (hdg : decode cc pc = .ok (.invokevirtual index, 3)) (hM : ∀ sz, zMq l y ws rm D cy Z S sz (.ref b :: As) Qp) (hw : ws = Cond.code y bytes maxL ret :: ws') (hG : GoodIn Ts (wsV own index Cn y ws)) (hd : y.cls = Cn ∧ y.cls ≠ "java/lang/invoke/MethodHandle" ∧ y.cls ≠ "java/lang/invoke/VarHandle" ∧ (parseMethodDescriptor y.desc).map (fun d => d.parameters.length) = some As.length) (hb : zk Z b ci) (hF : zF cy Z S b = .inr (ci, fs)) (hc : vwCl[ci]? = some (Cn, T, N)) (hst : st = As.reverse ++ .ref b :: rest) (hR : rm.frames + 1 ≤ R.frames ∧ 8 + (maxL + 11) + rm.locals ≤ R.locals) (hcat : (rest.map fun v => v.category).sum ≤ 8) (hfit : cells ≤ R.cells ∧ slots ≤ R.slots) (hro : rm.cells = 0 ∧ rm.slots = 0) (hq : pc + 3 = q)
    (kk : ∀ r τ, Qp r τ → zG p l e R s m args below meth c D cy A nL cells slots Q Z τ (q) lv (va_rf r :: rest)) : zG p l e R s m args below meth c D cy A nL cells slots Q Z S (pc) lv (st) := by
  subst hq
  intro H locs ls hP hD hS hl
  obtain ⟨j, hj⟩ := zget hb.1 hF
  have hA1 : ∀ q, zA cy Z S H.size q → A q := zA_sub C0.2.2.1 hD hS
  refine va_callq (va_runV (As := As) (rest := rest) C0.1 (hM H.size) (cwV As.length C0.1.2.2.2.2 hG hw rfl rfl hd hR) ⟨zPc_blind, va_recv C0.2.1.1 hP hc hj, fun U hU hW => ⟨rfl, by rw [hU], by rw [hU]; exact hP, hD.weaken (fun _ _ _ _ => trivial), C0.2.1.call hS hA1 hU hW⟩⟩ rfl rfl hl.1 hst (lv_room hcat) hdg ⟨by rw [hro.1]; exact hfit.1, by rw [hro.2]; exact hfit.2⟩) hS (fun q _ h => hA1 q h) hA1 (fun r u t H1 locs1 ht hvm hw hB hz1 hk1 hS1 => ?_)
  subst ht
  rw [hro.1, hro.2]
  exact kk r u hw _ locs1 ls hB.1 (hB.2.weaken (fun k x hk h => hA1 x.1 h)) hS1 hl
theorem zg_callSq (C0 : zC p s m args meth c cc nL Ts own D cy A rt) {ret : Option FieldType} {index maxL : Nat} {y : MethodName} {bytes : ByteArray} {ws ws' : List Cond} {rm : Room} (As rest : List Value) {Qp : Option Nat → zS → Prop} (hdg : decode cc pc = .ok (.invokestatic index, 3)) (hM : ∀ sz, zMq l y ws rm D cy Z S sz (As) Qp) (hw : ws = Cond.code y bytes maxL ret :: ws') (hG : GoodIn Ts (va_wsS own index y ws)) (hd : y.cls ≠ "java/lang/invoke/MethodHandle" ∧ y.cls ≠ "java/lang/invoke/VarHandle" ∧ (parseMethodDescriptor y.desc).map (fun d => d.parameters.length) = some As.length) (hst : st = As.reverse ++ rest) (hR : rm.frames + 1 ≤ R.frames ∧ 8 + (maxL + 11) + rm.locals ≤ R.locals) (hcat : (rest.map fun v => v.category).sum ≤ 8) (hfit : cells ≤ R.cells ∧ slots ≤ R.slots) (hro : rm.cells = 0 ∧ rm.slots = 0) (hq : pc + 3 = q)
    (kk : ∀ r τ, Qp r τ → zG p l e R s m args below meth c D cy A nL cells slots Q Z τ (q) lv (va_rf r :: rest)) : zG p l e R s m args below meth c D cy A nL cells slots Q Z S (pc) lv (st) := by
  subst hq
  intro H locs ls hP hD hS hl
  have hA1 : ∀ q, zA cy Z S H.size q → A q := zA_sub C0.2.2.1 hD hS
  refine va_callq (va_runS (As := As) (rest := rest) C0.1 (hM H.size) (va_cwS As.length C0.1.2.2.2.2 hG hw rfl rfl hd hR) ⟨zPc_blind, fun U hU hW => ⟨rfl, by rw [hU], by rw [hU]; exact hP, hD.weaken (fun _ _ _ _ => trivial), C0.2.1.call hS hA1 hU hW⟩⟩ rfl rfl hl.1 hst (lv_room hcat) hdg ⟨by rw [hro.1]; exact hfit.1, by rw [hro.2]; exact hfit.2⟩) hS (fun q _ h => hA1 q h) hA1 (fun r u t H1 locs1 ht hvm hw hB hz1 hk1 hS1 => ?_)
  subst ht
  rw [hro.1, hro.2]
  exact kk r u hw _ locs1 ls hB.1 (hB.2.weaken (fun k x hk h => hA1 x.1 h)) hS1 hl
theorem zg_callSNq (C0 : zC p s m args meth c cc nL Ts own D cy A rt) {host : String} {ret : Option FieldType} {index maxL : Nat} {y : MethodName} {bytes : ByteArray} {ws ws' : List Cond} {rm : Room} (As rest : List Value) {Qp : Option Nat → zS → Prop} (hdg : decode cc pc = .ok (.invokestatic index, 3)) (hM : ∀ sz, zMq l y ws rm D cy Z S sz (As) Qp) (hw : ws = Cond.code y bytes maxL ret :: ws') (hG : GoodIn Ts ws) (hd : y.cls ≠ "java/lang/invoke/MethodHandle" ∧ y.cls ≠ "java/lang/invoke/VarHandle" ∧ (parseMethodDescriptor y.desc).map (fun d => d.parameters.length) = some As.length) (hnest : Cond.methodLinkNest own index y host ∈ zBw) (hini : Cond.initialized y.cls ∈ Ts) (hsta : Cond.static y ∈ Ts) (hst : st = As.reverse ++ rest) (hR : rm.frames + 1 ≤ R.frames ∧ 8 + (maxL + 11) + rm.locals ≤ R.locals) (hcat : (rest.map fun v => v.category).sum ≤ 8) (hfit : cells ≤ R.cells ∧ slots ≤ R.slots) (hro : rm.cells = 0 ∧ rm.slots = 0) (hq : pc + 3 = q)
    (kk : ∀ r τ, Qp r τ → zG p l e R s m args below meth c D cy A nL cells slots Q Z τ (q) lv (va_rf r :: rest)) : zG p l e R s m args below meth c D cy A nL cells slots Q Z S (pc) lv (st) := by
  subst hq
  intro H locs ls hP hD hS hl
  have hA1 : ∀ q, zA cy Z S H.size q → A q := zA_sub C0.2.2.1 hD hS
  refine va_callq (va_runSN (As := As) (rest := rest) C0.1 (hM H.size) (⟨va_cnB As.length C0.1.2.2.2.2 hG hw rfl rfl (C0.2.1.2.1 _ hnest) (C0.1.2.2.2.2 _ hini) hd hR, C0.1.2.2.2.2 _ hsta, trivial⟩) ⟨zPc_blind, fun U hU hW => ⟨rfl, by rw [hU], by rw [hU]; exact hP, hD.weaken (fun _ _ _ _ => trivial), C0.2.1.call hS hA1 hU hW⟩⟩ rfl rfl hl.1 hst (lv_room hcat) hdg ⟨by rw [hro.1]; exact hfit.1, by rw [hro.2]; exact hfit.2⟩) hS (fun q _ h => hA1 q h) hA1 (fun r u t H1 locs1 ht hvm hw hB hz1 hk1 hS1 => ?_)
  subst ht
  rw [hro.1, hro.2]
  exact kk r u hw _ locs1 ls hB.1 (hB.2.weaken (fun k x hk h => hA1 x.1 h)) hS1 hl
theorem zg_vret (C0 : zC p s m args meth c cc nL Ts own D cy A rt) {mc ms : Nat} {Qp : zS → Prop} (hdg : decode cc pc = .ok (.return_, 1)) (hr : rt = none) (h1 : cells ≤ mc) (h2 : slots ≤ ms) (hQ : Qp S) : zG p l e R s m args below meth c D cy A nL cells slots (zQv below D cy A Z Qp args s mc ms) Z S (pc) lv [] := fun H locs ls hP hD hS hl => W.widen h1 h2 (W.vret C0.1.1 C0.1.2.1 (C0.2.2.2.1.trans hr) (fun t ht hW => ⟨⟨S, rfl, hQ, by rw [ht]; exact hP, hD⟩, hS.F ht⟩) hS.2.2 hdg C0.2.2.2.2)
theorem zg_iret (C0 : zC p s m args meth c cc nL Ts own D cy A rt) {mc ms : Nat} {v : Int32} {ty : FieldType} {Qp : Int32 → zS → Prop} (hdg : decode cc pc = .ok (.ireturn, 1)) (hr : rt = some ty) (hn : narrow ty (.int v) = .int v) (h1 : cells ≤ mc) (h2 : slots ≤ ms) (hQ : Qp v S) : zG p l e R s m args below meth c D cy A nL cells slots (zQi below D cy A Z Qp args s mc ms) Z S (pc) lv [.int v] := fun H locs ls hP hD hS hl => W.widen h1 h2 (W.zret C0.1.1 C0.1.2.1 (C0.2.2.2.1.trans hr) hn (fun t ht hW => ⟨⟨v, S, rfl, hQ, by rw [ht]; exact hP, hD⟩, hS.F ht⟩) hS.2.2 hdg C0.2.2.2.2)
theorem zg_lret (C0 : zC p s m args meth c cc nL Ts own D cy A rt) {mc ms : Nat} {v : Int64} {Qp : Int64 → zS → Prop} (hdg : decode cc pc = .ok (.lreturn, 1)) (hr : rt = some .long) (h1 : cells ≤ mc) (h2 : slots ≤ ms) (hQ : Qp v S) : zG p l e R s m args below meth c D cy A nL cells slots (zQl below D cy A Z Qp args s mc ms) Z S (pc) lv [.long v] := fun H locs ls hP hD hS hl => W.widen h1 h2 (W.lret C0.1.1 C0.1.2.1 (C0.2.2.2.1.trans hr) (fun t ht hW => ⟨⟨v, S, rfl, hQ, by rw [ht]; exact hP, hD⟩, hS.F ht⟩) hS.2.2 hdg C0.2.2.2.2)
theorem zg_aret (C0 : zC p s m args meth c cc nL Ts own D cy A rt) {mc ms : Nat} {v : Option Nat} {u : Value} {n : String} {Qp : Option Nat → zS → Prop} (hdg : decode cc pc = .ok (.areturn, 1)) (hr : rt = some (.object n)) (hu : va_rf v = u) (h1 : cells ≤ mc) (h2 : slots ≤ ms) (hQ : Qp v S) : zG p l e R s m args below meth c D cy A nL cells slots (zQq below D cy A Z Qp args s mc ms) Z S (pc) lv [u] := by
  subst hu
  exact fun H locs ls hP hD hS hl => W.widen h1 h2 (W.aret C0.1.1 C0.1.2.1 (C0.2.2.2.1.trans hr) (Or.inl ⟨n, rfl⟩) (va_rf_or v) (fun t ht hW => ⟨⟨v, S, rfl, hQ, by rw [ht]; exact hP, hD⟩, hS.F ht⟩) hS.2.2 hdg C0.2.2.2.2)
theorem zg_mmax (C0 : zC p s m args meth c cc nL Ts own D cy A rt) {index : Nat} {x y : Int32} (hdg : decode cc pc = .ok (.invokestatic index, 3)) (h1 : Cond.methodLink own index Lib.Math.max.name ∈ Ts) (h2 : Cond.static Lib.Math.max.name ∈ Ts) (h3 : Cond.initialized "java/lang/Math" ∈ Ts) (h4 : Cond.code Lib.Math.max.name Lib.Math.max.code 2 (some .int) ∈ Ts) (hf : 1 ≤ R.frames) (hlo : (st.map fun v => v.category).sum + 13 ≤ R.locals) (hro : cells ≤ R.cells ∧ slots ≤ R.slots) (hq : pc + 3 = q) (kk : zG p l e R s m args below meth c D cy A nL cells slots Q Z S (q) lv (.int (if x < y then y else x) :: st)) : zG p l e R s m args below meth c D cy A nL cells slots Q Z S (pc) lv (.int y :: .int x :: st) := by
  subst hq
  exact fun H locs ls hP hD hS hl => va_mmax C0.1.1 C0.1.2.1 (C0.1.2.2.1.trans hl.1.symm) C0.1.2.2.2.1 (C0.1.2.2.2.2 _ h1) (C0.1.2.2.2.2 _ h2) (C0.1.2.2.2.2 _ h3) (C0.1.2.2.2.2 _ h4) hf hlo hro.1 hro.2 hdg (kk H locs ls hP hD hS hl)
theorem zg_mmin (C0 : zC p s m args meth c cc nL Ts own D cy A rt) {index : Nat} {x y : Int32} (hdg : decode cc pc = .ok (.invokestatic index, 3)) (h1 : Cond.methodLink own index Lib.Math.min.name ∈ Ts) (h2 : Cond.static Lib.Math.min.name ∈ Ts) (h3 : Cond.initialized "java/lang/Math" ∈ Ts) (h4 : Cond.code Lib.Math.min.name Lib.Math.min.code 2 (some .int) ∈ Ts) (hf : 1 ≤ R.frames) (hlo : (st.map fun v => v.category).sum + 13 ≤ R.locals) (hro : cells ≤ R.cells ∧ slots ≤ R.slots) (hq : pc + 3 = q) (kk : zG p l e R s m args below meth c D cy A nL cells slots Q Z S (q) lv (.int (if y < x then y else x) :: st)) : zG p l e R s m args below meth c D cy A nL cells slots Q Z S (pc) lv (.int y :: .int x :: st) := by
  subst hq
  exact fun H locs ls hP hD hS hl => va_mmin C0.1.1 C0.1.2.1 (C0.1.2.2.1.trans hl.1.symm) C0.1.2.2.2.1 (C0.1.2.2.2.2 _ h1) (C0.1.2.2.2.2 _ h2) (C0.1.2.2.2.2 _ h3) (C0.1.2.2.2.2 _ h4) hf hlo hro.1 hro.2 hdg (kk H locs ls hP hD hS hl)
theorem zg_putI (C0 : zC p s m args meth c cc nL Ts own D cy A rt) {a ci N k index : Nat} {Cn ref : String} {T : u_T} {fs : List Value} {v : Int32} {ty0 : Nat → FieldType} (hdg : decode cc pc = .ok (.putfield index, 3)) (ha : zk Z a ci) (hF : zF cy Z S a = .inr (ci, fs)) (hc : vwCl[ci]? = some (Cn, T, N)) (hk : k < N) (hin : ∀ w ∈ u_ws Cn T N, w ∈ Ts) (hty : ∀ k, k < N → parseFieldDescriptor (T k).2.2.1 = some (ty0 k)) (hnm : ∀ a, a < N → ∀ b, b < N → a ≠ b → (T a).2.1 ≠ (T b).2.1) (hlink : Cond.fieldLink own index ref (T k).2.1 (T k).2.2.1 ∈ Ts) (href : (T k).1 = ref) (hfin : (T k).2.2.2 = false) (hn : narrow (ty0 k) (.int v) = .int v) (hfit : fits (ty0 k) (.int v) = true) (hl2 : k < fs.length) (he : zF cy Z (zsI S a k v) a = .inr (ci, zfs Z (zsI S a k v) a ci)) (hP : zfs Z (zsI S a k v) a ci = fs.set k (.int v)) (hq : pc + 3 = q) (kk : ∀ S' : zS, S' = zsI S a k v → zG p l e R s m args below meth c D cy A nL cells slots Q Z S' (q) lv (st)) : zG p l e R s m args below meth c D cy A nL cells slots Q Z S (pc) lv (.int v :: .ref a :: st) :=
  zg_put (Z' := Z) (S' := zsI S a k v) C0 hdg ha hF hc hk hin hty hnm hlink href (Or.inl hfin) hn hfit hl2 rfl (he.trans (by rw [hP])) (zF_offI cy Z S a k v) hq (kk _ rfl)
theorem zg_putJ (C0 : zC p s m args meth c cc nL Ts own D cy A rt) {a ci N k index : Nat} {Cn ref : String} {T : u_T} {fs : List Value} {v : Int64} {ty0 : Nat → FieldType} (hdg : decode cc pc = .ok (.putfield index, 3)) (ha : zk Z a ci) (hF : zF cy Z S a = .inr (ci, fs)) (hc : vwCl[ci]? = some (Cn, T, N)) (hk : k < N) (hin : ∀ w ∈ u_ws Cn T N, w ∈ Ts) (hty : ∀ k, k < N → parseFieldDescriptor (T k).2.2.1 = some (ty0 k)) (hnm : ∀ a, a < N → ∀ b, b < N → a ≠ b → (T a).2.1 ≠ (T b).2.1) (hlink : Cond.fieldLink own index ref (T k).2.1 (T k).2.2.1 ∈ Ts) (href : (T k).1 = ref) (hfin : (T k).2.2.2 = false) (hn : narrow (ty0 k) (.long v) = .long v) (hfit : fits (ty0 k) (.long v) = true) (hl2 : k < fs.length) (he : zF cy Z (zsJ S a k v) a = .inr (ci, zfs Z (zsJ S a k v) a ci)) (hP : zfs Z (zsJ S a k v) a ci = fs.set k (.long v)) (hq : pc + 3 = q) (kk : ∀ S' : zS, S' = zsJ S a k v → zG p l e R s m args below meth c D cy A nL cells slots Q Z S' (q) lv (st)) : zG p l e R s m args below meth c D cy A nL cells slots Q Z S (pc) lv (.long v :: .ref a :: st) :=
  zg_put (Z' := Z) (S' := zsJ S a k v) C0 hdg ha hF hc hk hin hty hnm hlink href (Or.inl hfin) hn hfit hl2 rfl (he.trans (by rw [hP])) (zF_offJ cy Z S a k v) hq (kk _ rfl)
theorem zg_putR (C0 : zC p s m args meth c cc nL Ts own D cy A rt) {a ci N k index : Nat} {Cn ref : String} {T : u_T} {fs : List Value} {v : Option Nat} {ty0 : Nat → FieldType} (hdg : decode cc pc = .ok (.putfield index, 3)) (ha : zk Z a ci) (hF : zF cy Z S a = .inr (ci, fs)) (hc : vwCl[ci]? = some (Cn, T, N)) (hk : k < N) (hin : ∀ w ∈ u_ws Cn T N, w ∈ Ts) (hty : ∀ k, k < N → parseFieldDescriptor (T k).2.2.1 = some (ty0 k)) (hnm : ∀ a, a < N → ∀ b, b < N → a ≠ b → (T a).2.1 ≠ (T b).2.1) (hlink : Cond.fieldLink own index ref (T k).2.1 (T k).2.2.1 ∈ Ts) (href : (T k).1 = ref) (hfin : (T k).2.2.2 = false) (hn : narrow (ty0 k) (va_rf v) = va_rf v) (hfit : fits (ty0 k) (va_rf v) = true) (hl2 : k < fs.length) (he : zF cy Z (zsR S a k v) a = .inr (ci, zfs Z (zsR S a k v) a ci)) (hP : zfs Z (zsR S a k v) a ci = fs.set k (va_rf v)) (hq : pc + 3 = q) (kk : ∀ S' : zS, S' = zsR S a k v → zG p l e R s m args below meth c D cy A nL cells slots Q Z S' (q) lv (st)) : zG p l e R s m args below meth c D cy A nL cells slots Q Z S (pc) lv (va_rf v :: .ref a :: st) :=
  zg_put (Z' := Z) (S' := zsR S a k v) C0 hdg ha hF hc hk hin hty hnm hlink href (Or.inl hfin) hn hfit hl2 rfl (he.trans (by rw [hP])) (zF_offR cy Z S a k v) hq (kk _ rfl)
theorem zg_nn {r : Option Nat} {b : Nat} (h : r = some b) (kk : zG p l e R s m args below meth c D cy A nL cells slots Q Z S (pc) lv (.ref b :: st)) : zG p l e R s m args below meth c D cy A nL cells slots Q Z S (pc) lv (va_rf r :: st) := by
  subst h
  exact kk
theorem zg_nq {r : Option Nat} (kk : ∀ y : Option Nat, y = r → zG p l e R s m args below meth c D cy A nL cells slots Q Z S (pc) lv (va_rf y :: st)) : zG p l e R s m args below meth c D cy A nL cells slots Q Z S (pc) lv (va_rf r :: st) := kk r rfl
end ZR
/-- a boolean's ints -/
def zb (v : Int32) : Prop := v = 0 ∨ v = 1
theorem zb_n {v : Int32} (h : zb v) : narrow .boolean (.int v) = .int v := by
  rcases h with rfl | rfl <;> decide
theorem zb_f {v : Int32} (h : zb v) : fits .boolean (.int v) = true := by
  rcases h with rfl | rfl <;> decide
theorem zb_v {v : Int32} (h : zb v) : vp_nar .boolean v = v := by
  rcases h with rfl | rfl <;> decide
/-- loops: a body, n times at most; and how one is shown to come to its end -/
def zit1 {T1 : Type} (f : (T1 → Prop) → T1 → Prop) : Nat → T1 → Prop
  | 0 => fun _ => False
  | n + 1 => f (zit1 f n)
theorem zlp1 {T1 : Type} {f : (T1 → Prop) → T1 → Prop} (Inv : T1 → Prop) (μ : T1 → Nat) (hs : ∀ (rec : T1 → Prop) (a1 : T1), Inv a1 → (∀ (b1 : T1), Inv b1 → μ b1 < μ a1 → rec b1) → f rec a1) (a1 : T1) (h : Inv a1) : ∃ n, zit1 f n a1 := by
  have key : ∀ (n : Nat) (a1 : T1), Inv a1 → μ a1 < n → zit1 f n a1 := by
    intro n
    induction n with
    | zero =>
      intro a1 _ hn
      exact absurd hn (Nat.not_lt_zero _)
    | succ n ih =>
      intro a1 hi hn
      exact hs (zit1 f n) a1 hi (fun b1 hi2 hlt => ih b1 hi2 (Nat.lt_of_lt_of_le hlt (Nat.le_of_lt_succ hn)))
  exact ⟨μ a1 + 1, key _ a1 h (Nat.lt_succ_self _)⟩
def zit2 {T1 T2 : Type} (f : (T1 → T2 → Prop) → T1 → T2 → Prop) : Nat → T1 → T2 → Prop
  | 0 => fun _ _ => False
  | n + 1 => f (zit2 f n)
theorem zlp2 {T1 T2 : Type} {f : (T1 → T2 → Prop) → T1 → T2 → Prop} (Inv : T1 → T2 → Prop) (μ : T1 → T2 → Nat) (hs : ∀ (rec : T1 → T2 → Prop) (a1 : T1) (a2 : T2), Inv a1 a2 → (∀ (b1 : T1) (b2 : T2), Inv b1 b2 → μ b1 b2 < μ a1 a2 → rec b1 b2) → f rec a1 a2) (a1 : T1) (a2 : T2) (h : Inv a1 a2) : ∃ n, zit2 f n a1 a2 := by
  have key : ∀ (n : Nat) (a1 : T1) (a2 : T2), Inv a1 a2 → μ a1 a2 < n → zit2 f n a1 a2 := by
    intro n
    induction n with
    | zero =>
      intro a1 a2 _ hn
      exact absurd hn (Nat.not_lt_zero _)
    | succ n ih =>
      intro a1 a2 hi hn
      exact hs (zit2 f n) a1 a2 hi (fun b1 b2 hi2 hlt => ih b1 b2 hi2 (Nat.lt_of_lt_of_le hlt (Nat.le_of_lt_succ hn)))
  exact ⟨μ a1 a2 + 1, key _ a1 a2 h (Nat.lt_succ_self _)⟩
def zit3 {T1 T2 T3 : Type} (f : (T1 → T2 → T3 → Prop) → T1 → T2 → T3 → Prop) : Nat → T1 → T2 → T3 → Prop
  | 0 => fun _ _ _ => False
  | n + 1 => f (zit3 f n)
theorem zlp3 {T1 T2 T3 : Type} {f : (T1 → T2 → T3 → Prop) → T1 → T2 → T3 → Prop} (Inv : T1 → T2 → T3 → Prop) (μ : T1 → T2 → T3 → Nat) (hs : ∀ (rec : T1 → T2 → T3 → Prop) (a1 : T1) (a2 : T2) (a3 : T3), Inv a1 a2 a3 → (∀ (b1 : T1) (b2 : T2) (b3 : T3), Inv b1 b2 b3 → μ b1 b2 b3 < μ a1 a2 a3 → rec b1 b2 b3) → f rec a1 a2 a3) (a1 : T1) (a2 : T2) (a3 : T3) (h : Inv a1 a2 a3) : ∃ n, zit3 f n a1 a2 a3 := by
  have key : ∀ (n : Nat) (a1 : T1) (a2 : T2) (a3 : T3), Inv a1 a2 a3 → μ a1 a2 a3 < n → zit3 f n a1 a2 a3 := by
    intro n
    induction n with
    | zero =>
      intro a1 a2 a3 _ hn
      exact absurd hn (Nat.not_lt_zero _)
    | succ n ih =>
      intro a1 a2 a3 hi hn
      exact hs (zit3 f n) a1 a2 a3 hi (fun b1 b2 b3 hi2 hlt => ih b1 b2 b3 hi2 (Nat.lt_of_lt_of_le hlt (Nat.le_of_lt_succ hn)))
  exact ⟨μ a1 a2 a3 + 1, key _ a1 a2 a3 h (Nat.lt_succ_self _)⟩
def zit4 {T1 T2 T3 T4 : Type} (f : (T1 → T2 → T3 → T4 → Prop) → T1 → T2 → T3 → T4 → Prop) : Nat → T1 → T2 → T3 → T4 → Prop
  | 0 => fun _ _ _ _ => False
  | n + 1 => f (zit4 f n)
theorem zlp4 {T1 T2 T3 T4 : Type} {f : (T1 → T2 → T3 → T4 → Prop) → T1 → T2 → T3 → T4 → Prop} (Inv : T1 → T2 → T3 → T4 → Prop) (μ : T1 → T2 → T3 → T4 → Nat) (hs : ∀ (rec : T1 → T2 → T3 → T4 → Prop) (a1 : T1) (a2 : T2) (a3 : T3) (a4 : T4), Inv a1 a2 a3 a4 → (∀ (b1 : T1) (b2 : T2) (b3 : T3) (b4 : T4), Inv b1 b2 b3 b4 → μ b1 b2 b3 b4 < μ a1 a2 a3 a4 → rec b1 b2 b3 b4) → f rec a1 a2 a3 a4) (a1 : T1) (a2 : T2) (a3 : T3) (a4 : T4) (h : Inv a1 a2 a3 a4) : ∃ n, zit4 f n a1 a2 a3 a4 := by
  have key : ∀ (n : Nat) (a1 : T1) (a2 : T2) (a3 : T3) (a4 : T4), Inv a1 a2 a3 a4 → μ a1 a2 a3 a4 < n → zit4 f n a1 a2 a3 a4 := by
    intro n
    induction n with
    | zero =>
      intro a1 a2 a3 a4 _ hn
      exact absurd hn (Nat.not_lt_zero _)
    | succ n ih =>
      intro a1 a2 a3 a4 hi hn
      exact hs (zit4 f n) a1 a2 a3 a4 hi (fun b1 b2 b3 b4 hi2 hlt => ih b1 b2 b3 b4 hi2 (Nat.lt_of_lt_of_le hlt (Nat.le_of_lt_succ hn)))
  exact ⟨μ a1 a2 a3 a4 + 1, key _ a1 a2 a3 a4 h (Nat.lt_succ_self _)⟩
def zit5 {T1 T2 T3 T4 T5 : Type} (f : (T1 → T2 → T3 → T4 → T5 → Prop) → T1 → T2 → T3 → T4 → T5 → Prop) : Nat → T1 → T2 → T3 → T4 → T5 → Prop
  | 0 => fun _ _ _ _ _ => False
  | n + 1 => f (zit5 f n)
theorem zlp5 {T1 T2 T3 T4 T5 : Type} {f : (T1 → T2 → T3 → T4 → T5 → Prop) → T1 → T2 → T3 → T4 → T5 → Prop} (Inv : T1 → T2 → T3 → T4 → T5 → Prop) (μ : T1 → T2 → T3 → T4 → T5 → Nat) (hs : ∀ (rec : T1 → T2 → T3 → T4 → T5 → Prop) (a1 : T1) (a2 : T2) (a3 : T3) (a4 : T4) (a5 : T5), Inv a1 a2 a3 a4 a5 → (∀ (b1 : T1) (b2 : T2) (b3 : T3) (b4 : T4) (b5 : T5), Inv b1 b2 b3 b4 b5 → μ b1 b2 b3 b4 b5 < μ a1 a2 a3 a4 a5 → rec b1 b2 b3 b4 b5) → f rec a1 a2 a3 a4 a5) (a1 : T1) (a2 : T2) (a3 : T3) (a4 : T4) (a5 : T5) (h : Inv a1 a2 a3 a4 a5) : ∃ n, zit5 f n a1 a2 a3 a4 a5 := by
  have key : ∀ (n : Nat) (a1 : T1) (a2 : T2) (a3 : T3) (a4 : T4) (a5 : T5), Inv a1 a2 a3 a4 a5 → μ a1 a2 a3 a4 a5 < n → zit5 f n a1 a2 a3 a4 a5 := by
    intro n
    induction n with
    | zero =>
      intro a1 a2 a3 a4 a5 _ hn
      exact absurd hn (Nat.not_lt_zero _)
    | succ n ih =>
      intro a1 a2 a3 a4 a5 hi hn
      exact hs (zit5 f n) a1 a2 a3 a4 a5 hi (fun b1 b2 b3 b4 b5 hi2 hlt => ih b1 b2 b3 b4 b5 hi2 (Nat.lt_of_lt_of_le hlt (Nat.le_of_lt_succ hn)))
  exact ⟨μ a1 a2 a3 a4 a5 + 1, key _ a1 a2 a3 a4 a5 h (Nat.lt_succ_self _)⟩
def zit6 {T1 T2 T3 T4 T5 T6 : Type} (f : (T1 → T2 → T3 → T4 → T5 → T6 → Prop) → T1 → T2 → T3 → T4 → T5 → T6 → Prop) : Nat → T1 → T2 → T3 → T4 → T5 → T6 → Prop
  | 0 => fun _ _ _ _ _ _ => False
  | n + 1 => f (zit6 f n)
theorem zlp6 {T1 T2 T3 T4 T5 T6 : Type} {f : (T1 → T2 → T3 → T4 → T5 → T6 → Prop) → T1 → T2 → T3 → T4 → T5 → T6 → Prop} (Inv : T1 → T2 → T3 → T4 → T5 → T6 → Prop) (μ : T1 → T2 → T3 → T4 → T5 → T6 → Nat) (hs : ∀ (rec : T1 → T2 → T3 → T4 → T5 → T6 → Prop) (a1 : T1) (a2 : T2) (a3 : T3) (a4 : T4) (a5 : T5) (a6 : T6), Inv a1 a2 a3 a4 a5 a6 → (∀ (b1 : T1) (b2 : T2) (b3 : T3) (b4 : T4) (b5 : T5) (b6 : T6), Inv b1 b2 b3 b4 b5 b6 → μ b1 b2 b3 b4 b5 b6 < μ a1 a2 a3 a4 a5 a6 → rec b1 b2 b3 b4 b5 b6) → f rec a1 a2 a3 a4 a5 a6) (a1 : T1) (a2 : T2) (a3 : T3) (a4 : T4) (a5 : T5) (a6 : T6) (h : Inv a1 a2 a3 a4 a5 a6) : ∃ n, zit6 f n a1 a2 a3 a4 a5 a6 := by
  have key : ∀ (n : Nat) (a1 : T1) (a2 : T2) (a3 : T3) (a4 : T4) (a5 : T5) (a6 : T6), Inv a1 a2 a3 a4 a5 a6 → μ a1 a2 a3 a4 a5 a6 < n → zit6 f n a1 a2 a3 a4 a5 a6 := by
    intro n
    induction n with
    | zero =>
      intro a1 a2 a3 a4 a5 a6 _ hn
      exact absurd hn (Nat.not_lt_zero _)
    | succ n ih =>
      intro a1 a2 a3 a4 a5 a6 hi hn
      exact hs (zit6 f n) a1 a2 a3 a4 a5 a6 hi (fun b1 b2 b3 b4 b5 b6 hi2 hlt => ih b1 b2 b3 b4 b5 b6 hi2 (Nat.lt_of_lt_of_le hlt (Nat.le_of_lt_succ hn)))
  exact ⟨μ a1 a2 a3 a4 a5 a6 + 1, key _ a1 a2 a3 a4 a5 a6 h (Nat.lt_succ_self _)⟩
def zit7 {T1 T2 T3 T4 T5 T6 T7 : Type} (f : (T1 → T2 → T3 → T4 → T5 → T6 → T7 → Prop) → T1 → T2 → T3 → T4 → T5 → T6 → T7 → Prop) : Nat → T1 → T2 → T3 → T4 → T5 → T6 → T7 → Prop
  | 0 => fun _ _ _ _ _ _ _ => False
  | n + 1 => f (zit7 f n)
theorem zlp7 {T1 T2 T3 T4 T5 T6 T7 : Type} {f : (T1 → T2 → T3 → T4 → T5 → T6 → T7 → Prop) → T1 → T2 → T3 → T4 → T5 → T6 → T7 → Prop} (Inv : T1 → T2 → T3 → T4 → T5 → T6 → T7 → Prop) (μ : T1 → T2 → T3 → T4 → T5 → T6 → T7 → Nat) (hs : ∀ (rec : T1 → T2 → T3 → T4 → T5 → T6 → T7 → Prop) (a1 : T1) (a2 : T2) (a3 : T3) (a4 : T4) (a5 : T5) (a6 : T6) (a7 : T7), Inv a1 a2 a3 a4 a5 a6 a7 → (∀ (b1 : T1) (b2 : T2) (b3 : T3) (b4 : T4) (b5 : T5) (b6 : T6) (b7 : T7), Inv b1 b2 b3 b4 b5 b6 b7 → μ b1 b2 b3 b4 b5 b6 b7 < μ a1 a2 a3 a4 a5 a6 a7 → rec b1 b2 b3 b4 b5 b6 b7) → f rec a1 a2 a3 a4 a5 a6 a7) (a1 : T1) (a2 : T2) (a3 : T3) (a4 : T4) (a5 : T5) (a6 : T6) (a7 : T7) (h : Inv a1 a2 a3 a4 a5 a6 a7) : ∃ n, zit7 f n a1 a2 a3 a4 a5 a6 a7 := by
  have key : ∀ (n : Nat) (a1 : T1) (a2 : T2) (a3 : T3) (a4 : T4) (a5 : T5) (a6 : T6) (a7 : T7), Inv a1 a2 a3 a4 a5 a6 a7 → μ a1 a2 a3 a4 a5 a6 a7 < n → zit7 f n a1 a2 a3 a4 a5 a6 a7 := by
    intro n
    induction n with
    | zero =>
      intro a1 a2 a3 a4 a5 a6 a7 _ hn
      exact absurd hn (Nat.not_lt_zero _)
    | succ n ih =>
      intro a1 a2 a3 a4 a5 a6 a7 hi hn
      exact hs (zit7 f n) a1 a2 a3 a4 a5 a6 a7 hi (fun b1 b2 b3 b4 b5 b6 b7 hi2 hlt => ih b1 b2 b3 b4 b5 b6 b7 hi2 (Nat.lt_of_lt_of_le hlt (Nat.le_of_lt_succ hn)))
  exact ⟨μ a1 a2 a3 a4 a5 a6 a7 + 1, key _ a1 a2 a3 a4 a5 a6 a7 h (Nat.lt_succ_self _)⟩
end
section
section VXCQ
variable {p : Program} {l : Launch} {e : Env} {R : Room} {s : State} {m : MethodId} {args : Array Value} {below : List Frame} {meth : Method} {c : Code} {H : Heap} {locs : List Loc} {cells slots : Nat} {Q : State → Prop}
variable {mc ms : Nat} {free : Addr → Prop} {A0 A1 : Nat → Prop} {H0 : Heap} {a : Array Value} {pc : Nat} {ls : Array Slot} {st0 rest : List Value}
theorem vx_callq {S SX : Type} {post : Option Nat → S → Prop} {px : SX → Prop} {B : S → State → Prop} {BX : String → SX → State → Prop} {AX : Nat → Prop} (hr : vx_Run p l e R s m args below meth c H locs cells slots mc ms (F0 m pc ls st0) rest (va_Qq post B A1 a) (vx_X px BX AX) free) (hS : va_S A0 H0 H locs) (hA : ∀ q, q < H.size → A1 q → A0 q) (hf : ∀ q, free q → A0 q) (hAX : ∀ q, q < H.size → AX q → A0 q)
    (kx : ∀ (E : String) (ce : Cell) (q9 : Addr) (u : SX) (t : State) (H1 : Heap) (locs1 : List Loc), t.heap = H1 → s.vm.Alike t.vm → px u → BX E u t → H.size ≤ H1.size → (∀ q : Nat, q < H.size → ¬ AX q → H1[q]? = H[q]?) → va_S A0 H0 H1 locs1 → H1[q9]? = some ce → ce.vm = .none → s.vm.findClass E = some ce.cls → vx_W p l e R s m args below meth c H1 locs1 (cells + mc) (slots + ms) Q (F0 m pc ls rest) q9)
    (kk : ∀ (r : Option Nat) (u : S) (t : State) (H1 : Heap) (locs1 : List Loc), t.heap = H1 → s.vm.Alike t.vm → post r u → B u t → H.size ≤ H1.size → (∀ q : Nat, q < H.size → ¬ A1 q → H1[q]? = H[q]?) → va_S A0 H0 H1 locs1 → W p l e R s m args below meth c H1 locs1 (cells + mc) (slots + ms) Q (F0 m (pc + 3) ls (va_rf r :: rest))) : W p l e R s m args below meth c H locs cells slots Q (F0 m pc ls st0) := by
  intro T hT X
  rcases hr T hT X with ⟨v, st₀, t, T', L, h0, X', hL, e1, e2, ⟨⟨r, u, hv, hp, hb⟩, hF⟩, st⟩ | ⟨q, st₀, t, T', L, E, ce, h0, X', hL, e1, e2, ⟨u, hp, hb, hF⟩, hce, hcv, hcl, st⟩
  · cases hv
    obtain ⟨k1, k2, k3⟩ := vx_keep h0 e1 hS hA hf hL hF
    obtain ⟨t2, a1, b1⟩ := kk r u t T'.heap (locs ++ L) e1.symm (by rw [← e2]; exact X'.warmed.alike) hp hb k1 k2 k3 T' rfl X'
    exact ⟨t2, st t2 a1, b1⟩
  · obtain ⟨k1, k2, k3⟩ := vx_keep h0 e1 hS hAX hf hL hF
    obtain ⟨t2, a1, b1⟩ := kx E ce q u t T'.heap (locs ++ L) e1.symm (by rw [← e2]; exact X'.warmed.alike) hp hb k1 k2 k3 (by rw [e1]; exact hce) hcv hcl T' rfl X'
    exact ⟨t2, st.trans a1, b1⟩
end VXCQ
/-! methods that throw, methods that make cells -/
abbrev zXB (D : va_G) (cy : Nat → ClassId) (A : Nat → Prop) (Z : zZ) (Xp : String → zS → Prop) : String → zS → State → Prop := fun E u t => Xp E u ∧ zB D cy A Z u t
abbrev zXC (D : va_G) (cy : Nat → ClassId) (A : Nat → Prop) (Z : zZ) (Xp : String → zS → Prop) : String → State → State → Prop := vx_X (fun _ : zS => True) (zXB D cy A Z Xp) A
/-- an end with new cells: the addresses too are others -/
def zBz (D : va_G) (cy : Nat → ClassId) (A : Nat → Prop) (u : zZ × zS) (t : State) : Prop := va_P D vwCl (zW cy u.1 u.2) t.heap ∧ va_D A (zW cy u.1 u.2)
section ZX
variable {p : Program} {l : Launch} {e : Env} {R : Room} {s : State} {m : MethodId} {args : Array Value} {below : List Frame} {meth : Method} {c : Code} {D : va_G} {cy : Nat → ClassId} {A : Nat → Prop} {nL cells slots : Nat} {Q : State → Prop} {Z : zZ} {S : zS} {pc q : Nat} {lv lv' : List (Nat × Value)} {st : List Value} {cc : ByteArray} {Ts : List Cond} {own : String} {rt : Option FieldType}
def zNv (l : Launch) (y : MethodName) (ws : List Cond) (rm : Room) (D : va_G) (cy : Nat → ClassId) (Z : zZ) (S : zS) (sz : Nat) (av : List Value) (Qp : zS → Prop) (Xp : String → zS → Prop) : Prop := vx_Met l y ws rm (zPc D cy Z S sz av) (va_Qv Qp (zB D cy (zA cy Z S sz) Z) (zA cy Z S sz)) (zXC D cy (zA cy Z S sz) Z Xp) rm.cells rm.slots (zA cy Z S sz)
abbrev zXv (below : List Frame) (D : va_G) (cy : Nat → ClassId) (A : Nat → Prop) (Z : zZ) (Qp : zS → Prop) (Xp : String → zS → Prop) (args : Array Value) (s : State) (mc ms : Nat) : State → Prop := vx_MQ below (va_Qv Qp (zB D cy A Z) A) (zXC D cy A Z Xp) args s mc ms A
theorem zgx_v {Qp : zS → Prop} {Xp : String → zS → Prop} {mc ms : Nat} (kk : zG p l e R s m args below meth c D cy A nL cells slots (zQv below D cy A Z Qp args s mc ms) Z S (pc) lv (st)) : zG p l e R s m args below meth c D cy A nL cells slots (zXv below D cy A Z Qp Xp args s mc ms) Z S (pc) lv (st) := fun H locs ls hP hD hS hl => vx_ret (kk H locs ls hP hD hS hl)
def zNi (l : Launch) (y : MethodName) (ws : List Cond) (rm : Room) (D : va_G) (cy : Nat → ClassId) (Z : zZ) (S : zS) (sz : Nat) (av : List Value) (Qp : Int32 → zS → Prop) (Xp : String → zS → Prop) : Prop := vx_Met l y ws rm (zPc D cy Z S sz av) (va_Qi Qp (zB D cy (zA cy Z S sz) Z) (zA cy Z S sz)) (zXC D cy (zA cy Z S sz) Z Xp) rm.cells rm.slots (zA cy Z S sz)
abbrev zXi (below : List Frame) (D : va_G) (cy : Nat → ClassId) (A : Nat → Prop) (Z : zZ) (Qp : Int32 → zS → Prop) (Xp : String → zS → Prop) (args : Array Value) (s : State) (mc ms : Nat) : State → Prop := vx_MQ below (va_Qi Qp (zB D cy A Z) A) (zXC D cy A Z Xp) args s mc ms A
theorem zgx_i {Qp : Int32 → zS → Prop} {Xp : String → zS → Prop} {mc ms : Nat} (kk : zG p l e R s m args below meth c D cy A nL cells slots (zQi below D cy A Z Qp args s mc ms) Z S (pc) lv (st)) : zG p l e R s m args below meth c D cy A nL cells slots (zXi below D cy A Z Qp Xp args s mc ms) Z S (pc) lv (st) := fun H locs ls hP hD hS hl => vx_ret (kk H locs ls hP hD hS hl)
def zNl (l : Launch) (y : MethodName) (ws : List Cond) (rm : Room) (D : va_G) (cy : Nat → ClassId) (Z : zZ) (S : zS) (sz : Nat) (av : List Value) (Qp : Int64 → zS → Prop) (Xp : String → zS → Prop) : Prop := vx_Met l y ws rm (zPc D cy Z S sz av) (va_Ql Qp (zB D cy (zA cy Z S sz) Z) (zA cy Z S sz)) (zXC D cy (zA cy Z S sz) Z Xp) rm.cells rm.slots (zA cy Z S sz)
abbrev zXl (below : List Frame) (D : va_G) (cy : Nat → ClassId) (A : Nat → Prop) (Z : zZ) (Qp : Int64 → zS → Prop) (Xp : String → zS → Prop) (args : Array Value) (s : State) (mc ms : Nat) : State → Prop := vx_MQ below (va_Ql Qp (zB D cy A Z) A) (zXC D cy A Z Xp) args s mc ms A
theorem zgx_l {Qp : Int64 → zS → Prop} {Xp : String → zS → Prop} {mc ms : Nat} (kk : zG p l e R s m args below meth c D cy A nL cells slots (zQl below D cy A Z Qp args s mc ms) Z S (pc) lv (st)) : zG p l e R s m args below meth c D cy A nL cells slots (zXl below D cy A Z Qp Xp args s mc ms) Z S (pc) lv (st) := fun H locs ls hP hD hS hl => vx_ret (kk H locs ls hP hD hS hl)
def zNq (l : Launch) (y : MethodName) (ws : List Cond) (rm : Room) (D : va_G) (cy : Nat → ClassId) (Z : zZ) (S : zS) (sz : Nat) (av : List Value) (Qp : Option Nat → zS → Prop) (Xp : String → zS → Prop) : Prop := vx_Met l y ws rm (zPc D cy Z S sz av) (va_Qq Qp (zB D cy (zA cy Z S sz) Z) (zA cy Z S sz)) (zXC D cy (zA cy Z S sz) Z Xp) rm.cells rm.slots (zA cy Z S sz)
abbrev zXq (below : List Frame) (D : va_G) (cy : Nat → ClassId) (A : Nat → Prop) (Z : zZ) (Qp : Option Nat → zS → Prop) (Xp : String → zS → Prop) (args : Array Value) (s : State) (mc ms : Nat) : State → Prop := vx_MQ below (va_Qq Qp (zB D cy A Z) A) (zXC D cy A Z Xp) args s mc ms A
theorem zgx_q {Qp : Option Nat → zS → Prop} {Xp : String → zS → Prop} {mc ms : Nat} (kk : zG p l e R s m args below meth c D cy A nL cells slots (zQq below D cy A Z Qp args s mc ms) Z S (pc) lv (st)) : zG p l e R s m args below meth c D cy A nL cells slots (zXq below D cy A Z Qp Xp args s mc ms) Z S (pc) lv (st) := fun H locs ls hP hD hS hl => vx_ret (kk H locs ls hP hD hS hl)
def zNz (l : Launch) (y : MethodName) (ws : List Cond) (rm : Room) (D : va_G) (cy : Nat → ClassId) (Z : zZ) (S : zS) (sz : Nat) (av : List Value) (Qp : Int32 → zZ → zS → Prop) (Xp : String → zS → Prop) : Prop := vx_Met l y ws rm (zPc D cy Z S sz av) (va_Qi (fun r (u : zZ × zS) => Qp r u.1 u.2) (zBz D cy (zA cy Z S sz)) (zA cy Z S sz)) (zXC D cy (zA cy Z S sz) Z Xp) rm.cells rm.slots (zA cy Z S sz)
abbrev zXz (below : List Frame) (D : va_G) (cy : Nat → ClassId) (A : Nat → Prop) (Z0 : zZ) (Qp : Int32 → zZ → zS → Prop) (Xp : String → zS → Prop) (args : Array Value) (s : State) (mc ms : Nat) : State → Prop := vx_MQ below (va_Qi (fun r (u : zZ × zS) => Qp r u.1 u.2) (zBz D cy A) A) (zXC D cy A Z0 Xp) args s mc ms A
def zMz (l : Launch) (y : MethodName) (ws : List Cond) (rm : Room) (D : va_G) (cy : Nat → ClassId) (Z : zZ) (S : zS) (sz : Nat) (av : List Value) (Qp : zZ → zS → Prop) : Prop := Met l y ws rm (zPc D cy Z S sz av) (va_Qv (fun (u : zZ × zS) => Qp u.1 u.2) (zBz D cy (zA cy Z S sz)) (zA cy Z S sz)) rm.cells rm.slots (zA cy Z S sz)
abbrev zQz (below : List Frame) (D : va_G) (cy : Nat → ClassId) (A : Nat → Prop) (Qp : zZ → zS → Prop) (args : Array Value) (s : State) (mc ms : Nat) : State → Prop := MQ below (va_Qv (fun (u : zZ × zS) => Qp u.1 u.2) (zBz D cy A) A) args s mc ms A
theorem zNv_of {y : MethodName} {ws ws' : List Cond} {rm : Room} {sz maxL : Nat} {av : List Value} {Qp : zS → Prop} {Xp : String → zS → Prop} (hy : plainName y.cls = true) (hw : ws = Cond.code y cc maxL rt :: ws') (hlen : (lg_sl av).length ≤ maxL)
    (body : ∀ (p : Program) (e : Env) (s : State) (m : MethodId) (args : Array Value) (below : List Frame) (meth : Method) (c : Code) (A : Nat → Prop), zC p s m args meth c cc maxL ws y.cls D cy A rt → meth.name = y.name → (∀ x ∈ c.exceptionTable.toList, False) → zG p l e (headSpec ws rm).room s m args below meth c D cy A maxL 0 0 (zXv below D cy A Z Qp Xp args s rm.cells rm.slots) Z S 0 (lv_args 0 av) []) : zNv l y ws rm D cy Z S sz av Qp Xp := by
  refine vx_ofW (cc := cc) (maxL := maxL) (ret := rt) hy hw ?_
  intro p e s m args below meth c s₁ B hml hT hv
  obtain ⟨rfl, hsz, hP, hD0, hV⟩ := hv
  subst hsz
  have hts := atoms_spec (ws := ws) B.pre
  have hown : s.vm.findClass y.cls = some m.cls := findClass_of_methodNamed B.named
  have hl := lv_entry av (n := maxL) hlen
  rw [lg_entry_eq]
  exact body p e s m av.toArray below meth c (zA cy Z S s.heap.size) ⟨⟨B.exec, B.bytes, hml, hown, hts⟩, hV, fun q h => Or.inr h, B.returns, B.notSynchronized⟩ (name_of_methodNamed B.named B.method).1 hT s.heap [] _ hP hD0.self va_S.rf hl
theorem zNi_of {y : MethodName} {ws ws' : List Cond} {rm : Room} {sz maxL : Nat} {av : List Value} {Qp : Int32 → zS → Prop} {Xp : String → zS → Prop} (hy : plainName y.cls = true) (hw : ws = Cond.code y cc maxL rt :: ws') (hlen : (lg_sl av).length ≤ maxL)
    (body : ∀ (p : Program) (e : Env) (s : State) (m : MethodId) (args : Array Value) (below : List Frame) (meth : Method) (c : Code) (A : Nat → Prop), zC p s m args meth c cc maxL ws y.cls D cy A rt → meth.name = y.name → (∀ x ∈ c.exceptionTable.toList, False) → zG p l e (headSpec ws rm).room s m args below meth c D cy A maxL 0 0 (zXi below D cy A Z Qp Xp args s rm.cells rm.slots) Z S 0 (lv_args 0 av) []) : zNi l y ws rm D cy Z S sz av Qp Xp := by
  refine vx_ofW (cc := cc) (maxL := maxL) (ret := rt) hy hw ?_
  intro p e s m args below meth c s₁ B hml hT hv
  obtain ⟨rfl, hsz, hP, hD0, hV⟩ := hv
  subst hsz
  have hts := atoms_spec (ws := ws) B.pre
  have hown : s.vm.findClass y.cls = some m.cls := findClass_of_methodNamed B.named
  have hl := lv_entry av (n := maxL) hlen
  rw [lg_entry_eq]
  exact body p e s m av.toArray below meth c (zA cy Z S s.heap.size) ⟨⟨B.exec, B.bytes, hml, hown, hts⟩, hV, fun q h => Or.inr h, B.returns, B.notSynchronized⟩ (name_of_methodNamed B.named B.method).1 hT s.heap [] _ hP hD0.self va_S.rf hl
theorem zNl_of {y : MethodName} {ws ws' : List Cond} {rm : Room} {sz maxL : Nat} {av : List Value} {Qp : Int64 → zS → Prop} {Xp : String → zS → Prop} (hy : plainName y.cls = true) (hw : ws = Cond.code y cc maxL rt :: ws') (hlen : (lg_sl av).length ≤ maxL)
    (body : ∀ (p : Program) (e : Env) (s : State) (m : MethodId) (args : Array Value) (below : List Frame) (meth : Method) (c : Code) (A : Nat → Prop), zC p s m args meth c cc maxL ws y.cls D cy A rt → meth.name = y.name → (∀ x ∈ c.exceptionTable.toList, False) → zG p l e (headSpec ws rm).room s m args below meth c D cy A maxL 0 0 (zXl below D cy A Z Qp Xp args s rm.cells rm.slots) Z S 0 (lv_args 0 av) []) : zNl l y ws rm D cy Z S sz av Qp Xp := by
  refine vx_ofW (cc := cc) (maxL := maxL) (ret := rt) hy hw ?_
  intro p e s m args below meth c s₁ B hml hT hv
  obtain ⟨rfl, hsz, hP, hD0, hV⟩ := hv
  subst hsz
  have hts := atoms_spec (ws := ws) B.pre
  have hown : s.vm.findClass y.cls = some m.cls := findClass_of_methodNamed B.named
  have hl := lv_entry av (n := maxL) hlen
  rw [lg_entry_eq]
  exact body p e s m av.toArray below meth c (zA cy Z S s.heap.size) ⟨⟨B.exec, B.bytes, hml, hown, hts⟩, hV, fun q h => Or.inr h, B.returns, B.notSynchronized⟩ (name_of_methodNamed B.named B.method).1 hT s.heap [] _ hP hD0.self va_S.rf hl
theorem zNq_of {y : MethodName} {ws ws' : List Cond} {rm : Room} {sz maxL : Nat} {av : List Value} {Qp : Option Nat → zS → Prop} {Xp : String → zS → Prop} (hy : plainName y.cls = true) (hw : ws = Cond.code y cc maxL rt :: ws') (hlen : (lg_sl av).length ≤ maxL)
    (body : ∀ (p : Program) (e : Env) (s : State) (m : MethodId) (args : Array Value) (below : List Frame) (meth : Method) (c : Code) (A : Nat → Prop), zC p s m args meth c cc maxL ws y.cls D cy A rt → meth.name = y.name → (∀ x ∈ c.exceptionTable.toList, False) → zG p l e (headSpec ws rm).room s m args below meth c D cy A maxL 0 0 (zXq below D cy A Z Qp Xp args s rm.cells rm.slots) Z S 0 (lv_args 0 av) []) : zNq l y ws rm D cy Z S sz av Qp Xp := by
  refine vx_ofW (cc := cc) (maxL := maxL) (ret := rt) hy hw ?_
  intro p e s m args below meth c s₁ B hml hT hv
  obtain ⟨rfl, hsz, hP, hD0, hV⟩ := hv
  subst hsz
  have hts := atoms_spec (ws := ws) B.pre
  have hown : s.vm.findClass y.cls = some m.cls := findClass_of_methodNamed B.named
  have hl := lv_entry av (n := maxL) hlen
  rw [lg_entry_eq]
  exact body p e s m av.toArray below meth c (zA cy Z S s.heap.size) ⟨⟨B.exec, B.bytes, hml, hown, hts⟩, hV, fun q h => Or.inr h, B.returns, B.notSynchronized⟩ (name_of_methodNamed B.named B.method).1 hT s.heap [] _ hP hD0.self va_S.rf hl
theorem zNz_of {y : MethodName} {ws ws' : List Cond} {rm : Room} {sz maxL : Nat} {av : List Value} {Qp : Int32 → zZ → zS → Prop} {Xp : String → zS → Prop} (hy : plainName y.cls = true) (hw : ws = Cond.code y cc maxL rt :: ws') (hlen : (lg_sl av).length ≤ maxL)
    (body : ∀ (p : Program) (e : Env) (s : State) (m : MethodId) (args : Array Value) (below : List Frame) (meth : Method) (c : Code) (A : Nat → Prop), zC p s m args meth c cc maxL ws y.cls D cy A rt → meth.name = y.name → (∀ x ∈ c.exceptionTable.toList, False) → zG p l e (headSpec ws rm).room s m args below meth c D cy A maxL 0 0 (zXz below D cy A Z Qp Xp args s rm.cells rm.slots) Z S 0 (lv_args 0 av) []) : zNz l y ws rm D cy Z S sz av Qp Xp := by
  refine vx_ofW (cc := cc) (maxL := maxL) (ret := rt) hy hw ?_
  intro p e s m args below meth c s₁ B hml hT hv
  obtain ⟨rfl, hsz, hP, hD0, hV⟩ := hv
  subst hsz
  have hts := atoms_spec (ws := ws) B.pre
  have hown : s.vm.findClass y.cls = some m.cls := findClass_of_methodNamed B.named
  have hl := lv_entry av (n := maxL) hlen
  rw [lg_entry_eq]
  exact body p e s m av.toArray below meth c (zA cy Z S s.heap.size) ⟨⟨B.exec, B.bytes, hml, hown, hts⟩, hV, fun q h => Or.inr h, B.returns, B.notSynchronized⟩ (name_of_methodNamed B.named B.method).1 hT s.heap [] _ hP hD0.self va_S.rf hl
theorem zMz_of {y : MethodName} {ws ws' : List Cond} {rm : Room} {sz maxL : Nat} {av : List Value} {Qp : zZ → zS → Prop} (hy : plainName y.cls = true) (hw : ws = Cond.code y cc maxL rt :: ws') (hlen : (lg_sl av).length ≤ maxL)
    (body : ∀ (p : Program) (e : Env) (s : State) (m : MethodId) (args : Array Value) (below : List Frame) (meth : Method) (c : Code) (A : Nat → Prop), zC p s m args meth c cc maxL ws y.cls D cy A rt → meth.name = y.name → zG p l e (headSpec ws rm).room s m args below meth c D cy A maxL 0 0 (zQz below D cy A Qp args s rm.cells rm.slots) Z S 0 (lv_args 0 av) []) : zMz l y ws rm D cy Z S sz av Qp := by
  refine Met.ofW (cc := cc) (maxL := maxL) (ret := rt) hy hw ?_
  intro p e s m args below meth c s₁ B hml hv
  obtain ⟨rfl, hsz, hP, hD0, hV⟩ := hv
  subst hsz
  have hts := atoms_spec (ws := ws) B.pre
  have hown : s.vm.findClass y.cls = some m.cls := findClass_of_methodNamed B.named
  have hl := lv_entry av (n := maxL) hlen
  rw [lg_entry_eq]
  exact body p e s m av.toArray below meth c (zA cy Z S s.heap.size) ⟨⟨B.exec, B.bytes, hml, hown, hts⟩, hV, fun q h => Or.inr h, B.returns, B.notSynchronized⟩ (name_of_methodNamed B.named B.method).1 s.heap [] _ hP hD0.self va_S.rf hl
theorem zgx_throw (C0 : zC p s m args meth c cc nL Ts own D cy A rt) {Qc : Array Value → State → Outcome → State → Prop} {Xp : String → zS → Prop} {cls text : String} {ik is ic mc ms : Nat} (hl0 : l.stackTraces = false) (hT : ∀ x ∈ c.exceptionTable.toList, False) (d0 : decode cc pc = .ok (.new ik, 3)) (d3 : decode cc (pc + 3) = .ok (.dup, 1)) (d4 : decode cc (pc + 4) = .ok (.ldc is, 2)) (d6 : decode cc (pc + 6) = .ok (.invokespecial ic, 3)) (d9 : decode cc (pc + 9) = .ok (.athrow, 1)) (hown : own = RX6) (hcls : Bundle.fit cls = true) (hk : Cond.classLink own ik cls ∈ Ts) (hini : Cond.initialized cls ∈ Ts) (hg1 : ∀ w ∈ (vx_atS own ic cls ["java/lang/RuntimeException", "java/lang/Exception"]).filter goodWord, w ∈ Ts) (hg2 : ∀ w ∈ (vx_atS own ic cls ["java/lang/RuntimeException", "java/lang/Exception"]).filter (fun w => !goodWord w), w ∈ zBw) (hgood : ∀ w ∈ Cond.classLink own ik cls :: Cond.initialized cls :: vx_atS own ic cls ["java/lang/RuntimeException", "java/lang/Exception"], vx_ot w = true) (htx : (is, text) ∈ zTx) (hf1 : 5 < R.frames) (hf2 : (st.map fun v => v.category).sum + 82 ≤ R.locals) (hr1 : cells + 1 ≤ R.cells ∧ slots + 6 ≤ R.slots) (hr2 : cells + 1 ≤ mc ∧ slots + 6 ≤ ms) (hX : Xp cls S) : zG p l e R s m args below meth c D cy A nL cells slots (vx_MQ below Qc (zXC D cy A Z Xp) args s mc ms A) Z S (pc) lv (st) := by
  subst hown
  intro H locs ls hP hD hS hl
  obtain ⟨sa, hsa⟩ := C0.2.1.2.2.2.2 _ htx
  exact vx_throwS (names := ["java/lang/RuntimeException", "java/lang/Exception"]) (text := text) (sa := sa) C0.1.1 C0.1.2.1 hl0 C0.1.2.2.2.1 hcls (by decide +kernel) (C0.1.2.2.2.2 _ hk) (C0.1.2.2.2.2 _ hini) hsa (vx_hat (fun w hw => C0.1.2.2.2.2 _ (hg1 w hw)) hg2 (fun w hw => va_Nw.use (zBw_on w hw) (C0.2.1.2.1 w hw))) hgood C0.2.1.2.2.1 C0.2.1.2.2.2.1 hS (hl.1.trans C0.1.2.2.1.symm) d0 d3 d4 d6 d9 (fun x hx => (hT x hx).elim) hf1 hf2 hr1.1 hr1.2 C0.2.2.2.2 (fun t hvm hz hk1 => ⟨S, trivial, ⟨hX, hP.kept (fun k x hx => hk1 x.1 (hP k x hx).lt), hD⟩, ⟨Nat.le_trans hS.1 hz, fun q h1 h2 => (hk1 q (Nat.lt_of_lt_of_le h1 hS.1)).trans (hS.2.1 q h1 h2)⟩⟩) hS.2.2 hr2.1 hr2.2
theorem zgx_callVv (C0 : zC p s m args meth c cc nL Ts own D cy A rt) {Cn : String} {T : u_T} {N ci : Nat} {fs : List Value} {b : Nat} {ret : Option FieldType} {index maxL mc ms k n : Nat} {y : MethodName} {bytes : ByteArray} {ws ws' : List Cond} {rm : Room} (As rest : List Value) {Qp : zS → Prop} {Xp : String → zS → Prop} {Qc : Array Value → State → Outcome → State → Prop} (hT : ∀ x ∈ c.exceptionTable.toList, False) (hdg : decode cc pc = .ok (.invokevirtual index, 3)) (hM : ∀ sz, zNv l y ws rm D cy Z S sz (.ref b :: As) Qp Xp) (hw : ws = Cond.code y bytes maxL ret :: ws') (hG : GoodIn Ts (wsV own index Cn y ws)) (hd : y.cls = Cn ∧ y.cls ≠ "java/lang/invoke/MethodHandle" ∧ y.cls ≠ "java/lang/invoke/VarHandle" ∧ (parseMethodDescriptor y.desc).map (fun d => d.parameters.length) = some As.length) (hb : zk Z b ci) (hF : zF cy Z S b = .inr (ci, fs)) (hc : vwCl[ci]? = some (Cn, T, N)) (hst : st = As.reverse ++ .ref b :: rest) (hR : rm.frames + 1 ≤ R.frames ∧ 8 + (maxL + 11) + rm.locals ≤ R.locals) (hcat : (rest.map fun v => v.category).sum ≤ 8) (hroom : cells + rm.cells ≤ R.cells ∧ slots + rm.slots ≤ R.slots) (hk : cells + rm.cells = k ∧ slots + rm.slots = n) (hr2 : k ≤ mc ∧ n ≤ ms) (hq : pc + 3 = q)
    (kk : ∀ τ, Qp τ → zG p l e R s m args below meth c D cy A nL k n (vx_MQ below Qc (zXC D cy A Z Xp) args s mc ms A) Z τ (q) lv (rest)) : zG p l e R s m args below meth c D cy A nL cells slots (vx_MQ below Qc (zXC D cy A Z Xp) args s mc ms A) Z S (pc) lv (st) := by
  subst hq
  obtain ⟨e1, e2⟩ := hk
  subst e1
  subst e2
  intro H locs ls hP hD hS hl
  obtain ⟨j, hj⟩ := zget hb.1 hF
  have hA1 : ∀ q, zA cy Z S H.size q → A q := zA_sub C0.2.2.1 hD hS
  refine vx_callv (vx_runV (As := As) (rest := rest) C0.1 (hM H.size) (cwV As.length C0.1.2.2.2.2 hG hw rfl rfl hd hR) ⟨zPc_blind, va_recv C0.2.1.1 hP hc hj, fun U hU hW => ⟨rfl, by rw [hU], by rw [hU]; exact hP, hD.weaken (fun _ _ _ _ => trivial), C0.2.1.call hS hA1 hU hW⟩⟩ rfl rfl hl.1 hst (lv_room hcat) hdg hroom) hS (fun q _ h => hA1 q h) hA1 (fun q _ h => hA1 q h) (fun E ce q9 u t H1 locs1 ht hvm _ hB hz1 hk1 hS1 h9 hv9 hc9 => ?_) (fun u t H1 locs1 ht hvm hw hB hz1 hk1 hS1 => ?_)
  · subst ht
    exact vx_out (fun x hx => (hT x hx).elim) C0.2.2.2.2 h9 hv9 hc9 (fun t2 ht2 hvm2 => ⟨u, trivial, ⟨hB.1, by rw [ht2]; exact hB.2.1, hB.2.2.weaken (fun k x hk h => hA1 x.1 h)⟩, hS1.F ht2⟩) hS1.2.2 hr2.1 hr2.2
  · subst ht
    exact kk u hw _ locs1 ls hB.1 (hB.2.weaken (fun k x hk h => hA1 x.1 h)) hS1 hl
theorem zgx_callSv (C0 : zC p s m args meth c cc nL Ts own D cy A rt) {ret : Option FieldType} {index maxL mc ms k n : Nat} {y : MethodName} {bytes : ByteArray} {ws ws' : List Cond} {rm : Room} (As rest : List Value) {Qp : zS → Prop} {Xp : String → zS → Prop} {Qc : Array Value → State → Outcome → State → Prop} (hT : ∀ x ∈ c.exceptionTable.toList, False) (hdg : decode cc pc = .ok (.invokestatic index, 3)) (hM : ∀ sz, zNv l y ws rm D cy Z S sz (As) Qp Xp) (hw : ws = Cond.code y bytes maxL ret :: ws') (hG : GoodIn Ts (va_wsS own index y ws)) (hd : y.cls ≠ "java/lang/invoke/MethodHandle" ∧ y.cls ≠ "java/lang/invoke/VarHandle" ∧ (parseMethodDescriptor y.desc).map (fun d => d.parameters.length) = some As.length) (hst : st = As.reverse ++ rest) (hR : rm.frames + 1 ≤ R.frames ∧ 8 + (maxL + 11) + rm.locals ≤ R.locals) (hcat : (rest.map fun v => v.category).sum ≤ 8) (hroom : cells + rm.cells ≤ R.cells ∧ slots + rm.slots ≤ R.slots) (hk : cells + rm.cells = k ∧ slots + rm.slots = n) (hr2 : k ≤ mc ∧ n ≤ ms) (hq : pc + 3 = q)
    (kk : ∀ τ, Qp τ → zG p l e R s m args below meth c D cy A nL k n (vx_MQ below Qc (zXC D cy A Z Xp) args s mc ms A) Z τ (q) lv (rest)) : zG p l e R s m args below meth c D cy A nL cells slots (vx_MQ below Qc (zXC D cy A Z Xp) args s mc ms A) Z S (pc) lv (st) := by
  subst hq
  obtain ⟨e1, e2⟩ := hk
  subst e1
  subst e2
  intro H locs ls hP hD hS hl
  have hA1 : ∀ q, zA cy Z S H.size q → A q := zA_sub C0.2.2.1 hD hS
  refine vx_callv (vx_runS (As := As) (rest := rest) C0.1 (hM H.size) (va_cwS As.length C0.1.2.2.2.2 hG hw rfl rfl hd hR) ⟨zPc_blind, fun U hU hW => ⟨rfl, by rw [hU], by rw [hU]; exact hP, hD.weaken (fun _ _ _ _ => trivial), C0.2.1.call hS hA1 hU hW⟩⟩ rfl rfl hl.1 hst (lv_room hcat) hdg hroom) hS (fun q _ h => hA1 q h) hA1 (fun q _ h => hA1 q h) (fun E ce q9 u t H1 locs1 ht hvm _ hB hz1 hk1 hS1 h9 hv9 hc9 => ?_) (fun u t H1 locs1 ht hvm hw hB hz1 hk1 hS1 => ?_)
  · subst ht
    exact vx_out (fun x hx => (hT x hx).elim) C0.2.2.2.2 h9 hv9 hc9 (fun t2 ht2 hvm2 => ⟨u, trivial, ⟨hB.1, by rw [ht2]; exact hB.2.1, hB.2.2.weaken (fun k x hk h => hA1 x.1 h)⟩, hS1.F ht2⟩) hS1.2.2 hr2.1 hr2.2
  · subst ht
    exact kk u hw _ locs1 ls hB.1 (hB.2.weaken (fun k x hk h => hA1 x.1 h)) hS1 hl
theorem zgx_callVi (C0 : zC p s m args meth c cc nL Ts own D cy A rt) {Cn : String} {T : u_T} {N ci : Nat} {fs : List Value} {b : Nat} {ret : Option FieldType} {index maxL mc ms k n : Nat} {y : MethodName} {bytes : ByteArray} {ws ws' : List Cond} {rm : Room} (As rest : List Value) {Qp : Int32 → zS → Prop} {Xp : String → zS → Prop} {Qc : Array Value → State → Outcome → State → Prop} (hT : ∀ x ∈ c.exceptionTable.toList, False) (hdg : decode cc pc = .ok (.invokevirtual index, 3)) (hM : ∀ sz, zNi l y ws rm D cy Z S sz (.ref b :: As) Qp Xp) (hw : ws = Cond.code y bytes maxL ret :: ws') (hG : GoodIn Ts (wsV own index Cn y ws)) (hd : y.cls = Cn ∧ y.cls ≠ "java/lang/invoke/MethodHandle" ∧ y.cls ≠ "java/lang/invoke/VarHandle" ∧ (parseMethodDescriptor y.desc).map (fun d => d.parameters.length) = some As.length) (hb : zk Z b ci) (hF : zF cy Z S b = .inr (ci, fs)) (hc : vwCl[ci]? = some (Cn, T, N)) (hst : st = As.reverse ++ .ref b :: rest) (hR : rm.frames + 1 ≤ R.frames ∧ 8 + (maxL + 11) + rm.locals ≤ R.locals) (hcat : (rest.map fun v => v.category).sum ≤ 8) (hroom : cells + rm.cells ≤ R.cells ∧ slots + rm.slots ≤ R.slots) (hk : cells + rm.cells = k ∧ slots + rm.slots = n) (hr2 : k ≤ mc ∧ n ≤ ms) (hq : pc + 3 = q)
    (kk : ∀ r τ, Qp r τ → zG p l e R s m args below meth c D cy A nL k n (vx_MQ below Qc (zXC D cy A Z Xp) args s mc ms A) Z τ (q) lv (.int r :: rest)) : zG p l e R s m args below meth c D cy A nL cells slots (vx_MQ below Qc (zXC D cy A Z Xp) args s mc ms A) Z S (pc) lv (st) := by
  subst hq
  obtain ⟨e1, e2⟩ := hk
  subst e1
  subst e2
  intro H locs ls hP hD hS hl
  obtain ⟨j, hj⟩ := zget hb.1 hF
  have hA1 : ∀ q, zA cy Z S H.size q → A q := zA_sub C0.2.2.1 hD hS
  refine vx_calli (vx_runV (As := As) (rest := rest) C0.1 (hM H.size) (cwV As.length C0.1.2.2.2.2 hG hw rfl rfl hd hR) ⟨zPc_blind, va_recv C0.2.1.1 hP hc hj, fun U hU hW => ⟨rfl, by rw [hU], by rw [hU]; exact hP, hD.weaken (fun _ _ _ _ => trivial), C0.2.1.call hS hA1 hU hW⟩⟩ rfl rfl hl.1 hst (lv_room hcat) hdg hroom) hS (fun q _ h => hA1 q h) hA1 (fun q _ h => hA1 q h) (fun E ce q9 u t H1 locs1 ht hvm _ hB hz1 hk1 hS1 h9 hv9 hc9 => ?_) (fun r u t H1 locs1 ht hvm hw hB hz1 hk1 hS1 => ?_)
  · subst ht
    exact vx_out (fun x hx => (hT x hx).elim) C0.2.2.2.2 h9 hv9 hc9 (fun t2 ht2 hvm2 => ⟨u, trivial, ⟨hB.1, by rw [ht2]; exact hB.2.1, hB.2.2.weaken (fun k x hk h => hA1 x.1 h)⟩, hS1.F ht2⟩) hS1.2.2 hr2.1 hr2.2
  · subst ht
    exact kk r u hw _ locs1 ls hB.1 (hB.2.weaken (fun k x hk h => hA1 x.1 h)) hS1 hl
theorem zgx_callSi (C0 : zC p s m args meth c cc nL Ts own D cy A rt) {ret : Option FieldType} {index maxL mc ms k n : Nat} {y : MethodName} {bytes : ByteArray} {ws ws' : List Cond} {rm : Room} (As rest : List Value) {Qp : Int32 → zS → Prop} {Xp : String → zS → Prop} {Qc : Array Value → State → Outcome → State → Prop} (hT : ∀ x ∈ c.exceptionTable.toList, False) (hdg : decode cc pc = .ok (.invokestatic index, 3)) (hM : ∀ sz, zNi l y ws rm D cy Z S sz (As) Qp Xp) (hw : ws = Cond.code y bytes maxL ret :: ws') (hG : GoodIn Ts (va_wsS own index y ws)) (hd : y.cls ≠ "java/lang/invoke/MethodHandle" ∧ y.cls ≠ "java/lang/invoke/VarHandle" ∧ (parseMethodDescriptor y.desc).map (fun d => d.parameters.length) = some As.length) (hst : st = As.reverse ++ rest) (hR : rm.frames + 1 ≤ R.frames ∧ 8 + (maxL + 11) + rm.locals ≤ R.locals) (hcat : (rest.map fun v => v.category).sum ≤ 8) (hroom : cells + rm.cells ≤ R.cells ∧ slots + rm.slots ≤ R.slots) (hk : cells + rm.cells = k ∧ slots + rm.slots = n) (hr2 : k ≤ mc ∧ n ≤ ms) (hq : pc + 3 = q)
    (kk : ∀ r τ, Qp r τ → zG p l e R s m args below meth c D cy A nL k n (vx_MQ below Qc (zXC D cy A Z Xp) args s mc ms A) Z τ (q) lv (.int r :: rest)) : zG p l e R s m args below meth c D cy A nL cells slots (vx_MQ below Qc (zXC D cy A Z Xp) args s mc ms A) Z S (pc) lv (st) := by
  subst hq
  obtain ⟨e1, e2⟩ := hk
  subst e1
  subst e2
  intro H locs ls hP hD hS hl
  have hA1 : ∀ q, zA cy Z S H.size q → A q := zA_sub C0.2.2.1 hD hS
  refine vx_calli (vx_runS (As := As) (rest := rest) C0.1 (hM H.size) (va_cwS As.length C0.1.2.2.2.2 hG hw rfl rfl hd hR) ⟨zPc_blind, fun U hU hW => ⟨rfl, by rw [hU], by rw [hU]; exact hP, hD.weaken (fun _ _ _ _ => trivial), C0.2.1.call hS hA1 hU hW⟩⟩ rfl rfl hl.1 hst (lv_room hcat) hdg hroom) hS (fun q _ h => hA1 q h) hA1 (fun q _ h => hA1 q h) (fun E ce q9 u t H1 locs1 ht hvm _ hB hz1 hk1 hS1 h9 hv9 hc9 => ?_) (fun r u t H1 locs1 ht hvm hw hB hz1 hk1 hS1 => ?_)
  · subst ht
    exact vx_out (fun x hx => (hT x hx).elim) C0.2.2.2.2 h9 hv9 hc9 (fun t2 ht2 hvm2 => ⟨u, trivial, ⟨hB.1, by rw [ht2]; exact hB.2.1, hB.2.2.weaken (fun k x hk h => hA1 x.1 h)⟩, hS1.F ht2⟩) hS1.2.2 hr2.1 hr2.2
  · subst ht
    exact kk r u hw _ locs1 ls hB.1 (hB.2.weaken (fun k x hk h => hA1 x.1 h)) hS1 hl
theorem zgx_callVl (C0 : zC p s m args meth c cc nL Ts own D cy A rt) {Cn : String} {T : u_T} {N ci : Nat} {fs : List Value} {b : Nat} {ret : Option FieldType} {index maxL mc ms k n : Nat} {y : MethodName} {bytes : ByteArray} {ws ws' : List Cond} {rm : Room} (As rest : List Value) {Qp : Int64 → zS → Prop} {Xp : String → zS → Prop} {Qc : Array Value → State → Outcome → State → Prop} (hT : ∀ x ∈ c.exceptionTable.toList, False) (hdg : decode cc pc = .ok (.invokevirtual index, 3)) (hM : ∀ sz, zNl l y ws rm D cy Z S sz (.ref b :: As) Qp Xp) (hw : ws = Cond.code y bytes maxL ret :: ws') (hG : GoodIn Ts (wsV own index Cn y ws)) (hd : y.cls = Cn ∧ y.cls ≠ "java/lang/invoke/MethodHandle" ∧ y.cls ≠ "java/lang/invoke/VarHandle" ∧ (parseMethodDescriptor y.desc).map (fun d => d.parameters.length) = some As.length) (hb : zk Z b ci) (hF : zF cy Z S b = .inr (ci, fs)) (hc : vwCl[ci]? = some (Cn, T, N)) (hst : st = As.reverse ++ .ref b :: rest) (hR : rm.frames + 1 ≤ R.frames ∧ 8 + (maxL + 11) + rm.locals ≤ R.locals) (hcat : (rest.map fun v => v.category).sum ≤ 8) (hroom : cells + rm.cells ≤ R.cells ∧ slots + rm.slots ≤ R.slots) (hk : cells + rm.cells = k ∧ slots + rm.slots = n) (hr2 : k ≤ mc ∧ n ≤ ms) (hq : pc + 3 = q)
    (kk : ∀ r τ, Qp r τ → zG p l e R s m args below meth c D cy A nL k n (vx_MQ below Qc (zXC D cy A Z Xp) args s mc ms A) Z τ (q) lv (.long r :: rest)) : zG p l e R s m args below meth c D cy A nL cells slots (vx_MQ below Qc (zXC D cy A Z Xp) args s mc ms A) Z S (pc) lv (st) := by
  subst hq
  obtain ⟨e1, e2⟩ := hk
  subst e1
  subst e2
  intro H locs ls hP hD hS hl
  obtain ⟨j, hj⟩ := zget hb.1 hF
  have hA1 : ∀ q, zA cy Z S H.size q → A q := zA_sub C0.2.2.1 hD hS
  refine vx_calll (vx_runV (As := As) (rest := rest) C0.1 (hM H.size) (cwV As.length C0.1.2.2.2.2 hG hw rfl rfl hd hR) ⟨zPc_blind, va_recv C0.2.1.1 hP hc hj, fun U hU hW => ⟨rfl, by rw [hU], by rw [hU]; exact hP, hD.weaken (fun _ _ _ _ => trivial), C0.2.1.call hS hA1 hU hW⟩⟩ rfl rfl hl.1 hst (lv_room hcat) hdg hroom) hS (fun q _ h => hA1 q h) hA1 (fun q _ h => hA1 q h) (fun E ce q9 u t H1 locs1 ht hvm _ hB hz1 hk1 hS1 h9 hv9 hc9 => ?_) (fun r u t H1 locs1 ht hvm hw hB hz1 hk1 hS1 => ?_)
  · subst ht
    exact vx_out (fun x hx => (hT x hx).elim) C0.2.2.2.2 h9 hv9 hc9 (fun t2 ht2 hvm2 => ⟨u, trivial, ⟨hB.1, by rw [ht2]; exact hB.2.1, hB.2.2.weaken (fun k x hk h => hA1 x.1 h)⟩, hS1.F ht2⟩) hS1.2.2 hr2.1 hr2.2
  · subst ht
    exact kk r u hw _ locs1 ls hB.1 (hB.2.weaken (fun k x hk h => hA1 x.1 h)) hS1 hl
theorem zgx_callSl (C0 : zC p s m args meth c cc nL Ts own D cy A rt) {ret : Option FieldType} {index maxL mc ms k n : Nat} {y : MethodName} {bytes : ByteArray} {ws ws' : List Cond} {rm : Room} (As rest : List Value) {Qp : Int64 → zS → Prop} {Xp : String → zS → Prop} {Qc : Array Value → State → Outcome → State → Prop} (hT : ∀ x ∈ c.exceptionTable.toList, False) (hdg : decode cc pc = .ok (.invokestatic index, 3)) (hM : ∀ sz, zNl l y ws rm D cy Z S sz (As) Qp Xp) (hw : ws = Cond.code y bytes maxL ret :: ws') (hG : GoodIn Ts (va_wsS own index y ws)) (hd : y.cls ≠ "java/lang/invoke/MethodHandle" ∧ y.cls ≠ "java/lang/invoke/VarHandle" ∧ (parseMethodDescriptor y.desc).map (fun d => d.parameters.length) = some As.length) (hst : st = As.reverse ++ rest) (hR : rm.frames + 1 ≤ R.frames ∧ 8 + (maxL + 11) + rm.locals ≤ R.locals) (hcat : (rest.map fun v => v.category).sum ≤ 8) (hroom : cells + rm.cells ≤ R.cells ∧ slots + rm.slots ≤ R.slots) (hk : cells + rm.cells = k ∧ slots + rm.slots = n) (hr2 : k ≤ mc ∧ n ≤ ms) (hq : pc + 3 = q)
    (kk : ∀ r τ, Qp r τ → zG p l e R s m args below meth c D cy A nL k n (vx_MQ below Qc (zXC D cy A Z Xp) args s mc ms A) Z τ (q) lv (.long r :: rest)) : zG p l e R s m args below meth c D cy A nL cells slots (vx_MQ below Qc (zXC D cy A Z Xp) args s mc ms A) Z S (pc) lv (st) := by
  subst hq
  obtain ⟨e1, e2⟩ := hk
  subst e1
  subst e2
  intro H locs ls hP hD hS hl
  have hA1 : ∀ q, zA cy Z S H.size q → A q := zA_sub C0.2.2.1 hD hS
  refine vx_calll (vx_runS (As := As) (rest := rest) C0.1 (hM H.size) (va_cwS As.length C0.1.2.2.2.2 hG hw rfl rfl hd hR) ⟨zPc_blind, fun U hU hW => ⟨rfl, by rw [hU], by rw [hU]; exact hP, hD.weaken (fun _ _ _ _ => trivial), C0.2.1.call hS hA1 hU hW⟩⟩ rfl rfl hl.1 hst (lv_room hcat) hdg hroom) hS (fun q _ h => hA1 q h) hA1 (fun q _ h => hA1 q h) (fun E ce q9 u t H1 locs1 ht hvm _ hB hz1 hk1 hS1 h9 hv9 hc9 => ?_) (fun r u t H1 locs1 ht hvm hw hB hz1 hk1 hS1 => ?_)
  · subst ht
    exact vx_out (fun x hx => (hT x hx).elim) C0.2.2.2.2 h9 hv9 hc9 (fun t2 ht2 hvm2 => ⟨u, trivial, ⟨hB.1, by rw [ht2]; exact hB.2.1, hB.2.2.weaken (fun k x hk h => hA1 x.1 h)⟩, hS1.F ht2⟩) hS1.2.2 hr2.1 hr2.2
  · subst ht
    exact kk r u hw _ locs1 ls hB.1 (hB.2.weaken (fun k x hk h => hA1 x.1 h)) hS1 hl
theorem zgx_callVq (C0 : zC p s m args meth c cc nL Ts own D cy A rt) {Cn : String} {T : u_T} {N ci : Nat} {fs : List Value} {b : Nat} {ret : Option FieldType} {index maxL mc ms k n : Nat} {y : MethodName} {bytes : ByteArray} {ws ws' : List Cond} {rm : Room} (As rest : List Value) {Qp : Option Nat → zS → Prop} {Xp : String → zS → Prop} {Qc : Array Value → State → Outcome → State → Prop} (hT : ∀ x ∈ c.exceptionTable.toList, False) (hdg : decode cc pc = .ok (.invokevirtual index, 3)) (hM : ∀ sz, zNq l y ws rm D cy Z S sz (.ref b :: As) Qp Xp) (hw : ws = Cond.code y bytes maxL ret :: ws') (hG : GoodIn Ts (wsV own index Cn y ws)) (hd : y.cls = Cn ∧ y.cls ≠ "java/lang/invoke/MethodHandle" ∧ y.cls ≠ "java/lang/invoke/VarHandle" ∧ (parseMethodDescriptor y.desc).map (fun d => d.parameters.length) = some As.length) (hb : zk Z b ci) (hF : zF cy Z S b = .inr (ci, fs)) (hc : vwCl[ci]? = some (Cn, T, N)) (hst : st = As.reverse ++ .ref b :: rest) (hR : rm.frames + 1 ≤ R.frames ∧ 8 + (maxL + 11) + rm.locals ≤ R.locals) (hcat : (rest.map fun v => v.category).sum ≤ 8) (hroom : cells + rm.cells ≤ R.cells ∧ slots + rm.slots ≤ R.slots) (hk : cells + rm.cells = k ∧ slots + rm.slots = n) (hr2 : k ≤ mc ∧ n ≤ ms) (hq : pc + 3 = q)
    (kk : ∀ r τ, Qp r τ → zG p l e R s m args below meth c D cy A nL k n (vx_MQ below Qc (zXC D cy A Z Xp) args s mc ms A) Z τ (q) lv (va_rf r :: rest)) : zG p l e R s m args below meth c D cy A nL cells slots (vx_MQ below Qc (zXC D cy A Z Xp) args s mc ms A) Z S (pc) lv (st) := by
  subst hq
  obtain ⟨e1, e2⟩ := hk
  subst e1
  subst e2
  intro H locs ls hP hD hS hl
  obtain ⟨j, hj⟩ := zget hb.1 hF
  have hA1 : ∀ q, zA cy Z S H.size q → A q := zA_sub C0.2.2.1 hD hS
  refine vx_callq (vx_runV (As := As) (rest := rest) C0.1 (hM H.size) (cwV As.length C0.1.2.2.2.2 hG hw rfl rfl hd hR) ⟨zPc_blind, va_recv C0.2.1.1 hP hc hj, fun U hU hW => ⟨rfl, by rw [hU], by rw [hU]; exact hP, hD.weaken (fun _ _ _ _ => trivial), C0.2.1.call hS hA1 hU hW⟩⟩ rfl rfl hl.1 hst (lv_room hcat) hdg hroom) hS (fun q _ h => hA1 q h) hA1 (fun q _ h => hA1 q h) (fun E ce q9 u t H1 locs1 ht hvm _ hB hz1 hk1 hS1 h9 hv9 hc9 => ?_) (fun r u t H1 locs1 ht hvm hw hB hz1 hk1 hS1 => ?_)
  · subst ht
    exact vx_out (fun x hx => (hT x hx).elim) C0.2.2.2.2 h9 hv9 hc9 (fun t2 ht2 hvm2 => ⟨u, trivial, ⟨hB.1, by rw [ht2]; exact hB.2.1, hB.2.2.weaken (fun k x hk h => hA1 x.1 h)⟩, hS1.F ht2⟩) hS1.2.2 hr2.1 hr2.2
  · subst ht
    exact kk r u hw _ locs1 ls hB.1 (hB.2.weaken (fun k x hk h => hA1 x.1 h)) hS1 hl
theorem zgx_callSq (C0 : zC p s m args meth c cc nL Ts own D cy A rt) {ret : Option FieldType} {index maxL mc ms k n : Nat} {y : MethodName} {bytes : ByteArray} {ws ws' : List Cond} {rm : Room} (As rest : List Value) {Qp : Option Nat → zS → Prop} {Xp : String → zS → Prop} {Qc : Array Value → State → Outcome → State → Prop} (hT : ∀ x ∈ c.exceptionTable.toList, False) (hdg : decode cc pc = .ok (.invokestatic index, 3)) (hM : ∀ sz, zNq l y ws rm D cy Z S sz (As) Qp Xp) (hw : ws = Cond.code y bytes maxL ret :: ws') (hG : GoodIn Ts (va_wsS own index y ws)) (hd : y.cls ≠ "java/lang/invoke/MethodHandle" ∧ y.cls ≠ "java/lang/invoke/VarHandle" ∧ (parseMethodDescriptor y.desc).map (fun d => d.parameters.length) = some As.length) (hst : st = As.reverse ++ rest) (hR : rm.frames + 1 ≤ R.frames ∧ 8 + (maxL + 11) + rm.locals ≤ R.locals) (hcat : (rest.map fun v => v.category).sum ≤ 8) (hroom : cells + rm.cells ≤ R.cells ∧ slots + rm.slots ≤ R.slots) (hk : cells + rm.cells = k ∧ slots + rm.slots = n) (hr2 : k ≤ mc ∧ n ≤ ms) (hq : pc + 3 = q)
    (kk : ∀ r τ, Qp r τ → zG p l e R s m args below meth c D cy A nL k n (vx_MQ below Qc (zXC D cy A Z Xp) args s mc ms A) Z τ (q) lv (va_rf r :: rest)) : zG p l e R s m args below meth c D cy A nL cells slots (vx_MQ below Qc (zXC D cy A Z Xp) args s mc ms A) Z S (pc) lv (st) := by
  subst hq
  obtain ⟨e1, e2⟩ := hk
  subst e1
  subst e2
  intro H locs ls hP hD hS hl
  have hA1 : ∀ q, zA cy Z S H.size q → A q := zA_sub C0.2.2.1 hD hS
  refine vx_callq (vx_runS (As := As) (rest := rest) C0.1 (hM H.size) (va_cwS As.length C0.1.2.2.2.2 hG hw rfl rfl hd hR) ⟨zPc_blind, fun U hU hW => ⟨rfl, by rw [hU], by rw [hU]; exact hP, hD.weaken (fun _ _ _ _ => trivial), C0.2.1.call hS hA1 hU hW⟩⟩ rfl rfl hl.1 hst (lv_room hcat) hdg hroom) hS (fun q _ h => hA1 q h) hA1 (fun q _ h => hA1 q h) (fun E ce q9 u t H1 locs1 ht hvm _ hB hz1 hk1 hS1 h9 hv9 hc9 => ?_) (fun r u t H1 locs1 ht hvm hw hB hz1 hk1 hS1 => ?_)
  · subst ht
    exact vx_out (fun x hx => (hT x hx).elim) C0.2.2.2.2 h9 hv9 hc9 (fun t2 ht2 hvm2 => ⟨u, trivial, ⟨hB.1, by rw [ht2]; exact hB.2.1, hB.2.2.weaken (fun k x hk h => hA1 x.1 h)⟩, hS1.F ht2⟩) hS1.2.2 hr2.1 hr2.2
  · subst ht
    exact kk r u hw _ locs1 ls hB.1 (hB.2.weaken (fun k x hk h => hA1 x.1 h)) hS1 hl
theorem zFal (cy : Nat → ClassId) (Z : zZ) (S : zS) (a k n : Nat) : ∀ b, b ≠ a → zF cy (zalZ Z a k n) (zalS S a) b = zF cy Z S b := fun b h => zF_cong cy (va_up_ne _ _ h) (va_up_ne _ _ h) (va_up_ne _ _ h) (va_up_ne _ _ h) (va_up_ne _ _ h) (va_up_ne _ _ h)
theorem zpush {cy : Nat → ClassId} {Z : zZ} {S : zS} {a k n : Nat} {e : va_E} (h : a ∉ zL Z) (he : zF cy (zalZ Z a k n) (zalS S a) a = e) : zW cy Z S ++ [(a, e)] = zW cy (zalZ Z a k n) (zalS S a) := by
  unfold zW
  rw [va_pl_push h]
  show va_pl (zL Z ++ [a]) _ = va_pl (zL Z ++ [a]) _
  refine va_pl_congr (fun b => ?_)
  by_cases hb : b = a
  · subst hb
    rw [va_up_self, he]
  · rw [va_up_ne _ _ hb, zFal cy Z S a k n b hb]
theorem zk_al (Z : zZ) (a k n : Nat) : zk (zalZ Z a k n) a k := ⟨List.mem_append_right _ (List.mem_singleton.mpr rfl), va_up_self _ _ _⟩
theorem zk_old {Z : zZ} {a k n b j : Nat} (h : zk Z b j) (ha : a ∉ zL Z) : zk (zalZ Z a k n) b j := ⟨List.mem_append_left _ h.1, (va_up_ne _ _ (fun q : b = a => ha (q ▸ h.1))).trans h.2⟩
theorem zfresh {cy : Nat → ClassId} {Z : zZ} {S : zS} {A : Nat → Prop} {a : Nat} {e : va_E} (hD : va_D A (zW cy Z S ++ [(a, e)])) : a ∉ zL Z := va_pl_fresh2 (X := []) (f := zF cy Z S) hD
theorem zfs_al0 (Z : zZ) (S : zS) (a : Nat) : zfs (zalZ Z a 0 2) (zalS S a) a 0 = [.null, .int 0] := by
  simp [zfs, zalZ, zalS, zQ, zI, zJ, zR, va_up_self, va_rf]
theorem zdef0 : ∀ j, j < 2 → defaultValue (tyX0 j) = vp_V [.null, .int 0] j := by decide +kernel
theorem zg_new0 (C0 : zC p s m args meth c cc nL Ts own D cy A rt) {index : Nat} (hdg : decode cc pc = .ok (.new index, 3)) (hcl : Cond.classLink own index RX0 ∈ Ts) (hinst : Cond.instantiable RX0 2 ∈ Ts) (hini : Cond.initialized RX0 ∈ Ts) (hin : ∀ w ∈ u_ws RX0 TX0 2, w ∈ Ts) {k j : Nat} (hro : cells + 1 = k ∧ slots + 2 = j) (hro2 : k ≤ R.cells ∧ j ≤ R.slots) (hq : pc + 3 = q) (kk : ∀ a, a ∉ zL Z → ∀ Z' S', Z' = zalZ Z a 0 2 → S' = zalS S a → zG p l e R s m args below meth c D cy A nL k j Q Z' S' (q) lv (.ref a :: st)) : zG p l e R s m args below meth c D cy A nL cells slots Q Z S (pc) lv (st) := by
  subst hq
  obtain ⟨e1, e2⟩ := hro
  subst e1
  subst e2
  intro H locs ls hP hD hS hl
  refine va_new (D := D) (cl := vwCl) (ci := 0) (N := 2) (fs := [.null, .int 0]) C0.1.1 C0.1.2.1 C0.1.2.2.2.2 hin tyX0 tyX0_ok C0.1.2.2.2.1 (C0.1.2.2.2.2 _ hcl) (C0.1.2.2.2.2 _ hinst) (C0.1.2.2.2.2 _ hini) C0.2.1.1 hP hD hS C0.2.2.1 rfl (zdef0) hro2.1 hro2.2 hdg (fun a H1 hP1 hD1 hS1 => ?_)
  have ha := zfresh hD1
  have hp := zpush (k := 0) (n := 2) ha ((zF_0 cy (S := zalS S a) (zk_al Z a 0 2)).trans (by rw [zfs_al0]))
  exact kk a ha _ _ rfl rfl H1 locs ls (hp ▸ hP1) (hp ▸ hD1) hS1 hl
theorem zfs_al1 (Z : zZ) (S : zS) (a : Nat) : zfs (zalZ Z a 1 4) (zalS S a) a 1 = [.int 0, .int 0, .long 0, .int 0] := by
  simp [zfs, zalZ, zalS, zQ, zI, zJ, zR, va_up_self, va_rf]
theorem zdef1 : ∀ j, j < 4 → defaultValue (tyX1 j) = vp_V [.int 0, .int 0, .long 0, .int 0] j := by decide +kernel
theorem zg_new1 (C0 : zC p s m args meth c cc nL Ts own D cy A rt) {index : Nat} (hdg : decode cc pc = .ok (.new index, 3)) (hcl : Cond.classLink own index RX1 ∈ Ts) (hinst : Cond.instantiable RX1 4 ∈ Ts) (hini : Cond.initialized RX1 ∈ Ts) (hin : ∀ w ∈ u_ws RX1 TX1 4, w ∈ Ts) {k j : Nat} (hro : cells + 1 = k ∧ slots + 4 = j) (hro2 : k ≤ R.cells ∧ j ≤ R.slots) (hq : pc + 3 = q) (kk : ∀ a, a ∉ zL Z → ∀ Z' S', Z' = zalZ Z a 1 4 → S' = zalS S a → zG p l e R s m args below meth c D cy A nL k j Q Z' S' (q) lv (.ref a :: st)) : zG p l e R s m args below meth c D cy A nL cells slots Q Z S (pc) lv (st) := by
  subst hq
  obtain ⟨e1, e2⟩ := hro
  subst e1
  subst e2
  intro H locs ls hP hD hS hl
  refine va_new (D := D) (cl := vwCl) (ci := 1) (N := 4) (fs := [.int 0, .int 0, .long 0, .int 0]) C0.1.1 C0.1.2.1 C0.1.2.2.2.2 hin tyX1 tyX1_ok C0.1.2.2.2.1 (C0.1.2.2.2.2 _ hcl) (C0.1.2.2.2.2 _ hinst) (C0.1.2.2.2.2 _ hini) C0.2.1.1 hP hD hS C0.2.2.1 rfl (zdef1) hro2.1 hro2.2 hdg (fun a H1 hP1 hD1 hS1 => ?_)
  have ha := zfresh hD1
  have hp := zpush (k := 1) (n := 4) ha ((zF_1 cy (S := zalS S a) (zk_al Z a 1 4)).trans (by rw [zfs_al1]))
  exact kk a ha _ _ rfl rfl H1 locs ls (hp ▸ hP1) (hp ▸ hD1) hS1 hl
theorem zfs_al2 (Z : zZ) (S : zS) (a : Nat) : zfs (zalZ Z a 2 13) (zalS S a) a 2 = [.int 0, .null, .null, .null, .null, .int 0, .int 0, .null, .int 0, .int 0, .int 0, .int 0, .int 0] := by
  simp [zfs, zalZ, zalS, zQ, zI, zJ, zR, va_up_self, va_rf]
theorem zdef2 : ∀ j, j < 13 → defaultValue (tyX2 j) = vp_V [.int 0, .null, .null, .null, .null, .int 0, .int 0, .null, .int 0, .int 0, .int 0, .int 0, .int 0] j := by decide +kernel
theorem zg_new2 (C0 : zC p s m args meth c cc nL Ts own D cy A rt) {index : Nat} (hdg : decode cc pc = .ok (.new index, 3)) (hcl : Cond.classLink own index RX2 ∈ Ts) (hinst : Cond.instantiable RX2 13 ∈ Ts) (hini : Cond.initialized RX2 ∈ Ts) (hin : ∀ w ∈ u_ws RX2 TX2 13, w ∈ Ts) {k j : Nat} (hro : cells + 1 = k ∧ slots + 13 = j) (hro2 : k ≤ R.cells ∧ j ≤ R.slots) (hq : pc + 3 = q) (kk : ∀ a, a ∉ zL Z → ∀ Z' S', Z' = zalZ Z a 2 13 → S' = zalS S a → zG p l e R s m args below meth c D cy A nL k j Q Z' S' (q) lv (.ref a :: st)) : zG p l e R s m args below meth c D cy A nL cells slots Q Z S (pc) lv (st) := by
  subst hq
  obtain ⟨e1, e2⟩ := hro
  subst e1
  subst e2
  intro H locs ls hP hD hS hl
  refine va_new (D := D) (cl := vwCl) (ci := 2) (N := 13) (fs := [.int 0, .null, .null, .null, .null, .int 0, .int 0, .null, .int 0, .int 0, .int 0, .int 0, .int 0]) C0.1.1 C0.1.2.1 C0.1.2.2.2.2 hin tyX2 tyX2_ok C0.1.2.2.2.1 (C0.1.2.2.2.2 _ hcl) (C0.1.2.2.2.2 _ hinst) (C0.1.2.2.2.2 _ hini) C0.2.1.1 hP hD hS C0.2.2.1 rfl (zdef2) hro2.1 hro2.2 hdg (fun a H1 hP1 hD1 hS1 => ?_)
  have ha := zfresh hD1
  have hp := zpush (k := 2) (n := 13) ha ((zF_2 cy (S := zalS S a) (zk_al Z a 2 13)).trans (by rw [zfs_al2]))
  exact kk a ha _ _ rfl rfl H1 locs ls (hp ▸ hP1) (hp ▸ hD1) hS1 hl
theorem zfs_al3 (Z : zZ) (S : zS) (a : Nat) : zfs (zalZ Z a 3 2) (zalS S a) a 3 = [.null, .int 0] := by
  simp [zfs, zalZ, zalS, zQ, zI, zJ, zR, va_up_self, va_rf]
theorem zdef3 : ∀ j, j < 2 → defaultValue (tyX3 j) = vp_V [.null, .int 0] j := by decide +kernel
theorem zg_new3 (C0 : zC p s m args meth c cc nL Ts own D cy A rt) {index : Nat} (hdg : decode cc pc = .ok (.new index, 3)) (hcl : Cond.classLink own index RX3 ∈ Ts) (hinst : Cond.instantiable RX3 2 ∈ Ts) (hini : Cond.initialized RX3 ∈ Ts) (hin : ∀ w ∈ u_ws RX3 TX3 2, w ∈ Ts) {k j : Nat} (hro : cells + 1 = k ∧ slots + 2 = j) (hro2 : k ≤ R.cells ∧ j ≤ R.slots) (hq : pc + 3 = q) (kk : ∀ a, a ∉ zL Z → ∀ Z' S', Z' = zalZ Z a 3 2 → S' = zalS S a → zG p l e R s m args below meth c D cy A nL k j Q Z' S' (q) lv (.ref a :: st)) : zG p l e R s m args below meth c D cy A nL cells slots Q Z S (pc) lv (st) := by
  subst hq
  obtain ⟨e1, e2⟩ := hro
  subst e1
  subst e2
  intro H locs ls hP hD hS hl
  refine va_new (D := D) (cl := vwCl) (ci := 3) (N := 2) (fs := [.null, .int 0]) C0.1.1 C0.1.2.1 C0.1.2.2.2.2 hin tyX3 tyX3_ok C0.1.2.2.2.1 (C0.1.2.2.2.2 _ hcl) (C0.1.2.2.2.2 _ hinst) (C0.1.2.2.2.2 _ hini) C0.2.1.1 hP hD hS C0.2.2.1 rfl (zdef3) hro2.1 hro2.2 hdg (fun a H1 hP1 hD1 hS1 => ?_)
  have ha := zfresh hD1
  have hp := zpush (k := 3) (n := 2) ha ((zF_3 cy (S := zalS S a) (zk_al Z a 3 2)).trans (by rw [zfs_al3]))
  exact kk a ha _ _ rfl rfl H1 locs ls (hp ▸ hP1) (hp ▸ hD1) hS1 hl
theorem zfs_al4 (Z : zZ) (S : zS) (a : Nat) : zfs (zalZ Z a 4 5) (zalS S a) a 4 = [.null, .null, .int 0, .long 0, .int 0] := by
  simp [zfs, zalZ, zalS, zQ, zI, zJ, zR, va_up_self, va_rf]
theorem zdef4 : ∀ j, j < 5 → defaultValue (tyX4 j) = vp_V [.null, .null, .int 0, .long 0, .int 0] j := by decide +kernel
theorem zg_new4 (C0 : zC p s m args meth c cc nL Ts own D cy A rt) {index : Nat} (hdg : decode cc pc = .ok (.new index, 3)) (hcl : Cond.classLink own index RX4 ∈ Ts) (hinst : Cond.instantiable RX4 5 ∈ Ts) (hini : Cond.initialized RX4 ∈ Ts) (hin : ∀ w ∈ u_ws RX4 TX4 5, w ∈ Ts) {k j : Nat} (hro : cells + 1 = k ∧ slots + 5 = j) (hro2 : k ≤ R.cells ∧ j ≤ R.slots) (hq : pc + 3 = q) (kk : ∀ a, a ∉ zL Z → ∀ Z' S', Z' = zalZ Z a 4 5 → S' = zalS S a → zG p l e R s m args below meth c D cy A nL k j Q Z' S' (q) lv (.ref a :: st)) : zG p l e R s m args below meth c D cy A nL cells slots Q Z S (pc) lv (st) := by
  subst hq
  obtain ⟨e1, e2⟩ := hro
  subst e1
  subst e2
  intro H locs ls hP hD hS hl
  refine va_new (D := D) (cl := vwCl) (ci := 4) (N := 5) (fs := [.null, .null, .int 0, .long 0, .int 0]) C0.1.1 C0.1.2.1 C0.1.2.2.2.2 hin tyX4 tyX4_ok C0.1.2.2.2.1 (C0.1.2.2.2.2 _ hcl) (C0.1.2.2.2.2 _ hinst) (C0.1.2.2.2.2 _ hini) C0.2.1.1 hP hD hS C0.2.2.1 rfl (zdef4) hro2.1 hro2.2 hdg (fun a H1 hP1 hD1 hS1 => ?_)
  have ha := zfresh hD1
  have hp := zpush (k := 4) (n := 5) ha ((zF_4 cy (S := zalS S a) (zk_al Z a 4 5)).trans (by rw [zfs_al4]))
  exact kk a ha _ _ rfl rfl H1 locs ls (hp ▸ hP1) (hp ▸ hD1) hS1 hl
theorem zfs_al5 (Z : zZ) (S : zS) (a : Nat) : zfs (zalZ Z a 5 6) (zalS S a) a 5 = [.null, .null, .int 0, .int 0, .int 0, .int 0] := by
  simp [zfs, zalZ, zalS, zQ, zI, zJ, zR, va_up_self, va_rf]
theorem zdef5 : ∀ j, j < 6 → defaultValue (tyX5 j) = vp_V [.null, .null, .int 0, .int 0, .int 0, .int 0] j := by decide +kernel
theorem zg_new5 (C0 : zC p s m args meth c cc nL Ts own D cy A rt) {index : Nat} (hdg : decode cc pc = .ok (.new index, 3)) (hcl : Cond.classLink own index RX5 ∈ Ts) (hinst : Cond.instantiable RX5 6 ∈ Ts) (hini : Cond.initialized RX5 ∈ Ts) (hin : ∀ w ∈ u_ws RX5 TX5 6, w ∈ Ts) {k j : Nat} (hro : cells + 1 = k ∧ slots + 6 = j) (hro2 : k ≤ R.cells ∧ j ≤ R.slots) (hq : pc + 3 = q) (kk : ∀ a, a ∉ zL Z → ∀ Z' S', Z' = zalZ Z a 5 6 → S' = zalS S a → zG p l e R s m args below meth c D cy A nL k j Q Z' S' (q) lv (.ref a :: st)) : zG p l e R s m args below meth c D cy A nL cells slots Q Z S (pc) lv (st) := by
  subst hq
  obtain ⟨e1, e2⟩ := hro
  subst e1
  subst e2
  intro H locs ls hP hD hS hl
  refine va_new (D := D) (cl := vwCl) (ci := 5) (N := 6) (fs := [.null, .null, .int 0, .int 0, .int 0, .int 0]) C0.1.1 C0.1.2.1 C0.1.2.2.2.2 hin tyX5 tyX5_ok C0.1.2.2.2.1 (C0.1.2.2.2.2 _ hcl) (C0.1.2.2.2.2 _ hinst) (C0.1.2.2.2.2 _ hini) C0.2.1.1 hP hD hS C0.2.2.1 rfl (zdef5) hro2.1 hro2.2 hdg (fun a H1 hP1 hD1 hS1 => ?_)
  have ha := zfresh hD1
  have hp := zpush (k := 5) (n := 6) ha ((zF_5 cy (S := zalS S a) (zk_al Z a 5 6)).trans (by rw [zfs_al5]))
  exact kk a ha _ _ rfl rfl H1 locs ls (hp ▸ hP1) (hp ▸ hD1) hS1 hl
theorem zfs_al6 (Z : zZ) (S : zS) (a : Nat) : zfs (zalZ Z a 6 4) (zalS S a) a 6 = [.int 0, .null, .null, .null] := by
  simp [zfs, zalZ, zalS, zQ, zI, zJ, zR, va_up_self, va_rf]
theorem zdef6 : ∀ j, j < 4 → defaultValue (tyX6 j) = vp_V [.int 0, .null, .null, .null] j := by decide +kernel
theorem zg_new6 (C0 : zC p s m args meth c cc nL Ts own D cy A rt) {index : Nat} (hdg : decode cc pc = .ok (.new index, 3)) (hcl : Cond.classLink own index RX6 ∈ Ts) (hinst : Cond.instantiable RX6 4 ∈ Ts) (hini : Cond.initialized RX6 ∈ Ts) (hin : ∀ w ∈ u_ws RX6 TX6 4, w ∈ Ts) {k j : Nat} (hro : cells + 1 = k ∧ slots + 4 = j) (hro2 : k ≤ R.cells ∧ j ≤ R.slots) (hq : pc + 3 = q) (kk : ∀ a, a ∉ zL Z → ∀ Z' S', Z' = zalZ Z a 6 4 → S' = zalS S a → zG p l e R s m args below meth c D cy A nL k j Q Z' S' (q) lv (.ref a :: st)) : zG p l e R s m args below meth c D cy A nL cells slots Q Z S (pc) lv (st) := by
  subst hq
  obtain ⟨e1, e2⟩ := hro
  subst e1
  subst e2
  intro H locs ls hP hD hS hl
  refine va_new (D := D) (cl := vwCl) (ci := 6) (N := 4) (fs := [.int 0, .null, .null, .null]) C0.1.1 C0.1.2.1 C0.1.2.2.2.2 hin tyX6 tyX6_ok C0.1.2.2.2.1 (C0.1.2.2.2.2 _ hcl) (C0.1.2.2.2.2 _ hinst) (C0.1.2.2.2.2 _ hini) C0.2.1.1 hP hD hS C0.2.2.1 rfl (zdef6) hro2.1 hro2.2 hdg (fun a H1 hP1 hD1 hS1 => ?_)
  have ha := zfresh hD1
  have hp := zpush (k := 6) (n := 4) ha ((zF_6 cy (S := zalS S a) (zk_al Z a 6 4)).trans (by rw [zfs_al6]))
  exact kk a ha _ _ rfl rfl H1 locs ls (hp ▸ hP1) (hp ▸ hD1) hS1 hl
theorem zfs_al7 (Z : zZ) (S : zS) (a : Nat) : zfs (zalZ Z a 7 36) (zalS S a) a 7 = [.int 0, .int 0, .int 0, .null, .null, .null, .null, .null, .null, .null, .null, .null, .null, .null, .null, .null, .null, .null, .null, .null, .null, .null, .null, .null, .null, .null, .null, .null, .null, .null, .null, .null, .null, .null, .null, .null] := by
  simp [zfs, zalZ, zalS, zQ, zI, zJ, zR, va_up_self, va_rf]
theorem zdef7 : ∀ j, j < 36 → defaultValue (tyX7 j) = vp_V [.int 0, .int 0, .int 0, .null, .null, .null, .null, .null, .null, .null, .null, .null, .null, .null, .null, .null, .null, .null, .null, .null, .null, .null, .null, .null, .null, .null, .null, .null, .null, .null, .null, .null, .null, .null, .null, .null] j := by decide +kernel
theorem zg_new7 (C0 : zC p s m args meth c cc nL Ts own D cy A rt) {index : Nat} (hdg : decode cc pc = .ok (.new index, 3)) (hcl : Cond.classLink own index RX7 ∈ Ts) (hinst : Cond.instantiable RX7 36 ∈ Ts) (hini : Cond.initialized RX7 ∈ Ts) (hin : ∀ w ∈ u_ws RX7 TX7 36, w ∈ Ts) {k j : Nat} (hro : cells + 1 = k ∧ slots + 36 = j) (hro2 : k ≤ R.cells ∧ j ≤ R.slots) (hq : pc + 3 = q) (kk : ∀ a, a ∉ zL Z → ∀ Z' S', Z' = zalZ Z a 7 36 → S' = zalS S a → zG p l e R s m args below meth c D cy A nL k j Q Z' S' (q) lv (.ref a :: st)) : zG p l e R s m args below meth c D cy A nL cells slots Q Z S (pc) lv (st) := by
  subst hq
  obtain ⟨e1, e2⟩ := hro
  subst e1
  subst e2
  intro H locs ls hP hD hS hl
  refine va_new (D := D) (cl := vwCl) (ci := 7) (N := 36) (fs := [.int 0, .int 0, .int 0, .null, .null, .null, .null, .null, .null, .null, .null, .null, .null, .null, .null, .null, .null, .null, .null, .null, .null, .null, .null, .null, .null, .null, .null, .null, .null, .null, .null, .null, .null, .null, .null, .null]) C0.1.1 C0.1.2.1 C0.1.2.2.2.2 hin tyX7 tyX7_ok C0.1.2.2.2.1 (C0.1.2.2.2.2 _ hcl) (C0.1.2.2.2.2 _ hinst) (C0.1.2.2.2.2 _ hini) C0.2.1.1 hP hD hS C0.2.2.1 rfl (zdef7) hro2.1 hro2.2 hdg (fun a H1 hP1 hD1 hS1 => ?_)
  have ha := zfresh hD1
  have hp := zpush (k := 7) (n := 36) ha ((zF_7 cy (S := zalS S a) (zk_al Z a 7 36)).trans (by rw [zfs_al7]))
  exact kk a ha _ _ rfl rfl H1 locs ls (hp ▸ hP1) (hp ▸ hD1) hS1 hl
theorem zg_newaI (C0 : zC p s m args meth c cc nL Ts own D cy A rt) {n : Int32} {N' : Nat} (hdg : decode cc pc = .ok (.newarray .int, 2)) (harr : Cond.arrayClass .int ∈ Ts) (hn : ¬ n < 0) (hN : n.toNatClampNeg = N') (hbytes : N' * componentBytes .int ≤ 536870912) {k j : Nat} (hro : cells + 1 = k ∧ slots + N' = j) (hro2 : k ≤ R.cells ∧ j ≤ R.slots) (hq : pc + 2 = q) (kk : ∀ a, a ∉ zL Z → ∀ Z' S', Z' = zalZ Z a 8 N' → S' = zalS S a → zG p l e R s m args below meth c D cy A nL k j Q Z' S' (q) lv (.ref a :: st)) : zG p l e R s m args below meth c D cy A nL cells slots Q Z S (pc) lv (.int n :: st) := by
  subst hq
  obtain ⟨e1, e2⟩ := hro
  subst e1
  subst e2
  intro H locs ls hP hD hS hl
  refine va_newa (D := D) (cl := vwCl) (atype := .int) (ty := .int) (a0 := (N', .inl (fun _ => 0))) C0.1.1 C0.1.2.1 (C0.1.2.2.2.2 _ harr) rfl C0.2.1.1 hP hD hS C0.2.2.1 (fun cA => rfl) hn hN hbytes hro2.1 hro2.2 hdg (fun a cA H1 hK1 hP1 hD1 hS1 => ?_)
  have e0 : cA = cy 0 := by
    have h1 := (hK1.2 6 (cA, .int) rfl).2
    have h2 := (hK1.2 0 (cy 0, .int) rfl).2
    exact Option.some.inj (h1.symm.trans h2)
  subst e0
  have ha := zfresh hD1
  have hp := zpush (k := 8) (n := N') ha ((zF_8 cy (S := zalS S a) (zk_al Z a 8 N')).trans (by rw [show zN (zalZ Z a 8 N') a = N' from va_up_self _ _ _, show zI (zalS S a) a = (fun _ => 0) from va_up_self _ _ _]))
  exact kk a ha _ _ rfl rfl H1 locs ls (hp ▸ hP1) (hp ▸ hD1) hS1 hl
theorem zg_newaJ (C0 : zC p s m args meth c cc nL Ts own D cy A rt) {n : Int32} {N' : Nat} (hdg : decode cc pc = .ok (.newarray .long, 2)) (harr : Cond.arrayClass .long ∈ Ts) (hn : ¬ n < 0) (hN : n.toNatClampNeg = N') (hbytes : N' * componentBytes .long ≤ 536870912) {k j : Nat} (hro : cells + 1 = k ∧ slots + N' = j) (hro2 : k ≤ R.cells ∧ j ≤ R.slots) (hq : pc + 2 = q) (kk : ∀ a, a ∉ zL Z → ∀ Z' S', Z' = zalZ Z a 9 N' → S' = zalS S a → zG p l e R s m args below meth c D cy A nL k j Q Z' S' (q) lv (.ref a :: st)) : zG p l e R s m args below meth c D cy A nL cells slots Q Z S (pc) lv (.int n :: st) := by
  subst hq
  obtain ⟨e1, e2⟩ := hro
  subst e1
  subst e2
  intro H locs ls hP hD hS hl
  refine va_newa (D := D) (cl := vwCl) (atype := .long) (ty := .long) (a0 := (N', .inr (.inl (fun _ => 0)))) C0.1.1 C0.1.2.1 (C0.1.2.2.2.2 _ harr) rfl C0.2.1.1 hP hD hS C0.2.2.1 (fun cA => rfl) hn hN hbytes hro2.1 hro2.2 hdg (fun a cA H1 hK1 hP1 hD1 hS1 => ?_)
  have e0 : cA = cy 1 := by
    have h1 := (hK1.2 6 (cA, .long) rfl).2
    have h2 := (hK1.2 1 (cy 1, .long) rfl).2
    exact Option.some.inj (h1.symm.trans h2)
  subst e0
  have ha := zfresh hD1
  have hp := zpush (k := 9) (n := N') ha ((zF_9 cy (S := zalS S a) (zk_al Z a 9 N')).trans (by rw [show zN (zalZ Z a 9 N') a = N' from va_up_self _ _ _, show zJ (zalS S a) a = (fun _ => 0) from va_up_self _ _ _]))
  exact kk a ha _ _ rfl rfl H1 locs ls (hp ▸ hP1) (hp ▸ hD1) hS1 hl
theorem zg_newaZ (C0 : zC p s m args meth c cc nL Ts own D cy A rt) {n : Int32} {N' : Nat} (hdg : decode cc pc = .ok (.newarray .boolean, 2)) (harr : Cond.arrayClass .boolean ∈ Ts) (hn : ¬ n < 0) (hN : n.toNatClampNeg = N') (hbytes : N' * componentBytes .boolean ≤ 536870912) {k j : Nat} (hro : cells + 1 = k ∧ slots + N' = j) (hro2 : k ≤ R.cells ∧ j ≤ R.slots) (hq : pc + 2 = q) (kk : ∀ a, a ∉ zL Z → ∀ Z' S', Z' = zalZ Z a 10 N' → S' = zalS S a → zG p l e R s m args below meth c D cy A nL k j Q Z' S' (q) lv (.ref a :: st)) : zG p l e R s m args below meth c D cy A nL cells slots Q Z S (pc) lv (.int n :: st) := by
  subst hq
  obtain ⟨e1, e2⟩ := hro
  subst e1
  subst e2
  intro H locs ls hP hD hS hl
  refine va_newa (D := D) (cl := vwCl) (atype := .boolean) (ty := .boolean) (a0 := (N', .inl (fun _ => 0))) C0.1.1 C0.1.2.1 (C0.1.2.2.2.2 _ harr) rfl C0.2.1.1 hP hD hS C0.2.2.1 (fun cA => rfl) hn hN hbytes hro2.1 hro2.2 hdg (fun a cA H1 hK1 hP1 hD1 hS1 => ?_)
  have e0 : cA = cy 2 := by
    have h1 := (hK1.2 6 (cA, .boolean) rfl).2
    have h2 := (hK1.2 2 (cy 2, .boolean) rfl).2
    exact Option.some.inj (h1.symm.trans h2)
  subst e0
  have ha := zfresh hD1
  have hp := zpush (k := 10) (n := N') ha ((zF_10 cy (S := zalS S a) (zk_al Z a 10 N')).trans (by rw [show zN (zalZ Z a 10 N') a = N' from va_up_self _ _ _, show zI (zalS S a) a = (fun _ => 0) from va_up_self _ _ _]))
  exact kk a ha _ _ rfl rfl H1 locs ls (hp ▸ hP1) (hp ▸ hD1) hS1 hl
theorem zg_newq11 (C0 : zC p s m args meth c cc nL Ts own D cy A rt) {index : Nat} {n : Int32} {N' : Nat} (hdg : decode cc pc = .ok (.anewarray index, 3)) (hcl : Cond.classLink own index RX1 ∈ Ts) (hov : va_AO RX1 s) (hn : ¬ n < 0) (hN : n.toNatClampNeg = N') (hbytes : N' * 4 ≤ 536870912) {k j : Nat} (hro : cells + 1 = k ∧ slots + N' = j) (hro2 : k ≤ R.cells ∧ j ≤ R.slots) (hq : pc + 3 = q) (kk : ∀ a, a ∉ zL Z → ∀ Z' S', Z' = zalZ Z a 11 N' → S' = zalS S a → zG p l e R s m args below meth c D cy A nL k j Q Z' S' (q) lv (.ref a :: st)) : zG p l e R s m args below meth c D cy A nL cells slots Q Z S (pc) lv (.int n :: st) := by
  subst hq
  obtain ⟨e1, e2⟩ := hro
  subst e1
  subst e2
  intro H locs ls hP hD hS hl
  refine va_newq (D := D) (cl := vwCl) C0.1.1 C0.1.2.1 C0.1.2.2.2.1 (C0.1.2.2.2.2 _ hcl) hov C0.2.1.1 hP hD hS C0.2.2.1 hn hN hbytes hro2.1 hro2.2 hdg (fun a cA H1 hK1 hP1 hD1 hS1 => ?_)
  have e0 : cA = cy 3 := by
    obtain ⟨kA, comp, -, -, -, h1⟩ := (hK1.2 6 (cA, .object RX1) rfl).2
    obtain ⟨kA2, comp2, -, -, -, h2⟩ := (hK1.2 3 (cy 3, .object RX1) rfl).2
    exact Option.some.inj (h1.symm.trans h2)
  subst e0
  have ha := zfresh hD1
  have hp := zpush (k := 11) (n := N') ha ((zF_11 cy (S := zalS S a) (zk_al Z a 11 N')).trans (by rw [show zN (zalZ Z a 11 N') a = N' from va_up_self _ _ _, show zR (zalS S a) a = (fun _ => none) from va_up_self _ _ _]))
  exact kk a ha _ _ rfl rfl H1 locs ls (hp ▸ hP1) (hp ▸ hD1) hS1 hl
theorem zg_newq12 (C0 : zC p s m args meth c cc nL Ts own D cy A rt) {index : Nat} {n : Int32} {N' : Nat} (hdg : decode cc pc = .ok (.anewarray index, 3)) (hcl : Cond.classLink own index RX2 ∈ Ts) (hov : va_AO RX2 s) (hn : ¬ n < 0) (hN : n.toNatClampNeg = N') (hbytes : N' * 4 ≤ 536870912) {k j : Nat} (hro : cells + 1 = k ∧ slots + N' = j) (hro2 : k ≤ R.cells ∧ j ≤ R.slots) (hq : pc + 3 = q) (kk : ∀ a, a ∉ zL Z → ∀ Z' S', Z' = zalZ Z a 12 N' → S' = zalS S a → zG p l e R s m args below meth c D cy A nL k j Q Z' S' (q) lv (.ref a :: st)) : zG p l e R s m args below meth c D cy A nL cells slots Q Z S (pc) lv (.int n :: st) := by
  subst hq
  obtain ⟨e1, e2⟩ := hro
  subst e1
  subst e2
  intro H locs ls hP hD hS hl
  refine va_newq (D := D) (cl := vwCl) C0.1.1 C0.1.2.1 C0.1.2.2.2.1 (C0.1.2.2.2.2 _ hcl) hov C0.2.1.1 hP hD hS C0.2.2.1 hn hN hbytes hro2.1 hro2.2 hdg (fun a cA H1 hK1 hP1 hD1 hS1 => ?_)
  have e0 : cA = cy 4 := by
    obtain ⟨kA, comp, -, -, -, h1⟩ := (hK1.2 6 (cA, .object RX2) rfl).2
    obtain ⟨kA2, comp2, -, -, -, h2⟩ := (hK1.2 4 (cy 4, .object RX2) rfl).2
    exact Option.some.inj (h1.symm.trans h2)
  subst e0
  have ha := zfresh hD1
  have hp := zpush (k := 12) (n := N') ha ((zF_12 cy (S := zalS S a) (zk_al Z a 12 N')).trans (by rw [show zN (zalZ Z a 12 N') a = N' from va_up_self _ _ _, show zQ (zalZ Z a 12 N') a = (fun _ => none) from va_up_self _ _ _]))
  exact kk a ha _ _ rfl rfl H1 locs ls (hp ▸ hP1) (hp ▸ hD1) hS1 hl
theorem zg_newq13 (C0 : zC p s m args meth c cc nL Ts own D cy A rt) {index : Nat} {n : Int32} {N' : Nat} (hdg : decode cc pc = .ok (.anewarray index, 3)) (hcl : Cond.classLink own index RX5 ∈ Ts) (hov : va_AO RX5 s) (hn : ¬ n < 0) (hN : n.toNatClampNeg = N') (hbytes : N' * 4 ≤ 536870912) {k j : Nat} (hro : cells + 1 = k ∧ slots + N' = j) (hro2 : k ≤ R.cells ∧ j ≤ R.slots) (hq : pc + 3 = q) (kk : ∀ a, a ∉ zL Z → ∀ Z' S', Z' = zalZ Z a 13 N' → S' = zalS S a → zG p l e R s m args below meth c D cy A nL k j Q Z' S' (q) lv (.ref a :: st)) : zG p l e R s m args below meth c D cy A nL cells slots Q Z S (pc) lv (.int n :: st) := by
  subst hq
  obtain ⟨e1, e2⟩ := hro
  subst e1
  subst e2
  intro H locs ls hP hD hS hl
  refine va_newq (D := D) (cl := vwCl) C0.1.1 C0.1.2.1 C0.1.2.2.2.1 (C0.1.2.2.2.2 _ hcl) hov C0.2.1.1 hP hD hS C0.2.2.1 hn hN hbytes hro2.1 hro2.2 hdg (fun a cA H1 hK1 hP1 hD1 hS1 => ?_)
  have e0 : cA = cy 5 := by
    obtain ⟨kA, comp, -, -, -, h1⟩ := (hK1.2 6 (cA, .object RX5) rfl).2
    obtain ⟨kA2, comp2, -, -, -, h2⟩ := (hK1.2 5 (cy 5, .object RX5) rfl).2
    exact Option.some.inj (h1.symm.trans h2)
  subst e0
  have ha := zfresh hD1
  have hp := zpush (k := 13) (n := N') ha ((zF_13 cy (S := zalS S a) (zk_al Z a 13 N')).trans (by rw [show zN (zalZ Z a 13 N') a = N' from va_up_self _ _ _, show zQ (zalZ Z a 13 N') a = (fun _ => none) from va_up_self _ _ _]))
  exact kk a ha _ _ rfl rfl H1 locs ls (hp ▸ hP1) (hp ▸ hD1) hS1 hl
theorem zg_putfI (C0 : zC p s m args meth c cc nL Ts own D cy A rt) {a ci N k index : Nat} {Cn ref : String} {T : u_T} {fs : List Value} {v : Int32} {ty0 : Nat → FieldType} (hnm0 : meth.name = "<init>") (hdg : decode cc pc = .ok (.putfield index, 3)) (ha : zk Z a ci) (hF : zF cy Z S a = .inr (ci, fs)) (hc : vwCl[ci]? = some (Cn, T, N)) (hk : k < N) (hin : ∀ w ∈ u_ws Cn T N, w ∈ Ts) (hty : ∀ k, k < N → parseFieldDescriptor (T k).2.2.1 = some (ty0 k)) (hnm : ∀ a, a < N → ∀ b, b < N → a ≠ b → (T a).2.1 ≠ (T b).2.1) (hlink : Cond.fieldLink own index ref (T k).2.1 (T k).2.2.1 ∈ Ts) (href : (T k).1 = ref) (hfin : (T k).2.2.2 = true) (hown : (T k).1 = own) (hn : narrow (ty0 k) (.int v) = .int v) (hfit : fits (ty0 k) (.int v) = true) (hl2 : k < fs.length) (he : zF cy Z (zsI S a k v) a = .inr (ci, zfs Z (zsI S a k v) a ci)) (hP : zfs Z (zsI S a k v) a ci = fs.set k (.int v)) (hq : pc + 3 = q) (kk : ∀ S' : zS, S' = zsI S a k v → zG p l e R s m args below meth c D cy A nL cells slots Q Z S' (q) lv (st)) : zG p l e R s m args below meth c D cy A nL cells slots Q Z S (pc) lv (.int v :: .ref a :: st) :=
  zg_put (Z' := Z) (S' := zsI S a k v) C0 hdg ha hF hc hk hin hty hnm hlink href (Or.inr ⟨hfin, hnm0, hown⟩) hn hfit hl2 rfl (he.trans (by rw [hP])) (zF_offI cy Z S a k v) hq (kk _ rfl)
theorem zg_putfJ (C0 : zC p s m args meth c cc nL Ts own D cy A rt) {a ci N k index : Nat} {Cn ref : String} {T : u_T} {fs : List Value} {v : Int64} {ty0 : Nat → FieldType} (hnm0 : meth.name = "<init>") (hdg : decode cc pc = .ok (.putfield index, 3)) (ha : zk Z a ci) (hF : zF cy Z S a = .inr (ci, fs)) (hc : vwCl[ci]? = some (Cn, T, N)) (hk : k < N) (hin : ∀ w ∈ u_ws Cn T N, w ∈ Ts) (hty : ∀ k, k < N → parseFieldDescriptor (T k).2.2.1 = some (ty0 k)) (hnm : ∀ a, a < N → ∀ b, b < N → a ≠ b → (T a).2.1 ≠ (T b).2.1) (hlink : Cond.fieldLink own index ref (T k).2.1 (T k).2.2.1 ∈ Ts) (href : (T k).1 = ref) (hfin : (T k).2.2.2 = true) (hown : (T k).1 = own) (hn : narrow (ty0 k) (.long v) = .long v) (hfit : fits (ty0 k) (.long v) = true) (hl2 : k < fs.length) (he : zF cy Z (zsJ S a k v) a = .inr (ci, zfs Z (zsJ S a k v) a ci)) (hP : zfs Z (zsJ S a k v) a ci = fs.set k (.long v)) (hq : pc + 3 = q) (kk : ∀ S' : zS, S' = zsJ S a k v → zG p l e R s m args below meth c D cy A nL cells slots Q Z S' (q) lv (st)) : zG p l e R s m args below meth c D cy A nL cells slots Q Z S (pc) lv (.long v :: .ref a :: st) :=
  zg_put (Z' := Z) (S' := zsJ S a k v) C0 hdg ha hF hc hk hin hty hnm hlink href (Or.inr ⟨hfin, hnm0, hown⟩) hn hfit hl2 rfl (he.trans (by rw [hP])) (zF_offJ cy Z S a k v) hq (kk _ rfl)
theorem zg_putfQ (C0 : zC p s m args meth c cc nL Ts own D cy A rt) {a ci N k index : Nat} {Cn ref : String} {T : u_T} {fs : List Value} {v : Nat} {ty0 : Nat → FieldType} (hnm0 : meth.name = "<init>") (hdg : decode cc pc = .ok (.putfield index, 3)) (ha : zk Z a ci) (hF : zF cy Z S a = .inr (ci, fs)) (hc : vwCl[ci]? = some (Cn, T, N)) (hk : k < N) (hin : ∀ w ∈ u_ws Cn T N, w ∈ Ts) (hty : ∀ k, k < N → parseFieldDescriptor (T k).2.2.1 = some (ty0 k)) (hnm : ∀ a, a < N → ∀ b, b < N → a ≠ b → (T a).2.1 ≠ (T b).2.1) (hlink : Cond.fieldLink own index ref (T k).2.1 (T k).2.2.1 ∈ Ts) (href : (T k).1 = ref) (hfin : (T k).2.2.2 = true) (hown : (T k).1 = own) (hn : narrow (ty0 k) (.ref v) = .ref v) (hfit : fits (ty0 k) (.ref v) = true) (hl2 : k < fs.length) (he : zF cy (zsQ Z a k (some v)) S a = .inr (ci, zfs (zsQ Z a k (some v)) S a ci)) (hP : zfs (zsQ Z a k (some v)) S a ci = fs.set k (.ref v)) (hq : pc + 3 = q) (kk : ∀ Z' : zZ, Z' = zsQ Z a k (some v) → zG p l e R s m args below meth c D cy A nL cells slots Q Z' S (q) lv (st)) : zG p l e R s m args below meth c D cy A nL cells slots Q Z S (pc) lv (.ref v :: .ref a :: st) :=
  zg_put (Z' := zsQ Z a k (some v)) (S' := S) C0 hdg ha hF hc hk hin hty hnm hlink href (Or.inr ⟨hfin, hnm0, hown⟩) hn hfit hl2 rfl (he.trans (by rw [hP])) (zF_offQ cy Z S a k (some v)) hq (kk _ rfl)
theorem zg_makeI (C0 : zC p s m args meth c cc nL Ts own D cy A rt) {b : Nat} {index maxL k n : Nat} {y : MethodName} {bytes : ByteArray} {ws ws' : List Cond} {rm : Room} (As rest : List Value) {Qp : zZ → zS → Prop} (hdg : decode cc pc = .ok (.invokespecial index, 3)) (hM : ∀ sz, zMz l y ws rm D cy Z S sz (.ref b :: As) Qp) (hw : ws = Cond.code y bytes maxL none :: ws') (hG : GoodIn Ts ws) (hd : y.cls ≠ "java/lang/invoke/MethodHandle" ∧ y.cls ≠ "java/lang/invoke/VarHandle" ∧ (parseMethodDescriptor y.desc).map (fun d => d.parameters.length) = some As.length) (hini : Cond.initialized y.cls ∈ Ts) (hlk : Cond.methodLink own index y ∈ Ts) (hins : Cond.instanceMethod y ∈ Ts) (hyn : y.name = "<init>") (hst : st = As.reverse ++ .ref b :: rest) (hR : rm.frames + 1 ≤ R.frames ∧ 8 + (maxL + 11) + rm.locals ≤ R.locals) (hcat : (rest.map fun v => v.category).sum ≤ 8) (hroom : cells + rm.cells ≤ R.cells ∧ slots + rm.slots ≤ R.slots) (hk : cells + rm.cells = k ∧ slots + rm.slots = n) (hq : pc + 3 = q)
    (kk : ∀ Z' S', Qp Z' S' → zG p l e R s m args below meth c D cy A nL k n Q Z' S' (q) lv (rest)) : zG p l e R s m args below meth c D cy A nL cells slots Q Z S (pc) lv (st) := by
  subst hq
  obtain ⟨e1, e2⟩ := hk
  subst e1
  subst e2
  intro H locs ls hP hD hS hl
  have hA1 : ∀ q, zA cy Z S H.size q → A q := zA_sub C0.2.2.1 hD hS
  refine va_callv (va_runI (As := As) (rest := rest) C0.1 (hM H.size) (cwI As.length C0.1.2.2.2.2 hG hw rfl rfl (C0.1.2.2.2.2 _ hini) (C0.1.2.2.2.2 _ hlk) (C0.1.2.2.2.2 _ hins) hyn hd hR) ⟨zPc_blind, fun U hU hW => ⟨rfl, by rw [hU], by rw [hU]; exact hP, hD.weaken (fun _ _ _ _ => trivial), C0.2.1.call hS hA1 hU hW⟩⟩ rfl rfl hl.1 hst (lv_room hcat) hdg hroom) hS (fun q _ h => hA1 q h) hA1 (fun u t H1 locs1 ht hvm hw hB hz1 hk1 hS1 => ?_)
  subst ht
  exact kk u.1 u.2 hw _ locs1 ls hB.1 (hB.2.weaken (fun k x hk h => hA1 x.1 h)) hS1 hl
theorem zg_makeIN (C0 : zC p s m args meth c cc nL Ts own D cy A rt) {host : String} {b : Nat} {index maxL k n : Nat} {y : MethodName} {bytes : ByteArray} {ws ws' : List Cond} {rm : Room} (As rest : List Value) {Qp : zZ → zS → Prop} (hdg : decode cc pc = .ok (.invokespecial index, 3)) (hM : ∀ sz, zMz l y ws rm D cy Z S sz (.ref b :: As) Qp) (hw : ws = Cond.code y bytes maxL none :: ws') (hG : GoodIn Ts ws) (hd : y.cls ≠ "java/lang/invoke/MethodHandle" ∧ y.cls ≠ "java/lang/invoke/VarHandle" ∧ (parseMethodDescriptor y.desc).map (fun d => d.parameters.length) = some As.length) (hnest : Cond.methodLinkNest own index y host ∈ zBw) (hini : Cond.initialized y.cls ∈ Ts) (hins : Cond.instanceMethod y ∈ Ts) (hyn : y.name = "<init>") (hst : st = As.reverse ++ .ref b :: rest) (hR : rm.frames + 1 ≤ R.frames ∧ 8 + (maxL + 11) + rm.locals ≤ R.locals) (hcat : (rest.map fun v => v.category).sum ≤ 8) (hroom : cells + rm.cells ≤ R.cells ∧ slots + rm.slots ≤ R.slots) (hk : cells + rm.cells = k ∧ slots + rm.slots = n) (hq : pc + 3 = q)
    (kk : ∀ Z' S', Qp Z' S' → zG p l e R s m args below meth c D cy A nL k n Q Z' S' (q) lv (rest)) : zG p l e R s m args below meth c D cy A nL cells slots Q Z S (pc) lv (st) := by
  subst hq
  obtain ⟨e1, e2⟩ := hk
  subst e1
  subst e2
  intro H locs ls hP hD hS hl
  have hA1 : ∀ q, zA cy Z S H.size q → A q := zA_sub C0.2.2.1 hD hS
  refine va_callv (va_runIN (As := As) (rest := rest) C0.1 (hM H.size) (⟨va_cnB As.length C0.1.2.2.2.2 hG hw rfl rfl (C0.2.1.2.1 _ hnest) (C0.1.2.2.2.2 _ hini) hd hR, hyn, C0.1.2.2.2.2 _ hins⟩) ⟨zPc_blind, fun U hU hW => ⟨rfl, by rw [hU], by rw [hU]; exact hP, hD.weaken (fun _ _ _ _ => trivial), C0.2.1.call hS hA1 hU hW⟩⟩ rfl rfl hl.1 hst (lv_room hcat) hdg hroom) hS (fun q _ h => hA1 q h) hA1 (fun u t H1 locs1 ht hvm hw hB hz1 hk1 hS1 => ?_)
  subst ht
  exact kk u.1 u.2 hw _ locs1 ls hB.1 (hB.2.weaken (fun k x hk h => hA1 x.1 h)) hS1 hl
theorem zg_vretz (C0 : zC p s m args meth c cc nL Ts own D cy A rt) {mc ms : Nat} {Qp : zZ → zS → Prop} (hdg : decode cc pc = .ok (.return_, 1)) (hr : rt = none) (h1 : cells ≤ mc) (h2 : slots ≤ ms) (hQ : Qp Z S) : zG p l e R s m args below meth c D cy A nL cells slots (zQz below D cy A Qp args s mc ms) Z S (pc) lv [] := fun H locs ls hP hD hS hl => W.widen h1 h2 (W.vret C0.1.1 C0.1.2.1 (C0.2.2.2.1.trans hr) (fun t ht hW => ⟨⟨(Z, S), rfl, hQ, by rw [ht]; exact hP, hD⟩, hS.F ht⟩) hS.2.2 hdg C0.2.2.2.2)
theorem zgx_iretz (C0 : zC p s m args meth c cc nL Ts own D cy A rt) {mc ms : Nat} {v : Int32} {Z0 : zZ} {Qp : Int32 → zZ → zS → Prop} {Xp : String → zS → Prop} (hdg : decode cc pc = .ok (.ireturn, 1)) (hr : rt = some .int) (h1 : cells ≤ mc) (h2 : slots ≤ ms) (hQ : Qp v Z S) : zG p l e R s m args below meth c D cy A nL cells slots (zXz below D cy A Z0 Qp Xp args s mc ms) Z S (pc) lv [.int v] := fun H locs ls hP hD hS hl => W.widen h1 h2 (vx_ret (W.zret C0.1.1 C0.1.2.1 (C0.2.2.2.1.trans hr) rfl (fun t ht hW => ⟨⟨v, (Z, S), rfl, hQ, by rw [ht]; exact hP, hD⟩, hS.F ht⟩) hS.2.2 hdg C0.2.2.2.2))
theorem zg_objInit (C0 : zC p s m args meth c cc nL Ts own D cy A rt) {a i1 index : Nat} (hdg : decode cc pc = .ok (.invokespecial index, 3)) (h1 : Cond.methodLink own index objectInit ∈ Ts) (h2 : Cond.instanceMethod objectInit ∈ Ts) (h3 : Cond.code objectInit ⟨#[0xb1]⟩ 1 none ∈ Ts) (hf : 1 ≤ R.frames) (hlo : 20 ≤ R.locals) (hst : st = [.ref a]) (hq : pc + 3 = q) (kk : zG p l e R s m args below meth c D cy A nL cells slots Q Z S (q) lv ([])) : zG p l e R s m args below meth c D cy A nL cells slots Q Z S (pc) lv (st) := by
  subst hq
  subst hst
  intro H locs ls hP hD hS hl
  refine W.objInit C0.1.1 C0.1.2.1 C0.1.2.2.2.1 (C0.1.2.2.2.2 _ h1) (C0.1.2.2.2.2 _ h2) (C0.1.2.2.2.2 _ h3) rfl (hl.1.trans C0.1.2.2.1.symm) rfl hdg hf (Nat.le_trans (Nat.le_of_ble_eq_true rfl) hlo) ?_
  exact kk H locs ls hP hD hS hl
end ZX
end
