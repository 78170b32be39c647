section
-- ===== PART A: goes FIRST, ahead of the names: the tables' words, and 'selects' of the private methods out of them =====
/-- a private method of a class that the tables say can be made, by its rows of tables_1 -/
def lw_okq (q : MethodName × Nat) : Prop := (q.1.cls ≠ "java/lang/invoke/MethodHandle" ∧ q.1.cls ≠ "java/lang/invoke/VarHandle") ∧ Cond.instantiable q.1.cls q.2 ∈ tables_1 ∧ Cond.privateMethod q.1 ∈ tables_1 ∧ Cond.instanceMethod q.1 ∈ tables_1
theorem lw_p0 : lw_okq (⟨"QuorumNodes", "openTask", "(III)LQuorumNodes$Node;"⟩, 5) := ⟨⟨by decide +kernel, by decide +kernel⟩, List.mem_of_getElem? (i := 14) (by decide +kernel), List.mem_of_getElem? (i := 304) (by decide +kernel), List.mem_of_getElem? (i := 305) (by decide +kernel)⟩
theorem lw_p1 : lw_okq (⟨"QuorumNodes", "find", "(I)LQuorumNodes$Node;"⟩, 5) := ⟨⟨by decide +kernel, by decide +kernel⟩, List.mem_of_getElem? (i := 14) (by decide +kernel), List.mem_of_getElem? (i := 308) (by decide +kernel), List.mem_of_getElem? (i := 309) (by decide +kernel)⟩
theorem lw_p2 : lw_okq (⟨"QuorumNodes", "beginFirst", "(LQuorumNodes$Node;)V"⟩, 5) := ⟨⟨by decide +kernel, by decide +kernel⟩, List.mem_of_getElem? (i := 14) (by decide +kernel), List.mem_of_getElem? (i := 328) (by decide +kernel), List.mem_of_getElem? (i := 329) (by decide +kernel)⟩
theorem lw_p3 : lw_okq (⟨"QuorumNodes", "ask", "(LQuorumNodes$Node;)V"⟩, 5) := ⟨⟨by decide +kernel, by decide +kernel⟩, List.mem_of_getElem? (i := 14) (by decide +kernel), List.mem_of_getElem? (i := 356) (by decide +kernel), List.mem_of_getElem? (i := 357) (by decide +kernel)⟩
theorem lw_p4 : lw_okq (⟨"QuorumNodes", "draftRequest", "(LQuorumNodes$Node;)V"⟩, 5) := ⟨⟨by decide +kernel, by decide +kernel⟩, List.mem_of_getElem? (i := 14) (by decide +kernel), List.mem_of_getElem? (i := 373) (by decide +kernel), List.mem_of_getElem? (i := 374) (by decide +kernel)⟩
theorem lw_p5 : lw_okq (⟨"QuorumNodes", "serve", "(LQuorumNodes$Node;LQuorumNodes$Message;)V"⟩, 5) := ⟨⟨by decide +kernel, by decide +kernel⟩, List.mem_of_getElem? (i := 14) (by decide +kernel), List.mem_of_getElem? (i := 394) (by decide +kernel), List.mem_of_getElem? (i := 395) (by decide +kernel)⟩
theorem lw_p6 : lw_okq (⟨"QuorumNodes", "vote", "(LQuorumNodes$Node;LQuorumNodes$Message;)V"⟩, 5) := ⟨⟨by decide +kernel, by decide +kernel⟩, List.mem_of_getElem? (i := 14) (by decide +kernel), List.mem_of_getElem? (i := 417) (by decide +kernel), List.mem_of_getElem? (i := 418) (by decide +kernel)⟩
theorem lw_p7 : lw_okq (⟨"QuorumNodes", "settle", "(LQuorumNodes$Node;)V"⟩, 5) := ⟨⟨by decide +kernel, by decide +kernel⟩, List.mem_of_getElem? (i := 14) (by decide +kernel), List.mem_of_getElem? (i := 462) (by decide +kernel), List.mem_of_getElem? (i := 463) (by decide +kernel)⟩
theorem lw_p8 : lw_okq (⟨"QuorumNodes", "beginSecond", "(LQuorumNodes$Node;)V"⟩, 5) := ⟨⟨by decide +kernel, by decide +kernel⟩, List.mem_of_getElem? (i := 14) (by decide +kernel), List.mem_of_getElem? (i := 489) (by decide +kernel), List.mem_of_getElem? (i := 490) (by decide +kernel)⟩
theorem lw_p9 : lw_okq (⟨"QuorumNodes", "askAgain", "(LQuorumNodes$Node;)V"⟩, 5) := ⟨⟨by decide +kernel, by decide +kernel⟩, List.mem_of_getElem? (i := 14) (by decide +kernel), List.mem_of_getElem? (i := 549) (by decide +kernel), List.mem_of_getElem? (i := 550) (by decide +kernel)⟩
theorem lw_p10 : lw_okq (⟨"QuorumNodes", "look", "(LQuorumNodes$Node;I)V"⟩, 5) := ⟨⟨by decide +kernel, by decide +kernel⟩, List.mem_of_getElem? (i := 14) (by decide +kernel), List.mem_of_getElem? (i := 585) (by decide +kernel), List.mem_of_getElem? (i := 586) (by decide +kernel)⟩
theorem lw_p11 : lw_okq (⟨"QuorumNodes", "sendReply", "(LQuorumNodes$Node;)V"⟩, 5) := ⟨⟨by decide +kernel, by decide +kernel⟩, List.mem_of_getElem? (i := 14) (by decide +kernel), List.mem_of_getElem? (i := 592) (by decide +kernel), List.mem_of_getElem? (i := 593) (by decide +kernel)⟩
theorem lw_p12 : lw_okq (⟨"QuorumNodes", "writesOfAll", "()I"⟩, 5) := ⟨⟨by decide +kernel, by decide +kernel⟩, List.mem_of_getElem? (i := 14) (by decide +kernel), List.mem_of_getElem? (i := 655) (by decide +kernel), List.mem_of_getElem? (i := 656) (by decide +kernel)⟩
theorem lw_p13 : lw_okq (⟨"QuorumNodes", "nodesUp", "()I"⟩, 5) := ⟨⟨by decide +kernel, by decide +kernel⟩, List.mem_of_getElem? (i := 14) (by decide +kernel), List.mem_of_getElem? (i := 659) (by decide +kernel), List.mem_of_getElem? (i := 660) (by decide +kernel)⟩
theorem lw_p14 : lw_okq (⟨"QuorumNodesModel", "isFree", "(I)Z"⟩, 36) := ⟨⟨by decide +kernel, by decide +kernel⟩, List.mem_of_getElem? (i := 666) (by decide +kernel), List.mem_of_getElem? (i := 785) (by decide +kernel), List.mem_of_getElem? (i := 786) (by decide +kernel)⟩
theorem lw_p15 : lw_okq (⟨"QuorumNodesModel", "isUp", "(I)Z"⟩, 36) := ⟨⟨by decide +kernel, by decide +kernel⟩, List.mem_of_getElem? (i := 666) (by decide +kernel), List.mem_of_getElem? (i := 795) (by decide +kernel), List.mem_of_getElem? (i := 796) (by decide +kernel)⟩
def lw_privs_1 : List (MethodName × Nat) := [(⟨"QuorumNodes", "openTask", "(III)LQuorumNodes$Node;"⟩, 5), (⟨"QuorumNodes", "find", "(I)LQuorumNodes$Node;"⟩, 5), (⟨"QuorumNodes", "beginFirst", "(LQuorumNodes$Node;)V"⟩, 5), (⟨"QuorumNodes", "ask", "(LQuorumNodes$Node;)V"⟩, 5), (⟨"QuorumNodes", "draftRequest", "(LQuorumNodes$Node;)V"⟩, 5), (⟨"QuorumNodes", "serve", "(LQuorumNodes$Node;LQuorumNodes$Message;)V"⟩, 5), (⟨"QuorumNodes", "vote", "(LQuorumNodes$Node;LQuorumNodes$Message;)V"⟩, 5), (⟨"QuorumNodes", "settle", "(LQuorumNodes$Node;)V"⟩, 5), (⟨"QuorumNodes", "beginSecond", "(LQuorumNodes$Node;)V"⟩, 5), (⟨"QuorumNodes", "askAgain", "(LQuorumNodes$Node;)V"⟩, 5), (⟨"QuorumNodes", "look", "(LQuorumNodes$Node;I)V"⟩, 5), (⟨"QuorumNodes", "sendReply", "(LQuorumNodes$Node;)V"⟩, 5), (⟨"QuorumNodes", "writesOfAll", "()I"⟩, 5), (⟨"QuorumNodes", "nodesUp", "()I"⟩, 5), (⟨"QuorumNodesModel", "isFree", "(I)Z"⟩, 36), (⟨"QuorumNodesModel", "isUp", "(I)Z"⟩, 36)]
theorem lw_r1 : ∀ q ∈ lw_privs_1, lw_okq q := List.forall_mem_cons.mpr ⟨lw_p0, List.forall_mem_cons.mpr ⟨lw_p1, List.forall_mem_cons.mpr ⟨lw_p2, List.forall_mem_cons.mpr ⟨lw_p3, List.forall_mem_cons.mpr ⟨lw_p4, List.forall_mem_cons.mpr ⟨lw_p5, List.forall_mem_cons.mpr ⟨lw_p6, List.forall_mem_cons.mpr ⟨lw_p7, List.forall_mem_cons.mpr ⟨lw_p8, List.forall_mem_cons.mpr ⟨lw_p9, List.forall_mem_cons.mpr ⟨lw_p10, List.forall_mem_cons.mpr ⟨lw_p11, List.forall_mem_cons.mpr ⟨lw_p12, List.forall_mem_cons.mpr ⟨lw_p13, List.forall_mem_cons.mpr ⟨lw_p14, List.forall_mem_cons.mpr ⟨lw_p15, fun _ h => absurd h List.not_mem_nil⟩⟩⟩⟩⟩⟩⟩⟩⟩⟩⟩⟩⟩⟩⟩⟩
theorem lw_p16 : lw_okq (⟨"QuorumNodesModel", "greatest", "(I)I"⟩, 36) := ⟨⟨by decide +kernel, by decide +kernel⟩, List.mem_of_getElem? (i := 666) (by decide +kernel), List.mem_of_getElem? (i := 799) (by decide +kernel), List.mem_of_getElem? (i := 800) (by decide +kernel)⟩
theorem lw_p17 : lw_okq (⟨"QuorumNodesModel", "starts", "(IIII)I"⟩, 36) := ⟨⟨by decide +kernel, by decide +kernel⟩, List.mem_of_getElem? (i := 666) (by decide +kernel), List.mem_of_getElem? (i := 803) (by decide +kernel), List.mem_of_getElem? (i := 804) (by decide +kernel)⟩
theorem lw_p18 : lw_okq (⟨"QuorumNodesModel", "begins", "(II)V"⟩, 36) := ⟨⟨by decide +kernel, by decide +kernel⟩, List.mem_of_getElem? (i := 666) (by decide +kernel), List.mem_of_getElem? (i := 807) (by decide +kernel), List.mem_of_getElem? (i := 808) (by decide +kernel)⟩
theorem lw_p19 : lw_okq (⟨"QuorumNodesModel", "bestIsOwn", "(I)V"⟩, 36) := ⟨⟨by decide +kernel, by decide +kernel⟩, List.mem_of_getElem? (i := 666) (by decide +kernel), List.mem_of_getElem? (i := 811) (by decide +kernel), List.mem_of_getElem? (i := 812) (by decide +kernel)⟩
theorem lw_p20 : lw_okq (⟨"QuorumNodesModel", "writeRound", "(II)V"⟩, 36) := ⟨⟨by decide +kernel, by decide +kernel⟩, List.mem_of_getElem? (i := 666) (by decide +kernel), List.mem_of_getElem? (i := 815) (by decide +kernel), List.mem_of_getElem? (i := 816) (by decide +kernel)⟩
theorem lw_p21 : lw_okq (⟨"QuorumNodesModel", "mayWrite", "(I)Z"⟩, 36) := ⟨⟨by decide +kernel, by decide +kernel⟩, List.mem_of_getElem? (i := 666) (by decide +kernel), List.mem_of_getElem? (i := 819) (by decide +kernel), List.mem_of_getElem? (i := 820) (by decide +kernel)⟩
theorem lw_p22 : lw_okq (⟨"QuorumNodesModel", "goesDown", "(I)V"⟩, 36) := ⟨⟨by decide +kernel, by decide +kernel⟩, List.mem_of_getElem? (i := 666) (by decide +kernel), List.mem_of_getElem? (i := 823) (by decide +kernel), List.mem_of_getElem? (i := 824) (by decide +kernel)⟩
theorem lw_p23 : lw_okq (⟨"QuorumNodesModel", "wantedSet", "(I)I"⟩, 36) := ⟨⟨by decide +kernel, by decide +kernel⟩, List.mem_of_getElem? (i := 666) (by decide +kernel), List.mem_of_getElem? (i := 827) (by decide +kernel), List.mem_of_getElem? (i := 828) (by decide +kernel)⟩
theorem lw_p24 : lw_okq (⟨"QuorumNodesModel", "isData", "(I)Z"⟩, 36) := ⟨⟨by decide +kernel, by decide +kernel⟩, List.mem_of_getElem? (i := 666) (by decide +kernel), List.mem_of_getElem? (i := 831) (by decide +kernel), List.mem_of_getElem? (i := 832) (by decide +kernel)⟩
theorem lw_p25 : lw_okq (⟨"QuorumNodesModel", "allActive", "(I)I"⟩, 36) := ⟨⟨by decide +kernel, by decide +kernel⟩, List.mem_of_getElem? (i := 666) (by decide +kernel), List.mem_of_getElem? (i := 835) (by decide +kernel), List.mem_of_getElem? (i := 836) (by decide +kernel)⟩
theorem lw_p26 : lw_okq (⟨"QuorumNodesModel", "ask", "(II)V"⟩, 36) := ⟨⟨by decide +kernel, by decide +kernel⟩, List.mem_of_getElem? (i := 666) (by decide +kernel), List.mem_of_getElem? (i := 839) (by decide +kernel), List.mem_of_getElem? (i := 840) (by decide +kernel)⟩
theorem lw_p27 : lw_okq (⟨"QuorumNodesModel", "does", "(I)V"⟩, 36) := ⟨⟨by decide +kernel, by decide +kernel⟩, List.mem_of_getElem? (i := 666) (by decide +kernel), List.mem_of_getElem? (i := 843) (by decide +kernel), List.mem_of_getElem? (i := 844) (by decide +kernel)⟩
theorem lw_p28 : lw_okq (⟨"QuorumNodesModel", "best", "(IIIII)V"⟩, 36) := ⟨⟨by decide +kernel, by decide +kernel⟩, List.mem_of_getElem? (i := 666) (by decide +kernel), List.mem_of_getElem? (i := 847) (by decide +kernel), List.mem_of_getElem? (i := 848) (by decide +kernel)⟩
theorem lw_p29 : lw_okq (⟨"QuorumNodesModel", "store", "(IIIII)V"⟩, 36) := ⟨⟨by decide +kernel, by decide +kernel⟩, List.mem_of_getElem? (i := 666) (by decide +kernel), List.mem_of_getElem? (i := 854) (by decide +kernel), List.mem_of_getElem? (i := 855) (by decide +kernel)⟩
theorem lw_p30 : lw_okq (⟨"QuorumNodesModel", "writeVote", "(IIIII)V"⟩, 36) := ⟨⟨by decide +kernel, by decide +kernel⟩, List.mem_of_getElem? (i := 666) (by decide +kernel), List.mem_of_getElem? (i := 858) (by decide +kernel), List.mem_of_getElem? (i := 859) (by decide +kernel)⟩
theorem lw_p31 : lw_okq (⟨"QuorumNodesModel", "top", "(III)V"⟩, 36) := ⟨⟨by decide +kernel, by decide +kernel⟩, List.mem_of_getElem? (i := 666) (by decide +kernel), List.mem_of_getElem? (i := 862) (by decide +kernel), List.mem_of_getElem? (i := 863) (by decide +kernel)⟩
def lw_privs_2 : List (MethodName × Nat) := [(⟨"QuorumNodesModel", "greatest", "(I)I"⟩, 36), (⟨"QuorumNodesModel", "starts", "(IIII)I"⟩, 36), (⟨"QuorumNodesModel", "begins", "(II)V"⟩, 36), (⟨"QuorumNodesModel", "bestIsOwn", "(I)V"⟩, 36), (⟨"QuorumNodesModel", "writeRound", "(II)V"⟩, 36), (⟨"QuorumNodesModel", "mayWrite", "(I)Z"⟩, 36), (⟨"QuorumNodesModel", "goesDown", "(I)V"⟩, 36), (⟨"QuorumNodesModel", "wantedSet", "(I)I"⟩, 36), (⟨"QuorumNodesModel", "isData", "(I)Z"⟩, 36), (⟨"QuorumNodesModel", "allActive", "(I)I"⟩, 36), (⟨"QuorumNodesModel", "ask", "(II)V"⟩, 36), (⟨"QuorumNodesModel", "does", "(I)V"⟩, 36), (⟨"QuorumNodesModel", "best", "(IIIII)V"⟩, 36), (⟨"QuorumNodesModel", "store", "(IIIII)V"⟩, 36), (⟨"QuorumNodesModel", "writeVote", "(IIIII)V"⟩, 36), (⟨"QuorumNodesModel", "top", "(III)V"⟩, 36)]
theorem lw_r2 : ∀ q ∈ lw_privs_2, lw_okq q := List.forall_mem_cons.mpr ⟨lw_p16, List.forall_mem_cons.mpr ⟨lw_p17, List.forall_mem_cons.mpr ⟨lw_p18, List.forall_mem_cons.mpr ⟨lw_p19, List.forall_mem_cons.mpr ⟨lw_p20, List.forall_mem_cons.mpr ⟨lw_p21, List.forall_mem_cons.mpr ⟨lw_p22, List.forall_mem_cons.mpr ⟨lw_p23, List.forall_mem_cons.mpr ⟨lw_p24, List.forall_mem_cons.mpr ⟨lw_p25, List.forall_mem_cons.mpr ⟨lw_p26, List.forall_mem_cons.mpr ⟨lw_p27, List.forall_mem_cons.mpr ⟨lw_p28, List.forall_mem_cons.mpr ⟨lw_p29, List.forall_mem_cons.mpr ⟨lw_p30, List.forall_mem_cons.mpr ⟨lw_p31, fun _ h => absurd h List.not_mem_nil⟩⟩⟩⟩⟩⟩⟩⟩⟩⟩⟩⟩⟩⟩⟩⟩
theorem lw_p32 : lw_okq (⟨"QuorumNodesModel", "chosen", "(I)I"⟩, 36) := ⟨⟨by decide +kernel, by decide +kernel⟩, List.mem_of_getElem? (i := 666) (by decide +kernel), List.mem_of_getElem? (i := 866) (by decide +kernel), List.mem_of_getElem? (i := 867) (by decide +kernel)⟩
theorem lw_p33 : lw_okq (⟨"QuorumNodesModel", "refused", "(II)V"⟩, 36) := ⟨⟨by decide +kernel, by decide +kernel⟩, List.mem_of_getElem? (i := 666) (by decide +kernel), List.mem_of_getElem? (i := 870) (by decide +kernel), List.mem_of_getElem? (i := 871) (by decide +kernel)⟩
theorem lw_p34 : lw_okq (⟨"QuorumNodesModel", "request", "(II)V"⟩, 36) := ⟨⟨by decide +kernel, by decide +kernel⟩, List.mem_of_getElem? (i := 666) (by decide +kernel), List.mem_of_getElem? (i := 874) (by decide +kernel), List.mem_of_getElem? (i := 875) (by decide +kernel)⟩
theorem lw_p35 : lw_okq (⟨"QuorumNodesModel", "send", "(IIIIIIIIIZZ)V"⟩, 36) := ⟨⟨by decide +kernel, by decide +kernel⟩, List.mem_of_getElem? (i := 666) (by decide +kernel), List.mem_of_getElem? (i := 878) (by decide +kernel), List.mem_of_getElem? (i := 879) (by decide +kernel)⟩
theorem lw_p36 : lw_okq (⟨"QuorumNodesModel", "goesOn", "(I)V"⟩, 36) := ⟨⟨by decide +kernel, by decide +kernel⟩, List.mem_of_getElem? (i := 666) (by decide +kernel), List.mem_of_getElem? (i := 882) (by decide +kernel), List.mem_of_getElem? (i := 883) (by decide +kernel)⟩
theorem lw_p37 : lw_okq (⟨"QuorumNodesModel", "isEnough", "(I)Z"⟩, 36) := ⟨⟨by decide +kernel, by decide +kernel⟩, List.mem_of_getElem? (i := 666) (by decide +kernel), List.mem_of_getElem? (i := 886) (by decide +kernel), List.mem_of_getElem? (i := 887) (by decide +kernel)⟩
theorem lw_p38 : lw_okq (⟨"QuorumNodesModel", "second", "(I)V"⟩, 36) := ⟨⟨by decide +kernel, by decide +kernel⟩, List.mem_of_getElem? (i := 666) (by decide +kernel), List.mem_of_getElem? (i := 899) (by decide +kernel), List.mem_of_getElem? (i := 900) (by decide +kernel)⟩
theorem lw_p39 : lw_okq (⟨"QuorumNodesModel", "ends", "(I)V"⟩, 36) := ⟨⟨by decide +kernel, by decide +kernel⟩, List.mem_of_getElem? (i := 666) (by decide +kernel), List.mem_of_getElem? (i := 903) (by decide +kernel), List.mem_of_getElem? (i := 904) (by decide +kernel)⟩
theorem lw_p40 : lw_okq (⟨"QuorumNodesModel", "writeMap", "(IIII)V"⟩, 36) := ⟨⟨by decide +kernel, by decide +kernel⟩, List.mem_of_getElem? (i := 666) (by decide +kernel), List.mem_of_getElem? (i := 907) (by decide +kernel), List.mem_of_getElem? (i := 908) (by decide +kernel)⟩
theorem lw_p41 : lw_okq (⟨"QuorumNodesModel", "proposed", "(I)V"⟩, 36) := ⟨⟨by decide +kernel, by decide +kernel⟩, List.mem_of_getElem? (i := 666) (by decide +kernel), List.mem_of_getElem? (i := 911) (by decide +kernel), List.mem_of_getElem? (i := 912) (by decide +kernel)⟩
theorem lw_p42 : lw_okq (⟨"QuorumNodesModel", "least", "(I)I"⟩, 36) := ⟨⟨by decide +kernel, by decide +kernel⟩, List.mem_of_getElem? (i := 666) (by decide +kernel), List.mem_of_getElem? (i := 930) (by decide +kernel), List.mem_of_getElem? (i := 931) (by decide +kernel)⟩
theorem lw_p43 : lw_okq (⟨"QuorumNodesModel", "remove", "(I)V"⟩, 36) := ⟨⟨by decide +kernel, by decide +kernel⟩, List.mem_of_getElem? (i := 666) (by decide +kernel), List.mem_of_getElem? (i := 950) (by decide +kernel), List.mem_of_getElem? (i := 951) (by decide +kernel)⟩
theorem lw_p44 : lw_okq (⟨"QuorumNodesModel", "merges", "(I)V"⟩, 36) := ⟨⟨by decide +kernel, by decide +kernel⟩, List.mem_of_getElem? (i := 666) (by decide +kernel), List.mem_of_getElem? (i := 954) (by decide +kernel), List.mem_of_getElem? (i := 955) (by decide +kernel)⟩
theorem lw_p45 : lw_okq (⟨"QuorumNodesModel", "looks", "(IZ)V"⟩, 36) := ⟨⟨by decide +kernel, by decide +kernel⟩, List.mem_of_getElem? (i := 666) (by decide +kernel), List.mem_of_getElem? (i := 958) (by decide +kernel), List.mem_of_getElem? (i := 959) (by decide +kernel)⟩
theorem lw_p46 : lw_okq (⟨"QuorumNodesModel", "handles", "(I)V"⟩, 36) := ⟨⟨by decide +kernel, by decide +kernel⟩, List.mem_of_getElem? (i := 666) (by decide +kernel), List.mem_of_getElem? (i := 962) (by decide +kernel), List.mem_of_getElem? (i := 963) (by decide +kernel)⟩
theorem lw_p47 : lw_okq (⟨"QuorumNodesModel", "answer", "(IIIIIZI)V"⟩, 36) := ⟨⟨by decide +kernel, by decide +kernel⟩, List.mem_of_getElem? (i := 666) (by decide +kernel), List.mem_of_getElem? (i := 966) (by decide +kernel), List.mem_of_getElem? (i := 967) (by decide +kernel)⟩
def lw_privs_3 : List (MethodName × Nat) := [(⟨"QuorumNodesModel", "chosen", "(I)I"⟩, 36), (⟨"QuorumNodesModel", "refused", "(II)V"⟩, 36), (⟨"QuorumNodesModel", "request", "(II)V"⟩, 36), (⟨"QuorumNodesModel", "send", "(IIIIIIIIIZZ)V"⟩, 36), (⟨"QuorumNodesModel", "goesOn", "(I)V"⟩, 36), (⟨"QuorumNodesModel", "isEnough", "(I)Z"⟩, 36), (⟨"QuorumNodesModel", "second", "(I)V"⟩, 36), (⟨"QuorumNodesModel", "ends", "(I)V"⟩, 36), (⟨"QuorumNodesModel", "writeMap", "(IIII)V"⟩, 36), (⟨"QuorumNodesModel", "proposed", "(I)V"⟩, 36), (⟨"QuorumNodesModel", "least", "(I)I"⟩, 36), (⟨"QuorumNodesModel", "remove", "(I)V"⟩, 36), (⟨"QuorumNodesModel", "merges", "(I)V"⟩, 36), (⟨"QuorumNodesModel", "looks", "(IZ)V"⟩, 36), (⟨"QuorumNodesModel", "handles", "(I)V"⟩, 36), (⟨"QuorumNodesModel", "answer", "(IIIIIZI)V"⟩, 36)]
theorem lw_r3 : ∀ q ∈ lw_privs_3, lw_okq q := List.forall_mem_cons.mpr ⟨lw_p32, List.forall_mem_cons.mpr ⟨lw_p33, List.forall_mem_cons.mpr ⟨lw_p34, List.forall_mem_cons.mpr ⟨lw_p35, List.forall_mem_cons.mpr ⟨lw_p36, List.forall_mem_cons.mpr ⟨lw_p37, List.forall_mem_cons.mpr ⟨lw_p38, List.forall_mem_cons.mpr ⟨lw_p39, List.forall_mem_cons.mpr ⟨lw_p40, List.forall_mem_cons.mpr ⟨lw_p41, List.forall_mem_cons.mpr ⟨lw_p42, List.forall_mem_cons.mpr ⟨lw_p43, List.forall_mem_cons.mpr ⟨lw_p44, List.forall_mem_cons.mpr ⟨lw_p45, List.forall_mem_cons.mpr ⟨lw_p46, List.forall_mem_cons.mpr ⟨lw_p47, fun _ h => absurd h List.not_mem_nil⟩⟩⟩⟩⟩⟩⟩⟩⟩⟩⟩⟩⟩⟩⟩⟩
theorem lw_p48 : lw_okq (⟨"QuorumNodesModel", "votes", "(II)V"⟩, 36) := ⟨⟨by decide +kernel, by decide +kernel⟩, List.mem_of_getElem? (i := 666) (by decide +kernel), List.mem_of_getElem? (i := 970) (by decide +kernel), List.mem_of_getElem? (i := 971) (by decide +kernel)⟩
theorem lw_p49 : lw_okq (⟨"QuorumNodesModel", "storeAll", "(I)V"⟩, 36) := ⟨⟨by decide +kernel, by decide +kernel⟩, List.mem_of_getElem? (i := 666) (by decide +kernel), List.mem_of_getElem? (i := 974) (by decide +kernel), List.mem_of_getElem? (i := 975) (by decide +kernel)⟩
theorem lw_p50 : lw_okq (⟨"QuorumNodesModel", "counts", "(I)Z"⟩, 36) := ⟨⟨by decide +kernel, by decide +kernel⟩, List.mem_of_getElem? (i := 666) (by decide +kernel), List.mem_of_getElem? (i := 978) (by decide +kernel), List.mem_of_getElem? (i := 979) (by decide +kernel)⟩
theorem lw_p51 : lw_okq (⟨"QuorumNodesModel", "answers", "(I)V"⟩, 36) := ⟨⟨by decide +kernel, by decide +kernel⟩, List.mem_of_getElem? (i := 666) (by decide +kernel), List.mem_of_getElem? (i := 982) (by decide +kernel), List.mem_of_getElem? (i := 983) (by decide +kernel)⟩
theorem lw_p52 : lw_okq (⟨"QuorumNodesModel", "hasAnswered", "(I)V"⟩, 36) := ⟨⟨by decide +kernel, by decide +kernel⟩, List.mem_of_getElem? (i := 666) (by decide +kernel), List.mem_of_getElem? (i := 986) (by decide +kernel), List.mem_of_getElem? (i := 987) (by decide +kernel)⟩
def lw_privs_4 : List (MethodName × Nat) := [(⟨"QuorumNodesModel", "votes", "(II)V"⟩, 36), (⟨"QuorumNodesModel", "storeAll", "(I)V"⟩, 36), (⟨"QuorumNodesModel", "counts", "(I)Z"⟩, 36), (⟨"QuorumNodesModel", "answers", "(I)V"⟩, 36), (⟨"QuorumNodesModel", "hasAnswered", "(I)V"⟩, 36)]
theorem lw_r4 : ∀ q ∈ lw_privs_4, lw_okq q := List.forall_mem_cons.mpr ⟨lw_p48, List.forall_mem_cons.mpr ⟨lw_p49, List.forall_mem_cons.mpr ⟨lw_p50, List.forall_mem_cons.mpr ⟨lw_p51, List.forall_mem_cons.mpr ⟨lw_p52, fun _ h => absurd h List.not_mem_nil⟩⟩⟩⟩⟩
def lw_privs : List (MethodName × Nat) := lw_privs_1 ++ (lw_privs_2 ++ (lw_privs_3 ++ (lw_privs_4)))
def lw_tbl : List Cond := k2_sels lw_privs ++ tables_1
theorem lw_privs_ok : ∀ q ∈ lw_privs, lw_okq q := by
  show ∀ q ∈ lw_privs_1 ++ (lw_privs_2 ++ (lw_privs_3 ++ (lw_privs_4))), lw_okq q
  exact List.forall_mem_append.mpr ⟨lw_r1, List.forall_mem_append.mpr ⟨lw_r2, List.forall_mem_append.mpr ⟨lw_r3, lw_r4⟩⟩⟩
end
section
/-! names: classes, their fields, methods (by program) -/
def R_Q : String := "QuorumNodes"
def F_Q : u_T := fun k => match k with
  | 0 => ("QuorumNodes", "nodes", "[LQuorumNodes$Node;", true)
  | 1 => ("QuorumNodes", "mail", "LQuorumNodes$Mail;", true)
  | 2 => ("QuorumNodes", "draft", "LQuorumNodes$Message;", true)
  | 3 => ("QuorumNodes", "reply", "LQuorumNodes$Message;", true)
  | _ => ("QuorumNodes", "tasks", "I", false)
def t_Q : Nat → FieldType := fun k => match k with
  | 0 => .array (.object "QuorumNodes$Node")
  | 1 => .object "QuorumNodes$Mail"
  | 2 => .object "QuorumNodes$Message"
  | 3 => .object "QuorumNodes$Message"
  | _ => .int
theorem n_Q : ∀ a, a < 5 → ∀ b, b < 5 → a ≠ b → (F_Q a).2.1 ≠ (F_Q b).2.1 := by decide +kernel
theorem t_Q_ok : ∀ k, k < 5 → parseFieldDescriptor (F_Q k).2.2.1 = some (t_Q k) := by decide +kernel
theorem i_Q : ∀ w ∈ u_ws R_Q F_Q 5, w ∈ lw_tbl := by decide +kernel
def R_Co : String := "QuorumNodes$Copies"
def F_Co : u_T := fun k => match k with
  | 0 => ("QuorumNodes$Copies", "number", "[I", true)
  | 1 => ("QuorumNodes$Copies", "writer", "[I", true)
  | _ => ("QuorumNodes$Copies", "value", "[I", true)
def t_Co : Nat → FieldType := fun k => match k with
  | 0 => .array .int
  | 1 => .array .int
  | _ => .array .int
theorem n_Co : ∀ a, a < 3 → ∀ b, b < 3 → a ≠ b → (F_Co a).2.1 ≠ (F_Co b).2.1 := by decide +kernel
theorem t_Co_ok : ∀ k, k < 3 → parseFieldDescriptor (F_Co k).2.2.1 = some (t_Co k) := by decide +kernel
theorem i_Co : ∀ w ∈ u_ws R_Co F_Co 3, w ∈ lw_tbl := by decide +kernel
def R_Ma : String := "QuorumNodes$Mail"
def F_Ma : u_T := fun k => match k with
  | 0 => ("QuorumNodes$Mail", "rows", "[LQuorumNodes$Message;", true)
  | 1 => ("QuorumNodes$Mail", "taken", "LQuorumNodes$Message;", false)
  | 2 => ("QuorumNodes$Mail", "size", "I", false)
  | _ => ("QuorumNodes$Mail", "lost", "I", false)
def t_Ma : Nat → FieldType := fun k => match k with
  | 0 => .array (.object "QuorumNodes$Message")
  | 1 => .object "QuorumNodes$Message"
  | 2 => .int
  | _ => .int
theorem n_Ma : ∀ a, a < 4 → ∀ b, b < 4 → a ≠ b → (F_Ma a).2.1 ≠ (F_Ma b).2.1 := by decide +kernel
theorem t_Ma_ok : ∀ k, k < 4 → parseFieldDescriptor (F_Ma k).2.2.1 = some (t_Ma k) := by decide +kernel
theorem i_Ma : ∀ w ∈ u_ws R_Ma F_Ma 4, w ∈ lw_tbl := by decide +kernel
def R_Me : String := "QuorumNodes$Message"
def F_Me : u_T := fun k => match k with
  | 0 => ("QuorumNodes$Message", "kind", "I", false)
  | 1 => ("QuorumNodes$Message", "from", "I", false)
  | 2 => ("QuorumNodes$Message", "to", "I", false)
  | 3 => ("QuorumNodes$Message", "incarnation", "I", false)
  | 4 => ("QuorumNodes$Message", "serial", "I", false)
  | 5 => ("QuorumNodes$Message", "about", "I", false)
  | 6 => ("QuorumNodes$Message", "ballot", "I", false)
  | 7 => ("QuorumNodes$Message", "configuration", "I", false)
  | 8 => ("QuorumNodes$Message", "sets", "LQuorumNodes$Sets;", true)
  | _ => ("QuorumNodes$Message", "copies", "LQuorumNodes$Copies;", true)
def t_Me : Nat → FieldType := fun k => match k with
  | 0 => .int
  | 1 => .int
  | 2 => .int
  | 3 => .int
  | 4 => .int
  | 5 => .int
  | 6 => .int
  | 7 => .int
  | 8 => .object "QuorumNodes$Sets"
  | _ => .object "QuorumNodes$Copies"
theorem n_Me : ∀ a, a < 10 → ∀ b, b < 10 → a ≠ b → (F_Me a).2.1 ≠ (F_Me b).2.1 := by decide +kernel
theorem t_Me_ok : ∀ k, k < 10 → parseFieldDescriptor (F_Me k).2.2.1 = some (t_Me k) := by decide +kernel
theorem i_Me : ∀ w ∈ u_ws R_Me F_Me 10, w ∈ lw_tbl := by decide +kernel
def R_No : String := "QuorumNodes$Node"
def F_No : u_T := fun k => match k with
  | 0 => ("QuorumNodes$Node", "id", "I", true)
  | 1 => ("QuorumNodes$Node", "state", "I", false)
  | 2 => ("QuorumNodes$Node", "incarnation", "I", false)
  | 3 => ("QuorumNodes$Node", "round", "I", false)
  | 4 => ("QuorumNodes$Node", "serial", "I", false)
  | 5 => ("QuorumNodes$Node", "armed", "I", false)
  | 6 => ("QuorumNodes$Node", "writes", "I", false)
  | 7 => ("QuorumNodes$Node", "cells", "LQuorumNodes$Copies;", true)
  | 8 => ("QuorumNodes$Node", "sets", "LQuorumNodes$Sets;", true)
  | 9 => ("QuorumNodes$Node", "votes", "LQuorumNodes$Votes;", true)
  | _ => ("QuorumNodes$Node", "task", "LQuorumNodes$Task;", true)
def t_No : Nat → FieldType := fun k => match k with
  | 0 => .int
  | 1 => .int
  | 2 => .int
  | 3 => .int
  | 4 => .int
  | 5 => .int
  | 6 => .int
  | 7 => .object "QuorumNodes$Copies"
  | 8 => .object "QuorumNodes$Sets"
  | 9 => .object "QuorumNodes$Votes"
  | _ => .object "QuorumNodes$Task"
theorem n_No : ∀ a, a < 11 → ∀ b, b < 11 → a ≠ b → (F_No a).2.1 ≠ (F_No b).2.1 := by decide +kernel
theorem t_No_ok : ∀ k, k < 11 → parseFieldDescriptor (F_No k).2.2.1 = some (t_No k) := by decide +kernel
theorem i_No : ∀ w ∈ u_ws R_No F_No 11, w ∈ lw_tbl := by decide +kernel
def R_Se : String := "QuorumNodes$Sets"
def F_Se : u_T := fun k => match k with
  | 0 => ("QuorumNodes$Sets", "state", "[I", true)
  | _ => ("QuorumNodes$Sets", "configuration", "[I", true)
def t_Se : Nat → FieldType := fun k => match k with
  | 0 => .array .int
  | _ => .array .int
theorem n_Se : ∀ a, a < 2 → ∀ b, b < 2 → a ≠ b → (F_Se a).2.1 ≠ (F_Se b).2.1 := by decide +kernel
theorem t_Se_ok : ∀ k, k < 2 → parseFieldDescriptor (F_Se k).2.2.1 = some (t_Se k) := by decide +kernel
theorem i_Se : ∀ w ∈ u_ws R_Se F_Se 2, w ∈ lw_tbl := by decide +kernel
def R_Ta : String := "QuorumNodes$Task"
def F_Ta : u_T := fun k => match k with
  | 0 => ("QuorumNodes$Task", "number", "I", false)
  | 1 => ("QuorumNodes$Task", "kind", "I", false)
  | 2 => ("QuorumNodes$Task", "phase", "I", false)
  | 3 => ("QuorumNodes$Task", "about", "I", false)
  | 4 => ("QuorumNodes$Task", "result", "I", false)
  | 5 => ("QuorumNodes$Task", "asked", "I", false)
  | 6 => ("QuorumNodes$Task", "answered", "I", false)
  | 7 => ("QuorumNodes$Task", "ballot", "I", false)
  | 8 => ("QuorumNodes$Task", "value", "I", false)
  | 9 => ("QuorumNodes$Task", "proposed", "I", false)
  | 10 => ("QuorumNodes$Task", "found", "I", false)
  | 11 => ("QuorumNodes$Task", "chosen", "I", false)
  | 12 => ("QuorumNodes$Task", "old", "I", false)
  | _ => ("QuorumNodes$Task", "best", "LQuorumNodes$Copies;", true)
def t_Ta : Nat → FieldType := fun k => match k with
  | 0 => .int
  | 1 => .int
  | 2 => .int
  | 3 => .int
  | 4 => .int
  | 5 => .int
  | 6 => .int
  | 7 => .int
  | 8 => .int
  | 9 => .int
  | 10 => .int
  | 11 => .int
  | 12 => .int
  | _ => .object "QuorumNodes$Copies"
theorem n_Ta : ∀ a, a < 14 → ∀ b, b < 14 → a ≠ b → (F_Ta a).2.1 ≠ (F_Ta b).2.1 := by decide +kernel
theorem t_Ta_ok : ∀ k, k < 14 → parseFieldDescriptor (F_Ta k).2.2.1 = some (t_Ta k) := by decide +kernel
theorem i_Ta : ∀ w ∈ u_ws R_Ta F_Ta 14, w ∈ lw_tbl := by decide +kernel
def R_Vo : String := "QuorumNodes$Votes"
def F_Vo : u_T := fun k => match k with
  | 0 => ("QuorumNodes$Votes", "promised", "[I", true)
  | 1 => ("QuorumNodes$Votes", "accepted", "[I", true)
  | _ => ("QuorumNodes$Votes", "configuration", "[I", true)
def t_Vo : Nat → FieldType := fun k => match k with
  | 0 => .array .int
  | 1 => .array .int
  | _ => .array .int
theorem n_Vo : ∀ a, a < 3 → ∀ b, b < 3 → a ≠ b → (F_Vo a).2.1 ≠ (F_Vo b).2.1 := by decide +kernel
theorem t_Vo_ok : ∀ k, k < 3 → parseFieldDescriptor (F_Vo k).2.2.1 = some (t_Vo k) := by decide +kernel
theorem i_Vo : ∀ w ∈ u_ws R_Vo F_Vo 3, w ∈ lw_tbl := by decide +kernel
def R_M : String := "QuorumNodesModel"
def F_M : u_T := fun k => match k with
  | 0 => ("QuorumNodesModel", "thrown", "I", false)
  | 1 => ("QuorumNodesModel", "state", "[I", true)
  | 2 => ("QuorumNodesModel", "incarnation", "[I", true)
  | 3 => ("QuorumNodesModel", "round", "[I", true)
  | 4 => ("QuorumNodesModel", "armed", "[I", true)
  | 5 => ("QuorumNodesModel", "serial", "[I", true)
  | 6 => ("QuorumNodesModel", "tag", "[I", true)
  | 7 => ("QuorumNodesModel", "writer", "[I", true)
  | 8 => ("QuorumNodesModel", "value", "[I", true)
  | 9 => ("QuorumNodesModel", "known", "[I", true)
  | 10 => ("QuorumNodesModel", "set", "[I", true)
  | 11 => ("QuorumNodesModel", "promised", "[I", true)
  | 12 => ("QuorumNodesModel", "accepted", "[I", true)
  | 13 => ("QuorumNodesModel", "choice", "[I", true)
  | 14 => ("QuorumNodesModel", "tasks", "I", false)
  | 15 => ("QuorumNodesModel", "number", "[I", true)
  | 16 => ("QuorumNodesModel", "sort", "[I", true)
  | 17 => ("QuorumNodesModel", "phase", "[I", true)
  | 18 => ("QuorumNodesModel", "about", "[I", true)
  | 19 => ("QuorumNodesModel", "result", "[I", true)
  | 20 => ("QuorumNodesModel", "asked", "[I", true)
  | 21 => ("QuorumNodesModel", "answered", "[I", true)
  | 22 => ("QuorumNodesModel", "wanted", "[I", true)
  | 23 => ("QuorumNodesModel", "old", "[I", true)
  | 24 => ("QuorumNodesModel", "ballot", "[I", true)
  | 25 => ("QuorumNodesModel", "basis", "[I", true)
  | 26 => ("QuorumNodesModel", "topBallot", "[I", true)
  | 27 => ("QuorumNodesModel", "topChoice", "[I", true)
  | 28 => ("QuorumNodesModel", "bestTag", "[I", true)
  | 29 => ("QuorumNodesModel", "bestWriter", "[I", true)
  | 30 => ("QuorumNodesModel", "bestValue", "[I", true)
  | 31 => ("QuorumNodesModel", "lines", "I", false)
  | 32 => ("QuorumNodesModel", "line", "[I", true)
  | 33 => ("QuorumNodesModel", "lost", "I", false)
  | 34 => ("QuorumNodesModel", "writes", "I", false)
  | _ => ("QuorumNodesModel", "now", "[I", true)
def t_M : Nat → FieldType := fun k => match k with
  | 0 => .int
  | 1 => .array .int
  | 2 => .array .int
  | 3 => .array .int
  | 4 => .array .int
  | 5 => .array .int
  | 6 => .array .int
  | 7 => .array .int
  | 8 => .array .int
  | 9 => .array .int
  | 10 => .array .int
  | 11 => .array .int
  | 12 => .array .int
  | 13 => .array .int
  | 14 => .int
  | 15 => .array .int
  | 16 => .array .int
  | 17 => .array .int
  | 18 => .array .int
  | 19 => .array .int
  | 20 => .array .int
  | 21 => .array .int
  | 22 => .array .int
  | 23 => .array .int
  | 24 => .array .int
  | 25 => .array .int
  | 26 => .array .int
  | 27 => .array .int
  | 28 => .array .int
  | 29 => .array .int
  | 30 => .array .int
  | 31 => .int
  | 32 => .array .int
  | 33 => .int
  | 34 => .int
  | _ => .array .int
theorem n_M : ∀ a, a < 36 → ∀ b, b < 36 → a ≠ b → (F_M a).2.1 ≠ (F_M b).2.1 := by decide +kernel
theorem t_M_ok : ∀ k, k < 36 → parseFieldDescriptor (F_M k).2.2.1 = some (t_M k) := by decide +kernel
theorem i_M : ∀ w ∈ u_ws R_M F_M 36, w ∈ lw_tbl := by decide +kernel
def R_L : String := "QuorumNodesLaw"
def R_JI : String := "java/lang/Integer"
def R_JM : String := "java/lang/Math"
abbrev vwCl : List vw_C := [(R_Q, F_Q, 5), (R_Co, F_Co, 3), (R_Ma, F_Ma, 4), (R_Me, F_Me, 10), (R_No, F_No, 11), (R_Se, F_Se, 2), (R_Ta, F_Ta, 14), (R_Vo, F_Vo, 3), (R_M, F_M, 36)]
abbrev m_Q_init : String × MethodName × ByteArray × Nat × Option FieldType := (R_Q, ⟨R_Q, "<init>", "(III)V"⟩, prog_1_method_1_code, 9, (Option.none : Option Jvm.ClassFile.FieldType))
abbrev m_Q_read : String × MethodName × ByteArray × Nat × Option FieldType := (R_Q, ⟨R_Q, "read", "(II)I"⟩, prog_1_method_2_code, 4, (Option.some Jvm.ClassFile.FieldType.int))
abbrev m_Q_write : String × MethodName × ByteArray × Nat × Option FieldType := (R_Q, ⟨R_Q, "write", "(III)I"⟩, prog_1_method_3_code, 5, (Option.some Jvm.ClassFile.FieldType.int))
abbrev m_Q_propose : String × MethodName × ByteArray × Nat × Option FieldType := (R_Q, ⟨R_Q, "propose", "(IIII)I"⟩, prog_1_method_4_code, 8, (Option.some Jvm.ClassFile.FieldType.int))
abbrev m_Q_retire : String × MethodName × ByteArray × Nat × Option FieldType := (R_Q, ⟨R_Q, "retire", "(I)I"⟩, prog_1_method_5_code, 6, (Option.some Jvm.ClassFile.FieldType.int))
abbrev m_Q_again : String × MethodName × ByteArray × Nat × Option FieldType := (R_Q, ⟨R_Q, "again", "(I)I"⟩, prog_1_method_6_code, 4, (Option.some Jvm.ClassFile.FieldType.int))
abbrev m_Q_gossip : String × MethodName × ByteArray × Nat × Option FieldType := (R_Q, ⟨R_Q, "gossip", "(II)Z"⟩, prog_1_method_7_code, 4, (Option.some Jvm.ClassFile.FieldType.boolean))
abbrev m_Q_join : String × MethodName × ByteArray × Nat × Option FieldType := (R_Q, ⟨R_Q, "join", "(II)Z"⟩, prog_1_method_8_code, 4, (Option.some Jvm.ClassFile.FieldType.boolean))
abbrev m_Q_deliver : String × MethodName × ByteArray × Nat × Option FieldType := (R_Q, ⟨R_Q, "deliver", "(I)I"⟩, prog_1_method_9_code, 5, (Option.some Jvm.ClassFile.FieldType.int))
abbrev m_Q_lose : String × MethodName × ByteArray × Nat × Option FieldType := (R_Q, ⟨R_Q, "lose", "(I)Z"⟩, prog_1_method_10_code, 2, (Option.some Jvm.ClassFile.FieldType.boolean))
abbrev m_Q_twice : String × MethodName × ByteArray × Nat × Option FieldType := (R_Q, ⟨R_Q, "twice", "(I)Z"⟩, prog_1_method_11_code, 3, (Option.some Jvm.ClassFile.FieldType.boolean))
abbrev m_Q_crash : String × MethodName × ByteArray × Nat × Option FieldType := (R_Q, ⟨R_Q, "crash", "(I)Z"⟩, prog_1_method_12_code, 3, (Option.some Jvm.ClassFile.FieldType.boolean))
abbrev m_Q_restart : String × MethodName × ByteArray × Nat × Option FieldType := (R_Q, ⟨R_Q, "restart", "(I)Z"⟩, prog_1_method_13_code, 3, (Option.some Jvm.ClassFile.FieldType.boolean))
abbrev m_Q_arm : String × MethodName × ByteArray × Nat × Option FieldType := (R_Q, ⟨R_Q, "arm", "(II)Z"⟩, prog_1_method_14_code, 4, (Option.some Jvm.ClassFile.FieldType.boolean))
abbrev m_Q_node : String × MethodName × ByteArray × Nat × Option FieldType := (R_Q, ⟨R_Q, "node", "(II)I"⟩, prog_1_method_15_code, 4, (Option.some Jvm.ClassFile.FieldType.int))
abbrev m_Q_cell : String × MethodName × ByteArray × Nat × Option FieldType := (R_Q, ⟨R_Q, "cell", "(III)I"⟩, prog_1_method_16_code, 5, (Option.some Jvm.ClassFile.FieldType.int))
abbrev m_Q_map : String × MethodName × ByteArray × Nat × Option FieldType := (R_Q, ⟨R_Q, "map", "(III)I"⟩, prog_1_method_17_code, 5, (Option.some Jvm.ClassFile.FieldType.int))
abbrev m_Q_task : String × MethodName × ByteArray × Nat × Option FieldType := (R_Q, ⟨R_Q, "task", "(II)I"⟩, prog_1_method_18_code, 5, (Option.some Jvm.ClassFile.FieldType.int))
abbrev m_Q_message : String × MethodName × ByteArray × Nat × Option FieldType := (R_Q, ⟨R_Q, "message", "(II)I"⟩, prog_1_method_19_code, 4, (Option.some Jvm.ClassFile.FieldType.int))
abbrev m_Q_count : String × MethodName × ByteArray × Nat × Option FieldType := (R_Q, ⟨R_Q, "count", "(I)I"⟩, prog_1_method_20_code, 2, (Option.some Jvm.ClassFile.FieldType.int))
abbrev m_Q_writesOfAll : String × MethodName × ByteArray × Nat × Option FieldType := (R_Q, ⟨R_Q, "writesOfAll", "()I"⟩, prog_1_method_21_code, 3, (Option.some Jvm.ClassFile.FieldType.int))
abbrev m_Q_nodesUp : String × MethodName × ByteArray × Nat × Option FieldType := (R_Q, ⟨R_Q, "nodesUp", "()I"⟩, prog_1_method_22_code, 3, (Option.some Jvm.ClassFile.FieldType.int))
abbrev m_Q_find : String × MethodName × ByteArray × Nat × Option FieldType := (R_Q, ⟨R_Q, "find", "(I)LQuorumNodes$Node;"⟩, prog_1_method_23_code, 2, (Option.some (Jvm.ClassFile.FieldType.object "QuorumNodes$Node")))
abbrev m_Q_isObject : String × MethodName × ByteArray × Nat × Option FieldType := (R_Q, ⟨R_Q, "isObject", "(I)Z"⟩, prog_1_method_24_code, 1, (Option.some Jvm.ClassFile.FieldType.boolean))
abbrev m_Q_isIndex : String × MethodName × ByteArray × Nat × Option FieldType := (R_Q, ⟨R_Q, "isIndex", "(I)Z"⟩, prog_1_method_25_code, 1, (Option.some Jvm.ClassFile.FieldType.boolean))
abbrev m_Q_nearest : String × MethodName × ByteArray × Nat × Option FieldType := (R_Q, ⟨R_Q, "nearest", "(II)I"⟩, prog_1_method_26_code, 2, (Option.some Jvm.ClassFile.FieldType.int))
abbrev m_Q_isIn : String × MethodName × ByteArray × Nat × Option FieldType := (R_Q, ⟨R_Q, "isIn", "(II)Z"⟩, prog_1_method_27_code, 2, (Option.some Jvm.ClassFile.FieldType.boolean))
abbrev m_Q_least : String × MethodName × ByteArray × Nat × Option FieldType := (R_Q, ⟨R_Q, "least", "(I)I"⟩, prog_1_method_28_code, 2, (Option.some Jvm.ClassFile.FieldType.int))
abbrev m_Q_greatest : String × MethodName × ByteArray × Nat × Option FieldType := (R_Q, ⟨R_Q, "greatest", "(I)I"⟩, prog_1_method_29_code, 2, (Option.some Jvm.ClassFile.FieldType.int))
abbrev m_Q_isConfiguration : String × MethodName × ByteArray × Nat × Option FieldType := (R_Q, ⟨R_Q, "isConfiguration", "(III)Z"⟩, prog_1_method_30_code, 4, (Option.some Jvm.ClassFile.FieldType.boolean))
abbrev m_Q_configuration : String × MethodName × ByteArray × Nat × Option FieldType := (R_Q, ⟨R_Q, "configuration", "(III)I"⟩, prog_1_method_31_code, 3, (Option.some Jvm.ClassFile.FieldType.int))
abbrev m_Q_membersOf : String × MethodName × ByteArray × Nat × Option FieldType := (R_Q, ⟨R_Q, "membersOf", "(I)I"⟩, prog_1_method_32_code, 1, (Option.some Jvm.ClassFile.FieldType.int))
abbrev m_Q_readersOf : String × MethodName × ByteArray × Nat × Option FieldType := (R_Q, ⟨R_Q, "readersOf", "(I)I"⟩, prog_1_method_33_code, 1, (Option.some Jvm.ClassFile.FieldType.int))
abbrev m_Q_writersOf : String × MethodName × ByteArray × Nat × Option FieldType := (R_Q, ⟨R_Q, "writersOf", "(I)I"⟩, prog_1_method_34_code, 1, (Option.some Jvm.ClassFile.FieldType.int))
abbrev m_Q_isAnswer : String × MethodName × ByteArray × Nat × Option FieldType := (R_Q, ⟨R_Q, "isAnswer", "(I)Z"⟩, prog_1_method_35_code, 1, (Option.some Jvm.ClassFile.FieldType.boolean))
abbrev m_Q_openTask : String × MethodName × ByteArray × Nat × Option FieldType := (R_Q, ⟨R_Q, "openTask", "(III)LQuorumNodes$Node;"⟩, prog_1_method_36_code, 5, (Option.some (Jvm.ClassFile.FieldType.object "QuorumNodes$Node")))
abbrev m_Q_started : String × MethodName × ByteArray × Nat × Option FieldType := (R_Q, ⟨R_Q, "started", "(LQuorumNodes$Node;)I"⟩, prog_1_method_37_code, 1, (Option.some Jvm.ClassFile.FieldType.int))
abbrev m_Q_beginFirst : String × MethodName × ByteArray × Nat × Option FieldType := (R_Q, ⟨R_Q, "beginFirst", "(LQuorumNodes$Node;)V"⟩, prog_1_method_38_code, 3, (Option.none : Option Jvm.ClassFile.FieldType))
abbrev m_Q_beginSecond : String × MethodName × ByteArray × Nat × Option FieldType := (R_Q, ⟨R_Q, "beginSecond", "(LQuorumNodes$Node;)V"⟩, prog_1_method_39_code, 3, (Option.none : Option Jvm.ClassFile.FieldType))
abbrev m_Q_ask : String × MethodName × ByteArray × Nat × Option FieldType := (R_Q, ⟨R_Q, "ask", "(LQuorumNodes$Node;)V"⟩, prog_1_method_40_code, 5, (Option.none : Option Jvm.ClassFile.FieldType))
abbrev m_Q_askAgain : String × MethodName × ByteArray × Nat × Option FieldType := (R_Q, ⟨R_Q, "askAgain", "(LQuorumNodes$Node;)V"⟩, prog_1_method_41_code, 4, (Option.none : Option Jvm.ClassFile.FieldType))
abbrev m_Q_draftRequest : String × MethodName × ByteArray × Nat × Option FieldType := (R_Q, ⟨R_Q, "draftRequest", "(LQuorumNodes$Node;)V"⟩, prog_1_method_42_code, 3, (Option.none : Option Jvm.ClassFile.FieldType))
abbrev m_Q_requestOf : String × MethodName × ByteArray × Nat × Option FieldType := (R_Q, ⟨R_Q, "requestOf", "(LQuorumNodes$Task;)I"⟩, prog_1_method_43_code, 2, (Option.some Jvm.ClassFile.FieldType.int))
abbrev m_Q_concerned : String × MethodName × ByteArray × Nat × Option FieldType := (R_Q, ⟨R_Q, "concerned", "(LQuorumNodes$Node;)I"⟩, prog_1_method_44_code, 2, (Option.some Jvm.ClassFile.FieldType.int))
abbrev m_Q_isEnough : String × MethodName × ByteArray × Nat × Option FieldType := (R_Q, ⟨R_Q, "isEnough", "(LQuorumNodes$Node;)Z"⟩, prog_1_method_45_code, 5, (Option.some Jvm.ClassFile.FieldType.boolean))
abbrev m_Q_needed : String × MethodName × ByteArray × Nat × Option FieldType := (R_Q, ⟨R_Q, "needed", "(LQuorumNodes$Task;I)I"⟩, prog_1_method_46_code, 3, (Option.some Jvm.ClassFile.FieldType.int))
abbrev m_Q_settle : String × MethodName × ByteArray × Nat × Option FieldType := (R_Q, ⟨R_Q, "settle", "(LQuorumNodes$Node;)V"⟩, prog_1_method_47_code, 3, (Option.none : Option Jvm.ClassFile.FieldType))
abbrev m_Q_finish : String × MethodName × ByteArray × Nat × Option FieldType := (R_Q, ⟨R_Q, "finish", "(LQuorumNodes$Node;)V"⟩, prog_1_method_48_code, 3, (Option.none : Option Jvm.ClassFile.FieldType))
abbrev m_Q_conclude : String × MethodName × ByteArray × Nat × Option FieldType := (R_Q, ⟨R_Q, "conclude", "(LQuorumNodes$Node;)V"⟩, prog_1_method_49_code, 2, (Option.none : Option Jvm.ClassFile.FieldType))
abbrev m_Q_look : String × MethodName × ByteArray × Nat × Option FieldType := (R_Q, ⟨R_Q, "look", "(LQuorumNodes$Node;I)V"⟩, prog_1_method_50_code, 4, (Option.none : Option Jvm.ClassFile.FieldType))
abbrev m_Q_serve : String × MethodName × ByteArray × Nat × Option FieldType := (R_Q, ⟨R_Q, "serve", "(LQuorumNodes$Node;LQuorumNodes$Message;)V"⟩, prog_1_method_51_code, 3, (Option.none : Option Jvm.ClassFile.FieldType))
abbrev m_Q_vote : String × MethodName × ByteArray × Nat × Option FieldType := (R_Q, ⟨R_Q, "vote", "(LQuorumNodes$Node;LQuorumNodes$Message;)V"⟩, prog_1_method_52_code, 6, (Option.none : Option Jvm.ClassFile.FieldType))
abbrev m_Q_sendReply : String × MethodName × ByteArray × Nat × Option FieldType := (R_Q, ⟨R_Q, "sendReply", "(LQuorumNodes$Node;)V"⟩, prog_1_method_53_code, 2, (Option.none : Option Jvm.ClassFile.FieldType))
abbrev m_Q_hear : String × MethodName × ByteArray × Nat × Option FieldType := (R_Q, ⟨R_Q, "hear", "(LQuorumNodes$Node;LQuorumNodes$Message;)V"⟩, prog_1_method_54_code, 3, (Option.none : Option Jvm.ClassFile.FieldType))
abbrev m_M_init : String × MethodName × ByteArray × Nat × Option FieldType := (R_M, ⟨R_M, "<init>", "(III)V"⟩, prog_10_method_1_code, 8, (Option.none : Option Jvm.ClassFile.FieldType))
abbrev m_M_in : String × MethodName × ByteArray × Nat × Option FieldType := (R_M, ⟨R_M, "in", "(III)Z"⟩, prog_10_method_3_code, 3, (Option.some Jvm.ClassFile.FieldType.boolean))
abbrev m_M_isNode : String × MethodName × ByteArray × Nat × Option FieldType := (R_M, ⟨R_M, "isNode", "(I)Z"⟩, prog_10_method_4_code, 1, (Option.some Jvm.ClassFile.FieldType.boolean))
abbrev m_M_isUp : String × MethodName × ByteArray × Nat × Option FieldType := (R_M, ⟨R_M, "isUp", "(I)Z"⟩, prog_10_method_5_code, 2, (Option.some Jvm.ClassFile.FieldType.boolean))
abbrev m_M_reads : String × MethodName × ByteArray × Nat × Option FieldType := (R_M, ⟨R_M, "reads", "(I)I"⟩, prog_10_method_6_code, 1, (Option.some Jvm.ClassFile.FieldType.int))
abbrev m_M_stores : String × MethodName × ByteArray × Nat × Option FieldType := (R_M, ⟨R_M, "stores", "(I)I"⟩, prog_10_method_7_code, 1, (Option.some Jvm.ClassFile.FieldType.int))
abbrev m_M_many : String × MethodName × ByteArray × Nat × Option FieldType := (R_M, ⟨R_M, "many", "(I)I"⟩, prog_10_method_8_code, 3, (Option.some Jvm.ClassFile.FieldType.int))
abbrev m_M_goesDown : String × MethodName × ByteArray × Nat × Option FieldType := (R_M, ⟨R_M, "goesDown", "(I)V"⟩, prog_10_method_9_code, 2, (Option.none : Option Jvm.ClassFile.FieldType))
abbrev m_M_mayWrite : String × MethodName × ByteArray × Nat × Option FieldType := (R_M, ⟨R_M, "mayWrite", "(I)Z"⟩, prog_10_method_10_code, 2, (Option.some Jvm.ClassFile.FieldType.boolean))
abbrev m_M_writeRound : String × MethodName × ByteArray × Nat × Option FieldType := (R_M, ⟨R_M, "writeRound", "(II)V"⟩, prog_10_method_11_code, 3, (Option.none : Option Jvm.ClassFile.FieldType))
abbrev m_M_store : String × MethodName × ByteArray × Nat × Option FieldType := (R_M, ⟨R_M, "store", "(IIIII)V"⟩, prog_10_method_12_code, 7, (Option.none : Option Jvm.ClassFile.FieldType))
abbrev m_M_isGreater : String × MethodName × ByteArray × Nat × Option FieldType := (R_M, ⟨R_M, "isGreater", "(IIII)Z"⟩, prog_10_method_13_code, 4, (Option.some Jvm.ClassFile.FieldType.boolean))
abbrev m_M_writeMap : String × MethodName × ByteArray × Nat × Option FieldType := (R_M, ⟨R_M, "writeMap", "(IIII)V"⟩, prog_10_method_14_code, 6, (Option.none : Option Jvm.ClassFile.FieldType))
abbrev m_M_writeVote : String × MethodName × ByteArray × Nat × Option FieldType := (R_M, ⟨R_M, "writeVote", "(IIIII)V"⟩, prog_10_method_15_code, 7, (Option.none : Option Jvm.ClassFile.FieldType))
abbrev m_M_greatest : String × MethodName × ByteArray × Nat × Option FieldType := (R_M, ⟨R_M, "greatest", "(I)I"⟩, prog_10_method_16_code, 4, (Option.some Jvm.ClassFile.FieldType.int))
abbrev m_M_least : String × MethodName × ByteArray × Nat × Option FieldType := (R_M, ⟨R_M, "least", "(I)I"⟩, prog_10_method_17_code, 4, (Option.some Jvm.ClassFile.FieldType.int))
abbrev m_M_allActive : String × MethodName × ByteArray × Nat × Option FieldType := (R_M, ⟨R_M, "allActive", "(I)I"⟩, prog_10_method_18_code, 4, (Option.some Jvm.ClassFile.FieldType.int))
abbrev m_M_send : String × MethodName × ByteArray × Nat × Option FieldType := (R_M, ⟨R_M, "send", "(IIIIIIIIIZZ)V"⟩, prog_10_method_19_code, 15, (Option.none : Option Jvm.ClassFile.FieldType))
abbrev m_M_remove : String × MethodName × ByteArray × Nat × Option FieldType := (R_M, ⟨R_M, "remove", "(I)V"⟩, prog_10_method_20_code, 3, (Option.none : Option Jvm.ClassFile.FieldType))
abbrev m_M_best : String × MethodName × ByteArray × Nat × Option FieldType := (R_M, ⟨R_M, "best", "(IIIII)V"⟩, prog_10_method_21_code, 7, (Option.none : Option Jvm.ClassFile.FieldType))
abbrev m_M_bestIsOwn : String × MethodName × ByteArray × Nat × Option FieldType := (R_M, ⟨R_M, "bestIsOwn", "(I)V"⟩, prog_10_method_22_code, 4, (Option.none : Option Jvm.ClassFile.FieldType))
abbrev m_M_top : String × MethodName × ByteArray × Nat × Option FieldType := (R_M, ⟨R_M, "top", "(III)V"⟩, prog_10_method_23_code, 4, (Option.none : Option Jvm.ClassFile.FieldType))
abbrev m_M_isData : String × MethodName × ByteArray × Nat × Option FieldType := (R_M, ⟨R_M, "isData", "(I)Z"⟩, prog_10_method_24_code, 2, (Option.some Jvm.ClassFile.FieldType.boolean))
abbrev m_M_chosen : String × MethodName × ByteArray × Nat × Option FieldType := (R_M, ⟨R_M, "chosen", "(I)I"⟩, prog_10_method_25_code, 2, (Option.some Jvm.ClassFile.FieldType.int))
abbrev m_M_request : String × MethodName × ByteArray × Nat × Option FieldType := (R_M, ⟨R_M, "request", "(II)V"⟩, prog_10_method_26_code, 4, (Option.none : Option Jvm.ClassFile.FieldType))
abbrev m_M_does : String × MethodName × ByteArray × Nat × Option FieldType := (R_M, ⟨R_M, "does", "(I)V"⟩, prog_10_method_27_code, 5, (Option.none : Option Jvm.ClassFile.FieldType))
abbrev m_M_refused : String × MethodName × ByteArray × Nat × Option FieldType := (R_M, ⟨R_M, "refused", "(II)V"⟩, prog_10_method_28_code, 3, (Option.none : Option Jvm.ClassFile.FieldType))
abbrev m_M_ask : String × MethodName × ByteArray × Nat × Option FieldType := (R_M, ⟨R_M, "ask", "(II)V"⟩, prog_10_method_29_code, 4, (Option.none : Option Jvm.ClassFile.FieldType))
abbrev m_M_wantedSet : String × MethodName × ByteArray × Nat × Option FieldType := (R_M, ⟨R_M, "wantedSet", "(I)I"⟩, prog_10_method_30_code, 4, (Option.some Jvm.ClassFile.FieldType.int))
abbrev m_M_begins : String × MethodName × ByteArray × Nat × Option FieldType := (R_M, ⟨R_M, "begins", "(II)V"⟩, prog_10_method_31_code, 3, (Option.none : Option Jvm.ClassFile.FieldType))
abbrev m_M_isEnough : String × MethodName × ByteArray × Nat × Option FieldType := (R_M, ⟨R_M, "isEnough", "(I)Z"⟩, prog_10_method_32_code, 8, (Option.some Jvm.ClassFile.FieldType.boolean))
abbrev m_M_goesOn : String × MethodName × ByteArray × Nat × Option FieldType := (R_M, ⟨R_M, "goesOn", "(I)V"⟩, prog_10_method_33_code, 2, (Option.none : Option Jvm.ClassFile.FieldType))
abbrev m_M_second : String × MethodName × ByteArray × Nat × Option FieldType := (R_M, ⟨R_M, "second", "(I)V"⟩, prog_10_method_34_code, 3, (Option.none : Option Jvm.ClassFile.FieldType))
abbrev m_M_ends : String × MethodName × ByteArray × Nat × Option FieldType := (R_M, ⟨R_M, "ends", "(I)V"⟩, prog_10_method_35_code, 4, (Option.none : Option Jvm.ClassFile.FieldType))
abbrev m_M_many16 : String × MethodName × ByteArray × Nat × Option FieldType := (R_M, ⟨R_M, "many16", "(I)I"⟩, prog_10_method_36_code, 3, (Option.some Jvm.ClassFile.FieldType.int))
abbrev m_M_proposed : String × MethodName × ByteArray × Nat × Option FieldType := (R_M, ⟨R_M, "proposed", "(I)V"⟩, prog_10_method_37_code, 2, (Option.none : Option Jvm.ClassFile.FieldType))
abbrev m_M_looks : String × MethodName × ByteArray × Nat × Option FieldType := (R_M, ⟨R_M, "looks", "(IZ)V"⟩, prog_10_method_38_code, 3, (Option.none : Option Jvm.ClassFile.FieldType))
abbrev m_M_counts : String × MethodName × ByteArray × Nat × Option FieldType := (R_M, ⟨R_M, "counts", "(I)Z"⟩, prog_10_method_39_code, 2, (Option.some Jvm.ClassFile.FieldType.boolean))
abbrev m_M_answer : String × MethodName × ByteArray × Nat × Option FieldType := (R_M, ⟨R_M, "answer", "(IIIIIZI)V"⟩, prog_10_method_40_code, 8, (Option.none : Option Jvm.ClassFile.FieldType))
abbrev m_M_hasAnswered : String × MethodName × ByteArray × Nat × Option FieldType := (R_M, ⟨R_M, "hasAnswered", "(I)V"⟩, prog_10_method_41_code, 2, (Option.none : Option Jvm.ClassFile.FieldType))
abbrev m_M_storeAll : String × MethodName × ByteArray × Nat × Option FieldType := (R_M, ⟨R_M, "storeAll", "(I)V"⟩, prog_10_method_42_code, 3, (Option.none : Option Jvm.ClassFile.FieldType))
abbrev m_M_merges : String × MethodName × ByteArray × Nat × Option FieldType := (R_M, ⟨R_M, "merges", "(I)V"⟩, prog_10_method_43_code, 7, (Option.none : Option Jvm.ClassFile.FieldType))
abbrev m_M_handles : String × MethodName × ByteArray × Nat × Option FieldType := (R_M, ⟨R_M, "handles", "(I)V"⟩, prog_10_method_44_code, 4, (Option.none : Option Jvm.ClassFile.FieldType))
abbrev m_M_votes : String × MethodName × ByteArray × Nat × Option FieldType := (R_M, ⟨R_M, "votes", "(II)V"⟩, prog_10_method_45_code, 5, (Option.none : Option Jvm.ClassFile.FieldType))
abbrev m_M_answers : String × MethodName × ByteArray × Nat × Option FieldType := (R_M, ⟨R_M, "answers", "(I)V"⟩, prog_10_method_46_code, 3, (Option.none : Option Jvm.ClassFile.FieldType))
abbrev m_M_isFree : String × MethodName × ByteArray × Nat × Option FieldType := (R_M, ⟨R_M, "isFree", "(I)Z"⟩, prog_10_method_47_code, 2, (Option.some Jvm.ClassFile.FieldType.boolean))
abbrev m_M_starts : String × MethodName × ByteArray × Nat × Option FieldType := (R_M, ⟨R_M, "starts", "(IIII)I"⟩, prog_10_method_48_code, 6, (Option.some Jvm.ClassFile.FieldType.int))
abbrev m_M_read : String × MethodName × ByteArray × Nat × Option FieldType := (R_M, ⟨R_M, "read", "(II)I"⟩, prog_10_method_49_code, 3, (Option.some Jvm.ClassFile.FieldType.int))
abbrev m_M_write : String × MethodName × ByteArray × Nat × Option FieldType := (R_M, ⟨R_M, "write", "(III)I"⟩, prog_10_method_50_code, 4, (Option.some Jvm.ClassFile.FieldType.int))
abbrev m_M_propose : String × MethodName × ByteArray × Nat × Option FieldType := (R_M, ⟨R_M, "propose", "(IIII)I"⟩, prog_10_method_51_code, 6, (Option.some Jvm.ClassFile.FieldType.int))
abbrev m_M_retire : String × MethodName × ByteArray × Nat × Option FieldType := (R_M, ⟨R_M, "retire", "(I)I"⟩, prog_10_method_52_code, 3, (Option.some Jvm.ClassFile.FieldType.int))
abbrev m_M_again : String × MethodName × ByteArray × Nat × Option FieldType := (R_M, ⟨R_M, "again", "(I)I"⟩, prog_10_method_53_code, 3, (Option.some Jvm.ClassFile.FieldType.int))
abbrev m_M_gossip : String × MethodName × ByteArray × Nat × Option FieldType := (R_M, ⟨R_M, "gossip", "(II)Z"⟩, prog_10_method_54_code, 3, (Option.some Jvm.ClassFile.FieldType.boolean))
abbrev m_M_join : String × MethodName × ByteArray × Nat × Option FieldType := (R_M, ⟨R_M, "join", "(II)Z"⟩, prog_10_method_55_code, 3, (Option.some Jvm.ClassFile.FieldType.boolean))
abbrev m_M_deliver : String × MethodName × ByteArray × Nat × Option FieldType := (R_M, ⟨R_M, "deliver", "(I)I"⟩, prog_10_method_56_code, 3, (Option.some Jvm.ClassFile.FieldType.int))
abbrev m_M_lose : String × MethodName × ByteArray × Nat × Option FieldType := (R_M, ⟨R_M, "lose", "(I)Z"⟩, prog_10_method_57_code, 2, (Option.some Jvm.ClassFile.FieldType.boolean))
abbrev m_M_twice : String × MethodName × ByteArray × Nat × Option FieldType := (R_M, ⟨R_M, "twice", "(I)Z"⟩, prog_10_method_58_code, 3, (Option.some Jvm.ClassFile.FieldType.boolean))
abbrev m_M_crash : String × MethodName × ByteArray × Nat × Option FieldType := (R_M, ⟨R_M, "crash", "(I)Z"⟩, prog_10_method_59_code, 2, (Option.some Jvm.ClassFile.FieldType.boolean))
abbrev m_M_restart : String × MethodName × ByteArray × Nat × Option FieldType := (R_M, ⟨R_M, "restart", "(I)Z"⟩, prog_10_method_60_code, 2, (Option.some Jvm.ClassFile.FieldType.boolean))
abbrev m_M_arm : String × MethodName × ByteArray × Nat × Option FieldType := (R_M, ⟨R_M, "arm", "(II)Z"⟩, prog_10_method_61_code, 3, (Option.some Jvm.ClassFile.FieldType.boolean))
abbrev m_M_node : String × MethodName × ByteArray × Nat × Option FieldType := (R_M, ⟨R_M, "node", "(II)I"⟩, prog_10_method_62_code, 3, (Option.some Jvm.ClassFile.FieldType.int))
abbrev m_M_cell : String × MethodName × ByteArray × Nat × Option FieldType := (R_M, ⟨R_M, "cell", "(III)I"⟩, prog_10_method_63_code, 5, (Option.some Jvm.ClassFile.FieldType.int))
abbrev m_M_map : String × MethodName × ByteArray × Nat × Option FieldType := (R_M, ⟨R_M, "map", "(III)I"⟩, prog_10_method_64_code, 5, (Option.some Jvm.ClassFile.FieldType.int))
abbrev m_M_task : String × MethodName × ByteArray × Nat × Option FieldType := (R_M, ⟨R_M, "task", "(II)I"⟩, prog_10_method_65_code, 4, (Option.some Jvm.ClassFile.FieldType.int))
abbrev m_M_message : String × MethodName × ByteArray × Nat × Option FieldType := (R_M, ⟨R_M, "message", "(II)I"⟩, prog_10_method_66_code, 5, (Option.some Jvm.ClassFile.FieldType.int))
abbrev m_M_count : String × MethodName × ByteArray × Nat × Option FieldType := (R_M, ⟨R_M, "count", "(I)I"⟩, prog_10_method_67_code, 4, (Option.some Jvm.ClassFile.FieldType.int))
abbrev m_Co_init : String × MethodName × ByteArray × Nat × Option FieldType := (R_Co, ⟨R_Co, "<init>", "()V"⟩, prog_2_method_1_code, 1, (Option.none : Option Jvm.ClassFile.FieldType))
abbrev m_Co_numberOf : String × MethodName × ByteArray × Nat × Option FieldType := (R_Co, ⟨R_Co, "numberOf", "(I)I"⟩, prog_2_method_2_code, 2, (Option.some Jvm.ClassFile.FieldType.int))
abbrev m_Co_writerOf : String × MethodName × ByteArray × Nat × Option FieldType := (R_Co, ⟨R_Co, "writerOf", "(I)I"⟩, prog_2_method_3_code, 2, (Option.some Jvm.ClassFile.FieldType.int))
abbrev m_Co_valueOf : String × MethodName × ByteArray × Nat × Option FieldType := (R_Co, ⟨R_Co, "valueOf", "(I)I"⟩, prog_2_method_4_code, 2, (Option.some Jvm.ClassFile.FieldType.int))
abbrev m_Co_put : String × MethodName × ByteArray × Nat × Option FieldType := (R_Co, ⟨R_Co, "put", "(IIII)V"⟩, prog_2_method_5_code, 5, (Option.none : Option Jvm.ClassFile.FieldType))
abbrev m_Co_copyFrom : String × MethodName × ByteArray × Nat × Option FieldType := (R_Co, ⟨R_Co, "copyFrom", "(LQuorumNodes$Copies;)V"⟩, prog_2_method_6_code, 2, (Option.none : Option Jvm.ClassFile.FieldType))
abbrev m_Co_takeGreater : String × MethodName × ByteArray × Nat × Option FieldType := (R_Co, ⟨R_Co, "takeGreater", "(LQuorumNodes$Copies;I)V"⟩, prog_2_method_7_code, 4, (Option.none : Option Jvm.ClassFile.FieldType))
abbrev m_Co_putFrom : String × MethodName × ByteArray × Nat × Option FieldType := (R_Co, ⟨R_Co, "putFrom", "(ILQuorumNodes$Copies;)V"⟩, prog_2_method_8_code, 3, (Option.none : Option Jvm.ClassFile.FieldType))
abbrev m_Co_isLess : String × MethodName × ByteArray × Nat × Option FieldType := (R_Co, ⟨R_Co, "isLess", "(ILQuorumNodes$Copies;)Z"⟩, prog_2_method_9_code, 5, (Option.some Jvm.ClassFile.FieldType.boolean))
abbrev m_Ma_init : String × MethodName × ByteArray × Nat × Option FieldType := (R_Ma, ⟨R_Ma, "<init>", "()V"⟩, prog_3_method_1_code, 2, (Option.none : Option Jvm.ClassFile.FieldType))
abbrev m_Ma_row : String × MethodName × ByteArray × Nat × Option FieldType := (R_Ma, ⟨R_Ma, "row", "(I)LQuorumNodes$Message;"⟩, prog_3_method_2_code, 2, (Option.some (Jvm.ClassFile.FieldType.object "QuorumNodes$Message")))
abbrev m_Ma_send : String × MethodName × ByteArray × Nat × Option FieldType := (R_Ma, ⟨R_Ma, "send", "(LQuorumNodes$Message;)V"⟩, prog_3_method_3_code, 2, (Option.none : Option Jvm.ClassFile.FieldType))
abbrev m_Ma_takeOut : String × MethodName × ByteArray × Nat × Option FieldType := (R_Ma, ⟨R_Ma, "takeOut", "(I)LQuorumNodes$Message;"⟩, prog_3_method_4_code, 4, (Option.some (Jvm.ClassFile.FieldType.object "QuorumNodes$Message")))
abbrev m_Me_init : String × MethodName × ByteArray × Nat × Option FieldType := (R_Me, ⟨R_Me, "<init>", "()V"⟩, prog_4_method_1_code, 1, (Option.none : Option Jvm.ClassFile.FieldType))
abbrev m_Me_hasTag : String × MethodName × ByteArray × Nat × Option FieldType := (R_Me, ⟨R_Me, "hasTag", "()Z"⟩, prog_4_method_2_code, 1, (Option.some Jvm.ClassFile.FieldType.boolean))
abbrev m_Me_clear : String × MethodName × ByteArray × Nat × Option FieldType := (R_Me, ⟨R_Me, "clear", "()V"⟩, prog_4_method_3_code, 1, (Option.none : Option Jvm.ClassFile.FieldType))
abbrev m_Me_open : String × MethodName × ByteArray × Nat × Option FieldType := (R_Me, ⟨R_Me, "open", "(ILQuorumNodes$Node;I)V"⟩, prog_4_method_4_code, 4, (Option.none : Option Jvm.ClassFile.FieldType))
abbrev m_Me_openAnswer : String × MethodName × ByteArray × Nat × Option FieldType := (R_Me, ⟨R_Me, "openAnswer", "(LQuorumNodes$Message;I)V"⟩, prog_4_method_5_code, 3, (Option.none : Option Jvm.ClassFile.FieldType))
abbrev m_Me_copyFrom : String × MethodName × ByteArray × Nat × Option FieldType := (R_Me, ⟨R_Me, "copyFrom", "(LQuorumNodes$Message;)V"⟩, prog_4_method_6_code, 2, (Option.none : Option Jvm.ClassFile.FieldType))
abbrev m_No_init : String × MethodName × ByteArray × Nat × Option FieldType := (R_No, ⟨R_No, "<init>", "(I)V"⟩, prog_5_method_1_code, 2, (Option.none : Option Jvm.ClassFile.FieldType))
abbrev m_No_isUp : String × MethodName × ByteArray × Nat × Option FieldType := (R_No, ⟨R_No, "isUp", "()Z"⟩, prog_5_method_2_code, 1, (Option.some Jvm.ClassFile.FieldType.boolean))
abbrev m_No_isBusy : String × MethodName × ByteArray × Nat × Option FieldType := (R_No, ⟨R_No, "isBusy", "()Z"⟩, prog_5_method_3_code, 1, (Option.some Jvm.ClassFile.FieldType.boolean))
abbrev m_No_fall : String × MethodName × ByteArray × Nat × Option FieldType := (R_No, ⟨R_No, "fall", "()V"⟩, prog_5_method_4_code, 1, (Option.none : Option Jvm.ClassFile.FieldType))
abbrev m_No_mayWrite : String × MethodName × ByteArray × Nat × Option FieldType := (R_No, ⟨R_No, "mayWrite", "()Z"⟩, prog_5_method_5_code, 1, (Option.some Jvm.ClassFile.FieldType.boolean))
abbrev m_No_openPhase : String × MethodName × ByteArray × Nat × Option FieldType := (R_No, ⟨R_No, "openPhase", "(I)V"⟩, prog_5_method_6_code, 2, (Option.none : Option Jvm.ClassFile.FieldType))
abbrev m_No_raiseRound : String × MethodName × ByteArray × Nat × Option FieldType := (R_No, ⟨R_No, "raiseRound", "(I)V"⟩, prog_5_method_7_code, 2, (Option.none : Option Jvm.ClassFile.FieldType))
abbrev m_No_take : String × MethodName × ByteArray × Nat × Option FieldType := (R_No, ⟨R_No, "take", "(LQuorumNodes$Copies;I)V"⟩, prog_5_method_8_code, 4, (Option.none : Option Jvm.ClassFile.FieldType))
abbrev m_No_merge : String × MethodName × ByteArray × Nat × Option FieldType := (R_No, ⟨R_No, "merge", "(LQuorumNodes$Sets;)Z"⟩, prog_5_method_9_code, 2, (Option.some Jvm.ClassFile.FieldType.boolean))
abbrev m_No_mark : String × MethodName × ByteArray × Nat × Option FieldType := (R_No, ⟨R_No, "mark", "(III)V"⟩, prog_5_method_10_code, 4, (Option.none : Option Jvm.ClassFile.FieldType))
abbrev m_Se_init : String × MethodName × ByteArray × Nat × Option FieldType := (R_Se, ⟨R_Se, "<init>", "()V"⟩, prog_6_method_1_code, 1, (Option.none : Option Jvm.ClassFile.FieldType))
abbrev m_Se_stateOf : String × MethodName × ByteArray × Nat × Option FieldType := (R_Se, ⟨R_Se, "stateOf", "(I)I"⟩, prog_6_method_2_code, 2, (Option.some Jvm.ClassFile.FieldType.int))
abbrev m_Se_configurationOf : String × MethodName × ByteArray × Nat × Option FieldType := (R_Se, ⟨R_Se, "configurationOf", "(I)I"⟩, prog_6_method_3_code, 2, (Option.some Jvm.ClassFile.FieldType.int))
abbrev m_Se_put : String × MethodName × ByteArray × Nat × Option FieldType := (R_Se, ⟨R_Se, "put", "(III)V"⟩, prog_6_method_4_code, 4, (Option.none : Option Jvm.ClassFile.FieldType))
abbrev m_Se_having : String × MethodName × ByteArray × Nat × Option FieldType := (R_Se, ⟨R_Se, "having", "(I)I"⟩, prog_6_method_5_code, 4, (Option.some Jvm.ClassFile.FieldType.int))
abbrev m_Se_membersOfAll : String × MethodName × ByteArray × Nat × Option FieldType := (R_Se, ⟨R_Se, "membersOfAll", "(I)I"⟩, prog_6_method_6_code, 4, (Option.some Jvm.ClassFile.FieldType.int))
abbrev m_Se_copyFrom : String × MethodName × ByteArray × Nat × Option FieldType := (R_Se, ⟨R_Se, "copyFrom", "(LQuorumNodes$Sets;)V"⟩, prog_6_method_7_code, 2, (Option.none : Option Jvm.ClassFile.FieldType))
abbrev m_Se_isBehind : String × MethodName × ByteArray × Nat × Option FieldType := (R_Se, ⟨R_Se, "isBehind", "(LQuorumNodes$Sets;)Z"⟩, prog_6_method_8_code, 3, (Option.some Jvm.ClassFile.FieldType.boolean))
abbrev m_Se_takeGreater : String × MethodName × ByteArray × Nat × Option FieldType := (R_Se, ⟨R_Se, "takeGreater", "(LQuorumNodes$Sets;)V"⟩, prog_6_method_9_code, 3, (Option.none : Option Jvm.ClassFile.FieldType))
abbrev m_Ta_init : String × MethodName × ByteArray × Nat × Option FieldType := (R_Ta, ⟨R_Ta, "<init>", "()V"⟩, prog_7_method_1_code, 1, (Option.none : Option Jvm.ClassFile.FieldType))
abbrev m_Ta_isOfObject : String × MethodName × ByteArray × Nat × Option FieldType := (R_Ta, ⟨R_Ta, "isOfObject", "()Z"⟩, prog_7_method_2_code, 1, (Option.some Jvm.ClassFile.FieldType.boolean))
abbrev m_Ta_open : String × MethodName × ByteArray × Nat × Option FieldType := (R_Ta, ⟨R_Ta, "open", "(III)V"⟩, prog_7_method_3_code, 4, (Option.none : Option Jvm.ClassFile.FieldType))
abbrev m_Vo_init : String × MethodName × ByteArray × Nat × Option FieldType := (R_Vo, ⟨R_Vo, "<init>", "()V"⟩, prog_8_method_1_code, 1, (Option.none : Option Jvm.ClassFile.FieldType))
abbrev m_Vo_promisedAt : String × MethodName × ByteArray × Nat × Option FieldType := (R_Vo, ⟨R_Vo, "promisedAt", "(I)I"⟩, prog_8_method_2_code, 2, (Option.some Jvm.ClassFile.FieldType.int))
abbrev m_Vo_acceptedAt : String × MethodName × ByteArray × Nat × Option FieldType := (R_Vo, ⟨R_Vo, "acceptedAt", "(I)I"⟩, prog_8_method_3_code, 2, (Option.some Jvm.ClassFile.FieldType.int))
abbrev m_Vo_configurationAt : String × MethodName × ByteArray × Nat × Option FieldType := (R_Vo, ⟨R_Vo, "configurationAt", "(I)I"⟩, prog_8_method_4_code, 2, (Option.some Jvm.ClassFile.FieldType.int))
abbrev m_Vo_isAs : String × MethodName × ByteArray × Nat × Option FieldType := (R_Vo, ⟨R_Vo, "isAs", "(IIII)Z"⟩, prog_8_method_5_code, 5, (Option.some Jvm.ClassFile.FieldType.boolean))
abbrev m_Vo_put : String × MethodName × ByteArray × Nat × Option FieldType := (R_Vo, ⟨R_Vo, "put", "(IIII)V"⟩, prog_8_method_6_code, 5, (Option.none : Option Jvm.ClassFile.FieldType))
abbrev m_L_cell : String × MethodName × ByteArray × Nat × Option FieldType := (R_L, ⟨R_L, "cell", "([II)I"⟩, method_2_code, 2, (Option.some Jvm.ClassFile.FieldType.int))
abbrev m_L_law : String × MethodName × ByteArray × Nat × Option FieldType := (R_L, x, code, maxLocals, ret)
end
section
/-! A SMALL MACHINE OVER THE KIT'S ROWS: worlds whose cells stand at known places, frames as lists, one judgement (xW) without the machine's own context, one contract (xMet). -/
abbrev xE : Type := (Nat × (List Int32 ⊕ List (Option Nat))) ⊕ (Nat × List Value)
abbrev xH : Type := Nat × (Nat → Option xE)
abbrev xM : Type := String × MethodName × ByteArray × Nat × Option FieldType
abbrev xTs : Type := List (ClassId × FieldType)
def xad (b base k : Nat) : Nat := if k = 0 then b else base + k
def xv (b base : Nat) (v : Value) : Value := match v with
  | .ref k => .ref (xad b base k)
  | w => w
def xcA (tys : xTs) (t : Nat) : ClassId := (tys.getD t (0, .int)).1
def xc (tys : xTs) (b base : Nat) (e : xE) : va_E := match e with
  | .inl (t, .inl l) => .inl (xcA tys t, l.length, .inl (fun j => l.getD j 0))
  | .inl (t, .inr l) => .inl (xcA tys t, l.length, .inr (.inr (.inr (.inr (fun j => (l.getD j none).map (xad b base))))))
  | .inr (ci, fs) => .inr (ci, fs.map (xv b base))
def xR (tys : xTs) (D : va_G) (b base : Nat) (h : xH) (H : Heap) : Prop :=
  H.size = base + 1 + h.1 ∧ ∀ (k : Nat) (e : xE), h.2 k = some e → 0 < k ∧ va_at D vwCl (base + k, xc tys b base e) H
def xu (h : xH) (k : Nat) (e : xE) : xH := (h.1, fun j => if j = k then some e else h.2 j)
def xn (h : xH) (e : xE) : xH := (h.1 + 1, fun j => if j = h.1 + 1 then some e else h.2 j)
theorem xR.set {tys : xTs} {D : va_G} {b base : Nat} {h : xH} {H H1 : Heap} {k : Nat} {e0 e : xE} (hR : xR tys D b base h H) (hk : h.2 k = some e0) (he : va_at D vwCl (base + k, xc tys b base e) H1) (z : H1.size = H.size) (oq : ∀ q : Nat, q ≠ base + k → H1[q]? = H[q]?) : xR tys D b base (xu h k e) H1 := by
  refine ⟨z.trans hR.1, fun j e' hj => ?_⟩
  by_cases hjk : j = k
  · subst hjk
    simp only [xu, if_true] at hj
    cases hj
    exact ⟨(hR.2 _ _ hk).1, he⟩
  · simp only [xu, if_neg hjk] at hj
    obtain ⟨h1, h2⟩ := hR.2 j e' hj
    exact ⟨h1, h2.kept (oq _ (by show base + j ≠ base + k; omega))⟩
theorem xR.push {tys : xTs} {D : va_G} {b base : Nat} {h : xH} {H H1 : Heap} {e : xE} (hR : xR tys D b base h H) (z : H1.size = H.size + 1) (oq : ∀ q : Nat, q < H.size → H1[q]? = H[q]?) (he : va_at D vwCl (base + (h.1 + 1), xc tys b base e) H1) : xR tys D b base (xn h e) H1 := by
  refine ⟨by rw [z, hR.1]; rfl, fun j e' hj => ?_⟩
  by_cases hjk : j = h.1 + 1
  · subst hjk
    simp only [xn, if_true] at hj
    cases hj
    exact ⟨Nat.succ_pos _, he⟩
  · simp only [xn, if_neg hjk] at hj
    obtain ⟨h1, h2⟩ := hR.2 j e' hj
    exact ⟨h1, h2.kept (oq _ h2.lt)⟩
theorem xR.new {tys : xTs} {D : va_G} {b base : Nat} {h : xH} {H : Heap} (hR : xR tys D b base h H) : base + (h.1 + 1) = H.size := by rw [hR.1]; omega
theorem xad_pos {b base k : Nat} (h : 0 < k) : xad b base k = base + k := by unfold xad; rw [if_neg (by omega)]
theorem xv_cat (b base : Nat) (v : Value) : (xv b base v).category = v.category := by cases v <;> rfl
theorem xv_sum (b base : Nat) (st : List Value) : ((st.map (xv b base)).map fun v => v.category).sum = (st.map fun v => v.category).sum := by
  rw [List.map_map]
  congr 1
  exact List.map_congr_left fun v _ => xv_cat b base v
def xa (b base : Nat) : Nat → List (Option Value) → List (Nat × Value)
  | _, [] => []
  | i, none :: r => xa b base (i + 1) r
  | i, some v :: r => (i, xv b base v) :: xa b base (i + 1) r
theorem xa_mem {b base : Nat} {q : Nat × Value} : ∀ (lv : List (Option Value)) (i : Nat), q ∈ xa b base i lv ↔ ∃ (k : Nat) (v : Value), lv[k]? = some (some v) ∧ q = (i + k, xv b base v)
  | [], i => by simp [xa]
  | none :: r, i => by
    show q ∈ xa b base (i + 1) r ↔ _
    rw [xa_mem r (i + 1)]
    constructor
    · rintro ⟨k, v, h1, h2⟩
      exact ⟨k + 1, v, by simpa using h1, by rw [h2]; congr 1; omega⟩
    · rintro ⟨k, v, h1, h2⟩
      cases k with
      | zero => simp at h1
      | succ k => exact ⟨k, v, by simpa using h1, by rw [h2]; congr 1; omega⟩
  | some w :: r, i => by
    show q ∈ (i, xv b base w) :: xa b base (i + 1) r ↔ _
    rw [List.mem_cons, xa_mem r (i + 1)]
    constructor
    · rintro (h | ⟨k, v, h1, h2⟩)
      · exact ⟨0, w, rfl, by rw [h]; rfl⟩
      · exact ⟨k + 1, v, by simpa using h1, by rw [h2]; congr 1; omega⟩
    · rintro ⟨k, v, h1, h2⟩
      cases k with
      | zero =>
        simp at h1
        exact Or.inl (by rw [h2, h1]; rfl)
      | succ k => exact Or.inr ⟨k, v, by simpa using h1, by rw [h2]; congr 1; omega⟩
def xL (b base : Nat) (ls : Array Slot) (lv : List (Option Value)) : Prop := lv_has ls lv.length (xa b base 0 lv) ∧ ∀ v : Value, some v ∈ lv → v.category = 1
theorem xL.at {b base : Nat} {ls : Array Slot} {lv : List (Option Value)} {i : Nat} {v : Value} (h : xL b base ls lv) (hi : lv[i]? = some (some v)) : ls[i]? = some (.val (xv b base v)) :=
  h.1.2.2 (i, xv b base v) ((xa_mem lv 0).mpr ⟨i, v, hi, by rw [Nat.zero_add]⟩)
theorem xL.lt {lv : List (Option Value)} {i : Nat} {v : Value} (hi : lv[i]? = some (some v)) : i < lv.length := (List.getElem?_eq_some_iff.mp hi).1
theorem xL.set {b base : Nat} {ls ls' : Array Slot} {lv : List (Option Value)} {i : Nat} {v : Value} (h : xL b base ls lv) (hi : i < lv.length) (hv : v.category = 1) (h' : lv_has ls' lv.length ((i, xv b base v) :: (xa b base 0 lv).filter (fun q => !(q.1 == i) && !(q.1 + 1 == i && q.2.category == 2)))) : xL b base ls' (lv.set i (some v)) := by
  refine ⟨⟨by rw [List.length_set]; exact h'.1, h'.2.1, fun q hq => ?_⟩, fun w hw => ?_⟩
  · obtain ⟨k, w, h1, rfl⟩ := (xa_mem _ 0).mp hq
    refine h'.2.2 _ ?_
    by_cases hk : k = i
    · subst hk
      rw [List.getElem?_set_self hi] at h1
      cases h1
      rw [Nat.zero_add]
      exact List.mem_cons_self
    · rw [List.getElem?_set_ne (Ne.symm hk)] at h1
      refine List.mem_cons_of_mem _ (List.mem_filter.mpr ⟨(xa_mem _ 0).mpr ⟨k, w, h1, rfl⟩, ?_⟩)
      have hc : w.category = 1 := h.2 w (List.mem_of_getElem? h1)
      simp [xv_cat, hc, hk]
  · rcases List.mem_or_eq_of_mem_set hw with h1 | h1
    · exact h.2 w h1
    · cases h1
      exact hv
def xTys : List FieldType := [.int, .object "QuorumNodes$Node", .object "QuorumNodes$Message"]
/-- the words that a contract takes along -/
def xGood (w : Cond) : Bool := (w.onTables && w.keeps) || (match w with | .arrayClass _ => true | _ => false)
def xT : List Cond := lw_tbl.filter xGood
theorem xT_in {w : Cond} (h : w ∈ lw_tbl) (hg : xGood w = true) : w ∈ xT := List.mem_filter.mpr ⟨h, hg⟩
theorem xT_good : GoodIn xT xT := by
  intro w hw
  refine ⟨hw, ?_⟩
  have hg := (List.mem_filter.mp hw).2
  unfold xGood at hg
  rcases Bool.or_eq_true_iff.mp hg with h | h
  · exact Or.inl h
  · cases w <;> first | exact Or.inr ⟨_, rfl⟩ | (simp at h)
/-- what a body's walk knows of its machine -/
def xCx (sc : List Int32) (μ : xM) (D : va_G) (tys : xTs) (b base : Nat) (p : Program) (s : State) (m : MethodId) (args : Array Value) (meth : Method) (c : Code) : Prop :=
  p.tables.exec = Jvm.exec ∧ c.code = μ.2.2.1 ∧ c.maxLocals = μ.2.2.2.1 ∧ s.vm.findClass μ.1 = some m.cls ∧ (∀ w ∈ xT, w.before args s = true) ∧ va_K D vwCl tys s ∧ tys.map Prod.snd = xTys ∧ meth.sig.returnType = μ.2.2.2.2 ∧ meth.locks = false ∧ meth.name = μ.2.1.name ∧ base < s.heap.size ∧ va_X b sc.length (fun j => sc.getD j 0) s s.heap ∧ b ≤ base
/-- a method's last instruction, with its answer -/
def xEnd (μ : xM) (b base pc : Nat) (v : Option Value) (st : List Value) : Prop :=
  (v = none ∧ st = [] ∧ μ.2.2.2.2 = none ∧ decode μ.2.2.1 pc = .ok (.return_, 1)) ∨
  (∃ (x : Int32) (ty : FieldType), v = some (.int x) ∧ st = [.int x] ∧ μ.2.2.2.2 = some ty ∧ narrow ty (.int x) = .int x ∧ decode μ.2.2.1 pc = .ok (.ireturn, 1)) ∨
  (∃ (w : Value) (ty : FieldType), v = some w ∧ (w = .null ∨ ∃ k, w = .ref k) ∧ st = [xv b base w] ∧ μ.2.2.2.2 = some ty ∧ ((∃ n, ty = .object n) ∨ ∃ t, ty = .array t) ∧ decode μ.2.2.1 pc = .ok (.areturn, 1))
def xLw : Nat := 40
def xW (sc : List Int32) (μ : xM) (d kc ks pc : Nat) (lv : List (Option Value)) (st : List Value) (h : xH) (Q : Option Value → xH → Prop) : Prop :=
  ∀ (D : va_G) (tys : xTs) (b base : Nat) (p : Program) (l : Launch) (e : Env) (R : Room) (s : State) (m : MethodId) (args : Array Value) (below : List Frame) (meth : Method) (c : Code), xCx sc μ D tys b base p s m args meth c →
    ∀ (H : Heap) (locs : List Loc) (cells slots : Nat) (ls : Array Slot) (QQ : State → Prop), xL b base ls lv ∧ lv.length = μ.2.2.2.1 → xR tys D b base h H → va_S (fun q => base < q) s.heap H locs → cells + kc ≤ R.cells → slots + ks ≤ R.slots → d ≤ R.frames → xLw * d ≤ R.locals →
    (∀ (v : Option Value) (h' : xH) (H' : Heap) (locs' : List Loc) (cells' slots' : Nat) (ls' : Array Slot) (pc' : Nat) (st' : List Value), Q v h' → xR tys D b base h' H' → va_S (fun q => base < q) s.heap H' locs' → cells' ≤ R.cells → slots' ≤ R.slots → xEnd μ b base pc' v st' →
      W p l e R s m args below meth c H' locs' cells' slots' QQ (F0 m pc' ls' st')) →
    W p l e R s m args below meth c H locs cells slots QQ (F0 m pc ls (st.map (xv b base)))
def xPre (sc : List Int32) (D : va_G) (tys : xTs) (b base : Nat) (av : List Value) (h : xH) : Array Value → State → Prop :=
  va_Pc (av.map (xv b base)) (fun U => xR tys D b base h U.heap ∧ va_K D vwCl tys U ∧ tys.map Prod.snd = xTys ∧ va_X b sc.length (fun j => sc.getD j 0) U U.heap ∧ b ≤ base)
def xPost (D : va_G) (tys : xTs) (b base : Nat) (Q : Option Value → xH → Prop) : Array Value → State → Outcome → State → Prop := fun _ st oc t =>
  (∃ (v : Option Value) (h' : xH), Q v h' ∧ oc = .returned (v.map (xv b base)) ∧ xR tys D b base h' t.heap) ∧ va_F (fun q => base < q) st t
def xMet (sc : List Int32) (μ : xM) (d kc ks : Nat) (av : List Value) (h : xH) (Q : Option Value → xH → Prop) : Prop :=
  ∀ (l : Launch) (D : va_G) (tys : xTs) (b base : Nat), Met l μ.2.1 (Cond.code μ.2.1 μ.2.2.1 μ.2.2.2.1 μ.2.2.2.2 :: xT) { frames := d, cells := kc, slots := ks, locals := xLw * d } (xPre sc D tys b base av h) (xPost D tys b base Q) kc ks (fun q => base < q)
/-- a contract's frame of locals -/
def xlv (n : Nat) (av : List Value) : List (Option Value) := av.map some ++ List.replicate (n - av.length) none
theorem xlv_entry {b base n : Nat} {av : List Value} (hc : ∀ v ∈ av, v.category = 1) (hn : av.length ≤ n) : ∃ ls : Array Slot, ((lg_sl (av.map (xv b base)) ++ List.replicate (n - (lg_sl (av.map (xv b base))).length) Slot.unset).toArray) = ls ∧ xL b base ls (xlv n av) ∧ (xlv n av).length = n := by
  have hsl : ∀ (vs : List Value), (∀ v ∈ vs, v.category = 1) → (lg_sl vs).length = vs.length := by
    intro vs
    induction vs with
    | nil => intro _; rfl
    | cons v r ih =>
      intro h
      have h1 := h v List.mem_cons_self
      have h2 := ih (fun w hw => h w (List.mem_cons_of_mem _ hw))
      unfold lg_sl at h2 ⊢
      rw [List.flatMap_cons, if_neg (by omega), List.length_append, h2]
      simp
      omega
  have hcat : ∀ v ∈ av.map (xv b base), v.category = 1 := by
    intro v hv
    obtain ⟨w, hw, rfl⟩ := List.mem_map.mp hv
    rw [xv_cat]
    exact hc w hw
  have hlen : (lg_sl (av.map (xv b base))).length = av.length := by rw [hsl _ hcat, List.length_map]
  have hE := lv_entry (av.map (xv b base)) (n := n) (by omega)
  have hargs : ∀ (vs : List Value) (i : Nat), (∀ v ∈ vs, v.category = 1) → ∀ (k : Nat) (v : Value), vs[k]? = some v → (i + k, xv b base v) ∈ lv_args i (vs.map (xv b base)) := by
    intro vs
    induction vs with
    | nil => intro i _ k v h; simp at h
    | cons w r ih =>
      intro i h k v hk
      have h1 := h w List.mem_cons_self
      show _ ∈ (i, xv b base w) :: lv_args (if (xv b base w).category = 2 then i + 2 else i + 1) (r.map (xv b base))
      rw [xv_cat, if_neg (by omega)]
      cases k with
      | zero =>
        simp at hk
        subst hk
        exact List.mem_cons_self
      | succ k =>
        have h2 := ih (i + 1) (fun z hz => h z (List.mem_cons_of_mem _ hz)) k v (by simpa using hk)
        have e : i + 1 + k = i + (k + 1) := by omega
        rw [e] at h2
        exact List.mem_cons_of_mem _ h2
  have hL : (xlv n av).length = n := by simp [xlv]; omega
  refine ⟨_, rfl, ⟨⟨by rw [hL]; exact hE.1, hE.2.1, fun q hq => ?_⟩, fun v hv => ?_⟩, hL⟩
  · obtain ⟨k, v, h1, rfl⟩ := (xa_mem _ 0).mp hq
    unfold xlv at h1
    by_cases hk : k < av.length
    · rw [List.getElem?_append_left (by simpa using hk), List.getElem?_map] at h1
      have h2 : av[k]? = some v := by
        cases hz : av[k]? with
        | none => rw [hz] at h1; simp at h1
        | some z => rw [hz] at h1; simp at h1; rw [h1]
      exact hE.2.2 _ (hargs av 0 hc k v h2)
    · rw [List.getElem?_append_right (by simpa using hk)] at h1
      have h2 := List.mem_of_getElem? h1
      have h3 := List.eq_of_mem_replicate h2
      cases h3
  · unfold xlv at hv
    rcases List.mem_append.mp hv with h1 | h1
    · obtain ⟨w, hw, hz⟩ := List.mem_map.mp h1
      cases hz
      exact hc _ hw
    · have h3 := List.eq_of_mem_replicate h1
      cases h3
/-- a method's own side conditions -/
def xCw (μ : xM) : Prop := Cond.code μ.2.1 μ.2.2.1 μ.2.2.2.1 μ.2.2.2.2 ∈ xT ∧ Cond.initialized μ.2.1.cls ∈ xT ∧ (μ.2.1.cls ≠ "java/lang/invoke/MethodHandle" ∧ μ.2.1.cls ≠ "java/lang/invoke/VarHandle") ∧ plainName μ.2.1.cls = true ∧ μ.1 = μ.2.1.cls ∧ μ.2.2.2.1 ≤ 20
/-- a contract out of a walk -/
theorem xMet.of {sc : List Int32} {μ : xM} {d kc ks : Nat} {av : List Value} {h : xH} {Q : Option Value → xH → Prop} (hw : xCw μ) (hc : ∀ v ∈ av, v.category = 1) (hn : av.length ≤ μ.2.2.2.1) (k : xW sc μ d kc ks 0 (xlv μ.2.2.2.1 av) [] h Q) : xMet sc μ d kc ks av h Q := by
  intro l D tys b base
  refine Met.ofW (cc := μ.2.2.1) (maxL := μ.2.2.2.1) (ret := μ.2.2.2.2) hw.2.2.2.1 rfl ?_
  intro p e s m args below meth c s₁ B hml hv
  obtain ⟨rfl, hR, hK, hty, hX, hbb⟩ := hv
  have hts := atoms_spec (ws := Cond.code μ.2.1 μ.2.2.1 μ.2.2.2.1 μ.2.2.2.2 :: xT) B.pre
  have hown : s.vm.findClass μ.2.1.cls = some m.cls := findClass_of_methodNamed B.named
  have hnm : meth.name = μ.2.1.name := (name_of_methodNamed B.named B.method).1
  have hlk := B.notSynchronized
  have hr := B.returns
  have hS : va_S (fun q => base < q) s.heap s.heap [] := va_S.rf
  obtain ⟨ls, e1, hl, hll⟩ := xlv_entry (b := b) (base := base) (n := μ.2.2.2.1) hc hn
  rw [lg_entry_eq, e1]
  refine k D tys b base p l e _ s m _ below meth c ⟨B.exec, B.bytes, hml, by rw [hw.2.2.2.2.1]; exact hown, fun w h => hts w (List.mem_cons_of_mem _ h), hK, hty, B.returns, B.notSynchronized, hnm, by rw [hR.1]; omega, hX, hbb⟩ s.heap [] 0 0 ls _ ⟨hl, hll⟩ hR hS (by show 0 + kc ≤ kc; omega) (by show 0 + ks ≤ ks; omega) (Nat.le_refl _) (Nat.le_refl _) ?_
  intro v h' H' locs' cells' slots' ls' pc' st' hq hR' hS' hcl hsl hE
  refine W.widen (k := kc) (n := ks) hcl hsl ?_
  rcases hE with ⟨rfl, rfl, hr1, hd⟩ | ⟨x, ty, rfl, rfl, hr1, hnw, hd⟩ | ⟨w, ty, rfl, hw1, rfl, hr1, hty1, hd⟩
  · exact W.vret B.exec B.bytes (hr.trans hr1) (fun t ht _ => ⟨⟨none, h', hq, rfl, by rw [ht]; exact hR'⟩, hS'.F ht⟩) hS'.2.2 hd hlk
  · exact W.zret B.exec B.bytes (hr.trans hr1) hnw (fun t ht _ => ⟨⟨some (.int x), h', hq, rfl, by rw [ht]; exact hR'⟩, hS'.F ht⟩) hS'.2.2 hd hlk
  · exact W.aret B.exec B.bytes (hr.trans hr1) hty1 (by rcases hw1 with rfl | ⟨k, rfl⟩ <;> first | exact Or.inl rfl | exact Or.inr ⟨_, rfl⟩) (fun t ht _ => ⟨⟨some w, h', hq, rfl, by rw [ht]; exact hR'⟩, hS'.F ht⟩) hS'.2.2 hd hlk
end
section
section XW
variable {sc : List Int32} {μ : xM} {d kc ks pc : Nat} {lv : List (Option Value)} {st : List Value} {h : xH} {Q : Option Value → xH → Prop}
theorem xw_iconst {n : Int} {v : Int32} (hd : decode μ.2.2.1 pc = .ok (.iconst n, 1)) (hv : Int32.ofInt n = v) (k : xW sc μ d kc ks (pc + 1) lv (.int v :: st) h Q) : xW sc μ d kc ks pc lv (st) h Q := by
  intro D tys b base p l e R s m args below meth c C H locs cells slots ls QQ hl hR hS hc hs hf hlo K
  exact lv_iconst C.1 C.2.1 hd hv (k D tys b base p l e R s m args below meth c C H locs cells slots ls QQ hl hR hS hc hs hf hlo K)
theorem xw_bipush {n : Int} {v : Int32} (hd : decode μ.2.2.1 pc = .ok (.bipush n, 2)) (hv : (Int8.ofInt n).toInt32 = v) (k : xW sc μ d kc ks (pc + 2) lv (.int v :: st) h Q) : xW sc μ d kc ks pc lv (st) h Q := by
  intro D tys b base p l e R s m args below meth c C H locs cells slots ls QQ hl hR hS hc hs hf hlo K
  exact lv_bipush C.1 C.2.1 hd hv (k D tys b base p l e R s m args below meth c C H locs cells slots ls QQ hl hR hS hc hs hf hlo K)
theorem xw_sipush {n : Int} {v : Int32} (hd : decode μ.2.2.1 pc = .ok (.sipush n, 3)) (hv : (Int16.ofInt n).toInt32 = v) (k : xW sc μ d kc ks (pc + 3) lv (.int v :: st) h Q) : xW sc μ d kc ks pc lv (st) h Q := by
  intro D tys b base p l e R s m args below meth c C H locs cells slots ls QQ hl hR hS hc hs hf hlo K
  exact lv_sipush C.1 C.2.1 hd hv (k D tys b base p l e R s m args below meth c C H locs cells slots ls QQ hl hR hS hc hs hf hlo K)
theorem xw_null  (hd : decode μ.2.2.1 pc = .ok (.aconst_null, 1))  (k : xW sc μ d kc ks (pc + 1) lv (.null :: st) h Q) : xW sc μ d kc ks pc lv (st) h Q := by
  intro D tys b base p l e R s m args below meth c C H locs cells slots ls QQ hl hR hS hc hs hf hlo K
  exact lv_null C.1 C.2.1 hd (k D tys b base p l e R s m args below meth c C H locs cells slots ls QQ hl hR hS hc hs hf hlo K)
theorem xw_iload_n {i : Fin 4} {j : Nat} {x : Int32} (hd : decode μ.2.2.1 pc = .ok (.iload_n i, 1)) (hi : (i : Nat) = j) (hx : lv[j]? = some (some (.int x))) (k : xW sc μ d kc ks (pc + 1) lv (.int x :: st) h Q) : xW sc μ d kc ks pc lv (st) h Q := by
  intro D tys b base p l e R s m args below meth c C H locs cells slots ls QQ hl hR hS hc hs hf hlo K
  exact lv_iload_n C.1 C.2.1 hd hi (hl.1.at hx) (k D tys b base p l e R s m args below meth c C H locs cells slots ls QQ hl hR hS hc hs hf hlo K)
theorem xw_iload {j : Nat} {x : Int32} (hd : decode μ.2.2.1 pc = .ok (.iload j, 2)) (hx : lv[j]? = some (some (.int x))) (k : xW sc μ d kc ks (pc + 2) lv (.int x :: st) h Q) : xW sc μ d kc ks pc lv (st) h Q := by
  intro D tys b base p l e R s m args below meth c C H locs cells slots ls QQ hl hR hS hc hs hf hlo K
  exact lv_iload C.1 C.2.1 hd (hl.1.at hx) (k D tys b base p l e R s m args below meth c C H locs cells slots ls QQ hl hR hS hc hs hf hlo K)
theorem xw_aload_n {i : Fin 4} {j a : Nat} (hd : decode μ.2.2.1 pc = .ok (.aload_n i, 1)) (hi : (i : Nat) = j) (hx : lv[j]? = some (some (.ref a))) (k : xW sc μ d kc ks (pc + 1) lv (.ref a :: st) h Q) : xW sc μ d kc ks pc lv (st) h Q := by
  intro D tys b base p l e R s m args below meth c C H locs cells slots ls QQ hl hR hS hc hs hf hlo K
  exact lv_aload_n C.1 C.2.1 hd hi (hl.1.at hx) (k D tys b base p l e R s m args below meth c C H locs cells slots ls QQ hl hR hS hc hs hf hlo K)
theorem xw_aload {j a : Nat} (hd : decode μ.2.2.1 pc = .ok (.aload j, 2)) (hx : lv[j]? = some (some (.ref a))) (k : xW sc μ d kc ks (pc + 2) lv (.ref a :: st) h Q) : xW sc μ d kc ks pc lv (st) h Q := by
  intro D tys b base p l e R s m args below meth c C H locs cells slots ls QQ hl hR hS hc hs hf hlo K
  exact lv_aload C.1 C.2.1 hd (hl.1.at hx) (k D tys b base p l e R s m args below meth c C H locs cells slots ls QQ hl hR hS hc hs hf hlo K)
theorem xw_aload_nN {i : Fin 4} {j : Nat} (hd : decode μ.2.2.1 pc = .ok (.aload_n i, 1)) (hi : (i : Nat) = j) (hx : lv[j]? = some (some .null)) (k : xW sc μ d kc ks (pc + 1) lv (.null :: st) h Q) : xW sc μ d kc ks pc lv (st) h Q := by
  intro D tys b base p l e R s m args below meth c C H locs cells slots ls QQ hl hR hS hc hs hf hlo K
  exact lv_aload_nN C.1 C.2.1 hd hi (hl.1.at hx) (k D tys b base p l e R s m args below meth c C H locs cells slots ls QQ hl hR hS hc hs hf hlo K)
theorem xw_aloadN {j : Nat} (hd : decode μ.2.2.1 pc = .ok (.aload j, 2)) (hx : lv[j]? = some (some .null)) (k : xW sc μ d kc ks (pc + 2) lv (.null :: st) h Q) : xW sc μ d kc ks pc lv (st) h Q := by
  intro D tys b base p l e R s m args below meth c C H locs cells slots ls QQ hl hR hS hc hs hf hlo K
  exact lv_aloadN C.1 C.2.1 hd (hl.1.at hx) (k D tys b base p l e R s m args below meth c C H locs cells slots ls QQ hl hR hS hc hs hf hlo K)
theorem xw_iadd {x y : Int32} (hd : decode μ.2.2.1 pc = .ok (.iadd, 1))  (k : xW sc μ d kc ks (pc + 1) lv (.int (x + y) :: st) h Q) : xW sc μ d kc ks pc lv (.int y :: .int x :: st) h Q := by
  intro D tys b base p l e R s m args below meth c C H locs cells slots ls QQ hl hR hS hc hs hf hlo K
  exact lv_iadd C.1 C.2.1 hd (k D tys b base p l e R s m args below meth c C H locs cells slots ls QQ hl hR hS hc hs hf hlo K)
theorem xw_isub {x y : Int32} (hd : decode μ.2.2.1 pc = .ok (.isub, 1))  (k : xW sc μ d kc ks (pc + 1) lv (.int (x - y) :: st) h Q) : xW sc μ d kc ks pc lv (.int y :: .int x :: st) h Q := by
  intro D tys b base p l e R s m args below meth c C H locs cells slots ls QQ hl hR hS hc hs hf hlo K
  exact lv_isub C.1 C.2.1 hd (k D tys b base p l e R s m args below meth c C H locs cells slots ls QQ hl hR hS hc hs hf hlo K)
theorem xw_imul {x y : Int32} (hd : decode μ.2.2.1 pc = .ok (.imul, 1))  (k : xW sc μ d kc ks (pc + 1) lv (.int (x * y) :: st) h Q) : xW sc μ d kc ks pc lv (.int y :: .int x :: st) h Q := by
  intro D tys b base p l e R s m args below meth c C H locs cells slots ls QQ hl hR hS hc hs hf hlo K
  exact lv_imul C.1 C.2.1 hd (k D tys b base p l e R s m args below meth c C H locs cells slots ls QQ hl hR hS hc hs hf hlo K)
theorem xw_iand {x y : Int32} (hd : decode μ.2.2.1 pc = .ok (.iand, 1))  (k : xW sc μ d kc ks (pc + 1) lv (.int (x &&& y) :: st) h Q) : xW sc μ d kc ks pc lv (.int y :: .int x :: st) h Q := by
  intro D tys b base p l e R s m args below meth c C H locs cells slots ls QQ hl hR hS hc hs hf hlo K
  exact lv_iand C.1 C.2.1 hd (k D tys b base p l e R s m args below meth c C H locs cells slots ls QQ hl hR hS hc hs hf hlo K)
theorem xw_ior {x y : Int32} (hd : decode μ.2.2.1 pc = .ok (.ior, 1))  (k : xW sc μ d kc ks (pc + 1) lv (.int (x ||| y) :: st) h Q) : xW sc μ d kc ks pc lv (.int y :: .int x :: st) h Q := by
  intro D tys b base p l e R s m args below meth c C H locs cells slots ls QQ hl hR hS hc hs hf hlo K
  exact lv_ior C.1 C.2.1 hd (k D tys b base p l e R s m args below meth c C H locs cells slots ls QQ hl hR hS hc hs hf hlo K)
theorem xw_ixor {x y : Int32} (hd : decode μ.2.2.1 pc = .ok (.ixor, 1))  (k : xW sc μ d kc ks (pc + 1) lv (.int (x ^^^ y) :: st) h Q) : xW sc μ d kc ks pc lv (.int y :: .int x :: st) h Q := by
  intro D tys b base p l e R s m args below meth c C H locs cells slots ls QQ hl hR hS hc hs hf hlo K
  exact lv_ixor C.1 C.2.1 hd (k D tys b base p l e R s m args below meth c C H locs cells slots ls QQ hl hR hS hc hs hf hlo K)
theorem xw_ishl {x y : Int32} (hd : decode μ.2.2.1 pc = .ok (.ishl, 1))  (k : xW sc μ d kc ks (pc + 1) lv (.int (x <<< (y &&& 31)) :: st) h Q) : xW sc μ d kc ks pc lv (.int y :: .int x :: st) h Q := by
  intro D tys b base p l e R s m args below meth c C H locs cells slots ls QQ hl hR hS hc hs hf hlo K
  exact lv_ishl C.1 C.2.1 hd (k D tys b base p l e R s m args below meth c C H locs cells slots ls QQ hl hR hS hc hs hf hlo K)
theorem xw_ishr {x y : Int32} (hd : decode μ.2.2.1 pc = .ok (.ishr, 1))  (k : xW sc μ d kc ks (pc + 1) lv (.int (x >>> (y &&& 31)) :: st) h Q) : xW sc μ d kc ks pc lv (.int y :: .int x :: st) h Q := by
  intro D tys b base p l e R s m args below meth c C H locs cells slots ls QQ hl hR hS hc hs hf hlo K
  exact lv_ishr C.1 C.2.1 hd (k D tys b base p l e R s m args below meth c C H locs cells slots ls QQ hl hR hS hc hs hf hlo K)
theorem xw_iushr {x y v : Int32} (hd : decode μ.2.2.1 pc = .ok (.iushr, 1)) (hv : (x.toUInt32 >>> (y.toUInt32 &&& Int32.toUInt32 31)).toInt32 = v) (k : xW sc μ d kc ks (pc + 1) lv (.int v :: st) h Q) : xW sc μ d kc ks pc lv (.int y :: .int x :: st) h Q := by
  intro D tys b base p l e R s m args below meth c C H locs cells slots ls QQ hl hR hS hc hs hf hlo K
  exact lv_iushr C.1 C.2.1 hd hv (k D tys b base p l e R s m args below meth c C H locs cells slots ls QQ hl hR hS hc hs hf hlo K)
theorem xw_idiv {x y : Int32} (hd : decode μ.2.2.1 pc = .ok (.idiv, 1)) (hne : ¬ y = 0) (k : xW sc μ d kc ks (pc + 1) lv (.int (x / y) :: st) h Q) : xW sc μ d kc ks pc lv (.int y :: .int x :: st) h Q := by
  intro D tys b base p l e R s m args below meth c C H locs cells slots ls QQ hl hR hS hc hs hf hlo K
  exact lv_idiv C.1 C.2.1 hd hne (k D tys b base p l e R s m args below meth c C H locs cells slots ls QQ hl hR hS hc hs hf hlo K)
theorem xw_irem {x y : Int32} (hd : decode μ.2.2.1 pc = .ok (.irem, 1)) (hne : ¬ y = 0) (k : xW sc μ d kc ks (pc + 1) lv (.int (x - x / y * y) :: st) h Q) : xW sc μ d kc ks pc lv (.int y :: .int x :: st) h Q := by
  intro D tys b base p l e R s m args below meth c C H locs cells slots ls QQ hl hR hS hc hs hf hlo K
  exact lv_irem C.1 C.2.1 hd hne (k D tys b base p l e R s m args below meth c C H locs cells slots ls QQ hl hR hS hc hs hf hlo K)
theorem xw_ineg {x : Int32} (hd : decode μ.2.2.1 pc = .ok (.ineg, 1))  (k : xW sc μ d kc ks (pc + 1) lv (.int (-x) :: st) h Q) : xW sc μ d kc ks pc lv (.int x :: st) h Q := by
  intro D tys b base p l e R s m args below meth c C H locs cells slots ls QQ hl hR hS hc hs hf hlo K
  exact lv_ineg C.1 C.2.1 hd (k D tys b base p l e R s m args below meth c C H locs cells slots ls QQ hl hR hS hc hs hf hlo K)
theorem xw_dup {v : Value} (hd : decode μ.2.2.1 pc = .ok (.dup, 1)) (hv : v.category = 1) (k : xW sc μ d kc ks (pc + 1) lv (v :: v :: st) h Q) : xW sc μ d kc ks pc lv (v :: st) h Q := by
  intro D tys b base p l e R s m args below meth c C H locs cells slots ls QQ hl hR hS hc hs hf hlo K
  exact lv_dup C.1 C.2.1 hd ((xv_cat b base v).trans hv) (k D tys b base p l e R s m args below meth c C H locs cells slots ls QQ hl hR hS hc hs hf hlo K)
theorem xw_pop {v : Value} (hd : decode μ.2.2.1 pc = .ok (.pop, 1)) (hv : v.category = 1) (k : xW sc μ d kc ks (pc + 1) lv (st) h Q) : xW sc μ d kc ks pc lv (v :: st) h Q := by
  intro D tys b base p l e R s m args below meth c C H locs cells slots ls QQ hl hR hS hc hs hf hlo K
  exact lv_pop C.1 C.2.1 hd ((xv_cat b base v).trans hv) (k D tys b base p l e R s m args below meth c C H locs cells slots ls QQ hl hR hS hc hs hf hlo K)
theorem xw_dup_x1 {v w : Value} (hd : decode μ.2.2.1 pc = .ok (.dup_x1, 1)) (hv : v.category = 1) (hw : w.category = 1) (k : xW sc μ d kc ks (pc + 1) lv (v :: w :: v :: st) h Q) : xW sc μ d kc ks pc lv (v :: w :: st) h Q := by
  intro D tys b base p l e R s m args below meth c C H locs cells slots ls QQ hl hR hS hc hs hf hlo K
  exact lv_dup_x1 C.1 C.2.1 hd ((xv_cat b base v).trans hv) ((xv_cat b base w).trans hw) (k D tys b base p l e R s m args below meth c C H locs cells slots ls QQ hl hR hS hc hs hf hlo K)
theorem xw_dup_x2 {v w z : Value} (hd : decode μ.2.2.1 pc = .ok (.dup_x2, 1)) (hv : v.category = 1) (hw : w.category = 1) (hz : z.category = 1) (k : xW sc μ d kc ks (pc + 1) lv (v :: w :: z :: v :: st) h Q) : xW sc μ d kc ks pc lv (v :: w :: z :: st) h Q := by
  intro D tys b base p l e R s m args below meth c C H locs cells slots ls QQ hl hR hS hc hs hf hlo K
  exact lv_dup_x2 C.1 C.2.1 hd ((xv_cat b base v).trans hv) ((xv_cat b base w).trans hw) ((xv_cat b base z).trans hz) (k D tys b base p l e R s m args below meth c C H locs cells slots ls QQ hl hR hS hc hs hf hlo K)
theorem xw_dup2 {v w : Value} (hd : decode μ.2.2.1 pc = .ok (.dup2, 1)) (hv : v.category = 1) (hw : w.category = 1) (k : xW sc μ d kc ks (pc + 1) lv (v :: w :: v :: w :: st) h Q) : xW sc μ d kc ks pc lv (v :: w :: st) h Q := by
  intro D tys b base p l e R s m args below meth c C H locs cells slots ls QQ hl hR hS hc hs hf hlo K
  exact lv_dup2_11 C.1 C.2.1 hd ((xv_cat b base v).trans hv) ((xv_cat b base w).trans hw) (k D tys b base p l e R s m args below meth c C H locs cells slots ls QQ hl hR hS hc hs hf hlo K)
theorem xw_istore_n {i : Fin 4} {j : Nat} {x : Int32} (hd : decode μ.2.2.1 pc = .ok (.istore_n i, 1)) (hi : (i : Nat) = j) (hlt : j < lv.length) (k : xW sc μ d kc ks (pc + 1) (lv.set j (some (.int x))) st h Q) : xW sc μ d kc ks pc lv (.int x :: st) h Q := by
  intro D tys b base p l e R s m args below meth c C H locs cells slots ls QQ hl hR hS hc hs hf hlo K
  exact lv_istore_n C.1 C.2.1 hd hi hl.1.1 hlt rfl (fun ls' hl' => k D tys b base p l e R s m args below meth c C H locs cells slots ls' QQ ⟨hl.1.set hlt rfl hl', by rw [List.length_set]; exact hl.2⟩ hR hS hc hs hf hlo K)
theorem xw_istore {j : Nat} {x : Int32} (hd : decode μ.2.2.1 pc = .ok (.istore j, 2))  (hlt : j < lv.length) (k : xW sc μ d kc ks (pc + 2) (lv.set j (some (.int x))) st h Q) : xW sc μ d kc ks pc lv (.int x :: st) h Q := by
  intro D tys b base p l e R s m args below meth c C H locs cells slots ls QQ hl hR hS hc hs hf hlo K
  exact lv_istore C.1 C.2.1 hd hl.1.1 hlt rfl (fun ls' hl' => k D tys b base p l e R s m args below meth c C H locs cells slots ls' QQ ⟨hl.1.set hlt rfl hl', by rw [List.length_set]; exact hl.2⟩ hR hS hc hs hf hlo K)
theorem xw_astore_n {i : Fin 4} {j a : Nat} (hd : decode μ.2.2.1 pc = .ok (.astore_n i, 1)) (hi : (i : Nat) = j) (hlt : j < lv.length) (k : xW sc μ d kc ks (pc + 1) (lv.set j (some (.ref a))) st h Q) : xW sc μ d kc ks pc lv (.ref a :: st) h Q := by
  intro D tys b base p l e R s m args below meth c C H locs cells slots ls QQ hl hR hS hc hs hf hlo K
  exact lv_astore_n C.1 C.2.1 hd hi hl.1.1 hlt rfl (fun ls' hl' => k D tys b base p l e R s m args below meth c C H locs cells slots ls' QQ ⟨hl.1.set hlt rfl hl', by rw [List.length_set]; exact hl.2⟩ hR hS hc hs hf hlo K)
theorem xw_astore {j a : Nat} (hd : decode μ.2.2.1 pc = .ok (.astore j, 2))  (hlt : j < lv.length) (k : xW sc μ d kc ks (pc + 2) (lv.set j (some (.ref a))) st h Q) : xW sc μ d kc ks pc lv (.ref a :: st) h Q := by
  intro D tys b base p l e R s m args below meth c C H locs cells slots ls QQ hl hR hS hc hs hf hlo K
  exact lv_astore C.1 C.2.1 hd hl.1.1 hlt rfl (fun ls' hl' => k D tys b base p l e R s m args below meth c C H locs cells slots ls' QQ ⟨hl.1.set hlt rfl hl', by rw [List.length_set]; exact hl.2⟩ hR hS hc hs hf hlo K)
theorem xw_astore_nN {i : Fin 4} {j : Nat} (hd : decode μ.2.2.1 pc = .ok (.astore_n i, 1)) (hi : (i : Nat) = j) (hlt : j < lv.length) (k : xW sc μ d kc ks (pc + 1) (lv.set j (some (.null))) st h Q) : xW sc μ d kc ks pc lv (.null :: st) h Q := by
  intro D tys b base p l e R s m args below meth c C H locs cells slots ls QQ hl hR hS hc hs hf hlo K
  exact lv_astore_nN C.1 C.2.1 hd hi hl.1.1 hlt rfl (fun ls' hl' => k D tys b base p l e R s m args below meth c C H locs cells slots ls' QQ ⟨hl.1.set hlt rfl hl', by rw [List.length_set]; exact hl.2⟩ hR hS hc hs hf hlo K)
theorem xw_astoreN {j : Nat} (hd : decode μ.2.2.1 pc = .ok (.astore j, 2))  (hlt : j < lv.length) (k : xW sc μ d kc ks (pc + 2) (lv.set j (some (.null))) st h Q) : xW sc μ d kc ks pc lv (.null :: st) h Q := by
  intro D tys b base p l e R s m args below meth c C H locs cells slots ls QQ hl hR hS hc hs hf hlo K
  exact lv_astoreN C.1 C.2.1 hd hl.1.1 hlt rfl (fun ls' hl' => k D tys b base p l e R s m args below meth c C H locs cells slots ls' QQ ⟨hl.1.set hlt rfl hl', by rw [List.length_set]; exact hl.2⟩ hR hS hc hs hf hlo K)
theorem xw_iinc {j : Nat} {n : Int} {x v : Int32} (hd : decode μ.2.2.1 pc = .ok (.iinc j n, 3)) (hx : lv[j]? = some (some (.int x))) (hv : x + Int32.ofInt n = v) (k : xW sc μ d kc ks (pc + 3) (lv.set j (some (.int v))) st h Q) : xW sc μ d kc ks pc lv st h Q := by
  intro D tys b base p l e R s m args below meth c C H locs cells slots ls QQ hl hR hS hc hs hf hlo K
  obtain ⟨q, hq⟩ := List.getElem?_of_mem ((xa_mem (b := b) (base := base) lv 0).mpr ⟨j, .int x, hx, rfl⟩)
  rw [Nat.zero_add] at hq
  exact lv_iinc C.1 C.2.1 hd hl.1.1 (k := q) (x := x) hq hv (xL.lt hx) rfl (fun ls' hl' => k D tys b base p l e R s m args below meth c C H locs cells slots ls' QQ ⟨hl.1.set (xL.lt hx) rfl hl', by rw [List.length_set]; exact hl.2⟩ hR hS hc hs hf hlo K)
theorem xw_if_eq {x : Int32} {off : Int} {tgt : Nat} (hd : decode μ.2.2.1 pc = .ok (.ifCond .eq off, 3)) (ht : (pc : Int) + off = (tgt : Int)) (kt : x = 0 → xW sc μ d kc ks tgt lv st h Q) (kf : ¬ x = 0 → xW sc μ d kc ks (pc + 3) lv st h Q) : xW sc μ d kc ks pc lv (.int x :: st) h Q := by
  intro D tys b base p l e R s m args below meth c C H locs cells slots ls QQ hl hR hS hc hs hf hlo K
  exact lv_if_eq C.1 C.2.1 hd ht (fun z => kt z D tys b base p l e R s m args below meth c C H locs cells slots ls QQ hl hR hS hc hs hf hlo K) (fun z => kf z D tys b base p l e R s m args below meth c C H locs cells slots ls QQ hl hR hS hc hs hf hlo K)
theorem xw_icmp_eq {x y : Int32} {off : Int} {tgt : Nat} (hd : decode μ.2.2.1 pc = .ok (.if_icmp .eq off, 3)) (ht : (pc : Int) + off = (tgt : Int)) (kt : x = y → xW sc μ d kc ks tgt lv st h Q) (kf : ¬ x = y → xW sc μ d kc ks (pc + 3) lv st h Q) : xW sc μ d kc ks pc lv (.int y :: .int x :: st) h Q := by
  intro D tys b base p l e R s m args below meth c C H locs cells slots ls QQ hl hR hS hc hs hf hlo K
  exact lv_icmp_eq C.1 C.2.1 hd ht (fun z => kt z D tys b base p l e R s m args below meth c C H locs cells slots ls QQ hl hR hS hc hs hf hlo K) (fun z => kf z D tys b base p l e R s m args below meth c C H locs cells slots ls QQ hl hR hS hc hs hf hlo K)
theorem xw_if_ne {x : Int32} {off : Int} {tgt : Nat} (hd : decode μ.2.2.1 pc = .ok (.ifCond .ne off, 3)) (ht : (pc : Int) + off = (tgt : Int)) (kt : ¬ x = 0 → xW sc μ d kc ks tgt lv st h Q) (kf : x = 0 → xW sc μ d kc ks (pc + 3) lv st h Q) : xW sc μ d kc ks pc lv (.int x :: st) h Q := by
  intro D tys b base p l e R s m args below meth c C H locs cells slots ls QQ hl hR hS hc hs hf hlo K
  exact lv_if_ne C.1 C.2.1 hd ht (fun z => kt z D tys b base p l e R s m args below meth c C H locs cells slots ls QQ hl hR hS hc hs hf hlo K) (fun z => kf z D tys b base p l e R s m args below meth c C H locs cells slots ls QQ hl hR hS hc hs hf hlo K)
theorem xw_icmp_ne {x y : Int32} {off : Int} {tgt : Nat} (hd : decode μ.2.2.1 pc = .ok (.if_icmp .ne off, 3)) (ht : (pc : Int) + off = (tgt : Int)) (kt : ¬ x = y → xW sc μ d kc ks tgt lv st h Q) (kf : x = y → xW sc μ d kc ks (pc + 3) lv st h Q) : xW sc μ d kc ks pc lv (.int y :: .int x :: st) h Q := by
  intro D tys b base p l e R s m args below meth c C H locs cells slots ls QQ hl hR hS hc hs hf hlo K
  exact lv_icmp_ne C.1 C.2.1 hd ht (fun z => kt z D tys b base p l e R s m args below meth c C H locs cells slots ls QQ hl hR hS hc hs hf hlo K) (fun z => kf z D tys b base p l e R s m args below meth c C H locs cells slots ls QQ hl hR hS hc hs hf hlo K)
theorem xw_if_lt {x : Int32} {off : Int} {tgt : Nat} (hd : decode μ.2.2.1 pc = .ok (.ifCond .lt off, 3)) (ht : (pc : Int) + off = (tgt : Int)) (kt : x < 0 → xW sc μ d kc ks tgt lv st h Q) (kf : ¬ x < 0 → xW sc μ d kc ks (pc + 3) lv st h Q) : xW sc μ d kc ks pc lv (.int x :: st) h Q := by
  intro D tys b base p l e R s m args below meth c C H locs cells slots ls QQ hl hR hS hc hs hf hlo K
  exact lv_if_lt C.1 C.2.1 hd ht (fun z => kt z D tys b base p l e R s m args below meth c C H locs cells slots ls QQ hl hR hS hc hs hf hlo K) (fun z => kf z D tys b base p l e R s m args below meth c C H locs cells slots ls QQ hl hR hS hc hs hf hlo K)
theorem xw_icmp_lt {x y : Int32} {off : Int} {tgt : Nat} (hd : decode μ.2.2.1 pc = .ok (.if_icmp .lt off, 3)) (ht : (pc : Int) + off = (tgt : Int)) (kt : x < y → xW sc μ d kc ks tgt lv st h Q) (kf : ¬ x < y → xW sc μ d kc ks (pc + 3) lv st h Q) : xW sc μ d kc ks pc lv (.int y :: .int x :: st) h Q := by
  intro D tys b base p l e R s m args below meth c C H locs cells slots ls QQ hl hR hS hc hs hf hlo K
  exact lv_icmp_lt C.1 C.2.1 hd ht (fun z => kt z D tys b base p l e R s m args below meth c C H locs cells slots ls QQ hl hR hS hc hs hf hlo K) (fun z => kf z D tys b base p l e R s m args below meth c C H locs cells slots ls QQ hl hR hS hc hs hf hlo K)
theorem xw_if_ge {x : Int32} {off : Int} {tgt : Nat} (hd : decode μ.2.2.1 pc = .ok (.ifCond .ge off, 3)) (ht : (pc : Int) + off = (tgt : Int)) (kt : 0 ≤ x → xW sc μ d kc ks tgt lv st h Q) (kf : ¬ 0 ≤ x → xW sc μ d kc ks (pc + 3) lv st h Q) : xW sc μ d kc ks pc lv (.int x :: st) h Q := by
  intro D tys b base p l e R s m args below meth c C H locs cells slots ls QQ hl hR hS hc hs hf hlo K
  exact lv_if_ge C.1 C.2.1 hd ht (fun z => kt z D tys b base p l e R s m args below meth c C H locs cells slots ls QQ hl hR hS hc hs hf hlo K) (fun z => kf z D tys b base p l e R s m args below meth c C H locs cells slots ls QQ hl hR hS hc hs hf hlo K)
theorem xw_icmp_ge {x y : Int32} {off : Int} {tgt : Nat} (hd : decode μ.2.2.1 pc = .ok (.if_icmp .ge off, 3)) (ht : (pc : Int) + off = (tgt : Int)) (kt : y ≤ x → xW sc μ d kc ks tgt lv st h Q) (kf : ¬ y ≤ x → xW sc μ d kc ks (pc + 3) lv st h Q) : xW sc μ d kc ks pc lv (.int y :: .int x :: st) h Q := by
  intro D tys b base p l e R s m args below meth c C H locs cells slots ls QQ hl hR hS hc hs hf hlo K
  exact lv_icmp_ge C.1 C.2.1 hd ht (fun z => kt z D tys b base p l e R s m args below meth c C H locs cells slots ls QQ hl hR hS hc hs hf hlo K) (fun z => kf z D tys b base p l e R s m args below meth c C H locs cells slots ls QQ hl hR hS hc hs hf hlo K)
theorem xw_if_gt {x : Int32} {off : Int} {tgt : Nat} (hd : decode μ.2.2.1 pc = .ok (.ifCond .gt off, 3)) (ht : (pc : Int) + off = (tgt : Int)) (kt : 0 < x → xW sc μ d kc ks tgt lv st h Q) (kf : ¬ 0 < x → xW sc μ d kc ks (pc + 3) lv st h Q) : xW sc μ d kc ks pc lv (.int x :: st) h Q := by
  intro D tys b base p l e R s m args below meth c C H locs cells slots ls QQ hl hR hS hc hs hf hlo K
  exact lv_if_gt C.1 C.2.1 hd ht (fun z => kt z D tys b base p l e R s m args below meth c C H locs cells slots ls QQ hl hR hS hc hs hf hlo K) (fun z => kf z D tys b base p l e R s m args below meth c C H locs cells slots ls QQ hl hR hS hc hs hf hlo K)
theorem xw_icmp_gt {x y : Int32} {off : Int} {tgt : Nat} (hd : decode μ.2.2.1 pc = .ok (.if_icmp .gt off, 3)) (ht : (pc : Int) + off = (tgt : Int)) (kt : y < x → xW sc μ d kc ks tgt lv st h Q) (kf : ¬ y < x → xW sc μ d kc ks (pc + 3) lv st h Q) : xW sc μ d kc ks pc lv (.int y :: .int x :: st) h Q := by
  intro D tys b base p l e R s m args below meth c C H locs cells slots ls QQ hl hR hS hc hs hf hlo K
  exact lv_icmp_gt C.1 C.2.1 hd ht (fun z => kt z D tys b base p l e R s m args below meth c C H locs cells slots ls QQ hl hR hS hc hs hf hlo K) (fun z => kf z D tys b base p l e R s m args below meth c C H locs cells slots ls QQ hl hR hS hc hs hf hlo K)
theorem xw_if_le {x : Int32} {off : Int} {tgt : Nat} (hd : decode μ.2.2.1 pc = .ok (.ifCond .le off, 3)) (ht : (pc : Int) + off = (tgt : Int)) (kt : x ≤ 0 → xW sc μ d kc ks tgt lv st h Q) (kf : ¬ x ≤ 0 → xW sc μ d kc ks (pc + 3) lv st h Q) : xW sc μ d kc ks pc lv (.int x :: st) h Q := by
  intro D tys b base p l e R s m args below meth c C H locs cells slots ls QQ hl hR hS hc hs hf hlo K
  exact lv_if_le C.1 C.2.1 hd ht (fun z => kt z D tys b base p l e R s m args below meth c C H locs cells slots ls QQ hl hR hS hc hs hf hlo K) (fun z => kf z D tys b base p l e R s m args below meth c C H locs cells slots ls QQ hl hR hS hc hs hf hlo K)
theorem xw_icmp_le {x y : Int32} {off : Int} {tgt : Nat} (hd : decode μ.2.2.1 pc = .ok (.if_icmp .le off, 3)) (ht : (pc : Int) + off = (tgt : Int)) (kt : x ≤ y → xW sc μ d kc ks tgt lv st h Q) (kf : ¬ x ≤ y → xW sc μ d kc ks (pc + 3) lv st h Q) : xW sc μ d kc ks pc lv (.int y :: .int x :: st) h Q := by
  intro D tys b base p l e R s m args below meth c C H locs cells slots ls QQ hl hR hS hc hs hf hlo K
  exact lv_icmp_le C.1 C.2.1 hd ht (fun z => kt z D tys b base p l e R s m args below meth c C H locs cells slots ls QQ hl hR hS hc hs hf hlo K) (fun z => kf z D tys b base p l e R s m args below meth c C H locs cells slots ls QQ hl hR hS hc hs hf hlo K)
theorem xw_goto {off : Int} {tgt : Nat} (hd : decode μ.2.2.1 pc = .ok (.goto off, 3)) (ht : (pc : Int) + off = (tgt : Int)) (k : xW sc μ d kc ks tgt lv st h Q) : xW sc μ d kc ks pc lv st h Q := by
  intro D tys b base p l e R s m args below meth c C H locs cells slots ls QQ hl hR hS hc hs hf hlo K
  exact lv_goto C.1 C.2.1 hd ht (k D tys b base p l e R s m args below meth c C H locs cells slots ls QQ hl hR hS hc hs hf hlo K)
theorem xw_ifnonnull {a : Nat} {off : Int} {tgt : Nat} (hd : decode μ.2.2.1 pc = .ok (.ifnonnull off, 3)) (ht : (pc : Int) + off = (tgt : Int)) (k : xW sc μ d kc ks tgt lv st h Q) : xW sc μ d kc ks pc lv (.ref a :: st) h Q := by
  intro D tys b base p l e R s m args below meth c C H locs cells slots ls QQ hl hR hS hc hs hf hlo K
  exact lv_ifnonnull C.1 C.2.1 hd ht (k D tys b base p l e R s m args below meth c C H locs cells slots ls QQ hl hR hS hc hs hf hlo K)
theorem xw_ifnull {a : Nat} {off : Int} (hd : decode μ.2.2.1 pc = .ok (.ifnull off, 3)) (k : xW sc μ d kc ks (pc + 3) lv st h Q) : xW sc μ d kc ks pc lv (.ref a :: st) h Q := by
  intro D tys b base p l e R s m args below meth c C H locs cells slots ls QQ hl hR hS hc hs hf hlo K
  exact lv_ifnull C.1 C.2.1 hd (k D tys b base p l e R s m args below meth c C H locs cells slots ls QQ hl hR hS hc hs hf hlo K)
theorem xw_ifnonnullN {off : Int} (hd : decode μ.2.2.1 pc = .ok (.ifnonnull off, 3)) (k : xW sc μ d kc ks (pc + 3) lv st h Q) : xW sc μ d kc ks pc lv (.null :: st) h Q := by
  intro D tys b base p l e R s m args below meth c C H locs cells slots ls QQ hl hR hS hc hs hf hlo K
  exact lv_ifnonnullN C.1 C.2.1 hd (k D tys b base p l e R s m args below meth c C H locs cells slots ls QQ hl hR hS hc hs hf hlo K)
theorem xw_ifnullN {off : Int} {tgt : Nat} (hd : decode μ.2.2.1 pc = .ok (.ifnull off, 3)) (ht : (pc : Int) + off = (tgt : Int)) (k : xW sc μ d kc ks tgt lv st h Q) : xW sc μ d kc ks pc lv (.null :: st) h Q := by
  intro D tys b base p l e R s m args below meth c C H locs cells slots ls QQ hl hR hS hc hs hf hlo K
  exact lv_ifnullN C.1 C.2.1 hd ht (k D tys b base p l e R s m args below meth c C H locs cells slots ls QQ hl hR hS hc hs hf hlo K)
theorem xw_lookup {dflt : Int} {ps : Array (Int × Int)} {len : Nat} {x : Int32} {off : Int} {tgt : Nat} (hd : decode μ.2.2.1 pc = .ok (.lookupswitch dflt ps, len)) (hp : (ps.toList.zip (ps.toList.drop 1)).all (fun (a, next) => a.1 < next.1) = true) (ho : Op.lookupswitch.offset ps.toList dflt x.toInt = off) (ht : (pc : Int) + off = (tgt : Int)) (k : xW sc μ d kc ks tgt lv st h Q) : xW sc μ d kc ks pc lv (.int x :: st) h Q := by
  intro D tys b base p l e R s m args below meth c C H locs cells slots ls QQ hl hR hS hc hs hf hlo K
  exact lv_lookup C.1 C.2.1 hd hp ho ht (k D tys b base p l e R s m args below meth c C H locs cells slots ls QQ hl hR hS hc hs hf hlo K)
theorem xw_tableOut {dflt lo hi : Int} {offs : Array Int} {len : Nat} {x : Int32} {tgt : Nat} (hd : decode μ.2.2.1 pc = .ok (.tableswitch dflt lo hi offs, len)) (hx : x.toInt < lo ∨ hi < x.toInt) (ht : (pc : Int) + dflt = (tgt : Int)) (k : xW sc μ d kc ks tgt lv st h Q) : xW sc μ d kc ks pc lv (.int x :: st) h Q := by
  intro D tys b base p l e R s m args below meth c C H locs cells slots ls QQ hl hR hS hc hs hf hlo K
  exact lv_tableOut C.1 C.2.1 hd hx ht (k D tys b base p l e R s m args below meth c C H locs cells slots ls QQ hl hR hS hc hs hf hlo K)
theorem xw_tableIn {dflt lo hi : Int} {offs : Array Int} {len : Nat} {x : Int32} {off : Int} {tgt : Nat} (hd : decode μ.2.2.1 pc = .ok (.tableswitch dflt lo hi offs, len)) (h1 : ¬ x.toInt < lo) (h2 : ¬ hi < x.toInt) (ho : offs[(x.toInt - lo).toNat]? = some off) (ht : (pc : Int) + off = (tgt : Int)) (k : xW sc μ d kc ks tgt lv st h Q) : xW sc μ d kc ks pc lv (.int x :: st) h Q := by
  intro D tys b base p l e R s m args below meth c C H locs cells slots ls QQ hl hR hS hc hs hf hlo K
  exact lv_tableIn C.1 C.2.1 hd h1 h2 ho ht (k D tys b base p l e R s m args below meth c C H locs cells slots ls QQ hl hR hS hc hs hf hlo K)
theorem xw_return (hr : μ.2.2.2.2 = none) (hd : decode μ.2.2.1 pc = .ok (.return_, 1)) (k : Q none h) : xW sc μ d kc ks pc lv [] h Q := by
  intro D tys b base p l e R s m args below meth c C H locs cells slots ls QQ hl hR hS hc hs hf hlo K
  exact K none h H locs cells slots ls pc [] k hR hS (by omega) (by omega) (Or.inl ⟨rfl, rfl, hr, hd⟩)
theorem xw_ireturn {x : Int32} (hr : μ.2.2.2.2 = some .int) (hd : decode μ.2.2.1 pc = .ok (.ireturn, 1)) (k : Q (some (.int x)) h) : xW sc μ d kc ks pc lv [.int x] h Q := by
  intro D tys b base p l e R s m args below meth c C H locs cells slots ls QQ hl hR hS hc hs hf hlo K
  exact K (some (.int x)) h H locs cells slots ls pc [.int x] k hR hS (by omega) (by omega) (Or.inr (Or.inl ⟨x, .int, rfl, rfl, hr, rfl, hd⟩))
theorem xw_zreturn {x : Int32} (hr : μ.2.2.2.2 = some .boolean) (hx : narrow .boolean (.int x) = .int x) (hd : decode μ.2.2.1 pc = .ok (.ireturn, 1)) (k : Q (some (.int x)) h) : xW sc μ d kc ks pc lv [.int x] h Q := by
  intro D tys b base p l e R s m args below meth c C H locs cells slots ls QQ hl hR hS hc hs hf hlo K
  exact K (some (.int x)) h H locs cells slots ls pc [.int x] k hR hS (by omega) (by omega) (Or.inr (Or.inl ⟨x, .boolean, rfl, rfl, hr, hx, hd⟩))
theorem xw_areturn {v : Value} {ty : FieldType} (hr : μ.2.2.2.2 = some ty) (hty : (∃ n, ty = .object n) ∨ ∃ t, ty = .array t) (hv : v = .null ∨ ∃ k, v = .ref k) (hd : decode μ.2.2.1 pc = .ok (.areturn, 1)) (k : Q (some v) h) : xW sc μ d kc ks pc lv [v] h Q := by
  intro D tys b base p l e R s m args below meth c C H locs cells slots ls QQ hl hR hS hc hs hf hlo K
  exact K (some v) h H locs cells slots ls pc [xv b base v] k hR hS (by omega) (by omega) (Or.inr (Or.inr ⟨v, ty, rfl, hv, rfl, hr, hty, hd⟩))
theorem xW.mono {Q' : Option Value → xH → Prop} (hq : ∀ v h', Q v h' → Q' v h') (k : xW sc μ d kc ks pc lv st h Q) : xW sc μ d kc ks pc lv st h Q' := by
  intro D tys b base p l e R s m args below meth c C H locs cells slots ls QQ hl hR hS hc hs hf hlo K
  exact k D tys b base p l e R s m args below meth c C H locs cells slots ls QQ hl hR hS hc hs hf hlo (fun v h' H' locs' cells' slots' ls' pc' st' z => K v h' H' locs' cells' slots' ls' pc' st' (hq v h' z))
end XW
end
section
/-! heap rules -/
theorem xP1 {D : va_G} {cl : List vw_C} {q : Nat × va_E} {H : Heap} (h : va_at D cl q H) : va_P D cl [q] H := by
  intro k x hx
  cases k with
  | zero => simp at hx; subst hx; exact h
  | succ k => simp at hx
theorem xty_at {tys : xTs} {t : Nat} {ty : FieldType} (h : tys.map Prod.snd = xTys) (ht : xTys[t]? = some ty) : tys[t]? = some (xcA tys t, ty) := by
  rw [← h, List.getElem?_map] at ht
  cases hq : tys[t]? with
  | none => rw [hq] at ht; cases ht
  | some q =>
    rw [hq] at ht
    have hz : q.2 = ty := Option.some.inj ht
    have e : xcA tys t = q.1 := by unfold xcA; rw [List.getD_eq_getElem?_getD, hq]; rfl
    rw [e, ← hz]
/-- an instance field, at a place of the constant pool: class ci, its k-th field, of type ty, final or not -/
def xFs (own : String) (index ci k : Nat) (ty : FieldType) (fin : Bool) : Prop := ∃ (C : String) (T : u_T) (N : Nat) (ty0 : Nat → FieldType), vwCl[ci]? = some (C, T, N) ∧ (∀ w ∈ u_ws C T N, w ∈ xT) ∧ (∀ k, k < N → parseFieldDescriptor (T k).2.2.1 = some (ty0 k)) ∧ (∀ a, a < N → ∀ b, b < N → a ≠ b → (T a).2.1 ≠ (T b).2.1) ∧ k < N ∧ Cond.fieldLink own index (T k).1 (T k).2.1 (T k).2.2.1 ∈ xT ∧ ty0 k = ty ∧ (T k).2.2.2 = fin ∧ (fin = true → (T k).1 = own)
theorem xl_set {l : List Int32} {cA : ClassId} {i : Nat} {x : Int32} (hi : i < l.length) : (vp_cell cA (l.length, .inl (fun j => l.getD j 0))).setSlot i (.int x) = vp_cell cA ((l.set i x).length, .inl (fun j => (l.set i x).getD j 0)) := by
  rw [vp_cell_i, vp_cell_i, arrV_store, List.length_set]
  congr 1
  funext q
  by_cases hq : q = i
  · subst hq
    simp [updV, List.getD_eq_getElem?_getD, List.getElem?_set_self hi]
  · simp [updV, hq, List.getD_eq_getElem?_getD, List.getElem?_set_ne (Ne.symm hq)]
theorem xl_setq {l : List (Option Nat)} {cA : ClassId} {i : Nat} {r : Option Nat} {f : Nat → Nat} (hi : i < l.length) : (vp_cell cA (l.length, .inr (.inr (.inr (.inr (fun j => (l.getD j none).map f)))))).setSlot i (va_rf (r.map f)) = vp_cell cA ((l.set i r).length, .inr (.inr (.inr (.inr (fun j => ((l.set i r).getD j none).map f))))) := by
  rw [vp_cell_q, vp_cell_q, arrV_store, List.length_set]
  congr 1
  funext q
  by_cases hq : q = i
  · subst hq
    simp [updV, List.getD_eq_getElem?_getD, List.getElem?_set_self hi]
  · simp [updV, hq, List.getD_eq_getElem?_getD, List.getElem?_set_ne (Ne.symm hq)]
section XH
variable {sc : List Int32} {μ : xM} {d kc ks pc : Nat} {lv : List (Option Value)} {st : List Value} {h : xH} {Q : Option Value → xH → Prop}
theorem xw_get {index ci i a : Nat} {ty : FieldType} {fin : Bool} {fs : List Value} {v : Value} (hF : xFs μ.1 index ci i ty fin) (hd : decode μ.2.2.1 pc = .ok (.getfield index, 3)) (ha : h.2 a = some (.inr (ci, fs))) (hv : fs[i]? = some v) (k : xW sc μ d kc ks (pc + 3) lv (v :: st) h Q) : xW sc μ d kc ks pc lv (.ref a :: st) h Q := by
  intro D tys b base p l e R s m args below meth c C H locs cells slots ls QQ hl hR hS hc hs hf hlo K
  obtain ⟨C', T, N, ty0, hcl, hin, hty, hnm, hk, hlink, -⟩ := hF
  obtain ⟨a0, hat⟩ := hR.2 a _ ha
  show W p l e R s m args below meth c H locs cells slots QQ (F0 m pc ls (.ref (xad b base a) :: st.map (xv b base)))
  rw [xad_pos a0]
  refine va_get (D := D) (tys := tys) (ws := [(base + a, xc tys b base (.inr (ci, fs)))]) C.1 C.2.1 C.2.2.2.2.1 hin C.2.2.2.1 C.2.2.2.2.2.1 (xP1 hat) 0 rfl hcl i hk (C.2.2.2.2.1 _ hlink) (fun _ z => z) (v := xv b base v) ?_ hd ?_
  · rw [List.getElem?_map, hv]; rfl
  · exact k D tys b base p l e R s m args below meth c C H locs cells slots ls QQ hl hR hS hc hs hf hlo K
theorem xw_put0 {index ci i a : Nat} {ty : FieldType} {fs : List Value} {v : Value} (hF : xFs μ.1 index ci i ty false) (hd : decode μ.2.2.1 pc = .ok (.putfield index, 3)) (ha : h.2 a = some (.inr (ci, fs))) (hi : i < fs.length) (hnw : ∀ b base, narrow ty (xv b base v) = xv b base v) (hft : ∀ b base, fits ty (xv b base v) = true) (k : xW sc μ d kc ks (pc + 3) lv st (xu h a (.inr (ci, fs.set i v))) Q) : xW sc μ d kc ks pc lv (v :: .ref a :: st) h Q := by
  intro D tys b base p l e R s m args below meth c C H locs cells slots ls QQ hl hR hS hc hs hf hlo K
  obtain ⟨C', T, N, ty0, hcl, hin, hty, hnm, hk, hlink, hfty, hfin, -⟩ := hF
  obtain ⟨a0, hat⟩ := hR.2 a _ ha
  have hK := C.2.2.2.2.2.1
  have hts := C.2.2.2.2.1
  have hap := va_apart (own := μ.1) hts hin ty0 hty hnm hK hcl
  obtain ⟨r, h1, cell, q1, q2, q3, q4⟩ := hat
  have hr : r = (C', T, N) := Option.some.inj (h1.symm.trans hcl)
  subst hr
  obtain ⟨hSl, hfc, kC, hkC, hkind⟩ := hK.1 ci _ hcl
  obtain ⟨cf, kf, fi, f, hif, hsl⟩ := hSl i hk
  have hlay := hts _ (hin _ (u_in_lay hk))
  unfold u_lay at hlay
  rw [if_neg (by rw [hfin]; decide)] at hlay
  have hst := (u_facts hfc hkC (u_lays hts hin hk) hif).1
  have h6 := u_store hfc hkC hkind hlay hif (by rw [hty i hk, hfty]) (hnw b base) (hft b base)
  show W p l e R s m args below meth c H locs cells slots QQ (F0 m pc ls (xv b base v :: .ref (xad b base a) :: st.map (xv b base)))
  rw [xad_pos a0]
  refine W.putK C.1 C.2.1 (f := f) ⟨C.2.2.2.1, hts _ hlink, ⟨_, _, _, hif⟩, hst⟩ (by rw [q2]; exact h6) q1 q3 (by rw [hsl]; exact k2_hasslot (q4 i hk)) rfl rfl hd fun H' e1 e2 e3 => ?_
  rw [hsl] at e1 ⊢
  refine k D tys b base p l e R s m args below meth c C H' _ cells slots ls QQ hl (hR.set ha ?_ e2 e3) (hS.put e2 e3 (by show base < base + a; omega)) hc hs hf hlo K
  show va_at D vwCl (base + a, .inr (ci, (fs.set i v).map (xv b base))) H'
  rw [List.map_set]
  exact ⟨_, hcl, t_OB.to (V := updV (vp_V (fs.map (xv b base))) i (xv b base v)) ⟨_, e1, q2, q3, t_set q4 hap hk (xv b base v)⟩ (fun j _ => vp_updV_set (by rw [List.length_map]; exact hi) (xv b base v) j)⟩
theorem xw_putF0 {index ci i a : Nat} {ty : FieldType} {fs : List Value} {v : Value} (hF : xFs μ.1 index ci i ty true) (hini : μ.2.1.name = "<init>") (hd : decode μ.2.2.1 pc = .ok (.putfield index, 3)) (ha : h.2 a = some (.inr (ci, fs))) (hi : i < fs.length) (hnw : ∀ b base, narrow ty (xv b base v) = xv b base v) (hft : ∀ b base, fits ty (xv b base v) = true) (k : xW sc μ d kc ks (pc + 3) lv st (xu h a (.inr (ci, fs.set i v))) Q) : xW sc μ d kc ks pc lv (v :: .ref a :: st) h Q := by
  intro D tys b base p l e R s m args below meth c C H locs cells slots ls QQ hl hR hS hc hs hf hlo K
  obtain ⟨C', T, N, ty0, hcl, hin, hty, hnm, hk, hlink, hfty, hfin, hdecl⟩ := hF
  obtain ⟨a0, hat⟩ := hR.2 a _ ha
  have hK := C.2.2.2.2.2.1
  have hts := C.2.2.2.2.1
  have hap := va_apart (own := μ.1) hts hin ty0 hty hnm hK hcl
  obtain ⟨r, h1, cell, q1, q2, q3, q4⟩ := hat
  have hr : r = (C', T, N) := Option.some.inj (h1.symm.trans hcl)
  subst hr
  obtain ⟨hSl, hfc, kC, hkC, hkind⟩ := hK.1 ci _ hcl
  obtain ⟨cf, kf, fi, f, hif, hsl⟩ := hSl i hk
  have hlay := hts _ (hin _ (u_in_lay hk))
  unfold u_lay at hlay
  rw [if_pos hfin] at hlay
  have hst := (u_facts hfc hkC (u_lays hts hin hk) hif).1
  have hcf : m.cls = cf := by
    obtain ⟨_, _, c', _, _, _, -, -, hf', -, -, -, hown2, -⟩ := Cond.laysFinal_spec hlay
    have z1 : c' = cf := by have := hif.symm.trans hf'; simp at this; exact this.1.symm
    rw [hdecl rfl] at hown2
    rw [← z1]; exact Option.some.inj (C.2.2.2.1.symm.trans hown2)
  have h6 := u_fits hfc hkC hkind (Or.inr hlay) hif (by rw [hty i hk, hfty]) (hnw b base) (hft b base)
  show W p l e R s m args below meth c H locs cells slots QQ (F0 m pc ls (xv b base v :: .ref (xad b base a) :: st.map (xv b base)))
  rw [xad_pos a0]
  refine W.putFinK C.1 C.2.1 C.2.2.2.1 (hts _ hlink) hif hst hcf (by rw [C.2.2.2.2.2.2.2.2.2.1]; exact hini) (by rw [q2]; exact h6) q1 q3 (by rw [hsl]; exact k2_hasslot (q4 i hk)) rfl rfl hd fun H' e1 e2 e3 => ?_
  rw [hsl] at e1 ⊢
  refine k D tys b base p l e R s m args below meth c C H' _ cells slots ls QQ hl (hR.set ha ?_ e2 e3) (hS.put e2 e3 (by show base < base + a; omega)) hc hs hf hlo K
  show va_at D vwCl (base + a, .inr (ci, (fs.set i v).map (xv b base))) H'
  rw [List.map_set]
  exact ⟨_, hcl, t_OB.to (V := updV (vp_V (fs.map (xv b base))) i (xv b base v)) ⟨_, e1, q2, q3, t_set q4 hap hk (xv b base v)⟩ (fun j _ => vp_updV_set (by rw [List.length_map]; exact hi) (xv b base v) j)⟩
theorem xw_puti {index ci i a : Nat} {fs : List Value} {x : Int32} (hF : xFs μ.1 index ci i .int false) (hd : decode μ.2.2.1 pc = .ok (.putfield index, 3)) (ha : h.2 a = some (.inr (ci, fs))) (hi : i < fs.length) (k : xW sc μ d kc ks (pc + 3) lv st (xu h a (.inr (ci, fs.set i (.int x)))) Q) : xW sc μ d kc ks pc lv (.int x :: .ref a :: st) h Q :=
  xw_put0 hF hd ha hi (fun _ _ => rfl) (fun _ _ => rfl) k
theorem xw_putiF {index ci i a : Nat} {fs : List Value} {x : Int32} (hF : xFs μ.1 index ci i .int true) (hini : μ.2.1.name = "<init>") (hd : decode μ.2.2.1 pc = .ok (.putfield index, 3)) (ha : h.2 a = some (.inr (ci, fs))) (hi : i < fs.length) (k : xW sc μ d kc ks (pc + 3) lv st (xu h a (.inr (ci, fs.set i (.int x)))) Q) : xW sc μ d kc ks pc lv (.int x :: .ref a :: st) h Q :=
  xw_putF0 hF hini hd ha hi (fun _ _ => rfl) (fun _ _ => rfl) k
theorem xw_putr {index ci i a r : Nat} {ty : FieldType} {fs : List Value} (hF : xFs μ.1 index ci i ty false) (hty : (∃ n, ty = .object n) ∨ ∃ t, ty = .array t) (hd : decode μ.2.2.1 pc = .ok (.putfield index, 3)) (ha : h.2 a = some (.inr (ci, fs))) (hi : i < fs.length) (k : xW sc μ d kc ks (pc + 3) lv st (xu h a (.inr (ci, fs.set i (.ref r)))) Q) : xW sc μ d kc ks pc lv (.ref r :: .ref a :: st) h Q :=
  xw_put0 hF hd ha hi (fun _ _ => by rcases hty with ⟨n, rfl⟩ | ⟨t, rfl⟩ <;> rfl) (fun _ _ => by rcases hty with ⟨n, rfl⟩ | ⟨t, rfl⟩ <;> rfl) k
theorem xw_putrF {index ci i a r : Nat} {ty : FieldType} {fs : List Value} (hF : xFs μ.1 index ci i ty true) (hini : μ.2.1.name = "<init>") (hty : (∃ n, ty = .object n) ∨ ∃ t, ty = .array t) (hd : decode μ.2.2.1 pc = .ok (.putfield index, 3)) (ha : h.2 a = some (.inr (ci, fs))) (hi : i < fs.length) (k : xW sc μ d kc ks (pc + 3) lv st (xu h a (.inr (ci, fs.set i (.ref r)))) Q) : xW sc μ d kc ks pc lv (.ref r :: .ref a :: st) h Q :=
  xw_putF0 hF hini hd ha hi (fun _ _ => by rcases hty with ⟨n, rfl⟩ | ⟨t, rfl⟩ <;> rfl) (fun _ _ => by rcases hty with ⟨n, rfl⟩ | ⟨t, rfl⟩ <;> rfl) k
theorem xw_iaload {t a : Nat} {l : List Int32} {i x : Int32} (ht : xTys[t]? = some .int) (hd : decode μ.2.2.1 pc = .ok (.iaload, 1)) (ha : h.2 a = some (.inl (t, .inl l))) (h0 : 0 ≤ i) (hx : l[i.toNatClampNeg]? = some x) (k : xW sc μ d kc ks (pc + 1) lv (.int x :: st) h Q) : xW sc μ d kc ks pc lv (.int i :: .ref a :: st) h Q := by
  intro D tys b base p l' e R s m args below meth c C H locs cells slots ls QQ hl hR hS hc hs hf hlo K
  obtain ⟨a0, hat⟩ := hR.2 a _ ha
  have hlt : i.toNatClampNeg < l.length := (List.getElem?_eq_some_iff.mp hx).1
  show W p l' e R s m args below meth c H locs cells slots QQ (F0 m pc ls (.int i :: .ref (xad b base a) :: st.map (xv b base)))
  rw [xad_pos a0]
  have hz := xty_at C.2.2.2.2.2.2.1 ht
  refine va_iald (D := D) (cl := vwCl) (tys := tys) (ws := [(base + a, xc tys b base (.inl (t, .inl l)))]) C.1 C.2.1 C.2.2.2.2.2.1 (xP1 hat) 0 t rfl hz (fun z => by rcases z with z | z <;> first | exact absurd h0 (Int32.not_le.mpr z) | omega) hd ?_
  have hx' : l.getD i.toNatClampNeg 0 = x := by rw [List.getD_eq_getElem?_getD, hx]; rfl
  rw [hx']
  exact k D tys b base p l' e R s m args below meth c C H locs cells slots ls QQ hl hR hS hc hs hf hlo K
theorem xw_iastore {t a : Nat} {l : List Int32} {i x : Int32} (ht : xTys[t]? = some .int) (hd : decode μ.2.2.1 pc = .ok (.iastore, 1)) (ha : h.2 a = some (.inl (t, .inl l))) (h0 : 0 ≤ i) (hi : i.toNatClampNeg < l.length) (k : xW sc μ d kc ks (pc + 1) lv st (xu h a (.inl (t, .inl (l.set i.toNatClampNeg x)))) Q) : xW sc μ d kc ks pc lv (.int x :: .int i :: .ref a :: st) h Q := by
  intro D tys b base p l' e R s m args below meth c C H locs cells slots ls QQ hl hR hS hc hs hf hlo K
  obtain ⟨a0, hat⟩ := hR.2 a _ ha
  have hz := xty_at C.2.2.2.2.2.2.1 ht
  show W p l' e R s m args below meth c H locs cells slots QQ (F0 m pc ls (.int x :: .int i :: .ref (xad b base a) :: st.map (xv b base)))
  rw [xad_pos a0]
  have hcell : H[base + a]? = some (vp_cell (xcA tys t) (l.length, .inl (fun j => l.getD j 0))) := hat
  refine W.iast C.1 C.2.1 hcell ((C.2.2.2.2.2.1.2 t _ hz).1 l.length (fun j => .int (l.getD j 0))) (fun q => by cases q) (by show ¬ (i < 0 ∨ (arrV _ _ _).slots.size ≤ _); rw [arrV_size]; rintro (z | z) <;> first | exact absurd h0 (Int32.not_le.mpr z) | omega) rfl rfl hd fun H1 e1 z oq => ?_
  rw [xl_set hi] at e1
  exact k D tys b base p l' e R s m args below meth c C H1 _ cells slots ls QQ hl (hR.set ha e1 z oq) (hS.put z oq (by show base < base + a; omega)) hc hs hf hlo K
theorem xw_aaload {t a : Nat} {l : List (Option Nat)} {i : Int32} {r : Option Nat} {ty : FieldType} (ht : xTys[t]? = some ty) (hty : ty.isReference = true) (hd : decode μ.2.2.1 pc = .ok (.aaload, 1)) (ha : h.2 a = some (.inl (t, .inr l))) (h0 : 0 ≤ i) (hx : l[i.toNatClampNeg]? = some r) (k : xW sc μ d kc ks (pc + 1) lv (va_rf r :: st) h Q) : xW sc μ d kc ks pc lv (.int i :: .ref a :: st) h Q := by
  intro D tys b base p l' e R s m args below meth c C H locs cells slots ls QQ hl hR hS hc hs hf hlo K
  obtain ⟨a0, hat⟩ := hR.2 a _ ha
  have hlt : i.toNatClampNeg < l.length := (List.getElem?_eq_some_iff.mp hx).1
  have hz := xty_at C.2.2.2.2.2.2.1 ht
  show W p l' e R s m args below meth c H locs cells slots QQ (F0 m pc ls (.int i :: .ref (xad b base a) :: st.map (xv b base)))
  rw [xad_pos a0]
  have hcell : H[base + a]? = some (vp_cell (xcA tys t) (l.length, .inr (.inr (.inr (.inr (fun j => (l.getD j none).map (xad b base))))))) := hat
  have hx' : l.getD i.toNatClampNeg none = r := by rw [List.getD_eq_getElem?_getD, hx]; rfl
  refine W.aald (v := xv b base (va_rf r)) (ty := ty) C.1 C.2.1 hcell ((C.2.2.2.2.2.1.2 t _ hz).1 l.length (fun j => va_rf ((l.getD j none).map (xad b base)))) hty (fun q => by cases q) (by show ¬ (i < 0 ∨ (arrV _ _ _).slots.size ≤ _); rw [arrV_size]; rintro (z | z) <;> first | exact absurd h0 (Int32.not_le.mpr z) | omega) (by show (arrV _ _ _).slots[_]? = _; rw [arrV_read _ _ hlt]; show some (va_rf (Option.map (xad b base) (l.getD i.toNatClampNeg none))) = _; rw [hx']; cases r <;> rfl) rfl rfl hd ?_
  exact k D tys b base p l' e R s m args below meth c C H locs cells slots ls QQ hl hR hS hc hs hf hlo K
theorem xw_aastore {t a v ci : Nat} {l : List (Option Nat)} {i : Int32} {q : vw_C} {vs : List Value} (ht : xTys[t]? = some (.object q.1)) (hq : vwCl[ci]? = some q) (hd : decode μ.2.2.1 pc = .ok (.aastore, 1)) (ha : h.2 a = some (.inl (t, .inr l))) (hv : h.2 v = some (.inr (ci, vs))) (h0 : 0 ≤ i) (hi : i.toNatClampNeg < l.length) (k : xW sc μ d kc ks (pc + 1) lv st (xu h a (.inl (t, .inr (l.set i.toNatClampNeg (some v))))) Q) : xW sc μ d kc ks pc lv (.ref v :: .int i :: .ref a :: st) h Q := by
  intro D tys b base p l' e R s m args below meth c C H locs cells slots ls QQ hl hR hS hc hs hf hlo K
  obtain ⟨a0, hat⟩ := hR.2 a _ ha
  obtain ⟨v0, hvt⟩ := hR.2 v _ hv
  have hz := xty_at C.2.2.2.2.2.2.1 ht
  have hK := C.2.2.2.2.2.1
  show W p l' e R s m args below meth c H locs cells slots QQ (F0 m pc ls (.ref (xad b base v) :: .int i :: .ref (xad b base a) :: st.map (xv b base)))
  have hcell : H[base + a]? = some (vp_cell (xcA tys t) (l.length, .inr (.inr (.inr (.inr (fun j => (l.getD j none).map (xad b base))))))) := hat
  obtain ⟨r', hr', cellV, g1, g2, g3, -⟩ := hvt
  have hcls := (hK.1 ci q hq).2
  obtain ⟨kA, comp, k1, k2, k3, -⟩ := (hK.2 t _ hz).2
  have hcomp : comp = D.1 ci := Option.some.inj (k3.symm.trans hcls.1)
  subst hcomp
  obtain ⟨kC, hkC, -⟩ := hcls.2
  rw [xad_pos a0, xad_pos v0]
  refine W.aast C.1 C.2.1 hcell (fun q h => by cases h) (fun h => by cases h) k1 k2 rfl hkC ⟨fun z => absurd h0 (Int32.not_le.mpr z), by show _ < (arrV _ _ _).slots.size; rw [arrV_size]; exact hi⟩ g1 (fun q h => by rw [g3] at h; cases h) (by rw [g2]; exact hkC) (by rw [g2]; exact va_assign hcls) rfl rfl hd fun H1 e1 z oq => ?_
  have e2 : (Value.ref (base + v)) = va_rf ((some v).map (xad b base)) := by show Value.ref (base + v) = Value.ref (xad b base v); rw [xad_pos v0]
  rw [e2, xl_setq hi] at e1
  exact k D tys b base p l' e R s m args below meth c C H1 _ cells slots ls QQ hl (hR.set ha e1 z oq) (hS.put z oq (by show base < base + a; omega)) hc hs hf hlo K
theorem xw_ilen {t a : Nat} {l : List Int32} {v : Int32} (ht : xTys[t]? = some .int) (hd : decode μ.2.2.1 pc = .ok (.arraylength, 1)) (ha : h.2 a = some (.inl (t, .inl l))) (hv : Int32.ofNat l.length = v) (k : xW sc μ d kc ks (pc + 1) lv (.int v :: st) h Q) : xW sc μ d kc ks pc lv (.ref a :: st) h Q := by
  intro D tys b base p l' e R s m args below meth c C H locs cells slots ls QQ hl hR hS hc hs hf hlo K
  obtain ⟨a0, hat⟩ := hR.2 a _ ha
  have hz := xty_at C.2.2.2.2.2.2.1 ht
  show W p l' e R s m args below meth c H locs cells slots QQ (F0 m pc ls (.ref (xad b base a) :: st.map (xv b base)))
  rw [xad_pos a0]
  exact va_alen (D := D) (cl := vwCl) (tys := tys) (ws := [(base + a, xc tys b base (.inl (t, .inl l)))]) C.1 C.2.1 C.2.2.2.2.2.1 (xP1 hat) 0 t rfl hz hv hd (k D tys b base p l' e R s m args below meth c C H locs cells slots ls QQ hl hR hS hc hs hf hlo K)
theorem xw_alen {t a : Nat} {l : List (Option Nat)} {v : Int32} {ty : FieldType} (ht : xTys[t]? = some ty) (hd : decode μ.2.2.1 pc = .ok (.arraylength, 1)) (ha : h.2 a = some (.inl (t, .inr l))) (hv : Int32.ofNat l.length = v) (k : xW sc μ d kc ks (pc + 1) lv (.int v :: st) h Q) : xW sc μ d kc ks pc lv (.ref a :: st) h Q := by
  intro D tys b base p l' e R s m args below meth c C H locs cells slots ls QQ hl hR hS hc hs hf hlo K
  obtain ⟨a0, hat⟩ := hR.2 a _ ha
  have hz := xty_at C.2.2.2.2.2.2.1 ht
  show W p l' e R s m args below meth c H locs cells slots QQ (F0 m pc ls (.ref (xad b base a) :: st.map (xv b base)))
  rw [xad_pos a0]
  exact va_alen (D := D) (cl := vwCl) (tys := tys) (ws := [(base + a, xc tys b base (.inl (t, .inr l)))]) C.1 C.2.1 C.2.2.2.2.2.1 (xP1 hat) 0 t rfl hz hv hd (k D tys b base p l' e R s m args below meth c C H locs cells slots ls QQ hl hR hS hc hs hf hlo K)
/-- the script -/
theorem xw_sload {i x : Int32} (hd : decode μ.2.2.1 pc = .ok (.iaload, 1)) (h0 : 0 ≤ i) (hx : sc[i.toNatClampNeg]? = some x) (k : xW sc μ d kc ks (pc + 1) lv (.int x :: st) h Q) : xW sc μ d kc ks pc lv (.int i :: .ref 0 :: st) h Q := by
  intro D tys b base p l' e R s m args below meth c C H locs cells slots ls QQ hl hR hS hc hs hf hlo K
  have hlt : i.toNatClampNeg < sc.length := (List.getElem?_eq_some_iff.mp hx).1
  have hx' : sc.getD i.toNatClampNeg 0 = x := by rw [List.getD_eq_getElem?_getD, hx]; rfl
  have hbb : b < s.heap.size := by have h1 := C.2.2.2.2.2.2.2.2.2.2.1; have h2 := C.2.2.2.2.2.2.2.2.2.2.2.2; omega
  refine va_sld C.1 C.2.1 C.2.2.2.2.2.2.2.2.2.2.2.1 hbb (by have h2 := C.2.2.2.2.2.2.2.2.2.2.2.2; show ¬ base < b; omega) hS (fun z => by rcases z with z | z <;> first | exact absurd h0 (Int32.not_le.mpr z) | omega) hd ?_
  rw [hx']
  exact k D tys b base p l' e R s m args below meth c C H locs cells slots ls QQ hl hR hS hc hs hf hlo K
theorem xw_slen {v : Int32} (hd : decode μ.2.2.1 pc = .ok (.arraylength, 1)) (hv : Int32.ofNat sc.length = v) (k : xW sc μ d kc ks (pc + 1) lv (.int v :: st) h Q) : xW sc μ d kc ks pc lv (.ref 0 :: st) h Q := by
  intro D tys b base p l' e R s m args below meth c C H locs cells slots ls QQ hl hR hS hc hs hf hlo K
  have hbb : b < s.heap.size := by have h1 := C.2.2.2.2.2.2.2.2.2.2.1; have h2 := C.2.2.2.2.2.2.2.2.2.2.2.2; omega
  refine va_slen C.1 C.2.1 C.2.2.2.2.2.2.2.2.2.2.2.1 hbb (by have h2 := C.2.2.2.2.2.2.2.2.2.2.2.2; show ¬ base < b; omega) hS hd ?_
  rw [hv]
  exact k D tys b base p l' e R s m args below meth c C H locs cells slots ls QQ hl hR hS hc hs hf hlo K
/-- a class that can be made, at a place of the constant pool -/
def xNs (own : String) (index ci N : Nat) (fs : List Value) : Prop := ∃ (C : String) (T : u_T) (ty0 : Nat → FieldType), vwCl[ci]? = some (C, T, N) ∧ (∀ w ∈ u_ws C T N, w ∈ xT) ∧ (∀ k, k < N → parseFieldDescriptor (T k).2.2.1 = some (ty0 k)) ∧ Cond.classLink own index C ∈ xT ∧ Cond.instantiable C N ∈ xT ∧ Cond.initialized C ∈ xT ∧ ∀ j, j < N → ∀ b base, defaultValue (ty0 j) = vp_V (fs.map (xv b base)) j
theorem xw_new {index ci N : Nat} {fs : List Value} (hN : xNs μ.1 index ci N fs) (hd : decode μ.2.2.1 pc = .ok (.new index, 3)) (k : xW sc μ d kc ks (pc + 3) lv (.ref (h.1 + 1) :: st) (xn h (.inr (ci, fs))) Q) : xW sc μ d (kc + 1) (ks + N) pc lv st h Q := by
  intro D tys b base p l e R s m args below meth c C H locs cells slots ls QQ hl hR hS hc hs hf hlo K
  obtain ⟨C', T, ty0, hcl, hin, hty, hlk, hins, hini, hfs⟩ := hN
  have hts := C.2.2.2.2.1
  have hKn := C.2.2.2.2.2.1.1 ci _ hcl
  refine W.newcK C.1 C.2.1 C.2.2.2.1 (hts _ hlk) (hts _ hins) (hts _ hini) rfl hd (by omega) (by omega) hKn.2.1 rfl fun H1 kC hkC e1 z1 o1 => ?_
  have hnew := hR.new
  have e2 : Value.ref H.size = xv b base (.ref (h.1 + 1)) := by show _ = Value.ref (xad b base (h.1 + 1)); rw [xad_pos (Nat.succ_pos _), hnew]
  have hat : va_at D vwCl (base + (h.1 + 1), xc tys b base (.inr (ci, fs))) H1 := by
    rw [hnew]
    exact ⟨_, hcl, (u_born ty0 hts hin hKn hkC e1 hty).to (fun j hj => hfs j hj b base)⟩
  show W p l e R s m args below meth c H1 locs (cells + 1) (slots + N) QQ (F0 m (pc + 3) ls (.ref H.size :: st.map (xv b base)))
  rw [e2]
  exact k D tys b base p l e R s m args below meth c C H1 locs (cells + 1) (slots + N) ls QQ hl (hR.push z1 o1 hat) ⟨Nat.le_trans hS.1 (by omega), fun x h1 h2 => (o1 x (Nat.lt_of_lt_of_le h1 hS.1)).trans (hS.2.1 x h1 h2), hS.2.2⟩ (by omega) (by omega) hf hlo K
theorem xw_newarray {t N : Nat} {n : Int32} (ht : xTys[t]? = some .int) (hw : Cond.arrayClass .int ∈ xT) (hd : decode μ.2.2.1 pc = .ok (.newarray .int, 2)) (h0 : ¬ n < 0) (hN : n.toNatClampNeg = N) (hb : N ≤ 1000000) (k : xW sc μ d kc ks (pc + 2) lv (.ref (h.1 + 1) :: st) (xn h (.inl (t, .inl (List.replicate N 0)))) Q) : xW sc μ d (kc + 1) (ks + N) pc lv (.int n :: st) h Q := by
  intro D tys b base p l e R s m args below meth c C H locs cells slots ls QQ hl hR hS hc hs hf hlo K
  have hts := C.2.2.2.2.1
  have hz := xty_at C.2.2.2.2.2.2.1 ht
  refine va_newaK (atype := .int) C.1 C.2.1 (hts _ hw) rfl hd rfl h0 hN (by show N * 4 ≤ _; omega) (by omega) (by omega) rfl fun H1 cA e1 z1 o1 hAr hNm => ?_
  have hnew := hR.new
  have hRA : s.vm.findClass ("[" ++ FieldType.int.toString) = some (xcA tys t) := (C.2.2.2.2.2.1.2 t _ hz).2
  have hcA : cA = xcA tys t := Option.some.inj (hNm.symm.trans hRA)
  have e2 : Value.ref H.size = xv b base (.ref (h.1 + 1)) := by show _ = Value.ref (xad b base (h.1 + 1)); rw [xad_pos (Nat.succ_pos _), hnew]
  have hat : va_at D vwCl (base + (h.1 + 1), xc tys b base (.inl (t, .inl (List.replicate N 0)))) H1 := by
    rw [hnew]
    show H1[H.size]? = some (vp_cell (xcA tys t) ((List.replicate N (0 : Int32)).length, .inl (fun j => (List.replicate N (0 : Int32)).getD j 0)))
    rw [e1, hcA, vp_cell_i, List.length_replicate]
    congr 2
    funext j
    have : (List.replicate N (0 : Int32)).getD j 0 = 0 := by
      rw [List.getD_eq_getElem?_getD, List.getElem?_replicate]
      split <;> rfl
    rw [this]
    rfl
  show W p l e R s m args below meth c H1 locs (cells + 1) (slots + N) QQ (F0 m (pc + 2) ls (.ref H.size :: st.map (xv b base)))
  rw [e2]
  exact k D tys b base p l e R s m args below meth c C H1 locs (cells + 1) (slots + N) ls QQ hl (hR.push z1 o1 hat) ⟨Nat.le_trans hS.1 (by omega), fun x h1 h2 => (o1 x (Nat.lt_of_lt_of_le h1 hS.1)).trans (hS.2.1 x h1 h2), hS.2.2⟩ (by omega) (by omega) hf hlo K
theorem xw_anewarray {t N index : Nat} {C' : String} {n : Int32} (ht : xTys[t]? = some (.object C')) (hw : Cond.classLink μ.1 index C' ∈ xT) (hw2 : Cond.arrayOver (.object C') ∈ xT) (hd : decode μ.2.2.1 pc = .ok (.anewarray index, 3)) (h0 : ¬ n < 0) (hN : n.toNatClampNeg = N) (hb : N ≤ 1000000) (k : xW sc μ d kc ks (pc + 3) lv (.ref (h.1 + 1) :: st) (xn h (.inl (t, .inr (List.replicate N none)))) Q) : xW sc μ d (kc + 1) (ks + N) pc lv (.int n :: st) h Q := by
  intro D tys b base p l e R s m args below meth c C H locs cells slots ls QQ hl hR hS hc hs hf hlo K
  have hts := C.2.2.2.2.1
  have hz := xty_at C.2.2.2.2.2.2.1 ht
  subst hN
  refine W.anew C.1 C.2.1 C.2.2.2.1 (hts _ hw) (hts _ hw2) rfl hd rfl h0 (by omega) (by omega) (by omega) fun cA kA comp f1 f2 f3 f4 => ?_
  have hnew := hR.new
  obtain ⟨-, -, -, -, -, hRA⟩ := (C.2.2.2.2.2.1.2 t _ hz).2
  have hcA : cA = xcA tys t := Option.some.inj (f1.symm.trans hRA)
  have e2 : Value.ref H.size = xv b base (.ref (h.1 + 1)) := by show _ = Value.ref (xad b base (h.1 + 1)); rw [xad_pos (Nat.succ_pos _), hnew]
  generalize hH1 : H.push ({ cls := cA, slots := Array.replicate n.toNatClampNeg .null, vm := .none } : Cell) = H1
  have z1 : H1.size = H.size + 1 := by rw [← hH1, Array.size_push]
  have e1 : H1[H.size]? = some (arrV cA n.toNatClampNeg (fun _ => .null)) := by rw [← hH1, Array.getElem?_push_size, ← arrV_new]
  have o1 : ∀ q : Nat, q < H.size → H1[q]? = H[q]? := fun q hq => by rw [← hH1, Array.getElem?_push, if_neg (Nat.ne_of_lt hq)]
  have hat : va_at D vwCl (base + (h.1 + 1), xc tys b base (.inl (t, .inr (List.replicate n.toNatClampNeg none)))) H1 := by
    rw [hnew]
    show H1[H.size]? = some (vp_cell (xcA tys t) ((List.replicate n.toNatClampNeg (none : Option Nat)).length, .inr (.inr (.inr (.inr (fun j => ((List.replicate n.toNatClampNeg (none : Option Nat)).getD j none).map (xad b base)))))))
    rw [e1, hcA, vp_cell_q, List.length_replicate]
    congr 2
    funext j
    have : (List.replicate n.toNatClampNeg (none : Option Nat)).getD j none = none := by
      rw [List.getD_eq_getElem?_getD, List.getElem?_replicate]
      split <;> rfl
    rw [this]
    rfl
  show W p l e R s m args below meth c H1 locs (cells + 1) (slots + n.toNatClampNeg) QQ (F0 m (pc + 3) ls (.ref H.size :: st.map (xv b base)))
  rw [e2]
  exact k D tys b base p l e R s m args below meth c C H1 locs (cells + 1) (slots + n.toNatClampNeg) ls QQ hl (hR.push z1 o1 hat) ⟨Nat.le_trans hS.1 (by omega), fun x h1 h2 => (o1 x (Nat.lt_of_lt_of_le h1 hS.1)).trans (hS.2.1 x h1 h2), hS.2.2⟩ (by omega) (by omega) hf hlo K
end XH
end
section
/-! calls -/
theorem xPre_blind {sc : List Int32} {D : va_G} {tys : xTs} {b base : Nat} {av : List Value} {h : xH} : FrameBlind (xPre sc D tys b base av h) := by
  intro a U g mk q
  obtain ⟨q0, q1, q2, q3, q4, q5⟩ := q
  exact ⟨q0, q1, va_K.moved (u := U) (U := U.calling g mk a) (Vm.Alike.refl U.vm) q2, q3, va_X.moved (u := U) (U := U.calling g mk a) (Vm.Alike.refl U.vm) q4, q5⟩
theorem xPre_at {sc : List Int32} {μ : xM} {D : va_G} {tys : xTs} {b base : Nat} {p : Program} {s : State} {m : MethodId} {args : Array Value} {meth : Method} {c : Code} {h : xH} {H : Heap} {locs : List Loc} (C : xCx sc μ D tys b base p s m args meth c) (hR : xR tys D b base h H) (hS : va_S (fun q => base < q) s.heap H locs) (av : List Value) : ∀ U : State, U.heap = H → s.WarmedH U.vm → xPre sc D tys b base av h (av.map (xv b base)).toArray U := by
  intro U hU hW
  obtain ⟨-, -, -, -, -, hK, hty, -, -, -, hbs, hX, hbb⟩ := C
  refine ⟨rfl, by rw [hU]; exact hR, va_K.moved hW.alike hK, hty, ?_, hbb⟩
  rw [hU]
  exact va_X.moved hW.alike (hX.kept (hS.2.1 b (by omega) (by show ¬ base < b; omega)))
theorem xT_code {μ : xM} (h : xCw μ) : GoodIn xT (Cond.code μ.2.1 μ.2.2.1 μ.2.2.2.1 μ.2.2.2.2 :: xT) := by
  intro w hw
  rcases List.mem_cons.mp hw with rfl | hw
  · exact xT_good _ h.1
  · exact xT_good _ hw
theorem xrun {D : va_G} {tys : xTs} {b base : Nat} {p : Program} {l : Launch} {e : Env} {R : Room} {s : State} {m : MethodId} {args : Array Value} {below : List Frame} {meth : Method} {c : Code} {H : Heap} {locs : List Loc} {cells slots mc ms pc : Nat} {ls : Array Slot} {st0 rest : List Value} {QQ : State → Prop} {Qn : Option Value → xH → Prop} {a : Array Value}
    (hr : va_Run p l e R s m args below meth c H locs cells slots mc ms (F0 m pc ls st0) (rest.map (xv b base)) (xPost D tys b base Qn a) (fun q => base < q)) (hS : va_S (fun q => base < q) s.heap H locs)
    (k : ∀ (v : Option Value) (h' : xH) (H' : Heap) (locs' : List Loc), Qn v h' → xR tys D b base h' H' → va_S (fun q => base < q) s.heap H' locs' → W p l e R s m args below meth c H' locs' (cells + mc) (slots + ms) QQ (F0 m (pc + 3) ls ((v.toList ++ rest).map (xv b base)))) : W p l e R s m args below meth c H locs cells slots QQ (F0 m pc ls st0) := by
  intro T hT X
  obtain ⟨v, st₀, t, T', L, h0, X', hL, e1, e2, ⟨⟨w, h', hq, hv, hR'⟩, hz, hk⟩, st⟩ := hr T hT X
  have hv' : v = w.map (xv b base) := by cases hv; rfl
  subst hv'
  rw [h0] at hz hk
  have hfr : (w.map (xv b base)).toList ++ rest.map (xv b base) = (w.toList ++ rest).map (xv b base) := by cases w <;> rfl
  obtain ⟨t2, a1, b1⟩ := k w h' T'.heap (locs ++ L) hq (by rw [e1]; exact hR') ⟨Nat.le_trans hS.1 (by rw [e1]; exact hz), fun q h1 h2 => by rw [e1, hk q (Nat.lt_of_lt_of_le h1 hS.1) h2]; exact hS.2.1 q h1 h2, fun q hq => by
      rcases List.mem_append.mp hq with h | h
      · exact hS.2.2 q h
      · exact hL q h⟩ T' rfl X'
  rw [← hfr] at a1
  exact ⟨t2, st t2 a1, b1⟩
/-- a call's place in the constant pool; of a nest mate -/
def xLk (own : String) (index : Nat) (ν : xM) (n : Nat) : Prop := xCw ν ∧ Cond.methodLink own index ν.2.1 ∈ xT ∧ (parseMethodDescriptor ν.2.1.desc).map (fun d => d.parameters.length) = some n
def xLn (own : String) (index : Nat) (host : String) (ν : xM) (n : Nat) : Prop := xCw ν ∧ Cond.methodLinkNest own index ν.2.1 host ∈ xT ∧ (parseMethodDescriptor ν.2.1.desc).map (fun d => d.parameters.length) = some n
/-- an instance method, of the class that the worlds number ci -/
def xIn (ν : xM) (ci : Nat) : Prop := Cond.instanceMethod ν.2.1 ∈ xT ∧ Cond.selects ν.2.1.cls ν.2.1 ν.2.1 ∈ xT ∧ ∃ q : vw_C, vwCl[ci]? = some q ∧ q.1 = ν.2.1.cls
theorem xsig {y : MethodName} {n : Nat} (h : (parseMethodDescriptor y.desc).map (fun d => d.parameters.length) = some n) : ∀ sig, parseMethodDescriptor y.desc = some sig → n = sig.parameters.length := by
  intro sig hs
  rw [hs] at h
  exact (Option.some.inj h).symm
section XC
variable {sc : List Int32} {μ ν : xM} {d kc ks pc d' kc' ks' : Nat} {lv : List (Option Value)} {st stk As : List Value} {h : xH} {Q Qn : Option Value → xH → Prop} {index a ci n : Nat} {fs : List Value}
theorem xw_V (hL : xLk μ.1 index ν n) (hI : xIn ν ci) (hd : decode μ.2.2.1 pc = .ok (.invokevirtual index, 3)) (hM : xMet sc ν d' kc' ks' (.ref a :: As) h Qn) (hdd : d' + 1 ≤ d) (ha : h.2 a = some (.inr (ci, fs))) (hn : As.length = n) (hk : stk = As.reverse ++ .ref a :: st) (hst : (st.map fun v => v.category).sum ≤ 8) (k : ∀ v h', Qn v h' → xW sc μ d kc ks (pc + 3) lv (v.toList ++ st) h' Q) : xW sc μ d (kc' + kc) (ks' + ks) pc lv stk h Q := by
  intro D tys b base p l e R s m args below meth c C H locs cells slots ls QQ hl hR hS hc hs hf hlo K
  obtain ⟨hw, hlk, hsg⟩ := hL
  obtain ⟨hin, hse, q, hq, hqn⟩ := hI
  have hts := C.2.2.2.2.1
  have hlo' : 40 * d ≤ R.locals := hlo
  have hml := hw.2.2.2.2.2
  obtain ⟨a0, hat⟩ := hR.2 a _ ha
  have hrec := va_recv (D := D) C.2.2.2.2.2.1 (xP1 hat) hq (q0 := 0) rfl
  rw [← xad_pos (b := b) a0, hqn] at hrec
  refine xrun (rest := st) (va_runV (As := As.map (xv b base)) (b := xad b base a) ⟨C.1, C.2.1, C.2.2.1, C.2.2.2.1, hts⟩ (hM l D tys b base) ⟨⟨rfl, rfl, by show d' + 1 ≤ R.frames; omega, by show 8 + (ν.2.2.2.1 + 11) + 40 * d' ≤ R.locals; omega, pay_in hts (xT_code hw), List.mem_cons_self, hts _ hw.1, hts _ hw.2.1, hw.2.2.1, xsig hsg, hts _ hlk⟩, hts _ hin, hts _ hse⟩ ⟨xPre_blind, hrec, xPre_at C hR hS (.ref a :: As)⟩ rfl (by rw [List.length_map]; exact hn) (hl.1.1.1.trans (hl.2)) (by show stk.map (xv b base) = _; rw [hk, List.map_append, List.map_reverse]; rfl) (lv_room (by rw [xv_sum]; exact hst)) hd ⟨by omega, by omega⟩) hS ?_
  intro v h' H' locs' hq' hR' hS'
  exact k v h' hq' D tys b base p l e R s m args below meth c C H' locs' (cells + kc') (slots + ks') ls QQ hl hR' hS' (by omega) (by omega) hf hlo K
theorem xw_VN {host : String} (hL : xLn μ.1 index host ν n) (hI : xIn ν ci) (hd : decode μ.2.2.1 pc = .ok (.invokevirtual index, 3)) (hM : xMet sc ν d' kc' ks' (.ref a :: As) h Qn) (hdd : d' + 1 ≤ d) (ha : h.2 a = some (.inr (ci, fs))) (hn : As.length = n) (hk : stk = As.reverse ++ .ref a :: st) (hst : (st.map fun v => v.category).sum ≤ 8) (k : ∀ v h', Qn v h' → xW sc μ d kc ks (pc + 3) lv (v.toList ++ st) h' Q) : xW sc μ d (kc' + kc) (ks' + ks) pc lv stk h Q := by
  intro D tys b base p l e R s m args below meth c C H locs cells slots ls QQ hl hR hS hc hs hf hlo K
  obtain ⟨hw, hlk, hsg⟩ := hL
  obtain ⟨hin, hse, q, hq, hqn⟩ := hI
  have hts := C.2.2.2.2.1
  have hlo' : 40 * d ≤ R.locals := hlo
  have hml := hw.2.2.2.2.2
  obtain ⟨a0, hat⟩ := hR.2 a _ ha
  have hrec := va_recv (D := D) C.2.2.2.2.2.1 (xP1 hat) hq (q0 := 0) rfl
  rw [← xad_pos (b := b) a0, hqn] at hrec
  refine xrun (rest := st) (va_runVN (As := As.map (xv b base)) (b := xad b base a) ⟨C.1, C.2.1, C.2.2.1, C.2.2.2.1, hts⟩ (hM l D tys b base) ⟨⟨⟨rfl, rfl, by show d' + 1 ≤ R.frames; omega, by show 8 + (ν.2.2.2.1 + 11) + 40 * d' ≤ R.locals; omega, pay_in hts (xT_code hw), List.mem_cons_self⟩, hts _ hw.1, hts _ hw.2.1, hw.2.2.1, xsig hsg, hts _ hlk⟩, hts _ hin, hts _ hse⟩ ⟨xPre_blind, hrec, xPre_at C hR hS (.ref a :: As)⟩ rfl (by rw [List.length_map]; exact hn) (hl.1.1.1.trans (hl.2)) (by show stk.map (xv b base) = _; rw [hk, List.map_append, List.map_reverse]; rfl) (lv_room (by rw [xv_sum]; exact hst)) hd ⟨by omega, by omega⟩) hS ?_
  intro v h' H' locs' hq' hR' hS'
  exact k v h' hq' D tys b base p l e R s m args below meth c C H' locs' (cells + kc') (slots + ks') ls QQ hl hR' hS' (by omega) (by omega) hf hlo K
theorem xw_S (hL : xLk μ.1 index ν n) (hI : Cond.static ν.2.1 ∈ xT) (hd : decode μ.2.2.1 pc = .ok (.invokestatic index, 3)) (hM : xMet sc ν d' kc' ks' As h Qn) (hdd : d' + 1 ≤ d) (hn : As.length = n) (hk : stk = As.reverse ++ st) (hst : (st.map fun v => v.category).sum ≤ 8) (k : ∀ v h', Qn v h' → xW sc μ d kc ks (pc + 3) lv (v.toList ++ st) h' Q) : xW sc μ d (kc' + kc) (ks' + ks) pc lv stk h Q := by
  intro D tys b base p l e R s m args below meth c C H locs cells slots ls QQ hl hR hS hc hs hf hlo K
  obtain ⟨hw, hlk, hsg⟩ := hL
  have hts := C.2.2.2.2.1
  have hlo' : 40 * d ≤ R.locals := hlo
  have hml := hw.2.2.2.2.2
  refine xrun (rest := st) (va_runS (As := As.map (xv b base)) ⟨C.1, C.2.1, C.2.2.1, C.2.2.2.1, hts⟩ (hM l D tys b base) ⟨⟨rfl, rfl, by show d' + 1 ≤ R.frames; omega, by show 8 + (ν.2.2.2.1 + 11) + 40 * d' ≤ R.locals; omega, pay_in hts (xT_code hw), List.mem_cons_self, hts _ hw.1, hts _ hw.2.1, hw.2.2.1, xsig hsg, hts _ hlk⟩, hts _ hI⟩ ⟨xPre_blind, xPre_at C hR hS As⟩ rfl (by rw [List.length_map]; exact hn) (hl.1.1.1.trans (hl.2)) (by show stk.map (xv b base) = _; rw [hk, List.map_append, List.map_reverse]) (lv_room (by rw [xv_sum]; exact hst)) hd ⟨by omega, by omega⟩) hS ?_
  intro v h' H' locs' hq' hR' hS'
  exact k v h' hq' D tys b base p l e R s m args below meth c C H' locs' (cells + kc') (slots + ks') ls QQ hl hR' hS' (by omega) (by omega) hf hlo K
theorem xw_SN {host : String} (hL : xLn μ.1 index host ν n) (hI : Cond.static ν.2.1 ∈ xT) (hd : decode μ.2.2.1 pc = .ok (.invokestatic index, 3)) (hM : xMet sc ν d' kc' ks' As h Qn) (hdd : d' + 1 ≤ d) (hn : As.length = n) (hk : stk = As.reverse ++ st) (hst : (st.map fun v => v.category).sum ≤ 8) (k : ∀ v h', Qn v h' → xW sc μ d kc ks (pc + 3) lv (v.toList ++ st) h' Q) : xW sc μ d (kc' + kc) (ks' + ks) pc lv stk h Q := by
  intro D tys b base p l e R s m args below meth c C H locs cells slots ls QQ hl hR hS hc hs hf hlo K
  obtain ⟨hw, hlk, hsg⟩ := hL
  have hts := C.2.2.2.2.1
  have hlo' : 40 * d ≤ R.locals := hlo
  have hml := hw.2.2.2.2.2
  refine xrun (rest := st) (va_runSN (As := As.map (xv b base)) ⟨C.1, C.2.1, C.2.2.1, C.2.2.2.1, hts⟩ (hM l D tys b base) ⟨⟨⟨rfl, rfl, by show d' + 1 ≤ R.frames; omega, by show 8 + (ν.2.2.2.1 + 11) + 40 * d' ≤ R.locals; omega, pay_in hts (xT_code hw), List.mem_cons_self⟩, hts _ hw.1, hts _ hw.2.1, hw.2.2.1, xsig hsg, hts _ hlk⟩, hts _ hI, trivial⟩ ⟨xPre_blind, xPre_at C hR hS As⟩ rfl (by rw [List.length_map]; exact hn) (hl.1.1.1.trans (hl.2)) (by show stk.map (xv b base) = _; rw [hk, List.map_append, List.map_reverse]) (lv_room (by rw [xv_sum]; exact hst)) hd ⟨by omega, by omega⟩) hS ?_
  intro v h' H' locs' hq' hR' hS'
  exact k v h' hq' D tys b base p l e R s m args below meth c C H' locs' (cells + kc') (slots + ks') ls QQ hl hR' hS' (by omega) (by omega) hf hlo K
theorem xw_I (hL : xLk μ.1 index ν n) (hr : ν.2.2.2.2 = none) (hy1 : ν.2.1.name = "<init>") (hI : Cond.instanceMethod ν.2.1 ∈ xT) (hd : decode μ.2.2.1 pc = .ok (.invokespecial index, 3)) (hM : xMet sc ν d' kc' ks' (.ref a :: As) h Qn) (hdd : d' + 1 ≤ d) (hn : As.length = n) (hk : stk = As.reverse ++ .ref a :: st) (hst : (st.map fun v => v.category).sum ≤ 8) (k : ∀ v h', Qn v h' → xW sc μ d kc ks (pc + 3) lv (v.toList ++ st) h' Q) : xW sc μ d (kc' + kc) (ks' + ks) pc lv stk h Q := by
  intro D tys b base p l e R s m args below meth c C H locs cells slots ls QQ hl hR hS hc hs hf hlo K
  obtain ⟨hw, hlk, hsg⟩ := hL
  have hts := C.2.2.2.2.1
  have hlo' : 40 * d ≤ R.locals := hlo
  have hml := hw.2.2.2.2.2
  have hM' := hM l D tys b base
  have hcw := xT_code hw
  have hcd := hts _ hw.1
  rw [hr] at hM' hcw hcd
  refine xrun (rest := st) (va_runI (As := As.map (xv b base)) (b := xad b base a) ⟨C.1, C.2.1, C.2.2.1, C.2.2.2.1, hts⟩ hM' ⟨⟨rfl, rfl, by show d' + 1 ≤ R.frames; omega, by show 8 + (ν.2.2.2.1 + 11) + 40 * d' ≤ R.locals; omega, pay_in hts hcw, List.mem_cons_self, hcd, hts _ hw.2.1, hw.2.2.1, xsig hsg, hts _ hlk⟩, hy1, hts _ hI⟩ ⟨xPre_blind, xPre_at C hR hS (.ref a :: As)⟩ rfl (by rw [List.length_map]; exact hn) (hl.1.1.1.trans (hl.2)) (by show stk.map (xv b base) = _; rw [hk, List.map_append, List.map_reverse]; rfl) (lv_room (by rw [xv_sum]; exact hst)) hd ⟨by omega, by omega⟩) hS ?_
  intro v h' H' locs' hq' hR' hS'
  exact k v h' hq' D tys b base p l e R s m args below meth c C H' locs' (cells + kc') (slots + ks') ls QQ hl hR' hS' (by omega) (by omega) hf hlo K
theorem xw_IN {host : String} (hL : xLn μ.1 index host ν n) (hr : ν.2.2.2.2 = none) (hy1 : ν.2.1.name = "<init>") (hI : Cond.instanceMethod ν.2.1 ∈ xT) (hd : decode μ.2.2.1 pc = .ok (.invokespecial index, 3)) (hM : xMet sc ν d' kc' ks' (.ref a :: As) h Qn) (hdd : d' + 1 ≤ d) (hn : As.length = n) (hk : stk = As.reverse ++ .ref a :: st) (hst : (st.map fun v => v.category).sum ≤ 8) (k : ∀ v h', Qn v h' → xW sc μ d kc ks (pc + 3) lv (v.toList ++ st) h' Q) : xW sc μ d (kc' + kc) (ks' + ks) pc lv stk h Q := by
  intro D tys b base p l e R s m args below meth c C H locs cells slots ls QQ hl hR hS hc hs hf hlo K
  obtain ⟨hw, hlk, hsg⟩ := hL
  have hts := C.2.2.2.2.1
  have hlo' : 40 * d ≤ R.locals := hlo
  have hml := hw.2.2.2.2.2
  have hM' := hM l D tys b base
  have hcw := xT_code hw
  have hcd := hts _ hw.1
  rw [hr] at hM' hcw hcd
  refine xrun (rest := st) (va_runIN (As := As.map (xv b base)) (b := xad b base a) ⟨C.1, C.2.1, C.2.2.1, C.2.2.2.1, hts⟩ hM' ⟨⟨⟨rfl, rfl, by show d' + 1 ≤ R.frames; omega, by show 8 + (ν.2.2.2.1 + 11) + 40 * d' ≤ R.locals; omega, pay_in hts hcw, List.mem_cons_self⟩, hcd, hts _ hw.2.1, hw.2.2.1, xsig hsg, hts _ hlk⟩, hy1, hts _ hI⟩ ⟨xPre_blind, xPre_at C hR hS (.ref a :: As)⟩ rfl (by rw [List.length_map]; exact hn) (hl.1.1.1.trans (hl.2)) (by show stk.map (xv b base) = _; rw [hk, List.map_append, List.map_reverse]; rfl) (lv_room (by rw [xv_sum]; exact hst)) hd ⟨by omega, by omega⟩) hS ?_
  intro v h' H' locs' hq' hR' hS'
  exact k v h' hq' D tys b base p l e R s m args below meth c C H' locs' (cells + kc') (slots + ks') ls QQ hl hR' hS' (by omega) (by omega) hf hlo K
/-- Object() -/
def xOi (own : String) (index : Nat) : Prop := Cond.methodLink own index Lib.objectInit ∈ xT ∧ Cond.instanceMethod Lib.objectInit ∈ xT ∧ Cond.code Lib.objectInit ⟨#[0xb1]⟩ 1 none ∈ xT
theorem xw_obj (hO : xOi μ.1 index) (hd : decode μ.2.2.1 pc = .ok (.invokespecial index, 3)) (hdd : 1 ≤ d) (hst : (st.map fun v => v.category).sum ≤ 8) (k : xW sc μ d kc ks (pc + 3) lv st h Q) : xW sc μ d kc ks pc lv (.ref a :: st) h Q := by
  intro D tys b base p l e R s m args below meth c C H locs cells slots ls QQ hl hR hS hc hs hf hlo K
  obtain ⟨h1, h2, h3⟩ := hO
  have hts := C.2.2.2.2.1
  have hlo' : 40 * d ≤ R.locals := hlo
  exact W.objInit C.1 C.2.1 C.2.2.2.1 (hts _ h1) (hts _ h2) (hts _ h3) rfl ((hl.1.1.1.trans hl.2).trans C.2.2.1.symm) (a := xad b base a) (rest := st.map (xv b base)) rfl hd (by omega) (by have := lv_room (m := m) (pc := pc) (ls := ls) (rest := []) (st := st.map (xv b base)) (by rw [xv_sum]; exact hst); show 2 * (F0 m pc ls []).monitorRoom + _ + 12 ≤ _; omega) (k D tys b base p l e R s m args below meth c C H locs cells slots ls QQ hl hR hS hc hs hf hlo K)
/-- Math.max, Math.min -/
def xMx (own : String) (index : Nat) : Prop := Cond.methodLink own index Lib.Math.max.name ∈ xT ∧ Cond.static Lib.Math.max.name ∈ xT ∧ Cond.initialized "java/lang/Math" ∈ xT ∧ Cond.code Lib.Math.max.name Lib.Math.max.code 2 (some .int) ∈ xT
def xMn (own : String) (index : Nat) : Prop := Cond.methodLink own index Lib.Math.min.name ∈ xT ∧ Cond.static Lib.Math.min.name ∈ xT ∧ Cond.initialized "java/lang/Math" ∈ xT ∧ Cond.code Lib.Math.min.name Lib.Math.min.code 2 (some .int) ∈ xT
theorem xw_max {x y : Int32} (hO : xMx μ.1 index) (hd : decode μ.2.2.1 pc = .ok (.invokestatic index, 3)) (hdd : 1 ≤ d) (hst : (st.map fun v => v.category).sum ≤ 8) (k : xW sc μ d kc ks (pc + 3) lv (.int (if x < y then y else x) :: st) h Q) : xW sc μ d kc ks pc lv (.int y :: .int x :: st) h Q := by
  intro D tys b base p l e R s m args below meth c C H locs cells slots ls QQ hl hR hS hc hs hf hlo K
  obtain ⟨h1, h2, h3, h4⟩ := hO
  have hts := C.2.2.2.2.1
  have hlo' : 40 * d ≤ R.locals := hlo
  exact va_mmax C.1 C.2.1 (C.2.2.1.trans (hl.1.1.1.trans hl.2).symm) C.2.2.2.1 (hts _ h1) (hts _ h2) (hts _ h3) (hts _ h4) (by omega) (by rw [xv_sum]; omega) (by omega) (by omega) hd (k D tys b base p l e R s m args below meth c C H locs cells slots ls QQ hl hR hS hc hs hf hlo K)
theorem xw_min {x y : Int32} (hO : xMn μ.1 index) (hd : decode μ.2.2.1 pc = .ok (.invokestatic index, 3)) (hdd : 1 ≤ d) (hst : (st.map fun v => v.category).sum ≤ 8) (k : xW sc μ d kc ks (pc + 3) lv (.int (if y < x then y else x) :: st) h Q) : xW sc μ d kc ks pc lv (.int y :: .int x :: st) h Q := by
  intro D tys b base p l e R s m args below meth c C H locs cells slots ls QQ hl hR hS hc hs hf hlo K
  obtain ⟨h1, h2, h3, h4⟩ := hO
  have hts := C.2.2.2.2.1
  have hlo' : 40 * d ≤ R.locals := hlo
  exact va_mmin C.1 C.2.1 (C.2.2.1.trans (hl.1.1.1.trans hl.2).symm) C.2.2.2.1 (hts _ h1) (hts _ h2) (hts _ h3) (hts _ h4) (by omega) (by rw [xv_sum]; omega) (by omega) (by omega) hd (k D tys b base p l e R s m args below meth c C H locs cells slots ls QQ hl hR hS hc hs hf hlo K)
theorem xw_ldc {v : Int32} (hO : Cond.constant μ.1 index v ∈ xT) (hd : decode μ.2.2.1 pc = .ok (.ldc index, 2)) (k : xW sc μ d kc ks (pc + 2) lv (.int v :: st) h Q) : xW sc μ d kc ks pc lv st h Q := by
  intro D tys b base p l e R s m args below meth c C H locs cells slots ls QQ hl hR hS hc hs hf hlo K
  exact lv_ldc C.1 C.2.1 C.2.2.2.1 (C.2.2.2.2.1 _ hO) hd (k D tys b base p l e R s m args below meth c C H locs cells slots ls QQ hl hR hS hc hs hf hlo K)
end XC
/-! calls that make nothing, by the number of their arguments -/
section XC0
variable {sc : List Int32} {μ ν : xM} {d kc ks pc d' : Nat} {lv : List (Option Value)} {st : List Value} {h : xH} {Q Qn : Option Value → xH → Prop} {index a ci : Nat} {fs : List Value} {x1 x2 x3 x4 x5 : Value}
theorem xW.z (k : xW sc μ d (0 + kc) (0 + ks) pc lv st h Q) : xW sc μ d kc ks pc lv st h Q := by rw [Nat.zero_add, Nat.zero_add] at k; exact k
theorem xw_V0 (hL : xLk μ.1 index ν 0) (hI : xIn ν ci) (hd : decode μ.2.2.1 pc = .ok (.invokevirtual index, 3)) (hM : xMet sc ν d' 0 0 [.ref a] h Qn) (hdd : d' + 1 ≤ d) (ha : h.2 a = some (.inr (ci, fs))) (hst : (st.map fun v => v.category).sum ≤ 8) (k : ∀ v h', Qn v h' → xW sc μ d kc ks (pc + 3) lv (v.toList ++ st) h' Q) : xW sc μ d kc ks pc lv (.ref a :: st) h Q :=
  xW.z (xw_V (As := []) hL hI hd hM hdd ha rfl rfl hst k)
theorem xw_VN0 {host : String} (hL : xLn μ.1 index host ν 0) (hI : xIn ν ci) (hd : decode μ.2.2.1 pc = .ok (.invokevirtual index, 3)) (hM : xMet sc ν d' 0 0 [.ref a] h Qn) (hdd : d' + 1 ≤ d) (ha : h.2 a = some (.inr (ci, fs))) (hst : (st.map fun v => v.category).sum ≤ 8) (k : ∀ v h', Qn v h' → xW sc μ d kc ks (pc + 3) lv (v.toList ++ st) h' Q) : xW sc μ d kc ks pc lv (.ref a :: st) h Q :=
  xW.z (xw_VN (As := []) hL hI hd hM hdd ha rfl rfl hst k)
theorem xw_S0 (hL : xLk μ.1 index ν 0) (hI : Cond.static ν.2.1 ∈ xT) (hd : decode μ.2.2.1 pc = .ok (.invokestatic index, 3)) (hM : xMet sc ν d' 0 0 [] h Qn) (hdd : d' + 1 ≤ d) (hst : (st.map fun v => v.category).sum ≤ 8) (k : ∀ v h', Qn v h' → xW sc μ d kc ks (pc + 3) lv (v.toList ++ st) h' Q) : xW sc μ d kc ks pc lv (st) h Q :=
  xW.z (xw_S (As := []) hL hI hd hM hdd rfl rfl hst k)
theorem xw_SN0 {host : String} (hL : xLn μ.1 index host ν 0) (hI : Cond.static ν.2.1 ∈ xT) (hd : decode μ.2.2.1 pc = .ok (.invokestatic index, 3)) (hM : xMet sc ν d' 0 0 [] h Qn) (hdd : d' + 1 ≤ d) (hst : (st.map fun v => v.category).sum ≤ 8) (k : ∀ v h', Qn v h' → xW sc μ d kc ks (pc + 3) lv (v.toList ++ st) h' Q) : xW sc μ d kc ks pc lv (st) h Q :=
  xW.z (xw_SN (As := []) hL hI hd hM hdd rfl rfl hst k)
theorem xw_V1 (hL : xLk μ.1 index ν 1) (hI : xIn ν ci) (hd : decode μ.2.2.1 pc = .ok (.invokevirtual index, 3)) (hM : xMet sc ν d' 0 0 [.ref a, x1] h Qn) (hdd : d' + 1 ≤ d) (ha : h.2 a = some (.inr (ci, fs))) (hst : (st.map fun v => v.category).sum ≤ 8) (k : ∀ v h', Qn v h' → xW sc μ d kc ks (pc + 3) lv (v.toList ++ st) h' Q) : xW sc μ d kc ks pc lv (x1 :: .ref a :: st) h Q :=
  xW.z (xw_V (As := [x1]) hL hI hd hM hdd ha rfl rfl hst k)
theorem xw_VN1 {host : String} (hL : xLn μ.1 index host ν 1) (hI : xIn ν ci) (hd : decode μ.2.2.1 pc = .ok (.invokevirtual index, 3)) (hM : xMet sc ν d' 0 0 [.ref a, x1] h Qn) (hdd : d' + 1 ≤ d) (ha : h.2 a = some (.inr (ci, fs))) (hst : (st.map fun v => v.category).sum ≤ 8) (k : ∀ v h', Qn v h' → xW sc μ d kc ks (pc + 3) lv (v.toList ++ st) h' Q) : xW sc μ d kc ks pc lv (x1 :: .ref a :: st) h Q :=
  xW.z (xw_VN (As := [x1]) hL hI hd hM hdd ha rfl rfl hst k)
theorem xw_S1 (hL : xLk μ.1 index ν 1) (hI : Cond.static ν.2.1 ∈ xT) (hd : decode μ.2.2.1 pc = .ok (.invokestatic index, 3)) (hM : xMet sc ν d' 0 0 [x1] h Qn) (hdd : d' + 1 ≤ d) (hst : (st.map fun v => v.category).sum ≤ 8) (k : ∀ v h', Qn v h' → xW sc μ d kc ks (pc + 3) lv (v.toList ++ st) h' Q) : xW sc μ d kc ks pc lv (x1 :: st) h Q :=
  xW.z (xw_S (As := [x1]) hL hI hd hM hdd rfl rfl hst k)
theorem xw_SN1 {host : String} (hL : xLn μ.1 index host ν 1) (hI : Cond.static ν.2.1 ∈ xT) (hd : decode μ.2.2.1 pc = .ok (.invokestatic index, 3)) (hM : xMet sc ν d' 0 0 [x1] h Qn) (hdd : d' + 1 ≤ d) (hst : (st.map fun v => v.category).sum ≤ 8) (k : ∀ v h', Qn v h' → xW sc μ d kc ks (pc + 3) lv (v.toList ++ st) h' Q) : xW sc μ d kc ks pc lv (x1 :: st) h Q :=
  xW.z (xw_SN (As := [x1]) hL hI hd hM hdd rfl rfl hst k)
theorem xw_V2 (hL : xLk μ.1 index ν 2) (hI : xIn ν ci) (hd : decode μ.2.2.1 pc = .ok (.invokevirtual index, 3)) (hM : xMet sc ν d' 0 0 [.ref a, x1, x2] h Qn) (hdd : d' + 1 ≤ d) (ha : h.2 a = some (.inr (ci, fs))) (hst : (st.map fun v => v.category).sum ≤ 8) (k : ∀ v h', Qn v h' → xW sc μ d kc ks (pc + 3) lv (v.toList ++ st) h' Q) : xW sc μ d kc ks pc lv (x2 :: x1 :: .ref a :: st) h Q :=
  xW.z (xw_V (As := [x1, x2]) hL hI hd hM hdd ha rfl rfl hst k)
theorem xw_VN2 {host : String} (hL : xLn μ.1 index host ν 2) (hI : xIn ν ci) (hd : decode μ.2.2.1 pc = .ok (.invokevirtual index, 3)) (hM : xMet sc ν d' 0 0 [.ref a, x1, x2] h Qn) (hdd : d' + 1 ≤ d) (ha : h.2 a = some (.inr (ci, fs))) (hst : (st.map fun v => v.category).sum ≤ 8) (k : ∀ v h', Qn v h' → xW sc μ d kc ks (pc + 3) lv (v.toList ++ st) h' Q) : xW sc μ d kc ks pc lv (x2 :: x1 :: .ref a :: st) h Q :=
  xW.z (xw_VN (As := [x1, x2]) hL hI hd hM hdd ha rfl rfl hst k)
theorem xw_S2 (hL : xLk μ.1 index ν 2) (hI : Cond.static ν.2.1 ∈ xT) (hd : decode μ.2.2.1 pc = .ok (.invokestatic index, 3)) (hM : xMet sc ν d' 0 0 [x1, x2] h Qn) (hdd : d' + 1 ≤ d) (hst : (st.map fun v => v.category).sum ≤ 8) (k : ∀ v h', Qn v h' → xW sc μ d kc ks (pc + 3) lv (v.toList ++ st) h' Q) : xW sc μ d kc ks pc lv (x2 :: x1 :: st) h Q :=
  xW.z (xw_S (As := [x1, x2]) hL hI hd hM hdd rfl rfl hst k)
theorem xw_SN2 {host : String} (hL : xLn μ.1 index host ν 2) (hI : Cond.static ν.2.1 ∈ xT) (hd : decode μ.2.2.1 pc = .ok (.invokestatic index, 3)) (hM : xMet sc ν d' 0 0 [x1, x2] h Qn) (hdd : d' + 1 ≤ d) (hst : (st.map fun v => v.category).sum ≤ 8) (k : ∀ v h', Qn v h' → xW sc μ d kc ks (pc + 3) lv (v.toList ++ st) h' Q) : xW sc μ d kc ks pc lv (x2 :: x1 :: st) h Q :=
  xW.z (xw_SN (As := [x1, x2]) hL hI hd hM hdd rfl rfl hst k)
theorem xw_V3 (hL : xLk μ.1 index ν 3) (hI : xIn ν ci) (hd : decode μ.2.2.1 pc = .ok (.invokevirtual index, 3)) (hM : xMet sc ν d' 0 0 [.ref a, x1, x2, x3] h Qn) (hdd : d' + 1 ≤ d) (ha : h.2 a = some (.inr (ci, fs))) (hst : (st.map fun v => v.category).sum ≤ 8) (k : ∀ v h', Qn v h' → xW sc μ d kc ks (pc + 3) lv (v.toList ++ st) h' Q) : xW sc μ d kc ks pc lv (x3 :: x2 :: x1 :: .ref a :: st) h Q :=
  xW.z (xw_V (As := [x1, x2, x3]) hL hI hd hM hdd ha rfl rfl hst k)
theorem xw_VN3 {host : String} (hL : xLn μ.1 index host ν 3) (hI : xIn ν ci) (hd : decode μ.2.2.1 pc = .ok (.invokevirtual index, 3)) (hM : xMet sc ν d' 0 0 [.ref a, x1, x2, x3] h Qn) (hdd : d' + 1 ≤ d) (ha : h.2 a = some (.inr (ci, fs))) (hst : (st.map fun v => v.category).sum ≤ 8) (k : ∀ v h', Qn v h' → xW sc μ d kc ks (pc + 3) lv (v.toList ++ st) h' Q) : xW sc μ d kc ks pc lv (x3 :: x2 :: x1 :: .ref a :: st) h Q :=
  xW.z (xw_VN (As := [x1, x2, x3]) hL hI hd hM hdd ha rfl rfl hst k)
theorem xw_S3 (hL : xLk μ.1 index ν 3) (hI : Cond.static ν.2.1 ∈ xT) (hd : decode μ.2.2.1 pc = .ok (.invokestatic index, 3)) (hM : xMet sc ν d' 0 0 [x1, x2, x3] h Qn) (hdd : d' + 1 ≤ d) (hst : (st.map fun v => v.category).sum ≤ 8) (k : ∀ v h', Qn v h' → xW sc μ d kc ks (pc + 3) lv (v.toList ++ st) h' Q) : xW sc μ d kc ks pc lv (x3 :: x2 :: x1 :: st) h Q :=
  xW.z (xw_S (As := [x1, x2, x3]) hL hI hd hM hdd rfl rfl hst k)
theorem xw_SN3 {host : String} (hL : xLn μ.1 index host ν 3) (hI : Cond.static ν.2.1 ∈ xT) (hd : decode μ.2.2.1 pc = .ok (.invokestatic index, 3)) (hM : xMet sc ν d' 0 0 [x1, x2, x3] h Qn) (hdd : d' + 1 ≤ d) (hst : (st.map fun v => v.category).sum ≤ 8) (k : ∀ v h', Qn v h' → xW sc μ d kc ks (pc + 3) lv (v.toList ++ st) h' Q) : xW sc μ d kc ks pc lv (x3 :: x2 :: x1 :: st) h Q :=
  xW.z (xw_SN (As := [x1, x2, x3]) hL hI hd hM hdd rfl rfl hst k)
theorem xw_V4 (hL : xLk μ.1 index ν 4) (hI : xIn ν ci) (hd : decode μ.2.2.1 pc = .ok (.invokevirtual index, 3)) (hM : xMet sc ν d' 0 0 [.ref a, x1, x2, x3, x4] h Qn) (hdd : d' + 1 ≤ d) (ha : h.2 a = some (.inr (ci, fs))) (hst : (st.map fun v => v.category).sum ≤ 8) (k : ∀ v h', Qn v h' → xW sc μ d kc ks (pc + 3) lv (v.toList ++ st) h' Q) : xW sc μ d kc ks pc lv (x4 :: x3 :: x2 :: x1 :: .ref a :: st) h Q :=
  xW.z (xw_V (As := [x1, x2, x3, x4]) hL hI hd hM hdd ha rfl rfl hst k)
theorem xw_VN4 {host : String} (hL : xLn μ.1 index host ν 4) (hI : xIn ν ci) (hd : decode μ.2.2.1 pc = .ok (.invokevirtual index, 3)) (hM : xMet sc ν d' 0 0 [.ref a, x1, x2, x3, x4] h Qn) (hdd : d' + 1 ≤ d) (ha : h.2 a = some (.inr (ci, fs))) (hst : (st.map fun v => v.category).sum ≤ 8) (k : ∀ v h', Qn v h' → xW sc μ d kc ks (pc + 3) lv (v.toList ++ st) h' Q) : xW sc μ d kc ks pc lv (x4 :: x3 :: x2 :: x1 :: .ref a :: st) h Q :=
  xW.z (xw_VN (As := [x1, x2, x3, x4]) hL hI hd hM hdd ha rfl rfl hst k)
theorem xw_S4 (hL : xLk μ.1 index ν 4) (hI : Cond.static ν.2.1 ∈ xT) (hd : decode μ.2.2.1 pc = .ok (.invokestatic index, 3)) (hM : xMet sc ν d' 0 0 [x1, x2, x3, x4] h Qn) (hdd : d' + 1 ≤ d) (hst : (st.map fun v => v.category).sum ≤ 8) (k : ∀ v h', Qn v h' → xW sc μ d kc ks (pc + 3) lv (v.toList ++ st) h' Q) : xW sc μ d kc ks pc lv (x4 :: x3 :: x2 :: x1 :: st) h Q :=
  xW.z (xw_S (As := [x1, x2, x3, x4]) hL hI hd hM hdd rfl rfl hst k)
theorem xw_SN4 {host : String} (hL : xLn μ.1 index host ν 4) (hI : Cond.static ν.2.1 ∈ xT) (hd : decode μ.2.2.1 pc = .ok (.invokestatic index, 3)) (hM : xMet sc ν d' 0 0 [x1, x2, x3, x4] h Qn) (hdd : d' + 1 ≤ d) (hst : (st.map fun v => v.category).sum ≤ 8) (k : ∀ v h', Qn v h' → xW sc μ d kc ks (pc + 3) lv (v.toList ++ st) h' Q) : xW sc μ d kc ks pc lv (x4 :: x3 :: x2 :: x1 :: st) h Q :=
  xW.z (xw_SN (As := [x1, x2, x3, x4]) hL hI hd hM hdd rfl rfl hst k)
theorem xw_V5 (hL : xLk μ.1 index ν 5) (hI : xIn ν ci) (hd : decode μ.2.2.1 pc = .ok (.invokevirtual index, 3)) (hM : xMet sc ν d' 0 0 [.ref a, x1, x2, x3, x4, x5] h Qn) (hdd : d' + 1 ≤ d) (ha : h.2 a = some (.inr (ci, fs))) (hst : (st.map fun v => v.category).sum ≤ 8) (k : ∀ v h', Qn v h' → xW sc μ d kc ks (pc + 3) lv (v.toList ++ st) h' Q) : xW sc μ d kc ks pc lv (x5 :: x4 :: x3 :: x2 :: x1 :: .ref a :: st) h Q :=
  xW.z (xw_V (As := [x1, x2, x3, x4, x5]) hL hI hd hM hdd ha rfl rfl hst k)
theorem xw_VN5 {host : String} (hL : xLn μ.1 index host ν 5) (hI : xIn ν ci) (hd : decode μ.2.2.1 pc = .ok (.invokevirtual index, 3)) (hM : xMet sc ν d' 0 0 [.ref a, x1, x2, x3, x4, x5] h Qn) (hdd : d' + 1 ≤ d) (ha : h.2 a = some (.inr (ci, fs))) (hst : (st.map fun v => v.category).sum ≤ 8) (k : ∀ v h', Qn v h' → xW sc μ d kc ks (pc + 3) lv (v.toList ++ st) h' Q) : xW sc μ d kc ks pc lv (x5 :: x4 :: x3 :: x2 :: x1 :: .ref a :: st) h Q :=
  xW.z (xw_VN (As := [x1, x2, x3, x4, x5]) hL hI hd hM hdd ha rfl rfl hst k)
theorem xw_S5 (hL : xLk μ.1 index ν 5) (hI : Cond.static ν.2.1 ∈ xT) (hd : decode μ.2.2.1 pc = .ok (.invokestatic index, 3)) (hM : xMet sc ν d' 0 0 [x1, x2, x3, x4, x5] h Qn) (hdd : d' + 1 ≤ d) (hst : (st.map fun v => v.category).sum ≤ 8) (k : ∀ v h', Qn v h' → xW sc μ d kc ks (pc + 3) lv (v.toList ++ st) h' Q) : xW sc μ d kc ks pc lv (x5 :: x4 :: x3 :: x2 :: x1 :: st) h Q :=
  xW.z (xw_S (As := [x1, x2, x3, x4, x5]) hL hI hd hM hdd rfl rfl hst k)
theorem xw_SN5 {host : String} (hL : xLn μ.1 index host ν 5) (hI : Cond.static ν.2.1 ∈ xT) (hd : decode μ.2.2.1 pc = .ok (.invokestatic index, 3)) (hM : xMet sc ν d' 0 0 [x1, x2, x3, x4, x5] h Qn) (hdd : d' + 1 ≤ d) (hst : (st.map fun v => v.category).sum ≤ 8) (k : ∀ v h', Qn v h' → xW sc μ d kc ks (pc + 3) lv (v.toList ++ st) h' Q) : xW sc μ d kc ks pc lv (x5 :: x4 :: x3 :: x2 :: x1 :: st) h Q :=
  xW.z (xw_SN (As := [x1, x2, x3, x4, x5]) hL hI hd hM hdd rfl rfl hst k)
end XC0
end
section
/-! System.arraycopy between arrays of ints -/
theorem arrV_cg {cI : ClassId} {N : Nat} {f g : Nat → Value} (h : ∀ j, j < N → f j = g j) : arrV cI N f = arrV cI N g := by
  unfold arrV
  congr 1
  apply Array.ext
  · simp
  · intro i h1 h2
    have hi : i < N := by simpa using h1
    simp [h i hi]
def xcp (l0 l1 : List Int32) (sp dp n : Nat) : List Int32 := (List.range l1.length).map (va_cpy (fun j => l0.getD j 0) (fun j => l1.getD j 0) sp dp n)
theorem xcp_all {l0 l1 : List Int32} {n : Nat} (h0 : l0.length = n) (h1 : l1.length = n) : xcp l0 l1 0 0 n = l0 := by
  apply List.ext_getElem
  · simp [xcp, h0, h1]
  · intro i h2 h3
    have hi : i < n := by omega
    simp [xcp, va_cpy, hi, List.getD_eq_getElem?_getD, h3]
def xAc (own : String) (index : Nat) : Prop := Cond.methodLink own index arraycopyName ∈ xT ∧ Cond.native arraycopyName ∈ xT ∧ Cond.static arraycopyName ∈ xT ∧ Cond.initialized "java/lang/System" ∈ xT
section XA
variable {sc : List Int32} {μ : xM} {d kc ks pc : Nat} {lv : List (Option Value)} {st : List Value} {h : xH} {Q : Option Value → xH → Prop}
theorem xw_copy {index t a0 a : Nat} {l0 l1 : List Int32} {sp dp n : Int32} (ht : xTys[t]? = some .int) (hO : xAc μ.1 index) (hd : decode μ.2.2.1 pc = .ok (.invokestatic index, 3)) (hdd : 1 ≤ d) (ha0 : h.2 a0 = some (.inl (t, .inl l0))) (ha : h.2 a = some (.inl (t, .inl l1))) (h1 : ¬ sp < 0) (h2 : ¬ dp < 0) (h3 : ¬ n < 0) (h4 : sp.toNatClampNeg + n.toNatClampNeg ≤ l0.length) (h5 : dp.toNatClampNeg + n.toNatClampNeg ≤ l1.length) (hst : (st.map fun v => v.category).sum ≤ 8)
    (k : xW sc μ d kc ks (pc + 3) lv st (xu h a (.inl (t, .inl (xcp l0 l1 sp.toNatClampNeg dp.toNatClampNeg n.toNatClampNeg)))) Q) : xW sc μ d kc ks pc lv (.int n :: .int dp :: .ref a :: .int sp :: .ref a0 :: st) h Q := by
  intro D tys b base p l e R s m args below meth c C H locs cells slots ls QQ hl hR hS hc hs hf hlo K
  obtain ⟨w1, w2, w3, w4⟩ := hO
  have hts := C.2.2.2.2.1
  have hlo' : 40 * d ≤ R.locals := hlo
  have hz := xty_at C.2.2.2.2.2.2.1 ht
  obtain ⟨p0, hat0⟩ := hR.2 a0 _ ha0
  obtain ⟨p1, hat1⟩ := hR.2 a _ ha
  have nn : ∀ z : Int32, ¬ z < 0 → z.toInt = (z.toNatClampNeg : Int) := by
    intro z hz
    have hz0 : (0 : Int) ≤ z.toInt := by
      have := Int32.not_lt.mp hz
      simpa using Int32.le_iff_toInt_le.mp this
    show z.toInt = ((z.toInt.toNat : Nat) : Int)
    omega
  show W p l e R s m args below meth c H locs cells slots QQ (F0 m pc ls (.int n :: .int dp :: .ref (xad b base a) :: .int sp :: .ref (xad b base a0) :: st.map (xv b base)))
  rw [xad_pos p0, xad_pos p1]
  intro T hT X
  have hc0 : H[base + a0]? = some (vp_cell (xcA tys t) (l0.length, .inl (fun j => l0.getD j 0))) := hat0
  have hc1 : H[base + a]? = some (vp_cell (xcA tys t) (l1.length, .inl (fun j => l1.getD j 0))) := hat1
  obtain ⟨-, k0, hk0, cm0, hkk0⟩ := (C.2.2.2.2.2.1.2 t _ hz).1 l0.length (fun j => .int (l0.getD j 0))
  obtain ⟨vm', X', step⟩ := X.arraycopy C.1 C.2.2.2.1 (hts _ w1) (hts _ w2) (hts _ w3) (hts _ w4) (src := base + a0) (dst := base + a) (cs := vp_cell (xcA tys t) (l0.length, .inl (fun j => l0.getD j 0))) (cd := vp_cell (xcA tys t) (l1.length, .inl (fun j => l1.getD j 0))) (srcPos := sp) (destPos := dp) (n := n) (by rw [hT]; exact hc0) (by rw [hT]; exact hc1)
    (fun _ h => by cases h) (fun _ h => by cases h) (fun h => by cases h) (fun h => by cases h) hk0 hk0 hkk0 hkk0 rfl h1 h2 h3
    (by rw [nn sp h1, nn n h3]; show ¬ _ > ((arrV (xcA tys t) l0.length (fun j => .int (l0.getD j 0))).slots.size : Int); rw [arrV_size]; omega)
    (by rw [nn dp h2, nn n h3]; show ¬ _ > ((arrV (xcA tys t) l1.length (fun j => .int (l1.getD j 0))).slots.size : Int); rw [arrV_size]; omega)
    (fun vm₁ _ i hi => by
      have e : (vp_cell (xcA tys t) (l0.length, .inl (fun j => l0.getD j 0))).slots.getD (sp.toNatClampNeg + i) .null = .int (l0.getD (sp.toNatClampNeg + i) 0) := by
        show (arrV (xcA tys t) l0.length (fun j => .int (l0.getD j 0))).slots.getD _ _ = _
        rw [Array.getD_eq_getD_getElem?, arrV_read _ _ (by omega)]
        rfl
      refine ⟨?_, ?_⟩
      · rw [e]
        rfl
      · rw [e]
        exact trivial)
    (g := F0 m pc ls (.int n :: .int dp :: .ref (base + a) :: .int sp :: .ref (base + a0) :: st.map (xv b base))) rfl ((hl.1.1.1.trans hl.2).trans C.2.2.1.symm) (rest := st.map (xv b base)) rfl (by rw [C.2.1]; exact hd) (by omega) (by rw [xv_sum]; show 2 * 0 + _ + (7 + 11) ≤ _; omega)
  have e1 : copied (vp_cell (xcA tys t) (l0.length, .inl (fun j => l0.getD j 0))) (vp_cell (xcA tys t) (l1.length, .inl (fun j => l1.getD j 0))) sp dp n = vp_cell (xcA tys t) ((xcp l0 l1 sp.toNatClampNeg dp.toNatClampNeg n.toNatClampNeg).length, .inl (fun j => (xcp l0 l1 sp.toNatClampNeg dp.toNatClampNeg n.toNatClampNeg).getD j 0)) := by
    refine (va_copied (fun z => .int z) (xcA tys t) (xcA tys t) (fun j => l0.getD j 0) (fun j => l1.getD j 0) h4).trans ?_
    have hlen : (xcp l0 l1 sp.toNatClampNeg dp.toNatClampNeg n.toNatClampNeg).length = l1.length := by simp [xcp]
    rw [vp_cell_i, hlen]
    apply arrV_cg
    intro j hj
    have : (xcp l0 l1 sp.toNatClampNeg dp.toNatClampNeg n.toNatClampNeg).getD j 0 = va_cpy (fun j => l0.getD j 0) (fun j => l1.getD j 0) sp.toNatClampNeg dp.toNatClampNeg n.toNatClampNeg j := by
      rw [List.getD_eq_getElem?_getD, xcp, List.getElem?_map, List.getElem?_range hj]
      rfl
    rw [this]
  rw [e1] at X' step
  have hlh : base + a < H.size := (Array.getElem?_eq_some_iff.mp hc1).1
  generalize hcell : vp_cell (xcA tys t) ((xcp l0 l1 sp.toNatClampNeg dp.toNatClampNeg n.toNatClampNeg).length, .inl (fun j => (xcp l0 l1 sp.toNatClampNeg dp.toNatClampNeg n.toNatClampNeg).getD j 0)) = cell at X' step
  have hheap : ((T.setVm vm').setCell (base + a) cell).heap = H.setIfInBounds (base + a) cell := by rw [← hT]; rfl
  have oq : ∀ q : Nat, q ≠ base + a → (H.setIfInBounds (base + a) cell)[q]? = H[q]? := fun q hq => by simp [Array.getElem?_setIfInBounds, Ne.symm hq]
  have hself : (H.setIfInBounds (base + a) cell)[base + a]? = some cell := by simp [Array.getElem?_setIfInBounds, hlh]
  obtain ⟨t', a1, b1⟩ := k D tys b base p l e R s m args below meth c C (H.setIfInBounds (base + a) cell) _ cells slots ls QQ hl (hR.set ha (by show (H.setIfInBounds (base + a) cell)[base + a]? = some (vp_cell _ _); rw [hself, ← hcell]) (by simp) oq) ⟨by simp; exact hS.1, fun q g1 g2 => by
      rw [oq q (fun z => g2 (by rw [z]; show base < base + a; omega))]
      exact hS.2.1 q g1 g2, fun q hq => by
      rcases List.mem_append.mp hq with h | h
      · exact hS.2.2 q h
      · obtain ⟨z, -, hz⟩ := List.mem_map.mp h
        rw [← hz]
        show base < base + a
        omega⟩ hc hs hf hlo K _ hheap X'
  exact ⟨t', step t' a1, b1⟩
end XA
end
section
/-! contracts with one answer and one heap behind them -/
def xDet (r : Option Value) (h2 : xH) : Option Value → xH → Prop := fun v h' => v = r ∧ h' = h2
section XD
variable {sc : List Int32} {μ ν : xM} {d kc ks pc d' kc' ks' : Nat} {lv : List (Option Value)} {st stk As : List Value} {h h2 : xH} {Q : Option Value → xH → Prop} {index a ci n : Nat} {fs : List Value} {v x1 x2 x3 x4 x5 : Value}
theorem xw_V0v (hL : xLk μ.1 index ν 0) (hI : xIn ν ci) (hd : decode μ.2.2.1 pc = .ok (.invokevirtual index, 3)) (hM : xMet sc ν d' 0 0 [.ref a] h (xDet (some v) h2)) (hdd : d' + 1 ≤ d) (ha : h.2 a = some (.inr (ci, fs))) (hst : (st.map fun v => v.category).sum ≤ 8) (k : xW sc μ d kc ks (pc + 3) lv (v :: st) h2 Q) : xW sc μ d kc ks pc lv (.ref a :: st) h Q :=
  xw_V0 hL hI hd hM hdd ha hst (fun _ _ z => by rw [z.1, z.2]; exact k)
theorem xw_VN0v {host : String} (hL : xLn μ.1 index host ν 0) (hI : xIn ν ci) (hd : decode μ.2.2.1 pc = .ok (.invokevirtual index, 3)) (hM : xMet sc ν d' 0 0 [.ref a] h (xDet (some v) h2)) (hdd : d' + 1 ≤ d) (ha : h.2 a = some (.inr (ci, fs))) (hst : (st.map fun v => v.category).sum ≤ 8) (k : xW sc μ d kc ks (pc + 3) lv (v :: st) h2 Q) : xW sc μ d kc ks pc lv (.ref a :: st) h Q :=
  xw_VN0 hL hI hd hM hdd ha hst (fun _ _ z => by rw [z.1, z.2]; exact k)
theorem xw_S0v (hL : xLk μ.1 index ν 0) (hI : Cond.static ν.2.1 ∈ xT) (hd : decode μ.2.2.1 pc = .ok (.invokestatic index, 3)) (hM : xMet sc ν d' 0 0 [] h (xDet (some v) h2)) (hdd : d' + 1 ≤ d) (hst : (st.map fun v => v.category).sum ≤ 8) (k : xW sc μ d kc ks (pc + 3) lv (v :: st) h2 Q) : xW sc μ d kc ks pc lv (st) h Q :=
  xw_S0 hL hI hd hM hdd hst (fun _ _ z => by rw [z.1, z.2]; exact k)
theorem xw_SN0v {host : String} (hL : xLn μ.1 index host ν 0) (hI : Cond.static ν.2.1 ∈ xT) (hd : decode μ.2.2.1 pc = .ok (.invokestatic index, 3)) (hM : xMet sc ν d' 0 0 [] h (xDet (some v) h2)) (hdd : d' + 1 ≤ d) (hst : (st.map fun v => v.category).sum ≤ 8) (k : xW sc μ d kc ks (pc + 3) lv (v :: st) h2 Q) : xW sc μ d kc ks pc lv (st) h Q :=
  xw_SN0 hL hI hd hM hdd hst (fun _ _ z => by rw [z.1, z.2]; exact k)
theorem xw_V0n (hL : xLk μ.1 index ν 0) (hI : xIn ν ci) (hd : decode μ.2.2.1 pc = .ok (.invokevirtual index, 3)) (hM : xMet sc ν d' 0 0 [.ref a] h (xDet (none) h2)) (hdd : d' + 1 ≤ d) (ha : h.2 a = some (.inr (ci, fs))) (hst : (st.map fun v => v.category).sum ≤ 8) (k : xW sc μ d kc ks (pc + 3) lv (st) h2 Q) : xW sc μ d kc ks pc lv (.ref a :: st) h Q :=
  xw_V0 hL hI hd hM hdd ha hst (fun _ _ z => by rw [z.1, z.2]; exact k)
theorem xw_VN0n {host : String} (hL : xLn μ.1 index host ν 0) (hI : xIn ν ci) (hd : decode μ.2.2.1 pc = .ok (.invokevirtual index, 3)) (hM : xMet sc ν d' 0 0 [.ref a] h (xDet (none) h2)) (hdd : d' + 1 ≤ d) (ha : h.2 a = some (.inr (ci, fs))) (hst : (st.map fun v => v.category).sum ≤ 8) (k : xW sc μ d kc ks (pc + 3) lv (st) h2 Q) : xW sc μ d kc ks pc lv (.ref a :: st) h Q :=
  xw_VN0 hL hI hd hM hdd ha hst (fun _ _ z => by rw [z.1, z.2]; exact k)
theorem xw_S0n (hL : xLk μ.1 index ν 0) (hI : Cond.static ν.2.1 ∈ xT) (hd : decode μ.2.2.1 pc = .ok (.invokestatic index, 3)) (hM : xMet sc ν d' 0 0 [] h (xDet (none) h2)) (hdd : d' + 1 ≤ d) (hst : (st.map fun v => v.category).sum ≤ 8) (k : xW sc μ d kc ks (pc + 3) lv (st) h2 Q) : xW sc μ d kc ks pc lv (st) h Q :=
  xw_S0 hL hI hd hM hdd hst (fun _ _ z => by rw [z.1, z.2]; exact k)
theorem xw_SN0n {host : String} (hL : xLn μ.1 index host ν 0) (hI : Cond.static ν.2.1 ∈ xT) (hd : decode μ.2.2.1 pc = .ok (.invokestatic index, 3)) (hM : xMet sc ν d' 0 0 [] h (xDet (none) h2)) (hdd : d' + 1 ≤ d) (hst : (st.map fun v => v.category).sum ≤ 8) (k : xW sc μ d kc ks (pc + 3) lv (st) h2 Q) : xW sc μ d kc ks pc lv (st) h Q :=
  xw_SN0 hL hI hd hM hdd hst (fun _ _ z => by rw [z.1, z.2]; exact k)
theorem xw_V1v (hL : xLk μ.1 index ν 1) (hI : xIn ν ci) (hd : decode μ.2.2.1 pc = .ok (.invokevirtual index, 3)) (hM : xMet sc ν d' 0 0 [.ref a, x1] h (xDet (some v) h2)) (hdd : d' + 1 ≤ d) (ha : h.2 a = some (.inr (ci, fs))) (hst : (st.map fun v => v.category).sum ≤ 8) (k : xW sc μ d kc ks (pc + 3) lv (v :: st) h2 Q) : xW sc μ d kc ks pc lv (x1 :: .ref a :: st) h Q :=
  xw_V1 hL hI hd hM hdd ha hst (fun _ _ z => by rw [z.1, z.2]; exact k)
theorem xw_VN1v {host : String} (hL : xLn μ.1 index host ν 1) (hI : xIn ν ci) (hd : decode μ.2.2.1 pc = .ok (.invokevirtual index, 3)) (hM : xMet sc ν d' 0 0 [.ref a, x1] h (xDet (some v) h2)) (hdd : d' + 1 ≤ d) (ha : h.2 a = some (.inr (ci, fs))) (hst : (st.map fun v => v.category).sum ≤ 8) (k : xW sc μ d kc ks (pc + 3) lv (v :: st) h2 Q) : xW sc μ d kc ks pc lv (x1 :: .ref a :: st) h Q :=
  xw_VN1 hL hI hd hM hdd ha hst (fun _ _ z => by rw [z.1, z.2]; exact k)
theorem xw_S1v (hL : xLk μ.1 index ν 1) (hI : Cond.static ν.2.1 ∈ xT) (hd : decode μ.2.2.1 pc = .ok (.invokestatic index, 3)) (hM : xMet sc ν d' 0 0 [x1] h (xDet (some v) h2)) (hdd : d' + 1 ≤ d) (hst : (st.map fun v => v.category).sum ≤ 8) (k : xW sc μ d kc ks (pc + 3) lv (v :: st) h2 Q) : xW sc μ d kc ks pc lv (x1 :: st) h Q :=
  xw_S1 hL hI hd hM hdd hst (fun _ _ z => by rw [z.1, z.2]; exact k)
theorem xw_SN1v {host : String} (hL : xLn μ.1 index host ν 1) (hI : Cond.static ν.2.1 ∈ xT) (hd : decode μ.2.2.1 pc = .ok (.invokestatic index, 3)) (hM : xMet sc ν d' 0 0 [x1] h (xDet (some v) h2)) (hdd : d' + 1 ≤ d) (hst : (st.map fun v => v.category).sum ≤ 8) (k : xW sc μ d kc ks (pc + 3) lv (v :: st) h2 Q) : xW sc μ d kc ks pc lv (x1 :: st) h Q :=
  xw_SN1 hL hI hd hM hdd hst (fun _ _ z => by rw [z.1, z.2]; exact k)
theorem xw_V1n (hL : xLk μ.1 index ν 1) (hI : xIn ν ci) (hd : decode μ.2.2.1 pc = .ok (.invokevirtual index, 3)) (hM : xMet sc ν d' 0 0 [.ref a, x1] h (xDet (none) h2)) (hdd : d' + 1 ≤ d) (ha : h.2 a = some (.inr (ci, fs))) (hst : (st.map fun v => v.category).sum ≤ 8) (k : xW sc μ d kc ks (pc + 3) lv (st) h2 Q) : xW sc μ d kc ks pc lv (x1 :: .ref a :: st) h Q :=
  xw_V1 hL hI hd hM hdd ha hst (fun _ _ z => by rw [z.1, z.2]; exact k)
theorem xw_VN1n {host : String} (hL : xLn μ.1 index host ν 1) (hI : xIn ν ci) (hd : decode μ.2.2.1 pc = .ok (.invokevirtual index, 3)) (hM : xMet sc ν d' 0 0 [.ref a, x1] h (xDet (none) h2)) (hdd : d' + 1 ≤ d) (ha : h.2 a = some (.inr (ci, fs))) (hst : (st.map fun v => v.category).sum ≤ 8) (k : xW sc μ d kc ks (pc + 3) lv (st) h2 Q) : xW sc μ d kc ks pc lv (x1 :: .ref a :: st) h Q :=
  xw_VN1 hL hI hd hM hdd ha hst (fun _ _ z => by rw [z.1, z.2]; exact k)
theorem xw_S1n (hL : xLk μ.1 index ν 1) (hI : Cond.static ν.2.1 ∈ xT) (hd : decode μ.2.2.1 pc = .ok (.invokestatic index, 3)) (hM : xMet sc ν d' 0 0 [x1] h (xDet (none) h2)) (hdd : d' + 1 ≤ d) (hst : (st.map fun v => v.category).sum ≤ 8) (k : xW sc μ d kc ks (pc + 3) lv (st) h2 Q) : xW sc μ d kc ks pc lv (x1 :: st) h Q :=
  xw_S1 hL hI hd hM hdd hst (fun _ _ z => by rw [z.1, z.2]; exact k)
theorem xw_SN1n {host : String} (hL : xLn μ.1 index host ν 1) (hI : Cond.static ν.2.1 ∈ xT) (hd : decode μ.2.2.1 pc = .ok (.invokestatic index, 3)) (hM : xMet sc ν d' 0 0 [x1] h (xDet (none) h2)) (hdd : d' + 1 ≤ d) (hst : (st.map fun v => v.category).sum ≤ 8) (k : xW sc μ d kc ks (pc + 3) lv (st) h2 Q) : xW sc μ d kc ks pc lv (x1 :: st) h Q :=
  xw_SN1 hL hI hd hM hdd hst (fun _ _ z => by rw [z.1, z.2]; exact k)
theorem xw_V2v (hL : xLk μ.1 index ν 2) (hI : xIn ν ci) (hd : decode μ.2.2.1 pc = .ok (.invokevirtual index, 3)) (hM : xMet sc ν d' 0 0 [.ref a, x1, x2] h (xDet (some v) h2)) (hdd : d' + 1 ≤ d) (ha : h.2 a = some (.inr (ci, fs))) (hst : (st.map fun v => v.category).sum ≤ 8) (k : xW sc μ d kc ks (pc + 3) lv (v :: st) h2 Q) : xW sc μ d kc ks pc lv (x2 :: x1 :: .ref a :: st) h Q :=
  xw_V2 hL hI hd hM hdd ha hst (fun _ _ z => by rw [z.1, z.2]; exact k)
theorem xw_VN2v {host : String} (hL : xLn μ.1 index host ν 2) (hI : xIn ν ci) (hd : decode μ.2.2.1 pc = .ok (.invokevirtual index, 3)) (hM : xMet sc ν d' 0 0 [.ref a, x1, x2] h (xDet (some v) h2)) (hdd : d' + 1 ≤ d) (ha : h.2 a = some (.inr (ci, fs))) (hst : (st.map fun v => v.category).sum ≤ 8) (k : xW sc μ d kc ks (pc + 3) lv (v :: st) h2 Q) : xW sc μ d kc ks pc lv (x2 :: x1 :: .ref a :: st) h Q :=
  xw_VN2 hL hI hd hM hdd ha hst (fun _ _ z => by rw [z.1, z.2]; exact k)
theorem xw_S2v (hL : xLk μ.1 index ν 2) (hI : Cond.static ν.2.1 ∈ xT) (hd : decode μ.2.2.1 pc = .ok (.invokestatic index, 3)) (hM : xMet sc ν d' 0 0 [x1, x2] h (xDet (some v) h2)) (hdd : d' + 1 ≤ d) (hst : (st.map fun v => v.category).sum ≤ 8) (k : xW sc μ d kc ks (pc + 3) lv (v :: st) h2 Q) : xW sc μ d kc ks pc lv (x2 :: x1 :: st) h Q :=
  xw_S2 hL hI hd hM hdd hst (fun _ _ z => by rw [z.1, z.2]; exact k)
theorem xw_SN2v {host : String} (hL : xLn μ.1 index host ν 2) (hI : Cond.static ν.2.1 ∈ xT) (hd : decode μ.2.2.1 pc = .ok (.invokestatic index, 3)) (hM : xMet sc ν d' 0 0 [x1, x2] h (xDet (some v) h2)) (hdd : d' + 1 ≤ d) (hst : (st.map fun v => v.category).sum ≤ 8) (k : xW sc μ d kc ks (pc + 3) lv (v :: st) h2 Q) : xW sc μ d kc ks pc lv (x2 :: x1 :: st) h Q :=
  xw_SN2 hL hI hd hM hdd hst (fun _ _ z => by rw [z.1, z.2]; exact k)
theorem xw_V2n (hL : xLk μ.1 index ν 2) (hI : xIn ν ci) (hd : decode μ.2.2.1 pc = .ok (.invokevirtual index, 3)) (hM : xMet sc ν d' 0 0 [.ref a, x1, x2] h (xDet (none) h2)) (hdd : d' + 1 ≤ d) (ha : h.2 a = some (.inr (ci, fs))) (hst : (st.map fun v => v.category).sum ≤ 8) (k : xW sc μ d kc ks (pc + 3) lv (st) h2 Q) : xW sc μ d kc ks pc lv (x2 :: x1 :: .ref a :: st) h Q :=
  xw_V2 hL hI hd hM hdd ha hst (fun _ _ z => by rw [z.1, z.2]; exact k)
theorem xw_VN2n {host : String} (hL : xLn μ.1 index host ν 2) (hI : xIn ν ci) (hd : decode μ.2.2.1 pc = .ok (.invokevirtual index, 3)) (hM : xMet sc ν d' 0 0 [.ref a, x1, x2] h (xDet (none) h2)) (hdd : d' + 1 ≤ d) (ha : h.2 a = some (.inr (ci, fs))) (hst : (st.map fun v => v.category).sum ≤ 8) (k : xW sc μ d kc ks (pc + 3) lv (st) h2 Q) : xW sc μ d kc ks pc lv (x2 :: x1 :: .ref a :: st) h Q :=
  xw_VN2 hL hI hd hM hdd ha hst (fun _ _ z => by rw [z.1, z.2]; exact k)
theorem xw_S2n (hL : xLk μ.1 index ν 2) (hI : Cond.static ν.2.1 ∈ xT) (hd : decode μ.2.2.1 pc = .ok (.invokestatic index, 3)) (hM : xMet sc ν d' 0 0 [x1, x2] h (xDet (none) h2)) (hdd : d' + 1 ≤ d) (hst : (st.map fun v => v.category).sum ≤ 8) (k : xW sc μ d kc ks (pc + 3) lv (st) h2 Q) : xW sc μ d kc ks pc lv (x2 :: x1 :: st) h Q :=
  xw_S2 hL hI hd hM hdd hst (fun _ _ z => by rw [z.1, z.2]; exact k)
theorem xw_SN2n {host : String} (hL : xLn μ.1 index host ν 2) (hI : Cond.static ν.2.1 ∈ xT) (hd : decode μ.2.2.1 pc = .ok (.invokestatic index, 3)) (hM : xMet sc ν d' 0 0 [x1, x2] h (xDet (none) h2)) (hdd : d' + 1 ≤ d) (hst : (st.map fun v => v.category).sum ≤ 8) (k : xW sc μ d kc ks (pc + 3) lv (st) h2 Q) : xW sc μ d kc ks pc lv (x2 :: x1 :: st) h Q :=
  xw_SN2 hL hI hd hM hdd hst (fun _ _ z => by rw [z.1, z.2]; exact k)
theorem xw_V3v (hL : xLk μ.1 index ν 3) (hI : xIn ν ci) (hd : decode μ.2.2.1 pc = .ok (.invokevirtual index, 3)) (hM : xMet sc ν d' 0 0 [.ref a, x1, x2, x3] h (xDet (some v) h2)) (hdd : d' + 1 ≤ d) (ha : h.2 a = some (.inr (ci, fs))) (hst : (st.map fun v => v.category).sum ≤ 8) (k : xW sc μ d kc ks (pc + 3) lv (v :: st) h2 Q) : xW sc μ d kc ks pc lv (x3 :: x2 :: x1 :: .ref a :: st) h Q :=
  xw_V3 hL hI hd hM hdd ha hst (fun _ _ z => by rw [z.1, z.2]; exact k)
theorem xw_VN3v {host : String} (hL : xLn μ.1 index host ν 3) (hI : xIn ν ci) (hd : decode μ.2.2.1 pc = .ok (.invokevirtual index, 3)) (hM : xMet sc ν d' 0 0 [.ref a, x1, x2, x3] h (xDet (some v) h2)) (hdd : d' + 1 ≤ d) (ha : h.2 a = some (.inr (ci, fs))) (hst : (st.map fun v => v.category).sum ≤ 8) (k : xW sc μ d kc ks (pc + 3) lv (v :: st) h2 Q) : xW sc μ d kc ks pc lv (x3 :: x2 :: x1 :: .ref a :: st) h Q :=
  xw_VN3 hL hI hd hM hdd ha hst (fun _ _ z => by rw [z.1, z.2]; exact k)
theorem xw_S3v (hL : xLk μ.1 index ν 3) (hI : Cond.static ν.2.1 ∈ xT) (hd : decode μ.2.2.1 pc = .ok (.invokestatic index, 3)) (hM : xMet sc ν d' 0 0 [x1, x2, x3] h (xDet (some v) h2)) (hdd : d' + 1 ≤ d) (hst : (st.map fun v => v.category).sum ≤ 8) (k : xW sc μ d kc ks (pc + 3) lv (v :: st) h2 Q) : xW sc μ d kc ks pc lv (x3 :: x2 :: x1 :: st) h Q :=
  xw_S3 hL hI hd hM hdd hst (fun _ _ z => by rw [z.1, z.2]; exact k)
theorem xw_SN3v {host : String} (hL : xLn μ.1 index host ν 3) (hI : Cond.static ν.2.1 ∈ xT) (hd : decode μ.2.2.1 pc = .ok (.invokestatic index, 3)) (hM : xMet sc ν d' 0 0 [x1, x2, x3] h (xDet (some v) h2)) (hdd : d' + 1 ≤ d) (hst : (st.map fun v => v.category).sum ≤ 8) (k : xW sc μ d kc ks (pc + 3) lv (v :: st) h2 Q) : xW sc μ d kc ks pc lv (x3 :: x2 :: x1 :: st) h Q :=
  xw_SN3 hL hI hd hM hdd hst (fun _ _ z => by rw [z.1, z.2]; exact k)
theorem xw_V3n (hL : xLk μ.1 index ν 3) (hI : xIn ν ci) (hd : decode μ.2.2.1 pc = .ok (.invokevirtual index, 3)) (hM : xMet sc ν d' 0 0 [.ref a, x1, x2, x3] h (xDet (none) h2)) (hdd : d' + 1 ≤ d) (ha : h.2 a = some (.inr (ci, fs))) (hst : (st.map fun v => v.category).sum ≤ 8) (k : xW sc μ d kc ks (pc + 3) lv (st) h2 Q) : xW sc μ d kc ks pc lv (x3 :: x2 :: x1 :: .ref a :: st) h Q :=
  xw_V3 hL hI hd hM hdd ha hst (fun _ _ z => by rw [z.1, z.2]; exact k)
theorem xw_VN3n {host : String} (hL : xLn μ.1 index host ν 3) (hI : xIn ν ci) (hd : decode μ.2.2.1 pc = .ok (.invokevirtual index, 3)) (hM : xMet sc ν d' 0 0 [.ref a, x1, x2, x3] h (xDet (none) h2)) (hdd : d' + 1 ≤ d) (ha : h.2 a = some (.inr (ci, fs))) (hst : (st.map fun v => v.category).sum ≤ 8) (k : xW sc μ d kc ks (pc + 3) lv (st) h2 Q) : xW sc μ d kc ks pc lv (x3 :: x2 :: x1 :: .ref a :: st) h Q :=
  xw_VN3 hL hI hd hM hdd ha hst (fun _ _ z => by rw [z.1, z.2]; exact k)
theorem xw_S3n (hL : xLk μ.1 index ν 3) (hI : Cond.static ν.2.1 ∈ xT) (hd : decode μ.2.2.1 pc = .ok (.invokestatic index, 3)) (hM : xMet sc ν d' 0 0 [x1, x2, x3] h (xDet (none) h2)) (hdd : d' + 1 ≤ d) (hst : (st.map fun v => v.category).sum ≤ 8) (k : xW sc μ d kc ks (pc + 3) lv (st) h2 Q) : xW sc μ d kc ks pc lv (x3 :: x2 :: x1 :: st) h Q :=
  xw_S3 hL hI hd hM hdd hst (fun _ _ z => by rw [z.1, z.2]; exact k)
theorem xw_SN3n {host : String} (hL : xLn μ.1 index host ν 3) (hI : Cond.static ν.2.1 ∈ xT) (hd : decode μ.2.2.1 pc = .ok (.invokestatic index, 3)) (hM : xMet sc ν d' 0 0 [x1, x2, x3] h (xDet (none) h2)) (hdd : d' + 1 ≤ d) (hst : (st.map fun v => v.category).sum ≤ 8) (k : xW sc μ d kc ks (pc + 3) lv (st) h2 Q) : xW sc μ d kc ks pc lv (x3 :: x2 :: x1 :: st) h Q :=
  xw_SN3 hL hI hd hM hdd hst (fun _ _ z => by rw [z.1, z.2]; exact k)
theorem xw_V4v (hL : xLk μ.1 index ν 4) (hI : xIn ν ci) (hd : decode μ.2.2.1 pc = .ok (.invokevirtual index, 3)) (hM : xMet sc ν d' 0 0 [.ref a, x1, x2, x3, x4] h (xDet (some v) h2)) (hdd : d' + 1 ≤ d) (ha : h.2 a = some (.inr (ci, fs))) (hst : (st.map fun v => v.category).sum ≤ 8) (k : xW sc μ d kc ks (pc + 3) lv (v :: st) h2 Q) : xW sc μ d kc ks pc lv (x4 :: x3 :: x2 :: x1 :: .ref a :: st) h Q :=
  xw_V4 hL hI hd hM hdd ha hst (fun _ _ z => by rw [z.1, z.2]; exact k)
theorem xw_VN4v {host : String} (hL : xLn μ.1 index host ν 4) (hI : xIn ν ci) (hd : decode μ.2.2.1 pc = .ok (.invokevirtual index, 3)) (hM : xMet sc ν d' 0 0 [.ref a, x1, x2, x3, x4] h (xDet (some v) h2)) (hdd : d' + 1 ≤ d) (ha : h.2 a = some (.inr (ci, fs))) (hst : (st.map fun v => v.category).sum ≤ 8) (k : xW sc μ d kc ks (pc + 3) lv (v :: st) h2 Q) : xW sc μ d kc ks pc lv (x4 :: x3 :: x2 :: x1 :: .ref a :: st) h Q :=
  xw_VN4 hL hI hd hM hdd ha hst (fun _ _ z => by rw [z.1, z.2]; exact k)
theorem xw_S4v (hL : xLk μ.1 index ν 4) (hI : Cond.static ν.2.1 ∈ xT) (hd : decode μ.2.2.1 pc = .ok (.invokestatic index, 3)) (hM : xMet sc ν d' 0 0 [x1, x2, x3, x4] h (xDet (some v) h2)) (hdd : d' + 1 ≤ d) (hst : (st.map fun v => v.category).sum ≤ 8) (k : xW sc μ d kc ks (pc + 3) lv (v :: st) h2 Q) : xW sc μ d kc ks pc lv (x4 :: x3 :: x2 :: x1 :: st) h Q :=
  xw_S4 hL hI hd hM hdd hst (fun _ _ z => by rw [z.1, z.2]; exact k)
theorem xw_SN4v {host : String} (hL : xLn μ.1 index host ν 4) (hI : Cond.static ν.2.1 ∈ xT) (hd : decode μ.2.2.1 pc = .ok (.invokestatic index, 3)) (hM : xMet sc ν d' 0 0 [x1, x2, x3, x4] h (xDet (some v) h2)) (hdd : d' + 1 ≤ d) (hst : (st.map fun v => v.category).sum ≤ 8) (k : xW sc μ d kc ks (pc + 3) lv (v :: st) h2 Q) : xW sc μ d kc ks pc lv (x4 :: x3 :: x2 :: x1 :: st) h Q :=
  xw_SN4 hL hI hd hM hdd hst (fun _ _ z => by rw [z.1, z.2]; exact k)
theorem xw_V4n (hL : xLk μ.1 index ν 4) (hI : xIn ν ci) (hd : decode μ.2.2.1 pc = .ok (.invokevirtual index, 3)) (hM : xMet sc ν d' 0 0 [.ref a, x1, x2, x3, x4] h (xDet (none) h2)) (hdd : d' + 1 ≤ d) (ha : h.2 a = some (.inr (ci, fs))) (hst : (st.map fun v => v.category).sum ≤ 8) (k : xW sc μ d kc ks (pc + 3) lv (st) h2 Q) : xW sc μ d kc ks pc lv (x4 :: x3 :: x2 :: x1 :: .ref a :: st) h Q :=
  xw_V4 hL hI hd hM hdd ha hst (fun _ _ z => by rw [z.1, z.2]; exact k)
theorem xw_VN4n {host : String} (hL : xLn μ.1 index host ν 4) (hI : xIn ν ci) (hd : decode μ.2.2.1 pc = .ok (.invokevirtual index, 3)) (hM : xMet sc ν d' 0 0 [.ref a, x1, x2, x3, x4] h (xDet (none) h2)) (hdd : d' + 1 ≤ d) (ha : h.2 a = some (.inr (ci, fs))) (hst : (st.map fun v => v.category).sum ≤ 8) (k : xW sc μ d kc ks (pc + 3) lv (st) h2 Q) : xW sc μ d kc ks pc lv (x4 :: x3 :: x2 :: x1 :: .ref a :: st) h Q :=
  xw_VN4 hL hI hd hM hdd ha hst (fun _ _ z => by rw [z.1, z.2]; exact k)
theorem xw_S4n (hL : xLk μ.1 index ν 4) (hI : Cond.static ν.2.1 ∈ xT) (hd : decode μ.2.2.1 pc = .ok (.invokestatic index, 3)) (hM : xMet sc ν d' 0 0 [x1, x2, x3, x4] h (xDet (none) h2)) (hdd : d' + 1 ≤ d) (hst : (st.map fun v => v.category).sum ≤ 8) (k : xW sc μ d kc ks (pc + 3) lv (st) h2 Q) : xW sc μ d kc ks pc lv (x4 :: x3 :: x2 :: x1 :: st) h Q :=
  xw_S4 hL hI hd hM hdd hst (fun _ _ z => by rw [z.1, z.2]; exact k)
theorem xw_SN4n {host : String} (hL : xLn μ.1 index host ν 4) (hI : Cond.static ν.2.1 ∈ xT) (hd : decode μ.2.2.1 pc = .ok (.invokestatic index, 3)) (hM : xMet sc ν d' 0 0 [x1, x2, x3, x4] h (xDet (none) h2)) (hdd : d' + 1 ≤ d) (hst : (st.map fun v => v.category).sum ≤ 8) (k : xW sc μ d kc ks (pc + 3) lv (st) h2 Q) : xW sc μ d kc ks pc lv (x4 :: x3 :: x2 :: x1 :: st) h Q :=
  xw_SN4 hL hI hd hM hdd hst (fun _ _ z => by rw [z.1, z.2]; exact k)
theorem xw_V5v (hL : xLk μ.1 index ν 5) (hI : xIn ν ci) (hd : decode μ.2.2.1 pc = .ok (.invokevirtual index, 3)) (hM : xMet sc ν d' 0 0 [.ref a, x1, x2, x3, x4, x5] h (xDet (some v) h2)) (hdd : d' + 1 ≤ d) (ha : h.2 a = some (.inr (ci, fs))) (hst : (st.map fun v => v.category).sum ≤ 8) (k : xW sc μ d kc ks (pc + 3) lv (v :: st) h2 Q) : xW sc μ d kc ks pc lv (x5 :: x4 :: x3 :: x2 :: x1 :: .ref a :: st) h Q :=
  xw_V5 hL hI hd hM hdd ha hst (fun _ _ z => by rw [z.1, z.2]; exact k)
theorem xw_VN5v {host : String} (hL : xLn μ.1 index host ν 5) (hI : xIn ν ci) (hd : decode μ.2.2.1 pc = .ok (.invokevirtual index, 3)) (hM : xMet sc ν d' 0 0 [.ref a, x1, x2, x3, x4, x5] h (xDet (some v) h2)) (hdd : d' + 1 ≤ d) (ha : h.2 a = some (.inr (ci, fs))) (hst : (st.map fun v => v.category).sum ≤ 8) (k : xW sc μ d kc ks (pc + 3) lv (v :: st) h2 Q) : xW sc μ d kc ks pc lv (x5 :: x4 :: x3 :: x2 :: x1 :: .ref a :: st) h Q :=
  xw_VN5 hL hI hd hM hdd ha hst (fun _ _ z => by rw [z.1, z.2]; exact k)
theorem xw_S5v (hL : xLk μ.1 index ν 5) (hI : Cond.static ν.2.1 ∈ xT) (hd : decode μ.2.2.1 pc = .ok (.invokestatic index, 3)) (hM : xMet sc ν d' 0 0 [x1, x2, x3, x4, x5] h (xDet (some v) h2)) (hdd : d' + 1 ≤ d) (hst : (st.map fun v => v.category).sum ≤ 8) (k : xW sc μ d kc ks (pc + 3) lv (v :: st) h2 Q) : xW sc μ d kc ks pc lv (x5 :: x4 :: x3 :: x2 :: x1 :: st) h Q :=
  xw_S5 hL hI hd hM hdd hst (fun _ _ z => by rw [z.1, z.2]; exact k)
theorem xw_SN5v {host : String} (hL : xLn μ.1 index host ν 5) (hI : Cond.static ν.2.1 ∈ xT) (hd : decode μ.2.2.1 pc = .ok (.invokestatic index, 3)) (hM : xMet sc ν d' 0 0 [x1, x2, x3, x4, x5] h (xDet (some v) h2)) (hdd : d' + 1 ≤ d) (hst : (st.map fun v => v.category).sum ≤ 8) (k : xW sc μ d kc ks (pc + 3) lv (v :: st) h2 Q) : xW sc μ d kc ks pc lv (x5 :: x4 :: x3 :: x2 :: x1 :: st) h Q :=
  xw_SN5 hL hI hd hM hdd hst (fun _ _ z => by rw [z.1, z.2]; exact k)
theorem xw_V5n (hL : xLk μ.1 index ν 5) (hI : xIn ν ci) (hd : decode μ.2.2.1 pc = .ok (.invokevirtual index, 3)) (hM : xMet sc ν d' 0 0 [.ref a, x1, x2, x3, x4, x5] h (xDet (none) h2)) (hdd : d' + 1 ≤ d) (ha : h.2 a = some (.inr (ci, fs))) (hst : (st.map fun v => v.category).sum ≤ 8) (k : xW sc μ d kc ks (pc + 3) lv (st) h2 Q) : xW sc μ d kc ks pc lv (x5 :: x4 :: x3 :: x2 :: x1 :: .ref a :: st) h Q :=
  xw_V5 hL hI hd hM hdd ha hst (fun _ _ z => by rw [z.1, z.2]; exact k)
theorem xw_VN5n {host : String} (hL : xLn μ.1 index host ν 5) (hI : xIn ν ci) (hd : decode μ.2.2.1 pc = .ok (.invokevirtual index, 3)) (hM : xMet sc ν d' 0 0 [.ref a, x1, x2, x3, x4, x5] h (xDet (none) h2)) (hdd : d' + 1 ≤ d) (ha : h.2 a = some (.inr (ci, fs))) (hst : (st.map fun v => v.category).sum ≤ 8) (k : xW sc μ d kc ks (pc + 3) lv (st) h2 Q) : xW sc μ d kc ks pc lv (x5 :: x4 :: x3 :: x2 :: x1 :: .ref a :: st) h Q :=
  xw_VN5 hL hI hd hM hdd ha hst (fun _ _ z => by rw [z.1, z.2]; exact k)
theorem xw_S5n (hL : xLk μ.1 index ν 5) (hI : Cond.static ν.2.1 ∈ xT) (hd : decode μ.2.2.1 pc = .ok (.invokestatic index, 3)) (hM : xMet sc ν d' 0 0 [x1, x2, x3, x4, x5] h (xDet (none) h2)) (hdd : d' + 1 ≤ d) (hst : (st.map fun v => v.category).sum ≤ 8) (k : xW sc μ d kc ks (pc + 3) lv (st) h2 Q) : xW sc μ d kc ks pc lv (x5 :: x4 :: x3 :: x2 :: x1 :: st) h Q :=
  xw_S5 hL hI hd hM hdd hst (fun _ _ z => by rw [z.1, z.2]; exact k)
theorem xw_SN5n {host : String} (hL : xLn μ.1 index host ν 5) (hI : Cond.static ν.2.1 ∈ xT) (hd : decode μ.2.2.1 pc = .ok (.invokestatic index, 3)) (hM : xMet sc ν d' 0 0 [x1, x2, x3, x4, x5] h (xDet (none) h2)) (hdd : d' + 1 ≤ d) (hst : (st.map fun v => v.category).sum ≤ 8) (k : xW sc μ d kc ks (pc + 3) lv (st) h2 Q) : xW sc μ d kc ks pc lv (x5 :: x4 :: x3 :: x2 :: x1 :: st) h Q :=
  xw_SN5 hL hI hd hM hdd hst (fun _ _ z => by rw [z.1, z.2]; exact k)
theorem xw_I0n (hL : xLk μ.1 index ν 0) (hr : ν.2.2.2.2 = none) (hy1 : ν.2.1.name = "<init>") (hI : Cond.instanceMethod ν.2.1 ∈ xT) (hd : decode μ.2.2.1 pc = .ok (.invokespecial index, 3)) (hM : xMet sc ν d' kc' ks' [.ref a] h (xDet none h2)) (hdd : d' + 1 ≤ d) (hst : (st.map fun v => v.category).sum ≤ 8) (k : xW sc μ d kc ks (pc + 3) lv st h2 Q) : xW sc μ d (kc' + kc) (ks' + ks) pc lv (.ref a :: st) h Q :=
  xw_I (As := []) hL hr hy1 hI hd hM hdd rfl rfl hst (fun _ _ z => by rw [z.1, z.2]; exact k)
theorem xw_IN0n {host : String} (hL : xLn μ.1 index host ν 0) (hr : ν.2.2.2.2 = none) (hy1 : ν.2.1.name = "<init>") (hI : Cond.instanceMethod ν.2.1 ∈ xT) (hd : decode μ.2.2.1 pc = .ok (.invokespecial index, 3)) (hM : xMet sc ν d' kc' ks' [.ref a] h (xDet none h2)) (hdd : d' + 1 ≤ d) (hst : (st.map fun v => v.category).sum ≤ 8) (k : xW sc μ d kc ks (pc + 3) lv st h2 Q) : xW sc μ d (kc' + kc) (ks' + ks) pc lv (.ref a :: st) h Q :=
  xw_IN (As := []) hL hr hy1 hI hd hM hdd rfl rfl hst (fun _ _ z => by rw [z.1, z.2]; exact k)
theorem xw_I1n (hL : xLk μ.1 index ν 1) (hr : ν.2.2.2.2 = none) (hy1 : ν.2.1.name = "<init>") (hI : Cond.instanceMethod ν.2.1 ∈ xT) (hd : decode μ.2.2.1 pc = .ok (.invokespecial index, 3)) (hM : xMet sc ν d' kc' ks' [.ref a, x1] h (xDet none h2)) (hdd : d' + 1 ≤ d) (hst : (st.map fun v => v.category).sum ≤ 8) (k : xW sc μ d kc ks (pc + 3) lv st h2 Q) : xW sc μ d (kc' + kc) (ks' + ks) pc lv (x1 :: .ref a :: st) h Q :=
  xw_I (As := [x1]) hL hr hy1 hI hd hM hdd rfl rfl hst (fun _ _ z => by rw [z.1, z.2]; exact k)
theorem xw_IN1n {host : String} (hL : xLn μ.1 index host ν 1) (hr : ν.2.2.2.2 = none) (hy1 : ν.2.1.name = "<init>") (hI : Cond.instanceMethod ν.2.1 ∈ xT) (hd : decode μ.2.2.1 pc = .ok (.invokespecial index, 3)) (hM : xMet sc ν d' kc' ks' [.ref a, x1] h (xDet none h2)) (hdd : d' + 1 ≤ d) (hst : (st.map fun v => v.category).sum ≤ 8) (k : xW sc μ d kc ks (pc + 3) lv st h2 Q) : xW sc μ d (kc' + kc) (ks' + ks) pc lv (x1 :: .ref a :: st) h Q :=
  xw_IN (As := [x1]) hL hr hy1 hI hd hM hdd rfl rfl hst (fun _ _ z => by rw [z.1, z.2]; exact k)
theorem xw_I2n (hL : xLk μ.1 index ν 2) (hr : ν.2.2.2.2 = none) (hy1 : ν.2.1.name = "<init>") (hI : Cond.instanceMethod ν.2.1 ∈ xT) (hd : decode μ.2.2.1 pc = .ok (.invokespecial index, 3)) (hM : xMet sc ν d' kc' ks' [.ref a, x1, x2] h (xDet none h2)) (hdd : d' + 1 ≤ d) (hst : (st.map fun v => v.category).sum ≤ 8) (k : xW sc μ d kc ks (pc + 3) lv st h2 Q) : xW sc μ d (kc' + kc) (ks' + ks) pc lv (x2 :: x1 :: .ref a :: st) h Q :=
  xw_I (As := [x1, x2]) hL hr hy1 hI hd hM hdd rfl rfl hst (fun _ _ z => by rw [z.1, z.2]; exact k)
theorem xw_IN2n {host : String} (hL : xLn μ.1 index host ν 2) (hr : ν.2.2.2.2 = none) (hy1 : ν.2.1.name = "<init>") (hI : Cond.instanceMethod ν.2.1 ∈ xT) (hd : decode μ.2.2.1 pc = .ok (.invokespecial index, 3)) (hM : xMet sc ν d' kc' ks' [.ref a, x1, x2] h (xDet none h2)) (hdd : d' + 1 ≤ d) (hst : (st.map fun v => v.category).sum ≤ 8) (k : xW sc μ d kc ks (pc + 3) lv st h2 Q) : xW sc μ d (kc' + kc) (ks' + ks) pc lv (x2 :: x1 :: .ref a :: st) h Q :=
  xw_IN (As := [x1, x2]) hL hr hy1 hI hd hM hdd rfl rfl hst (fun _ _ z => by rw [z.1, z.2]; exact k)
theorem xw_I3n (hL : xLk μ.1 index ν 3) (hr : ν.2.2.2.2 = none) (hy1 : ν.2.1.name = "<init>") (hI : Cond.instanceMethod ν.2.1 ∈ xT) (hd : decode μ.2.2.1 pc = .ok (.invokespecial index, 3)) (hM : xMet sc ν d' kc' ks' [.ref a, x1, x2, x3] h (xDet none h2)) (hdd : d' + 1 ≤ d) (hst : (st.map fun v => v.category).sum ≤ 8) (k : xW sc μ d kc ks (pc + 3) lv st h2 Q) : xW sc μ d (kc' + kc) (ks' + ks) pc lv (x3 :: x2 :: x1 :: .ref a :: st) h Q :=
  xw_I (As := [x1, x2, x3]) hL hr hy1 hI hd hM hdd rfl rfl hst (fun _ _ z => by rw [z.1, z.2]; exact k)
theorem xw_IN3n {host : String} (hL : xLn μ.1 index host ν 3) (hr : ν.2.2.2.2 = none) (hy1 : ν.2.1.name = "<init>") (hI : Cond.instanceMethod ν.2.1 ∈ xT) (hd : decode μ.2.2.1 pc = .ok (.invokespecial index, 3)) (hM : xMet sc ν d' kc' ks' [.ref a, x1, x2, x3] h (xDet none h2)) (hdd : d' + 1 ≤ d) (hst : (st.map fun v => v.category).sum ≤ 8) (k : xW sc μ d kc ks (pc + 3) lv st h2 Q) : xW sc μ d (kc' + kc) (ks' + ks) pc lv (x3 :: x2 :: x1 :: .ref a :: st) h Q :=
  xw_IN (As := [x1, x2, x3]) hL hr hy1 hI hd hM hdd rfl rfl hst (fun _ _ z => by rw [z.1, z.2]; exact k)
end XD
end
