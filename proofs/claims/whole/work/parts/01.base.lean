-- ===== PART A: goes FIRST, ahead of the names: the tables' words, and 'selects' of the private methods out of them =====
/-- a private method of a class that the tables say can be made, by its rows of tables_1 -/
def lw_okq (q : MethodName × Nat) : Prop := (q.1.cls ≠ "java/lang/invoke/MethodHandle" ∧ q.1.cls ≠ "java/lang/invoke/VarHandle") ∧ Cond.instantiable q.1.cls q.2 ∈ tables_1 ∧ Cond.privateMethod q.1 ∈ tables_1 ∧ Cond.instanceMethod q.1 ∈ tables_1
theorem lw_p0 : lw_okq (⟨"OnionNet$Handshake", "startLabelled", "(I)V"⟩, 13) := ⟨⟨by decide +kernel, by decide +kernel⟩, List.mem_of_getElem? (i := 43) (by decide +kernel), List.mem_of_getElem? (i := 384) (by decide +kernel), List.mem_of_getElem? (i := 385) (by decide +kernel)⟩
theorem lw_p1 : lw_okq (⟨"OnionNet$Sha", "mix", "()V"⟩, 3) := ⟨⟨by decide +kernel, by decide +kernel⟩, List.mem_of_getElem? (i := 49) (by decide +kernel), List.mem_of_getElem? (i := 405) (by decide +kernel), List.mem_of_getElem? (i := 406) (by decide +kernel)⟩
theorem lw_p2 : lw_okq (⟨"OnionNet$Curve", "readPoint", "([II)V"⟩, 11) := ⟨⟨by decide +kernel, by decide +kernel⟩, List.mem_of_getElem? (i := 66) (by decide +kernel), List.mem_of_getElem? (i := 425) (by decide +kernel), List.mem_of_getElem? (i := 426) (by decide +kernel)⟩
theorem lw_p3 : lw_okq (⟨"OnionNet$Curve", "climb", "([J[J[J[J)V"⟩, 11) := ⟨⟨by decide +kernel, by decide +kernel⟩, List.mem_of_getElem? (i := 66) (by decide +kernel), List.mem_of_getElem? (i := 433) (by decide +kernel), List.mem_of_getElem? (i := 434) (by decide +kernel)⟩
theorem lw_p4 : lw_okq (⟨"OnionNet$Curve", "multiply", "([J[J[J)V"⟩, 11) := ⟨⟨by decide +kernel, by decide +kernel⟩, List.mem_of_getElem? (i := 66) (by decide +kernel), List.mem_of_getElem? (i := 437) (by decide +kernel), List.mem_of_getElem? (i := 438) (by decide +kernel)⟩
theorem lw_p5 : lw_okq (⟨"OnionNet$Curve", "invert", "([J)V"⟩, 11) := ⟨⟨by decide +kernel, by decide +kernel⟩, List.mem_of_getElem? (i := 66) (by decide +kernel), List.mem_of_getElem? (i := 445) (by decide +kernel), List.mem_of_getElem? (i := 446) (by decide +kernel)⟩
theorem lw_p6 : lw_okq (⟨"OnionNet$Curve", "writeReduced", "([J[II)V"⟩, 11) := ⟨⟨by decide +kernel, by decide +kernel⟩, List.mem_of_getElem? (i := 66) (by decide +kernel), List.mem_of_getElem? (i := 449) (by decide +kernel), List.mem_of_getElem? (i := 450) (by decide +kernel)⟩
theorem lw_p7 : lw_okq (⟨"OnionNet$Curve", "carry", "([J)J"⟩, 11) := ⟨⟨by decide +kernel, by decide +kernel⟩, List.mem_of_getElem? (i := 66) (by decide +kernel), List.mem_of_getElem? (i := 453) (by decide +kernel), List.mem_of_getElem? (i := 454) (by decide +kernel)⟩
theorem lw_p8 : lw_okq (⟨"OnionNet", "linkUp", "(I)V"⟩, 11) := ⟨⟨by decide +kernel, by decide +kernel⟩, List.mem_of_getElem? (i := 27) (by decide +kernel), List.mem_of_getElem? (i := 457) (by decide +kernel), List.mem_of_getElem? (i := 458) (by decide +kernel)⟩
theorem lw_p9 : lw_okq (⟨"OnionNet", "relayAt", "(I)LOnionNet$Relay;"⟩, 11) := ⟨⟨by decide +kernel, by decide +kernel⟩, List.mem_of_getElem? (i := 27) (by decide +kernel), List.mem_of_getElem? (i := 461) (by decide +kernel), List.mem_of_getElem? (i := 462) (by decide +kernel)⟩
theorem lw_p10 : lw_okq (⟨"OnionNet", "clientAt", "(I)LOnionNet$Node;"⟩, 11) := ⟨⟨by decide +kernel, by decide +kernel⟩, List.mem_of_getElem? (i := 27) (by decide +kernel), List.mem_of_getElem? (i := 465) (by decide +kernel), List.mem_of_getElem? (i := 466) (by decide +kernel)⟩
theorem lw_p11 : lw_okq (⟨"OnionNet", "drawnRelay", "(II)I"⟩, 11) := ⟨⟨by decide +kernel, by decide +kernel⟩, List.mem_of_getElem? (i := 27) (by decide +kernel), List.mem_of_getElem? (i := 502) (by decide +kernel), List.mem_of_getElem? (i := 503) (by decide +kernel)⟩
theorem lw_p12 : lw_okq (⟨"OnionNet", "isPath", "(III)Z"⟩, 11) := ⟨⟨by decide +kernel, by decide +kernel⟩, List.mem_of_getElem? (i := 27) (by decide +kernel), List.mem_of_getElem? (i := 521) (by decide +kernel), List.mem_of_getElem? (i := 522) (by decide +kernel)⟩
theorem lw_p13 : lw_okq (⟨"OnionNet", "sendAll", "(I)V"⟩, 11) := ⟨⟨by decide +kernel, by decide +kernel⟩, List.mem_of_getElem? (i := 27) (by decide +kernel), List.mem_of_getElem? (i := 599) (by decide +kernel), List.mem_of_getElem? (i := 600) (by decide +kernel)⟩
theorem lw_p14 : lw_okq (⟨"OnionNet", "linkAt", "(II)LOnionNet$Link;"⟩, 11) := ⟨⟨by decide +kernel, by decide +kernel⟩, List.mem_of_getElem? (i := 27) (by decide +kernel), List.mem_of_getElem? (i := 603) (by decide +kernel), List.mem_of_getElem? (i := 604) (by decide +kernel)⟩
theorem lw_p15 : lw_okq (⟨"OnionNet", "circuitAt", "(I)LOnionNet$Circuit;"⟩, 11) := ⟨⟨by decide +kernel, by decide +kernel⟩, List.mem_of_getElem? (i := 27) (by decide +kernel), List.mem_of_getElem? (i := 623) (by decide +kernel), List.mem_of_getElem? (i := 624) (by decide +kernel)⟩
def lw_privs_1 : List (MethodName × Nat) := [(⟨"OnionNet$Handshake", "startLabelled", "(I)V"⟩, 13), (⟨"OnionNet$Sha", "mix", "()V"⟩, 3), (⟨"OnionNet$Curve", "readPoint", "([II)V"⟩, 11), (⟨"OnionNet$Curve", "climb", "([J[J[J[J)V"⟩, 11), (⟨"OnionNet$Curve", "multiply", "([J[J[J)V"⟩, 11), (⟨"OnionNet$Curve", "invert", "([J)V"⟩, 11), (⟨"OnionNet$Curve", "writeReduced", "([J[II)V"⟩, 11), (⟨"OnionNet$Curve", "carry", "([J)J"⟩, 11), (⟨"OnionNet", "linkUp", "(I)V"⟩, 11), (⟨"OnionNet", "relayAt", "(I)LOnionNet$Relay;"⟩, 11), (⟨"OnionNet", "clientAt", "(I)LOnionNet$Node;"⟩, 11), (⟨"OnionNet", "drawnRelay", "(II)I"⟩, 11), (⟨"OnionNet", "isPath", "(III)Z"⟩, 11), (⟨"OnionNet", "sendAll", "(I)V"⟩, 11), (⟨"OnionNet", "linkAt", "(II)LOnionNet$Link;"⟩, 11), (⟨"OnionNet", "circuitAt", "(I)LOnionNet$Circuit;"⟩, 11)]
theorem lw_r1 : ∀ q ∈ lw_privs_1, lw_okq q := List.forall_mem_cons.mpr ⟨lw_p0, List.forall_mem_cons.mpr ⟨lw_p1, List.forall_mem_cons.mpr ⟨lw_p2, List.forall_mem_cons.mpr ⟨lw_p3, List.forall_mem_cons.mpr ⟨lw_p4, List.forall_mem_cons.mpr ⟨lw_p5, List.forall_mem_cons.mpr ⟨lw_p6, List.forall_mem_cons.mpr ⟨lw_p7, List.forall_mem_cons.mpr ⟨lw_p8, List.forall_mem_cons.mpr ⟨lw_p9, List.forall_mem_cons.mpr ⟨lw_p10, List.forall_mem_cons.mpr ⟨lw_p11, List.forall_mem_cons.mpr ⟨lw_p12, List.forall_mem_cons.mpr ⟨lw_p13, List.forall_mem_cons.mpr ⟨lw_p14, List.forall_mem_cons.mpr ⟨lw_p15, fun _ h => absurd h List.not_mem_nil⟩⟩⟩⟩⟩⟩⟩⟩⟩⟩⟩⟩⟩⟩⟩⟩
theorem lw_p16 : lw_okq (⟨"OnionNet$Lane", "nextBlock", "()V"⟩, 7) := ⟨⟨by decide +kernel, by decide +kernel⟩, List.mem_of_getElem? (i := 257) (by decide +kernel), List.mem_of_getElem? (i := 698) (by decide +kernel), List.mem_of_getElem? (i := 699) (by decide +kernel)⟩
theorem lw_p17 : lw_okq (⟨"OnionNet$Lane", "quarter", "(IIII)V"⟩, 7) := ⟨⟨by decide +kernel, by decide +kernel⟩, List.mem_of_getElem? (i := 257) (by decide +kernel), List.mem_of_getElem? (i := 702) (by decide +kernel), List.mem_of_getElem? (i := 703) (by decide +kernel)⟩
theorem lw_p18 : lw_okq (⟨"OnionNet", "streamAt", "(II)LOnionNet$Stream;"⟩, 11) := ⟨⟨by decide +kernel, by decide +kernel⟩, List.mem_of_getElem? (i := 27) (by decide +kernel), List.mem_of_getElem? (i := 710) (by decide +kernel), List.mem_of_getElem? (i := 711) (by decide +kernel)⟩
theorem lw_p19 : lw_okq (⟨"OnionNet$Circuit", "endAll", "()V"⟩, 12) := ⟨⟨by decide +kernel, by decide +kernel⟩, List.mem_of_getElem? (i := 524) (by decide +kernel), List.mem_of_getElem? (i := 745) (by decide +kernel), List.mem_of_getElem? (i := 746) (by decide +kernel)⟩
theorem lw_p20 : lw_okq (⟨"OnionNet", "handOver", "(IILOnionNet$Link;)I"⟩, 11) := ⟨⟨by decide +kernel, by decide +kernel⟩, List.mem_of_getElem? (i := 27) (by decide +kernel), List.mem_of_getElem? (i := 753) (by decide +kernel), List.mem_of_getElem? (i := 754) (by decide +kernel)⟩
theorem lw_p21 : lw_okq (⟨"OnionNet", "circuitBy", "(III)LOnionNet$Circuit;"⟩, 11) := ⟨⟨by decide +kernel, by decide +kernel⟩, List.mem_of_getElem? (i := 27) (by decide +kernel), List.mem_of_getElem? (i := 767) (by decide +kernel), List.mem_of_getElem? (i := 768) (by decide +kernel)⟩
theorem lw_p22 : lw_okq (⟨"OnionNet$Relay", "entryFrom", "(II)LOnionNet$Entry;"⟩, 10) := ⟨⟨by decide +kernel, by decide +kernel⟩, List.mem_of_getElem? (i := 220) (by decide +kernel), List.mem_of_getElem? (i := 776) (by decide +kernel), List.mem_of_getElem? (i := 777) (by decide +kernel)⟩
theorem lw_p23 : lw_okq (⟨"OnionNet$Relay", "entryTo", "(II)LOnionNet$Entry;"⟩, 10) := ⟨⟨by decide +kernel, by decide +kernel⟩, List.mem_of_getElem? (i := 220) (by decide +kernel), List.mem_of_getElem? (i := 780) (by decide +kernel), List.mem_of_getElem? (i := 781) (by decide +kernel)⟩
theorem lw_p24 : lw_okq (⟨"OnionNet$Relay", "create", "(II[ILOnionNet$Outbox;)V"⟩, 10) := ⟨⟨by decide +kernel, by decide +kernel⟩, List.mem_of_getElem? (i := 220) (by decide +kernel), List.mem_of_getElem? (i := 784) (by decide +kernel), List.mem_of_getElem? (i := 785) (by decide +kernel)⟩
theorem lw_p25 : lw_okq (⟨"OnionNet$Relay", "isMine", "([I)Z"⟩, 10) := ⟨⟨by decide +kernel, by decide +kernel⟩, List.mem_of_getElem? (i := 220) (by decide +kernel), List.mem_of_getElem? (i := 788) (by decide +kernel), List.mem_of_getElem? (i := 789) (by decide +kernel)⟩
theorem lw_p26 : lw_okq (⟨"OnionNet$Relay", "freeEntry", "()LOnionNet$Entry;"⟩, 10) := ⟨⟨by decide +kernel, by decide +kernel⟩, List.mem_of_getElem? (i := 220) (by decide +kernel), List.mem_of_getElem? (i := 792) (by decide +kernel), List.mem_of_getElem? (i := 793) (by decide +kernel)⟩
theorem lw_p27 : lw_okq (⟨"OnionNet$Handshake", "hmac", "([I[II[I)V"⟩, 13) := ⟨⟨by decide +kernel, by decide +kernel⟩, List.mem_of_getElem? (i := 43) (by decide +kernel), List.mem_of_getElem? (i := 805) (by decide +kernel), List.mem_of_getElem? (i := 806) (by decide +kernel)⟩
theorem lw_p28 : lw_okq (⟨"OnionNet$Relay", "sendExtended", "(LOnionNet$Entry;[ILOnionNet$Outbox;)V"⟩, 10) := ⟨⟨by decide +kernel, by decide +kernel⟩, List.mem_of_getElem? (i := 220) (by decide +kernel), List.mem_of_getElem? (i := 824) (by decide +kernel), List.mem_of_getElem? (i := 825) (by decide +kernel)⟩
theorem lw_p29 : lw_okq (⟨"OnionNet$Relay", "takeForward", "(LOnionNet$Entry;[ILOnionNet$Outbox;)V"⟩, 10) := ⟨⟨by decide +kernel, by decide +kernel⟩, List.mem_of_getElem? (i := 220) (by decide +kernel), List.mem_of_getElem? (i := 836) (by decide +kernel), List.mem_of_getElem? (i := 837) (by decide +kernel)⟩
theorem lw_p30 : lw_okq (⟨"OnionNet$Relay", "doPayload", "(LOnionNet$Entry;[ILOnionNet$Outbox;)Z"⟩, 10) := ⟨⟨by decide +kernel, by decide +kernel⟩, List.mem_of_getElem? (i := 220) (by decide +kernel), List.mem_of_getElem? (i := 848) (by decide +kernel), List.mem_of_getElem? (i := 849) (by decide +kernel)⟩
theorem lw_p31 : lw_okq (⟨"OnionNet$Relay", "extendEntry", "(LOnionNet$Entry;[ILOnionNet$Outbox;)Z"⟩, 10) := ⟨⟨by decide +kernel, by decide +kernel⟩, List.mem_of_getElem? (i := 220) (by decide +kernel), List.mem_of_getElem? (i := 857) (by decide +kernel), List.mem_of_getElem? (i := 858) (by decide +kernel)⟩
def lw_privs_2 : List (MethodName × Nat) := [(⟨"OnionNet$Lane", "nextBlock", "()V"⟩, 7), (⟨"OnionNet$Lane", "quarter", "(IIII)V"⟩, 7), (⟨"OnionNet", "streamAt", "(II)LOnionNet$Stream;"⟩, 11), (⟨"OnionNet$Circuit", "endAll", "()V"⟩, 12), (⟨"OnionNet", "handOver", "(IILOnionNet$Link;)I"⟩, 11), (⟨"OnionNet", "circuitBy", "(III)LOnionNet$Circuit;"⟩, 11), (⟨"OnionNet$Relay", "entryFrom", "(II)LOnionNet$Entry;"⟩, 10), (⟨"OnionNet$Relay", "entryTo", "(II)LOnionNet$Entry;"⟩, 10), (⟨"OnionNet$Relay", "create", "(II[ILOnionNet$Outbox;)V"⟩, 10), (⟨"OnionNet$Relay", "isMine", "([I)Z"⟩, 10), (⟨"OnionNet$Relay", "freeEntry", "()LOnionNet$Entry;"⟩, 10), (⟨"OnionNet$Handshake", "hmac", "([I[II[I)V"⟩, 13), (⟨"OnionNet$Relay", "sendExtended", "(LOnionNet$Entry;[ILOnionNet$Outbox;)V"⟩, 10), (⟨"OnionNet$Relay", "takeForward", "(LOnionNet$Entry;[ILOnionNet$Outbox;)V"⟩, 10), (⟨"OnionNet$Relay", "doPayload", "(LOnionNet$Entry;[ILOnionNet$Outbox;)Z"⟩, 10), (⟨"OnionNet$Relay", "extendEntry", "(LOnionNet$Entry;[ILOnionNet$Outbox;)Z"⟩, 10)]
theorem lw_r2 : ∀ q ∈ lw_privs_2, lw_okq q := List.forall_mem_cons.mpr ⟨lw_p16, List.forall_mem_cons.mpr ⟨lw_p17, List.forall_mem_cons.mpr ⟨lw_p18, List.forall_mem_cons.mpr ⟨lw_p19, List.forall_mem_cons.mpr ⟨lw_p20, List.forall_mem_cons.mpr ⟨lw_p21, List.forall_mem_cons.mpr ⟨lw_p22, List.forall_mem_cons.mpr ⟨lw_p23, List.forall_mem_cons.mpr ⟨lw_p24, List.forall_mem_cons.mpr ⟨lw_p25, List.forall_mem_cons.mpr ⟨lw_p26, List.forall_mem_cons.mpr ⟨lw_p27, List.forall_mem_cons.mpr ⟨lw_p28, List.forall_mem_cons.mpr ⟨lw_p29, List.forall_mem_cons.mpr ⟨lw_p30, List.forall_mem_cons.mpr ⟨lw_p31, fun _ h => absurd h List.not_mem_nil⟩⟩⟩⟩⟩⟩⟩⟩⟩⟩⟩⟩⟩⟩⟩⟩
theorem lw_p32 : lw_okq (⟨"OnionNet$Relay", "beginStream", "(LOnionNet$Entry;I[ILOnionNet$Outbox;)Z"⟩, 10) := ⟨⟨by decide +kernel, by decide +kernel⟩, List.mem_of_getElem? (i := 220) (by decide +kernel), List.mem_of_getElem? (i := 861) (by decide +kernel), List.mem_of_getElem? (i := 862) (by decide +kernel)⟩
theorem lw_p33 : lw_okq (⟨"OnionNet$Relay", "takeData", "(LOnionNet$Entry;I[ILOnionNet$Outbox;)V"⟩, 10) := ⟨⟨by decide +kernel, by decide +kernel⟩, List.mem_of_getElem? (i := 220) (by decide +kernel), List.mem_of_getElem? (i := 869) (by decide +kernel), List.mem_of_getElem? (i := 870) (by decide +kernel)⟩
theorem lw_p34 : lw_okq (⟨"OnionNet$Relay", "destroyBoth", "(LOnionNet$Entry;LOnionNet$Outbox;)V"⟩, 10) := ⟨⟨by decide +kernel, by decide +kernel⟩, List.mem_of_getElem? (i := 220) (by decide +kernel), List.mem_of_getElem? (i := 882) (by decide +kernel), List.mem_of_getElem? (i := 883) (by decide +kernel)⟩
theorem lw_p35 : lw_okq (⟨"OnionNet$Relay", "destroyBack", "(LOnionNet$Entry;LOnionNet$Outbox;)V"⟩, 10) := ⟨⟨by decide +kernel, by decide +kernel⟩, List.mem_of_getElem? (i := 220) (by decide +kernel), List.mem_of_getElem? (i := 886) (by decide +kernel), List.mem_of_getElem? (i := 887) (by decide +kernel)⟩
theorem lw_p36 : lw_okq (⟨"OnionNet$Relay", "destroyOn", "(LOnionNet$Entry;LOnionNet$Outbox;)V"⟩, 10) := ⟨⟨by decide +kernel, by decide +kernel⟩, List.mem_of_getElem? (i := 220) (by decide +kernel), List.mem_of_getElem? (i := 890) (by decide +kernel), List.mem_of_getElem? (i := 891) (by decide +kernel)⟩
theorem lw_p37 : lw_okq (⟨"OnionNet$Circuit", "join", "([IILOnionNet$Outbox;)V"⟩, 12) := ⟨⟨by decide +kernel, by decide +kernel⟩, List.mem_of_getElem? (i := 524) (by decide +kernel), List.mem_of_getElem? (i := 903) (by decide +kernel), List.mem_of_getElem? (i := 904) (by decide +kernel)⟩
theorem lw_p38 : lw_okq (⟨"OnionNet$Circuit", "peel", "([I)Z"⟩, 12) := ⟨⟨by decide +kernel, by decide +kernel⟩, List.mem_of_getElem? (i := 524) (by decide +kernel), List.mem_of_getElem? (i := 914) (by decide +kernel), List.mem_of_getElem? (i := 915) (by decide +kernel)⟩
theorem lw_p39 : lw_okq (⟨"OnionNet$Circuit", "isExtended", "([I)Z"⟩, 12) := ⟨⟨by decide +kernel, by decide +kernel⟩, List.mem_of_getElem? (i := 524) (by decide +kernel), List.mem_of_getElem? (i := 919) (by decide +kernel), List.mem_of_getElem? (i := 920) (by decide +kernel)⟩
theorem lw_p40 : lw_okq (⟨"OnionNet$Circuit", "doPayload", "([ILOnionNet$Outbox;)V"⟩, 12) := ⟨⟨by decide +kernel, by decide +kernel⟩, List.mem_of_getElem? (i := 524) (by decide +kernel), List.mem_of_getElem? (i := 924) (by decide +kernel), List.mem_of_getElem? (i := 925) (by decide +kernel)⟩
theorem lw_p41 : lw_okq (⟨"OnionNet$Circuit", "takeData", "(LOnionNet$Stream;I[ILOnionNet$Outbox;)V"⟩, 12) := ⟨⟨by decide +kernel, by decide +kernel⟩, List.mem_of_getElem? (i := 524) (by decide +kernel), List.mem_of_getElem? (i := 929) (by decide +kernel), List.mem_of_getElem? (i := 930) (by decide +kernel)⟩
theorem lw_p42 : lw_okq (⟨"OnionNetModel", "rootPart", "(I)I"⟩, 38) := ⟨⟨by decide +kernel, by decide +kernel⟩, List.mem_of_getElem? (i := 994) (by decide +kernel), List.mem_of_getElem? (i := 1021) (by decide +kernel), List.mem_of_getElem? (i := 1022) (by decide +kernel)⟩
theorem lw_p43 : lw_okq (⟨"OnionNetModel", "cubeFits", "(JI)Z"⟩, 38) := ⟨⟨by decide +kernel, by decide +kernel⟩, List.mem_of_getElem? (i := 994) (by decide +kernel), List.mem_of_getElem? (i := 1025) (by decide +kernel), List.mem_of_getElem? (i := 1026) (by decide +kernel)⟩
theorem lw_p44 : lw_okq (⟨"OnionNetModel", "hashName", "(I)V"⟩, 38) := ⟨⟨by decide +kernel, by decide +kernel⟩, List.mem_of_getElem? (i := 994) (by decide +kernel), List.mem_of_getElem? (i := 1212) (by decide +kernel), List.mem_of_getElem? (i := 1213) (by decide +kernel)⟩
theorem lw_p45 : lw_okq (⟨"OnionNetModel", "hash", "(I)V"⟩, 38) := ⟨⟨by decide +kernel, by decide +kernel⟩, List.mem_of_getElem? (i := 994) (by decide +kernel), List.mem_of_getElem? (i := 1257) (by decide +kernel), List.mem_of_getElem? (i := 1258) (by decide +kernel)⟩
theorem lw_p46 : lw_okq (⟨"OnionNetModel$Sha", "block", "([I)V"⟩, 3) := ⟨⟨by decide +kernel, by decide +kernel⟩, List.mem_of_getElem? (i := 1005) (by decide +kernel), List.mem_of_getElem? (i := 1266) (by decide +kernel), List.mem_of_getElem? (i := 1267) (by decide +kernel)⟩
theorem lw_p47 : lw_okq (⟨"OnionNetModel", "hashLong", "(J)V"⟩, 38) := ⟨⟨by decide +kernel, by decide +kernel⟩, List.mem_of_getElem? (i := 994) (by decide +kernel), List.mem_of_getElem? (i := 1273) (by decide +kernel), List.mem_of_getElem? (i := 1274) (by decide +kernel)⟩
def lw_privs_3 : List (MethodName × Nat) := [(⟨"OnionNet$Relay", "beginStream", "(LOnionNet$Entry;I[ILOnionNet$Outbox;)Z"⟩, 10), (⟨"OnionNet$Relay", "takeData", "(LOnionNet$Entry;I[ILOnionNet$Outbox;)V"⟩, 10), (⟨"OnionNet$Relay", "destroyBoth", "(LOnionNet$Entry;LOnionNet$Outbox;)V"⟩, 10), (⟨"OnionNet$Relay", "destroyBack", "(LOnionNet$Entry;LOnionNet$Outbox;)V"⟩, 10), (⟨"OnionNet$Relay", "destroyOn", "(LOnionNet$Entry;LOnionNet$Outbox;)V"⟩, 10), (⟨"OnionNet$Circuit", "join", "([IILOnionNet$Outbox;)V"⟩, 12), (⟨"OnionNet$Circuit", "peel", "([I)Z"⟩, 12), (⟨"OnionNet$Circuit", "isExtended", "([I)Z"⟩, 12), (⟨"OnionNet$Circuit", "doPayload", "([ILOnionNet$Outbox;)V"⟩, 12), (⟨"OnionNet$Circuit", "takeData", "(LOnionNet$Stream;I[ILOnionNet$Outbox;)V"⟩, 12), (⟨"OnionNetModel", "rootPart", "(I)I"⟩, 38), (⟨"OnionNetModel", "cubeFits", "(JI)Z"⟩, 38), (⟨"OnionNetModel", "hashName", "(I)V"⟩, 38), (⟨"OnionNetModel", "hash", "(I)V"⟩, 38), (⟨"OnionNetModel$Sha", "block", "([I)V"⟩, 3), (⟨"OnionNetModel", "hashLong", "(J)V"⟩, 38)]
theorem lw_r3 : ∀ q ∈ lw_privs_3, lw_okq q := List.forall_mem_cons.mpr ⟨lw_p32, List.forall_mem_cons.mpr ⟨lw_p33, List.forall_mem_cons.mpr ⟨lw_p34, List.forall_mem_cons.mpr ⟨lw_p35, List.forall_mem_cons.mpr ⟨lw_p36, List.forall_mem_cons.mpr ⟨lw_p37, List.forall_mem_cons.mpr ⟨lw_p38, List.forall_mem_cons.mpr ⟨lw_p39, List.forall_mem_cons.mpr ⟨lw_p40, List.forall_mem_cons.mpr ⟨lw_p41, List.forall_mem_cons.mpr ⟨lw_p42, List.forall_mem_cons.mpr ⟨lw_p43, List.forall_mem_cons.mpr ⟨lw_p44, List.forall_mem_cons.mpr ⟨lw_p45, List.forall_mem_cons.mpr ⟨lw_p46, List.forall_mem_cons.mpr ⟨lw_p47, fun _ h => absurd h List.not_mem_nil⟩⟩⟩⟩⟩⟩⟩⟩⟩⟩⟩⟩⟩⟩⟩⟩
theorem lw_p48 : lw_okq (⟨"OnionNetModel", "base", "()V"⟩, 38) := ⟨⟨by decide +kernel, by decide +kernel⟩, List.mem_of_getElem? (i := 994) (by decide +kernel), List.mem_of_getElem? (i := 1286) (by decide +kernel), List.mem_of_getElem? (i := 1287) (by decide +kernel)⟩
theorem lw_p49 : lw_okq (⟨"OnionNetModel", "curve", "([I[I[I)V"⟩, 38) := ⟨⟨by decide +kernel, by decide +kernel⟩, List.mem_of_getElem? (i := 994) (by decide +kernel), List.mem_of_getElem? (i := 1290) (by decide +kernel), List.mem_of_getElem? (i := 1291) (by decide +kernel)⟩
theorem lw_p50 : lw_okq (⟨"OnionNetModel", "step", "()V"⟩, 38) := ⟨⟨by decide +kernel, by decide +kernel⟩, List.mem_of_getElem? (i := 994) (by decide +kernel), List.mem_of_getElem? (i := 1303) (by decide +kernel), List.mem_of_getElem? (i := 1304) (by decide +kernel)⟩
theorem lw_p51 : lw_okq (⟨"OnionNetModel", "mulParts", "([J[J[J)V"⟩, 38) := ⟨⟨by decide +kernel, by decide +kernel⟩, List.mem_of_getElem? (i := 994) (by decide +kernel), List.mem_of_getElem? (i := 1318) (by decide +kernel), List.mem_of_getElem? (i := 1319) (by decide +kernel)⟩
theorem lw_p52 : lw_okq (⟨"OnionNetModel", "invertParts", "([J[J)V"⟩, 38) := ⟨⟨by decide +kernel, by decide +kernel⟩, List.mem_of_getElem? (i := 994) (by decide +kernel), List.mem_of_getElem? (i := 1323) (by decide +kernel), List.mem_of_getElem? (i := 1324) (by decide +kernel)⟩
theorem lw_p53 : lw_okq (⟨"OnionNetModel", "hashAll", "([II)V"⟩, 38) := ⟨⟨by decide +kernel, by decide +kernel⟩, List.mem_of_getElem? (i := 994) (by decide +kernel), List.mem_of_getElem? (i := 1331) (by decide +kernel), List.mem_of_getElem? (i := 1332) (by decide +kernel)⟩
theorem lw_p54 : lw_okq (⟨"OnionNetModel", "isRelay", "(I)Z"⟩, 38) := ⟨⟨by decide +kernel, by decide +kernel⟩, List.mem_of_getElem? (i := 994) (by decide +kernel), List.mem_of_getElem? (i := 1420) (by decide +kernel), List.mem_of_getElem? (i := 1421) (by decide +kernel)⟩
theorem lw_p55 : lw_okq (⟨"OnionNetModel", "isClient", "(I)Z"⟩, 38) := ⟨⟨by decide +kernel, by decide +kernel⟩, List.mem_of_getElem? (i := 994) (by decide +kernel), List.mem_of_getElem? (i := 1441) (by decide +kernel), List.mem_of_getElem? (i := 1442) (by decide +kernel)⟩
theorem lw_p56 : lw_okq (⟨"OnionNetModel", "begin", "(LOnionNetModel$Circuit;LOnionNetModel$Relay;)V"⟩, 38) := ⟨⟨by decide +kernel, by decide +kernel⟩, List.mem_of_getElem? (i := 994) (by decide +kernel), List.mem_of_getElem? (i := 1513) (by decide +kernel), List.mem_of_getElem? (i := 1514) (by decide +kernel)⟩
theorem lw_p57 : lw_okq (⟨"OnionNetModel", "draw", "(JI[I)V"⟩, 38) := ⟨⟨by decide +kernel, by decide +kernel⟩, List.mem_of_getElem? (i := 994) (by decide +kernel), List.mem_of_getElem? (i := 1517) (by decide +kernel), List.mem_of_getElem? (i := 1518) (by decide +kernel)⟩
theorem lw_p58 : lw_okq (⟨"OnionNetModel", "lay", "(IIII[II)V"⟩, 38) := ⟨⟨by decide +kernel, by decide +kernel⟩, List.mem_of_getElem? (i := 994) (by decide +kernel), List.mem_of_getElem? (i := 1521) (by decide +kernel), List.mem_of_getElem? (i := 1522) (by decide +kernel)⟩
theorem lw_p59 : lw_okq (⟨"OnionNetModel", "isCircuit", "(I)Z"⟩, 38) := ⟨⟨by decide +kernel, by decide +kernel⟩, List.mem_of_getElem? (i := 994) (by decide +kernel), List.mem_of_getElem? (i := 1529) (by decide +kernel), List.mem_of_getElem? (i := 1530) (by decide +kernel)⟩
theorem lw_p60 : lw_okq (⟨"OnionNetModel", "forth", "(LOnionNetModel$Circuit;III[I)V"⟩, 38) := ⟨⟨by decide +kernel, by decide +kernel⟩, List.mem_of_getElem? (i := 994) (by decide +kernel), List.mem_of_getElem? (i := 1533) (by decide +kernel), List.mem_of_getElem? (i := 1534) (by decide +kernel)⟩
theorem lw_p61 : lw_okq (⟨"OnionNetModel", "make", "(III[ILOnionNetModel$Sha;)V"⟩, 38) := ⟨⟨by decide +kernel, by decide +kernel⟩, List.mem_of_getElem? (i := 994) (by decide +kernel), List.mem_of_getElem? (i := 1537) (by decide +kernel), List.mem_of_getElem? (i := 1538) (by decide +kernel)⟩
theorem lw_p62 : lw_okq (⟨"OnionNetModel", "due", "(LOnionNetModel$Sha;)V"⟩, 38) := ⟨⟨by decide +kernel, by decide +kernel⟩, List.mem_of_getElem? (i := 994) (by decide +kernel), List.mem_of_getElem? (i := 1541) (by decide +kernel), List.mem_of_getElem? (i := 1542) (by decide +kernel)⟩
theorem lw_p63 : lw_okq (⟨"OnionNetModel", "coverForwards", "(LOnionNetModel$Layer;)V"⟩, 38) := ⟨⟨by decide +kernel, by decide +kernel⟩, List.mem_of_getElem? (i := 994) (by decide +kernel), List.mem_of_getElem? (i := 1549) (by decide +kernel), List.mem_of_getElem? (i := 1550) (by decide +kernel)⟩
def lw_privs_4 : List (MethodName × Nat) := [(⟨"OnionNetModel", "base", "()V"⟩, 38), (⟨"OnionNetModel", "curve", "([I[I[I)V"⟩, 38), (⟨"OnionNetModel", "step", "()V"⟩, 38), (⟨"OnionNetModel", "mulParts", "([J[J[J)V"⟩, 38), (⟨"OnionNetModel", "invertParts", "([J[J)V"⟩, 38), (⟨"OnionNetModel", "hashAll", "([II)V"⟩, 38), (⟨"OnionNetModel", "isRelay", "(I)Z"⟩, 38), (⟨"OnionNetModel", "isClient", "(I)Z"⟩, 38), (⟨"OnionNetModel", "begin", "(LOnionNetModel$Circuit;LOnionNetModel$Relay;)V"⟩, 38), (⟨"OnionNetModel", "draw", "(JI[I)V"⟩, 38), (⟨"OnionNetModel", "lay", "(IIII[II)V"⟩, 38), (⟨"OnionNetModel", "isCircuit", "(I)Z"⟩, 38), (⟨"OnionNetModel", "forth", "(LOnionNetModel$Circuit;III[I)V"⟩, 38), (⟨"OnionNetModel", "make", "(III[ILOnionNetModel$Sha;)V"⟩, 38), (⟨"OnionNetModel", "due", "(LOnionNetModel$Sha;)V"⟩, 38), (⟨"OnionNetModel", "coverForwards", "(LOnionNetModel$Layer;)V"⟩, 38)]
theorem lw_r4 : ∀ q ∈ lw_privs_4, lw_okq q := List.forall_mem_cons.mpr ⟨lw_p48, List.forall_mem_cons.mpr ⟨lw_p49, List.forall_mem_cons.mpr ⟨lw_p50, List.forall_mem_cons.mpr ⟨lw_p51, List.forall_mem_cons.mpr ⟨lw_p52, List.forall_mem_cons.mpr ⟨lw_p53, List.forall_mem_cons.mpr ⟨lw_p54, List.forall_mem_cons.mpr ⟨lw_p55, List.forall_mem_cons.mpr ⟨lw_p56, List.forall_mem_cons.mpr ⟨lw_p57, List.forall_mem_cons.mpr ⟨lw_p58, List.forall_mem_cons.mpr ⟨lw_p59, List.forall_mem_cons.mpr ⟨lw_p60, List.forall_mem_cons.mpr ⟨lw_p61, List.forall_mem_cons.mpr ⟨lw_p62, List.forall_mem_cons.mpr ⟨lw_p63, fun _ h => absurd h List.not_mem_nil⟩⟩⟩⟩⟩⟩⟩⟩⟩⟩⟩⟩⟩⟩⟩⟩
theorem lw_p64 : lw_okq (⟨"OnionNetModel", "cover", "([IJ)V"⟩, 38) := ⟨⟨by decide +kernel, by decide +kernel⟩, List.mem_of_getElem? (i := 994) (by decide +kernel), List.mem_of_getElem? (i := 1553) (by decide +kernel), List.mem_of_getElem? (i := 1554) (by decide +kernel)⟩
theorem lw_p65 : lw_okq (⟨"OnionNetModel", "streamBlock", "([II)V"⟩, 38) := ⟨⟨by decide +kernel, by decide +kernel⟩, List.mem_of_getElem? (i := 994) (by decide +kernel), List.mem_of_getElem? (i := 1559) (by decide +kernel), List.mem_of_getElem? (i := 1560) (by decide +kernel)⟩
theorem lw_p66 : lw_okq (⟨"OnionNetModel", "quarter", "(IIII)V"⟩, 38) := ⟨⟨by decide +kernel, by decide +kernel⟩, List.mem_of_getElem? (i := 994) (by decide +kernel), List.mem_of_getElem? (i := 1564) (by decide +kernel), List.mem_of_getElem? (i := 1565) (by decide +kernel)⟩
theorem lw_p67 : lw_okq (⟨"OnionNetModel", "isStream", "(II)Z"⟩, 38) := ⟨⟨by decide +kernel, by decide +kernel⟩, List.mem_of_getElem? (i := 994) (by decide +kernel), List.mem_of_getElem? (i := 1576) (by decide +kernel), List.mem_of_getElem? (i := 1577) (by decide +kernel)⟩
theorem lw_p68 : lw_okq (⟨"OnionNetModel", "destroyed", "(LOnionNetModel$Circuit;)V"⟩, 38) := ⟨⟨by decide +kernel, by decide +kernel⟩, List.mem_of_getElem? (i := 994) (by decide +kernel), List.mem_of_getElem? (i := 1592) (by decide +kernel), List.mem_of_getElem? (i := 1593) (by decide +kernel)⟩
theorem lw_p69 : lw_okq (⟨"OnionNetModel", "gone", "(LOnionNetModel$Circuit;)V"⟩, 38) := ⟨⟨by decide +kernel, by decide +kernel⟩, List.mem_of_getElem? (i := 994) (by decide +kernel), List.mem_of_getElem? (i := 1596) (by decide +kernel), List.mem_of_getElem? (i := 1597) (by decide +kernel)⟩
theorem lw_p70 : lw_okq (⟨"OnionNetModel", "lies", "(II)Z"⟩, 38) := ⟨⟨by decide +kernel, by decide +kernel⟩, List.mem_of_getElem? (i := 994) (by decide +kernel), List.mem_of_getElem? (i := 1604) (by decide +kernel), List.mem_of_getElem? (i := 1605) (by decide +kernel)⟩
theorem lw_p71 : lw_okq (⟨"OnionNetModel", "isLink", "(II)Z"⟩, 38) := ⟨⟨by decide +kernel, by decide +kernel⟩, List.mem_of_getElem? (i := 994) (by decide +kernel), List.mem_of_getElem? (i := 1608) (by decide +kernel), List.mem_of_getElem? (i := 1609) (by decide +kernel)⟩
theorem lw_p72 : lw_okq (⟨"OnionNetModel", "hand", "(II)I"⟩, 38) := ⟨⟨by decide +kernel, by decide +kernel⟩, List.mem_of_getElem? (i := 994) (by decide +kernel), List.mem_of_getElem? (i := 1612) (by decide +kernel), List.mem_of_getElem? (i := 1613) (by decide +kernel)⟩
theorem lw_p73 : lw_okq (⟨"OnionNetModel", "takeFirst", "(II)V"⟩, 38) := ⟨⟨by decide +kernel, by decide +kernel⟩, List.mem_of_getElem? (i := 994) (by decide +kernel), List.mem_of_getElem? (i := 1616) (by decide +kernel), List.mem_of_getElem? (i := 1617) (by decide +kernel)⟩
theorem lw_p74 : lw_okq (⟨"OnionNetModel", "relayTakes", "(II)V"⟩, 38) := ⟨⟨by decide +kernel, by decide +kernel⟩, List.mem_of_getElem? (i := 994) (by decide +kernel), List.mem_of_getElem? (i := 1620) (by decide +kernel), List.mem_of_getElem? (i := 1621) (by decide +kernel)⟩
theorem lw_p75 : lw_okq (⟨"OnionNetModel", "numberOf", "()I"⟩, 38) := ⟨⟨by decide +kernel, by decide +kernel⟩, List.mem_of_getElem? (i := 994) (by decide +kernel), List.mem_of_getElem? (i := 1624) (by decide +kernel), List.mem_of_getElem? (i := 1625) (by decide +kernel)⟩
theorem lw_p76 : lw_okq (⟨"OnionNetModel", "created", "(III)V"⟩, 38) := ⟨⟨by decide +kernel, by decide +kernel⟩, List.mem_of_getElem? (i := 994) (by decide +kernel), List.mem_of_getElem? (i := 1628) (by decide +kernel), List.mem_of_getElem? (i := 1629) (by decide +kernel)⟩
theorem lw_p77 : lw_okq (⟨"OnionNetModel", "cameFrom", "(LOnionNetModel$Relay;II)LOnionNetModel$Entry;"⟩, 38) := ⟨⟨by decide +kernel, by decide +kernel⟩, List.mem_of_getElem? (i := 994) (by decide +kernel), List.mem_of_getElem? (i := 1632) (by decide +kernel), List.mem_of_getElem? (i := 1633) (by decide +kernel)⟩
theorem lw_p78 : lw_okq (⟨"OnionNetModel", "secretText", "([I[ILOnionNetModel$Relay;[II[II)I"⟩, 38) := ⟨⟨by decide +kernel, by decide +kernel⟩, List.mem_of_getElem? (i := 994) (by decide +kernel), List.mem_of_getElem? (i := 1636) (by decide +kernel), List.mem_of_getElem? (i := 1637) (by decide +kernel)⟩
theorem lw_p79 : lw_okq (⟨"OnionNetModel", "keyName", "(I)V"⟩, 38) := ⟨⟨by decide +kernel, by decide +kernel⟩, List.mem_of_getElem? (i := 994) (by decide +kernel), List.mem_of_getElem? (i := 1640) (by decide +kernel), List.mem_of_getElem? (i := 1641) (by decide +kernel)⟩
def lw_privs_5 : List (MethodName × Nat) := [(⟨"OnionNetModel", "cover", "([IJ)V"⟩, 38), (⟨"OnionNetModel", "streamBlock", "([II)V"⟩, 38), (⟨"OnionNetModel", "quarter", "(IIII)V"⟩, 38), (⟨"OnionNetModel", "isStream", "(II)Z"⟩, 38), (⟨"OnionNetModel", "destroyed", "(LOnionNetModel$Circuit;)V"⟩, 38), (⟨"OnionNetModel", "gone", "(LOnionNetModel$Circuit;)V"⟩, 38), (⟨"OnionNetModel", "lies", "(II)Z"⟩, 38), (⟨"OnionNetModel", "isLink", "(II)Z"⟩, 38), (⟨"OnionNetModel", "hand", "(II)I"⟩, 38), (⟨"OnionNetModel", "takeFirst", "(II)V"⟩, 38), (⟨"OnionNetModel", "relayTakes", "(II)V"⟩, 38), (⟨"OnionNetModel", "numberOf", "()I"⟩, 38), (⟨"OnionNetModel", "created", "(III)V"⟩, 38), (⟨"OnionNetModel", "cameFrom", "(LOnionNetModel$Relay;II)LOnionNetModel$Entry;"⟩, 38), (⟨"OnionNetModel", "secretText", "([I[ILOnionNetModel$Relay;[II[II)I"⟩, 38), (⟨"OnionNetModel", "keyName", "(I)V"⟩, 38)]
theorem lw_r5 : ∀ q ∈ lw_privs_5, lw_okq q := List.forall_mem_cons.mpr ⟨lw_p64, List.forall_mem_cons.mpr ⟨lw_p65, List.forall_mem_cons.mpr ⟨lw_p66, List.forall_mem_cons.mpr ⟨lw_p67, List.forall_mem_cons.mpr ⟨lw_p68, List.forall_mem_cons.mpr ⟨lw_p69, List.forall_mem_cons.mpr ⟨lw_p70, List.forall_mem_cons.mpr ⟨lw_p71, List.forall_mem_cons.mpr ⟨lw_p72, List.forall_mem_cons.mpr ⟨lw_p73, List.forall_mem_cons.mpr ⟨lw_p74, List.forall_mem_cons.mpr ⟨lw_p75, List.forall_mem_cons.mpr ⟨lw_p76, List.forall_mem_cons.mpr ⟨lw_p77, List.forall_mem_cons.mpr ⟨lw_p78, List.forall_mem_cons.mpr ⟨lw_p79, fun _ h => absurd h List.not_mem_nil⟩⟩⟩⟩⟩⟩⟩⟩⟩⟩⟩⟩⟩⟩⟩⟩
theorem lw_p80 : lw_okq (⟨"OnionNetModel", "mac", "(II[I)V"⟩, 38) := ⟨⟨by decide +kernel, by decide +kernel⟩, List.mem_of_getElem? (i := 994) (by decide +kernel), List.mem_of_getElem? (i := 1644) (by decide +kernel), List.mem_of_getElem? (i := 1645) (by decide +kernel)⟩
theorem lw_p81 : lw_okq (⟨"OnionNetModel", "keys", "(ILOnionNetModel$Layer;)V"⟩, 38) := ⟨⟨by decide +kernel, by decide +kernel⟩, List.mem_of_getElem? (i := 994) (by decide +kernel), List.mem_of_getElem? (i := 1648) (by decide +kernel), List.mem_of_getElem? (i := 1649) (by decide +kernel)⟩
theorem lw_p82 : lw_okq (⟨"OnionNetModel", "begin", "(LOnionNetModel$Sha;I)V"⟩, 38) := ⟨⟨by decide +kernel, by decide +kernel⟩, List.mem_of_getElem? (i := 994) (by decide +kernel), List.mem_of_getElem? (i := 1652) (by decide +kernel), List.mem_of_getElem? (i := 1653) (by decide +kernel)⟩
theorem lw_p83 : lw_okq (⟨"OnionNetModel", "derive", "(I[I)V"⟩, 38) := ⟨⟨by decide +kernel, by decide +kernel⟩, List.mem_of_getElem? (i := 994) (by decide +kernel), List.mem_of_getElem? (i := 1656) (by decide +kernel), List.mem_of_getElem? (i := 1657) (by decide +kernel)⟩
theorem lw_p84 : lw_okq (⟨"OnionNetModel", "remove", "(LOnionNetModel$Relay;LOnionNetModel$Entry;)V"⟩, 38) := ⟨⟨by decide +kernel, by decide +kernel⟩, List.mem_of_getElem? (i := 994) (by decide +kernel), List.mem_of_getElem? (i := 1660) (by decide +kernel), List.mem_of_getElem? (i := 1661) (by decide +kernel)⟩
theorem lw_p85 : lw_okq (⟨"OnionNetModel", "goesOn", "(LOnionNetModel$Relay;II)LOnionNetModel$Entry;"⟩, 38) := ⟨⟨by decide +kernel, by decide +kernel⟩, List.mem_of_getElem? (i := 994) (by decide +kernel), List.mem_of_getElem? (i := 1664) (by decide +kernel), List.mem_of_getElem? (i := 1665) (by decide +kernel)⟩
theorem lw_p86 : lw_okq (⟨"OnionNetModel", "back", "(ILOnionNetModel$Entry;III[I)V"⟩, 38) := ⟨⟨by decide +kernel, by decide +kernel⟩, List.mem_of_getElem? (i := 994) (by decide +kernel), List.mem_of_getElem? (i := 1668) (by decide +kernel), List.mem_of_getElem? (i := 1669) (by decide +kernel)⟩
theorem lw_p87 : lw_okq (⟨"OnionNetModel", "coverBackwards", "(LOnionNetModel$Layer;)V"⟩, 38) := ⟨⟨by decide +kernel, by decide +kernel⟩, List.mem_of_getElem? (i := 994) (by decide +kernel), List.mem_of_getElem? (i := 1672) (by decide +kernel), List.mem_of_getElem? (i := 1673) (by decide +kernel)⟩
theorem lw_p88 : lw_okq (⟨"OnionNetModel", "relayed", "(III)V"⟩, 38) := ⟨⟨by decide +kernel, by decide +kernel⟩, List.mem_of_getElem? (i := 994) (by decide +kernel), List.mem_of_getElem? (i := 1676) (by decide +kernel), List.mem_of_getElem? (i := 1677) (by decide +kernel)⟩
theorem lw_p89 : lw_okq (⟨"OnionNetModel", "toPayload", "()V"⟩, 38) := ⟨⟨by decide +kernel, by decide +kernel⟩, List.mem_of_getElem? (i := 994) (by decide +kernel), List.mem_of_getElem? (i := 1680) (by decide +kernel), List.mem_of_getElem? (i := 1681) (by decide +kernel)⟩
theorem lw_p90 : lw_okq (⟨"OnionNetModel", "recognizes", "(LOnionNetModel$Sha;)Z"⟩, 38) := ⟨⟨by decide +kernel, by decide +kernel⟩, List.mem_of_getElem? (i := 994) (by decide +kernel), List.mem_of_getElem? (i := 1684) (by decide +kernel), List.mem_of_getElem? (i := 1685) (by decide +kernel)⟩
theorem lw_p91 : lw_okq (⟨"OnionNetModel", "lengthOf", "()I"⟩, 38) := ⟨⟨by decide +kernel, by decide +kernel⟩, List.mem_of_getElem? (i := 994) (by decide +kernel), List.mem_of_getElem? (i := 1688) (by decide +kernel), List.mem_of_getElem? (i := 1689) (by decide +kernel)⟩
theorem lw_p92 : lw_okq (⟨"OnionNetModel", "done", "(ILOnionNetModel$Entry;)V"⟩, 38) := ⟨⟨by decide +kernel, by decide +kernel⟩, List.mem_of_getElem? (i := 994) (by decide +kernel), List.mem_of_getElem? (i := 1692) (by decide +kernel), List.mem_of_getElem? (i := 1693) (by decide +kernel)⟩
theorem lw_p93 : lw_okq (⟨"OnionNetModel", "streamOf", "()I"⟩, 38) := ⟨⟨by decide +kernel, by decide +kernel⟩, List.mem_of_getElem? (i := 994) (by decide +kernel), List.mem_of_getElem? (i := 1696) (by decide +kernel), List.mem_of_getElem? (i := 1697) (by decide +kernel)⟩
theorem lw_p94 : lw_okq (⟨"OnionNetModel", "streamAt", "(LOnionNetModel$Entry;I)I"⟩, 38) := ⟨⟨by decide +kernel, by decide +kernel⟩, List.mem_of_getElem? (i := 994) (by decide +kernel), List.mem_of_getElem? (i := 1700) (by decide +kernel), List.mem_of_getElem? (i := 1701) (by decide +kernel)⟩
theorem lw_p95 : lw_okq (⟨"OnionNetModel", "destroyEntry", "(ILOnionNetModel$Entry;)V"⟩, 38) := ⟨⟨by decide +kernel, by decide +kernel⟩, List.mem_of_getElem? (i := 994) (by decide +kernel), List.mem_of_getElem? (i := 1704) (by decide +kernel), List.mem_of_getElem? (i := 1705) (by decide +kernel)⟩
def lw_privs_6 : List (MethodName × Nat) := [(⟨"OnionNetModel", "mac", "(II[I)V"⟩, 38), (⟨"OnionNetModel", "keys", "(ILOnionNetModel$Layer;)V"⟩, 38), (⟨"OnionNetModel", "begin", "(LOnionNetModel$Sha;I)V"⟩, 38), (⟨"OnionNetModel", "derive", "(I[I)V"⟩, 38), (⟨"OnionNetModel", "remove", "(LOnionNetModel$Relay;LOnionNetModel$Entry;)V"⟩, 38), (⟨"OnionNetModel", "goesOn", "(LOnionNetModel$Relay;II)LOnionNetModel$Entry;"⟩, 38), (⟨"OnionNetModel", "back", "(ILOnionNetModel$Entry;III[I)V"⟩, 38), (⟨"OnionNetModel", "coverBackwards", "(LOnionNetModel$Layer;)V"⟩, 38), (⟨"OnionNetModel", "relayed", "(III)V"⟩, 38), (⟨"OnionNetModel", "toPayload", "()V"⟩, 38), (⟨"OnionNetModel", "recognizes", "(LOnionNetModel$Sha;)Z"⟩, 38), (⟨"OnionNetModel", "lengthOf", "()I"⟩, 38), (⟨"OnionNetModel", "done", "(ILOnionNetModel$Entry;)V"⟩, 38), (⟨"OnionNetModel", "streamOf", "()I"⟩, 38), (⟨"OnionNetModel", "streamAt", "(LOnionNetModel$Entry;I)I"⟩, 38), (⟨"OnionNetModel", "destroyEntry", "(ILOnionNetModel$Entry;)V"⟩, 38)]
theorem lw_r6 : ∀ q ∈ lw_privs_6, lw_okq q := List.forall_mem_cons.mpr ⟨lw_p80, List.forall_mem_cons.mpr ⟨lw_p81, List.forall_mem_cons.mpr ⟨lw_p82, List.forall_mem_cons.mpr ⟨lw_p83, List.forall_mem_cons.mpr ⟨lw_p84, List.forall_mem_cons.mpr ⟨lw_p85, List.forall_mem_cons.mpr ⟨lw_p86, List.forall_mem_cons.mpr ⟨lw_p87, List.forall_mem_cons.mpr ⟨lw_p88, List.forall_mem_cons.mpr ⟨lw_p89, List.forall_mem_cons.mpr ⟨lw_p90, List.forall_mem_cons.mpr ⟨lw_p91, List.forall_mem_cons.mpr ⟨lw_p92, List.forall_mem_cons.mpr ⟨lw_p93, List.forall_mem_cons.mpr ⟨lw_p94, List.forall_mem_cons.mpr ⟨lw_p95, fun _ h => absurd h List.not_mem_nil⟩⟩⟩⟩⟩⟩⟩⟩⟩⟩⟩⟩⟩⟩⟩⟩
theorem lw_p96 : lw_okq (⟨"OnionNetModel", "came", "(ILOnionNetModel$Entry;II)V"⟩, 38) := ⟨⟨by decide +kernel, by decide +kernel⟩, List.mem_of_getElem? (i := 994) (by decide +kernel), List.mem_of_getElem? (i := 1708) (by decide +kernel), List.mem_of_getElem? (i := 1709) (by decide +kernel)⟩
theorem lw_p97 : lw_okq (⟨"OnionNetModel", "clientTakes", "(II)V"⟩, 38) := ⟨⟨by decide +kernel, by decide +kernel⟩, List.mem_of_getElem? (i := 994) (by decide +kernel), List.mem_of_getElem? (i := 1712) (by decide +kernel), List.mem_of_getElem? (i := 1713) (by decide +kernel)⟩
theorem lw_p98 : lw_okq (⟨"OnionNetModel", "answered", "(LOnionNetModel$Circuit;)V"⟩, 38) := ⟨⟨by decide +kernel, by decide +kernel⟩, List.mem_of_getElem? (i := 994) (by decide +kernel), List.mem_of_getElem? (i := 1716) (by decide +kernel), List.mem_of_getElem? (i := 1717) (by decide +kernel)⟩
theorem lw_p99 : lw_okq (⟨"OnionNetModel", "relayed", "(LOnionNetModel$Circuit;)V"⟩, 38) := ⟨⟨by decide +kernel, by decide +kernel⟩, List.mem_of_getElem? (i := 994) (by decide +kernel), List.mem_of_getElem? (i := 1720) (by decide +kernel), List.mem_of_getElem? (i := 1721) (by decide +kernel)⟩
def lw_privs_7 : List (MethodName × Nat) := [(⟨"OnionNetModel", "came", "(ILOnionNetModel$Entry;II)V"⟩, 38), (⟨"OnionNetModel", "clientTakes", "(II)V"⟩, 38), (⟨"OnionNetModel", "answered", "(LOnionNetModel$Circuit;)V"⟩, 38), (⟨"OnionNetModel", "relayed", "(LOnionNetModel$Circuit;)V"⟩, 38)]
theorem lw_r7 : ∀ q ∈ lw_privs_7, lw_okq q := List.forall_mem_cons.mpr ⟨lw_p96, List.forall_mem_cons.mpr ⟨lw_p97, List.forall_mem_cons.mpr ⟨lw_p98, List.forall_mem_cons.mpr ⟨lw_p99, fun _ h => absurd h List.not_mem_nil⟩⟩⟩⟩
def lw_privs : List (MethodName × Nat) := lw_privs_1 ++ (lw_privs_2 ++ (lw_privs_3 ++ (lw_privs_4 ++ (lw_privs_5 ++ (lw_privs_6 ++ (lw_privs_7))))))
def lw_tbl : List Cond := k2_sels lw_privs ++ tables_1
theorem lw_privs_ok : ∀ q ∈ lw_privs, lw_okq q := by
  show ∀ q ∈ lw_privs_1 ++ (lw_privs_2 ++ (lw_privs_3 ++ (lw_privs_4 ++ (lw_privs_5 ++ (lw_privs_6 ++ (lw_privs_7)))))), lw_okq q
  exact List.forall_mem_append.mpr ⟨lw_r1, List.forall_mem_append.mpr ⟨lw_r2, List.forall_mem_append.mpr ⟨lw_r3, List.forall_mem_append.mpr ⟨lw_r4, List.forall_mem_append.mpr ⟨lw_r5, List.forall_mem_append.mpr ⟨lw_r6, lw_r7⟩⟩⟩⟩⟩⟩
-- ===== end of PART A =====
/-- the words that stay, for every method -/
def on_W : List Cond := lw_tbl.filter goodWord
theorem on_w (i : Nat) {w : Cond} (h : lw_tbl[i]? = some w) (g : goodWord w = true) : w ∈ on_W := List.mem_filter.mpr ⟨List.mem_of_getElem? h, g⟩
theorem on_W_good : ∀ w ∈ on_W, (w.onTables && w.keeps) = true ∨ ∃ ty, w = .arrayClass ty := fun w h => good_of_word (List.mem_filter.mp h).2
/-- the words of nest mates, and of arrays of references -/
def on_W2k : Cond → Bool
  | .fieldLinkNest .. => true
  | .methodLinkNest .. => true
  | .arrayOver (.object _) => true
  | .arrayOver (.array _) => true
  | _ => false
def on_W2 : List Cond := lw_tbl.filter on_W2k
theorem on_w2 (i : Nat) {w : Cond} (h : lw_tbl[i]? = some w) (g : on_W2k w = true) : w ∈ on_W2 := List.mem_filter.mpr ⟨List.mem_of_getElem? h, g⟩
def R_Sha : String := "OnionNet$Sha"
def T_Sha : u_T := fun k => match k with
  | 0 => ("OnionNet$Sha", "state", "[I", true)
  | 1 => ("OnionNet$Sha", "words", "[I", true)
  | _ => ("OnionNet$Sha", "length", "I", false)
def t_Sha : Nat → FieldType := fun k => match k with
  | 0 => .array .int
  | 1 => .array .int
  | _ => .int
theorem n_Sha : ∀ a, a < 3 → ∀ b, b < 3 → a ≠ b → (T_Sha a).2.1 ≠ (T_Sha b).2.1 := by decide +kernel
theorem t_Sha_ok : ∀ k, k < 3 → parseFieldDescriptor (T_Sha k).2.2.1 = some (t_Sha k) := by decide +kernel
theorem i_Sha : ∀ w ∈ u_ws R_Sha T_Sha 3, w ∈ on_W := by
  intro w hw
  obtain ⟨k, hk, rfl⟩ := List.mem_map.mp hw
  have hk := List.mem_range.mp hk
  match k, hk with
  | 0, _ => exact on_w 157 (by decide +kernel) rfl
  | 1, _ => exact on_w 159 (by decide +kernel) rfl
  | 2, _ => exact on_w 161 (by decide +kernel) rfl
  | k + 3, hk => exact absurd hk (by omega)
def R_Curve : String := "OnionNet$Curve"
def T_Curve : u_T := fun k => match k with
  | 0 => ("OnionNet$Curve", "x1", "[J", true)
  | 1 => ("OnionNet$Curve", "x2", "[J", true)
  | 2 => ("OnionNet$Curve", "z2", "[J", true)
  | 3 => ("OnionNet$Curve", "x3", "[J", true)
  | 4 => ("OnionNet$Curve", "z3", "[J", true)
  | 5 => ("OnionNet$Curve", "a", "[J", true)
  | 6 => ("OnionNet$Curve", "b", "[J", true)
  | 7 => ("OnionNet$Curve", "c", "[J", true)
  | 8 => ("OnionNet$Curve", "d", "[J", true)
  | 9 => ("OnionNet$Curve", "factor", "[J", true)
  | _ => ("OnionNet$Curve", "clamped", "[I", true)
def t_Curve : Nat → FieldType := fun k => match k with
  | 0 => .array .long
  | 1 => .array .long
  | 2 => .array .long
  | 3 => .array .long
  | 4 => .array .long
  | 5 => .array .long
  | 6 => .array .long
  | 7 => .array .long
  | 8 => .array .long
  | 9 => .array .long
  | _ => .array .int
theorem n_Curve : ∀ a, a < 11 → ∀ b, b < 11 → a ≠ b → (T_Curve a).2.1 ≠ (T_Curve b).2.1 := by decide +kernel
theorem t_Curve_ok : ∀ k, k < 11 → parseFieldDescriptor (T_Curve k).2.2.1 = some (t_Curve k) := by decide +kernel
theorem i_Curve : ∀ w ∈ u_ws R_Curve T_Curve 11, w ∈ on_W := by
  intro w hw
  obtain ⟨k, hk, rfl⟩ := List.mem_map.mp hw
  have hk := List.mem_range.mp hk
  match k, hk with
  | 0, _ => exact on_w 183 (by decide +kernel) rfl
  | 1, _ => exact on_w 185 (by decide +kernel) rfl
  | 2, _ => exact on_w 187 (by decide +kernel) rfl
  | 3, _ => exact on_w 189 (by decide +kernel) rfl
  | 4, _ => exact on_w 191 (by decide +kernel) rfl
  | 5, _ => exact on_w 193 (by decide +kernel) rfl
  | 6, _ => exact on_w 195 (by decide +kernel) rfl
  | 7, _ => exact on_w 197 (by decide +kernel) rfl
  | 8, _ => exact on_w 199 (by decide +kernel) rfl
  | 9, _ => exact on_w 201 (by decide +kernel) rfl
  | 10, _ => exact on_w 203 (by decide +kernel) rfl
  | k + 11, hk => exact absurd hk (by omega)
def R_Lane : String := "OnionNet$Lane"
def T_Lane : u_T := fun k => match k with
  | 0 => ("OnionNet$Lane", "running", "LOnionNet$Sha;", true)
  | 1 => ("OnionNet$Lane", "trial", "LOnionNet$Sha;", true)
  | 2 => ("OnionNet$Lane", "due", "[I", true)
  | 3 => ("OnionNet$Lane", "input", "[I", true)
  | 4 => ("OnionNet$Lane", "mixed", "[I", true)
  | 5 => ("OnionNet$Lane", "block", "[I", true)
  | _ => ("OnionNet$Lane", "used", "I", false)
def t_Lane : Nat → FieldType := fun k => match k with
  | 0 => .object "OnionNet$Sha"
  | 1 => .object "OnionNet$Sha"
  | 2 => .array .int
  | 3 => .array .int
  | 4 => .array .int
  | 5 => .array .int
  | _ => .int
theorem n_Lane : ∀ a, a < 7 → ∀ b, b < 7 → a ≠ b → (T_Lane a).2.1 ≠ (T_Lane b).2.1 := by decide +kernel
theorem t_Lane_ok : ∀ k, k < 7 → parseFieldDescriptor (T_Lane k).2.2.1 = some (t_Lane k) := by decide +kernel
theorem i_Lane : ∀ w ∈ u_ws R_Lane T_Lane 7, w ∈ on_W := by
  intro w hw
  obtain ⟨k, hk, rfl⟩ := List.mem_map.mp hw
  have hk := List.mem_range.mp hk
  match k, hk with
  | 0, _ => exact on_w 371 (by decide +kernel) rfl
  | 1, _ => exact on_w 373 (by decide +kernel) rfl
  | 2, _ => exact on_w 375 (by decide +kernel) rfl
  | 3, _ => exact on_w 377 (by decide +kernel) rfl
  | 4, _ => exact on_w 379 (by decide +kernel) rfl
  | 5, _ => exact on_w 381 (by decide +kernel) rfl
  | 6, _ => exact on_w 383 (by decide +kernel) rfl
  | k + 7, hk => exact absurd hk (by omega)
def R_Handshake : String := "OnionNet$Handshake"
def T_Handshake : u_T := fun k => match k with
  | 0 => ("OnionNet$Handshake", "sha", "LOnionNet$Sha;", true)
  | 1 => ("OnionNet$Handshake", "trial", "LOnionNet$Sha;", true)
  | 2 => ("OnionNet$Handshake", "curve", "LOnionNet$Curve;", true)
  | 3 => ("OnionNet$Handshake", "base", "[I", true)
  | 4 => ("OnionNet$Handshake", "label", "[I", true)
  | 5 => ("OnionNet$Handshake", "text", "[I", true)
  | 6 => ("OnionNet$Handshake", "pad", "[I", true)
  | 7 => ("OnionNet$Handshake", "inner", "[I", true)
  | 8 => ("OnionNet$Handshake", "proof", "[I", true)
  | 9 => ("OnionNet$Handshake", "master", "[I", true)
  | 10 => ("OnionNet$Handshake", "digestKey", "[I", true)
  | 11 => ("OnionNet$Handshake", "cipherKey", "[I", true)
  | _ => ("OnionNet$Handshake", "small", "[I", true)
def t_Handshake : Nat → FieldType := fun k => match k with
  | 0 => .object "OnionNet$Sha"
  | 1 => .object "OnionNet$Sha"
  | 2 => .object "OnionNet$Curve"
  | 3 => .array .int
  | 4 => .array .int
  | 5 => .array .int
  | 6 => .array .int
  | 7 => .array .int
  | 8 => .array .int
  | 9 => .array .int
  | 10 => .array .int
  | 11 => .array .int
  | _ => .array .int
theorem n_Handshake : ∀ a, a < 13 → ∀ b, b < 13 → a ≠ b → (T_Handshake a).2.1 ≠ (T_Handshake b).2.1 := by decide +kernel
theorem t_Handshake_ok : ∀ k, k < 13 → parseFieldDescriptor (T_Handshake k).2.2.1 = some (t_Handshake k) := by decide +kernel
theorem i_Handshake : ∀ w ∈ u_ws R_Handshake T_Handshake 13, w ∈ on_W := by
  intro w hw
  obtain ⟨k, hk, rfl⟩ := List.mem_map.mp hw
  have hk := List.mem_range.mp hk
  match k, hk with
  | 0, _ => exact on_w 227 (by decide +kernel) rfl
  | 1, _ => exact on_w 229 (by decide +kernel) rfl
  | 2, _ => exact on_w 231 (by decide +kernel) rfl
  | 3, _ => exact on_w 233 (by decide +kernel) rfl
  | 4, _ => exact on_w 235 (by decide +kernel) rfl
  | 5, _ => exact on_w 237 (by decide +kernel) rfl
  | 6, _ => exact on_w 239 (by decide +kernel) rfl
  | 7, _ => exact on_w 241 (by decide +kernel) rfl
  | 8, _ => exact on_w 243 (by decide +kernel) rfl
  | 9, _ => exact on_w 245 (by decide +kernel) rfl
  | 10, _ => exact on_w 247 (by decide +kernel) rfl
  | 11, _ => exact on_w 249 (by decide +kernel) rfl
  | 12, _ => exact on_w 251 (by decide +kernel) rfl
  | k + 13, hk => exact absurd hk (by omega)
def R_Node : String := "OnionNet$Node"
def T_Node : u_T := fun k => match k with
  | 0 => ("OnionNet$Node", "number", "I", true)
  | 1 => ("OnionNet$Node", "seed", "[I", true)
  | 2 => ("OnionNet$Node", "draws", "I", false)
  | _ => ("OnionNet$Node", "nextNumber", "I", false)
def t_Node : Nat → FieldType := fun k => match k with
  | 0 => .int
  | 1 => .array .int
  | 2 => .int
  | _ => .int
theorem n_Node : ∀ a, a < 4 → ∀ b, b < 4 → a ≠ b → (T_Node a).2.1 ≠ (T_Node b).2.1 := by decide +kernel
theorem t_Node_ok : ∀ k, k < 4 → parseFieldDescriptor (T_Node k).2.2.1 = some (t_Node k) := by decide +kernel
theorem i_Node : ∀ w ∈ u_ws R_Node T_Node 4, w ∈ on_W := by
  intro w hw
  obtain ⟨k, hk, rfl⟩ := List.mem_map.mp hw
  have hk := List.mem_range.mp hk
  match k, hk with
  | 0, _ => exact on_w 336 (by decide +kernel) rfl
  | 1, _ => exact on_w 338 (by decide +kernel) rfl
  | 2, _ => exact on_w 340 (by decide +kernel) rfl
  | 3, _ => exact on_w 342 (by decide +kernel) rfl
  | k + 4, hk => exact absurd hk (by omega)
def R_Link : String := "OnionNet$Link"
def T_Link : u_T := fun k => match k with
  | 0 => ("OnionNet$Link", "cells", "[I", true)
  | 1 => ("OnionNet$Link", "first", "I", false)
  | _ => ("OnionNet$Link", "count", "I", false)
def t_Link : Nat → FieldType := fun k => match k with
  | 0 => .array .int
  | 1 => .int
  | _ => .int
theorem n_Link : ∀ a, a < 3 → ∀ b, b < 3 → a ≠ b → (T_Link a).2.1 ≠ (T_Link b).2.1 := by decide +kernel
theorem t_Link_ok : ∀ k, k < 3 → parseFieldDescriptor (T_Link k).2.2.1 = some (t_Link k) := by decide +kernel
theorem i_Link : ∀ w ∈ u_ws R_Link T_Link 3, w ∈ on_W := by
  intro w hw
  obtain ⟨k, hk, rfl⟩ := List.mem_map.mp hw
  have hk := List.mem_range.mp hk
  match k, hk with
  | 0, _ => exact on_w 577 (by decide +kernel) rfl
  | 1, _ => exact on_w 579 (by decide +kernel) rfl
  | 2, _ => exact on_w 581 (by decide +kernel) rfl
  | k + 3, hk => exact absurd hk (by omega)
def R_Outbox : String := "OnionNet$Outbox"
def T_Outbox : u_T := fun k => match k with
  | 0 => ("OnionNet$Outbox", "cells", "[[I", true)
  | 1 => ("OnionNet$Outbox", "to", "[I", true)
  | 2 => ("OnionNet$Outbox", "plain", "[Z", true)
  | _ => ("OnionNet$Outbox", "count", "I", false)
def t_Outbox : Nat → FieldType := fun k => match k with
  | 0 => .array (.array .int)
  | 1 => .array .int
  | 2 => .array .boolean
  | _ => .int
theorem n_Outbox : ∀ a, a < 4 → ∀ b, b < 4 → a ≠ b → (T_Outbox a).2.1 ≠ (T_Outbox b).2.1 := by decide +kernel
theorem t_Outbox_ok : ∀ k, k < 4 → parseFieldDescriptor (T_Outbox k).2.2.1 = some (t_Outbox k) := by decide +kernel
theorem i_Outbox : ∀ w ∈ u_ws R_Outbox T_Outbox 4, w ∈ on_W := by
  intro w hw
  obtain ⟨k, hk, rfl⟩ := List.mem_map.mp hw
  have hk := List.mem_range.mp hk
  match k, hk with
  | 0, _ => exact on_w 272 (by decide +kernel) rfl
  | 1, _ => exact on_w 274 (by decide +kernel) rfl
  | 2, _ => exact on_w 276 (by decide +kernel) rfl
  | 3, _ => exact on_w 278 (by decide +kernel) rfl
  | k + 4, hk => exact absurd hk (by omega)
def R_Entry : String := "OnionNet$Entry"
def T_Entry : u_T := fun k => match k with
  | 0 => ("OnionNet$Entry", "forward", "LOnionNet$Lane;", true)
  | 1 => ("OnionNet$Entry", "backward", "LOnionNet$Lane;", true)
  | 2 => ("OnionNet$Entry", "streams", "[I", true)
  | 3 => ("OnionNet$Entry", "services", "[I", true)
  | 4 => ("OnionNet$Entry", "windows", "[I", true)
  | 5 => ("OnionNet$Entry", "seen", "[I", true)
  | 6 => ("OnionNet$Entry", "streamCount", "I", false)
  | 7 => ("OnionNet$Entry", "fromNode", "I", false)
  | 8 => ("OnionNet$Entry", "fromNumber", "I", false)
  | 9 => ("OnionNet$Entry", "onNode", "I", false)
  | 10 => ("OnionNet$Entry", "onNumber", "I", false)
  | 11 => ("OnionNet$Entry", "used", "Z", false)
  | _ => ("OnionNet$Entry", "waits", "Z", false)
def t_Entry : Nat → FieldType := fun k => match k with
  | 0 => .object "OnionNet$Lane"
  | 1 => .object "OnionNet$Lane"
  | 2 => .array .int
  | 3 => .array .int
  | 4 => .array .int
  | 5 => .array .int
  | 6 => .int
  | 7 => .int
  | 8 => .int
  | 9 => .int
  | 10 => .int
  | 11 => .boolean
  | _ => .boolean
theorem n_Entry : ∀ a, a < 13 → ∀ b, b < 13 → a ≠ b → (T_Entry a).2.1 ≠ (T_Entry b).2.1 := by decide +kernel
theorem t_Entry_ok : ∀ k, k < 13 → parseFieldDescriptor (T_Entry k).2.2.1 = some (t_Entry k) := by decide +kernel
theorem i_Entry : ∀ w ∈ u_ws R_Entry T_Entry 13, w ∈ on_W := by
  intro w hw
  obtain ⟨k, hk, rfl⟩ := List.mem_map.mp hw
  have hk := List.mem_range.mp hk
  match k, hk with
  | 0, _ => exact on_w 411 (by decide +kernel) rfl
  | 1, _ => exact on_w 413 (by decide +kernel) rfl
  | 2, _ => exact on_w 415 (by decide +kernel) rfl
  | 3, _ => exact on_w 417 (by decide +kernel) rfl
  | 4, _ => exact on_w 419 (by decide +kernel) rfl
  | 5, _ => exact on_w 421 (by decide +kernel) rfl
  | 6, _ => exact on_w 423 (by decide +kernel) rfl
  | 7, _ => exact on_w 425 (by decide +kernel) rfl
  | 8, _ => exact on_w 427 (by decide +kernel) rfl
  | 9, _ => exact on_w 429 (by decide +kernel) rfl
  | 10, _ => exact on_w 431 (by decide +kernel) rfl
  | 11, _ => exact on_w 433 (by decide +kernel) rfl
  | 12, _ => exact on_w 435 (by decide +kernel) rfl
  | k + 13, hk => exact absurd hk (by omega)
def R_Relay : String := "OnionNet$Relay"
def T_Relay : u_T := fun k => match k with
  | 0 => ("OnionNet$Relay", "node", "LOnionNet$Node;", true)
  | 1 => ("OnionNet$Relay", "others", "[LOnionNet$Relay;", true)
  | 2 => ("OnionNet$Relay", "handshake", "LOnionNet$Handshake;", true)
  | 3 => ("OnionNet$Relay", "secret", "[I", true)
  | 4 => ("OnionNet$Relay", "drawn", "[I", true)
  | 5 => ("OnionNet$Relay", "identity", "[I", true)
  | 6 => ("OnionNet$Relay", "entries", "[LOnionNet$Entry;", true)
  | 7 => ("OnionNet$Relay", "kept", "[I", true)
  | 8 => ("OnionNet$Relay", "keptCount", "I", false)
  | _ => ("OnionNet$Relay", "weight", "I", false)
def t_Relay : Nat → FieldType := fun k => match k with
  | 0 => .object "OnionNet$Node"
  | 1 => .array (.object "OnionNet$Relay")
  | 2 => .object "OnionNet$Handshake"
  | 3 => .array .int
  | 4 => .array .int
  | 5 => .array .int
  | 6 => .array (.object "OnionNet$Entry")
  | 7 => .array .int
  | 8 => .int
  | _ => .int
theorem n_Relay : ∀ a, a < 10 → ∀ b, b < 10 → a ≠ b → (T_Relay a).2.1 ≠ (T_Relay b).2.1 := by decide +kernel
theorem t_Relay_ok : ∀ k, k < 10 → parseFieldDescriptor (T_Relay k).2.2.1 = some (t_Relay k) := by decide +kernel
theorem i_Relay : ∀ w ∈ u_ws R_Relay T_Relay 10, w ∈ on_W := by
  intro w hw
  obtain ⟨k, hk, rfl⟩ := List.mem_map.mp hw
  have hk := List.mem_range.mp hk
  match k, hk with
  | 0, _ => exact on_w 458 (by decide +kernel) rfl
  | 1, _ => exact on_w 460 (by decide +kernel) rfl
  | 2, _ => exact on_w 462 (by decide +kernel) rfl
  | 3, _ => exact on_w 464 (by decide +kernel) rfl
  | 4, _ => exact on_w 466 (by decide +kernel) rfl
  | 5, _ => exact on_w 468 (by decide +kernel) rfl
  | 6, _ => exact on_w 470 (by decide +kernel) rfl
  | 7, _ => exact on_w 472 (by decide +kernel) rfl
  | 8, _ => exact on_w 474 (by decide +kernel) rfl
  | 9, _ => exact on_w 476 (by decide +kernel) rfl
  | k + 10, hk => exact absurd hk (by omega)
def R_Circuit : String := "OnionNet$Circuit"
def T_Circuit : u_T := fun k => match k with
  | 0 => ("OnionNet$Circuit", "client", "LOnionNet$Node;", true)
  | 1 => ("OnionNet$Circuit", "number", "I", true)
  | 2 => ("OnionNet$Circuit", "path", "[LOnionNet$Relay;", true)
  | 3 => ("OnionNet$Circuit", "handshake", "LOnionNet$Handshake;", true)
  | 4 => ("OnionNet$Circuit", "forward", "[LOnionNet$Lane;", true)
  | 5 => ("OnionNet$Circuit", "backward", "[LOnionNet$Lane;", true)
  | 6 => ("OnionNet$Circuit", "streams", "[LOnionNet$Stream;", true)
  | 7 => ("OnionNet$Circuit", "drawn", "[I", true)
  | 8 => ("OnionNet$Circuit", "offer", "[I", true)
  | 9 => ("OnionNet$Circuit", "phase", "I", false)
  | 10 => ("OnionNet$Circuit", "joined", "I", false)
  | _ => ("OnionNet$Circuit", "streamCount", "I", false)
def t_Circuit : Nat → FieldType := fun k => match k with
  | 0 => .object "OnionNet$Node"
  | 1 => .int
  | 2 => .array (.object "OnionNet$Relay")
  | 3 => .object "OnionNet$Handshake"
  | 4 => .array (.object "OnionNet$Lane")
  | 5 => .array (.object "OnionNet$Lane")
  | 6 => .array (.object "OnionNet$Stream")
  | 7 => .array .int
  | 8 => .array .int
  | 9 => .int
  | 10 => .int
  | _ => .int
theorem n_Circuit : ∀ a, a < 12 → ∀ b, b < 12 → a ≠ b → (T_Circuit a).2.1 ≠ (T_Circuit b).2.1 := by decide +kernel
theorem t_Circuit_ok : ∀ k, k < 12 → parseFieldDescriptor (T_Circuit k).2.2.1 = some (t_Circuit k) := by decide +kernel
theorem i_Circuit : ∀ w ∈ u_ws R_Circuit T_Circuit 12, w ∈ on_W := by
  intro w hw
  obtain ⟨k, hk, rfl⟩ := List.mem_map.mp hw
  have hk := List.mem_range.mp hk
  match k, hk with
  | 0, _ => exact on_w 652 (by decide +kernel) rfl
  | 1, _ => exact on_w 654 (by decide +kernel) rfl
  | 2, _ => exact on_w 656 (by decide +kernel) rfl
  | 3, _ => exact on_w 658 (by decide +kernel) rfl
  | 4, _ => exact on_w 660 (by decide +kernel) rfl
  | 5, _ => exact on_w 662 (by decide +kernel) rfl
  | 6, _ => exact on_w 664 (by decide +kernel) rfl
  | 7, _ => exact on_w 666 (by decide +kernel) rfl
  | 8, _ => exact on_w 668 (by decide +kernel) rfl
  | 9, _ => exact on_w 670 (by decide +kernel) rfl
  | 10, _ => exact on_w 672 (by decide +kernel) rfl
  | 11, _ => exact on_w 674 (by decide +kernel) rfl
  | k + 12, hk => exact absurd hk (by omega)
def R_Stream : String := "OnionNet$Stream"
def T_Stream : u_T := fun k => match k with
  | 0 => ("OnionNet$Stream", "waiting", "[I", true)
  | 1 => ("OnionNet$Stream", "kept", "[I", true)
  | 2 => ("OnionNet$Stream", "first", "I", false)
  | 3 => ("OnionNet$Stream", "waits", "I", false)
  | 4 => ("OnionNet$Stream", "keptCount", "I", false)
  | 5 => ("OnionNet$Stream", "phase", "I", false)
  | 6 => ("OnionNet$Stream", "window", "I", false)
  | _ => ("OnionNet$Stream", "seen", "I", false)
def t_Stream : Nat → FieldType := fun k => match k with
  | 0 => .array .int
  | 1 => .array .int
  | 2 => .int
  | 3 => .int
  | 4 => .int
  | 5 => .int
  | 6 => .int
  | _ => .int
theorem n_Stream : ∀ a, a < 8 → ∀ b, b < 8 → a ≠ b → (T_Stream a).2.1 ≠ (T_Stream b).2.1 := by decide +kernel
theorem t_Stream_ok : ∀ k, k < 8 → parseFieldDescriptor (T_Stream k).2.2.1 = some (t_Stream k) := by decide +kernel
theorem i_Stream : ∀ w ∈ u_ws R_Stream T_Stream 8, w ∈ on_W := by
  intro w hw
  obtain ⟨k, hk, rfl⟩ := List.mem_map.mp hw
  have hk := List.mem_range.mp hk
  match k, hk with
  | 0, _ => exact on_w 751 (by decide +kernel) rfl
  | 1, _ => exact on_w 753 (by decide +kernel) rfl
  | 2, _ => exact on_w 755 (by decide +kernel) rfl
  | 3, _ => exact on_w 757 (by decide +kernel) rfl
  | 4, _ => exact on_w 759 (by decide +kernel) rfl
  | 5, _ => exact on_w 761 (by decide +kernel) rfl
  | 6, _ => exact on_w 763 (by decide +kernel) rfl
  | 7, _ => exact on_w 765 (by decide +kernel) rfl
  | k + 8, hk => exact absurd hk (by omega)
def R_N : String := "OnionNet"
def T_N : u_T := fun k => match k with
  | 0 => ("OnionNet", "relays", "[LOnionNet$Relay;", true)
  | 1 => ("OnionNet", "clients", "[LOnionNet$Node;", true)
  | 2 => ("OnionNet", "circuits", "[LOnionNet$Circuit;", true)
  | 3 => ("OnionNet", "links", "[LOnionNet$Link;", true)
  | 4 => ("OnionNet", "handshake", "LOnionNet$Handshake;", true)
  | 5 => ("OnionNet", "out", "LOnionNet$Outbox;", true)
  | 6 => ("OnionNet", "cell", "[I", true)
  | 7 => ("OnionNet", "hashed", "[I", true)
  | 8 => ("OnionNet", "relayCount", "I", false)
  | 9 => ("OnionNet", "clientCount", "I", false)
  | _ => ("OnionNet", "circuitCount", "I", false)
def t_N : Nat → FieldType := fun k => match k with
  | 0 => .array (.object "OnionNet$Relay")
  | 1 => .array (.object "OnionNet$Node")
  | 2 => .array (.object "OnionNet$Circuit")
  | 3 => .array (.object "OnionNet$Link")
  | 4 => .object "OnionNet$Handshake"
  | 5 => .object "OnionNet$Outbox"
  | 6 => .array .int
  | 7 => .array .int
  | 8 => .int
  | 9 => .int
  | _ => .int
theorem n_N : ∀ a, a < 11 → ∀ b, b < 11 → a ≠ b → (T_N a).2.1 ≠ (T_N b).2.1 := by decide +kernel
theorem t_N_ok : ∀ k, k < 11 → parseFieldDescriptor (T_N k).2.2.1 = some (t_N k) := by decide +kernel
theorem i_N : ∀ w ∈ u_ws R_N T_N 11, w ∈ on_W := by
  intro w hw
  obtain ⟨k, hk, rfl⟩ := List.mem_map.mp hw
  have hk := List.mem_range.mp hk
  match k, hk with
  | 0, _ => exact on_w 293 (by decide +kernel) rfl
  | 1, _ => exact on_w 295 (by decide +kernel) rfl
  | 2, _ => exact on_w 297 (by decide +kernel) rfl
  | 3, _ => exact on_w 299 (by decide +kernel) rfl
  | 4, _ => exact on_w 301 (by decide +kernel) rfl
  | 5, _ => exact on_w 303 (by decide +kernel) rfl
  | 6, _ => exact on_w 305 (by decide +kernel) rfl
  | 7, _ => exact on_w 307 (by decide +kernel) rfl
  | 8, _ => exact on_w 309 (by decide +kernel) rfl
  | 9, _ => exact on_w 311 (by decide +kernel) rfl
  | 10, _ => exact on_w 313 (by decide +kernel) rfl
  | k + 11, hk => exact absurd hk (by omega)
def R_MSha : String := "OnionNetModel$Sha"
def T_MSha : u_T := fun k => match k with
  | 0 => ("OnionNetModel$Sha", "h", "[I", true)
  | 1 => ("OnionNetModel$Sha", "w", "[I", true)
  | _ => ("OnionNetModel$Sha", "bytes", "J", false)
def t_MSha : Nat → FieldType := fun k => match k with
  | 0 => .array .int
  | 1 => .array .int
  | _ => .long
theorem n_MSha : ∀ a, a < 3 → ∀ b, b < 3 → a ≠ b → (T_MSha a).2.1 ≠ (T_MSha b).2.1 := by decide +kernel
theorem t_MSha_ok : ∀ k, k < 3 → parseFieldDescriptor (T_MSha k).2.2.1 = some (t_MSha k) := by decide +kernel
theorem i_MSha : ∀ w ∈ u_ws R_MSha T_MSha 3, w ∈ on_W := by
  intro w hw
  obtain ⟨k, hk, rfl⟩ := List.mem_map.mp hw
  have hk := List.mem_range.mp hk
  match k, hk with
  | 0, _ => exact on_w 1113 (by decide +kernel) rfl
  | 1, _ => exact on_w 1115 (by decide +kernel) rfl
  | 2, _ => exact on_w 1117 (by decide +kernel) rfl
  | k + 3, hk => exact absurd hk (by omega)
def R_MLayer : String := "OnionNetModel$Layer"
def T_MLayer : u_T := fun k => match k with
  | 0 => ("OnionNetModel$Layer", "forwards", "LOnionNetModel$Sha;", true)
  | 1 => ("OnionNetModel$Layer", "backwards", "LOnionNetModel$Sha;", true)
  | 2 => ("OnionNetModel$Layer", "cipherForwards", "[I", true)
  | 3 => ("OnionNetModel$Layer", "cipherBackwards", "[I", true)
  | 4 => ("OnionNetModel$Layer", "doneForwards", "J", false)
  | _ => ("OnionNetModel$Layer", "doneBackwards", "J", false)
def t_MLayer : Nat → FieldType := fun k => match k with
  | 0 => .object "OnionNetModel$Sha"
  | 1 => .object "OnionNetModel$Sha"
  | 2 => .array .int
  | 3 => .array .int
  | 4 => .long
  | _ => .long
theorem n_MLayer : ∀ a, a < 6 → ∀ b, b < 6 → a ≠ b → (T_MLayer a).2.1 ≠ (T_MLayer b).2.1 := by decide +kernel
theorem t_MLayer_ok : ∀ k, k < 6 → parseFieldDescriptor (T_MLayer k).2.2.1 = some (t_MLayer k) := by decide +kernel
theorem i_MLayer : ∀ w ∈ u_ws R_MLayer T_MLayer 6, w ∈ on_W := by
  intro w hw
  obtain ⟨k, hk, rfl⟩ := List.mem_map.mp hw
  have hk := List.mem_range.mp hk
  match k, hk with
  | 0, _ => exact on_w 1458 (by decide +kernel) rfl
  | 1, _ => exact on_w 1460 (by decide +kernel) rfl
  | 2, _ => exact on_w 1462 (by decide +kernel) rfl
  | 3, _ => exact on_w 1464 (by decide +kernel) rfl
  | 4, _ => exact on_w 1466 (by decide +kernel) rfl
  | 5, _ => exact on_w 1468 (by decide +kernel) rfl
  | k + 6, hk => exact absurd hk (by omega)
def R_MEntry : String := "OnionNetModel$Entry"
def T_MEntry : u_T := fun k => match k with
  | 0 => ("OnionNetModel$Entry", "from", "I", false)
  | 1 => ("OnionNetModel$Entry", "fromNumber", "I", false)
  | 2 => ("OnionNetModel$Entry", "to", "I", false)
  | 3 => ("OnionNetModel$Entry", "toNumber", "I", false)
  | 4 => ("OnionNetModel$Entry", "waits", "Z", false)
  | 5 => ("OnionNetModel$Entry", "layer", "LOnionNetModel$Layer;", true)
  | 6 => ("OnionNetModel$Entry", "streams", "I", false)
  | 7 => ("OnionNetModel$Entry", "id", "[I", true)
  | 8 => ("OnionNetModel$Entry", "sort", "[I", true)
  | 9 => ("OnionNetModel$Entry", "window", "[I", true)
  | _ => ("OnionNetModel$Entry", "came", "[I", true)
def t_MEntry : Nat → FieldType := fun k => match k with
  | 0 => .int
  | 1 => .int
  | 2 => .int
  | 3 => .int
  | 4 => .boolean
  | 5 => .object "OnionNetModel$Layer"
  | 6 => .int
  | 7 => .array .int
  | 8 => .array .int
  | 9 => .array .int
  | _ => .array .int
theorem n_MEntry : ∀ a, a < 11 → ∀ b, b < 11 → a ≠ b → (T_MEntry a).2.1 ≠ (T_MEntry b).2.1 := by decide +kernel
theorem t_MEntry_ok : ∀ k, k < 11 → parseFieldDescriptor (T_MEntry k).2.2.1 = some (t_MEntry k) := by decide +kernel
theorem i_MEntry : ∀ w ∈ u_ws R_MEntry T_MEntry 11, w ∈ on_W := by
  intro w hw
  obtain ⟨k, hk, rfl⟩ := List.mem_map.mp hw
  have hk := List.mem_range.mp hk
  match k, hk with
  | 0, _ => exact on_w 1488 (by decide +kernel) rfl
  | 1, _ => exact on_w 1490 (by decide +kernel) rfl
  | 2, _ => exact on_w 1492 (by decide +kernel) rfl
  | 3, _ => exact on_w 1494 (by decide +kernel) rfl
  | 4, _ => exact on_w 1496 (by decide +kernel) rfl
  | 5, _ => exact on_w 1498 (by decide +kernel) rfl
  | 6, _ => exact on_w 1500 (by decide +kernel) rfl
  | 7, _ => exact on_w 1502 (by decide +kernel) rfl
  | 8, _ => exact on_w 1504 (by decide +kernel) rfl
  | 9, _ => exact on_w 1506 (by decide +kernel) rfl
  | 10, _ => exact on_w 1508 (by decide +kernel) rfl
  | k + 11, hk => exact absurd hk (by omega)
def R_MRelay : String := "OnionNetModel$Relay"
def T_MRelay : u_T := fun k => match k with
  | 0 => ("OnionNetModel$Relay", "seed", "J", false)
  | 1 => ("OnionNetModel$Relay", "draws", "I", false)
  | 2 => ("OnionNetModel$Relay", "secret", "[I", true)
  | 3 => ("OnionNetModel$Relay", "key", "[I", true)
  | 4 => ("OnionNetModel$Relay", "mark", "[I", true)
  | 5 => ("OnionNetModel$Relay", "weight", "I", false)
  | 6 => ("OnionNetModel$Relay", "next", "I", false)
  | 7 => ("OnionNetModel$Relay", "entries", "[LOnionNetModel$Entry;", true)
  | 8 => ("OnionNetModel$Relay", "count", "I", false)
  | 9 => ("OnionNetModel$Relay", "kept", "[I", true)
  | _ => ("OnionNetModel$Relay", "keptCount", "I", false)
def t_MRelay : Nat → FieldType := fun k => match k with
  | 0 => .long
  | 1 => .int
  | 2 => .array .int
  | 3 => .array .int
  | 4 => .array .int
  | 5 => .int
  | 6 => .int
  | 7 => .array (.object "OnionNetModel$Entry")
  | 8 => .int
  | 9 => .array .int
  | _ => .int
theorem n_MRelay : ∀ a, a < 11 → ∀ b, b < 11 → a ≠ b → (T_MRelay a).2.1 ≠ (T_MRelay b).2.1 := by decide +kernel
theorem t_MRelay_ok : ∀ k, k < 11 → parseFieldDescriptor (T_MRelay k).2.2.1 = some (t_MRelay k) := by decide +kernel
theorem i_MRelay : ∀ w ∈ u_ws R_MRelay T_MRelay 11, w ∈ on_W := by
  intro w hw
  obtain ⟨k, hk, rfl⟩ := List.mem_map.mp hw
  have hk := List.mem_range.mp hk
  match k, hk with
  | 0, _ => exact on_w 1276 (by decide +kernel) rfl
  | 1, _ => exact on_w 1278 (by decide +kernel) rfl
  | 2, _ => exact on_w 1280 (by decide +kernel) rfl
  | 3, _ => exact on_w 1282 (by decide +kernel) rfl
  | 4, _ => exact on_w 1284 (by decide +kernel) rfl
  | 5, _ => exact on_w 1286 (by decide +kernel) rfl
  | 6, _ => exact on_w 1288 (by decide +kernel) rfl
  | 7, _ => exact on_w 1290 (by decide +kernel) rfl
  | 8, _ => exact on_w 1292 (by decide +kernel) rfl
  | 9, _ => exact on_w 1294 (by decide +kernel) rfl
  | 10, _ => exact on_w 1296 (by decide +kernel) rfl
  | k + 11, hk => exact absurd hk (by omega)
def R_MCircuit : String := "OnionNetModel$Circuit"
def T_MCircuit : u_T := fun k => match k with
  | 0 => ("OnionNetModel$Circuit", "client", "I", false)
  | 1 => ("OnionNetModel$Circuit", "number", "I", false)
  | 2 => ("OnionNetModel$Circuit", "path", "[I", true)
  | 3 => ("OnionNetModel$Circuit", "length", "I", false)
  | 4 => ("OnionNetModel$Circuit", "hops", "I", false)
  | 5 => ("OnionNetModel$Circuit", "state", "I", false)
  | 6 => ("OnionNetModel$Circuit", "layers", "[LOnionNetModel$Layer;", true)
  | 7 => ("OnionNetModel$Circuit", "x", "[I", true)
  | 8 => ("OnionNetModel$Circuit", "streams", "I", false)
  | 9 => ("OnionNetModel$Circuit", "is", "[I", true)
  | 10 => ("OnionNetModel$Circuit", "window", "[I", true)
  | 11 => ("OnionNetModel$Circuit", "came", "[I", true)
  | 12 => ("OnionNetModel$Circuit", "wait", "[I", true)
  | 13 => ("OnionNetModel$Circuit", "waitCount", "[I", true)
  | 14 => ("OnionNetModel$Circuit", "got", "[I", true)
  | _ => ("OnionNetModel$Circuit", "gotCount", "[I", true)
def t_MCircuit : Nat → FieldType := fun k => match k with
  | 0 => .int
  | 1 => .int
  | 2 => .array .int
  | 3 => .int
  | 4 => .int
  | 5 => .int
  | 6 => .array (.object "OnionNetModel$Layer")
  | 7 => .array .int
  | 8 => .int
  | 9 => .array .int
  | 10 => .array .int
  | 11 => .array .int
  | 12 => .array .int
  | 13 => .array .int
  | 14 => .array .int
  | _ => .array .int
theorem n_MCircuit : ∀ a, a < 16 → ∀ b, b < 16 → a ≠ b → (T_MCircuit a).2.1 ≠ (T_MCircuit b).2.1 := by decide +kernel
theorem t_MCircuit_ok : ∀ k, k < 16 → parseFieldDescriptor (T_MCircuit k).2.2.1 = some (t_MCircuit k) := by decide +kernel
theorem i_MCircuit : ∀ w ∈ u_ws R_MCircuit T_MCircuit 16, w ∈ on_W := by
  intro w hw
  obtain ⟨k, hk, rfl⟩ := List.mem_map.mp hw
  have hk := List.mem_range.mp hk
  match k, hk with
  | 0, _ => exact on_w 1577 (by decide +kernel) rfl
  | 1, _ => exact on_w 1579 (by decide +kernel) rfl
  | 2, _ => exact on_w 1581 (by decide +kernel) rfl
  | 3, _ => exact on_w 1583 (by decide +kernel) rfl
  | 4, _ => exact on_w 1585 (by decide +kernel) rfl
  | 5, _ => exact on_w 1587 (by decide +kernel) rfl
  | 6, _ => exact on_w 1589 (by decide +kernel) rfl
  | 7, _ => exact on_w 1591 (by decide +kernel) rfl
  | 8, _ => exact on_w 1593 (by decide +kernel) rfl
  | 9, _ => exact on_w 1595 (by decide +kernel) rfl
  | 10, _ => exact on_w 1597 (by decide +kernel) rfl
  | 11, _ => exact on_w 1599 (by decide +kernel) rfl
  | 12, _ => exact on_w 1601 (by decide +kernel) rfl
  | 13, _ => exact on_w 1603 (by decide +kernel) rfl
  | 14, _ => exact on_w 1605 (by decide +kernel) rfl
  | 15, _ => exact on_w 1607 (by decide +kernel) rfl
  | k + 16, hk => exact absurd hk (by omega)
def R_M : String := "OnionNetModel"
def T_M : u_T := fun k => match k with
  | 0 => ("OnionNetModel", "relays", "[LOnionNetModel$Relay;", true)
  | 1 => ("OnionNetModel", "relayCount", "I", false)
  | 2 => ("OnionNetModel", "clientSeeds", "[J", true)
  | 3 => ("OnionNetModel", "clientDraws", "[I", true)
  | 4 => ("OnionNetModel", "clientNumbers", "[I", true)
  | 5 => ("OnionNetModel", "clients", "I", false)
  | 6 => ("OnionNetModel", "circuits", "[LOnionNetModel$Circuit;", true)
  | 7 => ("OnionNetModel", "circuitCount", "I", false)
  | 8 => ("OnionNetModel", "cells", "[I", true)
  | 9 => ("OnionNetModel", "lying", "[I", true)
  | 10 => ("OnionNetModel", "sha", "LOnionNetModel$Sha;", true)
  | 11 => ("OnionNetModel", "inner", "LOnionNetModel$Sha;", true)
  | 12 => ("OnionNetModel", "trial", "LOnionNetModel$Sha;", true)
  | 13 => ("OnionNetModel", "table", "[I", true)
  | 14 => ("OnionNetModel", "digest", "[I", true)
  | 15 => ("OnionNetModel", "key", "[I", true)
  | 16 => ("OnionNetModel", "text", "[I", true)
  | 17 => ("OnionNetModel", "point", "[I", true)
  | 18 => ("OnionNetModel", "one", "[I", true)
  | 19 => ("OnionNetModel", "two", "[I", true)
  | 20 => ("OnionNetModel", "cell", "[I", true)
  | 21 => ("OnionNetModel", "payload", "[I", true)
  | 22 => ("OnionNetModel", "shake", "[I", true)
  | 23 => ("OnionNetModel", "block", "[I", true)
  | 24 => ("OnionNetModel", "begun", "[I", true)
  | 25 => ("OnionNetModel", "fx1", "[J", true)
  | 26 => ("OnionNetModel", "fx2", "[J", true)
  | 27 => ("OnionNetModel", "fz2", "[J", true)
  | 28 => ("OnionNetModel", "fx3", "[J", true)
  | 29 => ("OnionNetModel", "fz3", "[J", true)
  | 30 => ("OnionNetModel", "fa", "[J", true)
  | 31 => ("OnionNetModel", "fb", "[J", true)
  | 32 => ("OnionNetModel", "fc", "[J", true)
  | 33 => ("OnionNetModel", "fd", "[J", true)
  | 34 => ("OnionNetModel", "fe", "[J", true)
  | 35 => ("OnionNetModel", "ff", "[J", true)
  | 36 => ("OnionNetModel", "wide", "[J", true)
  | _ => ("OnionNetModel", "data", "[I", true)
def t_M : Nat → FieldType := fun k => match k with
  | 0 => .array (.object "OnionNetModel$Relay")
  | 1 => .int
  | 2 => .array .long
  | 3 => .array .int
  | 4 => .array .int
  | 5 => .int
  | 6 => .array (.object "OnionNetModel$Circuit")
  | 7 => .int
  | 8 => .array .int
  | 9 => .array .int
  | 10 => .object "OnionNetModel$Sha"
  | 11 => .object "OnionNetModel$Sha"
  | 12 => .object "OnionNetModel$Sha"
  | 13 => .array .int
  | 14 => .array .int
  | 15 => .array .int
  | 16 => .array .int
  | 17 => .array .int
  | 18 => .array .int
  | 19 => .array .int
  | 20 => .array .int
  | 21 => .array .int
  | 22 => .array .int
  | 23 => .array .int
  | 24 => .array .int
  | 25 => .array .long
  | 26 => .array .long
  | 27 => .array .long
  | 28 => .array .long
  | 29 => .array .long
  | 30 => .array .long
  | 31 => .array .long
  | 32 => .array .long
  | 33 => .array .long
  | 34 => .array .long
  | 35 => .array .long
  | 36 => .array .long
  | _ => .array .int
theorem n_M : ∀ a, a < 38 → ∀ b, b < 38 → a ≠ b → (T_M a).2.1 ≠ (T_M b).2.1 := by decide +kernel
theorem t_M_ok : ∀ k, k < 38 → parseFieldDescriptor (T_M k).2.2.1 = some (t_M k) := by decide +kernel
theorem i_M : ∀ w ∈ u_ws R_M T_M 38, w ∈ on_W := by
  intro w hw
  obtain ⟨k, hk, rfl⟩ := List.mem_map.mp hw
  have hk := List.mem_range.mp hk
  match k, hk with
  | 0, _ => exact on_w 1171 (by decide +kernel) rfl
  | 1, _ => exact on_w 1173 (by decide +kernel) rfl
  | 2, _ => exact on_w 1175 (by decide +kernel) rfl
  | 3, _ => exact on_w 1177 (by decide +kernel) rfl
  | 4, _ => exact on_w 1179 (by decide +kernel) rfl
  | 5, _ => exact on_w 1181 (by decide +kernel) rfl
  | 6, _ => exact on_w 1183 (by decide +kernel) rfl
  | 7, _ => exact on_w 1185 (by decide +kernel) rfl
  | 8, _ => exact on_w 1187 (by decide +kernel) rfl
  | 9, _ => exact on_w 1189 (by decide +kernel) rfl
  | 10, _ => exact on_w 1191 (by decide +kernel) rfl
  | 11, _ => exact on_w 1193 (by decide +kernel) rfl
  | 12, _ => exact on_w 1195 (by decide +kernel) rfl
  | 13, _ => exact on_w 1197 (by decide +kernel) rfl
  | 14, _ => exact on_w 1199 (by decide +kernel) rfl
  | 15, _ => exact on_w 1201 (by decide +kernel) rfl
  | 16, _ => exact on_w 1203 (by decide +kernel) rfl
  | 17, _ => exact on_w 1205 (by decide +kernel) rfl
  | 18, _ => exact on_w 1207 (by decide +kernel) rfl
  | 19, _ => exact on_w 1209 (by decide +kernel) rfl
  | 20, _ => exact on_w 1211 (by decide +kernel) rfl
  | 21, _ => exact on_w 1213 (by decide +kernel) rfl
  | 22, _ => exact on_w 1215 (by decide +kernel) rfl
  | 23, _ => exact on_w 1217 (by decide +kernel) rfl
  | 24, _ => exact on_w 1219 (by decide +kernel) rfl
  | 25, _ => exact on_w 1221 (by decide +kernel) rfl
  | 26, _ => exact on_w 1223 (by decide +kernel) rfl
  | 27, _ => exact on_w 1225 (by decide +kernel) rfl
  | 28, _ => exact on_w 1227 (by decide +kernel) rfl
  | 29, _ => exact on_w 1229 (by decide +kernel) rfl
  | 30, _ => exact on_w 1231 (by decide +kernel) rfl
  | 31, _ => exact on_w 1233 (by decide +kernel) rfl
  | 32, _ => exact on_w 1235 (by decide +kernel) rfl
  | 33, _ => exact on_w 1237 (by decide +kernel) rfl
  | 34, _ => exact on_w 1239 (by decide +kernel) rfl
  | 35, _ => exact on_w 1241 (by decide +kernel) rfl
  | 36, _ => exact on_w 1243 (by decide +kernel) rfl
  | 37, _ => exact on_w 1245 (by decide +kernel) rfl
  | k + 38, hk => exact absurd hk (by omega)
abbrev on_cl : List vw_C := [(R_Sha, T_Sha, 3), (R_Curve, T_Curve, 11), (R_Lane, T_Lane, 7), (R_Handshake, T_Handshake, 13), (R_Node, T_Node, 4), (R_Link, T_Link, 3), (R_Outbox, T_Outbox, 4), (R_Entry, T_Entry, 13), (R_Relay, T_Relay, 10), (R_Circuit, T_Circuit, 12), (R_Stream, T_Stream, 8), (R_N, T_N, 11), (R_MSha, T_MSha, 3), (R_MLayer, T_MLayer, 6), (R_MEntry, T_MEntry, 11), (R_MRelay, T_MRelay, 11), (R_MCircuit, T_MCircuit, 16), (R_M, T_M, 38)]
abbrev on_tyl : List FieldType := [.int, .long, .boolean, .array .int, .object "OnionNet$Relay", .object "OnionNet$Entry", .object "OnionNet$Lane", .object "OnionNet$Stream", .object "OnionNet$Node", .object "OnionNet$Circuit", .object "OnionNet$Link", .object "OnionNetModel$Entry", .object "OnionNetModel$Layer", .object "OnionNetModel$Relay", .object "OnionNetModel$Circuit"]
def on_st0 : List Int32 := [1779033703, -1150833019, 1013904242, -1521486534, 1359893119, -1694144372, 528734635, 1541459225]
def on_st1 : List Int32 := [1116352408, 1899447441, -1245643825, -373957723, 961987163, 1508970993, -1841331548, -1424204075, -670586216, 310598401, 607225278, 1426881987, 1925078388, -2132889090, -1680079193, -1046744716, -459576895, -272742522, 264347078, 604807628, 770255983, 1249150122, 1555081692, 1996064986, -1740746414, -1473132947, -1341970488, -1084653625, -958395405, -710438585, 113926993, 338241895, 666307205, 773529912, 1294757372, 1396182291, 1695183700, 1986661051, -2117940946, -1838011259, -1564481375, -1474664885, -1035236496, -949202525, -778901479, -694614492, -200395387, 275423344, 430227734, 506948616, 659060556, 883997877, 958139571, 1322822218, 1537002063, 1747873779, 1955562222, 2024104815, -2067236844, -1933114872, -1866530822, -1538233109, -1090935817, -965641998]
def on_st2 : List Int32 := [79, 78, 73, 79, 78, 78, 69, 84]
abbrev on_stl : List (String × String × List Int32) := [("OnionNet$Sha", "START", on_st0), ("OnionNet$Sha", "ROUNDS", on_st1), ("OnionNet$Handshake", "NAME", on_st2)]
