section
-- ===== PART A: goes FIRST, ahead of the names: the tables' words, and 'selects' of the private methods out of them =====
/-- a private method of a class that the tables say can be made, by its rows of tables_1 -/
def lw_okq (q : MethodName × Nat) : Prop := (q.1.cls ≠ "java/lang/invoke/MethodHandle" ∧ q.1.cls ≠ "java/lang/invoke/VarHandle") ∧ Cond.instantiable q.1.cls q.2 ∈ tables_1 ∧ Cond.privateMethod q.1 ∈ tables_1 ∧ Cond.instanceMethod q.1 ∈ tables_1
theorem lw_p0 : lw_okq (⟨"SealedWire", "takeTape", "()LSealedWire$Row;"⟩, 16) := ⟨⟨by decide +kernel, by decide +kernel⟩, List.mem_of_getElem? (i := 25) (by decide +kernel), List.mem_of_getElem? (i := 396) (by decide +kernel), List.mem_of_getElem? (i := 397) (by decide +kernel)⟩
theorem lw_p1 : lw_okq (⟨"SealedWire$Hasher", "mix", "(I)V"⟩, 3) := ⟨⟨by decide +kernel, by decide +kernel⟩, List.mem_of_getElem? (i := 78) (by decide +kernel), List.mem_of_getElem? (i := 434) (by decide +kernel), List.mem_of_getElem? (i := 435) (by decide +kernel)⟩
theorem lw_p2 : lw_okq (⟨"SealedWire$Hasher", "spread", "(I)V"⟩, 3) := ⟨⟨by decide +kernel, by decide +kernel⟩, List.mem_of_getElem? (i := 78) (by decide +kernel), List.mem_of_getElem? (i := 438) (by decide +kernel), List.mem_of_getElem? (i := 439) (by decide +kernel)⟩
theorem lw_p3 : lw_okq (⟨"java/lang/Throwable", "fillInStackTrace", "(I)Ljava/lang/Throwable;"⟩, 6) := ⟨⟨by decide +kernel, by decide +kernel⟩, List.mem_of_getElem? (i := 492) (by decide +kernel), List.mem_of_getElem? (i := 490) (by decide +kernel), List.mem_of_getElem? (i := 491) (by decide +kernel)⟩
theorem lw_p4 : lw_okq (⟨"SealedWire", "settable", "(I)[I"⟩, 16) := ⟨⟨by decide +kernel, by decide +kernel⟩, List.mem_of_getElem? (i := 25) (by decide +kernel), List.mem_of_getElem? (i := 517) (by decide +kernel), List.mem_of_getElem? (i := 518) (by decide +kernel)⟩
theorem lw_p5 : lw_okq (⟨"SealedWire$Curve", "step", "([J[J[J[J)V"⟩, 12) := ⟨⟨by decide +kernel, by decide +kernel⟩, List.mem_of_getElem? (i := 33) (by decide +kernel), List.mem_of_getElem? (i := 560) (by decide +kernel), List.mem_of_getElem? (i := 561) (by decide +kernel)⟩
theorem lw_p6 : lw_okq (⟨"SealedWire$Curve", "product", "([J[J[J)V"⟩, 12) := ⟨⟨by decide +kernel, by decide +kernel⟩, List.mem_of_getElem? (i := 33) (by decide +kernel), List.mem_of_getElem? (i := 573) (by decide +kernel), List.mem_of_getElem? (i := 574) (by decide +kernel)⟩
theorem lw_p7 : lw_okq (⟨"SealedWire$Curve", "fold", "([J)V"⟩, 12) := ⟨⟨by decide +kernel, by decide +kernel⟩, List.mem_of_getElem? (i := 33) (by decide +kernel), List.mem_of_getElem? (i := 577) (by decide +kernel), List.mem_of_getElem? (i := 578) (by decide +kernel)⟩
theorem lw_p8 : lw_okq (⟨"SealedWire$Curve", "square", "([J[J)V"⟩, 12) := ⟨⟨by decide +kernel, by decide +kernel⟩, List.mem_of_getElem? (i := 33) (by decide +kernel), List.mem_of_getElem? (i := 584) (by decide +kernel), List.mem_of_getElem? (i := 585) (by decide +kernel)⟩
theorem lw_p9 : lw_okq (⟨"SealedWire$Curve", "scale", "([J[J)V"⟩, 12) := ⟨⟨by decide +kernel, by decide +kernel⟩, List.mem_of_getElem? (i := 33) (by decide +kernel), List.mem_of_getElem? (i := 589) (by decide +kernel), List.mem_of_getElem? (i := 590) (by decide +kernel)⟩
theorem lw_p10 : lw_okq (⟨"SealedWire$Curve", "invert", "([J[J)V"⟩, 12) := ⟨⟨by decide +kernel, by decide +kernel⟩, List.mem_of_getElem? (i := 33) (by decide +kernel), List.mem_of_getElem? (i := 594) (by decide +kernel), List.mem_of_getElem? (i := 595) (by decide +kernel)⟩
theorem lw_p11 : lw_okq (⟨"SealedWire$Streamer", "fillFirst", "([IJI)V"⟩, 3) := ⟨⟨by decide +kernel, by decide +kernel⟩, List.mem_of_getElem? (i := 119) (by decide +kernel), List.mem_of_getElem? (i := 615) (by decide +kernel), List.mem_of_getElem? (i := 616) (by decide +kernel)⟩
theorem lw_p12 : lw_okq (⟨"SealedWire$Streamer", "quarter", "(IIII)V"⟩, 3) := ⟨⟨by decide +kernel, by decide +kernel⟩, List.mem_of_getElem? (i := 119) (by decide +kernel), List.mem_of_getElem? (i := 627) (by decide +kernel), List.mem_of_getElem? (i := 628) (by decide +kernel)⟩
theorem lw_p13 : lw_okq (⟨"SealedWire$Tagger", "readFactor", "([I)V"⟩, 5) := ⟨⟨by decide +kernel, by decide +kernel⟩, List.mem_of_getElem? (i := 137) (by decide +kernel), List.mem_of_getElem? (i := 643) (by decide +kernel), List.mem_of_getElem? (i := 644) (by decide +kernel)⟩
theorem lw_p14 : lw_okq (⟨"SealedWire$Tagger", "addPiece", "([III)V"⟩, 5) := ⟨⟨by decide +kernel, by decide +kernel⟩, List.mem_of_getElem? (i := 137) (by decide +kernel), List.mem_of_getElem? (i := 653) (by decide +kernel), List.mem_of_getElem? (i := 654) (by decide +kernel)⟩
theorem lw_p15 : lw_okq (⟨"SealedWire$Tagger", "multiplyByFactor", "()V"⟩, 5) := ⟨⟨by decide +kernel, by decide +kernel⟩, List.mem_of_getElem? (i := 137) (by decide +kernel), List.mem_of_getElem? (i := 660) (by decide +kernel), List.mem_of_getElem? (i := 661) (by decide +kernel)⟩
def lw_privs_1 : List (MethodName × Nat) := [(⟨"SealedWire", "takeTape", "()LSealedWire$Row;"⟩, 16), (⟨"SealedWire$Hasher", "mix", "(I)V"⟩, 3), (⟨"SealedWire$Hasher", "spread", "(I)V"⟩, 3), (⟨"java/lang/Throwable", "fillInStackTrace", "(I)Ljava/lang/Throwable;"⟩, 6), (⟨"SealedWire", "settable", "(I)[I"⟩, 16), (⟨"SealedWire$Curve", "step", "([J[J[J[J)V"⟩, 12), (⟨"SealedWire$Curve", "product", "([J[J[J)V"⟩, 12), (⟨"SealedWire$Curve", "fold", "([J)V"⟩, 12), (⟨"SealedWire$Curve", "square", "([J[J)V"⟩, 12), (⟨"SealedWire$Curve", "scale", "([J[J)V"⟩, 12), (⟨"SealedWire$Curve", "invert", "([J[J)V"⟩, 12), (⟨"SealedWire$Streamer", "fillFirst", "([IJI)V"⟩, 3), (⟨"SealedWire$Streamer", "quarter", "(IIII)V"⟩, 3), (⟨"SealedWire$Tagger", "readFactor", "([I)V"⟩, 5), (⟨"SealedWire$Tagger", "addPiece", "([III)V"⟩, 5), (⟨"SealedWire$Tagger", "multiplyByFactor", "()V"⟩, 5)]
theorem lw_r1 : ∀ q ∈ lw_privs_1, lw_okq q := List.forall_mem_cons.mpr ⟨lw_p0, List.forall_mem_cons.mpr ⟨lw_p1, List.forall_mem_cons.mpr ⟨lw_p2, List.forall_mem_cons.mpr ⟨lw_p3, List.forall_mem_cons.mpr ⟨lw_p4, List.forall_mem_cons.mpr ⟨lw_p5, List.forall_mem_cons.mpr ⟨lw_p6, List.forall_mem_cons.mpr ⟨lw_p7, List.forall_mem_cons.mpr ⟨lw_p8, List.forall_mem_cons.mpr ⟨lw_p9, List.forall_mem_cons.mpr ⟨lw_p10, List.forall_mem_cons.mpr ⟨lw_p11, List.forall_mem_cons.mpr ⟨lw_p12, List.forall_mem_cons.mpr ⟨lw_p13, List.forall_mem_cons.mpr ⟨lw_p14, List.forall_mem_cons.mpr ⟨lw_p15, fun _ h => absurd h List.not_mem_nil⟩⟩⟩⟩⟩⟩⟩⟩⟩⟩⟩⟩⟩⟩⟩⟩
theorem lw_p16 : lw_okq (⟨"SealedWire$Tagger", "carry", "()V"⟩, 5) := ⟨⟨by decide +kernel, by decide +kernel⟩, List.mem_of_getElem? (i := 137) (by decide +kernel), List.mem_of_getElem? (i := 665) (by decide +kernel), List.mem_of_getElem? (i := 666) (by decide +kernel)⟩
theorem lw_p17 : lw_okq (⟨"SealedWire$Tagger", "settle", "()V"⟩, 5) := ⟨⟨by decide +kernel, by decide +kernel⟩, List.mem_of_getElem? (i := 137) (by decide +kernel), List.mem_of_getElem? (i := 670) (by decide +kernel), List.mem_of_getElem? (i := 671) (by decide +kernel)⟩
theorem lw_p18 : lw_okq (⟨"SealedWire", "endOf", "(I)LSealedWire$End;"⟩, 16) := ⟨⟨by decide +kernel, by decide +kernel⟩, List.mem_of_getElem? (i := 25) (by decide +kernel), List.mem_of_getElem? (i := 698) (by decide +kernel), List.mem_of_getElem? (i := 699) (by decide +kernel)⟩
theorem lw_p19 : lw_okq (⟨"SealedWire", "writeInit", "(LSealedWire$End;)V"⟩, 16) := ⟨⟨by decide +kernel, by decide +kernel⟩, List.mem_of_getElem? (i := 25) (by decide +kernel), List.mem_of_getElem? (i := 732) (by decide +kernel), List.mem_of_getElem? (i := 733) (by decide +kernel)⟩
theorem lw_p20 : lw_okq (⟨"SealedWire", "emit", "(LSealedWire$End;)V"⟩, 16) := ⟨⟨by decide +kernel, by decide +kernel⟩, List.mem_of_getElem? (i := 25) (by decide +kernel), List.mem_of_getElem? (i := 736) (by decide +kernel), List.mem_of_getElem? (i := 737) (by decide +kernel)⟩
theorem lw_p21 : lw_okq (⟨"SealedWire$Sealer", "hide", "(LSealedWire$Row;LSealedWire$Keys;I)V"⟩, 3) := ⟨⟨by decide +kernel, by decide +kernel⟩, List.mem_of_getElem? (i := 113) (by decide +kernel), List.mem_of_getElem? (i := 759) (by decide +kernel), List.mem_of_getElem? (i := 760) (by decide +kernel)⟩
theorem lw_p22 : lw_okq (⟨"SealedWire", "deliver", "(LSealedWire$End;)I"⟩, 16) := ⟨⟨by decide +kernel, by decide +kernel⟩, List.mem_of_getElem? (i := 25) (by decide +kernel), List.mem_of_getElem? (i := 782) (by decide +kernel), List.mem_of_getElem? (i := 783) (by decide +kernel)⟩
theorem lw_p23 : lw_okq (⟨"SealedWire$Sealer", "readPlain", "(ZLSealedWire$Row;)Z"⟩, 3) := ⟨⟨by decide +kernel, by decide +kernel⟩, List.mem_of_getElem? (i := 113) (by decide +kernel), List.mem_of_getElem? (i := 799) (by decide +kernel), List.mem_of_getElem? (i := 800) (by decide +kernel)⟩
theorem lw_p24 : lw_okq (⟨"SealedWire", "giveUp", "(LSealedWire$End;)V"⟩, 16) := ⟨⟨by decide +kernel, by decide +kernel⟩, List.mem_of_getElem? (i := 25) (by decide +kernel), List.mem_of_getElem? (i := 807) (by decide +kernel), List.mem_of_getElem? (i := 808) (by decide +kernel)⟩
theorem lw_p25 : lw_okq (⟨"SealedWire", "writeSingle", "(I)V"⟩, 16) := ⟨⟨by decide +kernel, by decide +kernel⟩, List.mem_of_getElem? (i := 25) (by decide +kernel), List.mem_of_getElem? (i := 811) (by decide +kernel), List.mem_of_getElem? (i := 812) (by decide +kernel)⟩
theorem lw_p26 : lw_okq (⟨"SealedWire", "isInPlace", "(LSealedWire$End;I)Z"⟩, 16) := ⟨⟨by decide +kernel, by decide +kernel⟩, List.mem_of_getElem? (i := 25) (by decide +kernel), List.mem_of_getElem? (i := 815) (by decide +kernel), List.mem_of_getElem? (i := 816) (by decide +kernel)⟩
theorem lw_p27 : lw_okq (⟨"SealedWire", "onInit", "(LSealedWire$End;)V"⟩, 16) := ⟨⟨by decide +kernel, by decide +kernel⟩, List.mem_of_getElem? (i := 25) (by decide +kernel), List.mem_of_getElem? (i := 820) (by decide +kernel), List.mem_of_getElem? (i := 821) (by decide +kernel)⟩
theorem lw_p28 : lw_okq (⟨"SealedWire", "takeSecret", "(LSealedWire$End;)V"⟩, 16) := ⟨⟨by decide +kernel, by decide +kernel⟩, List.mem_of_getElem? (i := 25) (by decide +kernel), List.mem_of_getElem? (i := 824) (by decide +kernel), List.mem_of_getElem? (i := 825) (by decide +kernel)⟩
theorem lw_p29 : lw_okq (⟨"SealedWire", "onRequest", "()V"⟩, 16) := ⟨⟨by decide +kernel, by decide +kernel⟩, List.mem_of_getElem? (i := 25) (by decide +kernel), List.mem_of_getElem? (i := 843) (by decide +kernel), List.mem_of_getElem? (i := 844) (by decide +kernel)⟩
theorem lw_p30 : lw_okq (⟨"SealedWire", "startAgreement", "([I[I[II)V"⟩, 16) := ⟨⟨by decide +kernel, by decide +kernel⟩, List.mem_of_getElem? (i := 25) (by decide +kernel), List.mem_of_getElem? (i := 847) (by decide +kernel), List.mem_of_getElem? (i := 848) (by decide +kernel)⟩
theorem lw_p31 : lw_okq (⟨"SealedWire", "finishAgreement", "()V"⟩, 16) := ⟨⟨by decide +kernel, by decide +kernel⟩, List.mem_of_getElem? (i := 25) (by decide +kernel), List.mem_of_getElem? (i := 851) (by decide +kernel), List.mem_of_getElem? (i := 852) (by decide +kernel)⟩
def lw_privs_2 : List (MethodName × Nat) := [(⟨"SealedWire$Tagger", "carry", "()V"⟩, 5), (⟨"SealedWire$Tagger", "settle", "()V"⟩, 5), (⟨"SealedWire", "endOf", "(I)LSealedWire$End;"⟩, 16), (⟨"SealedWire", "writeInit", "(LSealedWire$End;)V"⟩, 16), (⟨"SealedWire", "emit", "(LSealedWire$End;)V"⟩, 16), (⟨"SealedWire$Sealer", "hide", "(LSealedWire$Row;LSealedWire$Keys;I)V"⟩, 3), (⟨"SealedWire", "deliver", "(LSealedWire$End;)I"⟩, 16), (⟨"SealedWire$Sealer", "readPlain", "(ZLSealedWire$Row;)Z"⟩, 3), (⟨"SealedWire", "giveUp", "(LSealedWire$End;)V"⟩, 16), (⟨"SealedWire", "writeSingle", "(I)V"⟩, 16), (⟨"SealedWire", "isInPlace", "(LSealedWire$End;I)Z"⟩, 16), (⟨"SealedWire", "onInit", "(LSealedWire$End;)V"⟩, 16), (⟨"SealedWire", "takeSecret", "(LSealedWire$End;)V"⟩, 16), (⟨"SealedWire", "onRequest", "()V"⟩, 16), (⟨"SealedWire", "startAgreement", "([I[I[II)V"⟩, 16), (⟨"SealedWire", "finishAgreement", "()V"⟩, 16)]
theorem lw_r2 : ∀ q ∈ lw_privs_2, lw_okq q := List.forall_mem_cons.mpr ⟨lw_p16, List.forall_mem_cons.mpr ⟨lw_p17, List.forall_mem_cons.mpr ⟨lw_p18, List.forall_mem_cons.mpr ⟨lw_p19, List.forall_mem_cons.mpr ⟨lw_p20, List.forall_mem_cons.mpr ⟨lw_p21, List.forall_mem_cons.mpr ⟨lw_p22, List.forall_mem_cons.mpr ⟨lw_p23, List.forall_mem_cons.mpr ⟨lw_p24, List.forall_mem_cons.mpr ⟨lw_p25, List.forall_mem_cons.mpr ⟨lw_p26, List.forall_mem_cons.mpr ⟨lw_p27, List.forall_mem_cons.mpr ⟨lw_p28, List.forall_mem_cons.mpr ⟨lw_p29, List.forall_mem_cons.mpr ⟨lw_p30, List.forall_mem_cons.mpr ⟨lw_p31, fun _ h => absurd h List.not_mem_nil⟩⟩⟩⟩⟩⟩⟩⟩⟩⟩⟩⟩⟩⟩⟩⟩
theorem lw_p32 : lw_okq (⟨"SealedWire", "makeProof", "()V"⟩, 16) := ⟨⟨by decide +kernel, by decide +kernel⟩, List.mem_of_getElem? (i := 25) (by decide +kernel), List.mem_of_getElem? (i := 855) (by decide +kernel), List.mem_of_getElem? (i := 856) (by decide +kernel)⟩
theorem lw_p33 : lw_okq (⟨"SealedWire", "turnToNewKeys", "(LSealedWire$End;II)V"⟩, 16) := ⟨⟨by decide +kernel, by decide +kernel⟩, List.mem_of_getElem? (i := 25) (by decide +kernel), List.mem_of_getElem? (i := 859) (by decide +kernel), List.mem_of_getElem? (i := 860) (by decide +kernel)⟩
theorem lw_p34 : lw_okq (⟨"SealedWire", "makeKey", "([II[I)V"⟩, 16) := ⟨⟨by decide +kernel, by decide +kernel⟩, List.mem_of_getElem? (i := 25) (by decide +kernel), List.mem_of_getElem? (i := 863) (by decide +kernel), List.mem_of_getElem? (i := 864) (by decide +kernel)⟩
theorem lw_p35 : lw_okq (⟨"SealedWire", "acceptReply", "()Z"⟩, 16) := ⟨⟨by decide +kernel, by decide +kernel⟩, List.mem_of_getElem? (i := 25) (by decide +kernel), List.mem_of_getElem? (i := 871) (by decide +kernel), List.mem_of_getElem? (i := 872) (by decide +kernel)⟩
theorem lw_p36 : lw_okq (⟨"SealedWire", "answerUnknown", "(LSealedWire$End;I)V"⟩, 16) := ⟨⟨by decide +kernel, by decide +kernel⟩, List.mem_of_getElem? (i := 25) (by decide +kernel), List.mem_of_getElem? (i := 876) (by decide +kernel), List.mem_of_getElem? (i := 877) (by decide +kernel)⟩
theorem lw_p37 : lw_okq (⟨"SealedWireModel", "rootOf", "(II)I"⟩, 49) := ⟨⟨by decide +kernel, by decide +kernel⟩, List.mem_of_getElem? (i := 927) (by decide +kernel), List.mem_of_getElem? (i := 933) (by decide +kernel), List.mem_of_getElem? (i := 934) (by decide +kernel)⟩
theorem lw_p38 : lw_okq (⟨"SealedWireModel", "isRoot", "(JII)Z"⟩, 49) := ⟨⟨by decide +kernel, by decide +kernel⟩, List.mem_of_getElem? (i := 927) (by decide +kernel), List.mem_of_getElem? (i := 937) (by decide +kernel), List.mem_of_getElem? (i := 938) (by decide +kernel)⟩
theorem lw_p39 : lw_okq (⟨"SealedWireModel", "taken", "()I"⟩, 49) := ⟨⟨by decide +kernel, by decide +kernel⟩, List.mem_of_getElem? (i := 927) (by decide +kernel), List.mem_of_getElem? (i := 1105) (by decide +kernel), List.mem_of_getElem? (i := 1106) (by decide +kernel)⟩
theorem lw_p40 : lw_okq (⟨"SealedWireModel", "pointTimes", "([BI[BI[BI)V"⟩, 49) := ⟨⟨by decide +kernel, by decide +kernel⟩, List.mem_of_getElem? (i := 927) (by decide +kernel), List.mem_of_getElem? (i := 1116) (by decide +kernel), List.mem_of_getElem? (i := 1117) (by decide +kernel)⟩
theorem lw_p41 : lw_okq (⟨"SealedWireModel", "putSmall", "(II)V"⟩, 49) := ⟨⟨by decide +kernel, by decide +kernel⟩, List.mem_of_getElem? (i := 927) (by decide +kernel), List.mem_of_getElem? (i := 1120) (by decide +kernel), List.mem_of_getElem? (i := 1121) (by decide +kernel)⟩
theorem lw_p42 : lw_okq (⟨"SealedWireModel", "copy", "(II)V"⟩, 49) := ⟨⟨by decide +kernel, by decide +kernel⟩, List.mem_of_getElem? (i := 927) (by decide +kernel), List.mem_of_getElem? (i := 1127) (by decide +kernel), List.mem_of_getElem? (i := 1128) (by decide +kernel)⟩
theorem lw_p43 : lw_okq (⟨"SealedWireModel", "turnRound", "(Z)V"⟩, 49) := ⟨⟨by decide +kernel, by decide +kernel⟩, List.mem_of_getElem? (i := 927) (by decide +kernel), List.mem_of_getElem? (i := 1133) (by decide +kernel), List.mem_of_getElem? (i := 1134) (by decide +kernel)⟩
theorem lw_p44 : lw_okq (⟨"SealedWireModel", "add", "(III)V"⟩, 49) := ⟨⟨by decide +kernel, by decide +kernel⟩, List.mem_of_getElem? (i := 927) (by decide +kernel), List.mem_of_getElem? (i := 1137) (by decide +kernel), List.mem_of_getElem? (i := 1138) (by decide +kernel)⟩
theorem lw_p45 : lw_okq (⟨"SealedWireModel", "carry", "(I)V"⟩, 49) := ⟨⟨by decide +kernel, by decide +kernel⟩, List.mem_of_getElem? (i := 927) (by decide +kernel), List.mem_of_getElem? (i := 1141) (by decide +kernel), List.mem_of_getElem? (i := 1142) (by decide +kernel)⟩
theorem lw_p46 : lw_okq (⟨"SealedWireModel", "subtract", "(III)V"⟩, 49) := ⟨⟨by decide +kernel, by decide +kernel⟩, List.mem_of_getElem? (i := 927) (by decide +kernel), List.mem_of_getElem? (i := 1147) (by decide +kernel), List.mem_of_getElem? (i := 1148) (by decide +kernel)⟩
theorem lw_p47 : lw_okq (⟨"SealedWireModel", "times", "(III)V"⟩, 49) := ⟨⟨by decide +kernel, by decide +kernel⟩, List.mem_of_getElem? (i := 927) (by decide +kernel), List.mem_of_getElem? (i := 1153) (by decide +kernel), List.mem_of_getElem? (i := 1154) (by decide +kernel)⟩
def lw_privs_3 : List (MethodName × Nat) := [(⟨"SealedWire", "makeProof", "()V"⟩, 16), (⟨"SealedWire", "turnToNewKeys", "(LSealedWire$End;II)V"⟩, 16), (⟨"SealedWire", "makeKey", "([II[I)V"⟩, 16), (⟨"SealedWire", "acceptReply", "()Z"⟩, 16), (⟨"SealedWire", "answerUnknown", "(LSealedWire$End;I)V"⟩, 16), (⟨"SealedWireModel", "rootOf", "(II)I"⟩, 49), (⟨"SealedWireModel", "isRoot", "(JII)Z"⟩, 49), (⟨"SealedWireModel", "taken", "()I"⟩, 49), (⟨"SealedWireModel", "pointTimes", "([BI[BI[BI)V"⟩, 49), (⟨"SealedWireModel", "putSmall", "(II)V"⟩, 49), (⟨"SealedWireModel", "copy", "(II)V"⟩, 49), (⟨"SealedWireModel", "turnRound", "(Z)V"⟩, 49), (⟨"SealedWireModel", "add", "(III)V"⟩, 49), (⟨"SealedWireModel", "carry", "(I)V"⟩, 49), (⟨"SealedWireModel", "subtract", "(III)V"⟩, 49), (⟨"SealedWireModel", "times", "(III)V"⟩, 49)]
theorem lw_r3 : ∀ q ∈ lw_privs_3, lw_okq q := List.forall_mem_cons.mpr ⟨lw_p32, List.forall_mem_cons.mpr ⟨lw_p33, List.forall_mem_cons.mpr ⟨lw_p34, List.forall_mem_cons.mpr ⟨lw_p35, List.forall_mem_cons.mpr ⟨lw_p36, List.forall_mem_cons.mpr ⟨lw_p37, List.forall_mem_cons.mpr ⟨lw_p38, List.forall_mem_cons.mpr ⟨lw_p39, List.forall_mem_cons.mpr ⟨lw_p40, List.forall_mem_cons.mpr ⟨lw_p41, List.forall_mem_cons.mpr ⟨lw_p42, List.forall_mem_cons.mpr ⟨lw_p43, List.forall_mem_cons.mpr ⟨lw_p44, List.forall_mem_cons.mpr ⟨lw_p45, List.forall_mem_cons.mpr ⟨lw_p46, List.forall_mem_cons.mpr ⟨lw_p47, fun _ h => absurd h List.not_mem_nil⟩⟩⟩⟩⟩⟩⟩⟩⟩⟩⟩⟩⟩⟩⟩⟩
theorem lw_p48 : lw_okq (⟨"SealedWireModel", "settle", "(I)V"⟩, 49) := ⟨⟨by decide +kernel, by decide +kernel⟩, List.mem_of_getElem? (i := 927) (by decide +kernel), List.mem_of_getElem? (i := 1157) (by decide +kernel), List.mem_of_getElem? (i := 1158) (by decide +kernel)⟩
theorem lw_p49 : lw_okq (⟨"SealedWireModel", "tell", "([BII)V"⟩, 49) := ⟨⟨by decide +kernel, by decide +kernel⟩, List.mem_of_getElem? (i := 927) (by decide +kernel), List.mem_of_getElem? (i := 1162) (by decide +kernel), List.mem_of_getElem? (i := 1163) (by decide +kernel)⟩
theorem lw_p50 : lw_okq (⟨"SealedWireModel", "hashBegin", "()V"⟩, 49) := ⟨⟨by decide +kernel, by decide +kernel⟩, List.mem_of_getElem? (i := 927) (by decide +kernel), List.mem_of_getElem? (i := 1170) (by decide +kernel), List.mem_of_getElem? (i := 1171) (by decide +kernel)⟩
theorem lw_p51 : lw_okq (⟨"SealedWireModel", "hashAdd", "([BII)V"⟩, 49) := ⟨⟨by decide +kernel, by decide +kernel⟩, List.mem_of_getElem? (i := 927) (by decide +kernel), List.mem_of_getElem? (i := 1174) (by decide +kernel), List.mem_of_getElem? (i := 1175) (by decide +kernel)⟩
theorem lw_p52 : lw_okq (⟨"SealedWireModel", "hashEnd", "([BI)V"⟩, 49) := ⟨⟨by decide +kernel, by decide +kernel⟩, List.mem_of_getElem? (i := 927) (by decide +kernel), List.mem_of_getElem? (i := 1178) (by decide +kernel), List.mem_of_getElem? (i := 1179) (by decide +kernel)⟩
theorem lw_p53 : lw_okq (⟨"SealedWireModel", "hashBlock", "(I)V"⟩, 49) := ⟨⟨by decide +kernel, by decide +kernel⟩, List.mem_of_getElem? (i := 927) (by decide +kernel), List.mem_of_getElem? (i := 1184) (by decide +kernel), List.mem_of_getElem? (i := 1185) (by decide +kernel)⟩
theorem lw_p54 : lw_okq (⟨"SealedWireModel", "makeStream", "([BIJI)V"⟩, 49) := ⟨⟨by decide +kernel, by decide +kernel⟩, List.mem_of_getElem? (i := 927) (by decide +kernel), List.mem_of_getElem? (i := 1195) (by decide +kernel), List.mem_of_getElem? (i := 1196) (by decide +kernel)⟩
theorem lw_p55 : lw_okq (⟨"SealedWireModel", "quarter", "(IIII)V"⟩, 49) := ⟨⟨by decide +kernel, by decide +kernel⟩, List.mem_of_getElem? (i := 927) (by decide +kernel), List.mem_of_getElem? (i := 1210) (by decide +kernel), List.mem_of_getElem? (i := 1211) (by decide +kernel)⟩
theorem lw_p56 : lw_okq (⟨"SealedWireModel", "seal", "([BII[BI)V"⟩, 49) := ⟨⟨by decide +kernel, by decide +kernel⟩, List.mem_of_getElem? (i := 927) (by decide +kernel), List.mem_of_getElem? (i := 1221) (by decide +kernel), List.mem_of_getElem? (i := 1222) (by decide +kernel)⟩
theorem lw_p57 : lw_okq (⟨"SealedWireModel", "tagCarry", "()V"⟩, 49) := ⟨⟨by decide +kernel, by decide +kernel⟩, List.mem_of_getElem? (i := 927) (by decide +kernel), List.mem_of_getElem? (i := 1228) (by decide +kernel), List.mem_of_getElem? (i := 1229) (by decide +kernel)⟩
theorem lw_p58 : lw_okq (⟨"SealedWireModel", "tagTimes", "()V"⟩, 49) := ⟨⟨by decide +kernel, by decide +kernel⟩, List.mem_of_getElem? (i := 927) (by decide +kernel), List.mem_of_getElem? (i := 1234) (by decide +kernel), List.mem_of_getElem? (i := 1235) (by decide +kernel)⟩
theorem lw_p59 : lw_okq (⟨"SealedWireModel", "comes", "(I)I"⟩, 49) := ⟨⟨by decide +kernel, by decide +kernel⟩, List.mem_of_getElem? (i := 927) (by decide +kernel), List.mem_of_getElem? (i := 1247) (by decide +kernel), List.mem_of_getElem? (i := 1248) (by decide +kernel)⟩
theorem lw_p60 : lw_okq (⟨"SealedWireModel", "dropFirst", "(I)V"⟩, 49) := ⟨⟨by decide +kernel, by decide +kernel⟩, List.mem_of_getElem? (i := 927) (by decide +kernel), List.mem_of_getElem? (i := 1251) (by decide +kernel), List.mem_of_getElem? (i := 1252) (by decide +kernel)⟩
theorem lw_p61 : lw_okq (⟨"SealedWireModel", "unpack", "(I)Z"⟩, 49) := ⟨⟨by decide +kernel, by decide +kernel⟩, List.mem_of_getElem? (i := 927) (by decide +kernel), List.mem_of_getElem? (i := 1255) (by decide +kernel), List.mem_of_getElem? (i := 1256) (by decide +kernel)⟩
theorem lw_p62 : lw_okq (⟨"SealedWireModel", "sealPacket", "([BIIIJ)V"⟩, 49) := ⟨⟨by decide +kernel, by decide +kernel⟩, List.mem_of_getElem? (i := 927) (by decide +kernel), List.mem_of_getElem? (i := 1259) (by decide +kernel), List.mem_of_getElem? (i := 1260) (by decide +kernel)⟩
theorem lw_p63 : lw_okq (⟨"SealedWireModel", "hide", "([BIIIJI)V"⟩, 49) := ⟨⟨by decide +kernel, by decide +kernel⟩, List.mem_of_getElem? (i := 927) (by decide +kernel), List.mem_of_getElem? (i := 1263) (by decide +kernel), List.mem_of_getElem? (i := 1264) (by decide +kernel)⟩
def lw_privs_4 : List (MethodName × Nat) := [(⟨"SealedWireModel", "settle", "(I)V"⟩, 49), (⟨"SealedWireModel", "tell", "([BII)V"⟩, 49), (⟨"SealedWireModel", "hashBegin", "()V"⟩, 49), (⟨"SealedWireModel", "hashAdd", "([BII)V"⟩, 49), (⟨"SealedWireModel", "hashEnd", "([BI)V"⟩, 49), (⟨"SealedWireModel", "hashBlock", "(I)V"⟩, 49), (⟨"SealedWireModel", "makeStream", "([BIJI)V"⟩, 49), (⟨"SealedWireModel", "quarter", "(IIII)V"⟩, 49), (⟨"SealedWireModel", "seal", "([BII[BI)V"⟩, 49), (⟨"SealedWireModel", "tagCarry", "()V"⟩, 49), (⟨"SealedWireModel", "tagTimes", "()V"⟩, 49), (⟨"SealedWireModel", "comes", "(I)I"⟩, 49), (⟨"SealedWireModel", "dropFirst", "(I)V"⟩, 49), (⟨"SealedWireModel", "unpack", "(I)Z"⟩, 49), (⟨"SealedWireModel", "sealPacket", "([BIIIJ)V"⟩, 49), (⟨"SealedWireModel", "hide", "([BIIIJI)V"⟩, 49)]
theorem lw_r4 : ∀ q ∈ lw_privs_4, lw_okq q := List.forall_mem_cons.mpr ⟨lw_p48, List.forall_mem_cons.mpr ⟨lw_p49, List.forall_mem_cons.mpr ⟨lw_p50, List.forall_mem_cons.mpr ⟨lw_p51, List.forall_mem_cons.mpr ⟨lw_p52, List.forall_mem_cons.mpr ⟨lw_p53, List.forall_mem_cons.mpr ⟨lw_p54, List.forall_mem_cons.mpr ⟨lw_p55, List.forall_mem_cons.mpr ⟨lw_p56, List.forall_mem_cons.mpr ⟨lw_p57, List.forall_mem_cons.mpr ⟨lw_p58, List.forall_mem_cons.mpr ⟨lw_p59, List.forall_mem_cons.mpr ⟨lw_p60, List.forall_mem_cons.mpr ⟨lw_p61, List.forall_mem_cons.mpr ⟨lw_p62, List.forall_mem_cons.mpr ⟨lw_p63, fun _ h => absurd h List.not_mem_nil⟩⟩⟩⟩⟩⟩⟩⟩⟩⟩⟩⟩⟩⟩⟩⟩
theorem lw_p64 : lw_okq (⟨"SealedWireModel", "placed", "(II)Z"⟩, 49) := ⟨⟨by decide +kernel, by decide +kernel⟩, List.mem_of_getElem? (i := 927) (by decide +kernel), List.mem_of_getElem? (i := 1274) (by decide +kernel), List.mem_of_getElem? (i := 1275) (by decide +kernel)⟩
theorem lw_p65 : lw_okq (⟨"SealedWireModel", "initComes", "(I)Z"⟩, 49) := ⟨⟨by decide +kernel, by decide +kernel⟩, List.mem_of_getElem? (i := 927) (by decide +kernel), List.mem_of_getElem? (i := 1278) (by decide +kernel), List.mem_of_getElem? (i := 1279) (by decide +kernel)⟩
theorem lw_p66 : lw_okq (⟨"SealedWireModel", "postInit", "(I)V"⟩, 49) := ⟨⟨by decide +kernel, by decide +kernel⟩, List.mem_of_getElem? (i := 927) (by decide +kernel), List.mem_of_getElem? (i := 1282) (by decide +kernel), List.mem_of_getElem? (i := 1283) (by decide +kernel)⟩
theorem lw_p67 : lw_okq (⟨"SealedWireModel", "say", "(I)V"⟩, 49) := ⟨⟨by decide +kernel, by decide +kernel⟩, List.mem_of_getElem? (i := 927) (by decide +kernel), List.mem_of_getElem? (i := 1286) (by decide +kernel), List.mem_of_getElem? (i := 1287) (by decide +kernel)⟩
theorem lw_p68 : lw_okq (⟨"SealedWireModel", "sayRow", "([BII)V"⟩, 49) := ⟨⟨by decide +kernel, by decide +kernel⟩, List.mem_of_getElem? (i := 927) (by decide +kernel), List.mem_of_getElem? (i := 1290) (by decide +kernel), List.mem_of_getElem? (i := 1291) (by decide +kernel)⟩
theorem lw_p69 : lw_okq (⟨"SealedWireModel", "post", "(I)V"⟩, 49) := ⟨⟨by decide +kernel, by decide +kernel⟩, List.mem_of_getElem? (i := 927) (by decide +kernel), List.mem_of_getElem? (i := 1294) (by decide +kernel), List.mem_of_getElem? (i := 1295) (by decide +kernel)⟩
theorem lw_p70 : lw_okq (⟨"SealedWireModel", "takeSecret", "(I)V"⟩, 49) := ⟨⟨by decide +kernel, by decide +kernel⟩, List.mem_of_getElem? (i := 927) (by decide +kernel), List.mem_of_getElem? (i := 1298) (by decide +kernel), List.mem_of_getElem? (i := 1299) (by decide +kernel)⟩
theorem lw_p71 : lw_okq (⟨"SealedWireModel", "answer", "()V"⟩, 49) := ⟨⟨by decide +kernel, by decide +kernel⟩, List.mem_of_getElem? (i := 927) (by decide +kernel), List.mem_of_getElem? (i := 1302) (by decide +kernel), List.mem_of_getElem? (i := 1303) (by decide +kernel)⟩
theorem lw_p72 : lw_okq (⟨"SealedWireModel", "digest", "(III)V"⟩, 49) := ⟨⟨by decide +kernel, by decide +kernel⟩, List.mem_of_getElem? (i := 927) (by decide +kernel), List.mem_of_getElem? (i := 1306) (by decide +kernel), List.mem_of_getElem? (i := 1307) (by decide +kernel)⟩
theorem lw_p73 : lw_okq (⟨"SealedWireModel", "makeKeys", "(I)V"⟩, 49) := ⟨⟨by decide +kernel, by decide +kernel⟩, List.mem_of_getElem? (i := 927) (by decide +kernel), List.mem_of_getElem? (i := 1310) (by decide +kernel), List.mem_of_getElem? (i := 1311) (by decide +kernel)⟩
theorem lw_p74 : lw_okq (⟨"SealedWireModel", "postNew", "(I)V"⟩, 49) := ⟨⟨by decide +kernel, by decide +kernel⟩, List.mem_of_getElem? (i := 927) (by decide +kernel), List.mem_of_getElem? (i := 1314) (by decide +kernel), List.mem_of_getElem? (i := 1315) (by decide +kernel)⟩
theorem lw_p75 : lw_okq (⟨"SealedWireModel", "postOne", "(II)V"⟩, 49) := ⟨⟨by decide +kernel, by decide +kernel⟩, List.mem_of_getElem? (i := 927) (by decide +kernel), List.mem_of_getElem? (i := 1318) (by decide +kernel), List.mem_of_getElem? (i := 1319) (by decide +kernel)⟩
theorem lw_p76 : lw_okq (⟨"SealedWireModel", "replyComes", "(I)Z"⟩, 49) := ⟨⟨by decide +kernel, by decide +kernel⟩, List.mem_of_getElem? (i := 927) (by decide +kernel), List.mem_of_getElem? (i := 1322) (by decide +kernel), List.mem_of_getElem? (i := 1323) (by decide +kernel)⟩
theorem lw_p77 : lw_okq (⟨"SealedWireModel", "isProved", "()Z"⟩, 49) := ⟨⟨by decide +kernel, by decide +kernel⟩, List.mem_of_getElem? (i := 927) (by decide +kernel), List.mem_of_getElem? (i := 1326) (by decide +kernel), List.mem_of_getElem? (i := 1327) (by decide +kernel)⟩
theorem lw_p78 : lw_okq (⟨"SealedWireModel", "giveUp", "(I)V"⟩, 49) := ⟨⟨by decide +kernel, by decide +kernel⟩, List.mem_of_getElem? (i := 927) (by decide +kernel), List.mem_of_getElem? (i := 1330) (by decide +kernel), List.mem_of_getElem? (i := 1331) (by decide +kernel)⟩
theorem lw_p79 : lw_okq (⟨"SealedWireModel", "newComes", "(I)Z"⟩, 49) := ⟨⟨by decide +kernel, by decide +kernel⟩, List.mem_of_getElem? (i := 927) (by decide +kernel), List.mem_of_getElem? (i := 1334) (by decide +kernel), List.mem_of_getElem? (i := 1335) (by decide +kernel)⟩
def lw_privs_5 : List (MethodName × Nat) := [(⟨"SealedWireModel", "placed", "(II)Z"⟩, 49), (⟨"SealedWireModel", "initComes", "(I)Z"⟩, 49), (⟨"SealedWireModel", "postInit", "(I)V"⟩, 49), (⟨"SealedWireModel", "say", "(I)V"⟩, 49), (⟨"SealedWireModel", "sayRow", "([BII)V"⟩, 49), (⟨"SealedWireModel", "post", "(I)V"⟩, 49), (⟨"SealedWireModel", "takeSecret", "(I)V"⟩, 49), (⟨"SealedWireModel", "answer", "()V"⟩, 49), (⟨"SealedWireModel", "digest", "(III)V"⟩, 49), (⟨"SealedWireModel", "makeKeys", "(I)V"⟩, 49), (⟨"SealedWireModel", "postNew", "(I)V"⟩, 49), (⟨"SealedWireModel", "postOne", "(II)V"⟩, 49), (⟨"SealedWireModel", "replyComes", "(I)Z"⟩, 49), (⟨"SealedWireModel", "isProved", "()Z"⟩, 49), (⟨"SealedWireModel", "giveUp", "(I)V"⟩, 49), (⟨"SealedWireModel", "newComes", "(I)Z"⟩, 49)]
theorem lw_r5 : ∀ q ∈ lw_privs_5, lw_okq q := List.forall_mem_cons.mpr ⟨lw_p64, List.forall_mem_cons.mpr ⟨lw_p65, List.forall_mem_cons.mpr ⟨lw_p66, List.forall_mem_cons.mpr ⟨lw_p67, List.forall_mem_cons.mpr ⟨lw_p68, List.forall_mem_cons.mpr ⟨lw_p69, List.forall_mem_cons.mpr ⟨lw_p70, List.forall_mem_cons.mpr ⟨lw_p71, List.forall_mem_cons.mpr ⟨lw_p72, List.forall_mem_cons.mpr ⟨lw_p73, List.forall_mem_cons.mpr ⟨lw_p74, List.forall_mem_cons.mpr ⟨lw_p75, List.forall_mem_cons.mpr ⟨lw_p76, List.forall_mem_cons.mpr ⟨lw_p77, List.forall_mem_cons.mpr ⟨lw_p78, List.forall_mem_cons.mpr ⟨lw_p79, fun _ h => absurd h List.not_mem_nil⟩⟩⟩⟩⟩⟩⟩⟩⟩⟩⟩⟩⟩⟩⟩⟩
theorem lw_p80 : lw_okq (⟨"SealedWireModel", "dataComes", "(I)Z"⟩, 49) := ⟨⟨by decide +kernel, by decide +kernel⟩, List.mem_of_getElem? (i := 927) (by decide +kernel), List.mem_of_getElem? (i := 1338) (by decide +kernel), List.mem_of_getElem? (i := 1339) (by decide +kernel)⟩
theorem lw_p81 : lw_okq (⟨"SealedWireModel", "isPacket", "(II)Z"⟩, 49) := ⟨⟨by decide +kernel, by decide +kernel⟩, List.mem_of_getElem? (i := 927) (by decide +kernel), List.mem_of_getElem? (i := 1358) (by decide +kernel), List.mem_of_getElem? (i := 1359) (by decide +kernel)⟩
def lw_privs_6 : List (MethodName × Nat) := [(⟨"SealedWireModel", "dataComes", "(I)Z"⟩, 49), (⟨"SealedWireModel", "isPacket", "(II)Z"⟩, 49)]
theorem lw_r6 : ∀ q ∈ lw_privs_6, lw_okq q := List.forall_mem_cons.mpr ⟨lw_p80, List.forall_mem_cons.mpr ⟨lw_p81, fun _ h => absurd h List.not_mem_nil⟩⟩
def lw_privs : List (MethodName × Nat) := lw_privs_1 ++ (lw_privs_2 ++ (lw_privs_3 ++ (lw_privs_4 ++ (lw_privs_5 ++ (lw_privs_6)))))
def lw_tbl : List Cond := k2_sels lw_privs ++ tables_1
theorem lw_privs_ok : ∀ q ∈ lw_privs, lw_okq q := by
  show ∀ q ∈ lw_privs_1 ++ (lw_privs_2 ++ (lw_privs_3 ++ (lw_privs_4 ++ (lw_privs_5 ++ (lw_privs_6))))), lw_okq q
  exact List.forall_mem_append.mpr ⟨lw_r1, List.forall_mem_append.mpr ⟨lw_r2, List.forall_mem_append.mpr ⟨lw_r3, List.forall_mem_append.mpr ⟨lw_r4, List.forall_mem_append.mpr ⟨lw_r5, lw_r6⟩⟩⟩⟩⟩
end
section
/-! ===== BEGIN words of one list among another's, by their places ===== -/
theorem goodIn_r {big : List Cond} (ws : List Cond) (ps : List Nat) (hp : ws = ps.filterMap (fun i => big[i]?)) (h : ws.all goodWord = true) : GoodIn big ws := by
  intro w hw
  have h1 := List.all_eq_true.mp h w hw
  rw [hp] at hw
  obtain ⟨i, -, hi⟩ := List.mem_filterMap.mp hw
  have hm : w ∈ big := by first | exact List.mem_of_getElem? hi | exact List.getElem?_mem hi
  exact ⟨hm, good_of_word h1⟩
theorem goodIn_app {big a b : List Cond} (ha : GoodIn big a) (hb : GoodIn big b) : GoodIn big (a ++ b) := fun w h => (List.mem_append.mp h).elim (ha w) (hb w)
theorem goodIn_ca {big a b : List Cond} {c : Cond} (ha : GoodIn big (c :: a)) (hb : GoodIn big b) : GoodIn big (c :: (a ++ b)) := fun w h => (List.mem_cons.mp h).elim (fun e => ha w (List.mem_cons.mpr (Or.inl e))) (fun h => (List.mem_append.mp h).elim (fun h => ha w (List.mem_cons.mpr (Or.inr h))) (hb w))
theorem goodIn_sub {big ws : List Cond} (hm : ∀ w ∈ ws, w ∈ big) (h : ws.all goodWord = true) : GoodIn big ws := fun w hw => ⟨hm w hw, good_of_word (List.all_eq_true.mp h w hw)⟩
/-! ===== END ===== -/

/-! ===== BEGIN exceptions that leave a method, and their catching by the caller (launches without stack traces) ===== -/
section VXA
/-! The laws vx_back, vx_callV, vx_callS, vx_callSW, vx_throw0, vx_throwS follow proofs of the library, with one case more: JvmDerived/Free/Laws.lean (Back.of_free), Shelf42/LK1.lean (callV, callS), Shelf/KitTraced.lean (throwNew0V, throwNewS). -/
/-- where a method has thrown q: the class by its name, the cell, what was written, the world -/
def vx_T (XC : String → State → State → Prop) (st : State) (q : Addr) (t : State) (mc ms : Nat) (free : Addr → Prop) : Prop :=
  ∃ (E : String) (ce : Cell) (L : List Loc), XC E st t ∧ t.heap[q]? = some ce ∧ ce.vm = .none ∧ st.vm.findClass E = some ce.cls ∧ st.WarmedH t.vm ∧ st.sameButNew ({ t with vm := st.vm } : State) L mc ms ∧ ∀ z ∈ L, free z.base
def vx_Q (Qc : Array Value → State → Outcome → State → Prop) (XC : String → State → State → Prop) (mc ms : Nat) (free : Addr → Prop) : Array Value → State → Outcome → State → Prop := fun a st o t =>
  (Qc a st o t ∧ ∃ L, FrameEnd st o t L mc ms ∧ ∀ q ∈ L, free q.base) ∨ ∃ q, o = .threw q ∧ vx_T XC st q t mc ms free
/-- a callee that returns or throws -/
def vx_Met (l : Launch) (y : MethodName) (ws : List Cond) (rm : Room) (Pc : Array Value → State → Prop) (Qc : Array Value → State → Outcome → State → Prop) (XC : String → State → State → Prop) (mc ms : Nat) (free : Addr → Prop) : Prop :=
  MetFree l y (headSpec ws rm) Pc (fun _ _ _ _ _ => True) (vx_Q Qc XC mc ms free)
def vx_Post (XC : String → State → State → Prop) (mc ms : Nat) (free : Addr → Prop) : Pt → Array Value → Addr → Pt → Prop := fun A a q B =>
  ∃ (g : JFrame) (mk : MethodId) (t : State) (L : List Loc) (E : String) (ce : Cell), B.U.heap = t.heap ∧ B.U.vm = t.vm ∧ XC E (A.U.calling g mk a) t ∧ t.heap[q]? = some ce ∧ ce.vm = .none ∧ A.U.vm.findClass E = some ce.cls ∧ B.locs = A.locs ++ L ∧ (∀ z ∈ L, free z.base) ∧ B.cells = A.cells + mc ∧ B.slots = A.slots + ms
def vx_Back (l : Launch) (R : Room) (p : Program) (e : Env) (below : List Frame) (s : State) (sargs : Array Value) (y : MethodName) (len W9 : Nat)
    (Pre : Pt → Array Value → Prop) (Post : Pt → Array Value → Option Value → Pt → Prop) (PostX : Pt → Array Value → Addr → Pt → Prop) : Prop :=
  ∀ (m : MethodId) (meth : Method) (c : Code) (A : Pt) (g : JFrame) (ig : Instr) (mk : MethodId) (a : Array Value),
    Stand p l e R s m sargs below meth c A.U A.locs A.cells A.slots → g.method = m → g.locals.size = c.maxLocals → decode c.code g.pc = .ok (ig, len) →
    2 * g.monitorRoom + (g.stack.map fun v => v.category).sum ≤ W9 → A.U.methodNamed? y = some mk → Pre A a →
    (∃ (v : Option Value) (B : Pt), Stand p l e R s m sargs below meth c B.U B.locs B.cells B.slots ∧ Post A a v B ∧
      Steps p.tables e below (doInvoke e (A.U.setTop g) [] mk a).1 (B.U.setTop { g with pc := g.pc + len, stack := v.toList ++ g.stack })) ∨
    (∃ (q : Addr) (B : Pt), Stand p l e R s m sargs below meth c B.U B.locs B.cells B.slots ∧ PostX A a q B ∧
      Steps p.tables e below (doInvoke e (A.U.setTop g) [] mk a).1 ((B.U.setTop g).pushFrame (.throwing q)))
section Payer
variable {l : Launch} {R : Room} {p : Program} {e : Env} {below : List Frame} {s : State} {sargs : Array Value} {y : MethodName} {len W9 : Nat}
theorem vx_back {ws : List Cond} {rm : Room} {Pc : Array Value → State → Prop} {Qc : Array Value → State → Outcome → State → Prop} {XC : String → State → State → Prop} {mc ms : Nat} {free : Addr → Prop} {bytes : ByteArray} {maxL : Nat} {ret : Option FieldType}
    (hM : vx_Met l y ws rm Pc Qc XC mc ms free) (hblind : FrameBlind Pc) (hrc : rm.cells = mc) (hrs : rm.slots = ms)
    (hframes : rm.frames + 1 ≤ R.frames) (hlocals : W9 + (maxL + 11) + rm.locals ≤ R.locals)
    (hws : ∀ w ∈ ws, ∀ a' U, s.WarmedH U.vm → w.before a' U = true) (hcode : Cond.code y bytes maxL ret ∈ ws) (hinit : ∀ a' U, s.WarmedH U.vm → (Cond.initialized y.cls).before a' U = true) :
    vx_Back l R p e below s sargs y len W9 (PreOf R mc ms Pc) (PostOf Qc mc ms free) (vx_Post XC mc ms free) := by
  intro m meth c A g ig mk a X hg hsize hdg hW hn hp
  have h1 : (headSpec ws rm).pre.before a A.U = true := atoms_intro fun w hw => hws w hw _ _ X.warmed
  have h2 : (Cond.code y bytes maxL ret).before a A.U = true := hws _ hcode _ _ X.warmed
  have h3 : (Cond.initialized y.cls).before a A.U = true := hinit _ _ X.warmed
  have h4 : A.cells + (headSpec ws rm).room.cells ≤ R.cells := by rw [show (headSpec ws rm).room.cells = mc from hrc]; exact hp.1
  have h5 : A.slots + (headSpec ws rm).room.slots ≤ R.slots := by rw [show (headSpec ws rm).room.slots = ms from hrs]; exact hp.2.1
  have hPc : Pc a (A.U.calling g mk a) := hblind _ _ _ _ hp.2.2
  obtain ⟨U, Ls, c0, s0⟩ := A
  dsimp only [Pt.U, Pt.locs, Pt.cells, Pt.slots] at h1 h2 h3 h4 h5 X hn hPc ⊢
  obtain ⟨methY, cY, hmY, hcY, -, hlY, -, -, -, -⟩ := Cond.code_spec hn h2
  obtain ⟨kY, hkY, -⟩ := className_of_methodNamed hn
  have hinitY : kY.init = .initialized := Cond.initialized_spec (findClass_of_methodNamed hn) hkY h3
  have h : At U g.method c below := by rw [hg]; exact X.here
  have hlocals9 : W9 + (maxL + 11) + (headSpec ws rm).room.locals ≤ R.locals := hlocals
  have happ : (headSpec ws rm).appliesLoose y e.platform (U.calling g mk a) = true :=
    Spec.appliesLoose_calling (g := g) h hdg hn hkY hinitY
      (X.room_calling (g := g) (R' := (headSpec ws rm).room) hsize hmY hcY hframes (by rw [hlY]; omega) h4 h5) h1
  obtain ⟨mid, hmid⟩ := h.above
  have hfr : (U.setTop g).frames = (.java g :: mid) ++ below := by rw [State.frames_setTop' g h.top, hmid]; rfl
  obtain ⟨o, s₂, hsteps, -, hend, hq⟩ := Steps.callFree hM p X.admits X.cas X.clock (acts := []) hfr happ hPc trivial
  have hq' : vx_Q Qc XC mc ms free a (U.calling g mk a) o s₂ := hq
  rw [State.frames_setTop' g h.top] at hend
  obtain ⟨g₀, hg0⟩ := Option.isSome_iff_exists.mp h.top
  obtain ⟨r, hr⟩ := State.topJava?_eq_some.mp hg0
  have hr' : (({ U with heap := s₂.heap, slotsUsed := s₂.slotsUsed } : State).setVm s₂.vm).frames = .java g₀ :: r := hr
  rcases hq' with ⟨hqc, L, hfe, hL⟩ | ⟨q, rfl, E, ce, L, hx, hce, hcv, hcl, hW₂, hsm, hL⟩
  · obtain ⟨⟨v, rfl⟩, hW₂, e2, q2, q3, q4, q5, q6⟩ := id hfe
    have e3 : s₂ = ({ (U.calling g mk a).setFrames s₂.frames with heap := s₂.heap, slotsUsed := s₂.slotsUsed } : State).setVm s₂.vm := by
      have : s₂ = ({ s₂ with vm := (U.calling g mk a).vm } : State).setVm s₂.vm := rfl
      rw [e2] at this
      exact this
    obtain ⟨c₂, i₂, len₂, hc₂, hd₂, hf₂⟩ := hend
    have hW' : U.WarmedH s₂.vm := hW₂
    have hcc : c₂ = c := by
      have h1 : s₂.code? g.method = U.code? g.method := by
        rw [State.code?_eq, State.code?_eq, hW'.alike.method?]
      exact Option.some.inj (hc₂.symm.trans (h1.trans h.code))
    subst hcc
    have hlen : len₂ = len := by rw [hdg] at hd₂; cases hd₂; rfl
    subst hlen
    have hs₂ : s₂ = (({ U with heap := s₂.heap, slotsUsed := s₂.slotsUsed } : State).setVm s₂.vm).setTop { g with pc := g.pc + len₂, stack := v.toList ++ g.stack } := by
      refine e3.trans ?_
      rw [hf₂, State.calling_eq h.top, State.setFrames_setFrames, State.setTop_of_frames _ hr', hr]
      rfl
    have hsame : U.sameButNew ({ U with heap := s₂.heap, slotsUsed := s₂.slotsUsed } : State) L mc ms := by
      refine ⟨?_, q2, q3, q4, q5, q6⟩
      obtain ⟨t, ht, -⟩ := State.frames_cons hr
      show ({ U with heap := s₂.heap, slotsUsed := s₂.slotsUsed } : State) = { U.setFrames U.frames with heap := s₂.heap, slotsUsed := s₂.slotsUsed }
      rw [State.setFrames_self ht]
    subst hg
    refine Or.inl ⟨v, ⟨(({ U with heap := s₂.heap, slotsUsed := s₂.slotsUsed } : State).setVm s₂.vm), Ls ++ L, c0 + mc, s0 + ms⟩,
      ⟨X.admits, X.cas, X.clock, X.frames, X.room, X.hears, X.method, X.code, (X.here.setHeapUsed s₂.heap s₂.slotsUsed).setVm hW'.alike, X.tail, State.WarmedH.trans X.warmed hW', X.limits, X.bytes, X.same.trans (hsame.setVm s.vm)⟩,
      ⟨g, mk, s₂, L, rfl, rfl, hqc, rfl, hL, rfl, rfl⟩, ?_⟩
    show Steps p.tables e below _ ((({ U with heap := s₂.heap, slotsUsed := s₂.slotsUsed } : State).setVm s₂.vm).setTop { g with pc := g.pc + len₂, stack := v.toList ++ g.stack })
    rw [← hs₂]
    exact hsteps
  · obtain ⟨e2, q2, q3, q4, q5, q6⟩ := id hsm
    have e3 : s₂ = ({ (U.calling g mk a).setFrames s₂.frames with heap := s₂.heap, slotsUsed := s₂.slotsUsed } : State).setVm s₂.vm := by
      have : s₂ = ({ s₂ with vm := (U.calling g mk a).vm } : State).setVm s₂.vm := rfl
      rw [e2] at this
      exact this
    have hf₂ : s₂.frames = .throwing q :: .java g :: U.frames.tail := hend
    have hW' : U.WarmedH s₂.vm := hW₂
    have hs₂ : s₂ = ((({ U with heap := s₂.heap, slotsUsed := s₂.slotsUsed } : State).setVm s₂.vm).setTop g).pushFrame (.throwing q) := by
      refine e3.trans ?_
      rw [hf₂, State.calling_eq h.top, State.setFrames_setFrames, State.pushFrame, State.frames_setTop _ hr', State.setTop_of_frames _ hr', State.setFrames_setFrames, hr]
      rfl
    have hsame : U.sameButNew ({ U with heap := s₂.heap, slotsUsed := s₂.slotsUsed } : State) L mc ms := by
      refine ⟨?_, q2, q3, q4, q5, q6⟩
      obtain ⟨t, ht, -⟩ := State.frames_cons hr
      show ({ U with heap := s₂.heap, slotsUsed := s₂.slotsUsed } : State) = { U.setFrames U.frames with heap := s₂.heap, slotsUsed := s₂.slotsUsed }
      rw [State.setFrames_self ht]
    subst hg
    refine Or.inr ⟨q, ⟨(({ U with heap := s₂.heap, slotsUsed := s₂.slotsUsed } : State).setVm s₂.vm), Ls ++ L, c0 + mc, s0 + ms⟩,
      ⟨X.admits, X.cas, X.clock, X.frames, X.room, X.hears, X.method, X.code, (X.here.setHeapUsed s₂.heap s₂.slotsUsed).setVm hW'.alike, X.tail, State.WarmedH.trans X.warmed hW', X.limits, X.bytes, X.same.trans (hsame.setVm s.vm)⟩,
      ⟨g, mk, s₂, L, E, ce, rfl, rfl, hx, hce, hcv, hcl, rfl, hL, rfl, rfl⟩, ?_⟩
    show Steps p.tables e below _ (((({ U with heap := s₂.heap, slotsUsed := s₂.slotsUsed } : State).setVm s₂.vm).setTop g).pushFrame (.throwing q))
    rw [← hs₂]
    exact hsteps
end Payer
section Calls
variable {p : Program} {l : Launch} {e : Env} {R : Room} {s : State} {m : MethodId} {args : Array Value} {below : List Frame} {meth : Method} {c : Code} {T : State} {locs : List Loc} {cells slots : Nat}
theorem vx_callV (X : Stand p l e R s m args below meth c T locs cells slots) (hexec : p.tables.exec = Jvm.exec) {own C : String} {index : Nat} {y : MethodName} {bytes : ByteArray} {maxL : Nat} {ret : Option FieldType}
    (hown : s.vm.findClass own = some m.cls) (hlink : (Cond.methodLink own index y).before args s = true) (hinst : (Cond.instanceMethod y).before args s = true) (hsel : (Cond.selects C y y).before args s = true)
    (hcode : (Cond.code y bytes maxL ret).before args s = true) (hy : y.cls ≠ "java/lang/invoke/MethodHandle" ∧ y.cls ≠ "java/lang/invoke/VarHandle")
    {W9 : Nat} {Pre : Pt → Array Value → Prop} {Post : Pt → Array Value → Option Value → Pt → Prop} {PostX : Pt → Array Value → Addr → Pt → Prop} (hK : vx_Back l R p e below s args y 3 W9 Pre Post PostX)
    {b : Addr} {cellB : Cell} (hcell : T.heap[b]? = some cellB) (hobj : cellB.vm.isStatics = false) (hcls : s.vm.findClass C = some cellB.cls)
    {g : JFrame} (hg : g.method = m) (hsize : g.locals.size = c.maxLocals) {argsL rest : List Value} (hlen : ∀ sig, parseMethodDescriptor y.desc = some sig → argsL.length = sig.parameters.length)
    (hstack : g.stack = argsL.reverse ++ .ref b :: rest) (hW : 2 * g.monitorRoom + (rest.map fun v => v.category).sum ≤ W9) (hdg : decode c.code g.pc = .ok (.invokevirtual index, 3))
    (hpre : ∀ vm₁, s.WarmedH vm₁ → Pre ⟨T.setVm vm₁, locs, cells, slots⟩ (Value.ref b :: argsL).toArray) :
    (∃ (v : Option Value) (vm₁ : Vm) (B : Pt), s.WarmedH vm₁ ∧ Stand p l e R s m args below meth c B.U B.locs B.cells B.slots ∧ Post ⟨T.setVm vm₁, locs, cells, slots⟩ (Value.ref b :: argsL).toArray v B ∧
      ∀ target, Steps p.tables e below (B.U.setTop { g with pc := g.pc + 3, stack := v.toList ++ rest }) target → Steps p.tables e below (T.setTop g) target) ∨
    (∃ (q : Addr) (vm₁ : Vm) (B : Pt), s.WarmedH vm₁ ∧ Stand p l e R s m args below meth c B.U B.locs B.cells B.slots ∧ PostX ⟨T.setVm vm₁, locs, cells, slots⟩ (Value.ref b :: argsL).toArray q B ∧
      Steps p.tables e below (T.setTop g) ((B.U.setTop { g with stack := rest }).pushFrame (.throwing q))) := by
  obtain ⟨mk, methM, hnamed, hmethM, hstM, habM⟩ := Cond.instanceMethod_spec hinst
  obtain ⟨methM', cM, hmethM', -, -, -, -, -, -, hsigM⟩ := Cond.code_spec hnamed hcode
  cases hmethM.symm.trans hmethM'
  obtain ⟨c2, r2, m2, q1, q2, q3, q4, kP, hkP, hkPi⟩ := Cond.selects_spec hsel
  cases hcls.symm.trans q1
  cases (State.methodFound?_of_named hnamed hy).symm.trans q2
  cases hnamed.symm.trans q3
  have hselP : selectMethod e.platform s.vm cellB.cls mk = .method mk := by rw [Launch.admits_selectMethod X.admits]; exact q4
  obtain ⟨vm₁, X₁, hstep₁⟩ := X.invokevirtual hexec hown hlink hnamed hmethM hstM hkP hkPi hy (a := b) (cell := cellB) hcell
    (fun z h => by rw [h] at hobj; cases hobj) hselP hmethM habM hkP hkPi (g := g) hg (argsL := argsL) (rest := rest) (hlen _ hsigM) hstack hdg
  rcases hK m meth c ⟨T.setVm vm₁, locs, cells, slots⟩ { g with stack := rest } (.invokevirtual index) mk (Value.ref b :: argsL).toArray X₁ hg hsize hdg hW (X₁.named hnamed) (hpre vm₁ X₁.warmed) with ⟨v, B, X', hpost, hsteps⟩ | ⟨q, B, X', hpost, hsteps⟩
  · exact Or.inl ⟨v, vm₁, B, X₁.warmed, X', hpost, fun target h => hstep₁ _ fun acts => by rw [doInvoke_state]; exact hsteps.trans h⟩
  · exact Or.inr ⟨q, vm₁, B, X₁.warmed, X', hpost, hstep₁ _ fun acts => by rw [doInvoke_state]; exact hsteps⟩
theorem vx_callS (X : Stand p l e R s m args below meth c T locs cells slots) (hexec : p.tables.exec = Jvm.exec) {own : String} {index : Nat} {y : MethodName} {bytes : ByteArray} {maxL : Nat} {ret : Option FieldType}
    (hown : s.vm.findClass own = some m.cls) (hlink : (Cond.methodLink own index y).before args s = true) (hstat : (Cond.static y).before args s = true) (hinit : (Cond.initialized y.cls).before args s = true)
    (hcode : (Cond.code y bytes maxL ret).before args s = true) (hy : y.cls ≠ "java/lang/invoke/MethodHandle" ∧ y.cls ≠ "java/lang/invoke/VarHandle")
    {W9 : Nat} {Pre : Pt → Array Value → Prop} {Post : Pt → Array Value → Option Value → Pt → Prop} {PostX : Pt → Array Value → Addr → Pt → Prop} (hK : vx_Back l R p e below s args y 3 W9 Pre Post PostX)
    {g : JFrame} (hg : g.method = m) (hsize : g.locals.size = c.maxLocals) {argsL rest : List Value} (hlen : ∀ sig, parseMethodDescriptor y.desc = some sig → argsL.length = sig.parameters.length)
    (hstack : g.stack = argsL.reverse ++ rest) (hW : 2 * g.monitorRoom + (rest.map fun v => v.category).sum ≤ W9) (hdg : decode c.code g.pc = .ok (.invokestatic index, 3))
    (hpre : ∀ vm₁, s.WarmedH vm₁ → Pre ⟨T.setVm vm₁, locs, cells, slots⟩ argsL.toArray) :
    (∃ (v : Option Value) (vm₁ : Vm) (B : Pt), s.WarmedH vm₁ ∧ Stand p l e R s m args below meth c B.U B.locs B.cells B.slots ∧ Post ⟨T.setVm vm₁, locs, cells, slots⟩ argsL.toArray v B ∧
      ∀ target, Steps p.tables e below (B.U.setTop { g with pc := g.pc + 3, stack := v.toList ++ rest }) target → Steps p.tables e below (T.setTop g) target) ∨
    (∃ (q : Addr) (vm₁ : Vm) (B : Pt), s.WarmedH vm₁ ∧ Stand p l e R s m args below meth c B.U B.locs B.cells B.slots ∧ PostX ⟨T.setVm vm₁, locs, cells, slots⟩ argsL.toArray q B ∧
      Steps p.tables e below (T.setTop g) ((B.U.setTop { g with stack := rest }).pushFrame (.throwing q))) := by
  obtain ⟨mk, hnamed⟩ := Cond.code_named hcode
  obtain ⟨methM, cM, hmethM, -, -, -, -, -, -, hsigM⟩ := Cond.code_spec hnamed hcode
  have hstatic : methM.isStatic = true := Cond.static_spec hnamed hmethM hstat
  obtain ⟨kP, hkP, -⟩ := className_of_methodNamed hnamed
  have hinitP : kP.init = .initialized := Cond.initialized_spec (findClass_of_methodNamed hnamed) hkP hinit
  obtain ⟨vm₁, X₁, hstep₁⟩ := X.invokestatic hexec hown hlink hnamed hmethM hstatic hkP hinitP hy (g := g) hg (argsL := argsL) (rest := rest) (hlen _ hsigM) hstack hdg
  rcases hK m meth c ⟨T.setVm vm₁, locs, cells, slots⟩ { g with stack := rest } (.invokestatic index) mk argsL.toArray X₁ hg hsize hdg hW (X₁.named hnamed) (hpre vm₁ X₁.warmed) with ⟨v, B, X', hpost, hsteps⟩ | ⟨q, B, X', hpost, hsteps⟩
  · exact Or.inl ⟨v, vm₁, B, X₁.warmed, X', hpost, fun target h => hstep₁ _ fun acts => by rw [doInvoke_state]; exact hsteps.trans h⟩
  · exact Or.inr ⟨q, vm₁, B, X₁.warmed, X', hpost, hstep₁ _ fun acts => by rw [doInvoke_state]; exact hsteps⟩
end Calls
theorem vx_cls {s : State} {T : State} {vm₁ : Vm} {E : String} {k : ClassId} (hW : s.WarmedH vm₁) (h : (T.setVm vm₁).vm.findClass E = some k) : s.vm.findClass E = some k := by
  have h1 : vm₁.findClass E = some k := h
  rw [hW.alike.findClass] at h1
  exact h1
/-- the method's frame g, with q thrown over it -/
def vx_W (p : Program) (l : Launch) (e : Env) (R : Room) (s : State) (m : MethodId) (args : Array Value) (below : List Frame) (meth : Method) (c : Code) (H : Heap) (locs : List Loc) (cells slots : Nat) (Q : State → Prop) (g : JFrame) (q : Addr) : Prop :=
  ∀ T : State, T.heap = H → Stand p l e R s m args below meth c T locs cells slots → ∃ t, Steps p.tables e below ((T.setTop g).pushFrame (.throwing q)) t ∧ Q t
def vx_Run (p : Program) (l : Launch) (e : Env) (R : Room) (s : State) (m : MethodId) (args : Array Value) (below : List Frame) (meth : Method) (c : Code) (H : Heap) (locs : List Loc) (cells slots mc ms : Nat) (g : JFrame) (rest : List Value) (Qa : State → Outcome → State → Prop) (XC : String → State → State → Prop) (free : Addr → Prop) : Prop :=
  ∀ T : State, T.heap = H → Stand p l e R s m args below meth c T locs cells slots →
    (∃ (v : Option Value) (st₀ t T' : State) (L : List Loc), st₀.heap = H ∧ Stand p l e R s m args below meth c T' (locs ++ L) (cells + mc) (slots + ms) ∧ (∀ q ∈ L, free q.base) ∧ T'.heap = t.heap ∧ T'.vm = t.vm ∧ Qa st₀ (.returned v) t ∧
      Goes p e below T g T' { g with pc := g.pc + 3, stack := v.toList ++ rest }) ∨
    (∃ (q : Addr) (st₀ t T' : State) (L : List Loc) (E : String) (ce : Cell), st₀.heap = H ∧ Stand p l e R s m args below meth c T' (locs ++ L) (cells + mc) (slots + ms) ∧ (∀ z ∈ L, free z.base) ∧ T'.heap = t.heap ∧ T'.vm = t.vm ∧ XC E st₀ t ∧ t.heap[q]? = some ce ∧ ce.vm = .none ∧ s.vm.findClass E = some ce.cls ∧
      Steps p.tables e below (T.setTop g) ((T'.setTop { g with stack := rest }).pushFrame (.throwing q)))
def vx_X {S : Type} (px : S → Prop) (B : String → S → State → Prop) (A : Nat → Prop) : String → State → State → Prop := fun E st t => ∃ u : S, px u ∧ B E u t ∧ va_F A st t
section Runs
variable {p : Program} {l : Launch} {e : Env} {R : Room} {s : State} {m : MethodId} {args : Array Value} {below : List Frame} {meth : Method} {c : Code} {H : Heap} {locs : List Loc} {cells slots : Nat}
variable {y : MethodName} {bytes cc : ByteArray} {maxL nL mc ms n index : Nat} {ret : Option FieldType} {ws : List Cond} {rm : Room} {Pc : Array Value → State → Prop} {Qc : Array Value → State → Outcome → State → Prop} {XC : String → State → State → Prop} {free : Addr → Prop} {Ts : List Cond} {own C : String} {b : Addr} {As rest : List Value} {g : JFrame}
theorem vx_callBack (cb : CallB R s args own index y bytes maxL ret ws rm mc ms n) (hM : vx_Met l y ws rm Pc Qc XC mc ms free) (hbl : FrameBlind Pc) : vx_Back l R p e below s args y 3 8 (PreOf R mc ms Pc) (PostOf Qc mc ms free) (vx_Post XC mc ms free) := by
  obtain ⟨hrc, hrs, hfr, hlo, hws, hcw, -, hini, -⟩ := cb
  exact vx_back (bytes := bytes) (maxL := maxL) (ret := ret) hM hbl hrc hrs hfr hlo hws hcw (fun a' U hW => word_at hW (Or.inl (by first | rfl | simp [Cond.onTables, Cond.keeps, Cond.steady])) hini)
theorem vx_runV (S : CallFix p m c cc nL s args Ts own) (hM : vx_Met l y ws rm Pc Qc XC mc ms free) (cw : CallW R s args own C index y bytes maxL ret ws rm mc ms n) (hp : PreV s H C b Pc As)
    (hg : g.method = m) (hn : As.length = n) (hsize : g.locals.size = nL) (hstack : g.stack = As.reverse ++ .ref b :: rest) (hW : 2 * g.monitorRoom + (rest.map fun v => v.category).sum ≤ 8) (hdg : decode cc g.pc = .ok (.invokevirtual index, 3)) (hf : cells + mc ≤ R.cells ∧ slots + ms ≤ R.slots) :
    vx_Run p l e R s m args below meth c H locs cells slots mc ms g rest (Qc (Value.ref b :: As).toArray) XC free := by
  have hK : vx_Back l R p e below s args y 3 8 (PreOf R mc ms Pc) (PostOf Qc mc ms free) (vx_Post XC mc ms free) := vx_callBack cw.1 hM hp.1
  obtain ⟨⟨-, -, -, -, -, -, hcode, -, hy, hlen, hl⟩, hin, hse⟩ := cw
  obtain ⟨hx, hb, hml, ho, -⟩ := S
  obtain ⟨-, ⟨cellB, hcB, hoB, hclB⟩, hPc⟩ := hp
  intro T hT X
  rcases vx_callV X hx (C := C) (bytes := bytes) (maxL := maxL) (ret := ret) ho hl hin hse hcode hy hK (by rw [hT]; exact hcB) hoB hclB hg (hsize.trans hml.symm) (argsL := As) (rest := rest) (fun sig h => hn.trans (hlen sig h)) hstack hW (by rw [hb]; exact hdg)
    (fun vm₁ hW₁ => ⟨hf.1, hf.2, hPc (T.setVm vm₁) hT hW₁⟩) with ⟨v, vm₁, ⟨U', l2, c2, s2⟩, hW₁, X', ⟨g', mk, t, L, e1, e2, hq, h1, hL, h2, h3⟩, st⟩ | ⟨q, vm₁, ⟨U', l2, c2, s2⟩, hW₁, X', ⟨g', mk, t, L, E, ce, e1, e2, hq, hce, hcv, hcl, h1, hL, h2, h3⟩, st⟩
  · dsimp only [Pt.U, Pt.locs, Pt.cells, Pt.slots] at X' e1 e2 h1 h2 h3 st
    subst h1; subst h2; subst h3
    exact Or.inl ⟨v, (T.setVm vm₁).calling g' mk (Value.ref b :: As).toArray, t, U', L, hT, X', hL, e1, e2, hq, st⟩
  · dsimp only [Pt.U, Pt.locs, Pt.cells, Pt.slots] at X' e1 e2 h1 h2 h3 st hcl
    subst h1; subst h2; subst h3
    exact Or.inr ⟨q, (T.setVm vm₁).calling g' mk (Value.ref b :: As).toArray, t, U', L, E, ce, hT, X', hL, e1, e2, hq, hce, hcv, vx_cls hW₁ hcl, st⟩
theorem vx_runS (S : CallFix p m c cc nL s args Ts own) (hM : vx_Met l y ws rm Pc Qc XC mc ms free) (cw : CallB R s args own index y bytes maxL ret ws rm mc ms n ∧ (Cond.static y).before args s = true) (hp : PreS s H Pc As)
    (hg : g.method = m) (hn : As.length = n) (hsize : g.locals.size = nL) (hstack : g.stack = As.reverse ++ rest) (hW : 2 * g.monitorRoom + (rest.map fun v => v.category).sum ≤ 8) (hdg : decode cc g.pc = .ok (.invokestatic index, 3)) (hf : cells + mc ≤ R.cells ∧ slots + ms ≤ R.slots) :
    vx_Run p l e R s m args below meth c H locs cells slots mc ms g rest (Qc As.toArray) XC free := by
  have hK : vx_Back l R p e below s args y 3 8 (PreOf R mc ms Pc) (PostOf Qc mc ms free) (vx_Post XC mc ms free) := vx_callBack cw.1 hM hp.1
  obtain ⟨⟨-, -, -, -, -, -, hcode, hini, hy, hlen, hl⟩, hstt⟩ := cw
  obtain ⟨hx, hb, hml, ho, -⟩ := S
  intro T hT X
  rcases vx_callS X hx (bytes := bytes) (maxL := maxL) (ret := ret) ho hl hstt hini hcode hy hK hg (hsize.trans hml.symm) (argsL := As) (rest := rest) (fun sig h => hn.trans (hlen sig h)) hstack hW (by rw [hb]; exact hdg)
    (fun vm₁ hW₁ => ⟨hf.1, hf.2, hp.2 (T.setVm vm₁) hT hW₁⟩) with ⟨v, vm₁, ⟨U', l2, c2, s2⟩, hW₁, X', ⟨g', mk, t, L, e1, e2, hq, h1, hL, h2, h3⟩, st⟩ | ⟨q, vm₁, ⟨U', l2, c2, s2⟩, hW₁, X', ⟨g', mk, t, L, E, ce, e1, e2, hq, hce, hcv, hcl, h1, hL, h2, h3⟩, st⟩
  · dsimp only [Pt.U, Pt.locs, Pt.cells, Pt.slots] at X' e1 e2 h1 h2 h3 st
    subst h1; subst h2; subst h3
    exact Or.inl ⟨v, (T.setVm vm₁).calling g' mk As.toArray, t, U', L, hT, X', hL, e1, e2, hq, st⟩
  · dsimp only [Pt.U, Pt.locs, Pt.cells, Pt.slots] at X' e1 e2 h1 h2 h3 st hcl
    subst h1; subst h2; subst h3
    exact Or.inr ⟨q, (T.setVm vm₁).calling g' mk As.toArray, t, U', L, E, ce, hT, X', hL, e1, e2, hq, hce, hcv, vx_cls hW₁ hcl, st⟩
end Runs
section Rows
variable {p : Program} {l : Launch} {e : Env} {R : Room} {s : State} {m : MethodId} {args : Array Value} {below : List Frame} {meth : Method} {c : Code} {H : Heap} {locs : List Loc} {cells slots : Nat} {Q : State → Prop}
variable {mc ms : Nat} {free : Addr → Prop} {A0 A1 : Nat → Prop} {H0 : Heap} {a : Array Value} {pc : Nat} {ls : Array Slot} {st0 rest : List Value}
theorem vx_keep {st₀ t T' : State} {L : List Loc} (h0 : st₀.heap = H) (e1 : T'.heap = t.heap) (hS : va_S A0 H0 H locs) (hA : ∀ q, q < H.size → A1 q → A0 q) (hf : ∀ q, free q → A0 q) (hL : ∀ q ∈ L, free q.base) (hF : va_F A1 st₀ t) :
    H.size ≤ T'.heap.size ∧ (∀ q : Nat, q < H.size → ¬ A1 q → T'.heap[q]? = H[q]?) ∧ va_S A0 H0 T'.heap (locs ++ L) := by
  obtain ⟨hz, hk⟩ := hF
  rw [h0] at hz hk
  exact ⟨by rw [e1]; exact hz, fun q h1 h2 => by rw [e1]; exact hk q h1 h2,
    ⟨Nat.le_trans hS.1 (by rw [e1]; exact hz), fun q h1 h2 => by rw [e1, hk q (Nat.lt_of_lt_of_le h1 hS.1) (fun z => h2 (hA q (Nat.lt_of_lt_of_le h1 hS.1) z))]; exact hS.2.1 q h1 h2, fun q hq => by
      rcases List.mem_append.mp hq with h | h
      · exact hS.2.2 q h
      · exact hf _ (hL q h)⟩⟩
theorem vx_calli {S SX : Type} {post : Int32 → S → Prop} {px : SX → Prop} {B : S → State → Prop} {BX : String → SX → State → Prop} {AX : Nat → Prop} (hr : vx_Run p l e R s m args below meth c H locs cells slots mc ms (F0 m pc ls st0) rest (va_Qi post B A1 a) (vx_X px BX AX) free) (hS : va_S A0 H0 H locs) (hA : ∀ q, q < H.size → A1 q → A0 q) (hf : ∀ q, free q → A0 q) (hAX : ∀ q, q < H.size → AX q → A0 q)
    (kx : ∀ (E : String) (ce : Cell) (q9 : Addr) (u : SX) (t : State) (H1 : Heap) (locs1 : List Loc), t.heap = H1 → s.vm.Alike t.vm → px u → BX E u t → H.size ≤ H1.size → (∀ q : Nat, q < H.size → ¬ AX q → H1[q]? = H[q]?) → va_S A0 H0 H1 locs1 → H1[q9]? = some ce → ce.vm = .none → s.vm.findClass E = some ce.cls → vx_W p l e R s m args below meth c H1 locs1 (cells + mc) (slots + ms) Q (F0 m pc ls rest) q9)
    (kk : ∀ (r : Int32) (u : S) (t : State) (H1 : Heap) (locs1 : List Loc), t.heap = H1 → s.vm.Alike t.vm → post r u → B u t → H.size ≤ H1.size → (∀ q : Nat, q < H.size → ¬ A1 q → H1[q]? = H[q]?) → va_S A0 H0 H1 locs1 → W p l e R s m args below meth c H1 locs1 (cells + mc) (slots + ms) Q (F0 m (pc + 3) ls (.int r :: rest))) : W p l e R s m args below meth c H locs cells slots Q (F0 m pc ls st0) := by
  intro T hT X
  rcases hr T hT X with ⟨v, st₀, t, T', L, h0, X', hL, e1, e2, ⟨⟨r, u, hv, hp, hb⟩, hF⟩, st⟩ | ⟨q, st₀, t, T', L, E, ce, h0, X', hL, e1, e2, ⟨u, hp, hb, hF⟩, hce, hcv, hcl, st⟩
  · cases hv
    obtain ⟨k1, k2, k3⟩ := vx_keep h0 e1 hS hA hf hL hF
    obtain ⟨t2, a1, b1⟩ := kk r u t T'.heap (locs ++ L) e1.symm (by rw [← e2]; exact X'.warmed.alike) hp hb k1 k2 k3 T' rfl X'
    exact ⟨t2, st t2 a1, b1⟩
  · obtain ⟨k1, k2, k3⟩ := vx_keep h0 e1 hS hAX hf hL hF
    obtain ⟨t2, a1, b1⟩ := kx E ce q u t T'.heap (locs ++ L) e1.symm (by rw [← e2]; exact X'.warmed.alike) hp hb k1 k2 k3 (by rw [e1]; exact hce) hcv hcl T' rfl X'
    exact ⟨t2, st.trans a1, b1⟩
theorem vx_calll {S SX : Type} {post : Int64 → S → Prop} {px : SX → Prop} {B : S → State → Prop} {BX : String → SX → State → Prop} {AX : Nat → Prop} (hr : vx_Run p l e R s m args below meth c H locs cells slots mc ms (F0 m pc ls st0) rest (va_Ql post B A1 a) (vx_X px BX AX) free) (hS : va_S A0 H0 H locs) (hA : ∀ q, q < H.size → A1 q → A0 q) (hf : ∀ q, free q → A0 q) (hAX : ∀ q, q < H.size → AX q → A0 q)
    (kx : ∀ (E : String) (ce : Cell) (q9 : Addr) (u : SX) (t : State) (H1 : Heap) (locs1 : List Loc), t.heap = H1 → s.vm.Alike t.vm → px u → BX E u t → H.size ≤ H1.size → (∀ q : Nat, q < H.size → ¬ AX q → H1[q]? = H[q]?) → va_S A0 H0 H1 locs1 → H1[q9]? = some ce → ce.vm = .none → s.vm.findClass E = some ce.cls → vx_W p l e R s m args below meth c H1 locs1 (cells + mc) (slots + ms) Q (F0 m pc ls rest) q9)
    (kk : ∀ (r : Int64) (u : S) (t : State) (H1 : Heap) (locs1 : List Loc), t.heap = H1 → s.vm.Alike t.vm → post r u → B u t → H.size ≤ H1.size → (∀ q : Nat, q < H.size → ¬ A1 q → H1[q]? = H[q]?) → va_S A0 H0 H1 locs1 → W p l e R s m args below meth c H1 locs1 (cells + mc) (slots + ms) Q (F0 m (pc + 3) ls (.long r :: rest))) : W p l e R s m args below meth c H locs cells slots Q (F0 m pc ls st0) := by
  intro T hT X
  rcases hr T hT X with ⟨v, st₀, t, T', L, h0, X', hL, e1, e2, ⟨⟨r, u, hv, hp, hb⟩, hF⟩, st⟩ | ⟨q, st₀, t, T', L, E, ce, h0, X', hL, e1, e2, ⟨u, hp, hb, hF⟩, hce, hcv, hcl, st⟩
  · cases hv
    obtain ⟨k1, k2, k3⟩ := vx_keep h0 e1 hS hA hf hL hF
    obtain ⟨t2, a1, b1⟩ := kk r u t T'.heap (locs ++ L) e1.symm (by rw [← e2]; exact X'.warmed.alike) hp hb k1 k2 k3 T' rfl X'
    exact ⟨t2, st t2 a1, b1⟩
  · obtain ⟨k1, k2, k3⟩ := vx_keep h0 e1 hS hAX hf hL hF
    obtain ⟨t2, a1, b1⟩ := kx E ce q u t T'.heap (locs ++ L) e1.symm (by rw [← e2]; exact X'.warmed.alike) hp hb k1 k2 k3 (by rw [e1]; exact hce) hcv hcl T' rfl X'
    exact ⟨t2, st.trans a1, b1⟩
theorem vx_callf {S SX : Type} {post : UInt32 → S → Prop} {px : SX → Prop} {B : S → State → Prop} {BX : String → SX → State → Prop} {AX : Nat → Prop} (hr : vx_Run p l e R s m args below meth c H locs cells slots mc ms (F0 m pc ls st0) rest (va_Qf post B A1 a) (vx_X px BX AX) free) (hS : va_S A0 H0 H locs) (hA : ∀ q, q < H.size → A1 q → A0 q) (hf : ∀ q, free q → A0 q) (hAX : ∀ q, q < H.size → AX q → A0 q)
    (kx : ∀ (E : String) (ce : Cell) (q9 : Addr) (u : SX) (t : State) (H1 : Heap) (locs1 : List Loc), t.heap = H1 → s.vm.Alike t.vm → px u → BX E u t → H.size ≤ H1.size → (∀ q : Nat, q < H.size → ¬ AX q → H1[q]? = H[q]?) → va_S A0 H0 H1 locs1 → H1[q9]? = some ce → ce.vm = .none → s.vm.findClass E = some ce.cls → vx_W p l e R s m args below meth c H1 locs1 (cells + mc) (slots + ms) Q (F0 m pc ls rest) q9)
    (kk : ∀ (r : UInt32) (u : S) (t : State) (H1 : Heap) (locs1 : List Loc), t.heap = H1 → s.vm.Alike t.vm → post r u → B u t → H.size ≤ H1.size → (∀ q : Nat, q < H.size → ¬ A1 q → H1[q]? = H[q]?) → va_S A0 H0 H1 locs1 → W p l e R s m args below meth c H1 locs1 (cells + mc) (slots + ms) Q (F0 m (pc + 3) ls (.float r :: rest))) : W p l e R s m args below meth c H locs cells slots Q (F0 m pc ls st0) := by
  intro T hT X
  rcases hr T hT X with ⟨v, st₀, t, T', L, h0, X', hL, e1, e2, ⟨⟨r, u, hv, hp, hb⟩, hF⟩, st⟩ | ⟨q, st₀, t, T', L, E, ce, h0, X', hL, e1, e2, ⟨u, hp, hb, hF⟩, hce, hcv, hcl, st⟩
  · cases hv
    obtain ⟨k1, k2, k3⟩ := vx_keep h0 e1 hS hA hf hL hF
    obtain ⟨t2, a1, b1⟩ := kk r u t T'.heap (locs ++ L) e1.symm (by rw [← e2]; exact X'.warmed.alike) hp hb k1 k2 k3 T' rfl X'
    exact ⟨t2, st t2 a1, b1⟩
  · obtain ⟨k1, k2, k3⟩ := vx_keep h0 e1 hS hAX hf hL hF
    obtain ⟨t2, a1, b1⟩ := kx E ce q u t T'.heap (locs ++ L) e1.symm (by rw [← e2]; exact X'.warmed.alike) hp hb k1 k2 k3 (by rw [e1]; exact hce) hcv hcl T' rfl X'
    exact ⟨t2, st.trans a1, b1⟩
theorem vx_calld {S SX : Type} {post : UInt64 → S → Prop} {px : SX → Prop} {B : S → State → Prop} {BX : String → SX → State → Prop} {AX : Nat → Prop} (hr : vx_Run p l e R s m args below meth c H locs cells slots mc ms (F0 m pc ls st0) rest (va_Qd post B A1 a) (vx_X px BX AX) free) (hS : va_S A0 H0 H locs) (hA : ∀ q, q < H.size → A1 q → A0 q) (hf : ∀ q, free q → A0 q) (hAX : ∀ q, q < H.size → AX q → A0 q)
    (kx : ∀ (E : String) (ce : Cell) (q9 : Addr) (u : SX) (t : State) (H1 : Heap) (locs1 : List Loc), t.heap = H1 → s.vm.Alike t.vm → px u → BX E u t → H.size ≤ H1.size → (∀ q : Nat, q < H.size → ¬ AX q → H1[q]? = H[q]?) → va_S A0 H0 H1 locs1 → H1[q9]? = some ce → ce.vm = .none → s.vm.findClass E = some ce.cls → vx_W p l e R s m args below meth c H1 locs1 (cells + mc) (slots + ms) Q (F0 m pc ls rest) q9)
    (kk : ∀ (r : UInt64) (u : S) (t : State) (H1 : Heap) (locs1 : List Loc), t.heap = H1 → s.vm.Alike t.vm → post r u → B u t → H.size ≤ H1.size → (∀ q : Nat, q < H.size → ¬ A1 q → H1[q]? = H[q]?) → va_S A0 H0 H1 locs1 → W p l e R s m args below meth c H1 locs1 (cells + mc) (slots + ms) Q (F0 m (pc + 3) ls (.double r :: rest))) : W p l e R s m args below meth c H locs cells slots Q (F0 m pc ls st0) := by
  intro T hT X
  rcases hr T hT X with ⟨v, st₀, t, T', L, h0, X', hL, e1, e2, ⟨⟨r, u, hv, hp, hb⟩, hF⟩, st⟩ | ⟨q, st₀, t, T', L, E, ce, h0, X', hL, e1, e2, ⟨u, hp, hb, hF⟩, hce, hcv, hcl, st⟩
  · cases hv
    obtain ⟨k1, k2, k3⟩ := vx_keep h0 e1 hS hA hf hL hF
    obtain ⟨t2, a1, b1⟩ := kk r u t T'.heap (locs ++ L) e1.symm (by rw [← e2]; exact X'.warmed.alike) hp hb k1 k2 k3 T' rfl X'
    exact ⟨t2, st t2 a1, b1⟩
  · obtain ⟨k1, k2, k3⟩ := vx_keep h0 e1 hS hAX hf hL hF
    obtain ⟨t2, a1, b1⟩ := kx E ce q u t T'.heap (locs ++ L) e1.symm (by rw [← e2]; exact X'.warmed.alike) hp hb k1 k2 k3 (by rw [e1]; exact hce) hcv hcl T' rfl X'
    exact ⟨t2, st.trans a1, b1⟩
theorem vx_callv {S SX : Type} {post : S → Prop} {px : SX → Prop} {B : S → State → Prop} {BX : String → SX → State → Prop} {AX : Nat → Prop} (hr : vx_Run p l e R s m args below meth c H locs cells slots mc ms (F0 m pc ls st0) rest (va_Qv post B A1 a) (vx_X px BX AX) free) (hS : va_S A0 H0 H locs) (hA : ∀ q, q < H.size → A1 q → A0 q) (hf : ∀ q, free q → A0 q) (hAX : ∀ q, q < H.size → AX q → A0 q)
    (kx : ∀ (E : String) (ce : Cell) (q9 : Addr) (u : SX) (t : State) (H1 : Heap) (locs1 : List Loc), t.heap = H1 → s.vm.Alike t.vm → px u → BX E u t → H.size ≤ H1.size → (∀ q : Nat, q < H.size → ¬ AX q → H1[q]? = H[q]?) → va_S A0 H0 H1 locs1 → H1[q9]? = some ce → ce.vm = .none → s.vm.findClass E = some ce.cls → vx_W p l e R s m args below meth c H1 locs1 (cells + mc) (slots + ms) Q (F0 m pc ls rest) q9)
    (kk : ∀ (u : S) (t : State) (H1 : Heap) (locs1 : List Loc), t.heap = H1 → s.vm.Alike t.vm → post u → B u t → H.size ≤ H1.size → (∀ q : Nat, q < H.size → ¬ A1 q → H1[q]? = H[q]?) → va_S A0 H0 H1 locs1 → W p l e R s m args below meth c H1 locs1 (cells + mc) (slots + ms) Q (F0 m (pc + 3) ls (rest))) : W p l e R s m args below meth c H locs cells slots Q (F0 m pc ls st0) := by
  intro T hT X
  rcases hr T hT X with ⟨v, st₀, t, T', L, h0, X', hL, e1, e2, ⟨⟨u, hv, hp, hb⟩, hF⟩, st⟩ | ⟨q, st₀, t, T', L, E, ce, h0, X', hL, e1, e2, ⟨u, hp, hb, hF⟩, hce, hcv, hcl, st⟩
  · cases hv
    obtain ⟨k1, k2, k3⟩ := vx_keep h0 e1 hS hA hf hL hF
    obtain ⟨t2, a1, b1⟩ := kk u t T'.heap (locs ++ L) e1.symm (by rw [← e2]; exact X'.warmed.alike) hp hb k1 k2 k3 T' rfl X'
    exact ⟨t2, st t2 a1, b1⟩
  · obtain ⟨k1, k2, k3⟩ := vx_keep h0 e1 hS hAX hf hL hF
    obtain ⟨t2, a1, b1⟩ := kx E ce q u t T'.heap (locs ++ L) e1.symm (by rw [← e2]; exact X'.warmed.alike) hp hb k1 k2 k3 (by rw [e1]; exact hce) hcv hcl T' rfl X'
    exact ⟨t2, st.trans a1, b1⟩
end Rows
section Ends
variable {p : Program} {l : Launch} {e : Env} {R : Room} {s : State} {m : MethodId} {args : Array Value} {below : List Frame} {meth : Method} {c : Code} {H : Heap} {locs : List Loc} {cells slots : Nat} {Q : State → Prop}
variable {mc ms : Nat} {free : Addr → Prop} {A0 A1 : Nat → Prop} {H0 : Heap} {a : Array Value} {ls : Array Slot} {st0 rest : List Value}
variable {Qc : Array Value → State → Outcome → State → Prop} {XC : String → State → State → Prop}
/-- what a body that may throw owes at its end -/
def vx_MQ (below : List Frame) (Qc : Array Value → State → Outcome → State → Prop) (XC : String → State → State → Prop) (a : Array Value) (s : State) (mc ms : Nat) (free : Addr → Prop) : State → Prop := fun t =>
  ∃ o, t.status = .running ∧ Ended t below o ∧ vx_Q Qc XC mc ms free a s o t
theorem vx_ret {g : JFrame} {mc ms : Nat} (k : W p l e R s m args below meth c H locs cells slots (MQ below Qc args s mc ms free) g) : W p l e R s m args below meth c H locs cells slots (vx_MQ below Qc XC args s mc ms free) g := by
  intro T hT X
  obtain ⟨t, a1, o, b1, b2, b3, b4⟩ := k T hT X
  exact ⟨t, a1, o, b1, b2, Or.inl ⟨b3, b4⟩⟩
/-- not caught here: it goes on to the caller -/
theorem vx_widen {g : JFrame} {q : Addr} {k n : Nat} (h1 : cells ≤ k) (h2 : slots ≤ n) (kk : vx_W p l e R s m args below meth c H locs k n Q g q) : vx_W p l e R s m args below meth c H locs cells slots Q g q := fun T hT X => kk T hT (stand_widen X h1 h2)
theorem vx_out {pc : Nat} {E : String} {ce : Cell} {q : Addr} {mc ms : Nat} (hout : ∀ x ∈ c.exceptionTable.toList, covers x pc = false) (hlocks : meth.locks = false) (hcell : H[q]? = some ce) (hv : ce.vm = .none) (hcl : s.vm.findClass E = some ce.cls)
    (hx : ∀ t : State, t.heap = H → s.vm.Alike t.vm → XC E s t) (hf : ∀ z ∈ locs, free z.base) (hc : cells ≤ mc) (hs : slots ≤ ms) :
    vx_W p l e R s m args below meth c H locs cells slots (vx_MQ below Qc XC args s mc ms free) (F0 m pc ls rest) q := by
  intro T hT X
  obtain ⟨st1, hrun, hend, hW, hsm⟩ := X.leaveThrown q (g := F0 m pc ls rest) rfl rfl rfl hout hlocks
  have hcell9 : (T.setFrames (.throwing q :: below)).heap[q]? = some ce := by
    show T.heap[q]? = some ce
    rw [hT]; exact hcell
  exact ⟨_, st1, .threw q, hrun, hend, Or.inr ⟨q, rfl, E, ce, locs, hx _ hT hW.alike, hcell9, hv, hcl, hW, hsm.mono hc hs, hf⟩⟩
theorem vx_frame {U : State} {k n : Nat} (h : s.sameButNew ({ U with vm := s.vm } : State) locs k n) : s.heap.size ≤ U.heap.size ∧ ∀ q : Nat, q < s.heap.size → (∀ z ∈ locs, z.base ≠ q) → U.heap[q]? = s.heap[q]? := by
  obtain ⟨-, h2, -, -, -, h6⟩ := h
  refine ⟨h2, fun q hq hz => ?_⟩
  obtain ⟨c9, e1, e2, e3, e4⟩ := h6 q _ (Array.getElem?_eq_getElem hq)
  have hs : c9.slots = (s.heap[q]).slots := Array.ext_getElem? fun i => e4 i fun hm => hz _ hm rfl
  have h9 : c9 = s.heap[q] := by
    rw [hs] at e2
    exact e2
  have e5 : U.heap[q]? = some c9 := e1
  rw [e5, h9, Array.getElem?_eq_getElem hq]
/-- the words of a throw but the four that speak of the heap -/
def vx_no (w : Cond) : Bool := decide (w ≠ .isRef (.static Bundle.tN "UNASSIGNED_STACK" Bundle.steD)) && decide (w ≠ .isRef (.static Bundle.tN "SUPPRESSED_SENTINEL" Bundle.listD)) && decide (w ≠ .laysStatic Bundle.tN "UNASSIGNED_STACK" Bundle.steD) && decide (w ≠ .laysStatic Bundle.tN "SUPPRESSED_SENTINEL" Bundle.listD)
def vx_at0 (own : String) (ic : Nat) (X : String) (names : List String) : List Cond := (Bundle.ownAtoms0 own ic X names).filter vx_no
def vx_atS (own : String) (ic : Nat) (X : String) (names : List String) : List Cond := (Bundle.ownAtoms own ic X names).filter vx_no
/-- a word that the tables alone decide, or a good one -/
def vx_ot (w : Cond) : Bool := w.onTables || goodWord w
theorem vx_ot_at {args a' : Array Value} {s U : State} {w : Cond} (hW : s.WarmedH U.vm) (hvm : s.vm = U.vm) (hg : vx_ot w = true) (h : w.before args s = true) : w.before a' U = true := by
  simp only [vx_ot, Bool.or_eq_true] at hg
  rcases hg with hg | hg
  · exact va_tabs hg hvm h
  · exact word_at hW (good_of_word hg) h
/-- a list's words: the good ones out of the method's own list, the others by premises of their own -/
theorem vx_hat {args : Array Value} {s : State} {L B : List Cond} (h1 : ∀ w ∈ L.filter goodWord, w.before args s = true) (h2 : ∀ w ∈ L.filter (fun w => !goodWord w), w ∈ B) (h3 : ∀ w ∈ B, w.before args s = true) : ∀ w ∈ L, w.before args s = true := by
  intro w hw
  by_cases g : goodWord w = true
  · exact h1 w (List.mem_filter.mpr ⟨hw, g⟩)
  · refine h3 w (h2 w (List.mem_filter.mpr ⟨hw, ?_⟩))
    show (!goodWord w) = true
    cases hgw : goodWord w
    · rfl
    · exact absurd hgw g
theorem vx_c {args : Array Value} {s : State} {w : Cond} {B : List Cond} (h : w.before args s = true) (t : ∀ w ∈ B, w.before args s = true) : ∀ w' ∈ w :: B, w'.before args s = true := fun w' h' => (List.mem_cons.mp h').elim (fun e => by rw [e]; exact h) (t w')
theorem vx_n {args : Array Value} {s : State} : ∀ w ∈ ([] : List Cond), w.before args s = true := fun _ h => nomatch h
theorem vx_own {args : Array Value} {s : State} {L : List Cond} (h1 : ∀ w ∈ L.filter vx_no, w.before args s = true)
    (hU : (Cond.isRef (.static Bundle.tN "UNASSIGNED_STACK" Bundle.steD)).before args s = true) (hN : (Cond.isRef (.static Bundle.tN "SUPPRESSED_SENTINEL" Bundle.listD)).before args s = true)
    (lU : (Cond.laysStatic Bundle.tN "UNASSIGNED_STACK" Bundle.steD).before args s = true) (lN : (Cond.laysStatic Bundle.tN "SUPPRESSED_SENTINEL" Bundle.listD).before args s = true) : ∀ w ∈ L, w.before args s = true := by
  intro w hw
  by_cases e1 : w = .isRef (.static Bundle.tN "UNASSIGNED_STACK" Bundle.steD)
  · rw [e1]; exact hU
  · by_cases e2 : w = .isRef (.static Bundle.tN "SUPPRESSED_SENTINEL" Bundle.listD)
    · rw [e2]; exact hN
    · by_cases e3 : w = .laysStatic Bundle.tN "UNASSIGNED_STACK" Bundle.steD
      · rw [e3]; exact lU
      · by_cases e4 : w = .laysStatic Bundle.tN "SUPPRESSED_SENTINEL" Bundle.listD
        · rw [e4]; exact lN
        · exact h1 w (List.mem_filter.mpr ⟨hw, by unfold vx_no; rw [decide_eq_true e1, decide_eq_true e2, decide_eq_true e3, decide_eq_true e4]; rfl⟩)
/-- where a static field lies, its class's statics cell in H -/
def vx_L (C n d : String) (A : Nat → Prop) (U : State) (H : Heap) : Prop := ∃ (c : ClassId) (k : Class) (i : Nat) (f : Field) (a : Nat) (cell : Cell), U.vm.findClass C = some c ∧ U.fieldFound? C n d = some (c, k, i, f) ∧ f.isStatic = true ∧ k.statics = some a ∧ H[a]? = some cell ∧ cell.vm.isStatics = true ∧ cell.cls = c ∧ f.slot < cell.slots.size ∧ k.staticTypes[f.slot]? = some f.type ∧ ¬ A a
theorem vx_L.moved {C n d : String} {A : Nat → Prop} {u U : State} {H : Heap} (hvm : u.vm.Alike U.vm) (h : vx_L C n d A u H) : vx_L C n d A U H := by
  obtain ⟨c, k, i, f, a, cell, h1, h2, h3, h4, h5, h6, h7, h8, h9, h10⟩ := h
  obtain ⟨k', hi', he⟩ := State.fieldFound?_setVm hvm h2
  exact ⟨c, k', i, f, a, cell, by rw [hvm.findClass]; exact h1, hi', h3, by rw [he]; exact h4, h5, h6, h7, h8, by rw [he]; exact h9, h10⟩
theorem vx_L.kept {C n d : String} {A : Nat → Prop} {U : State} {H H1 : Heap} (h : vx_L C n d A U H) (hq : ∀ a : Nat, a < H.size → ¬ A a → H1[a]? = H[a]?) : vx_L C n d A U H1 := by
  obtain ⟨c, k, i, f, a, cell, h1, h2, h3, h4, h5, h6, h7, h8, h9, h10⟩ := h
  exact ⟨c, k, i, f, a, cell, h1, h2, h3, h4, by rw [hq a (Array.getElem?_eq_some_iff.mp h5).1 h10]; exact h5, h6, h7, h8, h9, h10⟩
theorem vx_L.narrow {C n d : String} {A B : Nat → Prop} {U : State} {H : Heap} (h : vx_L C n d A U H) (hAB : ∀ q, B q → A q) : vx_L C n d B U H := by
  obtain ⟨c, k, i, f, a, cell, h1, h2, h3, h4, h5, h6, h7, h8, h9, h10⟩ := h
  exact ⟨c, k, i, f, a, cell, h1, h2, h3, h4, h5, h6, h7, h8, h9, fun z => h10 (hAB _ z)⟩
theorem vx_L.word {C n d : String} {A : Nat → Prop} {s : State} {args : Array Value} (h : vx_L C n d A s s.heap) : (Cond.laysStatic C n d).before args s = true := by
  obtain ⟨c, k, i, f, a, cell, h1, h2, h3, h4, h5, h6, h7, h8, h9, -⟩ := h
  show (Cond.laysStatic C n d).holds args s none s [] = true
  exact Cond.laysStatic_of h1 h2 h3 h4 h5 h6 h7 h8 h9
/-- .. and what it holds: null or some reference -/
def vx_Zq (C n d : String) (A : Nat → Prop) (U : State) (H : Heap) : Prop := va_Zq C n d A U H ∧ vx_L C n d A U H
theorem vx_Zq.moved {C n d : String} {A : Nat → Prop} {u U : State} {H : Heap} (hvm : u.vm.Alike U.vm) (h : vx_Zq C n d A u H) : vx_Zq C n d A U H := ⟨va_Zq.moved hvm h.1, vx_L.moved hvm h.2⟩
theorem vx_Zq.kept {C n d : String} {A : Nat → Prop} {U : State} {H H1 : Heap} (h : vx_Zq C n d A U H) (hq : ∀ a : Nat, a < H.size → ¬ A a → H1[a]? = H[a]?) : vx_Zq C n d A U H1 := ⟨va_Zq.kept h.1 hq, vx_L.kept h.2 hq⟩
theorem vx_Zq.narrow {C n d : String} {A B : Nat → Prop} {U : State} {H : Heap} (h : vx_Zq C n d A U H) (hAB : ∀ q, B q → A q) : vx_Zq C n d B U H := ⟨va_Zq.narrow h.1 hAB, vx_L.narrow h.2 hAB⟩
theorem vx_Zqof {args : Array Value} {s : State} {C n d : String} {A : Nat → Prop} (hl : (Cond.laysStatic C n d).before args s = true) (hini : (Cond.initialized C).before args s = true) (h : (Cond.isRef (.static C n d)).before args s = true) (hA : ∀ a : Nat, a < s.heap.size → ¬ A a) : vx_Zq C n d A s s.heap := by
  refine ⟨va_Zqof hl hini h hA, ?_⟩
  obtain ⟨c, k, i, f, a, cell, h1, h2, h3, h4, h5, h6, h7, h8, h9⟩ := Cond.laysStatic_spec hl
  exact ⟨c, k, i, f, a, cell, h1, h2, h3, h4, h5, h6, h7, h8, h9, hA a (Array.getElem?_eq_some_iff.mp h5).1⟩
theorem vx_isRef {C n d : String} {v : Value} {A : Nat → Prop} {s : State} {args : Array Value} (h : va_Z C n d v A s s.heap) (hv : v.isRef = true) : (Cond.isRef (.static C n d)).before args s = true := by
  obtain ⟨cf, kf, fi, f, a, cell, h1, h2, h3, h4, h5, h6, h7, -⟩ := h
  have he : (Term.static C n d).eval args s none [] s = some v := by
    simp [Term.eval, State.fieldNamed?, h1, h2, h4, h5, h6, h7]
  simp only [Cond.before, Cond.holds, Cond.value, he]
  cases v <;> simp_all [Value.isRef]
theorem vx_isRefq {C n d : String} {A : Nat → Prop} {s : State} {args : Array Value} (h : va_Zq C n d A s s.heap) : (Cond.isRef (.static C n d)).before args s = true := by
  rcases h with h | ⟨t, h⟩
  · exact vx_isRef h rfl
  · exact vx_isRef h rfl
/-- the same frame, seen from here: as if the method were called anew in this heap -/
theorem vx_rebase {T : State} (X : Stand p l e R s m args below meth c T locs cells slots) {R' : Room} (hf : R'.frames ≤ R.frames) (hl : R'.locals ≤ R.locals) (hc : cells + R'.cells ≤ R.cells) (hs : slots + R'.slots ≤ R.slots) :
    Stand p l e R' ((T.setVm s.vm).setFrames (.invoking m args :: below)) m args below meth c T [] 0 0 := by
  have htop : (T.setVm s.vm).topJava?.isSome := X.here.top
  have hF : ((T.setVm s.vm).setFrames (.invoking m args :: below)).frames = .invoking m args :: below := State.frames_setFrames _ (State.cur_lt_of_top htop)
  obtain ⟨g₀, hg0⟩ := Option.isSome_iff_exists.mp htop
  obtain ⟨r, hr⟩ := State.topJava?_eq_some.mp hg0
  have hl9 : e.platform.stackLimits (T.setVm s.vm).me = e.platform.stackLimits s.me := X.limits
  have hb9 : (T.setVm s.vm).me.stackBytes = s.me.stackBytes := X.bytes
  refine ⟨X.admits, X.cas, X.clock, hF, ?_, X.hears, X.method, X.code, X.here, X.tail, X.warmed, ?_, ?_, ?_⟩
  · have h := X.room
    have hU : ((T.setVm s.vm).setFrames (.invoking m args :: below)).localsInUse = s.localsInUse := by
      rw [State.localsInUse_invoking hF (meth := meth) (c := c) X.method X.code, State.localsInUse_invoking X.frames X.method X.code]
    simp only [State.hasRoom, Bool.and_eq_true, decide_eq_true_eq] at h ⊢
    obtain ⟨⟨⟨⟨h1, h2, h3, h4, h5, h6⟩, h7⟩, h8⟩, h9⟩ := h
    rw [X.frames, List.length_cons] at h2 h3
    have q1 := X.heapSize
    have q2 := X.used
    simp only [hF, hU, List.length_cons, State.stackLimits_setFrames, State.stackBytes_setFrames, hl9, hb9]
    refine ⟨⟨⟨⟨by omega, by omega, by omega, by omega, by omega, h6⟩, ?_⟩, ?_⟩, X.book⟩
    · show T.heap.size + R'.cells ≤ e.platform.maxCells
      omega
    · show T.slotsUsed + R'.slots ≤ e.platform.maxSlots
      omega
  · rw [State.stackLimits_setFrames]; rfl
  · rw [State.stackBytes_setFrames]; rfl
  · refine ⟨?_, Nat.le_refl _, Nat.le_refl _, ?_, ?_, fun a c9 h9 => ⟨c9, h9, rfl, rfl, fun _ _ => rfl⟩⟩
    · obtain ⟨t, ht, -⟩ := State.frames_cons hr
      show T.setVm s.vm = { ((T.setVm s.vm).setFrames (.invoking m args :: below)).setFrames (T.setVm s.vm).frames with heap := T.heap, slotsUsed := T.slotsUsed }
      rw [State.setFrames_setFrames, State.setFrames_self ht]
      rfl
    · show T.slotsUsed = T.slotsUsed + ((T.heap.toList.drop T.heap.size).map (·.slots.size)).sum
      rw [List.drop_eq_nil_of_le (Nat.le_of_eq Array.length_toList)]
      rfl
    · show ((T.heap.toList.drop T.heap.size).map (·.slots.size)).sum ≤ 0
      rw [List.drop_eq_nil_of_le (Nat.le_of_eq Array.length_toList)]
      exact Nat.le_refl _
/-- 'throw new E()': new; dup; invokespecial; athrow -/
theorem vx_throw0 {cc : ByteArray} {pc : Nat} (hexec : p.tables.exec = Jvm.exec) (hb : c.code = cc) (hl : l.stackTraces = false) {own cls : String} {names : List String} {ik ic mc ms : Nat} {A : Nat → Prop}
    (hown : s.vm.findClass own = some m.cls) (hcls : Bundle.fit cls = true) (hnames : ∀ n ∈ names, Bundle.fit n = true)
    (hk : (Cond.classLink own ik cls).before args s = true) (hini : (Cond.initialized cls).before args s = true) (hat : ∀ w ∈ vx_at0 own ic cls names, w.before args s = true)
    (hgood : ∀ w ∈ Cond.classLink own ik cls :: Cond.initialized cls :: vx_at0 own ic cls names, vx_ot w = true)
    (hU : vx_Zq Bundle.tN "UNASSIGNED_STACK" Bundle.steD A s s.heap) (hN : vx_Zq Bundle.tN "SUPPRESSED_SENTINEL" Bundle.listD A s s.heap) (hS : va_S A s.heap H locs) (hsize : ls.size = c.maxLocals)
    (d0 : decode cc pc = .ok (.new ik, 3)) (d3 : decode cc (pc + 3) = .ok (.dup, 1)) (d4 : decode cc (pc + 4) = .ok (.invokespecial ic, 3)) (d7 : decode cc (pc + 7) = .ok (.athrow, 1))
    (hout : ∀ x ∈ c.exceptionTable.toList, covers x (pc + 7) = false)
    (hRframes : names.length + 3 < R.frames) (hRlocals : (rest.map fun v => v.category).sum + (13 * (names.length + 1) + 42) ≤ R.locals) (hRcells : cells + 1 ≤ R.cells) (hRslots : slots + 6 ≤ R.slots) (hlocks : meth.locks = false)
    (hx : ∀ t : State, s.vm.Alike t.vm → H.size ≤ t.heap.size → (∀ q : Nat, q < H.size → t.heap[q]? = H[q]?) → XC cls s t)
    (hf : ∀ z ∈ locs, free z.base) (hc : cells + 1 ≤ mc) (hs : slots + 6 ≤ ms) :
    W p l e R s m args below meth c H locs cells slots (vx_MQ below Qc XC args s mc ms free) (F0 m pc ls rest) := by
  intro T hT X
  have htr : e.platform.stackTraces = false := (show e.platform.stackTraces = l.stackTraces by rw [X.admits.platform]).trans hl
  have Y := vx_rebase X (R' := { frames := R.frames, locals := R.locals, cells := 1, slots := 6 }) (Nat.le_refl _) (Nat.le_refl _) hRcells hRslots
  obtain ⟨s', hA⟩ : ∃ z, z = (T.setVm s.vm).setFrames (.invoking m args :: below) := ⟨_, rfl⟩
  rw [← hA] at Y
  have hvm : s'.vm = s.vm := by rw [hA]; rfl
  have hhp : s'.heap = H := by rw [hA]; exact hT
  have hW0 : s.WarmedH s'.vm := by rw [hvm]; exact State.WarmedH.refl s
  have hat' : ∀ w ∈ vx_at0 own ic cls names, w.before args s' = true := fun w hw => vx_ot_at hW0 hvm.symm (hgood w (List.mem_cons_of_mem _ (List.mem_cons_of_mem _ hw))) (hat w hw)
  have hk' : (Cond.classLink own ik cls).before args s' = true := vx_ot_at hW0 hvm.symm (hgood _ List.mem_cons_self) hk
  have hini' : (Cond.initialized cls).before args s' = true := vx_ot_at hW0 hvm.symm (hgood _ (List.mem_cons_of_mem _ List.mem_cons_self)) hini
  have hU' : vx_Zq Bundle.tN "UNASSIGNED_STACK" Bundle.steD A s' s'.heap := by rw [hhp]; exact vx_Zq.moved hW0.alike (hU.kept hS.2.1)
  have hN' : vx_Zq Bundle.tN "SUPPRESSED_SENTINEL" Bundle.listD A s' s'.heap := by rw [hhp]; exact vx_Zq.moved hW0.alike (hN.kept hS.2.1)
  have h : ∀ w ∈ Bundle.ownAtoms0 own ic cls names, w.before args s' = true := vx_own hat' (vx_isRefq hU'.1) (vx_isRefq hN'.1) hU'.2.word hN'.2.word
  have hown' : s'.vm.findClass own = some m.cls := by rw [hvm]; exact hown
  have hins : (Cond.instantiable cls 6).before args s' = true := h _ (by simp [Bundle.ownAtoms0])
  obtain ⟨vm₁, cX, kX, hfX, hkX, -, -, X₁, st1⟩ := Y.newCold hexec (own := own) (C := cls) (index := ik) (n := 6) hown' hk' hins hini'
    (g := F0 m pc ls rest) rfl (by rw [hb]; exact d0) (Nat.le_refl _) (Nat.le_refl _)
  generalize hT1 : (T.setVm vm₁).pushCell { cls := cX, slots := kX.instanceTypes.map defaultValue, vm := .none } = T1 at X₁ st1
  have hcat : (Value.ref T.heap.size).category = 1 := rfl
  have hcellA : T1.heap[T.heap.size]? = some (freshCell cX kX) := by rw [← hT1]; exact State.heap_pushCell_size _ _
  have d3' : decode c.code (pc + 3) = .ok (.dup, 1) := by rw [hb]; exact d3
  obtain ⟨U, hsteps, hrun, hend, hW, hsame, ce, hce, hO⟩ := X₁.ctorThrow0 hexec htr (own := own) (cls := cls) (names := names) (ic := ic) hown' hcls hnames h (fun x hx => nomatch hx) hfX hkX hcellA (by rw [hhp, hT]; exact Nat.le_refl _)
    (g := { method := m, pc := pc + 4, locals := ls, stack := .ref T.heap.size :: .ref T.heap.size :: rest, locked := none }) rfl hsize rfl rfl (rest := rest) rfl
    (by rw [hb]; exact d4) (by rw [hb]; exact d7) hout hRframes (by simp only [List.map_cons, List.sum_cons, hcat]; omega) hlocks
  obtain ⟨f1, f2⟩ := vx_frame hsame
  rw [hhp] at f1 f2
  have hWs : s.WarmedH U.vm := State.WarmedH.trans hW0 hW
  have hcl : s.vm.findClass cls = some ce.cls := by
    have h9 := hO.cls
    rw [hvm] at h9
    exact h9
  have hall : s.sameButNew ({ U with vm := s.vm } : State) locs mc ms := by
    subst hA
    obtain ⟨e1, e2⟩ := hsame
    rw [State.setFrames_setFrames] at e1
    have h2 : (T.setVm s.vm).sameButNew ({ U with vm := s.vm } : State) [] (0 + 1) (0 + 6) := ⟨e1, e2⟩
    have h3 := X.same.trans h2
    rw [List.append_nil] at h3
    exact h3.mono hc hs
  refine ⟨U, ?_, .threw T.heap.size, hrun, hend, Or.inr ⟨T.heap.size, rfl, cls, ce, locs, hx U hWs.alike f1 (fun q hq => f2 q hq (fun z hz => nomatch hz)), hce, hO.vm, hcl, hWs, hall, hf⟩⟩
  refine st1 _ ?_
  show Steps p.tables e below (T1.setTop { method := m, pc := pc + 3, locals := ls, stack := .ref T.heap.size :: rest, locked := none }) _
  jvm_step X₁.here [X₁.here.top, hexec, d3', Value.category]
  exact hsteps
/-- 'throw new E("text")': new; dup; ldc; invokespecial; athrow -/
theorem vx_throwS {cc : ByteArray} {pc : Nat} (hexec : p.tables.exec = Jvm.exec) (hb : c.code = cc) (hl : l.stackTraces = false) {own cls text : String} {names : List String} {ik is ic mc ms sa : Nat} {A : Nat → Prop}
    (hown : s.vm.findClass own = some m.cls) (hcls : Bundle.fit cls = true) (hnames : ∀ n ∈ names, Bundle.fit n = true)
    (hk : (Cond.classLink own ik cls).before args s = true) (hini : (Cond.initialized cls).before args s = true) (hstr : vk_R own is text sa s) (hat : ∀ w ∈ vx_atS own ic cls names, w.before args s = true)
    (hgood : ∀ w ∈ Cond.classLink own ik cls :: Cond.initialized cls :: vx_atS own ic cls names, vx_ot w = true)
    (hU : vx_Zq Bundle.tN "UNASSIGNED_STACK" Bundle.steD A s s.heap) (hN : vx_Zq Bundle.tN "SUPPRESSED_SENTINEL" Bundle.listD A s s.heap) (hS : va_S A s.heap H locs) (hsize : ls.size = c.maxLocals)
    (d0 : decode cc pc = .ok (.new ik, 3)) (d3 : decode cc (pc + 3) = .ok (.dup, 1)) (d4 : decode cc (pc + 4) = .ok (.ldc is, 2)) (d6 : decode cc (pc + 6) = .ok (.invokespecial ic, 3)) (d9 : decode cc (pc + 9) = .ok (.athrow, 1))
    (hout : ∀ x ∈ c.exceptionTable.toList, covers x (pc + 9) = false)
    (hRframes : names.length + 3 < R.frames) (hRlocals : (rest.map fun v => v.category).sum + (13 * (names.length + 1) + 43) ≤ R.locals) (hRcells : cells + 1 ≤ R.cells) (hRslots : slots + 6 ≤ R.slots) (hlocks : meth.locks = false)
    (hx : ∀ t : State, s.vm.Alike t.vm → H.size ≤ t.heap.size → (∀ q : Nat, q < H.size → t.heap[q]? = H[q]?) → XC cls s t)
    (hf : ∀ z ∈ locs, free z.base) (hc : cells + 1 ≤ mc) (hs : slots + 6 ≤ ms) :
    W p l e R s m args below meth c H locs cells slots (vx_MQ below Qc XC args s mc ms free) (F0 m pc ls rest) := by
  intro T hT X
  have htr : e.platform.stackTraces = false := (show e.platform.stackTraces = l.stackTraces by rw [X.admits.platform]).trans hl
  have Y := vx_rebase X (R' := { frames := R.frames, locals := R.locals, cells := 1, slots := 6 }) (Nat.le_refl _) (Nat.le_refl _) hRcells hRslots
  obtain ⟨s', hA⟩ : ∃ z, z = (T.setVm s.vm).setFrames (.invoking m args :: below) := ⟨_, rfl⟩
  rw [← hA] at Y
  have hvm : s'.vm = s.vm := by rw [hA]; rfl
  have hhp : s'.heap = H := by rw [hA]; exact hT
  have hW0 : s.WarmedH s'.vm := by rw [hvm]; exact State.WarmedH.refl s
  have hat' : ∀ w ∈ vx_atS own ic cls names, w.before args s' = true := fun w hw => vx_ot_at hW0 hvm.symm (hgood w (List.mem_cons_of_mem _ (List.mem_cons_of_mem _ hw))) (hat w hw)
  have hk' : (Cond.classLink own ik cls).before args s' = true := vx_ot_at hW0 hvm.symm (hgood _ List.mem_cons_self) hk
  have hini' : (Cond.initialized cls).before args s' = true := vx_ot_at hW0 hvm.symm (hgood _ (List.mem_cons_of_mem _ List.mem_cons_self)) hini
  have hU' : vx_Zq Bundle.tN "UNASSIGNED_STACK" Bundle.steD A s' s'.heap := by rw [hhp]; exact vx_Zq.moved hW0.alike (hU.kept hS.2.1)
  have hN' : vx_Zq Bundle.tN "SUPPRESSED_SENTINEL" Bundle.listD A s' s'.heap := by rw [hhp]; exact vx_Zq.moved hW0.alike (hN.kept hS.2.1)
  have h : ∀ w ∈ Bundle.ownAtoms own ic cls names, w.before args s' = true := vx_own hat' (vx_isRefq hU'.1) (vx_isRefq hN'.1) hU'.2.word hN'.2.word
  have hown' : s'.vm.findClass own = some m.cls := by rw [hvm]; exact hown
  have hins : (Cond.instantiable cls 6).before args s' = true := h _ (by simp [Bundle.ownAtoms])
  obtain ⟨vm₁, cX, kX, hfX, hkX, -, -, X₁, st1⟩ := Y.newCold hexec (own := own) (C := cls) (index := ik) (n := 6) hown' hk' hins hini'
    (g := F0 m pc ls rest) rfl (by rw [hb]; exact d0) (Nat.le_refl _) (Nat.le_refl _)
  generalize hT1 : (T.setVm vm₁).pushCell { cls := cX, slots := kX.instanceTypes.map defaultValue, vm := .none } = T1 at X₁ st1
  have hcat : (Value.ref T.heap.size).category = 1 := rfl
  have hcellA : T1.heap[T.heap.size]? = some (freshCell cX kX) := by rw [← hT1]; exact State.heap_pushCell_size _ _
  have d3' : decode c.code (pc + 3) = .ok (.dup, 1) := by rw [hb]; exact d3
  have d4' : decode c.code (pc + 4) = .ok (.ldc is, 2) := by rw [hb]; exact d4
  have hstr' : vk_R own is text sa s' := vk_R.warm hW0 hstr
  obtain ⟨U, hsteps, hrun, hend, hW, hsame, ce, hce, hO⟩ := X₁.ctorThrowS hexec htr (own := own) (cls := cls) (names := names) (ic := ic) hown' hcls hnames h (fun x hx => nomatch hx) hfX hkX hcellA (by rw [hhp, hT]; exact Nat.le_refl _) (msg := .ref sa) rfl
    (g := { method := m, pc := pc + 6, locals := ls, stack := .ref sa :: .ref T.heap.size :: .ref T.heap.size :: rest, locked := none }) rfl hsize rfl rfl (rest := rest) rfl
    (by rw [hb]; exact d6) (by rw [hb]; exact d9) hout hRframes (by simp only [List.map_cons, List.sum_cons, hcat]; omega) hlocks
  obtain ⟨f1, f2⟩ := vx_frame hsame
  rw [hhp] at f1 f2
  have hWs : s.WarmedH U.vm := State.WarmedH.trans hW0 hW
  have hcl : s.vm.findClass cls = some ce.cls := by
    have h9 := hO.cls
    rw [hvm] at h9
    exact h9
  have hall : s.sameButNew ({ U with vm := s.vm } : State) locs mc ms := by
    subst hA
    obtain ⟨e1, e2⟩ := hsame
    rw [State.setFrames_setFrames] at e1
    have h2 : (T.setVm s.vm).sameButNew ({ U with vm := s.vm } : State) [] (0 + 1) (0 + 6) := ⟨e1, e2⟩
    have h3 := X.same.trans h2
    rw [List.append_nil] at h3
    exact h3.mono hc hs
  refine ⟨U, ?_, .threw T.heap.size, hrun, hend, Or.inr ⟨T.heap.size, rfl, cls, ce, locs, hx U hWs.alike f1 (fun q hq => f2 q hq (fun z hz => nomatch hz)), hce, hO.vm, hcl, hWs, hall, hf⟩⟩
  refine st1 _ ?_
  show Steps p.tables e below (T1.setTop { method := m, pc := pc + 3, locals := ls, stack := .ref T.heap.size :: rest, locked := none }) _
  jvm_step X₁.here [X₁.here.top, hexec, d3', Value.category]
  exact X₁.ldcString hexec (own := own) (text := text) (index := is) (a := sa) hown' hstr'.1 hstr'.2
    (g := { method := m, pc := pc + 4, locals := ls, stack := .ref T.heap.size :: .ref T.heap.size :: rest, locked := none }) rfl d4' _ hsteps
/-- 'throw new E("text")', the text by a wide index -/
theorem vx_throwSW {cc : ByteArray} {pc : Nat} (hexec : p.tables.exec = Jvm.exec) (hb : c.code = cc) (hl : l.stackTraces = false) {own cls text : String} {names : List String} {ik is ic mc ms sa : Nat} {A : Nat → Prop}
    (hown : s.vm.findClass own = some m.cls) (hcls : Bundle.fit cls = true) (hnames : ∀ n ∈ names, Bundle.fit n = true)
    (hk : (Cond.classLink own ik cls).before args s = true) (hini : (Cond.initialized cls).before args s = true) (hstr : vk_R own is text sa s) (hat : ∀ w ∈ vx_atS own ic cls names, w.before args s = true)
    (hgood : ∀ w ∈ Cond.classLink own ik cls :: Cond.initialized cls :: vx_atS own ic cls names, vx_ot w = true)
    (hU : vx_Zq Bundle.tN "UNASSIGNED_STACK" Bundle.steD A s s.heap) (hN : vx_Zq Bundle.tN "SUPPRESSED_SENTINEL" Bundle.listD A s s.heap) (hS : va_S A s.heap H locs) (hsize : ls.size = c.maxLocals)
    (d0 : decode cc pc = .ok (.new ik, 3)) (d3 : decode cc (pc + 3) = .ok (.dup, 1)) (d4 : decode cc (pc + 4) = .ok (.ldc_w is, 3)) (d7 : decode cc (pc + 7) = .ok (.invokespecial ic, 3)) (d10 : decode cc (pc + 10) = .ok (.athrow, 1))
    (hout : ∀ x ∈ c.exceptionTable.toList, covers x (pc + 10) = false)
    (hRframes : names.length + 3 < R.frames) (hRlocals : (rest.map fun v => v.category).sum + (13 * (names.length + 1) + 43) ≤ R.locals) (hRcells : cells + 1 ≤ R.cells) (hRslots : slots + 6 ≤ R.slots) (hlocks : meth.locks = false)
    (hx : ∀ t : State, s.vm.Alike t.vm → H.size ≤ t.heap.size → (∀ q : Nat, q < H.size → t.heap[q]? = H[q]?) → XC cls s t)
    (hf : ∀ z ∈ locs, free z.base) (hc : cells + 1 ≤ mc) (hs : slots + 6 ≤ ms) :
    W p l e R s m args below meth c H locs cells slots (vx_MQ below Qc XC args s mc ms free) (F0 m pc ls rest) := by
  intro T hT X
  have htr : e.platform.stackTraces = false := (show e.platform.stackTraces = l.stackTraces by rw [X.admits.platform]).trans hl
  have Y := vx_rebase X (R' := { frames := R.frames, locals := R.locals, cells := 1, slots := 6 }) (Nat.le_refl _) (Nat.le_refl _) hRcells hRslots
  obtain ⟨s', hA⟩ : ∃ z, z = (T.setVm s.vm).setFrames (.invoking m args :: below) := ⟨_, rfl⟩
  rw [← hA] at Y
  have hvm : s'.vm = s.vm := by rw [hA]; rfl
  have hhp : s'.heap = H := by rw [hA]; exact hT
  have hW0 : s.WarmedH s'.vm := by rw [hvm]; exact State.WarmedH.refl s
  have hat' : ∀ w ∈ vx_atS own ic cls names, w.before args s' = true := fun w hw => vx_ot_at hW0 hvm.symm (hgood w (List.mem_cons_of_mem _ (List.mem_cons_of_mem _ hw))) (hat w hw)
  have hk' : (Cond.classLink own ik cls).before args s' = true := vx_ot_at hW0 hvm.symm (hgood _ List.mem_cons_self) hk
  have hini' : (Cond.initialized cls).before args s' = true := vx_ot_at hW0 hvm.symm (hgood _ (List.mem_cons_of_mem _ List.mem_cons_self)) hini
  have hU' : vx_Zq Bundle.tN "UNASSIGNED_STACK" Bundle.steD A s' s'.heap := by rw [hhp]; exact vx_Zq.moved hW0.alike (hU.kept hS.2.1)
  have hN' : vx_Zq Bundle.tN "SUPPRESSED_SENTINEL" Bundle.listD A s' s'.heap := by rw [hhp]; exact vx_Zq.moved hW0.alike (hN.kept hS.2.1)
  have h : ∀ w ∈ Bundle.ownAtoms own ic cls names, w.before args s' = true := vx_own hat' (vx_isRefq hU'.1) (vx_isRefq hN'.1) hU'.2.word hN'.2.word
  have hown' : s'.vm.findClass own = some m.cls := by rw [hvm]; exact hown
  have hins : (Cond.instantiable cls 6).before args s' = true := h _ (by simp [Bundle.ownAtoms])
  obtain ⟨vm₁, cX, kX, hfX, hkX, -, -, X₁, st1⟩ := Y.newCold hexec (own := own) (C := cls) (index := ik) (n := 6) hown' hk' hins hini'
    (g := F0 m pc ls rest) rfl (by rw [hb]; exact d0) (Nat.le_refl _) (Nat.le_refl _)
  generalize hT1 : (T.setVm vm₁).pushCell { cls := cX, slots := kX.instanceTypes.map defaultValue, vm := .none } = T1 at X₁ st1
  have hcat : (Value.ref T.heap.size).category = 1 := rfl
  have hcellA : T1.heap[T.heap.size]? = some (freshCell cX kX) := by rw [← hT1]; exact State.heap_pushCell_size _ _
  have d3' : decode c.code (pc + 3) = .ok (.dup, 1) := by rw [hb]; exact d3
  have d4' : decode c.code (pc + 4) = .ok (.ldc_w is, 3) := by rw [hb]; exact d4
  have hstr' : vk_R own is text sa s' := vk_R.warm hW0 hstr
  obtain ⟨U, hsteps, hrun, hend, hW, hsame, ce, hce, hO⟩ := X₁.ctorThrowS hexec htr (own := own) (cls := cls) (names := names) (ic := ic) hown' hcls hnames h (fun x hx => nomatch hx) hfX hkX hcellA (by rw [hhp, hT]; exact Nat.le_refl _) (msg := .ref sa) rfl
    (g := { method := m, pc := pc + 7, locals := ls, stack := .ref sa :: .ref T.heap.size :: .ref T.heap.size :: rest, locked := none }) rfl hsize rfl rfl (rest := rest) rfl
    (by rw [hb]; exact d7) (by rw [hb]; exact d10) hout hRframes (by simp only [List.map_cons, List.sum_cons, hcat]; omega) hlocks
  obtain ⟨f1, f2⟩ := vx_frame hsame
  rw [hhp] at f1 f2
  have hWs : s.WarmedH U.vm := State.WarmedH.trans hW0 hW
  have hcl : s.vm.findClass cls = some ce.cls := by
    have h9 := hO.cls
    rw [hvm] at h9
    exact h9
  have hall : s.sameButNew ({ U with vm := s.vm } : State) locs mc ms := by
    subst hA
    obtain ⟨e1, e2⟩ := hsame
    rw [State.setFrames_setFrames] at e1
    have h2 : (T.setVm s.vm).sameButNew ({ U with vm := s.vm } : State) [] (0 + 1) (0 + 6) := ⟨e1, e2⟩
    have h3 := X.same.trans h2
    rw [List.append_nil] at h3
    exact h3.mono hc hs
  refine ⟨U, ?_, .threw T.heap.size, hrun, hend, Or.inr ⟨T.heap.size, rfl, cls, ce, locs, hx U hWs.alike f1 (fun q hq => f2 q hq (fun z hz => nomatch hz)), hce, hO.vm, hcl, hWs, hall, hf⟩⟩
  refine st1 _ ?_
  show Steps p.tables e below (T1.setTop { method := m, pc := pc + 3, locals := ls, stack := .ref T.heap.size :: rest, locked := none }) _
  jvm_step X₁.here [X₁.here.top, hexec, d3', Value.category]
  exact X₁.ldcStringW hexec (own := own) (text := text) (index := is) (a := sa) hown' hstr'.1 hstr'.2
    (g := { method := m, pc := pc + 4, locals := ls, stack := .ref T.heap.size :: .ref T.heap.size :: rest, locked := none }) rfl d4' _ hsteps
end Ends
section Bodies
variable {l : Launch}
theorem vx_ofW {y : MethodName} {ws ws' : List Cond} {rm : Room} {Pc : Array Value → State → Prop} {Qc : Array Value → State → Outcome → State → Prop} {XC : String → State → State → Prop} {mc ms : Nat} {free : Addr → Prop} {cc : ByteArray} {maxL : Nat} {ret : Option FieldType}
    (hy : plainName y.cls = true) (hw : ws = Cond.code y cc maxL ret :: ws')
    (body : ∀ p e s m args below meth c s₁, BodyLoose p l y (headSpec ws rm) cc maxL ret e s m args below meth c s₁ → c.maxLocals = maxL → (∀ x ∈ c.exceptionTable.toList, False) → Pc args s →
      W p l e (headSpec ws rm).room s m args below meth c s.heap [] 0 0 (vx_MQ below Qc XC args s mc ms free) (entryFrame m args maxL)) : vx_Met l y ws rm Pc Qc XC mc ms free := by
  refine MetFree.of_bodyS (code := cc) (maxLocals := maxL) (ret := ret) hy ?_ ?_
  · intro args s m h hn
    obtain ⟨meth, c, h1, h2, h3, h4, h5, h6, -, -⟩ := Cond.code_spec hn (atoms_spec (ws := ws) h _ (by rw [hw]; exact List.mem_cons_self))
    exact ⟨meth, c, h1, h2, h3, h4, h5, h6⟩
  · intro p e s m args below meth c s₁ B hml hP _
    have hh0 : s₁.heap = s.heap := by rw [B.state]; rfl
    have ht : ∀ x ∈ c.exceptionTable.toList, False := by
      obtain ⟨meth9, c9, h1, h2, -, -, -, -, h7, -⟩ := Cond.code_spec B.named (atoms_spec (ws := ws) B.pre _ (by rw [hw]; exact List.mem_cons_self))
      cases Option.some.inj (h1.symm.trans B.method)
      cases Option.some.inj (h2.symm.trans (Stand.of_body B).code)
      intro x hx
      rw [Array.isEmpty_iff.mp h7] at hx
      cases hx
    obtain ⟨t, a1, o, b1, b2, b3⟩ := body p e s m args below meth c s₁ B hml ht hP s₁ hh0 (Stand.of_body B)
    exact ⟨t, o, a1, b1, b2, b3⟩
/-- the table of a body with handlers -/
theorem vx_table {p : Program} {x y : MethodName} {S : Spec} {cc bytes : ByteArray} {maxL maxL' : Nat} {ret ret' : Option FieldType} {e : Env} {s s₁ : State} {m : MethodId} {args : Array Value} {below : List Frame} {meth : Method} {c : Code} {hh : List (Nat × Nat × Nat × Nat)}
    (B : BodyLoose p l y S cc maxL ret e s m args below meth c s₁) (h : (Cond.codeWith y bytes maxL' ret' hh).before args s = true) : c.exceptionTable.toList = tableOf hh := by
  obtain ⟨m9, meth9, c9, hn9, h1, h2, -, -, h6, -⟩ := Cond.codeWith_spec h
  cases Option.some.inj (hn9.symm.trans B.named)
  cases Option.some.inj (h1.symm.trans B.method)
  cases Option.some.inj (h2.symm.trans (Stand.of_body B).code)
  rw [← h6, table_eq]
end Bodies
end VXA
/-! ===== END ===== -/
/-! ===== BEGIN a static call of a method with an exception table ===== -/
section VXS
variable {p : Program} {l : Launch} {e : Env} {R : Room} {s : State} {m : MethodId} {args : Array Value} {below : List Frame} {meth : Method} {c : Code} {T : State} {H : Heap} {locs : List Loc} {cells slots : Nat}
abbrev vx_CSW (R : Room) (s : State) (args : Array Value) (own : String) (index : Nat) (y : MethodName) (bytes : ByteArray) (maxL : Nat) (ret : Option FieldType) (hh : List (Nat × Nat × Nat × Nat)) (ws : List Cond) (rm : Room) (mc ms n : Nat) : Prop :=
  (rm.cells = mc ∧ rm.slots = ms ∧ rm.frames + 1 ≤ R.frames ∧ 8 + (maxL + 11) + rm.locals ≤ R.locals ∧ (∀ w ∈ ws, ∀ (a' : Array Value) (U : State), s.WarmedH U.vm → w.before a' U = true) ∧ Cond.codeWith y bytes maxL ret hh ∈ ws) ∧
  (Cond.codeWith y bytes maxL ret hh).before args s = true ∧ (Cond.initialized y.cls).before args s = true ∧ (y.cls ≠ "java/lang/invoke/MethodHandle" ∧ y.cls ≠ "java/lang/invoke/VarHandle") ∧
  (∀ sig, parseMethodDescriptor y.desc = some sig → n = sig.parameters.length) ∧ (Cond.methodLink own index y).before args s = true ∧ (Cond.static y).before args s = true
theorem vx_cwSW {own : String} {index maxL mc ms : Nat} {y : MethodName} {bytes : ByteArray} {ret : Option FieldType} {hh : List (Nat × Nat × Nat × Nat)} {Ts ws ws' : List Cond} {rm : Room} (n : Nat) (ht : ∀ w ∈ Ts, w.before args s = true) (hT : GoodIn Ts (va_wsS own index y ws)) (hw : ws = Cond.codeWith y bytes maxL ret hh :: ws') (hrc : rm.cells = mc) (hrs : rm.slots = ms)
    (hd : y.cls ≠ "java/lang/invoke/MethodHandle" ∧ y.cls ≠ "java/lang/invoke/VarHandle" ∧ (parseMethodDescriptor y.desc).map (fun d => d.parameters.length) = some n) (hR : rm.frames + 1 ≤ R.frames ∧ 8 + (maxL + 11) + rm.locals ≤ R.locals) :
    vx_CSW R s args own index y bytes maxL ret hh ws rm mc ms n := by
  have ok : ∀ w ∈ va_wsS own index y ws, w.before args s = true := fun w h => ht w (hT w h).1
  have hG : GoodIn Ts ws := fun w h => hT w (by unfold va_wsS; exact List.mem_append_right _ h)
  have hc : Cond.codeWith y bytes maxL ret hh ∈ ws := by rw [hw]; exact List.mem_cons_self
  refine ⟨⟨hrc, hrs, hR.1, hR.2, pay_in ht hG, hc⟩, ht _ (hG _ hc).1, ok _ (by simp [va_wsS]), ⟨hd.1, hd.2.1⟩, fun sig h => ?_, ok _ (by simp [va_wsS]), ok _ (by simp [va_wsS])⟩
  have h2 := hd.2.2
  rw [h] at h2
  exact (Option.some.inj h2).symm
theorem vx_callSW (X : Stand p l e R s m args below meth c T locs cells slots) (hexec : p.tables.exec = Jvm.exec) {own : String} {index : Nat} {y : MethodName} {bytes : ByteArray} {maxL : Nat} {ret : Option FieldType} {hh : List (Nat × Nat × Nat × Nat)}
    (hown : s.vm.findClass own = some m.cls) (hlink : (Cond.methodLink own index y).before args s = true) (hstat : (Cond.static y).before args s = true) (hinit : (Cond.initialized y.cls).before args s = true)
    (hcode : (Cond.codeWith y bytes maxL ret hh).before args s = true) (hy : y.cls ≠ "java/lang/invoke/MethodHandle" ∧ y.cls ≠ "java/lang/invoke/VarHandle")
    {W9 : Nat} {Pre : Pt → Array Value → Prop} {Post : Pt → Array Value → Option Value → Pt → Prop} (hK : Back l R p e below s args y 3 W9 Pre Post)
    {g : JFrame} (hg : g.method = m) (hsize : g.locals.size = c.maxLocals) {argsL rest : List Value} (hlen : ∀ sig, parseMethodDescriptor y.desc = some sig → argsL.length = sig.parameters.length)
    (hstack : g.stack = argsL.reverse ++ rest) (hW : 2 * g.monitorRoom + (rest.map fun v => v.category).sum ≤ W9) (hdg : decode c.code g.pc = .ok (.invokestatic index, 3))
    (hpre : ∀ vm₁, s.WarmedH vm₁ → Pre ⟨T.setVm vm₁, locs, cells, slots⟩ argsL.toArray) :
    ∃ (v : Option Value) (vm₁ : Vm) (B : Pt), s.WarmedH vm₁ ∧ Stand p l e R s m args below meth c B.U B.locs B.cells B.slots ∧ Post ⟨T.setVm vm₁, locs, cells, slots⟩ argsL.toArray v B ∧
      ∀ target, Steps p.tables e below (B.U.setTop { g with pc := g.pc + 3, stack := v.toList ++ rest }) target → Steps p.tables e below (T.setTop g) target := by
  obtain ⟨mk, methM, cM, hnamed, hmethM, -, -, -, -, -, -, hsigM⟩ := Cond.codeWith_spec hcode
  have hstatic : methM.isStatic = true := Cond.static_spec hnamed hmethM hstat
  obtain ⟨kP, hkP, -⟩ := className_of_methodNamed hnamed
  have hinitP : kP.init = .initialized := Cond.initialized_spec (findClass_of_methodNamed hnamed) hkP hinit
  obtain ⟨vm₁, X₁, hstep₁⟩ := X.invokestatic hexec hown hlink hnamed hmethM hstatic hkP hinitP hy (g := g) hg (argsL := argsL) (rest := rest) (hlen _ hsigM) hstack hdg
  obtain ⟨v, B, X', hpost, hsteps⟩ := hK m meth c ⟨T.setVm vm₁, locs, cells, slots⟩ { g with stack := rest } (.invokestatic index) mk argsL.toArray X₁ hg hsize hdg hW (X₁.named hnamed) (hpre vm₁ X₁.warmed)
  exact ⟨v, vm₁, B, X₁.warmed, X', hpost, fun target h => hstep₁ _ fun acts => by rw [doInvoke_state]; exact hsteps.trans h⟩
theorem vx_runSW {y : MethodName} {bytes cc : ByteArray} {maxL nL mc ms n index : Nat} {ret : Option FieldType} {hh : List (Nat × Nat × Nat × Nat)} {ws : List Cond} {rm : Room} {Pc : Array Value → State → Prop} {Qc : Array Value → State → Outcome → State → Prop} {free : Addr → Prop} {Ts : List Cond} {own : String} {As rest : List Value} {g : JFrame}
    (S : CallFix p m c cc nL s args Ts own) (hM : Met l y ws rm Pc Qc mc ms free) (cw : vx_CSW R s args own index y bytes maxL ret hh ws rm mc ms n) (hp : PreS s H Pc As)
    (hg : g.method = m) (hn : As.length = n) (hsize : g.locals.size = nL) (hstack : g.stack = As.reverse ++ rest) (hW : 2 * g.monitorRoom + (rest.map fun v => v.category).sum ≤ 8) (hdg : decode cc g.pc = .ok (.invokestatic index, 3)) (hf : cells + mc ≤ R.cells ∧ slots + ms ≤ R.slots) :
    va_Run p l e R s m args below meth c H locs cells slots mc ms g rest (Qc As.toArray) (free) := by
  obtain ⟨⟨hrc, hrs, hfr, hlo, hws, hcw⟩, hcode, hini, hy, hlen, hl, hstt⟩ := cw
  have hK : Back l R p e below s args y 3 8 (PreOf R mc ms Pc) (PostOf Qc mc ms free) := va_backW (hh := hh) (bytes := bytes) (maxL := maxL) (ret := ret) hM hp.1 hrc hrs hfr hlo hws hcw (fun a' U hW => word_at hW (Or.inl (by first | rfl | simp [Cond.onTables, Cond.keeps, Cond.steady])) hini)
  obtain ⟨hx, hb, hml, ho, -⟩ := S
  intro T hT X
  obtain ⟨v, vm₁, ⟨U', l2, c2, s2⟩, hW₁, X', ⟨g', mk, t, L, e1, e2, hq, h1, hL, h2, h3⟩, st⟩ := vx_callSW X hx (hh := hh) (bytes := bytes) (maxL := maxL) (ret := ret) ho hl hstt hini hcode hy hK hg (hsize.trans hml.symm) (argsL := As) (rest := rest) (fun sig h => hn.trans (hlen sig h)) hstack hW (by rw [hb]; exact hdg)
    (fun vm₁ hW₁ => ⟨hf.1, hf.2, hp.2 (T.setVm vm₁) hT hW₁⟩)
  dsimp only [Pt.U, Pt.locs, Pt.cells, Pt.slots] at X' e1 e2 h1 h2 h3 st
  subst h1; subst h2; subst h3
  exact ⟨v, (T.setVm vm₁).calling g' mk As.toArray, t, U', L, hT, X', hL, e1, e2, hq, st⟩
/-- a thing of a world lies in the heap -/
theorem vx_lt {D : va_G} {cl : List vw_C} {ws : va_W} {H1 : Heap} (h : va_P D cl ws H1) {k : Nat} {q : Nat × va_E} (hk : ws[k]? = some q) : q.1 < H1.size := (h k q hk).lt
end VXS
/-! ===== END ===== -/
/-! ===== BEGIN methods with a table of their own: called by a name, returning or throwing ===== -/
section VXH
/-! vx_backW, vx_callVX, vx_callSX, vx_callVW, vx_runVW, vx_runVX, vx_runSX, vx_ofWH follow the same proofs as their sisters above (Free/Laws.lean, Shelf42/LK1.lean); vx_outP calls Shelf42/NT130.lean (outThrough). -/
section
variable {l : Launch} {R : Room} {p : Program} {e : Env} {below : List Frame} {s : State} {sargs : Array Value} {y : MethodName} {len W9 : Nat}
theorem vx_backW {ws : List Cond} {rm : Room} {Pc : Array Value → State → Prop} {Qc : Array Value → State → Outcome → State → Prop} {XC : String → State → State → Prop} {mc ms : Nat} {free : Addr → Prop} {bytes : ByteArray} {maxL : Nat} {ret : Option FieldType} {hh : List (Nat × Nat × Nat × Nat)}
    (hM : vx_Met l y ws rm Pc Qc XC mc ms free) (hblind : FrameBlind Pc) (hrc : rm.cells = mc) (hrs : rm.slots = ms)
    (hframes : rm.frames + 1 ≤ R.frames) (hlocals : W9 + (maxL + 11) + rm.locals ≤ R.locals)
    (hws : ∀ w ∈ ws, ∀ a' U, s.WarmedH U.vm → w.before a' U = true) (hcode : Cond.codeWith y bytes maxL ret hh ∈ ws) (hinit : ∀ a' U, s.WarmedH U.vm → (Cond.initialized y.cls).before a' U = true) :
    vx_Back l R p e below s sargs y len W9 (PreOf R mc ms Pc) (PostOf Qc mc ms free) (vx_Post XC mc ms free) := by
  intro m meth c A g ig mk a X hg hsize hdg hW hn hp
  have h1 : (headSpec ws rm).pre.before a A.U = true := atoms_intro fun w hw => hws w hw _ _ X.warmed
  have h2 : (Cond.codeWith y bytes maxL ret hh).before a A.U = true := hws _ hcode _ _ X.warmed
  have h3 : (Cond.initialized y.cls).before a A.U = true := hinit _ _ X.warmed
  have h4 : A.cells + (headSpec ws rm).room.cells ≤ R.cells := by rw [show (headSpec ws rm).room.cells = mc from hrc]; exact hp.1
  have h5 : A.slots + (headSpec ws rm).room.slots ≤ R.slots := by rw [show (headSpec ws rm).room.slots = ms from hrs]; exact hp.2.1
  have hPc : Pc a (A.U.calling g mk a) := hblind _ _ _ _ hp.2.2
  obtain ⟨U, Ls, c0, s0⟩ := A
  dsimp only [Pt.U, Pt.locs, Pt.cells, Pt.slots] at h1 h2 h3 h4 h5 X hn hPc ⊢
  obtain ⟨m9, methY, cY, hn9, hmY, hcY, -, hlY, -⟩ := Cond.codeWith_spec h2
  cases Option.some.inj (hn9.symm.trans hn)
  obtain ⟨kY, hkY, -⟩ := className_of_methodNamed hn
  have hinitY : kY.init = .initialized := Cond.initialized_spec (findClass_of_methodNamed hn) hkY h3
  have h : At U g.method c below := by rw [hg]; exact X.here
  have hlocals9 : W9 + (maxL + 11) + (headSpec ws rm).room.locals ≤ R.locals := hlocals
  have happ : (headSpec ws rm).appliesLoose y e.platform (U.calling g mk a) = true :=
    Spec.appliesLoose_calling (g := g) h hdg hn hkY hinitY
      (X.room_calling (g := g) (R' := (headSpec ws rm).room) hsize hmY hcY hframes (by rw [hlY]; omega) h4 h5) h1
  obtain ⟨mid, hmid⟩ := h.above
  have hfr : (U.setTop g).frames = (.java g :: mid) ++ below := by rw [State.frames_setTop' g h.top, hmid]; rfl
  obtain ⟨o, s₂, hsteps, -, hend, hq⟩ := Steps.callFree hM p X.admits X.cas X.clock (acts := []) hfr happ hPc trivial
  have hq' : vx_Q Qc XC mc ms free a (U.calling g mk a) o s₂ := hq
  rw [State.frames_setTop' g h.top] at hend
  obtain ⟨g₀, hg0⟩ := Option.isSome_iff_exists.mp h.top
  obtain ⟨r, hr⟩ := State.topJava?_eq_some.mp hg0
  have hr' : (({ U with heap := s₂.heap, slotsUsed := s₂.slotsUsed } : State).setVm s₂.vm).frames = .java g₀ :: r := hr
  rcases hq' with ⟨hqc, L, hfe, hL⟩ | ⟨q, rfl, E, ce, L, hx, hce, hcv, hcl, hW₂, hsm, hL⟩
  · obtain ⟨⟨v, rfl⟩, hW₂, e2, q2, q3, q4, q5, q6⟩ := id hfe
    have e3 : s₂ = ({ (U.calling g mk a).setFrames s₂.frames with heap := s₂.heap, slotsUsed := s₂.slotsUsed } : State).setVm s₂.vm := by
      have : s₂ = ({ s₂ with vm := (U.calling g mk a).vm } : State).setVm s₂.vm := rfl
      rw [e2] at this
      exact this
    obtain ⟨c₂, i₂, len₂, hc₂, hd₂, hf₂⟩ := hend
    have hW' : U.WarmedH s₂.vm := hW₂
    have hcc : c₂ = c := by
      have h1 : s₂.code? g.method = U.code? g.method := by
        rw [State.code?_eq, State.code?_eq, hW'.alike.method?]
      exact Option.some.inj (hc₂.symm.trans (h1.trans h.code))
    subst hcc
    have hlen : len₂ = len := by rw [hdg] at hd₂; cases hd₂; rfl
    subst hlen
    have hs₂ : s₂ = (({ U with heap := s₂.heap, slotsUsed := s₂.slotsUsed } : State).setVm s₂.vm).setTop { g with pc := g.pc + len₂, stack := v.toList ++ g.stack } := by
      refine e3.trans ?_
      rw [hf₂, State.calling_eq h.top, State.setFrames_setFrames, State.setTop_of_frames _ hr', hr]
      rfl
    have hsame : U.sameButNew ({ U with heap := s₂.heap, slotsUsed := s₂.slotsUsed } : State) L mc ms := by
      refine ⟨?_, q2, q3, q4, q5, q6⟩
      obtain ⟨t, ht, -⟩ := State.frames_cons hr
      show ({ U with heap := s₂.heap, slotsUsed := s₂.slotsUsed } : State) = { U.setFrames U.frames with heap := s₂.heap, slotsUsed := s₂.slotsUsed }
      rw [State.setFrames_self ht]
    subst hg
    refine Or.inl ⟨v, ⟨(({ U with heap := s₂.heap, slotsUsed := s₂.slotsUsed } : State).setVm s₂.vm), Ls ++ L, c0 + mc, s0 + ms⟩,
      ⟨X.admits, X.cas, X.clock, X.frames, X.room, X.hears, X.method, X.code, (X.here.setHeapUsed s₂.heap s₂.slotsUsed).setVm hW'.alike, X.tail, State.WarmedH.trans X.warmed hW', X.limits, X.bytes, X.same.trans (hsame.setVm s.vm)⟩,
      ⟨g, mk, s₂, L, rfl, rfl, hqc, rfl, hL, rfl, rfl⟩, ?_⟩
    show Steps p.tables e below _ ((({ U with heap := s₂.heap, slotsUsed := s₂.slotsUsed } : State).setVm s₂.vm).setTop { g with pc := g.pc + len₂, stack := v.toList ++ g.stack })
    rw [← hs₂]
    exact hsteps
  · obtain ⟨e2, q2, q3, q4, q5, q6⟩ := id hsm
    have e3 : s₂ = ({ (U.calling g mk a).setFrames s₂.frames with heap := s₂.heap, slotsUsed := s₂.slotsUsed } : State).setVm s₂.vm := by
      have : s₂ = ({ s₂ with vm := (U.calling g mk a).vm } : State).setVm s₂.vm := rfl
      rw [e2] at this
      exact this
    have hf₂ : s₂.frames = .throwing q :: .java g :: U.frames.tail := hend
    have hW' : U.WarmedH s₂.vm := hW₂
    have hs₂ : s₂ = ((({ U with heap := s₂.heap, slotsUsed := s₂.slotsUsed } : State).setVm s₂.vm).setTop g).pushFrame (.throwing q) := by
      refine e3.trans ?_
      rw [hf₂, State.calling_eq h.top, State.setFrames_setFrames, State.pushFrame, State.frames_setTop _ hr', State.setTop_of_frames _ hr', State.setFrames_setFrames, hr]
      rfl
    have hsame : U.sameButNew ({ U with heap := s₂.heap, slotsUsed := s₂.slotsUsed } : State) L mc ms := by
      refine ⟨?_, q2, q3, q4, q5, q6⟩
      obtain ⟨t, ht, -⟩ := State.frames_cons hr
      show ({ U with heap := s₂.heap, slotsUsed := s₂.slotsUsed } : State) = { U.setFrames U.frames with heap := s₂.heap, slotsUsed := s₂.slotsUsed }
      rw [State.setFrames_self ht]
    subst hg
    refine Or.inr ⟨q, ⟨(({ U with heap := s₂.heap, slotsUsed := s₂.slotsUsed } : State).setVm s₂.vm), Ls ++ L, c0 + mc, s0 + ms⟩,
      ⟨X.admits, X.cas, X.clock, X.frames, X.room, X.hears, X.method, X.code, (X.here.setHeapUsed s₂.heap s₂.slotsUsed).setVm hW'.alike, X.tail, State.WarmedH.trans X.warmed hW', X.limits, X.bytes, X.same.trans (hsame.setVm s.vm)⟩,
      ⟨g, mk, s₂, L, E, ce, rfl, rfl, hx, hce, hcv, hcl, rfl, hL, rfl, rfl⟩, ?_⟩
    show Steps p.tables e below _ (((({ U with heap := s₂.heap, slotsUsed := s₂.slotsUsed } : State).setVm s₂.vm).setTop g).pushFrame (.throwing q))
    rw [← hs₂]
    exact hsteps
end
variable {p : Program} {l : Launch} {e : Env} {R : Room} {s : State} {m : MethodId} {args : Array Value} {below : List Frame} {meth : Method} {c : Code} {T : State} {H : Heap} {locs : List Loc} {cells slots : Nat}
theorem vx_callVX (X : Stand p l e R s m args below meth c T locs cells slots) (hexec : p.tables.exec = Jvm.exec) {own C : String} {index : Nat} {y : MethodName} {bytes : ByteArray} {maxL : Nat} {ret : Option FieldType} {hh : List (Nat × Nat × Nat × Nat)}
    (hown : s.vm.findClass own = some m.cls) (hlink : (Cond.methodLink own index y).before args s = true) (hinst : (Cond.instanceMethod y).before args s = true) (hsel : (Cond.selects C y y).before args s = true)
    (hcode : (Cond.codeWith y bytes maxL ret hh).before args s = true) (hy : y.cls ≠ "java/lang/invoke/MethodHandle" ∧ y.cls ≠ "java/lang/invoke/VarHandle")
    {W9 : Nat} {Pre : Pt → Array Value → Prop} {Post : Pt → Array Value → Option Value → Pt → Prop} {PostX : Pt → Array Value → Addr → Pt → Prop} (hK : vx_Back l R p e below s args y 3 W9 Pre Post PostX)
    {b : Addr} {cellB : Cell} (hcell : T.heap[b]? = some cellB) (hobj : cellB.vm.isStatics = false) (hcls : s.vm.findClass C = some cellB.cls)
    {g : JFrame} (hg : g.method = m) (hsize : g.locals.size = c.maxLocals) {argsL rest : List Value} (hlen : ∀ sig, parseMethodDescriptor y.desc = some sig → argsL.length = sig.parameters.length)
    (hstack : g.stack = argsL.reverse ++ .ref b :: rest) (hW : 2 * g.monitorRoom + (rest.map fun v => v.category).sum ≤ W9) (hdg : decode c.code g.pc = .ok (.invokevirtual index, 3))
    (hpre : ∀ vm₁, s.WarmedH vm₁ → Pre ⟨T.setVm vm₁, locs, cells, slots⟩ (Value.ref b :: argsL).toArray) :
    (∃ (v : Option Value) (vm₁ : Vm) (B : Pt), s.WarmedH vm₁ ∧ Stand p l e R s m args below meth c B.U B.locs B.cells B.slots ∧ Post ⟨T.setVm vm₁, locs, cells, slots⟩ (Value.ref b :: argsL).toArray v B ∧
      ∀ target, Steps p.tables e below (B.U.setTop { g with pc := g.pc + 3, stack := v.toList ++ rest }) target → Steps p.tables e below (T.setTop g) target) ∨
    (∃ (q : Addr) (vm₁ : Vm) (B : Pt), s.WarmedH vm₁ ∧ Stand p l e R s m args below meth c B.U B.locs B.cells B.slots ∧ PostX ⟨T.setVm vm₁, locs, cells, slots⟩ (Value.ref b :: argsL).toArray q B ∧
      Steps p.tables e below (T.setTop g) ((B.U.setTop { g with stack := rest }).pushFrame (.throwing q))) := by
  obtain ⟨mk, methM, hnamed, hmethM, hstM, habM⟩ := Cond.instanceMethod_spec hinst
  obtain ⟨m8, methM', cM, hn8, hmethM', -, -, -, -, -, -, hsigM⟩ := Cond.codeWith_spec hcode
  cases Option.some.inj (hn8.symm.trans hnamed)
  cases hmethM.symm.trans hmethM'
  obtain ⟨c2, r2, m2, q1, q2, q3, q4, kP, hkP, hkPi⟩ := Cond.selects_spec hsel
  cases hcls.symm.trans q1
  cases (State.methodFound?_of_named hnamed hy).symm.trans q2
  cases hnamed.symm.trans q3
  have hselP : selectMethod e.platform s.vm cellB.cls mk = .method mk := by rw [Launch.admits_selectMethod X.admits]; exact q4
  obtain ⟨vm₁, X₁, hstep₁⟩ := X.invokevirtual hexec hown hlink hnamed hmethM hstM hkP hkPi hy (a := b) (cell := cellB) hcell
    (fun z h => by rw [h] at hobj; cases hobj) hselP hmethM habM hkP hkPi (g := g) hg (argsL := argsL) (rest := rest) (hlen _ hsigM) hstack hdg
  rcases hK m meth c ⟨T.setVm vm₁, locs, cells, slots⟩ { g with stack := rest } (.invokevirtual index) mk (Value.ref b :: argsL).toArray X₁ hg hsize hdg hW (X₁.named hnamed) (hpre vm₁ X₁.warmed) with ⟨v, B, X', hpost, hsteps⟩ | ⟨q, B, X', hpost, hsteps⟩
  · exact Or.inl ⟨v, vm₁, B, X₁.warmed, X', hpost, fun target h => hstep₁ _ fun acts => by rw [doInvoke_state]; exact hsteps.trans h⟩
  · exact Or.inr ⟨q, vm₁, B, X₁.warmed, X', hpost, hstep₁ _ fun acts => by rw [doInvoke_state]; exact hsteps⟩
theorem vx_callSX (X : Stand p l e R s m args below meth c T locs cells slots) (hexec : p.tables.exec = Jvm.exec) {own : String} {index : Nat} {y : MethodName} {bytes : ByteArray} {maxL : Nat} {ret : Option FieldType} {hh : List (Nat × Nat × Nat × Nat)}
    (hown : s.vm.findClass own = some m.cls) (hlink : (Cond.methodLink own index y).before args s = true) (hstat : (Cond.static y).before args s = true) (hinit : (Cond.initialized y.cls).before args s = true)
    (hcode : (Cond.codeWith y bytes maxL ret hh).before args s = true) (hy : y.cls ≠ "java/lang/invoke/MethodHandle" ∧ y.cls ≠ "java/lang/invoke/VarHandle")
    {W9 : Nat} {Pre : Pt → Array Value → Prop} {Post : Pt → Array Value → Option Value → Pt → Prop} {PostX : Pt → Array Value → Addr → Pt → Prop} (hK : vx_Back l R p e below s args y 3 W9 Pre Post PostX)
    {g : JFrame} (hg : g.method = m) (hsize : g.locals.size = c.maxLocals) {argsL rest : List Value} (hlen : ∀ sig, parseMethodDescriptor y.desc = some sig → argsL.length = sig.parameters.length)
    (hstack : g.stack = argsL.reverse ++ rest) (hW : 2 * g.monitorRoom + (rest.map fun v => v.category).sum ≤ W9) (hdg : decode c.code g.pc = .ok (.invokestatic index, 3))
    (hpre : ∀ vm₁, s.WarmedH vm₁ → Pre ⟨T.setVm vm₁, locs, cells, slots⟩ argsL.toArray) :
    (∃ (v : Option Value) (vm₁ : Vm) (B : Pt), s.WarmedH vm₁ ∧ Stand p l e R s m args below meth c B.U B.locs B.cells B.slots ∧ Post ⟨T.setVm vm₁, locs, cells, slots⟩ argsL.toArray v B ∧
      ∀ target, Steps p.tables e below (B.U.setTop { g with pc := g.pc + 3, stack := v.toList ++ rest }) target → Steps p.tables e below (T.setTop g) target) ∨
    (∃ (q : Addr) (vm₁ : Vm) (B : Pt), s.WarmedH vm₁ ∧ Stand p l e R s m args below meth c B.U B.locs B.cells B.slots ∧ PostX ⟨T.setVm vm₁, locs, cells, slots⟩ argsL.toArray q B ∧
      Steps p.tables e below (T.setTop g) ((B.U.setTop { g with stack := rest }).pushFrame (.throwing q))) := by
  obtain ⟨mk, methM, cM, hnamed, hmethM, -, -, -, -, -, -, hsigM⟩ := Cond.codeWith_spec hcode
  have hstatic : methM.isStatic = true := Cond.static_spec hnamed hmethM hstat
  obtain ⟨kP, hkP, -⟩ := className_of_methodNamed hnamed
  have hinitP : kP.init = .initialized := Cond.initialized_spec (findClass_of_methodNamed hnamed) hkP hinit
  obtain ⟨vm₁, X₁, hstep₁⟩ := X.invokestatic hexec hown hlink hnamed hmethM hstatic hkP hinitP hy (g := g) hg (argsL := argsL) (rest := rest) (hlen _ hsigM) hstack hdg
  rcases hK m meth c ⟨T.setVm vm₁, locs, cells, slots⟩ { g with stack := rest } (.invokestatic index) mk argsL.toArray X₁ hg hsize hdg hW (X₁.named hnamed) (hpre vm₁ X₁.warmed) with ⟨v, B, X', hpost, hsteps⟩ | ⟨q, B, X', hpost, hsteps⟩
  · exact Or.inl ⟨v, vm₁, B, X₁.warmed, X', hpost, fun target h => hstep₁ _ fun acts => by rw [doInvoke_state]; exact hsteps.trans h⟩
  · exact Or.inr ⟨q, vm₁, B, X₁.warmed, X', hpost, hstep₁ _ fun acts => by rw [doInvoke_state]; exact hsteps⟩
theorem vx_callVW (X : Stand p l e R s m args below meth c T locs cells slots) (hexec : p.tables.exec = Jvm.exec) {own C : String} {index : Nat} {y : MethodName} {bytes : ByteArray} {maxL : Nat} {ret : Option FieldType} {hh : List (Nat × Nat × Nat × Nat)}
    (hown : s.vm.findClass own = some m.cls) (hlink : (Cond.methodLink own index y).before args s = true) (hinst : (Cond.instanceMethod y).before args s = true) (hsel : (Cond.selects C y y).before args s = true)
    (hcode : (Cond.codeWith y bytes maxL ret hh).before args s = true) (hy : y.cls ≠ "java/lang/invoke/MethodHandle" ∧ y.cls ≠ "java/lang/invoke/VarHandle")
    {W9 : Nat} {Pre : Pt → Array Value → Prop} {Post : Pt → Array Value → Option Value → Pt → Prop} (hK : Back l R p e below s args y 3 W9 Pre Post)
    {b : Addr} {cellB : Cell} (hcell : T.heap[b]? = some cellB) (hobj : cellB.vm.isStatics = false) (hcls : s.vm.findClass C = some cellB.cls)
    {g : JFrame} (hg : g.method = m) (hsize : g.locals.size = c.maxLocals) {argsL rest : List Value} (hlen : ∀ sig, parseMethodDescriptor y.desc = some sig → argsL.length = sig.parameters.length)
    (hstack : g.stack = argsL.reverse ++ .ref b :: rest) (hW : 2 * g.monitorRoom + (rest.map fun v => v.category).sum ≤ W9) (hdg : decode c.code g.pc = .ok (.invokevirtual index, 3))
    (hpre : ∀ vm₁, s.WarmedH vm₁ → Pre ⟨T.setVm vm₁, locs, cells, slots⟩ (Value.ref b :: argsL).toArray) :
    ∃ (v : Option Value) (vm₁ : Vm) (B : Pt), s.WarmedH vm₁ ∧ Stand p l e R s m args below meth c B.U B.locs B.cells B.slots ∧ Post ⟨T.setVm vm₁, locs, cells, slots⟩ (Value.ref b :: argsL).toArray v B ∧
      ∀ target, Steps p.tables e below (B.U.setTop { g with pc := g.pc + 3, stack := v.toList ++ rest }) target → Steps p.tables e below (T.setTop g) target := by
  obtain ⟨mk, methM, hnamed, hmethM, hstM, habM⟩ := Cond.instanceMethod_spec hinst
  obtain ⟨m8, methM', cM, hn8, hmethM', -, -, -, -, -, -, hsigM⟩ := Cond.codeWith_spec hcode
  cases Option.some.inj (hn8.symm.trans hnamed)
  cases hmethM.symm.trans hmethM'
  obtain ⟨c2, r2, m2, q1, q2, q3, q4, kP, hkP, hkPi⟩ := Cond.selects_spec hsel
  cases hcls.symm.trans q1
  cases (State.methodFound?_of_named hnamed hy).symm.trans q2
  cases hnamed.symm.trans q3
  have hselP : selectMethod e.platform s.vm cellB.cls mk = .method mk := by rw [Launch.admits_selectMethod X.admits]; exact q4
  obtain ⟨vm₁, X₁, hstep₁⟩ := X.invokevirtual hexec hown hlink hnamed hmethM hstM hkP hkPi hy (a := b) (cell := cellB) hcell
    (fun z h => by rw [h] at hobj; cases hobj) hselP hmethM habM hkP hkPi (g := g) hg (argsL := argsL) (rest := rest) (hlen _ hsigM) hstack hdg
  obtain ⟨v, B, X', hpost, hsteps⟩ := hK m meth c ⟨T.setVm vm₁, locs, cells, slots⟩ { g with stack := rest } (.invokevirtual index) mk (Value.ref b :: argsL).toArray X₁ hg hsize hdg hW (X₁.named hnamed) (hpre vm₁ X₁.warmed)
  exact ⟨v, vm₁, B, X₁.warmed, X', hpost, fun target h => hstep₁ _ fun acts => by rw [doInvoke_state]; exact hsteps.trans h⟩
abbrev vx_CVW (R : Room) (s : State) (args : Array Value) (own C : String) (index : Nat) (y : MethodName) (bytes : ByteArray) (maxL : Nat) (ret : Option FieldType) (hh : List (Nat × Nat × Nat × Nat)) (ws : List Cond) (rm : Room) (mc ms n : Nat) : Prop :=
  (rm.cells = mc ∧ rm.slots = ms ∧ rm.frames + 1 ≤ R.frames ∧ 8 + (maxL + 11) + rm.locals ≤ R.locals ∧ (∀ w ∈ ws, ∀ (a' : Array Value) (U : State), s.WarmedH U.vm → w.before a' U = true) ∧ Cond.codeWith y bytes maxL ret hh ∈ ws) ∧
  (Cond.codeWith y bytes maxL ret hh).before args s = true ∧ (Cond.initialized y.cls).before args s = true ∧ (y.cls ≠ "java/lang/invoke/MethodHandle" ∧ y.cls ≠ "java/lang/invoke/VarHandle") ∧
  (∀ sig, parseMethodDescriptor y.desc = some sig → n = sig.parameters.length) ∧ (Cond.methodLink own index y).before args s = true ∧ (Cond.instanceMethod y).before args s = true ∧ (Cond.selects C y y).before args s = true
theorem vx_cwVW {own C : String} {index maxL mc ms : Nat} {y : MethodName} {bytes : ByteArray} {ret : Option FieldType} {hh : List (Nat × Nat × Nat × Nat)} {Ts ws ws' : List Cond} {rm : Room} (n : Nat) (ht : ∀ w ∈ Ts, w.before args s = true) (hT : GoodIn Ts (wsV own index C y ws)) (hw : ws = Cond.codeWith y bytes maxL ret hh :: ws') (hrc : rm.cells = mc) (hrs : rm.slots = ms)
    (hd : y.cls = C ∧ y.cls ≠ "java/lang/invoke/MethodHandle" ∧ y.cls ≠ "java/lang/invoke/VarHandle" ∧ (parseMethodDescriptor y.desc).map (fun d => d.parameters.length) = some n) (hR : rm.frames + 1 ≤ R.frames ∧ 8 + (maxL + 11) + rm.locals ≤ R.locals) :
    vx_CVW R s args own C index y bytes maxL ret hh ws rm mc ms n := by
  obtain ⟨hC, hd⟩ := hd
  subst hC
  have ok : ∀ w ∈ wsV own index y.cls y ws, w.before args s = true := fun w h => ht w (hT w h).1
  have hG : GoodIn Ts ws := fun w h => hT w (by unfold wsV; exact List.mem_append_right _ h)
  have hc : Cond.codeWith y bytes maxL ret hh ∈ ws := by rw [hw]; exact List.mem_cons_self
  refine ⟨⟨hrc, hrs, hR.1, hR.2, pay_in ht hG, hc⟩, ht _ (hG _ hc).1, ok _ (by simp [wsV]), ⟨hd.1, hd.2.1⟩, fun sig h => ?_, ok _ (by simp [wsV]), ok _ (by simp [wsV]), ok _ (by simp [wsV])⟩
  have h2 := hd.2.2
  rw [h] at h2
  exact (Option.some.inj h2).symm
theorem vx_runVW {y : MethodName} {bytes cc : ByteArray} {maxL nL mc ms n index : Nat} {ret : Option FieldType} {hh : List (Nat × Nat × Nat × Nat)} {ws : List Cond} {rm : Room} {Pc : Array Value → State → Prop} {Qc : Array Value → State → Outcome → State → Prop} {free : Addr → Prop} {Ts : List Cond} {own C : String} {b : Addr} {As rest : List Value} {g : JFrame}
    (S : CallFix p m c cc nL s args Ts own) (hM : Met l y ws rm Pc Qc mc ms free) (cw : vx_CVW R s args own C index y bytes maxL ret hh ws rm mc ms n) (hp : PreV s H C b Pc As)
    (hg : g.method = m) (hn : As.length = n) (hsize : g.locals.size = nL) (hstack : g.stack = As.reverse ++ .ref b :: rest) (hW : 2 * g.monitorRoom + (rest.map fun v => v.category).sum ≤ 8) (hdg : decode cc g.pc = .ok (.invokevirtual index, 3)) (hf : cells + mc ≤ R.cells ∧ slots + ms ≤ R.slots) :
    va_Run p l e R s m args below meth c H locs cells slots mc ms g rest (Qc (Value.ref b :: As).toArray) free := by
  obtain ⟨⟨hrc, hrs, hfr, hlo, hws, hcw⟩, hcode, hini, hy, hlen, hl, hin, hse⟩ := cw
  have hK : Back l R p e below s args y 3 8 (PreOf R mc ms Pc) (PostOf Qc mc ms free) := va_backW (hh := hh) (bytes := bytes) (maxL := maxL) (ret := ret) hM hp.1 hrc hrs hfr hlo hws hcw (fun a' U hW => word_at hW (Or.inl (by first | rfl | simp [Cond.onTables, Cond.keeps, Cond.steady])) hini)
  obtain ⟨hx, hb, hml, ho, -⟩ := S
  obtain ⟨-, ⟨cellB, hcB, hoB, hclB⟩, hPc⟩ := hp
  intro T hT X
  obtain ⟨v, vm₁, ⟨U', l2, c2, s2⟩, hW₁, X', ⟨g', mk, t, L, e1, e2, hq, h1, hL, h2, h3⟩, st⟩ := vx_callVW X hx (C := C) (hh := hh) (bytes := bytes) (maxL := maxL) (ret := ret) ho hl hin hse hcode hy hK (by rw [hT]; exact hcB) hoB hclB hg (hsize.trans hml.symm) (argsL := As) (rest := rest) (fun sig h => hn.trans (hlen sig h)) hstack hW (by rw [hb]; exact hdg)
    (fun vm₁ hW₁ => ⟨hf.1, hf.2, hPc (T.setVm vm₁) hT hW₁⟩)
  dsimp only [Pt.U, Pt.locs, Pt.cells, Pt.slots] at X' e1 e2 h1 h2 h3 st
  subst h1; subst h2; subst h3
  exact ⟨v, (T.setVm vm₁).calling g' mk (Value.ref b :: As).toArray, t, U', L, hT, X', hL, e1, e2, hq, st⟩
section
variable {y : MethodName} {bytes cc : ByteArray} {maxL nL mc ms n index : Nat} {ret : Option FieldType} {ws : List Cond} {rm : Room} {Pc : Array Value → State → Prop} {Qc : Array Value → State → Outcome → State → Prop} {XC : String → State → State → Prop} {free : Addr → Prop} {Ts : List Cond} {own C : String} {b : Addr} {As rest : List Value} {g : JFrame}
theorem vx_runVX {hh : List (Nat × Nat × Nat × Nat)} (S : CallFix p m c cc nL s args Ts own) (hM : vx_Met l y ws rm Pc Qc XC mc ms free) (cw : vx_CVW R s args own C index y bytes maxL ret hh ws rm mc ms n) (hp : PreV s H C b Pc As)
    (hg : g.method = m) (hn : As.length = n) (hsize : g.locals.size = nL) (hstack : g.stack = As.reverse ++ .ref b :: rest) (hW : 2 * g.monitorRoom + (rest.map fun v => v.category).sum ≤ 8) (hdg : decode cc g.pc = .ok (.invokevirtual index, 3)) (hf : cells + mc ≤ R.cells ∧ slots + ms ≤ R.slots) :
    vx_Run p l e R s m args below meth c H locs cells slots mc ms g rest (Qc (Value.ref b :: As).toArray) XC free := by
  obtain ⟨⟨hrc, hrs, hfr, hlo, hws, hcw⟩, hcode, hini, hy, hlen, hl, hin, hse⟩ := cw
  have hK : vx_Back l R p e below s args y 3 8 (PreOf R mc ms Pc) (PostOf Qc mc ms free) (vx_Post XC mc ms free) := vx_backW (hh := hh) (bytes := bytes) (maxL := maxL) (ret := ret) hM hp.1 hrc hrs hfr hlo hws hcw (fun a' U hW => word_at hW (Or.inl (by first | rfl | simp [Cond.onTables, Cond.keeps, Cond.steady])) hini)
  obtain ⟨hx, hb, hml, ho, -⟩ := S
  obtain ⟨-, ⟨cellB, hcB, hoB, hclB⟩, hPc⟩ := hp
  intro T hT X
  rcases vx_callVX X hx (C := C) (hh := hh) (bytes := bytes) (maxL := maxL) (ret := ret) ho hl hin hse hcode hy hK (by rw [hT]; exact hcB) hoB hclB hg (hsize.trans hml.symm) (argsL := As) (rest := rest) (fun sig h => hn.trans (hlen sig h)) hstack hW (by rw [hb]; exact hdg)
    (fun vm₁ hW₁ => ⟨hf.1, hf.2, hPc (T.setVm vm₁) hT hW₁⟩) with ⟨v, vm₁, ⟨U', l2, c2, s2⟩, hW₁, X', ⟨g', mk, t, L, e1, e2, hq, h1, hL, h2, h3⟩, st⟩ | ⟨q, vm₁, ⟨U', l2, c2, s2⟩, hW₁, X', ⟨g', mk, t, L, E, ce, e1, e2, hq, hce, hcv, hcl, h1, hL, h2, h3⟩, st⟩
  · dsimp only [Pt.U, Pt.locs, Pt.cells, Pt.slots] at X' e1 e2 h1 h2 h3 st
    subst h1; subst h2; subst h3
    exact Or.inl ⟨v, (T.setVm vm₁).calling g' mk (Value.ref b :: As).toArray, t, U', L, hT, X', hL, e1, e2, hq, st⟩
  · dsimp only [Pt.U, Pt.locs, Pt.cells, Pt.slots] at X' e1 e2 h1 h2 h3 st hcl
    subst h1; subst h2; subst h3
    exact Or.inr ⟨q, (T.setVm vm₁).calling g' mk (Value.ref b :: As).toArray, t, U', L, E, ce, hT, X', hL, e1, e2, hq, hce, hcv, vx_cls hW₁ hcl, st⟩
theorem vx_runSX {hh : List (Nat × Nat × Nat × Nat)} (S : CallFix p m c cc nL s args Ts own) (hM : vx_Met l y ws rm Pc Qc XC mc ms free) (cw : vx_CSW R s args own index y bytes maxL ret hh ws rm mc ms n) (hp : PreS s H Pc As)
    (hg : g.method = m) (hn : As.length = n) (hsize : g.locals.size = nL) (hstack : g.stack = As.reverse ++ rest) (hW : 2 * g.monitorRoom + (rest.map fun v => v.category).sum ≤ 8) (hdg : decode cc g.pc = .ok (.invokestatic index, 3)) (hf : cells + mc ≤ R.cells ∧ slots + ms ≤ R.slots) :
    vx_Run p l e R s m args below meth c H locs cells slots mc ms g rest (Qc As.toArray) XC free := by
  obtain ⟨⟨hrc, hrs, hfr, hlo, hws, hcw⟩, hcode, hini, hy, hlen, hl, hstt⟩ := cw
  have hK : vx_Back l R p e below s args y 3 8 (PreOf R mc ms Pc) (PostOf Qc mc ms free) (vx_Post XC mc ms free) := vx_backW (hh := hh) (bytes := bytes) (maxL := maxL) (ret := ret) hM hp.1 hrc hrs hfr hlo hws hcw (fun a' U hW => word_at hW (Or.inl (by first | rfl | simp [Cond.onTables, Cond.keeps, Cond.steady])) hini)
  obtain ⟨hx, hb, hml, ho, -⟩ := S
  intro T hT X
  rcases vx_callSX X hx (hh := hh) (bytes := bytes) (maxL := maxL) (ret := ret) ho hl hstt hini hcode hy hK hg (hsize.trans hml.symm) (argsL := As) (rest := rest) (fun sig h => hn.trans (hlen sig h)) hstack hW (by rw [hb]; exact hdg)
    (fun vm₁ hW₁ => ⟨hf.1, hf.2, hp.2 (T.setVm vm₁) hT hW₁⟩) with ⟨v, vm₁, ⟨U', l2, c2, s2⟩, hW₁, X', ⟨g', mk, t, L, e1, e2, hq, h1, hL, h2, h3⟩, st⟩ | ⟨q, vm₁, ⟨U', l2, c2, s2⟩, hW₁, X', ⟨g', mk, t, L, E, ce, e1, e2, hq, hce, hcv, hcl, h1, hL, h2, h3⟩, st⟩
  · dsimp only [Pt.U, Pt.locs, Pt.cells, Pt.slots] at X' e1 e2 h1 h2 h3 st
    subst h1; subst h2; subst h3
    exact Or.inl ⟨v, (T.setVm vm₁).calling g' mk As.toArray, t, U', L, hT, X', hL, e1, e2, hq, st⟩
  · dsimp only [Pt.U, Pt.locs, Pt.cells, Pt.slots] at X' e1 e2 h1 h2 h3 st hcl
    subst h1; subst h2; subst h3
    exact Or.inr ⟨q, (T.setVm vm₁).calling g' mk As.toArray, t, U', L, E, ce, hT, X', hL, e1, e2, hq, hce, hcv, vx_cls hW₁ hcl, st⟩
end
end VXH
theorem vx_ofWH {l : Launch} {y : MethodName} {ws ws' : List Cond} {rm : Room} {Pc : Array Value → State → Prop} {Qc : Array Value → State → Outcome → State → Prop} {XC : String → State → State → Prop} {mc ms : Nat} {free : Addr → Prop} {cc : ByteArray} {maxL : Nat} {ret : Option FieldType} {hh : List (Nat × Nat × Nat × Nat)}
    (hy : plainName y.cls = true) (hw : ws = Cond.codeWith y cc maxL ret hh :: ws')
    (body : ∀ p e s m args below meth c s₁, BodyLoose p l y (headSpec ws rm) cc maxL ret e s m args below meth c s₁ → c.maxLocals = maxL → Pc args s →
      W p l e (headSpec ws rm).room s m args below meth c s.heap [] 0 0 (vx_MQ below Qc XC args s mc ms free) (entryFrame m args maxL)) : vx_Met l y ws rm Pc Qc XC mc ms free := by
  refine MetFree.of_bodyS (code := cc) (maxLocals := maxL) (ret := ret) hy ?_ ?_
  · intro args s m h hn
    obtain ⟨m9, meth, c, hn9, h1, h2, h3, h4, -, h5, h6, -⟩ := Cond.codeWith_spec (atoms_spec (ws := ws) h _ (by rw [hw]; exact List.mem_cons_self))
    cases hn.symm.trans hn9
    exact ⟨meth, c, h1, h2, h3, h4, h5, h6⟩
  · intro p e s m args below meth c s₁ B hml hP _
    have hh0 : s₁.heap = s.heap := by rw [B.state]; rfl
    obtain ⟨t, a1, o, b1, b2, b3⟩ := body p e s m args below meth c s₁ B hml hP s₁ hh0 (Stand.of_body B)
    exact ⟨t, o, a1, b1, b2, b3⟩
/-! ===== END ===== -/
end
section
def RX0 : String := "SealedWire$Curve"
def TX0 : u_T := fun k => match k with
  | 0 => ("SealedWire$Curve", "factor", "[I", true)
  | 1 => ("SealedWire$Curve", "u", "[J", true)
  | 2 => ("SealedWire$Curve", "x2", "[J", true)
  | 3 => ("SealedWire$Curve", "z2", "[J", true)
  | 4 => ("SealedWire$Curve", "x3", "[J", true)
  | 5 => ("SealedWire$Curve", "z3", "[J", true)
  | 6 => ("SealedWire$Curve", "a", "[J", true)
  | 7 => ("SealedWire$Curve", "b", "[J", true)
  | 8 => ("SealedWire$Curve", "c", "[J", true)
  | 9 => ("SealedWire$Curve", "d", "[J", true)
  | 10 => ("SealedWire$Curve", "e", "[J", true)
  | _ => ("SealedWire$Curve", "wide", "[J", true)
def tyX0 : Nat → FieldType := fun k => match k with
  | 0 => .array .int
  | 1 => .array .long
  | 2 => .array .long
  | 3 => .array .long
  | 4 => .array .long
  | 5 => .array .long
  | 6 => .array .long
  | 7 => .array .long
  | 8 => .array .long
  | 9 => .array .long
  | 10 => .array .long
  | _ => .array .long
theorem nmX0 : ∀ a, a < 12 → ∀ b, b < 12 → a ≠ b → (TX0 a).2.1 ≠ (TX0 b).2.1 := by decide +kernel
theorem tyX0_ok : ∀ k, k < 12 → parseFieldDescriptor (TX0 k).2.2.1 = some (tyX0 k) := by decide +kernel
abbrev cX0_init : ByteArray := prog_2_method_1_code
def yX0_init : MethodName := ⟨RX0, "<init>", "()V"⟩
abbrev cX0_times : ByteArray := prog_2_method_2_code
def yX0_times : MethodName := ⟨RX0, "times", "([I[II[I)V"⟩
abbrev cX0_setSmall : ByteArray := prog_2_method_3_code
def yX0_setSmall : MethodName := ⟨RX0, "setSmall", "([JJ)V"⟩
abbrev cX0_step : ByteArray := prog_2_method_4_code
def yX0_step : MethodName := ⟨RX0, "step", "([J[J[J[J)V"⟩
abbrev cX0_invert : ByteArray := prog_2_method_5_code
def yX0_invert : MethodName := ⟨RX0, "invert", "([J[J)V"⟩
abbrev cX0_sum : ByteArray := prog_2_method_6_code
def yX0_sum : MethodName := ⟨RX0, "sum", "([J[J[J)V"⟩
abbrev cX0_difference : ByteArray := prog_2_method_7_code
def yX0_difference : MethodName := ⟨RX0, "difference", "([J[J[J)V"⟩
abbrev cX0_scale : ByteArray := prog_2_method_8_code
def yX0_scale : MethodName := ⟨RX0, "scale", "([J[J)V"⟩
abbrev cX0_product : ByteArray := prog_2_method_9_code
def yX0_product : MethodName := ⟨RX0, "product", "([J[J[J)V"⟩
abbrev cX0_square : ByteArray := prog_2_method_10_code
def yX0_square : MethodName := ⟨RX0, "square", "([J[J)V"⟩
abbrev cX0_fold : ByteArray := prog_2_method_11_code
def yX0_fold : MethodName := ⟨RX0, "fold", "([J)V"⟩
abbrev cX0_settle : ByteArray := prog_2_method_12_code
def yX0_settle : MethodName := ⟨RX0, "settle", "([J)V"⟩
def RX1 : String := "SealedWire$End"
def TX1 : u_T := fun k => match k with
  | 0 => ("SealedWire$End", "secret", "[I", true)
  | 1 => ("SealedWire$End", "cookie", "[I", true)
  | 2 => ("SealedWire$End", "session", "[I", true)
  | 3 => ("SealedWire$End", "got", "LSealedWire$Row;", true)
  | 4 => ("SealedWire$End", "wire", "LSealedWire$Wire;", true)
  | 5 => ("SealedWire$End", "sending", "LSealedWire$Keys;", true)
  | 6 => ("SealedWire$End", "coming", "LSealedWire$Keys;", true)
  | 7 => ("SealedWire$End", "exchange", "LSealedWire$Exchange;", true)
  | 8 => ("SealedWire$End", "lives", "Z", false)
  | 9 => ("SealedWire$End", "hasSession", "Z", false)
  | 10 => ("SealedWire$End", "sent", "I", false)
  | 11 => ("SealedWire$End", "came", "I", false)
  | 12 => ("SealedWire$End", "over", "I", false)
  | _ => ("SealedWire$End", "lastUnknown", "I", false)
def tyX1 : Nat → FieldType := fun k => match k with
  | 0 => .array .int
  | 1 => .array .int
  | 2 => .array .int
  | 3 => .object "SealedWire$Row"
  | 4 => .object "SealedWire$Wire"
  | 5 => .object "SealedWire$Keys"
  | 6 => .object "SealedWire$Keys"
  | 7 => .object "SealedWire$Exchange"
  | 8 => .boolean
  | 9 => .boolean
  | 10 => .int
  | 11 => .int
  | 12 => .int
  | _ => .int
theorem nmX1 : ∀ a, a < 14 → ∀ b, b < 14 → a ≠ b → (TX1 a).2.1 ≠ (TX1 b).2.1 := by decide +kernel
theorem tyX1_ok : ∀ k, k < 14 → parseFieldDescriptor (TX1 k).2.2.1 = some (tyX1 k) := by decide +kernel
abbrev cX1_init : ByteArray := prog_3_method_1_code
def yX1_init : MethodName := ⟨RX1, "<init>", "()V"⟩
abbrev cX1_finishExchange : ByteArray := prog_3_method_2_code
def yX1_finishExchange : MethodName := ⟨RX1, "finishExchange", "()V"⟩
def RX2 : String := "SealedWire$Exchange"
def TX2 : u_T := fun k => match k with
  | 0 => ("SealedWire$Exchange", "ownInit", "[I", true)
  | 1 => ("SealedWire$Exchange", "otherInit", "[I", true)
  | 2 => ("SealedWire$Exchange", "secret", "[I", true)
  | 3 => ("SealedWire$Exchange", "publicRow", "[I", true)
  | 4 => ("SealedWire$Exchange", "nextComing", "LSealedWire$Keys;", true)
  | 5 => ("SealedWire$Exchange", "sentInit", "Z", false)
  | 6 => ("SealedWire$Exchange", "gotInit", "Z", false)
  | 7 => ("SealedWire$Exchange", "requested", "Z", false)
  | 8 => ("SealedWire$Exchange", "replied", "Z", false)
  | _ => ("SealedWire$Exchange", "sentNew", "Z", false)
def tyX2 : Nat → FieldType := fun k => match k with
  | 0 => .array .int
  | 1 => .array .int
  | 2 => .array .int
  | 3 => .array .int
  | 4 => .object "SealedWire$Keys"
  | 5 => .boolean
  | 6 => .boolean
  | 7 => .boolean
  | 8 => .boolean
  | _ => .boolean
theorem nmX2 : ∀ a, a < 10 → ∀ b, b < 10 → a ≠ b → (TX2 a).2.1 ≠ (TX2 b).2.1 := by decide +kernel
theorem tyX2_ok : ∀ k, k < 10 → parseFieldDescriptor (TX2 k).2.2.1 = some (tyX2 k) := by decide +kernel
abbrev cX2_init : ByteArray := prog_4_method_1_code
def yX2_init : MethodName := ⟨RX2, "<init>", "()V"⟩
abbrev cX2_forget : ByteArray := prog_4_method_2_code
def yX2_forget : MethodName := ⟨RX2, "forget", "()V"⟩
def RX3 : String := "SealedWire$Hasher"
def TX3 : u_T := fun k => match k with
  | 0 => ("SealedWire$Hasher", "state", "[I", true)
  | 1 => ("SealedWire$Hasher", "words", "[I", true)
  | _ => ("SealedWire$Hasher", "message", "LSealedWire$Row;", true)
def tyX3 : Nat → FieldType := fun k => match k with
  | 0 => .array .int
  | 1 => .array .int
  | _ => .object "SealedWire$Row"
theorem nmX3 : ∀ a, a < 3 → ∀ b, b < 3 → a ≠ b → (TX3 a).2.1 ≠ (TX3 b).2.1 := by decide +kernel
theorem tyX3_ok : ∀ k, k < 3 → parseFieldDescriptor (TX3 k).2.2.1 = some (tyX3 k) := by decide +kernel
abbrev cX3_init : ByteArray := prog_5_method_1_code
def yX3_init : MethodName := ⟨RX3, "<init>", "()V"⟩
abbrev cX3_start : ByteArray := prog_5_method_2_code
def yX3_start : MethodName := ⟨RX3, "start", "()V"⟩
abbrev cX3_addRow : ByteArray := prog_5_method_3_code
def yX3_addRow : MethodName := ⟨RX3, "addRow", "([III)V"⟩
abbrev cX3_add : ByteArray := prog_5_method_4_code
def yX3_add : MethodName := ⟨RX3, "add", "(I)V"⟩
abbrev cX3_finish : ByteArray := prog_5_method_5_code
def yX3_finish : MethodName := ⟨RX3, "finish", "([I)V"⟩
abbrev cX3_mix : ByteArray := prog_5_method_6_code
def yX3_mix : MethodName := ⟨RX3, "mix", "(I)V"⟩
abbrev cX3_spread : ByteArray := prog_5_method_7_code
def yX3_spread : MethodName := ⟨RX3, "spread", "(I)V"⟩
def RX4 : String := "SealedWire$Keys"
def TX4 : u_T := fun k => match k with
  | 0 => ("SealedWire$Keys", "head", "[I", true)
  | 1 => ("SealedWire$Keys", "body", "[I", true)
  | _ => ("SealedWire$Keys", "made", "Z", false)
def tyX4 : Nat → FieldType := fun k => match k with
  | 0 => .array .int
  | 1 => .array .int
  | _ => .boolean
theorem nmX4 : ∀ a, a < 3 → ∀ b, b < 3 → a ≠ b → (TX4 a).2.1 ≠ (TX4 b).2.1 := by decide +kernel
theorem tyX4_ok : ∀ k, k < 3 → parseFieldDescriptor (TX4 k).2.2.1 = some (tyX4 k) := by decide +kernel
abbrev cX4_init : ByteArray := prog_6_method_1_code
def yX4_init : MethodName := ⟨RX4, "<init>", "()V"⟩
abbrev cX4_copyOf : ByteArray := prog_6_method_2_code
def yX4_copyOf : MethodName := ⟨RX4, "copyOf", "(LSealedWire$Keys;)V"⟩
def RX5 : String := "SealedWire$Limbs"
def TX5 : u_T := fun k => match k with
  | _ => ("", "", "", false)
def tyX5 : Nat → FieldType := fun k => match k with
  | _ => .int
theorem nmX5 : ∀ a, a < 0 → ∀ b, b < 0 → a ≠ b → (TX5 a).2.1 ≠ (TX5 b).2.1 := by decide +kernel
theorem tyX5_ok : ∀ k, k < 0 → parseFieldDescriptor (TX5 k).2.2.1 = some (tyX5 k) := by decide +kernel
abbrev cX5_read : ByteArray := prog_7_method_2_code
def yX5_read : MethodName := ⟨RX5, "read", "([III[J)V"⟩
abbrev cX5_write : ByteArray := prog_7_method_3_code
def yX5_write : MethodName := ⟨RX5, "write", "([J[II)V"⟩
def RX6 : String := "SealedWire$Row"
def TX6 : u_T := fun k => match k with
  | 0 => ("SealedWire$Row", "bytes", "[I", true)
  | _ => ("SealedWire$Row", "size", "I", false)
def tyX6 : Nat → FieldType := fun k => match k with
  | 0 => .array .int
  | _ => .int
theorem nmX6 : ∀ a, a < 2 → ∀ b, b < 2 → a ≠ b → (TX6 a).2.1 ≠ (TX6 b).2.1 := by decide +kernel
theorem tyX6_ok : ∀ k, k < 2 → parseFieldDescriptor (TX6 k).2.2.1 = some (tyX6 k) := by decide +kernel
abbrev cX6_init : ByteArray := prog_8_method_1_code
def yX6_init : MethodName := ⟨RX6, "<init>", "(I)V"⟩
abbrev cX6_clear : ByteArray := prog_8_method_2_code
def yX6_clear : MethodName := ⟨RX6, "clear", "()V"⟩
abbrev cX6_hasRoom : ByteArray := prog_8_method_3_code
def yX6_hasRoom : MethodName := ⟨RX6, "hasRoom", "(I)Z"⟩
abbrev cX6_holds : ByteArray := prog_8_method_4_code
def yX6_holds : MethodName := ⟨RX6, "holds", "(I)Z"⟩
abbrev cX6_put : ByteArray := prog_8_method_5_code
def yX6_put : MethodName := ⟨RX6, "put", "(I)V"⟩
abbrev cX6_putAll : ByteArray := prog_8_method_6_code
def yX6_putAll : MethodName := ⟨RX6, "putAll", "([III)V"⟩
abbrev cX6_putBig : ByteArray := prog_8_method_7_code
def yX6_putBig : MethodName := ⟨RX6, "putBig", "(I)V"⟩
abbrev cX6_bigAt : ByteArray := prog_8_method_8_code
def yX6_bigAt : MethodName := ⟨RX6, "bigAt", "(I)I"⟩
abbrev cX6_differsAt : ByteArray := prog_8_method_9_code
def yX6_differsAt : MethodName := ⟨RX6, "differsAt", "(I[I)Z"⟩
def RX7 : String := "SealedWire$Sealer"
def TX7 : u_T := fun k => match k with
  | 0 => ("SealedWire$Sealer", "streamer", "LSealedWire$Streamer;", true)
  | 1 => ("SealedWire$Sealer", "tagger", "LSealedWire$Tagger;", true)
  | _ => ("SealedWire$Sealer", "plain", "LSealedWire$Row;", true)
def tyX7 : Nat → FieldType := fun k => match k with
  | 0 => .object "SealedWire$Streamer"
  | 1 => .object "SealedWire$Tagger"
  | _ => .object "SealedWire$Row"
theorem nmX7 : ∀ a, a < 3 → ∀ b, b < 3 → a ≠ b → (TX7 a).2.1 ≠ (TX7 b).2.1 := by decide +kernel
theorem tyX7_ok : ∀ k, k < 3 → parseFieldDescriptor (TX7 k).2.2.1 = some (tyX7 k) := by decide +kernel
abbrev cX7_init : ByteArray := prog_9_method_1_code
def yX7_init : MethodName := ⟨RX7, "<init>", "()V"⟩
abbrev cX7_close : ByteArray := prog_9_method_2_code
def yX7_close : MethodName := ⟨RX7, "close", "(LSealedWire$Row;LSealedWire$Keys;ILSealedWire$Row;)V"⟩
abbrev cX7_open : ByteArray := prog_9_method_3_code
def yX7_open : MethodName := ⟨RX7, "open", "(LSealedWire$Row;LSealedWire$Keys;ILSealedWire$Row;)Z"⟩
abbrev cX7_readPlain : ByteArray := prog_9_method_4_code
def yX7_readPlain : MethodName := ⟨RX7, "readPlain", "(ZLSealedWire$Row;)Z"⟩
abbrev cX7_zerosBehind : ByteArray := prog_9_method_5_code
def yX7_zerosBehind : MethodName := ⟨RX7, "zerosBehind", "(IZ)I"⟩
abbrev cX7_hide : ByteArray := prog_9_method_6_code
def yX7_hide : MethodName := ⟨RX7, "hide", "(LSealedWire$Row;LSealedWire$Keys;I)V"⟩
def RX8 : String := "SealedWire$Streamer"
def TX8 : u_T := fun k => match k with
  | 0 => ("SealedWire$Streamer", "bytes", "[I", true)
  | 1 => ("SealedWire$Streamer", "first", "[I", true)
  | _ => ("SealedWire$Streamer", "words", "[I", true)
def tyX8 : Nat → FieldType := fun k => match k with
  | 0 => .array .int
  | 1 => .array .int
  | _ => .array .int
theorem nmX8 : ∀ a, a < 3 → ∀ b, b < 3 → a ≠ b → (TX8 a).2.1 ≠ (TX8 b).2.1 := by decide +kernel
theorem tyX8_ok : ∀ k, k < 3 → parseFieldDescriptor (TX8 k).2.2.1 = some (tyX8 k) := by decide +kernel
abbrev cX8_init : ByteArray := prog_10_method_1_code
def yX8_init : MethodName := ⟨RX8, "<init>", "()V"⟩
abbrev cX8_make : ByteArray := prog_10_method_2_code
def yX8_make : MethodName := ⟨RX8, "make", "([IJI)V"⟩
abbrev cX8_fillFirst : ByteArray := prog_10_method_3_code
def yX8_fillFirst : MethodName := ⟨RX8, "fillFirst", "([IJI)V"⟩
abbrev cX8_quarter : ByteArray := prog_10_method_4_code
def yX8_quarter : MethodName := ⟨RX8, "quarter", "(IIII)V"⟩
def RX9 : String := "SealedWire$Tagger"
def TX9 : u_T := fun k => match k with
  | 0 => ("SealedWire$Tagger", "bytes", "[I", true)
  | 1 => ("SealedWire$Tagger", "piece", "[I", true)
  | 2 => ("SealedWire$Tagger", "\x72", "[J", true)
  | 3 => ("SealedWire$Tagger", "q", "[J", true)
  | _ => ("SealedWire$Tagger", "added", "[J", true)
def tyX9 : Nat → FieldType := fun k => match k with
  | 0 => .array .int
  | 1 => .array .int
  | 2 => .array .long
  | 3 => .array .long
  | _ => .array .long
theorem nmX9 : ∀ a, a < 5 → ∀ b, b < 5 → a ≠ b → (TX9 a).2.1 ≠ (TX9 b).2.1 := by decide +kernel
theorem tyX9_ok : ∀ k, k < 5 → parseFieldDescriptor (TX9 k).2.2.1 = some (tyX9 k) := by decide +kernel
abbrev cX9_init : ByteArray := prog_11_method_1_code
def yX9_init : MethodName := ⟨RX9, "<init>", "()V"⟩
abbrev cX9_make : ByteArray := prog_11_method_2_code
def yX9_make : MethodName := ⟨RX9, "make", "([III[I)V"⟩
abbrev cX9_readFactor : ByteArray := prog_11_method_3_code
def yX9_readFactor : MethodName := ⟨RX9, "readFactor", "([I)V"⟩
abbrev cX9_addPiece : ByteArray := prog_11_method_4_code
def yX9_addPiece : MethodName := ⟨RX9, "addPiece", "([III)V"⟩
abbrev cX9_multiplyByFactor : ByteArray := prog_11_method_5_code
def yX9_multiplyByFactor : MethodName := ⟨RX9, "multiplyByFactor", "()V"⟩
abbrev cX9_carry : ByteArray := prog_11_method_6_code
def yX9_carry : MethodName := ⟨RX9, "carry", "()V"⟩
abbrev cX9_settle : ByteArray := prog_11_method_7_code
def yX9_settle : MethodName := ⟨RX9, "settle", "()V"⟩
def RX10 : String := "SealedWire$Wire"
def TX10 : u_T := fun k => match k with
  | 0 => ("SealedWire$Wire", "rows", "[LSealedWire$Row;", true)
  | 1 => ("SealedWire$Wire", "first", "I", false)
  | _ => ("SealedWire$Wire", "count", "I", false)
def tyX10 : Nat → FieldType := fun k => match k with
  | 0 => .array (.object "SealedWire$Row")
  | 1 => .int
  | _ => .int
theorem nmX10 : ∀ a, a < 3 → ∀ b, b < 3 → a ≠ b → (TX10 a).2.1 ≠ (TX10 b).2.1 := by decide +kernel
theorem tyX10_ok : ∀ k, k < 3 → parseFieldDescriptor (TX10 k).2.2.1 = some (tyX10 k) := by decide +kernel
abbrev cX10_init : ByteArray := prog_12_method_1_code
def yX10_init : MethodName := ⟨RX10, "<init>", "()V"⟩
abbrev cX10_at : ByteArray := prog_12_method_2_code
def yX10_at : MethodName := ⟨RX10, "at", "(I)LSealedWire$Row;"⟩
abbrev cX10_append : ByteArray := prog_12_method_3_code
def yX10_append : MethodName := ⟨RX10, "append", "()LSealedWire$Row;"⟩
abbrev cX10_removeFirst : ByteArray := prog_12_method_4_code
def yX10_removeFirst : MethodName := ⟨RX10, "removeFirst", "()LSealedWire$Row;"⟩
def RX11 : String := "SealedWire"
def TX11 : u_T := fun k => match k with
  | 0 => ("SealedWire", "curve", "LSealedWire$Curve;", true)
  | 1 => ("SealedWire", "hasher", "LSealedWire$Hasher;", true)
  | 2 => ("SealedWire", "sealer", "LSealedWire$Sealer;", true)
  | 3 => ("SealedWire", "client", "LSealedWire$End;", true)
  | 4 => ("SealedWire", "server", "LSealedWire$End;", true)
  | 5 => ("SealedWire", "hostSecret", "[I", true)
  | 6 => ("SealedWire", "trusted", "[I", true)
  | 7 => ("SealedWire", "hostRow", "[I", true)
  | 8 => ("SealedWire", "shared", "[I", true)
  | 9 => ("SealedWire", "agreed", "[I", true)
  | 10 => ("SealedWire", "proof", "[I", true)
  | 11 => ("SealedWire", "lastOut", "LSealedWire$Row;", true)
  | 12 => ("SealedWire", "incoming", "LSealedWire$Row;", true)
  | 13 => ("SealedWire", "outgoing", "LSealedWire$Row;", true)
  | 14 => ("SealedWire", "tape", "LSealedWire$Row;", false)
  | _ => ("SealedWire", "spareTape", "LSealedWire$Row;", false)
def tyX11 : Nat → FieldType := fun k => match k with
  | 0 => .object "SealedWire$Curve"
  | 1 => .object "SealedWire$Hasher"
  | 2 => .object "SealedWire$Sealer"
  | 3 => .object "SealedWire$End"
  | 4 => .object "SealedWire$End"
  | 5 => .array .int
  | 6 => .array .int
  | 7 => .array .int
  | 8 => .array .int
  | 9 => .array .int
  | 10 => .array .int
  | 11 => .object "SealedWire$Row"
  | 12 => .object "SealedWire$Row"
  | 13 => .object "SealedWire$Row"
  | 14 => .object "SealedWire$Row"
  | _ => .object "SealedWire$Row"
theorem nmX11 : ∀ a, a < 16 → ∀ b, b < 16 → a ≠ b → (TX11 a).2.1 ≠ (TX11 b).2.1 := by decide +kernel
theorem tyX11_ok : ∀ k, k < 16 → parseFieldDescriptor (TX11 k).2.2.1 = some (tyX11 k) := by decide +kernel
abbrev cX11_init : ByteArray := prog_1_method_1_code
def yX11_init : MethodName := ⟨RX11, "<init>", "()V"⟩
abbrev cX11_type : ByteArray := prog_1_method_2_code
def yX11_type : MethodName := ⟨RX11, "type", "(JI)Z"⟩
abbrev cX11_set : ByteArray := prog_1_method_3_code
def yX11_set : MethodName := ⟨RX11, "set", "(I)V"⟩
abbrev cX11_multiply : ByteArray := prog_1_method_4_code
def yX11_multiply : MethodName := ⟨RX11, "multiply", "()V"⟩
abbrev cX11_hash : ByteArray := prog_1_method_5_code
def yX11_hash : MethodName := ⟨RX11, "hash", "()V"⟩
abbrev cX11_stream : ByteArray := prog_1_method_6_code
def yX11_stream : MethodName := ⟨RX11, "stream", "(JI)V"⟩
abbrev cX11_tag : ByteArray := prog_1_method_7_code
def yX11_tag : MethodName := ⟨RX11, "tag", "()V"⟩
abbrev cX11_out : ByteArray := prog_1_method_8_code
def yX11_out : MethodName := ⟨RX11, "out", "(I)I"⟩
abbrev cX11_begin : ByteArray := prog_1_method_9_code
def yX11_begin : MethodName := ⟨RX11, "begin", "(I)V"⟩
abbrev cX11_send : ByteArray := prog_1_method_10_code
def yX11_send : MethodName := ⟨RX11, "send", "(I)V"⟩
abbrev cX11_come : ByteArray := prog_1_method_11_code
def yX11_come : MethodName := ⟨RX11, "come", "(I)I"⟩
abbrev cX11_run : ByteArray := prog_1_method_12_code
def yX11_run : MethodName := ⟨RX11, "run", "(I)I"⟩
abbrev cX11_packet : ByteArray := prog_1_method_13_code
def yX11_packet : MethodName := ⟨RX11, "packet", "(III)I"⟩
abbrev cX11_damage : ByteArray := prog_1_method_14_code
def yX11_damage : MethodName := ⟨RX11, "damage", "(IIII)V"⟩
abbrev cX11_got : ByteArray := prog_1_method_15_code
def yX11_got : MethodName := ⟨RX11, "got", "(II)I"⟩
abbrev cX11_about : ByteArray := prog_1_method_16_code
def yX11_about : MethodName := ⟨RX11, "about", "(II)I"⟩
abbrev cX11_session : ByteArray := prog_1_method_17_code
def yX11_session : MethodName := ⟨RX11, "session", "(II)I"⟩
abbrev cX11_takeTape : ByteArray := prog_1_method_18_code
def yX11_takeTape : MethodName := ⟨RX11, "takeTape", "()LSealedWire$Row;"⟩
abbrev cX11_settable : ByteArray := prog_1_method_19_code
def yX11_settable : MethodName := ⟨RX11, "settable", "(I)[I"⟩
abbrev cX11_endOf : ByteArray := prog_1_method_20_code
def yX11_endOf : MethodName := ⟨RX11, "endOf", "(I)LSealedWire$End;"⟩
abbrev cX11_packetOf : ByteArray := prog_1_method_21_code
def yX11_packetOf : MethodName := ⟨RX11, "packetOf", "(LSealedWire$End;I)LSealedWire$Row;"⟩
abbrev cX11_byteOf : ByteArray := prog_1_method_22_code
def yX11_byteOf : MethodName := ⟨RX11, "byteOf", "(LSealedWire$Row;I)I"⟩
abbrev cX11_maySend : ByteArray := prog_1_method_23_code
def yX11_maySend : MethodName := ⟨RX11, "maySend", "(LSealedWire$End;I)Z"⟩
abbrev cX11_emit : ByteArray := prog_1_method_24_code
def yX11_emit : MethodName := ⟨RX11, "emit", "(LSealedWire$End;)V"⟩
abbrev cX11_writeSingle : ByteArray := prog_1_method_25_code
def yX11_writeSingle : MethodName := ⟨RX11, "writeSingle", "(I)V"⟩
abbrev cX11_giveUp : ByteArray := prog_1_method_26_code
def yX11_giveUp : MethodName := ⟨RX11, "giveUp", "(LSealedWire$End;)V"⟩
abbrev cX11_deliver : ByteArray := prog_1_method_27_code
def yX11_deliver : MethodName := ⟨RX11, "deliver", "(LSealedWire$End;)I"⟩
abbrev cX11_isInPlace : ByteArray := prog_1_method_28_code
def yX11_isInPlace : MethodName := ⟨RX11, "isInPlace", "(LSealedWire$End;I)Z"⟩
abbrev cX11_answerUnknown : ByteArray := prog_1_method_29_code
def yX11_answerUnknown : MethodName := ⟨RX11, "answerUnknown", "(LSealedWire$End;I)V"⟩
abbrev cX11_writeInit : ByteArray := prog_1_method_30_code
def yX11_writeInit : MethodName := ⟨RX11, "writeInit", "(LSealedWire$End;)V"⟩
abbrev cX11_onInit : ByteArray := prog_1_method_31_code
def yX11_onInit : MethodName := ⟨RX11, "onInit", "(LSealedWire$End;)V"⟩
abbrev cX11_takeSecret : ByteArray := prog_1_method_32_code
def yX11_takeSecret : MethodName := ⟨RX11, "takeSecret", "(LSealedWire$End;)V"⟩
abbrev cX11_onRequest : ByteArray := prog_1_method_33_code
def yX11_onRequest : MethodName := ⟨RX11, "onRequest", "()V"⟩
abbrev cX11_acceptReply : ByteArray := prog_1_method_34_code
def yX11_acceptReply : MethodName := ⟨RX11, "acceptReply", "()Z"⟩
abbrev cX11_startAgreement : ByteArray := prog_1_method_35_code
def yX11_startAgreement : MethodName := ⟨RX11, "startAgreement", "([I[I[II)V"⟩
abbrev cX11_finishAgreement : ByteArray := prog_1_method_36_code
def yX11_finishAgreement : MethodName := ⟨RX11, "finishAgreement", "()V"⟩
abbrev cX11_makeProof : ByteArray := prog_1_method_37_code
def yX11_makeProof : MethodName := ⟨RX11, "makeProof", "()V"⟩
abbrev cX11_turnToNewKeys : ByteArray := prog_1_method_38_code
def yX11_turnToNewKeys : MethodName := ⟨RX11, "turnToNewKeys", "(LSealedWire$End;II)V"⟩
abbrev cX11_makeKey : ByteArray := prog_1_method_39_code
def yX11_makeKey : MethodName := ⟨RX11, "makeKey", "([II[I)V"⟩
def RX12 : String := "SealedWireModel"
def TX12 : u_T := fun k => match k with
  | 0 => ("SealedWireModel", "thrown", "I", false)
  | 1 => ("SealedWireModel", "taped", "I", false)
  | 2 => ("SealedWireModel", "tape", "[B", true)
  | 3 => ("SealedWireModel", "outSize", "I", false)
  | 4 => ("SealedWireModel", "out", "[B", true)
  | 5 => ("SealedWireModel", "digits", "[J", true)
  | 6 => ("SealedWireModel", "product", "[J", true)
  | 7 => ("SealedWireModel", "squareRoots", "[I", true)
  | 8 => ("SealedWireModel", "cubeRoots", "[I", true)
  | 9 => ("SealedWireModel", "words", "[I", true)
  | 10 => ("SealedWireModel", "hash", "[I", true)
  | 11 => ("SealedWireModel", "hashSize", "I", false)
  | 12 => ("SealedWireModel", "hashRow", "[B", true)
  | 13 => ("SealedWireModel", "first", "[I", true)
  | 14 => ("SealedWireModel", "state", "[I", true)
  | 15 => ("SealedWireModel", "streamed", "[B", true)
  | 16 => ("SealedWireModel", "q", "[J", true)
  | 17 => ("SealedWireModel", "\x72", "[J", true)
  | 18 => ("SealedWireModel", "wide", "[J", true)
  | 19 => ("SealedWireModel", "sealed", "[B", true)
  | 20 => ("SealedWireModel", "rows", "[B", true)
  | 21 => ("SealedWireModel", "cookies", "[B", true)
  | 22 => ("SealedWireModel", "inits", "[B", true)
  | 23 => ("SealedWireModel", "keys", "[B", true)
  | 24 => ("SealedWireModel", "nextKeys", "[B", true)
  | 25 => ("SealedWireModel", "seals", "[Z", true)
  | 26 => ("SealedWireModel", "opens", "[Z", true)
  | 27 => ("SealedWireModel", "ended", "[Z", true)
  | 28 => ("SealedWireModel", "sent", "[I", true)
  | 29 => ("SealedWireModel", "came", "[I", true)
  | 30 => ("SealedWireModel", "sentInit", "[Z", true)
  | 31 => ("SealedWireModel", "gotInit", "[Z", true)
  | 32 => ("SealedWireModel", "asked", "[Z", true)
  | 33 => ("SealedWireModel", "sentNew", "[Z", true)
  | 34 => ("SealedWireModel", "exchanges", "[I", true)
  | 35 => ("SealedWireModel", "hasSession", "[Z", true)
  | 36 => ("SealedWireModel", "unknown", "[I", true)
  | 37 => ("SealedWireModel", "gotSize", "[I", true)
  | 38 => ("SealedWireModel", "got", "[B", true)
  | 39 => ("SealedWireModel", "packets", "[I", true)
  | 40 => ("SealedWireModel", "packetSize", "[I", true)
  | 41 => ("SealedWireModel", "wire", "[B", true)
  | 42 => ("SealedWireModel", "payloadSize", "I", false)
  | 43 => ("SealedWireModel", "payload", "[B", true)
  | 44 => ("SealedWireModel", "readSize", "I", false)
  | 45 => ("SealedWireModel", "read", "[B", true)
  | 46 => ("SealedWireModel", "open", "[B", true)
  | 47 => ("SealedWireModel", "power", "[J", true)
  | _ => ("SealedWireModel", "base", "[J", true)
def tyX12 : Nat → FieldType := fun k => match k with
  | 0 => .int
  | 1 => .int
  | 2 => .array .byte
  | 3 => .int
  | 4 => .array .byte
  | 5 => .array .long
  | 6 => .array .long
  | 7 => .array .int
  | 8 => .array .int
  | 9 => .array .int
  | 10 => .array .int
  | 11 => .int
  | 12 => .array .byte
  | 13 => .array .int
  | 14 => .array .int
  | 15 => .array .byte
  | 16 => .array .long
  | 17 => .array .long
  | 18 => .array .long
  | 19 => .array .byte
  | 20 => .array .byte
  | 21 => .array .byte
  | 22 => .array .byte
  | 23 => .array .byte
  | 24 => .array .byte
  | 25 => .array .boolean
  | 26 => .array .boolean
  | 27 => .array .boolean
  | 28 => .array .int
  | 29 => .array .int
  | 30 => .array .boolean
  | 31 => .array .boolean
  | 32 => .array .boolean
  | 33 => .array .boolean
  | 34 => .array .int
  | 35 => .array .boolean
  | 36 => .array .int
  | 37 => .array .int
  | 38 => .array .byte
  | 39 => .array .int
  | 40 => .array .int
  | 41 => .array .byte
  | 42 => .int
  | 43 => .array .byte
  | 44 => .int
  | 45 => .array .byte
  | 46 => .array .byte
  | 47 => .array .long
  | _ => .array .long
theorem nmX12 : ∀ a, a < 49 → ∀ b, b < 49 → a ≠ b → (TX12 a).2.1 ≠ (TX12 b).2.1 := by decide +kernel
theorem tyX12_ok : ∀ k, k < 49 → parseFieldDescriptor (TX12 k).2.2.1 = some (tyX12 k) := by decide +kernel
abbrev cX12_init : ByteArray := prog_14_method_1_code
def yX12_init : MethodName := ⟨RX12, "<init>", "()V"⟩
abbrev cX12_thrown : ByteArray := prog_14_method_2_code
def yX12_thrown : MethodName := ⟨RX12, "thrown", "()I"⟩
abbrev cX12_row : ByteArray := prog_14_method_3_code
def yX12_row : MethodName := ⟨RX12, "row", "(I)I"⟩
abbrev cX12_isRoot : ByteArray := prog_14_method_4_code
def yX12_isRoot : MethodName := ⟨RX12, "isRoot", "(JII)Z"⟩
abbrev cX12_rootOf : ByteArray := prog_14_method_5_code
def yX12_rootOf : MethodName := ⟨RX12, "rootOf", "(II)I"⟩
abbrev cX12_putSmall : ByteArray := prog_14_method_6_code
def yX12_putSmall : MethodName := ⟨RX12, "putSmall", "(II)V"⟩
abbrev cX12_copy : ByteArray := prog_14_method_7_code
def yX12_copy : MethodName := ⟨RX12, "copy", "(II)V"⟩
abbrev cX12_carry : ByteArray := prog_14_method_8_code
def yX12_carry : MethodName := ⟨RX12, "carry", "(I)V"⟩
abbrev cX12_add : ByteArray := prog_14_method_9_code
def yX12_add : MethodName := ⟨RX12, "add", "(III)V"⟩
abbrev cX12_subtract : ByteArray := prog_14_method_10_code
def yX12_subtract : MethodName := ⟨RX12, "subtract", "(III)V"⟩
abbrev cX12_times : ByteArray := prog_14_method_11_code
def yX12_times : MethodName := ⟨RX12, "times", "(III)V"⟩
abbrev cX12_bitOf : ByteArray := prog_14_method_12_code
def yX12_bitOf : MethodName := ⟨RX12, "bitOf", "([BII)I"⟩
abbrev cX12_pointTimes : ByteArray := prog_14_method_13_code
def yX12_pointTimes : MethodName := ⟨RX12, "pointTimes", "([BI[BI[BI)V"⟩
abbrev cX12_turnRound : ByteArray := prog_14_method_14_code
def yX12_turnRound : MethodName := ⟨RX12, "turnRound", "(Z)V"⟩
abbrev cX12_settle : ByteArray := prog_14_method_15_code
def yX12_settle : MethodName := ⟨RX12, "settle", "(I)V"⟩
abbrev cX12_hashBegin : ByteArray := prog_14_method_16_code
def yX12_hashBegin : MethodName := ⟨RX12, "hashBegin", "()V"⟩
abbrev cX12_hashAdd : ByteArray := prog_14_method_17_code
def yX12_hashAdd : MethodName := ⟨RX12, "hashAdd", "([BII)V"⟩
abbrev cX12_right : ByteArray := prog_14_method_18_code
def yX12_right : MethodName := ⟨RX12, "right", "(II)I"⟩
abbrev cX12_left : ByteArray := prog_14_method_19_code
def yX12_left : MethodName := ⟨RX12, "left", "(II)I"⟩
abbrev cX12_hashBlock : ByteArray := prog_14_method_20_code
def yX12_hashBlock : MethodName := ⟨RX12, "hashBlock", "(I)V"⟩
abbrev cX12_hashEnd : ByteArray := prog_14_method_21_code
def yX12_hashEnd : MethodName := ⟨RX12, "hashEnd", "([BI)V"⟩
abbrev cX12_quarter : ByteArray := prog_14_method_22_code
def yX12_quarter : MethodName := ⟨RX12, "quarter", "(IIII)V"⟩
abbrev cX12_little : ByteArray := prog_14_method_23_code
def yX12_little : MethodName := ⟨RX12, "little", "([BI)I"⟩
abbrev cX12_turned : ByteArray := prog_14_method_24_code
def yX12_turned : MethodName := ⟨RX12, "turned", "(I)I"⟩
abbrev cX12_makeStream : ByteArray := prog_14_method_25_code
def yX12_makeStream : MethodName := ⟨RX12, "makeStream", "([BIJI)V"⟩
abbrev cX12_hide : ByteArray := prog_14_method_26_code
def yX12_hide : MethodName := ⟨RX12, "hide", "([BIIIJI)V"⟩
abbrev cX12_tagCarry : ByteArray := prog_14_method_27_code
def yX12_tagCarry : MethodName := ⟨RX12, "tagCarry", "()V"⟩
abbrev cX12_tagTimes : ByteArray := prog_14_method_28_code
def yX12_tagTimes : MethodName := ⟨RX12, "tagTimes", "()V"⟩
abbrev cX12_counts : ByteArray := prog_14_method_29_code
def yX12_counts : MethodName := ⟨RX12, "counts", "(I)Z"⟩
abbrev cX12_seal : ByteArray := prog_14_method_30_code
def yX12_seal : MethodName := ⟨RX12, "seal", "([BII[BI)V"⟩
abbrev cX12_type : ByteArray := prog_14_method_31_code
def yX12_type : MethodName := ⟨RX12, "type", "(JI)Z"⟩
abbrev cX12_taken : ByteArray := prog_14_method_32_code
def yX12_taken : MethodName := ⟨RX12, "taken", "()I"⟩
abbrev cX12_tell : ByteArray := prog_14_method_33_code
def yX12_tell : MethodName := ⟨RX12, "tell", "([BII)V"⟩
abbrev cX12_set : ByteArray := prog_14_method_34_code
def yX12_set : MethodName := ⟨RX12, "set", "(I)V"⟩
abbrev cX12_multiply : ByteArray := prog_14_method_35_code
def yX12_multiply : MethodName := ⟨RX12, "multiply", "()V"⟩
abbrev cX12_hash : ByteArray := prog_14_method_36_code
def yX12_hash : MethodName := ⟨RX12, "hash", "()V"⟩
abbrev cX12_stream : ByteArray := prog_14_method_37_code
def yX12_stream : MethodName := ⟨RX12, "stream", "(JI)V"⟩
abbrev cX12_tag : ByteArray := prog_14_method_38_code
def yX12_tag : MethodName := ⟨RX12, "tag", "()V"⟩
abbrev cX12_out : ByteArray := prog_14_method_39_code
def yX12_out : MethodName := ⟨RX12, "out", "(I)I"⟩
abbrev cX12_zerosOf : ByteArray := prog_14_method_40_code
def yX12_zerosOf : MethodName := ⟨RX12, "zerosOf", "(IZ)I"⟩
abbrev cX12_sealPacket : ByteArray := prog_14_method_41_code
def yX12_sealPacket : MethodName := ⟨RX12, "sealPacket", "([BIIIJ)V"⟩
abbrev cX12_post : ByteArray := prog_14_method_42_code
def yX12_post : MethodName := ⟨RX12, "post", "(I)V"⟩
abbrev cX12_say : ByteArray := prog_14_method_43_code
def yX12_say : MethodName := ⟨RX12, "say", "(I)V"⟩
abbrev cX12_sayRow : ByteArray := prog_14_method_44_code
def yX12_sayRow : MethodName := ⟨RX12, "sayRow", "([BII)V"⟩
abbrev cX12_postOne : ByteArray := prog_14_method_45_code
def yX12_postOne : MethodName := ⟨RX12, "postOne", "(II)V"⟩
abbrev cX12_giveUp : ByteArray := prog_14_method_46_code
def yX12_giveUp : MethodName := ⟨RX12, "giveUp", "(I)V"⟩
abbrev cX12_unpack : ByteArray := prog_14_method_47_code
def yX12_unpack : MethodName := ⟨RX12, "unpack", "(I)Z"⟩
abbrev cX12_dropFirst : ByteArray := prog_14_method_48_code
def yX12_dropFirst : MethodName := ⟨RX12, "dropFirst", "(I)V"⟩
abbrev cX12_postInit : ByteArray := prog_14_method_49_code
def yX12_postInit : MethodName := ⟨RX12, "postInit", "(I)V"⟩
abbrev cX12_takeSecret : ByteArray := prog_14_method_50_code
def yX12_takeSecret : MethodName := ⟨RX12, "takeSecret", "(I)V"⟩
abbrev cX12_digest : ByteArray := prog_14_method_51_code
def yX12_digest : MethodName := ⟨RX12, "digest", "(III)V"⟩
abbrev cX12_makeKeys : ByteArray := prog_14_method_52_code
def yX12_makeKeys : MethodName := ⟨RX12, "makeKeys", "(I)V"⟩
abbrev cX12_postNew : ByteArray := prog_14_method_53_code
def yX12_postNew : MethodName := ⟨RX12, "postNew", "(I)V"⟩
abbrev cX12_answer : ByteArray := prog_14_method_54_code
def yX12_answer : MethodName := ⟨RX12, "answer", "()V"⟩
abbrev cX12_isProved : ByteArray := prog_14_method_55_code
def yX12_isProved : MethodName := ⟨RX12, "isProved", "()Z"⟩
abbrev cX12_placed : ByteArray := prog_14_method_56_code
def yX12_placed : MethodName := ⟨RX12, "placed", "(II)Z"⟩
abbrev cX12_initComes : ByteArray := prog_14_method_57_code
def yX12_initComes : MethodName := ⟨RX12, "initComes", "(I)Z"⟩
abbrev cX12_replyComes : ByteArray := prog_14_method_58_code
def yX12_replyComes : MethodName := ⟨RX12, "replyComes", "(I)Z"⟩
abbrev cX12_newComes : ByteArray := prog_14_method_59_code
def yX12_newComes : MethodName := ⟨RX12, "newComes", "(I)Z"⟩
abbrev cX12_dataComes : ByteArray := prog_14_method_60_code
def yX12_dataComes : MethodName := ⟨RX12, "dataComes", "(I)Z"⟩
abbrev cX12_hasPlace : ByteArray := prog_14_method_61_code
def yX12_hasPlace : MethodName := ⟨RX12, "hasPlace", "(I)Z"⟩
abbrev cX12_comes : ByteArray := prog_14_method_62_code
def yX12_comes : MethodName := ⟨RX12, "comes", "(I)I"⟩
abbrev cX12_come : ByteArray := prog_14_method_63_code
def yX12_come : MethodName := ⟨RX12, "come", "(I)I"⟩
abbrev cX12_run : ByteArray := prog_14_method_64_code
def yX12_run : MethodName := ⟨RX12, "run", "(I)I"⟩
abbrev cX12_begin : ByteArray := prog_14_method_65_code
def yX12_begin : MethodName := ⟨RX12, "begin", "(I)V"⟩
abbrev cX12_send : ByteArray := prog_14_method_66_code
def yX12_send : MethodName := ⟨RX12, "send", "(I)V"⟩
abbrev cX12_isPacket : ByteArray := prog_14_method_67_code
def yX12_isPacket : MethodName := ⟨RX12, "isPacket", "(II)Z"⟩
abbrev cX12_packet : ByteArray := prog_14_method_68_code
def yX12_packet : MethodName := ⟨RX12, "packet", "(III)I"⟩
abbrev cX12_damage : ByteArray := prog_14_method_69_code
def yX12_damage : MethodName := ⟨RX12, "damage", "(IIII)V"⟩
abbrev cX12_got : ByteArray := prog_14_method_70_code
def yX12_got : MethodName := ⟨RX12, "got", "(II)I"⟩
abbrev cX12_about : ByteArray := prog_14_method_71_code
def yX12_about : MethodName := ⟨RX12, "about", "(II)I"⟩
abbrev cX12_session : ByteArray := prog_14_method_72_code
def yX12_session : MethodName := ⟨RX12, "session", "(II)I"⟩
def RJ9 : String := "java/lang/Math"
abbrev cJ9_min_7cf53 : ByteArray := prog_20_method_69_code
def yJ9_min_7cf53 : MethodName := ⟨RJ9, "min", "(II)I"⟩
def RJ10 : String := "java/lang/System"
def RJ7 : String := "java/util/Arrays"
abbrev cJ7_fill_d0a16 : ByteArray := prog_24_method_101_code
def yJ7_fill_d0a16 : MethodName := ⟨RJ7, "fill", "([JJ)V"⟩
abbrev cJ7_fill_53178 : ByteArray := prog_24_method_103_code
def yJ7_fill_53178 : MethodName := ⟨RJ7, "fill", "([II)V"⟩
def RL : String := "SealedWireLaw"
abbrev cL_set : ByteArray := method_3_code
def yL_set : MethodName := ⟨RL, "set", "(LSealedWire;I)I"⟩
abbrev cL_multiply : ByteArray := method_4_code
def yL_multiply : MethodName := ⟨RL, "multiply", "(LSealedWire;)I"⟩
abbrev cL_stream : ByteArray := method_5_code
def yL_stream : MethodName := ⟨RL, "stream", "(LSealedWire;JI)I"⟩
abbrev cL_tag : ByteArray := method_6_code
def yL_tag : MethodName := ⟨RL, "tag", "(LSealedWire;)I"⟩
abbrev cL_out : ByteArray := method_7_code
def yL_out : MethodName := ⟨RL, "out", "(LSealedWire;I[J)I"⟩
abbrev cL_begin : ByteArray := method_8_code
def yL_begin : MethodName := ⟨RL, "begin", "(LSealedWire;I)I"⟩
abbrev cL_send : ByteArray := method_9_code
def yL_send : MethodName := ⟨RL, "send", "(LSealedWire;I)I"⟩
abbrev cL_come : ByteArray := method_10_code
def yL_come : MethodName := ⟨RL, "come", "(LSealedWire;I[J)I"⟩
abbrev cL_run : ByteArray := method_11_code
def yL_run : MethodName := ⟨RL, "run", "(LSealedWire;I[J)I"⟩
abbrev cL_packet : ByteArray := method_12_code
def yL_packet : MethodName := ⟨RL, "packet", "(LSealedWire;III[J)I"⟩
abbrev cL_damage : ByteArray := method_13_code
def yL_damage : MethodName := ⟨RL, "damage", "(LSealedWire;IIII)I"⟩
abbrev cL_got : ByteArray := method_14_code
def yL_got : MethodName := ⟨RL, "got", "(LSealedWire;II[J)I"⟩
abbrev cL_about : ByteArray := method_15_code
def yL_about : MethodName := ⟨RL, "about", "(LSealedWire;II[J)I"⟩
abbrev cL_session : ByteArray := method_16_code
def yL_session : MethodName := ⟨RL, "session", "(LSealedWire;II[J)I"⟩
abbrev cL_law : ByteArray := code
def yL_law : MethodName := ⟨RL, "law", "([I)Z"⟩
abbrev vwCl : List vw_C := [(RX0, TX0, 12), (RX1, TX1, 14), (RX2, TX2, 10), (RX3, TX3, 3), (RX4, TX4, 3), (RX6, TX6, 2), (RX7, TX7, 3), (RX8, TX8, 3), (RX9, TX9, 5), (RX10, TX10, 3), (RX11, TX11, 16), (RX12, TX12, 49)]
end
section
/-! THE CLEAN MACHINE: a heap of numbered cells, locals by a function, a judgement V of one activation, a judgement C of a call. -/
abbrev kE : Type := (Nat × vp_A) ⊕ (Nat × List Value)
abbrev kG : Type := (Nat → Option kE) × Option Nat
abbrev kLo : Type := Nat → Option Value
abbrev kM : Type := Nat × MethodName × ByteArray × Nat × Option FieldType × List (Nat × Instr × Nat × Nat) × Nat × Nat
abbrev kK : Type := Launch × va_G × Nat × (Nat → Nat) × (Nat → Nat) × (Nat → Option (Nat × (Nat → Int32)))
abbrev kO : Type := Option Value ⊕ String
abbrev mcn (M : kM) : Nat := M.1
abbrev my (M : kM) : MethodName := M.2.1
abbrev mby (M : kM) : ByteArray := M.2.2.1
abbrev mxl (M : kM) : Nat := M.2.2.2.1
abbrev mrt (M : kM) : Option FieldType := M.2.2.2.2.1
abbrev mco (M : kM) : List (Nat × Instr × Nat × Nat) := M.2.2.2.2.2.1
abbrev mfr (M : kM) : Nat := M.2.2.2.2.2.2.1
abbrev mlo (M : kM) : Nat := M.2.2.2.2.2.2.2
abbrev kl (K : kK) : Launch := K.1
abbrev kD (K : kK) : va_G := K.2.1
abbrev kb (K : kK) : Nat := K.2.2.1
abbrev ksd (K : kK) : Nat → Nat := K.2.2.2.1
abbrev ktc (K : kK) : Nat → Nat := K.2.2.2.2.1
abbrev kSX (K : kK) : Nat → Option (Nat × (Nat → Int32)) := K.2.2.2.2.2
/-- a cell's address: the cells that the run makes lie one behind the other; from a million on stand rows that were there before -/
def kad (K : kK) (k : Nat) : Nat := if k < 1000000 then kb K + k else ksd K (k - 1000000)
def ksh (K : kK) : Value → Value
  | .ref k => .ref (kad K k)
  | v => v
def kshE (K : kK) : kE → va_E
  | .inl (t, n, .inr (.inr (.inr (.inr f)))) => .inl (ktc K t, n, .inr (.inr (.inr (.inr (fun j => (f j).map (kad K))))))
  | .inl (t, a) => .inl (ktc K t, a)
  | .inr (ci, fs) => .inr (ci, fs.map (ksh K))
def kA (K : kK) : Nat → Prop := fun q => kb K ≤ q
def ktys (K : kK) : List (ClassId × FieldType) := [(ktc K 0, .int), (ktc K 1, .byte), (ktc K 2, .long), (ktc K 3, .boolean), (ktc K 4, .object RX6)]
/-- the static rows that the class reads -/
def kst : Nat → Option (String × String × String)
  | 0 => some (RX11, "NINE", "[I")
  | 1 => some (RX3, "FIRST", "[I")
  | 2 => some (RX3, "ROUND", "[I")
  | 3 => some (RX8, "QUARTERS", "[I")
  | _ => none
def kU : List Cond := lw_tbl.filter goodWord
/-- constructors of nest mates: class, place, method -/
def kNs : List (String × Nat × MethodName) := [("SealedWire", 9, (⟨"SealedWire$Curve", "<init>", "()V"⟩ : MethodName)), ("SealedWire", 18, (⟨"SealedWire$Hasher", "<init>", "()V"⟩ : MethodName)), ("SealedWire", 25, (⟨"SealedWire$Sealer", "<init>", "()V"⟩ : MethodName)), ("SealedWire$Sealer", 11, (⟨"SealedWire$Streamer", "<init>", "()V"⟩ : MethodName)), ("SealedWire$Sealer", 20, (⟨"SealedWire$Tagger", "<init>", "()V"⟩ : MethodName)), ("SealedWire", 32, (⟨"SealedWire$End", "<init>", "()V"⟩ : MethodName)), ("SealedWire$End", 39, (⟨"SealedWire$Keys", "<init>", "()V"⟩ : MethodName)), ("SealedWire$End", 49, (⟨"SealedWire$Exchange", "<init>", "()V"⟩ : MethodName)), ("SealedWire$Exchange", 26, (⟨"SealedWire$Keys", "<init>", "()V"⟩ : MethodName))]
def kX4 : List String := ["java/lang/IllegalArgumentException", "java/lang/IllegalStateException", "java/lang/IndexOutOfBoundsException", "java/util/NoSuchElementException"]
def kDc : List MethodName := [⟨"java/lang/RuntimeException", "<init>", "()V"⟩, ⟨"java/lang/Exception", "<init>", "()V"⟩, ⟨"java/lang/Throwable", "<init>", "()V"⟩]
def kNn (U : State) : Prop := (∀ q ∈ kNs, va_Nw (.methodLinkNest q.1 q.2.1 q.2.2 RX11) U) ∧ va_AO RX6 U ∧ (∀ y ∈ kDc, va_Nw (.declares y) U) ∧ (∀ E ∈ kX4, va_Nw (.castable E E) U) ∧ ∀ E ∈ kX4, ∀ F ∈ kX4, E ≠ F → va_Nc E F U
theorem kNn.warm {s U : State} (hW : s.WarmedH U.vm) (h : kNn s) : kNn U :=
  ⟨fun q hq => va_Nw.warmM hW (h.1 q hq), h.2.1.moved hW.alike, fun y hy => va_Nw.warmD hW (h.2.2.1 y hy), fun E hE => va_Nw.warmC hW (h.2.2.2.1 E hE), fun E hE F hF hne => (h.2.2.2.2 E hE F hF hne).moved hW.alike⟩
def kW (K : kK) (U : State) : Prop :=
  (kl K).stackTraces = false ∧ va_K (kD K) vwCl (ktys K) U ∧ (∀ j L xs, kSX K j = some (L, xs) → ksd K j < kb K ∧ va_X (ksd K j) L xs U U.heap) ∧
  (∀ j C n d, kst j = some (C, n, d) → va_Z C n d (.ref (ksd K j)) (kA K) U U.heap) ∧
  (vx_Zq Bundle.tN "UNASSIGNED_STACK" Bundle.steD (kA K) U U.heap ∧ vx_Zq Bundle.tN "SUPPRESSED_SENTINEL" Bundle.listD (kA K) U U.heap) ∧
  kb K ≤ U.heap.size ∧ kNn U
def kH (K : kK) (G : kG) (H : Heap) : Prop :=
  (∀ k e, G.1 k = some e → k < 1000000 ∧ va_at (kD K) vwCl (kad K k, kshE K e) H) ∧ ∀ nx, G.2 = some nx → H.size = kb K + nx ∧ nx < 900000
def kLc (K : kK) (lc : kLo) (nL : Nat) (ls : Array Slot) : Prop := ls.size = nL ∧ lv_wf ls ∧ ∀ i v, lc i = some v → ls[i]? = some (.val (ksh K v))
def hup (G : kG) (k : Nat) (e : kE) : kG := (fun j => if j = k then some e else G.1 j, G.2)
/-- a value of one word, of two words, is put into the locals -/
def ls1 (lc : kLo) (i : Nat) (v : Value) : kLo := fun j => if j = i then some v else if j + 1 = i then (match lc j with | some w => if w.category = 2 then none else some w | none => none) else lc j
def ls2 (lc : kLo) (i : Nat) (v : Value) : kLo := fun j => if j = i then some v else if j = i + 1 then none else if j + 1 = i then (match lc j with | some w => if w.category = 2 then none else some w | none => none) else lc j
def kla (As : List Value) : kLo := fun i => ((lv_args 0 As).find? (fun q => Nat.beq q.1 i)).map (fun q => q.2)
def kf (M : kM) (pc : Nat) : Option (Instr × Nat × Nat) := ((mco M).find? (fun q => Nat.beq q.1 pc)).map (fun q => q.2)
def klen : Instr → Nat
  | .aload _ | .astore _ | .iload _ | .istore _ | .lload _ | .lstore _ | .bipush _ | .ldc _ | .newarray _ => 2
  | .anewarray _ | .getfield _ | .getstatic _ | .goto _ | .if_acmp _ _ | .if_icmp _ _ | .ifCond _ _ | .ifnonnull _ | .ifnull _ | .iinc _ _ | .invokespecial _ | .invokestatic _ | .invokevirtual _ | .ldc2_w _ | .new _ | .putfield _ | .sipush _ => 3
  | _ => 1
def koff : Instr → Option Int
  | .goto o | .if_acmp _ o | .if_icmp _ o | .ifCond _ o => some o
  | _ => none
def kisw : Instr → Bool
  | .lookupswitch _ _ | .tableswitch _ _ _ _ => true
  | _ => false
def kck1 (b : ByteArray) (q : Nat × Instr × Nat × Nat) : Bool :=
  (if kisw q.2.1 then decide (decode b q.1 = .ok (q.2.1, q.2.2.1 - q.1)) else decide (decode b q.1 = .ok (q.2.1, klen q.2.1)) && Nat.beq q.2.2.1 (q.1 + klen q.2.1)) &&
  (match koff q.2.1 with | some o => decide ((q.1 : Int) + o = (q.2.2.2 : Int)) | none => true)
def kchk (M : kM) : Bool := (mco M).all (kck1 (mby M))
def kOK (M : kM) : Prop := Cond.code (my M) (mby M) (mxl M) (mrt M) ∈ kU ∧ (plainName (my M).cls = true ∧ (my M).cls ≠ "java/lang/invoke/MethodHandle" ∧ (my M).cls ≠ "java/lang/invoke/VarHandle") ∧ kchk M = true ∧ Cond.initialized (my M).cls ∈ kU
theorem kOK.dec {M : kM} (h : kOK M) {pc n t : Nat} {i : Instr} (hf : kf M pc = some (i, n, t)) (hs : kisw i = false) : decode (mby M) pc = .ok (i, klen i) ∧ n = pc + klen i ∧ ∀ o, koff i = some o → (pc : Int) + o = (t : Int) := by
  obtain ⟨-, -, hc, -⟩ := h
  unfold kf at hf
  obtain ⟨q, hq, he⟩ := Option.map_eq_some_iff.mp hf
  have hm := List.mem_of_find?_eq_some hq
  have hp := List.find?_some hq
  have h1 := List.all_eq_true.mp hc q hm
  obtain ⟨q1, q2, q3, q4⟩ := q
  cases he
  have hpc : q1 = pc := Nat.eq_of_beq_eq_true hp
  subst hpc
  simp only [kck1, hs, Bool.false_eq_true, if_false, Bool.and_eq_true, decide_eq_true_eq] at h1
  refine ⟨h1.1.1, Nat.eq_of_beq_eq_true h1.1.2, fun o ho => ?_⟩
  have h2 := h1.2
  rw [ho] at h2
  simpa using h2
theorem kOK.sw {M : kM} (h : kOK M) {pc n t : Nat} {i : Instr} (hf : kf M pc = some (i, n, t)) (hs : kisw i = true) : decode (mby M) pc = .ok (i, n - pc) := by
  obtain ⟨-, -, hc, -⟩ := h
  unfold kf at hf
  obtain ⟨q, hq, he⟩ := Option.map_eq_some_iff.mp hf
  have hm := List.mem_of_find?_eq_some hq
  have hp := List.find?_some hq
  have h1 := List.all_eq_true.mp hc q hm
  obtain ⟨q1, q2, q3, q4⟩ := q
  cases he
  have hpc : q1 = pc := Nat.eq_of_beq_eq_true hp
  subst hpc
  simp only [kck1, hs, if_true, Bool.and_eq_true, decide_eq_true_eq] at h1
  exact h1.1
theorem ksh_cat (K : kK) (v : Value) : (ksh K v).category = v.category := by cases v <;> rfl
theorem ksh_sum (K : kK) (st : List Value) : ((st.map (ksh K)).map fun v => v.category).sum = (st.map fun v => v.category).sum := by
  rw [List.map_map]
  congr 1
  exact List.map_congr_left (fun v _ => ksh_cat K v)
theorem kad_inj {K : kK} {i j : Nat} (hi : i < 1000000) (hj : j < 1000000) (h : kad K i = kad K j) : i = j := by
  simp only [kad, hi, hj, if_true] at h
  omega
theorem kad_lt {K : kK} {i : Nat} (hi : i < 1000000) : kad K i = kb K + i := by simp [kad, hi]
theorem kH.set {K : kK} {G : kG} {H H1 : Heap} {k : Nat} {e0 e : kE} (h : kH K G H) (hk : G.1 k = some e0) (he : va_at (kD K) vwCl (kad K k, kshE K e) H1) (hz : H1.size = H.size) (ho : ∀ q : Nat, q ≠ kad K k → H1[q]? = H[q]?) : kH K (hup G k e) H1 := by
  have hk1 := (h.1 k e0 hk).1
  refine ⟨fun j e' hj => ?_, fun nx hn => ?_⟩
  · simp only [hup] at hj
    by_cases hjk : j = k
    · subst hjk
      rw [if_pos rfl] at hj
      cases hj
      exact ⟨hk1, he⟩
    · rw [if_neg hjk] at hj
      obtain ⟨h1, h2⟩ := h.1 j e' hj
      exact ⟨h1, h2.kept (ho _ (fun q => hjk (kad_inj h1 hk1 q)))⟩
  · rw [hz]; exact h.2 nx hn
theorem kH.push {K : kK} {G : kG} {H H1 : Heap} {nx : Nat} {e : kE} (h : kH K G H) (hn : G.2 = some nx) (hn2 : nx < 899999) (he : va_at (kD K) vwCl (kad K nx, kshE K e) H1) (hz : H1.size = H.size + 1) (ho : ∀ q : Nat, q < H.size → H1[q]? = H[q]?) : kH K (fun j => if j = nx then some e else G.1 j, some (nx + 1)) H1 := by
  refine ⟨fun j e' hj => ?_, fun n2 hn3 => ?_⟩
  · simp only at hj
    by_cases hjk : j = nx
    · subst hjk
      rw [if_pos rfl] at hj
      cases hj
      exact ⟨by omega, he⟩
    · rw [if_neg hjk] at hj
      obtain ⟨h1, h2⟩ := h.1 j e' hj
      exact ⟨h1, h2.kept (ho _ h2.lt)⟩
  · cases hn3
    have := (h.2 nx hn).1
    exact ⟨by omega, by omega⟩
theorem kH.close {K : kK} {G : kG} {H H1 : Heap} (h : kH K G H) (ho : ∀ q : Nat, q < H.size → H1[q]? = H[q]?) : kH K (G.1, none) H1 :=
  ⟨fun j e' hj => ⟨(h.1 j e' hj).1, (h.1 j e' hj).2.kept (ho _ (h.1 j e' hj).2.lt)⟩, fun _ h => nomatch h⟩
/-- what a method's end owes: its answer and the cells, or a thrown class and the cells -/
def kQc (K : kK) (Q : kO → kG → Prop) : Array Value → State → Outcome → State → Prop := fun _ st o t => ∃ (r : Option Value) (G' : kG), o = .returned (r.map (ksh K)) ∧ Q (.inl r) G' ∧ kH K G' t.heap ∧ va_F (kA K) st t
def kXC (K : kK) (Q : kO → kG → Prop) : String → State → State → Prop := fun E st t => ∃ G' : kG, Q (.inr E) G' ∧ kH K G' t.heap ∧ va_F (kA K) st t
def kPc (K : kK) (As : List Value) (G : kG) : Array Value → State → Prop := fun v U => v = (As.map (ksh K)).toArray ∧ kW K U ∧ kH K G U.heap
def kCx (K : kK) (M : kM) (p : Program) (s : State) (m : MethodId) (args : Array Value) (meth : Method) (c : Code) : Prop :=
  p.tables.exec = Jvm.exec ∧ c.code = mby M ∧ c.maxLocals = mxl M ∧ meth.sig.returnType = mrt M ∧ meth.locks = false ∧ ((my M).name = "<init>" → meth.name = "<init>") ∧ s.vm.findClass (my M).cls = some m.cls ∧ (∀ x ∈ c.exceptionTable.toList, False) ∧ (∀ w ∈ kU, w.before args s = true) ∧ kW K s
def V (K : kK) (bc bs : Nat) (M : kM) (pc : Nat) (lc : kLo) (st : List Value) (G : kG) (Q : kO → kG → Prop) : Prop :=
  kOK M → ∀ (p : Program) (e : Env) (R : Room) (s : State) (m : MethodId) (args : Array Value) (below : List Frame) (meth : Method) (c : Code) (H : Heap) (locs : List Loc) (cells slots : Nat) (ls : Array Slot),
    kCx K M p s m args meth c → mfr M ≤ R.frames ∧ mlo M ≤ R.locals ∧ cells + bc ≤ R.cells ∧ slots + bs ≤ R.slots → va_S (kA K) s.heap H locs → kH K G H → kLc K lc (mxl M) ls →
    W p (kl K) e R s m args below meth c H locs cells slots (vx_MQ below (kQc K Q) (kXC K Q) args s R.cells R.slots (kA K)) (F0 m pc ls (st.map (ksh K)))
def C (K : kK) (mc ms : Nat) (M : kM) (As : List Value) (G : kG) (Q : kO → kG → Prop) : Prop :=
  vx_Met (kl K) (my M) (Cond.code (my M) (mby M) (mxl M) (mrt M) :: kU) { frames := mfr M, cells := mc, slots := ms, locals := mlo M } (kPc K As G) (kQc K Q) (kXC K Q) mc ms (kA K)
theorem lv_args_map (K : kK) : ∀ (As : List Value) (k : Nat), lv_args k (As.map (ksh K)) = (lv_args k As).map (fun q => (q.1, ksh K q.2))
  | [], k => rfl
  | v :: vs, k => by
    simp only [List.map_cons, lv_args, ksh_cat]
    rw [lv_args_map K vs]
theorem kla_ok {K : kK} {As : List Value} {n : Nat} {ls : Array Slot} (h : lv_has ls n (lv_args 0 (As.map (ksh K)))) : kLc K (kla As) n ls := by
  refine ⟨h.1, h.2.1, fun i v hv => ?_⟩
  unfold kla at hv
  obtain ⟨q, hq, he⟩ := Option.map_eq_some_iff.mp hv
  have hm := List.mem_of_find?_eq_some hq
  have hp0 := List.find?_some hq
  have hp : q.1 = i := Nat.eq_of_beq_eq_true hp0
  subst hp
  subst he
  refine h.2.2 (q.1, ksh K q.2) ?_
  rw [lv_args_map]
  exact List.mem_map.mpr ⟨q, hm, rfl⟩
theorem kW.moved {K : kK} {u U : State} (hW : u.WarmedH U.vm) (hh : kb K ≤ U.heap.size ∧ ∀ q : Nat, q < u.heap.size → ¬ kA K q → U.heap[q]? = u.heap[q]?) (h : kW K u) : kW K U := by
  obtain ⟨h1, h2, h3, h4, ⟨h5, h6⟩, h7, h8⟩ := h
  have hvm := hW.alike
  refine ⟨h1, h2.moved hvm, fun j L xs hj => ⟨(h3 j L xs hj).1, ?_⟩, fun j C n d hj => ?_, ⟨?_, ?_⟩, hh.1, h8.warm hW⟩
  · obtain ⟨q1, q2⟩ := h3 j L xs hj
    refine va_X.moved hvm (q2.kept (hh.2 _ ?_ ?_))
    · omega
    · exact Nat.not_le.mpr q1
  · exact va_Z.moved hvm ((h4 j C n d hj).kept hh.2)
  · exact vx_Zq.moved hvm (h5.kept hh.2)
  · exact vx_Zq.moved hvm (h6.kept hh.2)
theorem kPc_blind (K : kK) (As : List Value) (G : kG) : FrameBlind (kPc K As G) := by
  intro a U g mk h
  obtain ⟨h1, h2, h3⟩ := h
  refine ⟨h1, ?_, h3⟩
  exact kW.moved (u := U) (U := U.calling g mk a) (State.WarmedH.refl U) ⟨h2.2.2.2.2.2.1, fun q _ _ => rfl⟩ h2
theorem kPc_at {K : kK} {As : List Value} {G : kG} {s : State} {H : Heap} {locs : List Loc} (hw : kW K s) (hS : va_S (kA K) s.heap H locs) (hH : kH K G H) : ∀ U : State, U.heap = H → s.WarmedH U.vm → kPc K As G (As.map (ksh K)).toArray U := by
  intro U hU hW
  subst hU
  exact ⟨rfl, hw.moved hW ⟨Nat.le_trans hw.2.2.2.2.2.1 hS.1, hS.2.1⟩, hH⟩
/-- a contract out of its body's walk -/
theorem C_of {K : kK} {mc ms : Nat} {M : kM} {As : List Value} {G : kG} {Q : kO → kG → Prop} (hM : kOK M) (hl : (lg_sl As).length ≤ mxl M) (h : V K mc ms M 0 (kla As) [] G Q) : C K mc ms M As G Q := by
  refine vx_ofW (cc := mby M) (maxL := mxl M) (ret := mrt M) hM.2.1.1 rfl ?_
  intro p e s m args below meth c s₁ B hml htab hv
  obtain ⟨rfl, hw, hH⟩ := hv
  have hts := atoms_spec (ws := Cond.code (my M) (mby M) (mxl M) (mrt M) :: kU) B.pre
  have hown : s.vm.findClass (my M).cls = some m.cls := findClass_of_methodNamed B.named
  have hsl : (lg_sl (As.map (ksh K))).length = (lg_sl As).length := by
    unfold lg_sl
    simp only [List.length_flatMap, List.map_map]
    congr 1
    refine List.map_congr_left (fun v _ => ?_)
    simp only [Function.comp, ksh_cat]
    split <;> rfl
  have hlv := lv_entry (As.map (ksh K)) (n := mxl M) (by rw [hsl]; exact hl)
  rw [lg_entry_eq]
  exact h hM p e _ s m _ below meth c s.heap [] 0 0 _ ⟨B.exec, B.bytes, hml, B.returns, B.notSynchronized, fun q => (name_of_methodNamed B.named B.method).1.trans q, hown, htab, fun w hw9 => hts w (List.mem_cons_of_mem _ hw9), hw⟩ ⟨Nat.le_refl _, Nat.le_refl _, Nat.le_of_eq (Nat.zero_add _), Nat.le_of_eq (Nat.zero_add _)⟩ va_S.rf hH (kla_ok hlv)
end
section
section KR
variable {K : kK} {bc bs bc' bs' : Nat} {M M' : kM} {pc n t : Nat} {lc : kLo} {st : List Value} {G : kG} {Q Q' : kO → kG → Prop}

theorem V_iadd {x y : Int32} (h : kf M pc = some (.iadd, n, t))  (k : V K bc bs M n lc (.int (x + y) :: st) G Q) : V K bc bs M pc lc (.int y :: .int x :: st) G Q := by
  intro hM p e R s m args below meth c H locs cells slots ls hC hB hS hH hL
  obtain ⟨hd, hn, -⟩ := hM.dec h rfl
  subst hn
  exact lv_iadd hC.1 hC.2.1 hd (k hM p e R s m args below meth c H locs cells slots ls hC hB hS hH hL)
theorem V_isub {x y : Int32} (h : kf M pc = some (.isub, n, t))  (k : V K bc bs M n lc (.int (x - y) :: st) G Q) : V K bc bs M pc lc (.int y :: .int x :: st) G Q := by
  intro hM p e R s m args below meth c H locs cells slots ls hC hB hS hH hL
  obtain ⟨hd, hn, -⟩ := hM.dec h rfl
  subst hn
  exact lv_isub hC.1 hC.2.1 hd (k hM p e R s m args below meth c H locs cells slots ls hC hB hS hH hL)
theorem V_imul {x y : Int32} (h : kf M pc = some (.imul, n, t))  (k : V K bc bs M n lc (.int (x * y) :: st) G Q) : V K bc bs M pc lc (.int y :: .int x :: st) G Q := by
  intro hM p e R s m args below meth c H locs cells slots ls hC hB hS hH hL
  obtain ⟨hd, hn, -⟩ := hM.dec h rfl
  subst hn
  exact lv_imul hC.1 hC.2.1 hd (k hM p e R s m args below meth c H locs cells slots ls hC hB hS hH hL)
theorem V_iand {x y : Int32} (h : kf M pc = some (.iand, n, t))  (k : V K bc bs M n lc (.int (x &&& y) :: st) G Q) : V K bc bs M pc lc (.int y :: .int x :: st) G Q := by
  intro hM p e R s m args below meth c H locs cells slots ls hC hB hS hH hL
  obtain ⟨hd, hn, -⟩ := hM.dec h rfl
  subst hn
  exact lv_iand hC.1 hC.2.1 hd (k hM p e R s m args below meth c H locs cells slots ls hC hB hS hH hL)
theorem V_ior {x y : Int32} (h : kf M pc = some (.ior, n, t))  (k : V K bc bs M n lc (.int (x ||| y) :: st) G Q) : V K bc bs M pc lc (.int y :: .int x :: st) G Q := by
  intro hM p e R s m args below meth c H locs cells slots ls hC hB hS hH hL
  obtain ⟨hd, hn, -⟩ := hM.dec h rfl
  subst hn
  exact lv_ior hC.1 hC.2.1 hd (k hM p e R s m args below meth c H locs cells slots ls hC hB hS hH hL)
theorem V_ixor {x y : Int32} (h : kf M pc = some (.ixor, n, t))  (k : V K bc bs M n lc (.int (x ^^^ y) :: st) G Q) : V K bc bs M pc lc (.int y :: .int x :: st) G Q := by
  intro hM p e R s m args below meth c H locs cells slots ls hC hB hS hH hL
  obtain ⟨hd, hn, -⟩ := hM.dec h rfl
  subst hn
  exact lv_ixor hC.1 hC.2.1 hd (k hM p e R s m args below meth c H locs cells slots ls hC hB hS hH hL)
theorem V_ladd {x y : Int64} (h : kf M pc = some (.ladd, n, t))  (k : V K bc bs M n lc (.long (x + y) :: st) G Q) : V K bc bs M pc lc (.long y :: .long x :: st) G Q := by
  intro hM p e R s m args below meth c H locs cells slots ls hC hB hS hH hL
  obtain ⟨hd, hn, -⟩ := hM.dec h rfl
  subst hn
  exact lv_ladd hC.1 hC.2.1 hd (k hM p e R s m args below meth c H locs cells slots ls hC hB hS hH hL)
theorem V_lsub {x y : Int64} (h : kf M pc = some (.lsub, n, t))  (k : V K bc bs M n lc (.long (x - y) :: st) G Q) : V K bc bs M pc lc (.long y :: .long x :: st) G Q := by
  intro hM p e R s m args below meth c H locs cells slots ls hC hB hS hH hL
  obtain ⟨hd, hn, -⟩ := hM.dec h rfl
  subst hn
  exact lv_lsub hC.1 hC.2.1 hd (k hM p e R s m args below meth c H locs cells slots ls hC hB hS hH hL)
theorem V_lmul {x y : Int64} (h : kf M pc = some (.lmul, n, t))  (k : V K bc bs M n lc (.long (x * y) :: st) G Q) : V K bc bs M pc lc (.long y :: .long x :: st) G Q := by
  intro hM p e R s m args below meth c H locs cells slots ls hC hB hS hH hL
  obtain ⟨hd, hn, -⟩ := hM.dec h rfl
  subst hn
  exact lv_lmul hC.1 hC.2.1 hd (k hM p e R s m args below meth c H locs cells slots ls hC hB hS hH hL)
theorem V_land {x y : Int64} (h : kf M pc = some (.land, n, t))  (k : V K bc bs M n lc (.long (x &&& y) :: st) G Q) : V K bc bs M pc lc (.long y :: .long x :: st) G Q := by
  intro hM p e R s m args below meth c H locs cells slots ls hC hB hS hH hL
  obtain ⟨hd, hn, -⟩ := hM.dec h rfl
  subst hn
  exact lv_land hC.1 hC.2.1 hd (k hM p e R s m args below meth c H locs cells slots ls hC hB hS hH hL)
theorem V_lor {x y : Int64} (h : kf M pc = some (.lor, n, t))  (k : V K bc bs M n lc (.long (x ||| y) :: st) G Q) : V K bc bs M pc lc (.long y :: .long x :: st) G Q := by
  intro hM p e R s m args below meth c H locs cells slots ls hC hB hS hH hL
  obtain ⟨hd, hn, -⟩ := hM.dec h rfl
  subst hn
  exact lv_lor hC.1 hC.2.1 hd (k hM p e R s m args below meth c H locs cells slots ls hC hB hS hH hL)
theorem V_lxor {x y : Int64} (h : kf M pc = some (.lxor, n, t))  (k : V K bc bs M n lc (.long (x ^^^ y) :: st) G Q) : V K bc bs M pc lc (.long y :: .long x :: st) G Q := by
  intro hM p e R s m args below meth c H locs cells slots ls hC hB hS hH hL
  obtain ⟨hd, hn, -⟩ := hM.dec h rfl
  subst hn
  exact lv_lxor hC.1 hC.2.1 hd (k hM p e R s m args below meth c H locs cells slots ls hC hB hS hH hL)
theorem V_ishl {x y : Int32} (h : kf M pc = some (.ishl, n, t))  (k : V K bc bs M n lc (.int (x <<< (y &&& 31)) :: st) G Q) : V K bc bs M pc lc (.int y :: .int x :: st) G Q := by
  intro hM p e R s m args below meth c H locs cells slots ls hC hB hS hH hL
  obtain ⟨hd, hn, -⟩ := hM.dec h rfl
  subst hn
  exact lv_ishl hC.1 hC.2.1 hd (k hM p e R s m args below meth c H locs cells slots ls hC hB hS hH hL)
theorem V_ishr {x y : Int32} (h : kf M pc = some (.ishr, n, t))  (k : V K bc bs M n lc (.int (x >>> (y &&& 31)) :: st) G Q) : V K bc bs M pc lc (.int y :: .int x :: st) G Q := by
  intro hM p e R s m args below meth c H locs cells slots ls hC hB hS hH hL
  obtain ⟨hd, hn, -⟩ := hM.dec h rfl
  subst hn
  exact lv_ishr hC.1 hC.2.1 hd (k hM p e R s m args below meth c H locs cells slots ls hC hB hS hH hL)
theorem V_iushr {x y : Int32} (h : kf M pc = some (.iushr, n, t))  (k : V K bc bs M n lc (.int ((x.toUInt32 >>> (y.toUInt32 &&& Int32.toUInt32 31)).toInt32) :: st) G Q) : V K bc bs M pc lc (.int y :: .int x :: st) G Q := by
  intro hM p e R s m args below meth c H locs cells slots ls hC hB hS hH hL
  obtain ⟨hd, hn, -⟩ := hM.dec h rfl
  subst hn
  exact lv_iushr hC.1 hC.2.1 hd rfl (k hM p e R s m args below meth c H locs cells slots ls hC hB hS hH hL)
theorem V_lushr {x : Int64} {y : Int32} (h : kf M pc = some (.lushr, n, t))  (k : V K bc bs M n lc (.long ((x.toUInt64 >>> (y.toInt64.toUInt64 &&& Int64.toUInt64 63)).toInt64) :: st) G Q) : V K bc bs M pc lc (.int y :: .long x :: st) G Q := by
  intro hM p e R s m args below meth c H locs cells slots ls hC hB hS hH hL
  obtain ⟨hd, hn, -⟩ := hM.dec h rfl
  subst hn
  exact lv_lushr hC.1 hC.2.1 hd rfl (k hM p e R s m args below meth c H locs cells slots ls hC hB hS hH hL)
theorem V_lshl {x : Int64} {y : Int32} (h : kf M pc = some (.lshl, n, t))  (k : V K bc bs M n lc (.long (x <<< (y.toInt64 &&& 63)) :: st) G Q) : V K bc bs M pc lc (.int y :: .long x :: st) G Q := by
  intro hM p e R s m args below meth c H locs cells slots ls hC hB hS hH hL
  obtain ⟨hd, hn, -⟩ := hM.dec h rfl
  subst hn
  exact lv_lshl hC.1 hC.2.1 hd rfl (k hM p e R s m args below meth c H locs cells slots ls hC hB hS hH hL)
theorem V_lshr {x : Int64} {y : Int32} (h : kf M pc = some (.lshr, n, t))  (k : V K bc bs M n lc (.long (x >>> (y.toInt64 &&& 63)) :: st) G Q) : V K bc bs M pc lc (.int y :: .long x :: st) G Q := by
  intro hM p e R s m args below meth c H locs cells slots ls hC hB hS hH hL
  obtain ⟨hd, hn, -⟩ := hM.dec h rfl
  subst hn
  exact lv_lshr hC.1 hC.2.1 hd rfl (k hM p e R s m args below meth c H locs cells slots ls hC hB hS hH hL)
theorem V_i2l {x : Int32} (h : kf M pc = some (.i2l, n, t))  (k : V K bc bs M n lc (.long x.toInt64 :: st) G Q) : V K bc bs M pc lc (.int x :: st) G Q := by
  intro hM p e R s m args below meth c H locs cells slots ls hC hB hS hH hL
  obtain ⟨hd, hn, -⟩ := hM.dec h rfl
  subst hn
  exact lv_i2l hC.1 hC.2.1 hd rfl (k hM p e R s m args below meth c H locs cells slots ls hC hB hS hH hL)
theorem V_l2i {x : Int64} (h : kf M pc = some (.l2i, n, t))  (k : V K bc bs M n lc (.int x.toInt32 :: st) G Q) : V K bc bs M pc lc (.long x :: st) G Q := by
  intro hM p e R s m args below meth c H locs cells slots ls hC hB hS hH hL
  obtain ⟨hd, hn, -⟩ := hM.dec h rfl
  subst hn
  exact lv_l2i hC.1 hC.2.1 hd rfl (k hM p e R s m args below meth c H locs cells slots ls hC hB hS hH hL)
theorem V_i2b {x : Int32} (h : kf M pc = some (.i2b, n, t))  (k : V K bc bs M n lc (.int x.toInt8.toInt32 :: st) G Q) : V K bc bs M pc lc (.int x :: st) G Q := by
  intro hM p e R s m args below meth c H locs cells slots ls hC hB hS hH hL
  obtain ⟨hd, hn, -⟩ := hM.dec h rfl
  subst hn
  exact lv_i2b hC.1 hC.2.1 hd rfl (k hM p e R s m args below meth c H locs cells slots ls hC hB hS hH hL)
theorem V_idiv {x y : Int32} (h : kf M pc = some (.idiv, n, t)) (hne : ¬ y = 0) (k : V K bc bs M n lc (.int (x / y) :: st) G Q) : V K bc bs M pc lc (.int y :: .int x :: st) G Q := by
  intro hM p e R s m args below meth c H locs cells slots ls hC hB hS hH hL
  obtain ⟨hd, hn, -⟩ := hM.dec h rfl
  subst hn
  exact lv_idiv hC.1 hC.2.1 hd hne (k hM p e R s m args below meth c H locs cells slots ls hC hB hS hH hL)
theorem V_irem {x y : Int32} (h : kf M pc = some (.irem, n, t)) (hne : ¬ y = 0) (k : V K bc bs M n lc (.int (x - x / y * y) :: st) G Q) : V K bc bs M pc lc (.int y :: .int x :: st) G Q := by
  intro hM p e R s m args below meth c H locs cells slots ls hC hB hS hH hL
  obtain ⟨hd, hn, -⟩ := hM.dec h rfl
  subst hn
  exact lv_irem hC.1 hC.2.1 hd hne (k hM p e R s m args below meth c H locs cells slots ls hC hB hS hH hL)
theorem V_ldiv {x y : Int64} (h : kf M pc = some (.ldiv, n, t)) (hne : ¬ y = 0) (k : V K bc bs M n lc (.long (x / y) :: st) G Q) : V K bc bs M pc lc (.long y :: .long x :: st) G Q := by
  intro hM p e R s m args below meth c H locs cells slots ls hC hB hS hH hL
  obtain ⟨hd, hn, -⟩ := hM.dec h rfl
  subst hn
  exact lv_ldiv hC.1 hC.2.1 hd hne (k hM p e R s m args below meth c H locs cells slots ls hC hB hS hH hL)
theorem V_lrem {x y : Int64} (h : kf M pc = some (.lrem, n, t)) (hne : ¬ y = 0) (k : V K bc bs M n lc (.long (x - x / y * y) :: st) G Q) : V K bc bs M pc lc (.long y :: .long x :: st) G Q := by
  intro hM p e R s m args below meth c H locs cells slots ls hC hB hS hH hL
  obtain ⟨hd, hn, -⟩ := hM.dec h rfl
  subst hn
  exact lv_lrem hC.1 hC.2.1 hd hne (k hM p e R s m args below meth c H locs cells slots ls hC hB hS hH hL)
theorem V_lcmp {x y : Int64} (h : kf M pc = some (.lcmp, n, t))  (k : V K bc bs M n lc (.int (lg_cmp x y) :: st) G Q) : V K bc bs M pc lc (.long y :: .long x :: st) G Q := by
  intro hM p e R s m args below meth c H locs cells slots ls hC hB hS hH hL
  obtain ⟨hd, hn, -⟩ := hM.dec h rfl
  subst hn
  exact W.lcmp hC.1 hC.2.1 hd (k hM p e R s m args below meth c H locs cells slots ls hC hB hS hH hL)
theorem V_iconst {z : Int} {v : Int32} (h : kf M pc = some (.iconst z, n, t)) (hv : Int32.ofInt z = v) (k : V K bc bs M n lc (.int v :: st) G Q) : V K bc bs M pc lc (st) G Q := by
  intro hM p e R s m args below meth c H locs cells slots ls hC hB hS hH hL
  obtain ⟨hd, hn, -⟩ := hM.dec h rfl
  subst hn
  exact lv_iconst hC.1 hC.2.1 hd hv (k hM p e R s m args below meth c H locs cells slots ls hC hB hS hH hL)
theorem V_bipush {z : Int} {v : Int32} (h : kf M pc = some (.bipush z, n, t)) (hv : (Int8.ofInt z).toInt32 = v) (k : V K bc bs M n lc (.int v :: st) G Q) : V K bc bs M pc lc (st) G Q := by
  intro hM p e R s m args below meth c H locs cells slots ls hC hB hS hH hL
  obtain ⟨hd, hn, -⟩ := hM.dec h rfl
  subst hn
  exact lv_bipush hC.1 hC.2.1 hd hv (k hM p e R s m args below meth c H locs cells slots ls hC hB hS hH hL)
theorem V_sipush {z : Int} {v : Int32} (h : kf M pc = some (.sipush z, n, t)) (hv : (Int16.ofInt z).toInt32 = v) (k : V K bc bs M n lc (.int v :: st) G Q) : V K bc bs M pc lc (st) G Q := by
  intro hM p e R s m args below meth c H locs cells slots ls hC hB hS hH hL
  obtain ⟨hd, hn, -⟩ := hM.dec h rfl
  subst hn
  exact lv_sipush hC.1 hC.2.1 hd hv (k hM p e R s m args below meth c H locs cells slots ls hC hB hS hH hL)
theorem V_lconst {z : Fin 2} {v : Int64} (h : kf M pc = some (.lconst z, n, t)) (hv : Int64.ofNat (z : Nat) = v) (k : V K bc bs M n lc (.long v :: st) G Q) : V K bc bs M pc lc (st) G Q := by
  intro hM p e R s m args below meth c H locs cells slots ls hC hB hS hH hL
  obtain ⟨hd, hn, -⟩ := hM.dec h rfl
  subst hn
  exact lv_lconst hC.1 hC.2.1 hd hv (k hM p e R s m args below meth c H locs cells slots ls hC hB hS hH hL)
theorem V_dup {v : Value} (h : kf M pc = some (.dup, n, t)) (hv : v.category = 1) (k : V K bc bs M n lc (v :: v :: st) G Q) : V K bc bs M pc lc (v :: st) G Q := by
  intro hM p e R s m args below meth c H locs cells slots ls hC hB hS hH hL
  obtain ⟨hd, hn, -⟩ := hM.dec h rfl
  subst hn
  exact lv_dup hC.1 hC.2.1 hd (by rw [ksh_cat]; exact hv) (k hM p e R s m args below meth c H locs cells slots ls hC hB hS hH hL)
theorem V_pop {v : Value} (h : kf M pc = some (.pop, n, t)) (hv : v.category = 1) (k : V K bc bs M n lc (st) G Q) : V K bc bs M pc lc (v :: st) G Q := by
  intro hM p e R s m args below meth c H locs cells slots ls hC hB hS hH hL
  obtain ⟨hd, hn, -⟩ := hM.dec h rfl
  subst hn
  exact lv_pop hC.1 hC.2.1 hd (by rw [ksh_cat]; exact hv) (k hM p e R s m args below meth c H locs cells slots ls hC hB hS hH hL)
theorem V_dup2 {v w : Value} (h : kf M pc = some (.dup2, n, t)) (hv : v.category = 1) (hw : w.category = 1) (k : V K bc bs M n lc (v :: w :: v :: w :: st) G Q) : V K bc bs M pc lc (v :: w :: st) G Q := by
  intro hM p e R s m args below meth c H locs cells slots ls hC hB hS hH hL
  obtain ⟨hd, hn, -⟩ := hM.dec h rfl
  subst hn
  exact lv_dup2_11 hC.1 hC.2.1 hd (by rw [ksh_cat]; exact hv) (by rw [ksh_cat]; exact hw) (k hM p e R s m args below meth c H locs cells slots ls hC hB hS hH hL)
theorem V_iload_n {j : Fin 4} {x : Int32} (h : kf M pc = some (.iload_n j, n, t)) (hx : lc (j : Nat) = some (.int x)) (k : V K bc bs M n lc (.int x :: st) G Q) : V K bc bs M pc lc (st) G Q := by
  intro hM p e R s m args below meth c H locs cells slots ls hC hB hS hH hL
  obtain ⟨hd, hn, -⟩ := hM.dec h rfl
  subst hn
  exact lv_iload_n hC.1 hC.2.1 hd rfl (hL.2.2 _ _ hx) (k hM p e R s m args below meth c H locs cells slots ls hC hB hS hH hL)
theorem V_iload {j : Nat} {x : Int32} (h : kf M pc = some (.iload j, n, t)) (hx : lc j = some (.int x)) (k : V K bc bs M n lc (.int x :: st) G Q) : V K bc bs M pc lc (st) G Q := by
  intro hM p e R s m args below meth c H locs cells slots ls hC hB hS hH hL
  obtain ⟨hd, hn, -⟩ := hM.dec h rfl
  subst hn
  exact lv_iload hC.1 hC.2.1 hd (hL.2.2 _ _ hx) (k hM p e R s m args below meth c H locs cells slots ls hC hB hS hH hL)
theorem V_lload_n {j : Fin 4} {x : Int64} (h : kf M pc = some (.lload_n j, n, t)) (hx : lc (j : Nat) = some (.long x)) (k : V K bc bs M n lc (.long x :: st) G Q) : V K bc bs M pc lc (st) G Q := by
  intro hM p e R s m args below meth c H locs cells slots ls hC hB hS hH hL
  obtain ⟨hd, hn, -⟩ := hM.dec h rfl
  subst hn
  exact lv_lload_n hC.1 hC.2.1 hd rfl (hL.2.2 _ _ hx) (k hM p e R s m args below meth c H locs cells slots ls hC hB hS hH hL)
theorem V_lload {j : Nat} {x : Int64} (h : kf M pc = some (.lload j, n, t)) (hx : lc j = some (.long x)) (k : V K bc bs M n lc (.long x :: st) G Q) : V K bc bs M pc lc (st) G Q := by
  intro hM p e R s m args below meth c H locs cells slots ls hC hB hS hH hL
  obtain ⟨hd, hn, -⟩ := hM.dec h rfl
  subst hn
  exact lv_lload hC.1 hC.2.1 hd (hL.2.2 _ _ hx) (k hM p e R s m args below meth c H locs cells slots ls hC hB hS hH hL)
theorem V_aload_n {j : Fin 4} {x : Nat} (h : kf M pc = some (.aload_n j, n, t)) (hx : lc (j : Nat) = some (.ref x)) (k : V K bc bs M n lc (.ref x :: st) G Q) : V K bc bs M pc lc (st) G Q := by
  intro hM p e R s m args below meth c H locs cells slots ls hC hB hS hH hL
  obtain ⟨hd, hn, -⟩ := hM.dec h rfl
  subst hn
  exact lv_aload_n hC.1 hC.2.1 hd rfl (hL.2.2 _ _ hx) (k hM p e R s m args below meth c H locs cells slots ls hC hB hS hH hL)
theorem V_aload {j : Nat} {x : Nat} (h : kf M pc = some (.aload j, n, t)) (hx : lc j = some (.ref x)) (k : V K bc bs M n lc (.ref x :: st) G Q) : V K bc bs M pc lc (st) G Q := by
  intro hM p e R s m args below meth c H locs cells slots ls hC hB hS hH hL
  obtain ⟨hd, hn, -⟩ := hM.dec h rfl
  subst hn
  exact lv_aload hC.1 hC.2.1 hd (hL.2.2 _ _ hx) (k hM p e R s m args below meth c H locs cells slots ls hC hB hS hH hL)
def lvL (K : kK) (lc : kLo) (nL : Nat) : List (Nat × Value) := (List.range nL).filterMap (fun j => (lc j).map (fun v => (j, ksh K v)))
theorem lvL_has {nL : Nat} {ls : Array Slot} (h : kLc K lc nL ls) : lv_has ls nL (lvL K lc nL) := by
  refine ⟨h.1, h.2.1, fun q hq => ?_⟩
  obtain ⟨j, -, hj⟩ := List.mem_filterMap.mp hq
  obtain ⟨v, hv, he⟩ := Option.map_eq_some_iff.mp hj
  subst he
  exact h.2.2 j v hv
theorem lvL_mem {nL : Nat} {ls : Array Slot} (h : kLc K lc nL ls) {j : Nat} {v : Value} (hv : lc j = some v) : (j, ksh K v) ∈ lvL K lc nL := by
  have h1 := h.2.2 j v hv
  have h2 : j < nL := by rw [← h.1]; exact lv_lt h1
  exact List.mem_filterMap.mpr ⟨j, List.mem_range.mpr h2, by rw [hv]; rfl⟩
theorem kLc.put1 {nL i : Nat} {ls ls' : Array Slot} {v : Value} (h : kLc K lc nL ls) (h' : lv_has ls' nL ((i, ksh K v) :: (lvL K lc nL).filter (fun q => !(q.1 == i) && !(q.1 + 1 == i && q.2.category == 2)))) : kLc K (ls1 lc i v) nL ls' := by
  refine ⟨h'.1, h'.2.1, fun j w hw => ?_⟩
  by_cases hj : j = i
  · subst hj
    simp only [ls1, if_pos] at hw
    cases hw
    exact h'.2.2 _ List.mem_cons_self
  · have key : lc j = some w ∧ ¬ (j + 1 = i ∧ w.category = 2) := by
      by_cases hj1 : j + 1 = i
      · simp only [ls1, if_neg hj, if_pos hj1] at hw
        cases hl : lc j with
        | none => rw [hl] at hw; cases hw
        | some z =>
          rw [hl] at hw
          simp only at hw
          split at hw
          · cases hw
          · cases hw
            exact ⟨rfl, fun q => by rename_i q9; exact q9 q.2⟩
      · simp only [ls1, if_neg hj, if_neg hj1] at hw
        exact ⟨hw, fun q => hj1 q.1⟩
    refine h'.2.2 (j, ksh K w) (List.mem_cons_of_mem _ (List.mem_filter.mpr ⟨lvL_mem h key.1, ?_⟩))
    have h1 : (j == i) = false := by simpa using hj
    by_cases h2 : j + 1 = i
    · have h3 : ((ksh K w).category == 2) = false := by rw [ksh_cat]; simpa using fun q => key.2 ⟨h2, q⟩
      simp [h1, h3]
    · have h3 : (j + 1 == i) = false := by simpa using h2
      simp [h1, h3]
theorem kLc.put2 {nL i : Nat} {ls ls' : Array Slot} {v : Value} (h : kLc K lc nL ls) (h' : lv_has ls' nL ((i, ksh K v) :: (lvL K lc nL).filter (fun q => !(q.1 == i) && (!(q.1 == i + 1) && !(q.1 + 1 == i && q.2.category == 2))))) : kLc K (ls2 lc i v) nL ls' := by
  refine ⟨h'.1, h'.2.1, fun j w hw => ?_⟩
  by_cases hj : j = i
  · subst hj
    simp only [ls2, if_pos] at hw
    cases hw
    exact h'.2.2 _ List.mem_cons_self
  · have key : lc j = some w ∧ ¬ (j + 1 = i ∧ w.category = 2) ∧ ¬ j = i + 1 := by
      by_cases hj2 : j = i + 1
      · simp only [ls2, if_neg hj, if_pos hj2] at hw
        cases hw
      · by_cases hj1 : j + 1 = i
        · simp only [ls2, if_neg hj, if_neg hj2, if_pos hj1] at hw
          cases hl : lc j with
          | none => rw [hl] at hw; cases hw
          | some z =>
            rw [hl] at hw
            simp only at hw
            split at hw
            · cases hw
            · cases hw
              exact ⟨rfl, fun q => by rename_i q9; exact q9 q.2, hj2⟩
        · simp only [ls2, if_neg hj, if_neg hj2, if_neg hj1] at hw
          exact ⟨hw, fun q => hj1 q.1, hj2⟩
    refine h'.2.2 (j, ksh K w) (List.mem_cons_of_mem _ (List.mem_filter.mpr ⟨lvL_mem h key.1, ?_⟩))
    have h1 : (j == i) = false := by simpa using hj
    have h4 : (j == i + 1) = false := by simpa using key.2.2
    by_cases h2 : j + 1 = i
    · have h3 : ((ksh K w).category == 2) = false := by rw [ksh_cat]; simpa using fun q => key.2.1 ⟨h2, q⟩
      simp [h1, h3, h4]
    · have h3 : (j + 1 == i) = false := by simpa using h2
      simp [h1, h3, h4]
theorem V_istore_n {j : Fin 4} {x : Int32} (h : kf M pc = some (.istore_n j, n, t)) (hj : (j : Nat) < mxl M) (k : V K bc bs M n (ls1 lc (j : Nat) (.int x)) st G Q) : V K bc bs M pc lc (.int x :: st) G Q := by
  intro hM p e R s m args below meth c H locs cells slots ls hC hB hS hH hL
  obtain ⟨hd, hn, -⟩ := hM.dec h rfl
  subst hn
  exact lv_istore_n hC.1 hC.2.1 hd rfl (lvL_has hL) hj rfl (fun ls' hl' => (k hM p e R s m args below meth c H locs cells slots ls' hC hB hS hH (hL.put1 (v := .int x) hl')))
theorem V_istore {j : Nat} {x : Int32} (h : kf M pc = some (.istore j, n, t)) (hj : j < mxl M) (k : V K bc bs M n (ls1 lc j (.int x)) st G Q) : V K bc bs M pc lc (.int x :: st) G Q := by
  intro hM p e R s m args below meth c H locs cells slots ls hC hB hS hH hL
  obtain ⟨hd, hn, -⟩ := hM.dec h rfl
  subst hn
  exact lv_istore hC.1 hC.2.1 hd (lvL_has hL) hj rfl (fun ls' hl' => (k hM p e R s m args below meth c H locs cells slots ls' hC hB hS hH (hL.put1 (v := .int x) hl')))
theorem V_lstore_n {j : Fin 4} {x : Int64} (h : kf M pc = some (.lstore_n j, n, t)) (hj : (j : Nat) + 1 < mxl M) (k : V K bc bs M n (ls2 lc (j : Nat) (.long x)) st G Q) : V K bc bs M pc lc (.long x :: st) G Q := by
  intro hM p e R s m args below meth c H locs cells slots ls hC hB hS hH hL
  obtain ⟨hd, hn, -⟩ := hM.dec h rfl
  subst hn
  exact lv_lstore_n hC.1 hC.2.1 hd rfl (lvL_has hL) hj rfl (fun ls' hl' => (k hM p e R s m args below meth c H locs cells slots ls' hC hB hS hH (hL.put2 (v := .long x) hl')))
theorem V_lstore {j : Nat} {x : Int64} (h : kf M pc = some (.lstore j, n, t)) (hj : j + 1 < mxl M) (k : V K bc bs M n (ls2 lc j (.long x)) st G Q) : V K bc bs M pc lc (.long x :: st) G Q := by
  intro hM p e R s m args below meth c H locs cells slots ls hC hB hS hH hL
  obtain ⟨hd, hn, -⟩ := hM.dec h rfl
  subst hn
  exact lv_lstore hC.1 hC.2.1 hd (lvL_has hL) hj rfl (fun ls' hl' => (k hM p e R s m args below meth c H locs cells slots ls' hC hB hS hH (hL.put2 (v := .long x) hl')))
theorem V_astore_n {j : Fin 4} {x : Nat} (h : kf M pc = some (.astore_n j, n, t)) (hj : (j : Nat) < mxl M) (k : V K bc bs M n (ls1 lc (j : Nat) (.ref x)) st G Q) : V K bc bs M pc lc (.ref x :: st) G Q := by
  intro hM p e R s m args below meth c H locs cells slots ls hC hB hS hH hL
  obtain ⟨hd, hn, -⟩ := hM.dec h rfl
  subst hn
  exact lv_astore_n hC.1 hC.2.1 hd rfl (lvL_has hL) hj rfl (fun ls' hl' => (k hM p e R s m args below meth c H locs cells slots ls' hC hB hS hH (hL.put1 (v := .ref x) hl')))
theorem V_astore {j : Nat} {x : Nat} (h : kf M pc = some (.astore j, n, t)) (hj : j < mxl M) (k : V K bc bs M n (ls1 lc j (.ref x)) st G Q) : V K bc bs M pc lc (.ref x :: st) G Q := by
  intro hM p e R s m args below meth c H locs cells slots ls hC hB hS hH hL
  obtain ⟨hd, hn, -⟩ := hM.dec h rfl
  subst hn
  exact lv_astore hC.1 hC.2.1 hd (lvL_has hL) hj rfl (fun ls' hl' => (k hM p e R s m args below meth c H locs cells slots ls' hC hB hS hH (hL.put1 (v := .ref x) hl')))
theorem lv_posn {l : List (Nat × Value)} {q : Nat × Value} (h : q ∈ l) : ∃ k : Nat, l[k]? = some q := List.getElem?_of_mem h
theorem V_iinc {j : Nat} {z : Int} {x v : Int32} (h : kf M pc = some (.iinc j z, n, t)) (hx : lc j = some (.int x)) (hv : x + Int32.ofInt z = v) (hj : j < mxl M) (k : V K bc bs M n (ls1 lc j (.int v)) st G Q) : V K bc bs M pc lc st G Q := by
  intro hM p e R s m args below meth c H locs cells slots ls hC hB hS hH hL
  obtain ⟨hd, hn, -⟩ := hM.dec h rfl
  subst hn
  obtain ⟨q, hq⟩ := lv_posn (lvL_mem hL hx)
  exact lv_iinc hC.1 hC.2.1 hd (lvL_has hL) hq hv hj rfl (fun ls' hl' => (k hM p e R s m args below meth c H locs cells slots ls' hC hB hS hH (hL.put1 (v := .int v) hl')))
theorem V_if_eq {x : Int32} {o : Int} (h : kf M pc = some (.ifCond .eq o, n, t)) (k : x = 0 → V K bc bs M t lc st G Q) (k2 : ¬ x = 0 → V K bc bs M n lc st G Q) : V K bc bs M pc lc (.int x :: st) G Q := by
  intro hM p e R s m args below meth c H locs cells slots ls hC hB hS hH hL
  obtain ⟨hd, hn, ho⟩ := hM.dec h rfl
  subst hn
  exact lv_if_eq hC.1 hC.2.1 hd (ho _ rfl) (fun q => (k q hM p e R s m args below meth c H locs cells slots ls hC hB hS hH hL)) (fun q => (k2 q hM p e R s m args below meth c H locs cells slots ls hC hB hS hH hL))
theorem V_if_ne {x : Int32} {o : Int} (h : kf M pc = some (.ifCond .ne o, n, t)) (k : ¬ x = 0 → V K bc bs M t lc st G Q) (k2 : x = 0 → V K bc bs M n lc st G Q) : V K bc bs M pc lc (.int x :: st) G Q := by
  intro hM p e R s m args below meth c H locs cells slots ls hC hB hS hH hL
  obtain ⟨hd, hn, ho⟩ := hM.dec h rfl
  subst hn
  exact lv_if_ne hC.1 hC.2.1 hd (ho _ rfl) (fun q => (k q hM p e R s m args below meth c H locs cells slots ls hC hB hS hH hL)) (fun q => (k2 q hM p e R s m args below meth c H locs cells slots ls hC hB hS hH hL))
theorem V_if_lt {x : Int32} {o : Int} (h : kf M pc = some (.ifCond .lt o, n, t)) (k : x < 0 → V K bc bs M t lc st G Q) (k2 : ¬ x < 0 → V K bc bs M n lc st G Q) : V K bc bs M pc lc (.int x :: st) G Q := by
  intro hM p e R s m args below meth c H locs cells slots ls hC hB hS hH hL
  obtain ⟨hd, hn, ho⟩ := hM.dec h rfl
  subst hn
  exact lv_if_lt hC.1 hC.2.1 hd (ho _ rfl) (fun q => (k q hM p e R s m args below meth c H locs cells slots ls hC hB hS hH hL)) (fun q => (k2 q hM p e R s m args below meth c H locs cells slots ls hC hB hS hH hL))
theorem V_if_ge {x : Int32} {o : Int} (h : kf M pc = some (.ifCond .ge o, n, t)) (k : 0 ≤ x → V K bc bs M t lc st G Q) (k2 : ¬ 0 ≤ x → V K bc bs M n lc st G Q) : V K bc bs M pc lc (.int x :: st) G Q := by
  intro hM p e R s m args below meth c H locs cells slots ls hC hB hS hH hL
  obtain ⟨hd, hn, ho⟩ := hM.dec h rfl
  subst hn
  exact lv_if_ge hC.1 hC.2.1 hd (ho _ rfl) (fun q => (k q hM p e R s m args below meth c H locs cells slots ls hC hB hS hH hL)) (fun q => (k2 q hM p e R s m args below meth c H locs cells slots ls hC hB hS hH hL))
theorem V_if_gt {x : Int32} {o : Int} (h : kf M pc = some (.ifCond .gt o, n, t)) (k : 0 < x → V K bc bs M t lc st G Q) (k2 : ¬ 0 < x → V K bc bs M n lc st G Q) : V K bc bs M pc lc (.int x :: st) G Q := by
  intro hM p e R s m args below meth c H locs cells slots ls hC hB hS hH hL
  obtain ⟨hd, hn, ho⟩ := hM.dec h rfl
  subst hn
  exact lv_if_gt hC.1 hC.2.1 hd (ho _ rfl) (fun q => (k q hM p e R s m args below meth c H locs cells slots ls hC hB hS hH hL)) (fun q => (k2 q hM p e R s m args below meth c H locs cells slots ls hC hB hS hH hL))
theorem V_if_le {x : Int32} {o : Int} (h : kf M pc = some (.ifCond .le o, n, t)) (k : x ≤ 0 → V K bc bs M t lc st G Q) (k2 : ¬ x ≤ 0 → V K bc bs M n lc st G Q) : V K bc bs M pc lc (.int x :: st) G Q := by
  intro hM p e R s m args below meth c H locs cells slots ls hC hB hS hH hL
  obtain ⟨hd, hn, ho⟩ := hM.dec h rfl
  subst hn
  exact lv_if_le hC.1 hC.2.1 hd (ho _ rfl) (fun q => (k q hM p e R s m args below meth c H locs cells slots ls hC hB hS hH hL)) (fun q => (k2 q hM p e R s m args below meth c H locs cells slots ls hC hB hS hH hL))
theorem V_icmp_eq {x y : Int32} {o : Int} (h : kf M pc = some (.if_icmp .eq o, n, t)) (k : x = y → V K bc bs M t lc st G Q) (k2 : ¬ x = y → V K bc bs M n lc st G Q) : V K bc bs M pc lc (.int y :: .int x :: st) G Q := by
  intro hM p e R s m args below meth c H locs cells slots ls hC hB hS hH hL
  obtain ⟨hd, hn, ho⟩ := hM.dec h rfl
  subst hn
  exact lv_icmp_eq hC.1 hC.2.1 hd (ho _ rfl) (fun q => (k q hM p e R s m args below meth c H locs cells slots ls hC hB hS hH hL)) (fun q => (k2 q hM p e R s m args below meth c H locs cells slots ls hC hB hS hH hL))
theorem V_icmp_ne {x y : Int32} {o : Int} (h : kf M pc = some (.if_icmp .ne o, n, t)) (k : ¬ x = y → V K bc bs M t lc st G Q) (k2 : x = y → V K bc bs M n lc st G Q) : V K bc bs M pc lc (.int y :: .int x :: st) G Q := by
  intro hM p e R s m args below meth c H locs cells slots ls hC hB hS hH hL
  obtain ⟨hd, hn, ho⟩ := hM.dec h rfl
  subst hn
  exact lv_icmp_ne hC.1 hC.2.1 hd (ho _ rfl) (fun q => (k q hM p e R s m args below meth c H locs cells slots ls hC hB hS hH hL)) (fun q => (k2 q hM p e R s m args below meth c H locs cells slots ls hC hB hS hH hL))
theorem V_icmp_lt {x y : Int32} {o : Int} (h : kf M pc = some (.if_icmp .lt o, n, t)) (k : x < y → V K bc bs M t lc st G Q) (k2 : ¬ x < y → V K bc bs M n lc st G Q) : V K bc bs M pc lc (.int y :: .int x :: st) G Q := by
  intro hM p e R s m args below meth c H locs cells slots ls hC hB hS hH hL
  obtain ⟨hd, hn, ho⟩ := hM.dec h rfl
  subst hn
  exact lv_icmp_lt hC.1 hC.2.1 hd (ho _ rfl) (fun q => (k q hM p e R s m args below meth c H locs cells slots ls hC hB hS hH hL)) (fun q => (k2 q hM p e R s m args below meth c H locs cells slots ls hC hB hS hH hL))
theorem V_icmp_ge {x y : Int32} {o : Int} (h : kf M pc = some (.if_icmp .ge o, n, t)) (k : y ≤ x → V K bc bs M t lc st G Q) (k2 : ¬ y ≤ x → V K bc bs M n lc st G Q) : V K bc bs M pc lc (.int y :: .int x :: st) G Q := by
  intro hM p e R s m args below meth c H locs cells slots ls hC hB hS hH hL
  obtain ⟨hd, hn, ho⟩ := hM.dec h rfl
  subst hn
  exact lv_icmp_ge hC.1 hC.2.1 hd (ho _ rfl) (fun q => (k q hM p e R s m args below meth c H locs cells slots ls hC hB hS hH hL)) (fun q => (k2 q hM p e R s m args below meth c H locs cells slots ls hC hB hS hH hL))
theorem V_icmp_gt {x y : Int32} {o : Int} (h : kf M pc = some (.if_icmp .gt o, n, t)) (k : y < x → V K bc bs M t lc st G Q) (k2 : ¬ y < x → V K bc bs M n lc st G Q) : V K bc bs M pc lc (.int y :: .int x :: st) G Q := by
  intro hM p e R s m args below meth c H locs cells slots ls hC hB hS hH hL
  obtain ⟨hd, hn, ho⟩ := hM.dec h rfl
  subst hn
  exact lv_icmp_gt hC.1 hC.2.1 hd (ho _ rfl) (fun q => (k q hM p e R s m args below meth c H locs cells slots ls hC hB hS hH hL)) (fun q => (k2 q hM p e R s m args below meth c H locs cells slots ls hC hB hS hH hL))
theorem V_icmp_le {x y : Int32} {o : Int} (h : kf M pc = some (.if_icmp .le o, n, t)) (k : x ≤ y → V K bc bs M t lc st G Q) (k2 : ¬ x ≤ y → V K bc bs M n lc st G Q) : V K bc bs M pc lc (.int y :: .int x :: st) G Q := by
  intro hM p e R s m args below meth c H locs cells slots ls hC hB hS hH hL
  obtain ⟨hd, hn, ho⟩ := hM.dec h rfl
  subst hn
  exact lv_icmp_le hC.1 hC.2.1 hd (ho _ rfl) (fun q => (k q hM p e R s m args below meth c H locs cells slots ls hC hB hS hH hL)) (fun q => (k2 q hM p e R s m args below meth c H locs cells slots ls hC hB hS hH hL))
theorem V_goto {o : Int} (h : kf M pc = some (.goto o, n, t)) (k : V K bc bs M t lc st G Q) : V K bc bs M pc lc st G Q := by
  intro hM p e R s m args below meth c H locs cells slots ls hC hB hS hH hL
  obtain ⟨hd, hn, ho⟩ := hM.dec h rfl
  exact lv_goto hC.1 hC.2.1 hd (ho _ rfl) (k hM p e R s m args below meth c H locs cells slots ls hC hB hS hH hL)
theorem V_acmp_ne {x y : Nat} {o : Int} (h : kf M pc = some (.if_acmp .ne o, n, t)) (hx : x < 1000000) (hy : y < 1000000) (k : ¬ x = y → V K bc bs M t lc st G Q) (k2 : x = y → V K bc bs M n lc st G Q) : V K bc bs M pc lc (.ref y :: .ref x :: st) G Q := by
  intro hM p e R s m args below meth c H locs cells slots ls hC hB hS hH hL
  obtain ⟨hd, hn, ho⟩ := hM.dec h rfl
  subst hn
  exact lv_acmp_ne (rx := some (kad K x)) (ry := some (kad K y)) hC.1 hC.2.1 hd (ho _ rfl) (fun q => (k (fun z => q (by rw [z])) hM p e R s m args below meth c H locs cells slots ls hC hB hS hH hL)) (fun q => (k2 (kad_inj hx hy (Option.some.inj q)) hM p e R s m args below meth c H locs cells slots ls hC hB hS hH hL))
theorem V_tableOut {d lo hi : Int} {offs : Array Int} {x : Int32} {g : Nat} (h : kf M pc = some (.tableswitch d lo hi offs, n, t)) (hx : x.toInt < lo ∨ hi < x.toInt) (ht : (pc : Int) + d = (g : Int)) (k : V K bc bs M g lc st G Q) : V K bc bs M pc lc (.int x :: st) G Q := by
  intro hM p e R s m args below meth c H locs cells slots ls hC hB hS hH hL
  exact lv_tableOut hC.1 hC.2.1 (hM.sw h rfl) hx ht (k hM p e R s m args below meth c H locs cells slots ls hC hB hS hH hL)
theorem V_tableIn {d lo hi o : Int} {offs : Array Int} {x : Int32} {g : Nat} (h : kf M pc = some (.tableswitch d lo hi offs, n, t)) (h1 : ¬ x.toInt < lo) (h2 : ¬ hi < x.toInt) (ho : offs[(x.toInt - lo).toNat]? = some o) (ht : (pc : Int) + o = (g : Int)) (k : V K bc bs M g lc st G Q) : V K bc bs M pc lc (.int x :: st) G Q := by
  intro hM p e R s m args below meth c H locs cells slots ls hC hB hS hH hL
  exact lv_tableIn hC.1 hC.2.1 (hM.sw h rfl) h1 h2 ho ht (k hM p e R s m args below meth c H locs cells slots ls hC hB hS hH hL)
theorem V_lookup {d o : Int} {ps : Array (Int × Int)} {x : Int32} {g : Nat} (h : kf M pc = some (.lookupswitch d ps, n, t)) (hp : (ps.toList.zip (ps.toList.drop 1)).all (fun (a, next) => a.1 < next.1) = true) (ho : Op.lookupswitch.offset ps.toList d x.toInt = o) (ht : (pc : Int) + o = (g : Int)) (k : V K bc bs M g lc st G Q) : V K bc bs M pc lc (.int x :: st) G Q := by
  intro hM p e R s m args below meth c H locs cells slots ls hC hB hS hH hL
  exact lv_lookup hC.1 hC.2.1 (hM.sw h rfl) hp ho ht (k hM p e R s m args below meth c H locs cells slots ls hC hB hS hH hL)
theorem V_iret {x : Int32} (h : kf M pc = some (.ireturn, n, t)) (hr : mrt M = some .int) (hq : Q (.inl (some (.int x))) G) : V K bc bs M pc lc [.int x] G Q := by
  intro hM p e R s m args below meth c H locs cells slots ls hC hB hS hH hL
  obtain ⟨hd, hn, -⟩ := hM.dec h rfl
  refine vx_ret (W.widen (k := R.cells) (n := R.slots) (by omega) (by omega) (W.iret hC.1 hC.2.1 (hC.2.2.2.1.trans hr) (fun t ht _ => ⟨some (.int x), G, rfl, hq, by rw [ht]; exact hH, hS.F ht⟩) hS.2.2 hd hC.2.2.2.2.1))
theorem V_zret {x : Int32} (h : kf M pc = some (.ireturn, n, t)) (hr : mrt M = some .boolean) (hx : x = 0 ∨ x = 1) (hq : Q (.inl (some (.int x))) G) : V K bc bs M pc lc [.int x] G Q := by
  intro hM p e R s m args below meth c H locs cells slots ls hC hB hS hH hL
  obtain ⟨hd, hn, -⟩ := hM.dec h rfl
  refine vx_ret (W.widen (k := R.cells) (n := R.slots) (by omega) (by omega) (W.zret hC.1 hC.2.1 (hC.2.2.2.1.trans hr) (by rcases hx with rfl | rfl <;> rfl) (fun t ht _ => ⟨some (.int x), G, rfl, hq, by rw [ht]; exact hH, hS.F ht⟩) hS.2.2 hd hC.2.2.2.2.1))
theorem V_vret (h : kf M pc = some (.return_, n, t)) (hr : mrt M = none) (hq : Q (.inl none) G) : V K bc bs M pc lc [] G Q := by
  intro hM p e R s m args below meth c H locs cells slots ls hC hB hS hH hL
  obtain ⟨hd, hn, -⟩ := hM.dec h rfl
  refine vx_ret (W.widen (k := R.cells) (n := R.slots) (by omega) (by omega) (W.vret hC.1 hC.2.1 (hC.2.2.2.1.trans hr) (fun t ht _ => ⟨none, G, rfl, hq, by rw [ht]; exact hH, hS.F ht⟩) hS.2.2 hd hC.2.2.2.2.1))
theorem V_aret {x : Nat} {ty : FieldType} (h : kf M pc = some (.areturn, n, t)) (hr : mrt M = some ty) (hty : (∃ n, ty = .object n) ∨ ∃ t, ty = .array t) (hq : Q (.inl (some (.ref x))) G) : V K bc bs M pc lc [.ref x] G Q := by
  intro hM p e R s m args below meth c H locs cells slots ls hC hB hS hH hL
  obtain ⟨hd, hn, -⟩ := hM.dec h rfl
  refine vx_ret (W.widen (k := R.cells) (n := R.slots) (by omega) (by omega) (W.aret hC.1 hC.2.1 (hC.2.2.2.1.trans hr) hty (Or.inr ⟨_, rfl⟩) (fun t ht _ => ⟨some (.ref x), G, rfl, hq, by rw [ht]; exact hH, hS.F ht⟩) hS.2.2 hd hC.2.2.2.2.1))
end KR
end
section
/-! rows of the heap -/
/-- class names by their number -/
def kcn : Nat → String
  | 0 => RX0
  | 1 => RX1
  | 2 => RX2
  | 3 => RX3
  | 4 => RX4
  | 5 => RX5
  | 6 => RX6
  | 7 => RX7
  | 8 => RX8
  | 9 => RX9
  | 10 => RX10
  | 11 => RX11
  | 12 => RX12
  | 99 => RL
  | 107 => RJ7
  | 109 => RJ9
  | 110 => RJ10
  | _ => ""
/-- fields: class number, place in its pool, class of the object, field, place of the word -/
def kFl : List (Nat × Nat × Nat × Nat × Nat) := [(0, 11, 0, 0, 120), (0, 15, 0, 1, 121), (0, 19, 0, 2, 122), (0, 22, 0, 3, 123), (0, 25, 0, 4, 124), (0, 28, 0, 5, 125), (0, 31, 0, 6, 126), (0, 34, 0, 7, 127), (0, 37, 0, 8, 128), (0, 40, 0, 9, 129), (0, 43, 0, 10, 130), (0, 46, 0, 11, 131), (6, 7, 5, 0, 171), (7, 57, 5, 0, 172), (11, 105, 5, 0, 173), (3, 60, 5, 0, 174), (7, 34, 5, 1, 175), (6, 13, 5, 1, 176), (11, 98, 5, 1, 177), (3, 35, 5, 1, 178), (3, 7, 3, 0, 184), (3, 13, 3, 1, 185), (3, 21, 3, 2, 186), (8, 9, 7, 0, 206), (7, 76, 7, 0, 207), (11, 142, 7, 0, 208), (8, 13, 7, 1, 209), (8, 16, 7, 2, 210), (9, 9, 8, 0, 224), (7, 80, 8, 0, 225), (11, 155, 8, 0, 226), (9, 13, 8, 1, 227), (9, 16, 8, 2, 228), (9, 20, 8, 3, 229), (9, 23, 8, 4, 230), (7, 12, 6, 0, 244), (11, 129, 6, 0, 245), (7, 21, 6, 1, 246), (11, 146, 6, 1, 247), (7, 30, 6, 2, 248), (10, 11, 9, 0, 273), (10, 22, 9, 1, 274), (10, 26, 9, 2, 275), (11, 199, 9, 2, 276), (4, 9, 4, 0, 290), (7, 93, 4, 0, 291), (11, 345, 4, 0, 292), (4, 15, 4, 1, 293), (7, 69, 4, 1, 294), (11, 354, 4, 1, 295), (7, 38, 4, 2, 296), (4, 24, 4, 2, 297), (11, 357, 4, 2, 298), (2, 9, 2, 0, 314), (11, 311, 2, 0, 315), (2, 15, 2, 1, 316), (11, 314, 2, 1, 317), (2, 18, 2, 2, 318), (11, 323, 2, 2, 319), (2, 21, 2, 3, 320), (11, 320, 2, 3, 321), (2, 27, 2, 4, 322), (1, 62, 2, 4, 323), (11, 360, 2, 4, 324), (2, 31, 2, 5, 325), (11, 172, 2, 5, 326), (2, 35, 2, 6, 327), (11, 223, 2, 6, 328), (2, 38, 2, 7, 329), (11, 302, 2, 7, 330), (2, 41, 2, 8, 331), (11, 305, 2, 8, 332), (2, 44, 2, 9, 333), (11, 248, 2, 9, 334), (1, 9, 1, 0, 356), (11, 235, 1, 0, 357), (1, 15, 1, 1, 358), (11, 238, 1, 1, 359), (1, 18, 1, 2, 360), (11, 232, 1, 2, 361), (1, 26, 1, 3, 362), (11, 211, 1, 3, 363), (1, 33, 1, 4, 364), (11, 195, 1, 4, 365), (1, 40, 1, 5, 366), (11, 251, 1, 5, 367), (1, 44, 1, 6, 368), (11, 268, 1, 6, 369), (1, 50, 1, 7, 370), (11, 168, 1, 7, 371), (1, 54, 1, 8, 372), (11, 164, 1, 8, 373), (11, 229, 1, 9, 374), (11, 214, 1, 10, 375), (11, 217, 1, 11, 376), (1, 72, 1, 12, 377), (11, 220, 1, 12, 378), (1, 58, 1, 13, 379), (11, 226, 1, 13, 380), (11, 10, 10, 0, 412), (11, 19, 10, 1, 413), (11, 26, 10, 2, 414), (11, 33, 10, 3, 415), (11, 37, 10, 4, 416), (11, 40, 10, 5, 417), (11, 44, 10, 6, 418), (11, 47, 10, 7, 419), (11, 50, 10, 8, 420), (11, 53, 10, 9, 421), (11, 56, 10, 10, 422), (11, 64, 10, 11, 423), (11, 68, 10, 12, 424), (11, 71, 10, 13, 425), (11, 74, 10, 14, 426), (11, 77, 10, 15, 427), (12, 146, 11, 0, 1024), (12, 257, 11, 1, 1025), (12, 7, 11, 2, 1026), (12, 260, 11, 3, 1027), (12, 13, 11, 4, 1028), (12, 16, 11, 5, 1029), (12, 20, 11, 6, 1030), (12, 23, 11, 7, 1031), (12, 27, 11, 8, 1032), (12, 30, 11, 9, 1033), (12, 33, 11, 10, 1034), (12, 204, 11, 11, 1035), (12, 36, 11, 12, 1036), (12, 39, 11, 13, 1037), (12, 42, 11, 14, 1038), (12, 45, 11, 15, 1039), (12, 48, 11, 16, 1040), (12, 51, 11, 17, 1041), (12, 54, 11, 18, 1042), (12, 57, 11, 19, 1043), (12, 60, 11, 20, 1044), (12, 63, 11, 21, 1045), (12, 66, 11, 22, 1046), (12, 69, 11, 23, 1047), (12, 72, 11, 24, 1048), (12, 75, 11, 25, 1049), (12, 79, 11, 26, 1050), (12, 82, 11, 27, 1051), (12, 85, 11, 28, 1052), (12, 88, 11, 29, 1053), (12, 91, 11, 30, 1054), (12, 94, 11, 31, 1055), (12, 97, 11, 32, 1056), (12, 100, 11, 33, 1057), (12, 103, 11, 34, 1058), (12, 106, 11, 35, 1059), (12, 109, 11, 36, 1060), (12, 112, 11, 37, 1061), (12, 115, 11, 38, 1062), (12, 118, 11, 39, 1063), (12, 121, 11, 40, 1064), (12, 124, 11, 41, 1065), (12, 292, 11, 42, 1066), (12, 127, 11, 43, 1067), (12, 321, 11, 44, 1068), (12, 130, 11, 45, 1069), (12, 133, 11, 46, 1070), (12, 136, 11, 47, 1071), (12, 139, 11, 48, 1072)]
def kFt (cn idx : Nat) : Option (Nat × Nat) := (kFl.find? (fun q => Nat.beq q.1 cn && Nat.beq q.2.1 idx)).map (fun q => (q.2.2.1, q.2.2.2.1))
def kFc (q : Nat × Nat × Nat × Nat × Nat) : Bool := match vwCl[q.2.2.1]? with
  | some (_, T, N) => decide (q.2.2.2.1 < N) && decide (lw_tbl[q.2.2.2.2]? = some (Cond.fieldLink (kcn q.1) q.2.1 (T q.2.2.2.1).1 (T q.2.2.2.1).2.1 (T q.2.2.2.1).2.2.1))
  | none => false
theorem kFl_ok : kFl.all kFc = true := by decide +kernel
theorem kU_of {w : Cond} {i : Nat} (h : lw_tbl[i]? = some w) (hg : goodWord w = true) : w ∈ kU := List.mem_filter.mpr ⟨List.mem_of_getElem? h, hg⟩
theorem kFt_ok {cn idx ci k : Nat} (h : kFt cn idx = some (ci, k)) : ∃ C T N, vwCl[ci]? = some (C, T, N) ∧ k < N ∧ Cond.fieldLink (kcn cn) idx (T k).1 (T k).2.1 (T k).2.2.1 ∈ kU := by
  unfold kFt at h
  obtain ⟨q, hq, he⟩ := Option.map_eq_some_iff.mp h
  have hm := List.mem_of_find?_eq_some hq
  have hp := List.find?_some hq
  have h1 := List.all_eq_true.mp kFl_ok q hm
  obtain ⟨q1, q2, q3, q4, q5⟩ := q
  cases he
  simp only [Bool.and_eq_true] at hp
  have e1 : q1 = cn := Nat.eq_of_beq_eq_true hp.1
  have e2 : q2 = idx := Nat.eq_of_beq_eq_true hp.2
  subst e1; subst e2
  unfold kFc at h1
  simp only at h1
  split at h1
  · rename_i C T N hv
    simp only [Bool.and_eq_true, decide_eq_true_eq] at h1
    exact ⟨C, T, N, hv, h1.1, kU_of h1.2 rfl⟩
  · cases h1
theorem kwsX0 : ∀ w ∈ u_ws RX0 TX0 12, w ∈ kU := fun w hw => by
  have hg := goodIn_r (big := lw_tbl) (u_ws RX0 TX0 12) [132, 134, 136, 138, 140, 142, 144, 146, 148, 150, 152, 154] (by decide +kernel) (by decide +kernel) w hw
  refine List.mem_filter.mpr ⟨hg.1, ?_⟩
  have ha : (u_ws RX0 TX0 12).all goodWord = true := by decide +kernel
  exact List.all_eq_true.mp ha w hw
theorem kwsX1 : ∀ w ∈ u_ws RX1 TX1 14, w ∈ kU := fun w hw => by
  have hg := goodIn_r (big := lw_tbl) (u_ws RX1 TX1 14) [381, 383, 385, 387, 389, 391, 393, 395, 397, 399, 401, 403, 405, 407] (by decide +kernel) (by decide +kernel) w hw
  refine List.mem_filter.mpr ⟨hg.1, ?_⟩
  have ha : (u_ws RX1 TX1 14).all goodWord = true := by decide +kernel
  exact List.all_eq_true.mp ha w hw
theorem kwsX2 : ∀ w ∈ u_ws RX2 TX2 10, w ∈ kU := fun w hw => by
  have hg := goodIn_r (big := lw_tbl) (u_ws RX2 TX2 10) [335, 337, 339, 341, 343, 345, 347, 349, 351, 353] (by decide +kernel) (by decide +kernel) w hw
  refine List.mem_filter.mpr ⟨hg.1, ?_⟩
  have ha : (u_ws RX2 TX2 10).all goodWord = true := by decide +kernel
  exact List.all_eq_true.mp ha w hw
theorem kwsX3 : ∀ w ∈ u_ws RX3 TX3 3, w ∈ kU := fun w hw => by
  have hg := goodIn_r (big := lw_tbl) (u_ws RX3 TX3 3) [187, 189, 191] (by decide +kernel) (by decide +kernel) w hw
  refine List.mem_filter.mpr ⟨hg.1, ?_⟩
  have ha : (u_ws RX3 TX3 3).all goodWord = true := by decide +kernel
  exact List.all_eq_true.mp ha w hw
theorem kwsX4 : ∀ w ∈ u_ws RX4 TX4 3, w ∈ kU := fun w hw => by
  have hg := goodIn_r (big := lw_tbl) (u_ws RX4 TX4 3) [299, 301, 303] (by decide +kernel) (by decide +kernel) w hw
  refine List.mem_filter.mpr ⟨hg.1, ?_⟩
  have ha : (u_ws RX4 TX4 3).all goodWord = true := by decide +kernel
  exact List.all_eq_true.mp ha w hw
theorem kwsX6 : ∀ w ∈ u_ws RX6 TX6 2, w ∈ kU := fun w hw => by
  have hg := goodIn_r (big := lw_tbl) (u_ws RX6 TX6 2) [179, 181] (by decide +kernel) (by decide +kernel) w hw
  refine List.mem_filter.mpr ⟨hg.1, ?_⟩
  have ha : (u_ws RX6 TX6 2).all goodWord = true := by decide +kernel
  exact List.all_eq_true.mp ha w hw
theorem kwsX7 : ∀ w ∈ u_ws RX7 TX7 3, w ∈ kU := fun w hw => by
  have hg := goodIn_r (big := lw_tbl) (u_ws RX7 TX7 3) [249, 251, 253] (by decide +kernel) (by decide +kernel) w hw
  refine List.mem_filter.mpr ⟨hg.1, ?_⟩
  have ha : (u_ws RX7 TX7 3).all goodWord = true := by decide +kernel
  exact List.all_eq_true.mp ha w hw
theorem kwsX8 : ∀ w ∈ u_ws RX8 TX8 3, w ∈ kU := fun w hw => by
  have hg := goodIn_r (big := lw_tbl) (u_ws RX8 TX8 3) [211, 213, 215] (by decide +kernel) (by decide +kernel) w hw
  refine List.mem_filter.mpr ⟨hg.1, ?_⟩
  have ha : (u_ws RX8 TX8 3).all goodWord = true := by decide +kernel
  exact List.all_eq_true.mp ha w hw
theorem kwsX9 : ∀ w ∈ u_ws RX9 TX9 5, w ∈ kU := fun w hw => by
  have hg := goodIn_r (big := lw_tbl) (u_ws RX9 TX9 5) [231, 233, 235, 237, 239] (by decide +kernel) (by decide +kernel) w hw
  refine List.mem_filter.mpr ⟨hg.1, ?_⟩
  have ha : (u_ws RX9 TX9 5).all goodWord = true := by decide +kernel
  exact List.all_eq_true.mp ha w hw
theorem kwsX10 : ∀ w ∈ u_ws RX10 TX10 3, w ∈ kU := fun w hw => by
  have hg := goodIn_r (big := lw_tbl) (u_ws RX10 TX10 3) [277, 279, 281] (by decide +kernel) (by decide +kernel) w hw
  refine List.mem_filter.mpr ⟨hg.1, ?_⟩
  have ha : (u_ws RX10 TX10 3).all goodWord = true := by decide +kernel
  exact List.all_eq_true.mp ha w hw
theorem kwsX11 : ∀ w ∈ u_ws RX11 TX11 16, w ∈ kU := fun w hw => by
  have hg := goodIn_r (big := lw_tbl) (u_ws RX11 TX11 16) [428, 430, 432, 434, 436, 438, 440, 442, 444, 446, 448, 450, 452, 454, 456, 458] (by decide +kernel) (by decide +kernel) w hw
  refine List.mem_filter.mpr ⟨hg.1, ?_⟩
  have ha : (u_ws RX11 TX11 16).all goodWord = true := by decide +kernel
  exact List.all_eq_true.mp ha w hw
theorem kwsX12 : ∀ w ∈ u_ws RX12 TX12 49, w ∈ kU := fun w hw => by
  have hg := goodIn_r (big := lw_tbl) (u_ws RX12 TX12 49) [1073, 1075, 1077, 1079, 1081, 1083, 1085, 1087, 1089, 1091, 1093, 1095, 1097, 1099, 1101, 1103, 1105, 1107, 1109, 1111, 1113, 1115, 1117, 1119, 1121, 1123, 1125, 1127, 1129, 1131, 1133, 1135, 1137, 1139, 1141, 1143, 1145, 1147, 1149, 1151, 1153, 1155, 1157, 1159, 1161, 1163, 1165, 1167, 1169] (by decide +kernel) (by decide +kernel) w hw
  refine List.mem_filter.mpr ⟨hg.1, ?_⟩
  have ha : (u_ws RX12 TX12 49).all goodWord = true := by decide +kernel
  exact List.all_eq_true.mp ha w hw
def kfty : Nat → Nat → FieldType
  | 0 => tyX0
  | 1 => tyX1
  | 2 => tyX2
  | 3 => tyX3
  | 4 => tyX4
  | 5 => tyX6
  | 6 => tyX7
  | 7 => tyX8
  | 8 => tyX9
  | 9 => tyX10
  | 10 => tyX11
  | 11 => tyX12
  | _ => fun _ => .int
theorem kcl_ok : ∀ (ci : Nat) (C : String) (T : u_T) (N : Nat), vwCl[ci]? = some (C, T, N) → (∀ w ∈ u_ws C T N, w ∈ kU) ∧ (∀ k, k < N → parseFieldDescriptor (T k).2.2.1 = some (kfty ci k)) ∧ (∀ a, a < N → ∀ b, b < N → a ≠ b → (T a).2.1 ≠ (T b).2.1)
  | 0, C, T, N, h => by cases h; exact ⟨kwsX0, tyX0_ok, nmX0⟩
  | 1, C, T, N, h => by cases h; exact ⟨kwsX1, tyX1_ok, nmX1⟩
  | 2, C, T, N, h => by cases h; exact ⟨kwsX2, tyX2_ok, nmX2⟩
  | 3, C, T, N, h => by cases h; exact ⟨kwsX3, tyX3_ok, nmX3⟩
  | 4, C, T, N, h => by cases h; exact ⟨kwsX4, tyX4_ok, nmX4⟩
  | 5, C, T, N, h => by cases h; exact ⟨kwsX6, tyX6_ok, nmX6⟩
  | 6, C, T, N, h => by cases h; exact ⟨kwsX7, tyX7_ok, nmX7⟩
  | 7, C, T, N, h => by cases h; exact ⟨kwsX8, tyX8_ok, nmX8⟩
  | 8, C, T, N, h => by cases h; exact ⟨kwsX9, tyX9_ok, nmX9⟩
  | 9, C, T, N, h => by cases h; exact ⟨kwsX10, tyX10_ok, nmX10⟩
  | 10, C, T, N, h => by cases h; exact ⟨kwsX11, tyX11_ok, nmX11⟩
  | 11, C, T, N, h => by cases h; exact ⟨kwsX12, tyX12_ok, nmX12⟩
  | ci + 12, C, T, N, h => by simp [vwCl] at h
/-- final or not -/
def kfin (ci k : Nat) : Bool := match vwCl[ci]? with
  | some q => (q.2.1 k).2.2.2
  | none => false
theorem narrow_ref (ty : FieldType) (a : Nat) : narrow ty (.ref a) = .ref a := by cases ty <;> rfl
section KH
variable {K : kK} {bc bs bc' bs' : Nat} {M M' : kM} {pc n t : Nat} {lc : kLo} {st : List Value} {G : kG} {Q Q' : kO → kG → Prop}
theorem V_getf {idx ci k a : Nat} {fs : List Value} {v : Value} (h : kf M pc = some (.getfield idx, n, t)) (hf : kFt (mcn M) idx = some (ci, k)) (hcn : kcn (mcn M) = (my M).cls) (ha : G.1 a = some (.inr (ci, fs))) (hv : fs[k]? = some v) (kk : V K bc bs M n lc (v :: st) G Q) : V K bc bs M pc lc (.ref a :: st) G Q := by
  intro hM p e R s m args below meth c H locs cells slots ls hC hB hS hH hL
  obtain ⟨hd, hn, -⟩ := hM.dec h rfl
  subst hn
  obtain ⟨C, T, N, hc, hk, hl⟩ := kFt_ok hf
  rw [hcn] at hl
  refine va_get hC.1 hC.2.1 (ws := [(kad K a, kshE K (.inr (ci, fs)))]) hC.2.2.2.2.2.2.2.2.1 (kcl_ok ci C T N hc).1 hC.2.2.2.2.2.2.1 hC.2.2.2.2.2.2.2.2.2.2.1 (fun k q hq => ?_) 0 rfl hc k hk (hC.2.2.2.2.2.2.2.2.1 _ hl) (fun x hx => hx) (v := ksh K v) (by rw [List.getElem?_map, hv]; rfl) hd
    (kk hM p e R s m args below meth c H locs cells slots ls hC hB hS hH hL)
  match k, hq with
  | 0, hq => cases hq; exact (hH.1 a _ ha).2
theorem kput_at {ci k a : Nat} {fs : List Value} {v : Value} {H1 : Heap} (h : va_P (kD K) vwCl ([(kad K a, kshE K (.inr (ci, fs)))].set 0 (kad K a, .inr (ci, (fs.map (ksh K)).set k (ksh K v)))) H1) : va_at (kD K) vwCl (kad K a, kshE K (.inr (ci, fs.set k v))) H1 := by
  have := h 0 _ rfl
  simpa [kshE, List.map_set] using this
theorem V_putf {idx ci k a : Nat} {fs : List Value} {v : Value} (h : kf M pc = some (.putfield idx, n, t)) (hf : kFt (mcn M) idx = some (ci, k)) (hcn : kcn (mcn M) = (my M).cls) (hfi : kfin ci k = false) (ha : G.1 a = some (.inr (ci, fs))) (hkl : k < fs.length) (hv : narrow (kfty ci k) (ksh K v) = ksh K v ∧ fits (kfty ci k) (ksh K v) = true) (kk : V K bc bs M n lc st (hup G a (.inr (ci, fs.set k v))) Q) : V K bc bs M pc lc (v :: .ref a :: st) G Q := by
  intro hM p e R s m args below meth c H locs cells slots ls hC hB hS hH hL
  obtain ⟨hd, hn, -⟩ := hM.dec h rfl
  subst hn
  obtain ⟨C, T, N, hc, hk, hl⟩ := kFt_ok hf
  rw [hcn] at hl
  obtain ⟨q1, q2, q3⟩ := kcl_ok ci C T N hc
  have hfin : (T k).2.2.2 = false := by unfold kfin at hfi; rw [hc] at hfi; exact hfi
  have hts := hC.2.2.2.2.2.2.2.2.1
  have hown := hC.2.2.2.2.2.2.1
  have hK : va_K (kD K) vwCl (ktys K) s := hC.2.2.2.2.2.2.2.2.2.2.1
  have hap := va_apart (own := (my M).cls) hts q1 (kfty ci) q2 q3 hK hc
  obtain ⟨r, h1, cell, g1, g2, g3, g4⟩ := (hH.1 a _ ha).2
  have hr : r = (C, T, N) := Option.some.inj (h1.symm.trans hc)
  subst hr
  obtain ⟨hSl, hfc, kC, hkC, hkind⟩ := hK.1 ci _ hc
  obtain ⟨cf, kf, fi, f, hi, hsl⟩ := hSl k hk
  have hlay := hts _ (q1 _ (u_in_lay hk))
  unfold u_lay at hlay
  rw [if_neg (by rw [hfin]; decide)] at hlay
  have hst := (u_facts hfc hkC (u_lays hts q1 hk) hi).1
  have h6 := u_store hfc hkC hkind hlay hi (q2 k hk) hv.1 hv.2
  refine W.putK hC.1 hC.2.1 (f := f) ⟨hown, hts _ hl, ⟨_, _, _, hi⟩, hst⟩ (by rw [g2]; exact h6) g1 g3 (by rw [hsl]; exact k2_hasslot (g4 k hk)) rfl rfl hd fun H' e1 e2 e3 => ?_
  rw [hsl] at e1 ⊢
  refine kk hM p e R s m args below meth c H' _ cells slots ls hC hB (hS.put e2 e3 (show kb K ≤ kad K a by rw [kad_lt (hH.1 a _ ha).1]; omega)) (hH.set ha ?_ e2 e3) hL
  refine ⟨_, hc, t_OB.to (V := updV (vp_V (fs.map (ksh K))) k (ksh K v)) ⟨_, e1, g2, g3, t_set g4 hap hk (ksh K v)⟩ (fun j _ => ?_)⟩
  rw [vp_updV_set (by simpa using hkl) (ksh K v) j]
  simp only [List.map_set]
theorem V_putF {idx ci k a : Nat} {fs : List Value} {v : Value} (h : kf M pc = some (.putfield idx, n, t)) (hf : kFt (mcn M) idx = some (ci, k)) (hcn : kcn (mcn M) = (my M).cls) (hfi : kfin ci k = true) (hini : (my M).name = "<init>") (hdecl : (vwCl[ci]?).map (fun q => (q.2.1 k).1) = some (my M).cls) (ha : G.1 a = some (.inr (ci, fs))) (hkl : k < fs.length) (hv : narrow (kfty ci k) (ksh K v) = ksh K v ∧ fits (kfty ci k) (ksh K v) = true) (kk : V K bc bs M n lc st (hup G a (.inr (ci, fs.set k v))) Q) : V K bc bs M pc lc (v :: .ref a :: st) G Q := by
  intro hM p e R s m args below meth c H locs cells slots ls hC hB hS hH hL
  obtain ⟨hd, hn, -⟩ := hM.dec h rfl
  subst hn
  obtain ⟨C, T, N, hc, hk, hl⟩ := kFt_ok hf
  rw [hcn] at hl
  obtain ⟨q1, q2, q3⟩ := kcl_ok ci C T N hc
  have hfin : (T k).2.2.2 = true := by unfold kfin at hfi; rw [hc] at hfi; exact hfi
  have hdec : (T k).1 = (my M).cls := by rw [hc] at hdecl; exact Option.some.inj hdecl
  have hts := hC.2.2.2.2.2.2.2.2.1
  have hown := hC.2.2.2.2.2.2.1
  have hK : va_K (kD K) vwCl (ktys K) s := hC.2.2.2.2.2.2.2.2.2.2.1
  have hap := va_apart (own := (my M).cls) hts q1 (kfty ci) q2 q3 hK hc
  obtain ⟨r, h1, cell, g1, g2, g3, g4⟩ := (hH.1 a _ ha).2
  have hr : r = (C, T, N) := Option.some.inj (h1.symm.trans hc)
  subst hr
  obtain ⟨hSl, hfc, kC, hkC, hkind⟩ := hK.1 ci _ hc
  obtain ⟨cf, kf, fi, f, hi, hsl⟩ := hSl k hk
  have hlay := hts _ (q1 _ (u_in_lay hk))
  unfold u_lay at hlay
  rw [if_pos hfin] at hlay
  have hst := (u_facts hfc hkC (u_lays hts q1 hk) hi).1
  have hcf : m.cls = cf := by
    obtain ⟨_, _, c', _, _, _, -, -, hf', -, -, -, hown2, -⟩ := Cond.laysFinal_spec hlay
    have e1 : c' = cf := by have := hi.symm.trans hf'; simp at this; exact this.1.symm
    simp only [hdec] at hown2
    rw [← e1]; exact Option.some.inj (hown.symm.trans hown2)
  have h6 := u_fits hfc hkC hkind (Or.inr hlay) hi (q2 k hk) hv.1 hv.2
  refine W.putFinK hC.1 hC.2.1 hown (hts _ hl) hi hst hcf (hC.2.2.2.2.2.1 hini) (by rw [g2]; exact h6) g1 g3 (by rw [hsl]; exact k2_hasslot (g4 k hk)) rfl rfl hd fun H' e1 e2 e3 => ?_
  rw [hsl] at e1 ⊢
  refine kk hM p e R s m args below meth c H' _ cells slots ls hC hB (hS.put e2 e3 (show kb K ≤ kad K a by rw [kad_lt (hH.1 a _ ha).1]; omega)) (hH.set ha ?_ e2 e3) hL
  refine ⟨_, hc, t_OB.to (V := updV (vp_V (fs.map (ksh K))) k (ksh K v)) ⟨_, e1, g2, g3, t_set g4 hap hk (ksh K v)⟩ (fun j _ => ?_)⟩
  rw [vp_updV_set (by simpa using hkl) (ksh K v) j]
  simp only [List.map_set]
theorem V_iald {a N : Nat} {f : Nat → Int32} {i : Int32} (h : kf M pc = some (.iaload, n, t)) (ha : G.1 a = some (.inl (0, N, .inl f))) (hi : vp_in i N) (kk : V K bc bs M n lc (.int (f i.toNatClampNeg) :: st) G Q) : V K bc bs M pc lc (.int i :: .ref a :: st) G Q := by
  intro hM p e R s m args below meth c H locs cells slots ls hC hB hS hH hL
  obtain ⟨hd, hn, -⟩ := hM.dec h rfl
  subst hn
  refine va_iald hC.1 hC.2.1 hC.2.2.2.2.2.2.2.2.2.2.1 (ws := [(kad K a, kshE K (.inl (0, N, .inl f)))]) (fun k q hq => ?_) 0 0 rfl rfl hi hd (kk hM p e R s m args below meth c H locs cells slots ls hC hB hS hH hL)
  match k, hq with
  | 0, hq => cases hq; exact (hH.1 a _ ha).2
theorem V_bald {a N : Nat} {f : Nat → Int32} {i : Int32} (h : kf M pc = some (.baload, n, t)) (ha : G.1 a = some (.inl (1, N, .inl f))) (hi : vp_in i N) (kk : V K bc bs M n lc (.int (f i.toNatClampNeg) :: st) G Q) : V K bc bs M pc lc (.int i :: .ref a :: st) G Q := by
  intro hM p e R s m args below meth c H locs cells slots ls hC hB hS hH hL
  obtain ⟨hd, hn, -⟩ := hM.dec h rfl
  subst hn
  refine va_bald hC.1 hC.2.1 hC.2.2.2.2.2.2.2.2.2.2.1 (ws := [(kad K a, kshE K (.inl (1, N, .inl f)))]) (fun k q hq => ?_) 0 1 rfl rfl hi hd (kk hM p e R s m args below meth c H locs cells slots ls hC hB hS hH hL)
  match k, hq with
  | 0, hq => cases hq; exact (hH.1 a _ ha).2
theorem V_zald {a N : Nat} {f : Nat → Int32} {i : Int32} (h : kf M pc = some (.baload, n, t)) (ha : G.1 a = some (.inl (3, N, .inl f))) (hi : vp_in i N) (kk : V K bc bs M n lc (.int (f i.toNatClampNeg) :: st) G Q) : V K bc bs M pc lc (.int i :: .ref a :: st) G Q := by
  intro hM p e R s m args below meth c H locs cells slots ls hC hB hS hH hL
  obtain ⟨hd, hn, -⟩ := hM.dec h rfl
  subst hn
  refine va_zald hC.1 hC.2.1 hC.2.2.2.2.2.2.2.2.2.2.1 (ws := [(kad K a, kshE K (.inl (3, N, .inl f)))]) (fun k q hq => ?_) 0 3 rfl rfl hi hd (kk hM p e R s m args below meth c H locs cells slots ls hC hB hS hH hL)
  match k, hq with
  | 0, hq => cases hq; exact (hH.1 a _ ha).2
theorem V_lald {a N : Nat} {f : Nat → Int64} {i : Int32} (h : kf M pc = some (.laload, n, t)) (ha : G.1 a = some (.inl (2, N, .inr (.inl f)))) (hi : vp_in i N) (kk : V K bc bs M n lc (.long (f i.toNatClampNeg) :: st) G Q) : V K bc bs M pc lc (.int i :: .ref a :: st) G Q := by
  intro hM p e R s m args below meth c H locs cells slots ls hC hB hS hH hL
  obtain ⟨hd, hn, -⟩ := hM.dec h rfl
  subst hn
  refine va_lald hC.1 hC.2.1 hC.2.2.2.2.2.2.2.2.2.2.1 (ws := [(kad K a, kshE K (.inl (2, N, .inr (.inl f))))]) (fun k q hq => ?_) 0 2 rfl rfl hi hd (kk hM p e R s m args below meth c H locs cells slots ls hC hB hS hH hL)
  match k, hq with
  | 0, hq => cases hq; exact (hH.1 a _ ha).2
theorem V_iast {a N : Nat} {f : Nat → Int32} {i : Int32} {x : Int32} (h : kf M pc = some (.iastore, n, t)) (ha : G.1 a = some (.inl (0, N, .inl f))) (hi : vp_in i N) (kk : V K bc bs M n lc st (hup G a (.inl (0, N, .inl (upd f i.toNatClampNeg x)))) Q) : V K bc bs M pc lc (.int x :: .int i :: .ref a :: st) G Q := by
  intro hM p e R s m args below meth c H locs cells slots ls hC hB hS hH hL
  obtain ⟨hd, hn, -⟩ := hM.dec h rfl
  subst hn
  have hK : va_K (kD K) vwCl (ktys K) s := hC.2.2.2.2.2.2.2.2.2.2.1
  have hcell : H[kad K a]? = some (vp_cell (ktc K 0) (N, .inl f)) := (hH.1 a _ ha).2
  refine W.iast hC.1 hC.2.1 hcell ((hK.2 0 _ rfl).1 N (fun j => .int (f j))) (fun q => by cases q) (by show ¬ (i < 0 ∨ (arrV _ _ _).slots.size ≤ _); rw [arrV_size]; exact hi) rfl rfl hd fun H1 e1 z oq => ?_
  refine kk hM p e R s m args below meth c H1 _ cells slots ls hC hB (hS.put z oq (show kb K ≤ kad K a by rw [kad_lt (hH.1 a _ ha).1]; omega)) (hH.set ha ?_ z oq) hL
  show H1[kad K a]? = some (vp_cell _ _)
  rw [e1]
  rw [vp_cell_i, vp_cell_i, arrV_store]
  congr 2
  funext q
  by_cases hq : q = i.toNatClampNeg
  · subst hq
    simp [updV, upd]
  · simp [updV, upd, hq]
theorem V_bast {a N : Nat} {f : Nat → Int32} {i : Int32} {x : Int32} (h : kf M pc = some (.bastore, n, t)) (ha : G.1 a = some (.inl (1, N, .inl f))) (hi : vp_in i N) (kk : V K bc bs M n lc st (hup G a (.inl (1, N, .inl (upd f i.toNatClampNeg x.toInt8.toInt32)))) Q) : V K bc bs M pc lc (.int x :: .int i :: .ref a :: st) G Q := by
  intro hM p e R s m args below meth c H locs cells slots ls hC hB hS hH hL
  obtain ⟨hd, hn, -⟩ := hM.dec h rfl
  subst hn
  have hK : va_K (kD K) vwCl (ktys K) s := hC.2.2.2.2.2.2.2.2.2.2.1
  have hcell : H[kad K a]? = some (vp_cell (ktc K 1) (N, .inl f)) := (hH.1 a _ ha).2
  refine W.bast hC.1 hC.2.1 hcell ((hK.2 1 _ rfl).1 N (fun j => .int (f j))) (fun q => by cases q) (by show ¬ (i < 0 ∨ (arrV _ _ _).slots.size ≤ _); rw [arrV_size]; exact hi) rfl rfl hd fun H1 e1 z oq => ?_
  refine kk hM p e R s m args below meth c H1 _ cells slots ls hC hB (hS.put z oq (show kb K ≤ kad K a by rw [kad_lt (hH.1 a _ ha).1]; omega)) (hH.set ha ?_ z oq) hL
  show H1[kad K a]? = some (vp_cell _ _)
  rw [e1]
  rw [vp_cell_i, vp_cell_i, arrV_store]
  congr 2
  funext q
  by_cases hq : q = i.toNatClampNeg
  · subst hq
    simp [updV, upd, narrow_byte]
  · simp [updV, upd, narrow_byte, hq]
theorem V_zast {a N : Nat} {f : Nat → Int32} {i : Int32} {x : Int32} (h : kf M pc = some (.bastore, n, t)) (ha : G.1 a = some (.inl (3, N, .inl f))) (hi : vp_in i N) (kk : V K bc bs M n lc st (hup G a (.inl (3, N, .inl (upd f i.toNatClampNeg (x &&& 1))))) Q) : V K bc bs M pc lc (.int x :: .int i :: .ref a :: st) G Q := by
  intro hM p e R s m args below meth c H locs cells slots ls hC hB hS hH hL
  obtain ⟨hd, hn, -⟩ := hM.dec h rfl
  subst hn
  have hK : va_K (kD K) vwCl (ktys K) s := hC.2.2.2.2.2.2.2.2.2.2.1
  have hcell : H[kad K a]? = some (vp_cell (ktc K 3) (N, .inl f)) := (hH.1 a _ ha).2
  refine W.zast hC.1 hC.2.1 hcell ((hK.2 3 _ rfl).1 N (fun j => .int (f j))) (fun q => by cases q) (by show ¬ (i < 0 ∨ (arrV _ _ _).slots.size ≤ _); rw [arrV_size]; exact hi) rfl rfl hd fun H1 e1 z oq => ?_
  refine kk hM p e R s m args below meth c H1 _ cells slots ls hC hB (hS.put z oq (show kb K ≤ kad K a by rw [kad_lt (hH.1 a _ ha).1]; omega)) (hH.set ha ?_ z oq) hL
  show H1[kad K a]? = some (vp_cell _ _)
  rw [e1]
  rw [vp_cell_i, vp_cell_i, arrV_store]
  congr 2
  funext q
  by_cases hq : q = i.toNatClampNeg
  · subst hq
    simp [updV, upd, narrow]
  · simp [updV, upd, narrow, hq]
theorem V_last {a N : Nat} {f : Nat → Int64} {i : Int32} {x : Int64} (h : kf M pc = some (.lastore, n, t)) (ha : G.1 a = some (.inl (2, N, .inr (.inl f)))) (hi : vp_in i N) (kk : V K bc bs M n lc st (hup G a (.inl (2, N, .inr (.inl (vp_updL f i.toNatClampNeg x))))) Q) : V K bc bs M pc lc (.long x :: .int i :: .ref a :: st) G Q := by
  intro hM p e R s m args below meth c H locs cells slots ls hC hB hS hH hL
  obtain ⟨hd, hn, -⟩ := hM.dec h rfl
  subst hn
  have hK : va_K (kD K) vwCl (ktys K) s := hC.2.2.2.2.2.2.2.2.2.2.1
  have hcell : H[kad K a]? = some (vp_cell (ktc K 2) (N, .inr (.inl f))) := (hH.1 a _ ha).2
  refine W.last hC.1 hC.2.1 hcell ((hK.2 2 _ rfl).1 N (fun j => .long (f j))) (fun q => by cases q) (by show ¬ (i < 0 ∨ (arrV _ _ _).slots.size ≤ _); rw [arrV_size]; exact hi) rfl rfl hd fun H1 e1 z oq => ?_
  refine kk hM p e R s m args below meth c H1 _ cells slots ls hC hB (hS.put z oq (show kb K ≤ kad K a by rw [kad_lt (hH.1 a _ ha).1]; omega)) (hH.set ha ?_ z oq) hL
  show H1[kad K a]? = some (vp_cell _ _)
  rw [e1]
  rw [vp_cell_l, vp_cell_l, arrV_store]
  congr 2
  funext q
  by_cases hq : q = i.toNatClampNeg
  · subst hq
    simp [updV, vp_updL]
  · simp [updV, vp_updL, hq]
theorem V_aald {a N : Nat} {f : Nat → Option Nat} {i : Int32} {q : Nat} (h : kf M pc = some (.aaload, n, t)) (ha : G.1 a = some (.inl (4, N, .inr (.inr (.inr (.inr f)))))) (hi : vp_in i N) (hq : f i.toNatClampNeg = some q) (kk : V K bc bs M n lc (.ref q :: st) G Q) : V K bc bs M pc lc (.int i :: .ref a :: st) G Q := by
  intro hM p e R s m args below meth c H locs cells slots ls hC hB hS hH hL
  obtain ⟨hd, hn, -⟩ := hM.dec h rfl
  subst hn
  refine va_aldq hC.1 hC.2.1 hC.2.2.2.2.2.2.2.2.2.2.1 (ws := [(kad K a, kshE K (.inl (4, N, .inr (.inr (.inr (.inr f))))))]) (fun k q hq => ?_) 0 4 rfl rfl hi hd ?_
  · match k, hq with
    | 0, hq => cases hq; exact (hH.1 a _ ha).2
  · rw [hq]
    exact kk hM p e R s m args below meth c H locs cells slots ls hC hB hS hH hL
/-- rows that were there before -/
theorem V_isld {j L : Nat} {xs : Nat → Int32} {i : Int32} (h : kf M pc = some (.iaload, n, t)) (ha : kSX K j = some (L, xs)) (hi : vp_in i L) (kk : V K bc bs M n lc (.int (xs i.toNatClampNeg) :: st) G Q) : V K bc bs M pc lc (.int i :: .ref (1000000 + j) :: st) G Q := by
  intro hM p e R s m args below meth c H locs cells slots ls hC hB hS hH hL
  obtain ⟨hd, hn, -⟩ := hM.dec h rfl
  subst hn
  obtain ⟨w1, w2, w3, -, -, w7, -⟩ := hC.2.2.2.2.2.2.2.2.2
  obtain ⟨x1, x2⟩ := w3 j L xs ha
  have hq : ksh K (.ref (1000000 + j)) = .ref (ksd K j) := by simp [ksh, kad]; omega
  simp only [List.map_cons, hq]
  exact va_sld hC.1 hC.2.1 x2 (by omega) (Nat.not_le.mpr x1) hS hi hd (kk hM p e R s m args below meth c H locs cells slots ls hC hB hS hH hL)
theorem V_slen {j L : Nat} {xs : Nat → Int32} (h : kf M pc = some (.arraylength, n, t)) (ha : kSX K j = some (L, xs)) (kk : V K bc bs M n lc (.int (nI L) :: st) G Q) : V K bc bs M pc lc (.ref (1000000 + j) :: st) G Q := by
  intro hM p e R s m args below meth c H locs cells slots ls hC hB hS hH hL
  obtain ⟨hd, hn, -⟩ := hM.dec h rfl
  subst hn
  obtain ⟨w1, w2, w3, -, -, w7, -⟩ := hC.2.2.2.2.2.2.2.2.2
  obtain ⟨x1, x2⟩ := w3 j L xs ha
  have hq : ksh K (.ref (1000000 + j)) = .ref (ksd K j) := by simp [ksh, kad]; omega
  simp only [List.map_cons, hq]
  exact va_slen hC.1 hC.2.1 x2 (by omega) (Nat.not_le.mpr x1) hS hd (kk hM p e R s m args below meth c H locs cells slots ls hC hB hS hH hL)
theorem V_alen {a tg N : Nat} {x : (Nat → Int32) ⊕ (Nat → Int64) ⊕ (Nat → UInt32) ⊕ (Nat → UInt64) ⊕ (Nat → Option Nat)} (h : kf M pc = some (.arraylength, n, t)) (ha : G.1 a = some (.inl (tg, N, x))) (htg : tg < 5) (kk : V K bc bs M n lc (.int (nI N) :: st) G Q) : V K bc bs M pc lc (.ref a :: st) G Q := by
  intro hM p e R s m args below meth c H locs cells slots ls hC hB hS hH hL
  obtain ⟨hd, hn, -⟩ := hM.dec h rfl
  subst hn
  have ht : ∃ ty, (ktys K)[tg]? = some (ktc K tg, ty) := by
    match tg, htg with
    | 0, _ => exact ⟨_, rfl⟩
    | 1, _ => exact ⟨_, rfl⟩
    | 2, _ => exact ⟨_, rfl⟩
    | 3, _ => exact ⟨_, rfl⟩
    | 4, _ => exact ⟨_, rfl⟩
  obtain ⟨ty, ht⟩ := ht
  have hsh : ∃ x', kshE K (.inl (tg, N, x)) = .inl (ktc K tg, N, x') := by
    rcases x with f | f | f | f | f <;> exact ⟨_, rfl⟩
  obtain ⟨x', hsh⟩ := hsh
  refine va_alen hC.1 hC.2.1 hC.2.2.2.2.2.2.2.2.2.2.1 (ws := [(kad K a, kshE K (.inl (tg, N, x)))]) (fun k q hq => ?_) 0 tg (by rw [hsh]; rfl) ht (v := nI N) rfl hd (kk hM p e R s m args below meth c H locs cells slots ls hC hB hS hH hL)
  match k, hq with
  | 0, hq => cases hq; exact (hH.1 a _ ha).2
theorem V_gets {j : Nat} {idx : Nat} {C nm d : String} (h : kf M pc = some (.getstatic idx, n, t)) (hj : kst j = some (C, nm, d)) (hl : Cond.fieldLink (my M).cls idx C nm d ∈ kU) (kk : V K bc bs M n lc (.ref (1000000 + j) :: st) G Q) : V K bc bs M pc lc st G Q := by
  intro hM p e R s m args below meth c H locs cells slots ls hC hB hS hH hL
  obtain ⟨hd, hn, -⟩ := hM.dec h rfl
  subst hn
  have hq : ksh K (.ref (1000000 + j)) = .ref (ksd K j) := by simp [ksh, kad]; omega
  have k2 := kk hM p e R s m args below meth c H locs cells slots ls hC hB hS hH hL
  simp only [List.map_cons, hq] at k2
  exact va_gets hC.1 hC.2.1 (hC.2.2.2.2.2.2.2.2.2.2.2.2.1 j C nm d hj) hS hC.2.2.2.2.2.2.1 (hC.2.2.2.2.2.2.2.2.1 _ hl) (fun x hx => hx) hd k2
theorem V_ldc {idx : Nat} {v : Int32} (h : kf M pc = some (.ldc idx, n, t)) (hl : Cond.constant (my M).cls idx v ∈ kU) (kk : V K bc bs M n lc (.int v :: st) G Q) : V K bc bs M pc lc st G Q := by
  intro hM p e R s m args below meth c H locs cells slots ls hC hB hS hH hL
  obtain ⟨hd, hn, -⟩ := hM.dec h rfl
  subst hn
  exact lv_ldc hC.1 hC.2.1 hC.2.2.2.2.2.2.1 (hC.2.2.2.2.2.2.2.2.1 _ hl) hd (kk hM p e R s m args below meth c H locs cells slots ls hC hB hS hH hL)
theorem V_ldc2 {idx : Nat} {v : Int64} (h : kf M pc = some (.ldc2_w idx, n, t)) (hl : Cond.constantLong (my M).cls idx v ∈ kU) (kk : V K bc bs M n lc (.long v :: st) G Q) : V K bc bs M pc lc st G Q := by
  intro hM p e R s m args below meth c H locs cells slots ls hC hB hS hH hL
  obtain ⟨hd, hn, -⟩ := hM.dec h rfl
  subst hn
  exact lv_ldc2 hC.1 hC.2.1 hC.2.2.2.2.2.2.1 (hC.2.2.2.2.2.2.2.2.1 _ hl) hd (kk hM p e R s m args below meth c H locs cells slots ls hC hB hS hH hL)
end KH
end
section
/-! rows that make cells; calls; throws -/
theorem ksh_def (K : kK) (ty : FieldType) : ksh K (defaultValue ty) = defaultValue ty := by cases ty <;> rfl
theorem kU_good {w : Cond} (h : w ∈ kU) : goodWord w = true := (List.mem_filter.mp h).2
/-- the words of a call -/
def kCw (own : String) (idx : Nat) (M' : kM) (np : Nat) : Prop := Cond.methodLink own idx (my M') ∈ kU ∧ kOK M' ∧ (parseMethodDescriptor (my M').desc).map (fun d => d.parameters.length) = some np
theorem kCB {K : kK} {M' : kM} {R : Room} {s : State} {args : Array Value} {own : String} {idx np mc ms : Nat} (hts : ∀ w ∈ kU, w.before args s = true) (hw : kCw own idx M' np) (hfr : mfr M' + 1 ≤ R.frames) (hlo : 8 + (mxl M' + 11) + mlo M' ≤ R.locals) :
    CallB R s args own idx (my M') (mby M') (mxl M') (mrt M') (Cond.code (my M') (mby M') (mxl M') (mrt M') :: kU) { frames := mfr M', cells := mc, slots := ms, locals := mlo M' } mc ms np := by
  obtain ⟨h1, h2, h3⟩ := hw
  refine ⟨rfl, rfl, hfr, hlo, ?_, List.mem_cons_self, hts _ h2.1, hts _ h2.2.2.2, h2.2.1.2, fun sig h => ?_, hts _ h1⟩
  · intro w hw a' U hW
    rcases List.mem_cons.mp hw with rfl | hw
    · exact word_at hW (good_of_word (kU_good h2.1)) (hts _ h2.1)
    · exact word_at hW (good_of_word (kU_good hw)) (hts _ hw)
  · rw [h] at h3
    exact (Option.some.inj h3).symm
theorem Met_of {l : Launch} {y : MethodName} {ws : List Cond} {rm : Room} {Pc : Array Value → State → Prop} {Qc : Array Value → State → Outcome → State → Prop} {XC : String → State → State → Prop} {mc ms : Nat} {free : Addr → Prop} (h : vx_Met l y ws rm Pc Qc XC mc ms free) (hx : ∀ E s t, ¬ XC E s t) : Met l y ws rm Pc Qc mc ms free := by
  intro p e h1 h2 h3 s m args below h4 h5 h6 h7
  obtain ⟨n, o, g1, g2, g3, g4⟩ := h p e h1 h2 h3 s m args below h4 h5 h6 h7
  refine ⟨n, o, g1, g2, g3, ?_⟩
  rcases g4 with q | ⟨q, -, E, ce, L, hq, -⟩
  · exact q
  · exact absurd hq (hx _ _ _)
section KC
variable {K : kK} {bc bs bc' bs' mc ms : Nat} {M M' : kM} {pc n t : Nat} {lc : kLo} {st : List Value} {G : kG} {Q Q' : kO → kG → Prop}
/-- what comes behind a call -/
theorem V_back {p : Program} {e : Env} {R : Room} {s : State} {m : MethodId} {args : Array Value} {below : List Frame} {meth : Method} {c : Code} {H : Heap} {locs : List Loc} {cells slots : Nat} {ls : Array Slot} {st0 : List Value} {a : Array Value}
    (hr : vx_Run p (kl K) e R s m args below meth c H locs cells slots mc ms (F0 m pc ls st0) (st.map (ksh K)) (kQc K Q' a) (kXC K Q') (kA K))
    (hM : kOK M) (hC : kCx K M p s m args meth c) (hB : mfr M ≤ R.frames ∧ mlo M ≤ R.locals ∧ cells + bc ≤ R.cells ∧ slots + bs ≤ R.slots) (hS : va_S (kA K) s.heap H locs) (hL : kLc K lc (mxl M) ls) (hb : mc + bc' ≤ bc ∧ ms + bs' ≤ bs)
    (kk : ∀ r G', Q' (.inl r) G' → V K bc' bs' M (pc + 3) lc (r.toList ++ st) G' Q) (kx : ∀ E G', Q' (.inr E) G' → Q (.inr E) G') :
    W p (kl K) e R s m args below meth c H locs cells slots (vx_MQ below (kQc K Q) (kXC K Q) args s R.cells R.slots (kA K)) (F0 m pc ls st0) := by
  intro T hT X
  rcases hr T hT X with ⟨v, st₀, t, T', L, h0, X', hL9, e1, e2, ⟨r, G', hv, hq, hH', hF⟩, stp⟩ | ⟨q, st₀, t, T', L, E, ce, h0, X', hL9, e1, e2, ⟨G', hq, hH', hF⟩, hce, hcv, hcl, stp⟩
  · obtain ⟨k1, k2, k3⟩ := vx_keep h0 e1 hS (A1 := kA K) (fun _ _ z => z) (fun _ z => z) hL9 hF
    have hv' : v = r.map (ksh K) := by cases hv; rfl
    subst hv'
    have hst : (Option.map (ksh K) r).toList ++ st.map (ksh K) = (r.toList ++ st).map (ksh K) := by cases r <;> simp
    obtain ⟨t2, a1, b1⟩ := kk r G' hq hM p e R s m args below meth c T'.heap (locs ++ L) (cells + mc) (slots + ms) ls hC ⟨hB.1, hB.2.1, by omega, by omega⟩ k3 (by rw [e1]; exact hH') hL T' rfl X'
    refine ⟨t2, stp t2 ?_, b1⟩
    rw [hst]
    exact a1
  · obtain ⟨k1, k2, k3⟩ := vx_keep h0 e1 hS (A1 := kA K) (fun _ _ z => z) (fun _ z => z) hL9 hF
    obtain ⟨t2, a1, b1⟩ := vx_out (p := p) (l := kl K) (e := e) (R := R) (s := s) (m := m) (args := args) (below := below) (meth := meth) (c := c) (H := T'.heap) (locs := locs ++ L) (cells := cells + mc) (slots := slots + ms) (free := kA K) (ls := ls) (rest := st.map (ksh K)) (Qc := kQc K Q) (XC := kXC K Q) (pc := pc) (E := E) (ce := ce) (q := q) (mc := R.cells) (ms := R.slots)
      (fun x hx => (hC.2.2.2.2.2.2.2.1 x hx).elim) hC.2.2.2.2.1 (by rw [e1]; exact hce) hcv hcl (fun t9 ht9 _ => ⟨G', kx E G' hq, by rw [ht9, e1]; exact hH', k3.F ht9⟩) k3.2.2 (by omega) (by omega) T' rfl X'
    exact ⟨t2, stp.trans a1, b1⟩
theorem V_callV {idx np b ci : Nat} {As : List Value} {fs : List Value} (h : kf M pc = some (.invokevirtual idx, n, t)) (hw : kCw (my M).cls idx M' np) (hi : Cond.instanceMethod (my M') ∈ kU ∧ Cond.selects (my M').cls (my M') (my M') ∈ kU) (hb : G.1 b = some (.inr (ci, fs))) (hcl : (vwCl[ci]?).map (fun q => q.1) = some (my M').cls) (hnp : As.length = np) (hst : (st.map fun v => v.category).sum ≤ 8) (hR : mfr M' + 1 ≤ mfr M ∧ 8 + (mxl M' + 11) + mlo M' ≤ mlo M) (hbu : mc + bc' ≤ bc ∧ ms + bs' ≤ bs)
    (hc : C K mc ms M' (.ref b :: As) G Q') (kk : ∀ r G', Q' (.inl r) G' → V K bc' bs' M n lc (r.toList ++ st) G' Q) (kx : ∀ E G', Q' (.inr E) G' → Q (.inr E) G') : V K bc bs M pc lc (As.reverse ++ .ref b :: st) G Q := by
  intro hM p e R s m args below meth c H locs cells slots ls hC hB hS hH hL
  obtain ⟨hd, hn, -⟩ := hM.dec h rfl
  subst hn
  have hts := hC.2.2.2.2.2.2.2.2.1
  have hwd : kW K s := hC.2.2.2.2.2.2.2.2.2
  have hrecv : ∃ cellB : Cell, H[kad K b]? = some cellB ∧ cellB.vm.isStatics = false ∧ s.vm.findClass (my M').cls = some cellB.cls := by
    obtain ⟨r, h1, cell, g1, g2, g3, -⟩ := (hH.1 b _ hb).2
    rw [h1] at hcl
    have e9 : r.1 = (my M').cls := Option.some.inj hcl
    exact ⟨cell, g1, by rw [g3]; rfl, by rw [g2, ← e9]; exact (hwd.2.1.1 ci r h1).2.1⟩
  refine V_back (vx_runV (As := As.map (ksh K)) (rest := st.map (ksh K)) (C := (my M').cls) (b := kad K b) (n := np) (mc := mc) (ms := ms) (Ts := kU) (Pc := kPc K (.ref b :: As) G) ⟨hC.1, hC.2.1, hC.2.2.1, hC.2.2.2.2.2.2.1, hts⟩ hc ⟨kCB (K := K) hts hw (Nat.le_trans hR.1 hB.1) (Nat.le_trans hR.2 hB.2.1), hts _ hi.1, hts _ hi.2⟩ ⟨kPc_blind _ _ _, hrecv, kPc_at hwd hS hH⟩ rfl (by simpa using hnp) hL.1 (by simp [ksh]) (by rw [ksh_sum]; show 2 * 0 + _ ≤ 8; omega) hd ⟨by omega, by omega⟩) hM hC hB hS hL hbu kk kx
theorem V_callS {idx np : Nat} {As : List Value} (h : kf M pc = some (.invokestatic idx, n, t)) (hw : kCw (my M).cls idx M' np) (hi : Cond.static (my M') ∈ kU) (hnp : As.length = np) (hst : (st.map fun v => v.category).sum ≤ 8) (hR : mfr M' + 1 ≤ mfr M ∧ 8 + (mxl M' + 11) + mlo M' ≤ mlo M) (hbu : mc + bc' ≤ bc ∧ ms + bs' ≤ bs)
    (hc : C K mc ms M' As G Q') (kk : ∀ r G', Q' (.inl r) G' → V K bc' bs' M n lc (r.toList ++ st) G' Q) (kx : ∀ E G', Q' (.inr E) G' → Q (.inr E) G') : V K bc bs M pc lc (As.reverse ++ st) G Q := by
  intro hM p e R s m args below meth c H locs cells slots ls hC hB hS hH hL
  obtain ⟨hd, hn, -⟩ := hM.dec h rfl
  subst hn
  have hts := hC.2.2.2.2.2.2.2.2.1
  have hwd : kW K s := hC.2.2.2.2.2.2.2.2.2
  refine V_back (vx_runS (As := As.map (ksh K)) (rest := st.map (ksh K)) (n := np) (mc := mc) (ms := ms) (Ts := kU) (Pc := kPc K As G) ⟨hC.1, hC.2.1, hC.2.2.1, hC.2.2.2.2.2.2.1, hts⟩ hc ⟨kCB (K := K) hts hw (Nat.le_trans hR.1 hB.1) (Nat.le_trans hR.2 hB.2.1), hts _ hi⟩ ⟨kPc_blind _ _ _, kPc_at hwd hS hH⟩ rfl (by simpa using hnp) hL.1 (by simp) (by rw [ksh_sum]; show 2 * 0 + _ ≤ 8; omega) hd ⟨by omega, by omega⟩) hM hC hB hS hL hbu kk kx
/-- a run that returns, as one that returns or throws -/
theorem run_x {p : Program} {e : Env} {R : Room} {s : State} {m : MethodId} {args : Array Value} {below : List Frame} {meth : Method} {c : Code} {H : Heap} {locs : List Loc} {cells slots : Nat} {g : JFrame} {rest : List Value} {l : Launch} {Qa : State → Outcome → State → Prop} {XC : String → State → State → Prop} {free : Addr → Prop} (h : va_Run p l e R s m args below meth c H locs cells slots mc ms g rest Qa free) : vx_Run p l e R s m args below meth c H locs cells slots mc ms g rest Qa XC free := fun T hT X => Or.inl (h T hT X)
theorem V_callI {idx np b : Nat} {As : List Value} (h : kf M pc = some (.invokespecial idx, n, t)) (hw : kCw (my M).cls idx M' np) (hi : (my M').name = "<init>" ∧ Cond.instanceMethod (my M') ∈ kU ∧ mrt M' = none) (hnp : As.length = np) (hst : (st.map fun v => v.category).sum ≤ 8) (hR : mfr M' + 1 ≤ mfr M ∧ 8 + (mxl M' + 11) + mlo M' ≤ mlo M) (hbu : mc + bc' ≤ bc ∧ ms + bs' ≤ bs)
    (hc : C K mc ms M' (.ref b :: As) G Q') (kx : ∀ E G', ¬ Q' (.inr E) G') (kk : ∀ r G', Q' (.inl r) G' → V K bc' bs' M n lc (r.toList ++ st) G' Q) : V K bc bs M pc lc (As.reverse ++ .ref b :: st) G Q := by
  intro hM p e R s m args below meth c H locs cells slots ls hC hB hS hH hL
  obtain ⟨hd, hn, -⟩ := hM.dec h rfl
  subst hn
  have hts := hC.2.2.2.2.2.2.2.2.1
  have hwd : kW K s := hC.2.2.2.2.2.2.2.2.2
  have hcb := kCB (K := K) (mc := mc) (ms := ms) hts hw (Nat.le_trans hR.1 hB.1) (Nat.le_trans hR.2 hB.2.1)
  have hc' : Met (kl K) (my M') (Cond.code (my M') (mby M') (mxl M') (mrt M') :: kU) { frames := mfr M', cells := mc, slots := ms, locals := mlo M' } (kPc K (.ref b :: As) G) (kQc K Q') mc ms (kA K) := Met_of hc (fun E s t q => by obtain ⟨G', q, -⟩ := q; exact kx E G' q)
  rw [hi.2.2] at hcb hc'
  refine V_back (run_x (XC := kXC K Q') (va_runI (As := As.map (ksh K)) (rest := st.map (ksh K)) (b := kad K b) (n := np) (mc := mc) (ms := ms) (Ts := kU) (Pc := kPc K (.ref b :: As) G) ⟨hC.1, hC.2.1, hC.2.2.1, hC.2.2.2.2.2.2.1, hts⟩ hc' ⟨hcb, hi.1, hts _ hi.2.1⟩ ⟨kPc_blind _ _ _, kPc_at hwd hS hH⟩ rfl (by simpa using hnp) hL.1 (by simp [ksh]) (by rw [ksh_sum]; show 2 * 0 + _ ≤ 8; omega) hd ⟨by omega, by omega⟩)) hM hC hB hS hL hbu kk (fun E G' q => absurd q (kx E G'))
theorem V_callN {idx np b : Nat} {As : List Value} (h : kf M pc = some (.invokespecial idx, n, t)) (hns : ((my M).cls, idx, my M') ∈ kNs) (hOK : kOK M') (hpr : (parseMethodDescriptor (my M').desc).map (fun d => d.parameters.length) = some np) (hi : (my M').name = "<init>" ∧ Cond.instanceMethod (my M') ∈ kU ∧ mrt M' = none) (hnp : As.length = np) (hst : (st.map fun v => v.category).sum ≤ 8) (hR : mfr M' + 1 ≤ mfr M ∧ 8 + (mxl M' + 11) + mlo M' ≤ mlo M) (hbu : mc + bc' ≤ bc ∧ ms + bs' ≤ bs)
    (hc : C K mc ms M' (.ref b :: As) G Q') (kx : ∀ E G', ¬ Q' (.inr E) G') (kk : ∀ r G', Q' (.inl r) G' → V K bc' bs' M n lc (r.toList ++ st) G' Q) : V K bc bs M pc lc (As.reverse ++ .ref b :: st) G Q := by
  intro hM p e R s m args below meth c H locs cells slots ls hC hB hS hH hL
  obtain ⟨hd, hn, -⟩ := hM.dec h rfl
  subst hn
  have hts := hC.2.2.2.2.2.2.2.2.1
  have hwd : kW K s := hC.2.2.2.2.2.2.2.2.2
  have hc' : Met (kl K) (my M') (Cond.code (my M') (mby M') (mxl M') (mrt M') :: kU) { frames := mfr M', cells := mc, slots := ms, locals := mlo M' } (kPc K (.ref b :: As) G) (kQc K Q') mc ms (kA K) := Met_of hc (fun E s t q => by obtain ⟨G', q, -⟩ := q; exact kx E G' q)
  have hcn : va_CN R s args (my M).cls idx (my M') RX11 (mby M') (mxl M') (mrt M') (Cond.code (my M') (mby M') (mxl M') (mrt M') :: kU) { frames := mfr M', cells := mc, slots := ms, locals := mlo M' } mc ms np := by
    refine ⟨⟨rfl, rfl, Nat.le_trans hR.1 hB.1, Nat.le_trans hR.2 hB.2.1, ?_, List.mem_cons_self⟩, hts _ hOK.1, hts _ hOK.2.2.2, hOK.2.1.2, fun sig h => ?_, va_Nw.use rfl (hwd.2.2.2.2.2.2.1 _ hns)⟩
    · intro w hw a' U hW
      rcases List.mem_cons.mp hw with rfl | hw
      · exact word_at hW (good_of_word (kU_good hOK.1)) (hts _ hOK.1)
      · exact word_at hW (good_of_word (kU_good hw)) (hts _ hw)
    · rw [h] at hpr
      exact (Option.some.inj hpr).symm
  rw [hi.2.2] at hcn hc'
  refine V_back (run_x (XC := kXC K Q') (va_runIN (As := As.map (ksh K)) (rest := st.map (ksh K)) (b := kad K b) (n := np) (mc := mc) (ms := ms) (Ts := kU) (Pc := kPc K (.ref b :: As) G) ⟨hC.1, hC.2.1, hC.2.2.1, hC.2.2.2.2.2.2.1, hts⟩ hc' ⟨hcn, hi.1, hts _ hi.2.1⟩ ⟨kPc_blind _ _ _, kPc_at hwd hS hH⟩ rfl (by simpa using hnp) hL.1 (by simp [ksh]) (by rw [ksh_sum]; show 2 * 0 + _ ≤ 8; omega) hd ⟨by omega, by omega⟩)) hM hC hB hS hL hbu kk (fun E G' q => absurd q (kx E G'))
theorem V_objinit {idx b : Nat} (h : kf M pc = some (.invokespecial idx, n, t)) (hw : Cond.methodLink (my M).cls idx Lib.objectInit ∈ kU ∧ Cond.instanceMethod Lib.objectInit ∈ kU ∧ Cond.code Lib.objectInit ⟨#[0xb1]⟩ 1 none ∈ kU) (hfr : 1 ≤ mfr M) (hlo : (st.map fun v => v.category).sum + 12 ≤ mlo M) (kk : V K bc bs M n lc st G Q) : V K bc bs M pc lc (.ref b :: st) G Q := by
  intro hM p e R s m args below meth c H locs cells slots ls hC hB hS hH hL
  obtain ⟨hd, hn, -⟩ := hM.dec h rfl
  subst hn
  have hts := hC.2.2.2.2.2.2.2.2.1
  exact W.objInit hC.1 hC.2.1 hC.2.2.2.2.2.2.1 (hts _ hw.1) (hts _ hw.2.1) (hts _ hw.2.2) rfl (hL.1.trans hC.2.2.1.symm) rfl hd (Nat.le_trans hfr hB.1) (by rw [ksh_sum]; show 2 * 0 + _ + 12 ≤ _; omega) (kk hM p e R s m args below meth c H locs cells slots ls hC hB hS hH hL)
theorem V_new {idx ci N nx : Nat} {C9 : String} {T9 : u_T} {fs : List Value} (h : kf M pc = some (.new idx, n, t)) (hc : vwCl[ci]? = some (C9, T9, N)) (hw : Cond.classLink (my M).cls idx C9 ∈ kU ∧ Cond.instantiable C9 N ∈ kU ∧ Cond.initialized C9 ∈ kU) (hfs : (List.range N).map (fun k => defaultValue (kfty ci k)) = fs) (hnx : G.2 = some nx) (hx : nx < 899999) (hb : bc' + 1 ≤ bc ∧ bs' + N ≤ bs) (kk : V K bc' bs' M n lc (.ref nx :: st) (fun j => if j = nx then some (.inr (ci, fs)) else G.1 j, some (nx + 1)) Q) : V K bc bs M pc lc st G Q := by
  intro hM p e R s m args below meth c H locs cells slots ls hC hB hS hH hL
  obtain ⟨hd, hn, -⟩ := hM.dec h rfl
  subst hn
  have hts := hC.2.2.2.2.2.2.2.2.1
  have hwd : kW K s := hC.2.2.2.2.2.2.2.2.2
  have hKn := hwd.2.1.1 ci _ hc
  obtain ⟨q1, q2, q3⟩ := kcl_ok ci C9 T9 N hc
  have hsz := (hH.2 nx hnx).1
  refine W.newcK hC.1 hC.2.1 hC.2.2.2.2.2.2.1 (hts _ hw.1) (hts _ hw.2.1) (hts _ hw.2.2) rfl hd (by omega) (by omega) hKn.2.1 rfl fun H1 kC hkC e1 z1 o1 => ?_
  have had : kad K nx = H.size := by rw [kad_lt (by omega)]; omega
  have k2 := kk hM p e R s m args below meth c H1 locs (cells + 1) (slots + N) ls hC ⟨hB.1, hB.2.1, by omega, by omega⟩ ⟨Nat.le_trans hS.1 (by omega), fun x h1 h2 => (o1 x (Nat.lt_of_lt_of_le h1 hS.1)).trans (hS.2.1 x h1 h2), hS.2.2⟩ (hH.push hnx hx (by
    rw [had]
    refine ⟨_, hc, (u_born (kfty ci) hts q1 hKn hkC e1 q2).to (fun j hj => ?_)⟩
    subst hfs
    simp [vp_V, hj, ksh_def]) z1 o1) hL
  simp only [List.map_cons, ksh, had] at k2
  exact k2
theorem V_newa {at9 : ArrayType} {ty : FieldType} {tg nx N : Nat} {x : Int32} {a0 : (Nat → Int32) ⊕ (Nat → Int64) ⊕ (Nat → UInt32) ⊕ (Nat → UInt64) ⊕ (Nat → Option Nat)} (h : kf M pc = some (.newarray at9, n, t)) (hty : newarray.typeOf at9 = ty) (htg : (tg = 0 ∧ ty = .int ∧ a0 = .inl (fun _ => 0)) ∨ (tg = 1 ∧ ty = .byte ∧ a0 = .inl (fun _ => 0)) ∨ (tg = 2 ∧ ty = .long ∧ a0 = .inr (.inl (fun _ => 0))) ∨ (tg = 3 ∧ ty = .boolean ∧ a0 = .inl (fun _ => 0))) (hw : Cond.arrayClass ty ∈ kU) (hx0 : ¬ x < 0) (hN : x.toNatClampNeg = N) (hN2 : N < 100000) (hnx : G.2 = some nx) (hx : nx < 899999) (hb : bc' + 1 ≤ bc ∧ bs' + N ≤ bs) (kk : V K bc' bs' M n lc (.ref nx :: st) (fun j => if j = nx then some (.inl (tg, N, a0)) else G.1 j, some (nx + 1)) Q) : V K bc bs M pc lc (.int x :: st) G Q := by
  intro hM p e R s m args below meth c H locs cells slots ls hC hB hS hH hL
  obtain ⟨hd, hn, -⟩ := hM.dec h rfl
  subst hn
  subst hty
  have hts := hC.2.2.2.2.2.2.2.2.1
  have hwd : kW K s := hC.2.2.2.2.2.2.2.2.2
  have hsz := (hH.2 nx hnx).1
  have had : kad K nx = H.size := by rw [kad_lt (by omega)]; omega
  have hcb : N * componentBytes (newarray.typeOf at9) ≤ 536870912 := by
    have : componentBytes (newarray.typeOf at9) ≤ 8 := by cases at9 <;> decide
    exact Nat.le_trans (Nat.mul_le_mul_left N this) (by omega)
  refine va_newaK hC.1 hC.2.1 (hts _ hw) rfl hd rfl hx0 hN hcb (by omega) (by omega) rfl fun H1 cA e1 z1 o1 hAr hNm => ?_
  have k2 := kk hM p e R s m args below meth c H1 locs (cells + 1) (slots + N) ls hC ⟨hB.1, hB.2.1, by omega, by omega⟩ ⟨Nat.le_trans hS.1 (by omega), fun x h1 h2 => (o1 x (Nat.lt_of_lt_of_le h1 hS.1)).trans (hS.2.1 x h1 h2), hS.2.2⟩ (hH.push hnx hx (by
    rw [had]
    rcases htg with ⟨rfl, hty, rfl⟩ | ⟨rfl, hty, rfl⟩ | ⟨rfl, hty, rfl⟩ | ⟨rfl, hty, rfl⟩
    · have h9 := (hwd.2.1.2 0 _ rfl).2
      rw [hty] at hNm e1
      cases Option.some.inj (hNm.symm.trans h9)
      exact e1
    · have h9 := (hwd.2.1.2 1 _ rfl).2
      rw [hty] at hNm e1
      cases Option.some.inj (hNm.symm.trans h9)
      exact e1
    · have h9 := (hwd.2.1.2 2 _ rfl).2
      rw [hty] at hNm e1
      cases Option.some.inj (hNm.symm.trans h9)
      exact e1
    · have h9 := (hwd.2.1.2 3 _ rfl).2
      rw [hty] at hNm e1
      cases Option.some.inj (hNm.symm.trans h9)
      exact e1) z1 o1) hL
  simp only [List.map_cons, ksh, had] at k2
  exact k2
/-- the words of a throw, the link of its constructor apart -/
def kThN : List String := ["java/lang/RuntimeException", "java/lang/Exception"]
def kThA (E : String) : List Cond := (Bundle.ownAtoms0 "" 0 E kThN).take 39
def kThB (E : String) : List Cond := (Bundle.ownAtoms0 "" 0 E kThN).drop 40
theorem kTh_split (own : String) (ic : Nat) (E : String) : Bundle.ownAtoms0 own ic E kThN = kThA E ++ .methodLink own ic (Bundle.init0 E) :: kThB E := rfl
def kThW (w : Cond) : Bool := !(vx_no w) || decide (w ∈ kU) || kDc.any (fun y => decide (w = .declares y)) || kX4.any (fun E => decide (w = .castable E E))
theorem kTh_ok : kX4.all (fun E => (kThA E ++ kThB E).all kThW && (kThA E ++ kThB E).all (fun w => !(vx_no w) || vx_ot w) && Bundle.fit E && decide (Cond.initialized E ∈ kU)) = true := by decide +kernel
theorem V_throw {E : String} {ik ic n0 n3 n4 n7 t0 t3 t4 t7 : Nat} (h0 : kf M pc = some (.new ik, n0, t0)) (h3 : kf M (pc + 3) = some (.dup, n3, t3)) (h4 : kf M (pc + 4) = some (.invokespecial ic, n4, t4)) (h7 : kf M (pc + 7) = some (.athrow, n7, t7)) (hE : E ∈ kX4) (hcl : Cond.classLink (my M).cls ik E ∈ kU) (hml : Cond.methodLink (my M).cls ic (Bundle.init0 E) ∈ kU) (hfr : 6 ≤ mfr M) (hlo : (st.map fun v => v.category).sum + 81 ≤ mlo M) (hb : 1 ≤ bc ∧ 6 ≤ bs) (hq : Q (.inr E) (G.1, none)) : V K bc bs M pc lc st G Q := by
  intro hM p e R s m args below meth c H locs cells slots ls hC hB hS hH hL
  obtain ⟨d0, -, -⟩ := hM.dec h0 rfl
  obtain ⟨d3, -, -⟩ := hM.dec h3 rfl
  obtain ⟨d4, -, -⟩ := hM.dec h4 rfl
  obtain ⟨d7, -, -⟩ := hM.dec h7 rfl
  have hts := hC.2.2.2.2.2.2.2.2.1
  have hwd : kW K s := hC.2.2.2.2.2.2.2.2.2
  have hall := List.all_eq_true.mp kTh_ok E hE
  simp only [Bool.and_eq_true, decide_eq_true_eq] at hall
  obtain ⟨⟨⟨ha1, ha2⟩, ha3⟩, ha4⟩ := hall
  have key : ∀ w ∈ vx_at0 (my M).cls ic E kThN, w.before args s = true ∧ vx_ot w = true := by
    intro w hw
    obtain ⟨hw1, hw2⟩ := List.mem_filter.mp hw
    rw [kTh_split] at hw1
    have hcase : w = .methodLink (my M).cls ic (Bundle.init0 E) ∨ w ∈ kThA E ++ kThB E := by
      rcases List.mem_append.mp hw1 with q | q
      · exact Or.inr (List.mem_append_left _ q)
      · rcases List.mem_cons.mp q with q | q
        · exact Or.inl q
        · exact Or.inr (List.mem_append_right _ q)
    rcases hcase with rfl | hw3
    · exact ⟨hts _ hml, by simp [vx_ot, kU_good hml]⟩
    · have b1 := List.all_eq_true.mp ha1 w hw3
      have b2 := List.all_eq_true.mp ha2 w hw3
      rw [hw2] at b2
      refine ⟨?_, by simpa using b2⟩
      unfold kThW at b1
      rw [hw2] at b1
      simp only [Bool.not_true, Bool.false_or, Bool.or_eq_true, decide_eq_true_eq, List.any_eq_true] at b1
      rcases b1 with (q | ⟨y, hy, rfl⟩) | ⟨F, hF, rfl⟩
      · exact hts _ q
      · exact va_Nw.use rfl (hwd.2.2.2.2.2.2.2.2.1 y hy)
      · exact va_Nw.use rfl (hwd.2.2.2.2.2.2.2.2.2.1 F hF)
  refine vx_throw0 (A := kA K) (names := kThN) (cls := E) (own := (my M).cls) (ik := ik) (ic := ic) (mc := R.cells) (ms := R.slots) hC.1 hC.2.1 hwd.1 hC.2.2.2.2.2.2.1 ha3 (by decide +kernel) (hts _ hcl) (hts _ ha4) (fun w hw => (key w hw).1) (fun w hw => ?_) hwd.2.2.2.2.1.1 hwd.2.2.2.2.1.2 hS (hL.1.trans hC.2.2.1.symm) d0 d3 d4 d7 (fun x hx => (hC.2.2.2.2.2.2.2.1 x hx).elim) (Nat.lt_of_lt_of_le (by show 2 + 3 < 6; omega) (Nat.le_trans hfr hB.1)) (by rw [ksh_sum]; show _ + (13 * (2 + 1) + 42) ≤ _; omega) (by omega) (by omega) hC.2.2.2.2.1 (fun t9 hal hsz hold => ⟨(G.1, none), hq, hH.close hold, ⟨Nat.le_trans hS.1 hsz, fun q q1 q2 => (hold q (Nat.lt_of_lt_of_le q1 hS.1)).trans (hS.2.1 q q1 q2)⟩⟩) hS.2.2 (by omega) (by omega)
  rcases List.mem_cons.mp hw with rfl | hw
  · simp [vx_ot, kU_good hcl]
  · rcases List.mem_cons.mp hw with rfl | hw
    · simp [vx_ot, kU_good ha4]
    · exact (key w hw).2
end KC
end
section
/-! System.arraycopy; arrays of references -/
section KY
variable {K : kK} {bc bs bc' bs' mc ms : Nat} {M M' : kM} {pc n t : Nat} {lc : kLo} {st : List Value} {G : kG} {Q Q' : kO → kG → Prop}
theorem W_copyi {p : Program} {e : Env} {R : Room} {s : State} {m : MethodId} {args : Array Value} {below : List Frame} {meth : Method} {c : Code} {H : Heap} {locs : List Loc} {cells slots : Nat} {ls : Array Slot} {idx b n0 n1 : Nat} {a0 : Nat} {scr : Cell} {f g : Nat → Int32} {sp dp z : Int32} (h : kf M pc = some (.invokestatic idx, n, t)) (hw : Cond.methodLink (my M).cls idx arraycopyName ∈ kU ∧ Cond.native arraycopyName ∈ kU ∧ Cond.static arraycopyName ∈ kU ∧ Cond.initialized "java/lang/System" ∈ kU)
    (hs1 : H[a0]? = some scr) (hs2 : s.isArrayOf scr .int) (hs3 : scr.vm ≠ .unknown) (hs4 : scr.slots.size = n0) (hs5 : ∀ j, j < n0 → scr.slots[j]? = some (.int (f j)))
    (hb : G.1 b = some (.inl (0, n1, .inl g))) (h1 : ¬ sp < 0) (h2 : ¬ dp < 0) (h3 : ¬ z < 0) (h4 : sp.toNatClampNeg + z.toNatClampNeg ≤ n0) (h5 : dp.toNatClampNeg + z.toNatClampNeg ≤ n1) (hfr : 1 ≤ mfr M) (hlo : (st.map fun v => v.category).sum + 18 ≤ mlo M)
    (kk : V K bc bs M n lc st (hup G b (.inl (0, n1, .inl (va_cpy f g sp.toNatClampNeg dp.toNatClampNeg z.toNatClampNeg)))) Q)
    (hM : kOK M) (hC : kCx K M p s m args meth c) (hB : mfr M ≤ R.frames ∧ mlo M ≤ R.locals ∧ cells + bc ≤ R.cells ∧ slots + bs ≤ R.slots) (hS : va_S (kA K) s.heap H locs) (hH : kH K G H) (hL : kLc K lc (mxl M) ls) :
    W p (kl K) e R s m args below meth c H locs cells slots (vx_MQ below (kQc K Q) (kXC K Q) args s R.cells R.slots (kA K)) (F0 m pc ls (.int z :: .int dp :: .ref (kad K b) :: .int sp :: .ref a0 :: st.map (ksh K))) := by
  obtain ⟨hd, hn, -⟩ := hM.dec h rfl
  subst hn
  have hts := hC.2.2.2.2.2.2.2.2.1
  have hwd : kW K s := hC.2.2.2.2.2.2.2.2.2
  have nn : ∀ z : Int32, ¬ z < 0 → z.toInt = (z.toNatClampNeg : Int) := by
    intro z hz
    have hz0 : (0 : Int) ≤ z.toInt := by
      have := Int32.not_lt.mp hz
      simpa using Int32.le_iff_toInt_le.mp this
    show z.toInt = ((z.toInt.toNat : Nat) : Int)
    omega
  intro T hT X
  have hc1 : H[kad K b]? = some (vp_cell (ktc K 0) (n1, .inl g)) := (hH.1 b _ hb).2
  obtain ⟨hs6, k0, hk0, cm0, hkk0⟩ := hs2
  obtain ⟨-, k1, hk1, cm1, hkk1⟩ := (hwd.2.1.2 0 _ rfl).1 n1 (fun j => .int (g j))
  obtain ⟨vm', X', step⟩ := X.arraycopy hC.1 hC.2.2.2.2.2.2.1 (hts _ hw.1) (hts _ hw.2.1) (hts _ hw.2.2.1) (hts _ hw.2.2.2) (src := a0) (dst := kad K b) (cs := scr) (cd := vp_cell (ktc K 0) (n1, .inl g)) (srcPos := sp) (destPos := dp) (n := z) (by rw [hT]; exact hs1) (by rw [hT]; exact hc1)
    hs6 (fun _ h => by cases h) hs3 (fun h => by cases h) hk0 hk1 hkk0 hkk1 (by simp [refKind]) h1 h2 h3
    (by rw [nn sp h1, nn z h3]; rw [hs4]; omega)
    (by rw [nn dp h2, nn z h3]; show ¬ _ > ((arrV (ktc K 0) n1 (fun j => .int (g j))).slots.size : Int); rw [arrV_size]; omega)
    (fun vm₁ _ i hi => by
      have e : scr.slots.getD (sp.toNatClampNeg + i) .null = .int (f (sp.toNatClampNeg + i)) := by
        rw [Array.getD_eq_getD_getElem?, hs5 _ (by omega)]
        rfl
      refine ⟨?_, ?_⟩
      · rw [e]
        rfl
      · rw [e]
        exact trivial)
    (g := F0 m pc ls (.int z :: .int dp :: .ref (kad K b) :: .int sp :: .ref a0 :: st.map (ksh K))) rfl (hL.1.trans hC.2.2.1.symm) (rest := st.map (ksh K)) rfl (by rw [hC.2.1]; exact hd) (Nat.le_trans hfr hB.1) (by rw [ksh_sum]; show 2 * 0 + _ + (5 + 2 + 11) ≤ _; omega)
  have e1 : copied scr (vp_cell (ktc K 0) (n1, .inl g)) sp dp z = vp_cell (ktc K 0) (n1, .inl (va_cpy f g sp.toNatClampNeg dp.toNatClampNeg z.toNatClampNeg)) := va_copiedX (fun z => .int z) scr (ktc K 0) f g hs5 h4
  rw [e1] at X' step
  have hl : kad K b < H.size := (Array.getElem?_eq_some_iff.mp hc1).1
  obtain ⟨nc, hnc⟩ : ∃ nc, nc = vp_cell (ktc K 0) (n1, .inl (va_cpy f g sp.toNatClampNeg dp.toNatClampNeg z.toNatClampNeg)) := ⟨_, rfl⟩
  rw [← hnc] at X' step
  have hheap : ((T.setVm vm').setCell (kad K b) nc).heap = H.setIfInBounds (kad K b) nc := by rw [← hT]; rfl
  have oq : ∀ q : Nat, q ≠ kad K b → (H.setIfInBounds (kad K b) nc)[q]? = H[q]? := fun q hq => by simp [Array.getElem?_setIfInBounds, Ne.symm hq]
  have hbA : kA K (kad K b) := show kb K ≤ kad K b by rw [kad_lt (hH.1 b _ hb).1]; omega
  obtain ⟨t9, a1, b1⟩ := kk hM p e R s m args below meth c (H.setIfInBounds (kad K b) nc) _ cells slots ls hC hB ⟨by simp; exact hS.1, fun q g1 g2 => by
      rw [oq q (fun e => g2 (by rw [e]; exact hbA))]
      exact hS.2.1 q g1 g2, fun q hq => by
      rcases List.mem_append.mp hq with h | h
      · exact hS.2.2 q h
      · obtain ⟨z, -, hz⟩ := List.mem_map.mp h
        rw [← hz]
        exact hbA⟩ (hH.set hb (show (H.setIfInBounds (kad K b) nc)[kad K b]? = some _ by simp [Array.getElem?_setIfInBounds, hl, hnc]) (by simp) oq) hL _ hheap X'
  exact ⟨t9, step t9 a1, b1⟩
theorem W_copyl {p : Program} {e : Env} {R : Room} {s : State} {m : MethodId} {args : Array Value} {below : List Frame} {meth : Method} {c : Code} {H : Heap} {locs : List Loc} {cells slots : Nat} {ls : Array Slot} {idx b n0 n1 : Nat} {a0 : Nat} {scr : Cell} {f g : Nat → Int64} {sp dp z : Int32} (h : kf M pc = some (.invokestatic idx, n, t)) (hw : Cond.methodLink (my M).cls idx arraycopyName ∈ kU ∧ Cond.native arraycopyName ∈ kU ∧ Cond.static arraycopyName ∈ kU ∧ Cond.initialized "java/lang/System" ∈ kU)
    (hs1 : H[a0]? = some scr) (hs2 : s.isArrayOf scr .long) (hs3 : scr.vm ≠ .unknown) (hs4 : scr.slots.size = n0) (hs5 : ∀ j, j < n0 → scr.slots[j]? = some (.long (f j)))
    (hb : G.1 b = some (.inl (2, n1, .inr (.inl g)))) (h1 : ¬ sp < 0) (h2 : ¬ dp < 0) (h3 : ¬ z < 0) (h4 : sp.toNatClampNeg + z.toNatClampNeg ≤ n0) (h5 : dp.toNatClampNeg + z.toNatClampNeg ≤ n1) (hfr : 1 ≤ mfr M) (hlo : (st.map fun v => v.category).sum + 18 ≤ mlo M)
    (kk : V K bc bs M n lc st (hup G b (.inl (2, n1, .inr (.inl (va_cpy f g sp.toNatClampNeg dp.toNatClampNeg z.toNatClampNeg))))) Q)
    (hM : kOK M) (hC : kCx K M p s m args meth c) (hB : mfr M ≤ R.frames ∧ mlo M ≤ R.locals ∧ cells + bc ≤ R.cells ∧ slots + bs ≤ R.slots) (hS : va_S (kA K) s.heap H locs) (hH : kH K G H) (hL : kLc K lc (mxl M) ls) :
    W p (kl K) e R s m args below meth c H locs cells slots (vx_MQ below (kQc K Q) (kXC K Q) args s R.cells R.slots (kA K)) (F0 m pc ls (.int z :: .int dp :: .ref (kad K b) :: .int sp :: .ref a0 :: st.map (ksh K))) := by
  obtain ⟨hd, hn, -⟩ := hM.dec h rfl
  subst hn
  have hts := hC.2.2.2.2.2.2.2.2.1
  have hwd : kW K s := hC.2.2.2.2.2.2.2.2.2
  have nn : ∀ z : Int32, ¬ z < 0 → z.toInt = (z.toNatClampNeg : Int) := by
    intro z hz
    have hz0 : (0 : Int) ≤ z.toInt := by
      have := Int32.not_lt.mp hz
      simpa using Int32.le_iff_toInt_le.mp this
    show z.toInt = ((z.toInt.toNat : Nat) : Int)
    omega
  intro T hT X
  have hc1 : H[kad K b]? = some (vp_cell (ktc K 2) (n1, .inr (.inl g))) := (hH.1 b _ hb).2
  obtain ⟨hs6, k0, hk0, cm0, hkk0⟩ := hs2
  obtain ⟨-, k1, hk1, cm1, hkk1⟩ := (hwd.2.1.2 2 _ rfl).1 n1 (fun j => .long (g j))
  obtain ⟨vm', X', step⟩ := X.arraycopy hC.1 hC.2.2.2.2.2.2.1 (hts _ hw.1) (hts _ hw.2.1) (hts _ hw.2.2.1) (hts _ hw.2.2.2) (src := a0) (dst := kad K b) (cs := scr) (cd := vp_cell (ktc K 2) (n1, .inr (.inl g))) (srcPos := sp) (destPos := dp) (n := z) (by rw [hT]; exact hs1) (by rw [hT]; exact hc1)
    hs6 (fun _ h => by cases h) hs3 (fun h => by cases h) hk0 hk1 hkk0 hkk1 (by simp [refKind]) h1 h2 h3
    (by rw [nn sp h1, nn z h3]; rw [hs4]; omega)
    (by rw [nn dp h2, nn z h3]; show ¬ _ > ((arrV (ktc K 2) n1 (fun j => .long (g j))).slots.size : Int); rw [arrV_size]; omega)
    (fun vm₁ _ i hi => by
      have e : scr.slots.getD (sp.toNatClampNeg + i) .null = .long (f (sp.toNatClampNeg + i)) := by
        rw [Array.getD_eq_getD_getElem?, hs5 _ (by omega)]
        rfl
      refine ⟨?_, ?_⟩
      · rw [e]
        rfl
      · rw [e]
        exact trivial)
    (g := F0 m pc ls (.int z :: .int dp :: .ref (kad K b) :: .int sp :: .ref a0 :: st.map (ksh K))) rfl (hL.1.trans hC.2.2.1.symm) (rest := st.map (ksh K)) rfl (by rw [hC.2.1]; exact hd) (Nat.le_trans hfr hB.1) (by rw [ksh_sum]; show 2 * 0 + _ + (5 + 2 + 11) ≤ _; omega)
  have e1 : copied scr (vp_cell (ktc K 2) (n1, .inr (.inl g))) sp dp z = vp_cell (ktc K 2) (n1, .inr (.inl (va_cpy f g sp.toNatClampNeg dp.toNatClampNeg z.toNatClampNeg))) := va_copiedX (fun z => .long z) scr (ktc K 2) f g hs5 h4
  rw [e1] at X' step
  have hl : kad K b < H.size := (Array.getElem?_eq_some_iff.mp hc1).1
  obtain ⟨nc, hnc⟩ : ∃ nc, nc = vp_cell (ktc K 2) (n1, .inr (.inl (va_cpy f g sp.toNatClampNeg dp.toNatClampNeg z.toNatClampNeg))) := ⟨_, rfl⟩
  rw [← hnc] at X' step
  have hheap : ((T.setVm vm').setCell (kad K b) nc).heap = H.setIfInBounds (kad K b) nc := by rw [← hT]; rfl
  have oq : ∀ q : Nat, q ≠ kad K b → (H.setIfInBounds (kad K b) nc)[q]? = H[q]? := fun q hq => by simp [Array.getElem?_setIfInBounds, Ne.symm hq]
  have hbA : kA K (kad K b) := show kb K ≤ kad K b by rw [kad_lt (hH.1 b _ hb).1]; omega
  obtain ⟨t9, a1, b1⟩ := kk hM p e R s m args below meth c (H.setIfInBounds (kad K b) nc) _ cells slots ls hC hB ⟨by simp; exact hS.1, fun q g1 g2 => by
      rw [oq q (fun e => g2 (by rw [e]; exact hbA))]
      exact hS.2.1 q g1 g2, fun q hq => by
      rcases List.mem_append.mp hq with h | h
      · exact hS.2.2 q h
      · obtain ⟨z, -, hz⟩ := List.mem_map.mp h
        rw [← hz]
        exact hbA⟩ (hH.set hb (show (H.setIfInBounds (kad K b) nc)[kad K b]? = some _ by simp [Array.getElem?_setIfInBounds, hl, hnc]) (by simp) oq) hL _ hheap X'
  exact ⟨t9, step t9 a1, b1⟩
theorem V_copyi {idx a b n0 n1 : Nat} {f g : Nat → Int32} {sp dp z : Int32} (h : kf M pc = some (.invokestatic idx, n, t)) (hw : Cond.methodLink (my M).cls idx arraycopyName ∈ kU ∧ Cond.native arraycopyName ∈ kU ∧ Cond.static arraycopyName ∈ kU ∧ Cond.initialized "java/lang/System" ∈ kU) (ha : G.1 a = some (.inl (0, n0, .inl f))) (hb : G.1 b = some (.inl (0, n1, .inl g))) (h1 : ¬ sp < 0) (h2 : ¬ dp < 0) (h3 : ¬ z < 0) (h4 : sp.toNatClampNeg + z.toNatClampNeg ≤ n0) (h5 : dp.toNatClampNeg + z.toNatClampNeg ≤ n1) (hfr : 1 ≤ mfr M) (hlo : (st.map fun v => v.category).sum + 18 ≤ mlo M) (kk : V K bc bs M n lc st (hup G b (.inl (0, n1, .inl (va_cpy f g sp.toNatClampNeg dp.toNatClampNeg z.toNatClampNeg)))) Q) : V K bc bs M pc lc (.int z :: .int dp :: .ref b :: .int sp :: .ref a :: st) G Q := by
  intro hM p e R s m args below meth c H locs cells slots ls hC hB hS hH hL
  have hwd : kW K s := hC.2.2.2.2.2.2.2.2.2
  exact W_copyi h hw (hH.1 a _ ha).2 ((hwd.2.1.2 0 _ rfl).1 n0 (fun j => .int (f j))) (fun q => by cases q) (by show (arrV _ _ _).slots.size = _; rw [arrV_size]) (fun j hj => by show (arrV _ _ _).slots[_]? = _; rw [arrV_read _ _ hj]) hb h1 h2 h3 h4 h5 hfr hlo kk hM hC hB hS hH hL
theorem V_copyl {idx a b n0 n1 : Nat} {f g : Nat → Int64} {sp dp z : Int32} (h : kf M pc = some (.invokestatic idx, n, t)) (hw : Cond.methodLink (my M).cls idx arraycopyName ∈ kU ∧ Cond.native arraycopyName ∈ kU ∧ Cond.static arraycopyName ∈ kU ∧ Cond.initialized "java/lang/System" ∈ kU) (ha : G.1 a = some (.inl (2, n0, .inr (.inl f)))) (hb : G.1 b = some (.inl (2, n1, .inr (.inl g)))) (h1 : ¬ sp < 0) (h2 : ¬ dp < 0) (h3 : ¬ z < 0) (h4 : sp.toNatClampNeg + z.toNatClampNeg ≤ n0) (h5 : dp.toNatClampNeg + z.toNatClampNeg ≤ n1) (hfr : 1 ≤ mfr M) (hlo : (st.map fun v => v.category).sum + 18 ≤ mlo M) (kk : V K bc bs M n lc st (hup G b (.inl (2, n1, .inr (.inl (va_cpy f g sp.toNatClampNeg dp.toNatClampNeg z.toNatClampNeg))))) Q) : V K bc bs M pc lc (.int z :: .int dp :: .ref b :: .int sp :: .ref a :: st) G Q := by
  intro hM p e R s m args below meth c H locs cells slots ls hC hB hS hH hL
  have hwd : kW K s := hC.2.2.2.2.2.2.2.2.2
  exact W_copyl h hw (hH.1 a _ ha).2 ((hwd.2.1.2 2 _ rfl).1 n0 (fun j => .long (f j))) (fun q => by cases q) (by show (arrV _ _ _).slots.size = _; rw [arrV_size]) (fun j hj => by show (arrV _ _ _).slots[_]? = _; rw [arrV_read _ _ hj]) hb h1 h2 h3 h4 h5 hfr hlo kk hM hC hB hS hH hL
theorem V_copys {idx j b n0 n1 : Nat} {f g : Nat → Int32} {sp dp z : Int32} (h : kf M pc = some (.invokestatic idx, n, t)) (hw : Cond.methodLink (my M).cls idx arraycopyName ∈ kU ∧ Cond.native arraycopyName ∈ kU ∧ Cond.static arraycopyName ∈ kU ∧ Cond.initialized "java/lang/System" ∈ kU) (ha : kSX K j = some (n0, f)) (hb : G.1 b = some (.inl (0, n1, .inl g))) (h1 : ¬ sp < 0) (h2 : ¬ dp < 0) (h3 : ¬ z < 0) (h4 : sp.toNatClampNeg + z.toNatClampNeg ≤ n0) (h5 : dp.toNatClampNeg + z.toNatClampNeg ≤ n1) (hfr : 1 ≤ mfr M) (hlo : (st.map fun v => v.category).sum + 18 ≤ mlo M) (kk : V K bc bs M n lc st (hup G b (.inl (0, n1, .inl (va_cpy f g sp.toNatClampNeg dp.toNatClampNeg z.toNatClampNeg)))) Q) : V K bc bs M pc lc (.int z :: .int dp :: .ref b :: .int sp :: .ref (1000000 + j) :: st) G Q := by
  intro hM p e R s m args below meth c H locs cells slots ls hC hB hS hH hL
  have hwd : kW K s := hC.2.2.2.2.2.2.2.2.2
  obtain ⟨x1, scr, hs1, hs2, hs3, hs4, hs5⟩ := hwd.2.2.1 j n0 f ha
  have hq : ksh K (.ref (1000000 + j)) = .ref (ksd K j) := by simp [ksh, kad]; omega
  have hx : ksd K j < s.heap.size := Nat.lt_of_lt_of_le x1 hwd.2.2.2.2.2.1
  simp only [List.map_cons, hq]
  exact W_copyi h hw (by rw [hS.2.1 _ hx (Nat.not_le.mpr x1)]; exact hs1) hs2 hs3 hs4 hs5 hb h1 h2 h3 h4 h5 hfr hlo kk hM hC hB hS hH hL
theorem V_newq {idx nx N : Nat} {x : Int32} (h : kf M pc = some (.anewarray idx, n, t)) (hw : Cond.classLink (my M).cls idx RX6 ∈ kU) (hx0 : ¬ x < 0) (hN : x.toNatClampNeg = N) (hN2 : N < 100000) (hnx : G.2 = some nx) (hx : nx < 899999) (hb : bc' + 1 ≤ bc ∧ bs' + N ≤ bs) (kk : V K bc' bs' M n lc (.ref nx :: st) (fun j => if j = nx then some (.inl (4, N, .inr (.inr (.inr (.inr (fun _ => none)))))) else G.1 j, some (nx + 1)) Q) : V K bc bs M pc lc (.int x :: st) G Q := by
  intro hM p e R s m args below meth c H locs cells slots ls hC hB hS hH hL
  obtain ⟨hd, hn, -⟩ := hM.dec h rfl
  subst hn
  subst hN
  have hts := hC.2.2.2.2.2.2.2.2.1
  have hwd : kW K s := hC.2.2.2.2.2.2.2.2.2
  have hsz := (hH.2 nx hnx).1
  have had : kad K nx = H.size := by rw [kad_lt (by omega)]; omega
  refine W.anew hC.1 hC.2.1 hC.2.2.2.2.2.2.1 (hts _ hw) (va_AO.use hwd.2.2.2.2.2.2.2.1) rfl hd rfl hx0 (by omega) (by omega) (by omega) fun cA kA comp f1 f2 f3 f4 => ?_
  generalize hH1 : H.push ({ cls := cA, slots := Array.replicate x.toNatClampNeg .null, vm := .none } : Cell) = H1
  have z1 : H1.size = H.size + 1 := by rw [← hH1, Array.size_push]
  have e1 : H1[H.size]? = some (arrV cA x.toNatClampNeg (fun _ => .null)) := by rw [← hH1, Array.getElem?_push_size, ← arrV_new]
  have o1 : ∀ q : Nat, q < H.size → H1[q]? = H[q]? := fun q hq => by rw [← hH1, Array.getElem?_push, if_neg (Nat.ne_of_lt hq)]
  have k2 := kk hM p e R s m args below meth c H1 locs (cells + 1) (slots + x.toNatClampNeg) ls hC ⟨hB.1, hB.2.1, by omega, by omega⟩ ⟨Nat.le_trans hS.1 (by omega), fun x h1 h2 => (o1 x (Nat.lt_of_lt_of_le h1 hS.1)).trans (hS.2.1 x h1 h2), hS.2.2⟩ (hH.push hnx hx (by
    rw [had]
    obtain ⟨kA9, comp9, g1, g2, g3, g4⟩ := (hwd.2.1.2 4 _ rfl).2
    cases Option.some.inj (f1.symm.trans g4)
    exact e1) z1 o1) hL
  simp only [List.map_cons, ksh, had] at k2
  exact k2
theorem V_aast {a b N : Nat} {fs : List Value} {f : Nat → Option Nat} {i : Int32} (h : kf M pc = some (.aastore, n, t)) (ha : G.1 a = some (.inl (4, N, .inr (.inr (.inr (.inr f)))))) (hb : G.1 b = some (.inr (5, fs))) (hi : vp_in i N) (kk : V K bc bs M n lc st (hup G a (.inl (4, N, .inr (.inr (.inr (.inr (va_up f i.toNatClampNeg (some b)))))))) Q) : V K bc bs M pc lc (.ref b :: .int i :: .ref a :: st) G Q := by
  intro hM p e R s m args below meth c H locs cells slots ls hC hB hS hH hL
  obtain ⟨hd, hn, -⟩ := hM.dec h rfl
  subst hn
  have hwd : kW K s := hC.2.2.2.2.2.2.2.2.2
  have hlt : i.toNatClampNeg < N := Nat.not_le.mp fun q => hi (Or.inr q)
  have h0 : ¬ i < 0 := fun q => hi (Or.inl q)
  obtain ⟨r', hr', cellV, g1, g2, g3, -⟩ := (hH.1 b _ hb).2
  have hcls := (hwd.2.1.1 5 _ rfl).2
  obtain ⟨kA9, comp, k1, k2, k3, -⟩ := (hwd.2.1.2 4 _ rfl).2
  have hcomp : comp = (kD K).1 5 := Option.some.inj (k3.symm.trans hcls.1)
  subst hcomp
  obtain ⟨kC, hkC, hkC2⟩ := hcls.2
  have has : s.vm.assignable ((kD K).1 5) ((kD K).1 5) = true := by
    simp [Vm.assignable, Vm.assignableAux, hkC, hkC2, Vm.isSubclass, Vm.isSubclassAux]
  have hcell : H[kad K a]? = some (vp_cell (ktc K 4) (N, .inr (.inr (.inr (.inr (fun j => (f j).map (kad K))))))) := (hH.1 a _ ha).2
  refine W.aast hC.1 hC.2.1 hcell (fun q h => by cases h) (fun h => by cases h) k1 k2 rfl hkC ⟨h0, by show _ < (arrV _ _ _).slots.size; rw [arrV_size]; exact hlt⟩ g1 (fun q h => by rw [g3] at h; cases h) (by rw [g2]; exact hkC) (by rw [g2]; exact has) rfl rfl hd fun H1 e1 z oq => ?_
  refine kk hM p e R s m args below meth c H1 _ cells slots ls hC hB (hS.put z oq (show kb K ≤ kad K a by rw [kad_lt (hH.1 a _ ha).1]; omega)) (hH.set ha ?_ z oq) hL
  show H1[kad K a]? = some (vp_cell _ _)
  rw [e1]
  rw [vp_cell_q, vp_cell_q, arrV_store]
  congr 2
  funext q
  by_cases hq : q = i.toNatClampNeg
  · subst hq
    simp [updV, va_up, va_rf]
  · simp [updV, va_up, hq]
end KY
end
