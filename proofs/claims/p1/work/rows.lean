section
-- ===== PART A: goes FIRST, ahead of the names: the tables' words, and 'selects' of the private methods out of them =====
/-- a private method of a class that the tables say can be made, by its rows of tables_1 -/
def lw_okq (q : MethodName × Nat) : Prop := (q.1.cls ≠ "java/lang/invoke/MethodHandle" ∧ q.1.cls ≠ "java/lang/invoke/VarHandle") ∧ Cond.instantiable q.1.cls q.2 ∈ tables_1 ∧ Cond.privateMethod q.1 ∈ tables_1 ∧ Cond.instanceMethod q.1 ∈ tables_1
theorem lw_p0 : lw_okq (⟨"StillLoops", "startAt", "(II)V"⟩, 8) := ⟨⟨by decide +kernel, by decide +kernel⟩, List.mem_of_getElem? (i := 31) (by decide +kernel), List.mem_of_getElem? (i := 568) (by decide +kernel), List.mem_of_getElem? (i := 569) (by decide +kernel)⟩
theorem lw_p1 : lw_okq (⟨"StillLoops$Rounds", "lengthOf", "(LStillLoops$Bench;)I"⟩, 4) := ⟨⟨by decide +kernel, by decide +kernel⟩, List.mem_of_getElem? (i := 501) (by decide +kernel), List.mem_of_getElem? (i := 616) (by decide +kernel), List.mem_of_getElem? (i := 617) (by decide +kernel)⟩
theorem lw_p2 : lw_okq (⟨"StillLoops$Rounds", "keep", "(LStillLoops$Bench;I)V"⟩, 4) := ⟨⟨by decide +kernel, by decide +kernel⟩, List.mem_of_getElem? (i := 501) (by decide +kernel), List.mem_of_getElem? (i := 620) (by decide +kernel), List.mem_of_getElem? (i := 621) (by decide +kernel)⟩
theorem lw_p3 : lw_okq (⟨"StillLoops$Loop", "tripsAsNumber", "()I"⟩, 19) := ⟨⟨by decide +kernel, by decide +kernel⟩, List.mem_of_getElem? (i := 72) (by decide +kernel), List.mem_of_getElem? (i := 628) (by decide +kernel), List.mem_of_getElem? (i := 629) (by decide +kernel)⟩
theorem lw_p4 : lw_okq (⟨"StillLoops$Bench", "causeOf", "(LStillLoops$Loop;)I"⟩, 8) := ⟨⟨by decide +kernel, by decide +kernel⟩, List.mem_of_getElem? (i := 45) (by decide +kernel), List.mem_of_getElem? (i := 636) (by decide +kernel), List.mem_of_getElem? (i := 637) (by decide +kernel)⟩
theorem lw_p5 : lw_okq (⟨"StillLoops$Bench", "shutDown", "(II)V"⟩, 8) := ⟨⟨by decide +kernel, by decide +kernel⟩, List.mem_of_getElem? (i := 45) (by decide +kernel), List.mem_of_getElem? (i := 640) (by decide +kernel), List.mem_of_getElem? (i := 641) (by decide +kernel)⟩
theorem lw_p6 : lw_okq (⟨"StillLoops$Bench", "measure", "(I)V"⟩, 8) := ⟨⟨by decide +kernel, by decide +kernel⟩, List.mem_of_getElem? (i := 45) (by decide +kernel), List.mem_of_getElem? (i := 656) (by decide +kernel), List.mem_of_getElem? (i := 657) (by decide +kernel)⟩
theorem lw_p7 : lw_okq (⟨"StillLoops$Bench", "takeSp", "(LStillLoops$Loop;)V"⟩, 8) := ⟨⟨by decide +kernel, by decide +kernel⟩, List.mem_of_getElem? (i := 45) (by decide +kernel), List.mem_of_getElem? (i := 660) (by decide +kernel), List.mem_of_getElem? (i := 661) (by decide +kernel)⟩
theorem lw_p8 : lw_okq (⟨"StillLoops$Bench", "drive", "(I)V"⟩, 8) := ⟨⟨by decide +kernel, by decide +kernel⟩, List.mem_of_getElem? (i := 45) (by decide +kernel), List.mem_of_getElem? (i := 692) (by decide +kernel), List.mem_of_getElem? (i := 693) (by decide +kernel)⟩
theorem lw_p9 : lw_okq (⟨"StillLoops$Bench", "leads", "(I)Z"⟩, 8) := ⟨⟨by decide +kernel, by decide +kernel⟩, List.mem_of_getElem? (i := 45) (by decide +kernel), List.mem_of_getElem? (i := 700) (by decide +kernel), List.mem_of_getElem? (i := 701) (by decide +kernel)⟩
theorem lw_p10 : lw_okq (⟨"StillLoops$Bench", "rule", "(I)V"⟩, 8) := ⟨⟨by decide +kernel, by decide +kernel⟩, List.mem_of_getElem? (i := 45) (by decide +kernel), List.mem_of_getElem? (i := 708) (by decide +kernel), List.mem_of_getElem? (i := 709) (by decide +kernel)⟩
theorem lw_p11 : lw_okq (⟨"StillLoops$Bench", "heldAt", "(II)Z"⟩, 8) := ⟨⟨by decide +kernel, by decide +kernel⟩, List.mem_of_getElem? (i := 45) (by decide +kernel), List.mem_of_getElem? (i := 723) (by decide +kernel), List.mem_of_getElem? (i := 724) (by decide +kernel)⟩
theorem lw_p12 : lw_okq (⟨"StillLoops$Rounds", "isKept", "(LStillLoops$Bench;I)Z"⟩, 4) := ⟨⟨by decide +kernel, by decide +kernel⟩, List.mem_of_getElem? (i := 501) (by decide +kernel), List.mem_of_getElem? (i := 780) (by decide +kernel), List.mem_of_getElem? (i := 781) (by decide +kernel)⟩
theorem lw_p13 : lw_okq (⟨"StillLoops$Rounds", "beginOf", "(LStillLoops$Bench;LStillLoops$Bench;)I"⟩, 4) := ⟨⟨by decide +kernel, by decide +kernel⟩, List.mem_of_getElem? (i := 501) (by decide +kernel), List.mem_of_getElem? (i := 786) (by decide +kernel), List.mem_of_getElem? (i := 787) (by decide +kernel)⟩
theorem lw_p14 : lw_okq (⟨"StillLoops$Reader", "skipBlanks", "()V"⟩, 7) := ⟨⟨by decide +kernel, by decide +kernel⟩, List.mem_of_getElem? (i := 39) (by decide +kernel), List.mem_of_getElem? (i := 815) (by decide +kernel), List.mem_of_getElem? (i := 816) (by decide +kernel)⟩
theorem lw_p15 : lw_okq (⟨"StillLoops$Reader", "refuse", "(I)V"⟩, 7) := ⟨⟨by decide +kernel, by decide +kernel⟩, List.mem_of_getElem? (i := 39) (by decide +kernel), List.mem_of_getElem? (i := 819) (by decide +kernel), List.mem_of_getElem? (i := 820) (by decide +kernel)⟩
def lw_privs_1 : List (MethodName × Nat) := [(⟨"StillLoops", "startAt", "(II)V"⟩, 8), (⟨"StillLoops$Rounds", "lengthOf", "(LStillLoops$Bench;)I"⟩, 4), (⟨"StillLoops$Rounds", "keep", "(LStillLoops$Bench;I)V"⟩, 4), (⟨"StillLoops$Loop", "tripsAsNumber", "()I"⟩, 19), (⟨"StillLoops$Bench", "causeOf", "(LStillLoops$Loop;)I"⟩, 8), (⟨"StillLoops$Bench", "shutDown", "(II)V"⟩, 8), (⟨"StillLoops$Bench", "measure", "(I)V"⟩, 8), (⟨"StillLoops$Bench", "takeSp", "(LStillLoops$Loop;)V"⟩, 8), (⟨"StillLoops$Bench", "drive", "(I)V"⟩, 8), (⟨"StillLoops$Bench", "leads", "(I)Z"⟩, 8), (⟨"StillLoops$Bench", "rule", "(I)V"⟩, 8), (⟨"StillLoops$Bench", "heldAt", "(II)Z"⟩, 8), (⟨"StillLoops$Rounds", "isKept", "(LStillLoops$Bench;I)Z"⟩, 4), (⟨"StillLoops$Rounds", "beginOf", "(LStillLoops$Bench;LStillLoops$Bench;)I"⟩, 4), (⟨"StillLoops$Reader", "skipBlanks", "()V"⟩, 7), (⟨"StillLoops$Reader", "refuse", "(I)V"⟩, 7)]
theorem lw_r1 : ∀ q ∈ lw_privs_1, lw_okq q := List.forall_mem_cons.mpr ⟨lw_p0, List.forall_mem_cons.mpr ⟨lw_p1, List.forall_mem_cons.mpr ⟨lw_p2, List.forall_mem_cons.mpr ⟨lw_p3, List.forall_mem_cons.mpr ⟨lw_p4, List.forall_mem_cons.mpr ⟨lw_p5, List.forall_mem_cons.mpr ⟨lw_p6, List.forall_mem_cons.mpr ⟨lw_p7, List.forall_mem_cons.mpr ⟨lw_p8, List.forall_mem_cons.mpr ⟨lw_p9, List.forall_mem_cons.mpr ⟨lw_p10, List.forall_mem_cons.mpr ⟨lw_p11, List.forall_mem_cons.mpr ⟨lw_p12, List.forall_mem_cons.mpr ⟨lw_p13, List.forall_mem_cons.mpr ⟨lw_p14, List.forall_mem_cons.mpr ⟨lw_p15, fun _ h => absurd h List.not_mem_nil⟩⟩⟩⟩⟩⟩⟩⟩⟩⟩⟩⟩⟩⟩⟩⟩
theorem lw_p16 : lw_okq (⟨"StillLoops$Reader", "readLine", "()V"⟩, 7) := ⟨⟨by decide +kernel, by decide +kernel⟩, List.mem_of_getElem? (i := 39) (by decide +kernel), List.mem_of_getElem? (i := 823) (by decide +kernel), List.mem_of_getElem? (i := 824) (by decide +kernel)⟩
theorem lw_p17 : lw_okq (⟨"StillLoops$Reader", "takes", "(Ljava/lang/String;)Z"⟩, 7) := ⟨⟨by decide +kernel, by decide +kernel⟩, List.mem_of_getElem? (i := 39) (by decide +kernel), List.mem_of_getElem? (i := 828) (by decide +kernel), List.mem_of_getElem? (i := 829) (by decide +kernel)⟩
theorem lw_p18 : lw_okq (⟨"StillLoops$Reader", "isLetter", "(I)Z"⟩, 7) := ⟨⟨by decide +kernel, by decide +kernel⟩, List.mem_of_getElem? (i := 39) (by decide +kernel), List.mem_of_getElem? (i := 842) (by decide +kernel), List.mem_of_getElem? (i := 843) (by decide +kernel)⟩
theorem lw_p19 : lw_okq (⟨"StillLoops$Reader", "readLoop", "()V"⟩, 7) := ⟨⟨by decide +kernel, by decide +kernel⟩, List.mem_of_getElem? (i := 39) (by decide +kernel), List.mem_of_getElem? (i := 884) (by decide +kernel), List.mem_of_getElem? (i := 885) (by decide +kernel)⟩
theorem lw_p20 : lw_okq (⟨"StillLoops$Reader", "readKind", "()I"⟩, 7) := ⟨⟨by decide +kernel, by decide +kernel⟩, List.mem_of_getElem? (i := 39) (by decide +kernel), List.mem_of_getElem? (i := 908) (by decide +kernel), List.mem_of_getElem? (i := 909) (by decide +kernel)⟩
theorem lw_p21 : lw_okq (⟨"StillLoops$Reader", "need", "(Ljava/lang/String;)V"⟩, 7) := ⟨⟨by decide +kernel, by decide +kernel⟩, List.mem_of_getElem? (i := 39) (by decide +kernel), List.mem_of_getElem? (i := 915) (by decide +kernel), List.mem_of_getElem? (i := 916) (by decide +kernel)⟩
theorem lw_p22 : lw_okq (⟨"StillLoops$Reader", "numberBehind", "(Ljava/lang/String;I)I"⟩, 7) := ⟨⟨by decide +kernel, by decide +kernel⟩, List.mem_of_getElem? (i := 39) (by decide +kernel), List.mem_of_getElem? (i := 920) (by decide +kernel), List.mem_of_getElem? (i := 921) (by decide +kernel)⟩
theorem lw_p23 : lw_okq (⟨"StillLoops$Reader", "number", "(II)I"⟩, 7) := ⟨⟨by decide +kernel, by decide +kernel⟩, List.mem_of_getElem? (i := 39) (by decide +kernel), List.mem_of_getElem? (i := 924) (by decide +kernel), List.mem_of_getElem? (i := 925) (by decide +kernel)⟩
theorem lw_p24 : lw_okq (⟨"StillLoops$Reader", "digits", "()I"⟩, 7) := ⟨⟨by decide +kernel, by decide +kernel⟩, List.mem_of_getElem? (i := 39) (by decide +kernel), List.mem_of_getElem? (i := 928) (by decide +kernel), List.mem_of_getElem? (i := 929) (by decide +kernel)⟩
theorem lw_p25 : lw_okq (⟨"StillLoops$Reader", "isDigit", "(I)Z"⟩, 7) := ⟨⟨by decide +kernel, by decide +kernel⟩, List.mem_of_getElem? (i := 39) (by decide +kernel), List.mem_of_getElem? (i := 932) (by decide +kernel), List.mem_of_getElem? (i := 933) (by decide +kernel)⟩
theorem lw_p26 : lw_okq (⟨"StillLoops$Reader", "checked", "(III)I"⟩, 7) := ⟨⟨by decide +kernel, by decide +kernel⟩, List.mem_of_getElem? (i := 39) (by decide +kernel), List.mem_of_getElem? (i := 936) (by decide +kernel), List.mem_of_getElem? (i := 937) (by decide +kernel)⟩
theorem lw_p27 : lw_okq (⟨"StillLoops$Reader", "signed", "(II)I"⟩, 7) := ⟨⟨by decide +kernel, by decide +kernel⟩, List.mem_of_getElem? (i := 39) (by decide +kernel), List.mem_of_getElem? (i := 942) (by decide +kernel), List.mem_of_getElem? (i := 943) (by decide +kernel)⟩
theorem lw_p28 : lw_okq (⟨"StillLoops$Reader", "readLaw", "()V"⟩, 7) := ⟨⟨by decide +kernel, by decide +kernel⟩, List.mem_of_getElem? (i := 39) (by decide +kernel), List.mem_of_getElem? (i := 955) (by decide +kernel), List.mem_of_getElem? (i := 956) (by decide +kernel)⟩
theorem lw_p29 : lw_okq (⟨"StillLoops$Reader", "readKnownLoop", "()LStillLoops$Loop;"⟩, 7) := ⟨⟨by decide +kernel, by decide +kernel⟩, List.mem_of_getElem? (i := 39) (by decide +kernel), List.mem_of_getElem? (i := 959) (by decide +kernel), List.mem_of_getElem? (i := 960) (by decide +kernel)⟩
theorem lw_p30 : lw_okq (⟨"StillLoops$Reader", "readGains", "()V"⟩, 7) := ⟨⟨by decide +kernel, by decide +kernel⟩, List.mem_of_getElem? (i := 39) (by decide +kernel), List.mem_of_getElem? (i := 970) (by decide +kernel), List.mem_of_getElem? (i := 971) (by decide +kernel)⟩
theorem lw_p31 : lw_okq (⟨"StillLoops$Reader", "readCurve", "()V"⟩, 7) := ⟨⟨by decide +kernel, by decide +kernel⟩, List.mem_of_getElem? (i := 39) (by decide +kernel), List.mem_of_getElem? (i := 980) (by decide +kernel), List.mem_of_getElem? (i := 981) (by decide +kernel)⟩
def lw_privs_2 : List (MethodName × Nat) := [(⟨"StillLoops$Reader", "readLine", "()V"⟩, 7), (⟨"StillLoops$Reader", "takes", "(Ljava/lang/String;)Z"⟩, 7), (⟨"StillLoops$Reader", "isLetter", "(I)Z"⟩, 7), (⟨"StillLoops$Reader", "readLoop", "()V"⟩, 7), (⟨"StillLoops$Reader", "readKind", "()I"⟩, 7), (⟨"StillLoops$Reader", "need", "(Ljava/lang/String;)V"⟩, 7), (⟨"StillLoops$Reader", "numberBehind", "(Ljava/lang/String;I)I"⟩, 7), (⟨"StillLoops$Reader", "number", "(II)I"⟩, 7), (⟨"StillLoops$Reader", "digits", "()I"⟩, 7), (⟨"StillLoops$Reader", "isDigit", "(I)Z"⟩, 7), (⟨"StillLoops$Reader", "checked", "(III)I"⟩, 7), (⟨"StillLoops$Reader", "signed", "(II)I"⟩, 7), (⟨"StillLoops$Reader", "readLaw", "()V"⟩, 7), (⟨"StillLoops$Reader", "readKnownLoop", "()LStillLoops$Loop;"⟩, 7), (⟨"StillLoops$Reader", "readGains", "()V"⟩, 7), (⟨"StillLoops$Reader", "readCurve", "()V"⟩, 7)]
theorem lw_r2 : ∀ q ∈ lw_privs_2, lw_okq q := List.forall_mem_cons.mpr ⟨lw_p16, List.forall_mem_cons.mpr ⟨lw_p17, List.forall_mem_cons.mpr ⟨lw_p18, List.forall_mem_cons.mpr ⟨lw_p19, List.forall_mem_cons.mpr ⟨lw_p20, List.forall_mem_cons.mpr ⟨lw_p21, List.forall_mem_cons.mpr ⟨lw_p22, List.forall_mem_cons.mpr ⟨lw_p23, List.forall_mem_cons.mpr ⟨lw_p24, List.forall_mem_cons.mpr ⟨lw_p25, List.forall_mem_cons.mpr ⟨lw_p26, List.forall_mem_cons.mpr ⟨lw_p27, List.forall_mem_cons.mpr ⟨lw_p28, List.forall_mem_cons.mpr ⟨lw_p29, List.forall_mem_cons.mpr ⟨lw_p30, List.forall_mem_cons.mpr ⟨lw_p31, fun _ h => absurd h List.not_mem_nil⟩⟩⟩⟩⟩⟩⟩⟩⟩⟩⟩⟩⟩⟩⟩⟩
theorem lw_p32 : lw_okq (⟨"StillLoops$Reader", "readEvent", "()V"⟩, 7) := ⟨⟨by decide +kernel, by decide +kernel⟩, List.mem_of_getElem? (i := 39) (by decide +kernel), List.mem_of_getElem? (i := 985) (by decide +kernel), List.mem_of_getElem? (i := 986) (by decide +kernel)⟩
theorem lw_p33 : lw_okq (⟨"StillLoops$Reader", "readWhat", "()I"⟩, 7) := ⟨⟨by decide +kernel, by decide +kernel⟩, List.mem_of_getElem? (i := 39) (by decide +kernel), List.mem_of_getElem? (i := 989) (by decide +kernel), List.mem_of_getElem? (i := 990) (by decide +kernel)⟩
theorem lw_p34 : lw_okq (⟨"StillLoops$Reader", "readMode", "(LStillLoops$Loop;)I"⟩, 7) := ⟨⟨by decide +kernel, by decide +kernel⟩, List.mem_of_getElem? (i := 39) (by decide +kernel), List.mem_of_getElem? (i := 998) (by decide +kernel), List.mem_of_getElem? (i := 999) (by decide +kernel)⟩
theorem lw_p35 : lw_okq (⟨"java/lang/Throwable", "fillInStackTrace", "(I)Ljava/lang/Throwable;"⟩, 6) := ⟨⟨by decide +kernel, by decide +kernel⟩, List.mem_of_getElem? (i := 1046) (by decide +kernel), List.mem_of_getElem? (i := 1044) (by decide +kernel), List.mem_of_getElem? (i := 1045) (by decide +kernel)⟩
theorem lw_p36 : lw_okq (⟨"StillLoops", "knownLoop", "(I)LStillLoops$Loop;"⟩, 8) := ⟨⟨by decide +kernel, by decide +kernel⟩, List.mem_of_getElem? (i := 31) (by decide +kernel), List.mem_of_getElem? (i := 1095) (by decide +kernel), List.mem_of_getElem? (i := 1096) (by decide +kernel)⟩
theorem lw_p37 : lw_okq (⟨"StillLoops$Bench", "carryOut", "(III)V"⟩, 8) := ⟨⟨by decide +kernel, by decide +kernel⟩, List.mem_of_getElem? (i := 45) (by decide +kernel), List.mem_of_getElem? (i := 1201) (by decide +kernel), List.mem_of_getElem? (i := 1202) (by decide +kernel)⟩
theorem lw_p38 : lw_okq (⟨"StillLoops$Rounds", "wasFound", "(LStillLoops$Bench;)Z"⟩, 4) := ⟨⟨by decide +kernel, by decide +kernel⟩, List.mem_of_getElem? (i := 501) (by decide +kernel), List.mem_of_getElem? (i := 1349) (by decide +kernel), List.mem_of_getElem? (i := 1350) (by decide +kernel)⟩
theorem lw_p39 : lw_okq (⟨"StillLoops", "stepAnswer", "(III)I"⟩, 8) := ⟨⟨by decide +kernel, by decide +kernel⟩, List.mem_of_getElem? (i := 31) (by decide +kernel), List.mem_of_getElem? (i := 1360) (by decide +kernel), List.mem_of_getElem? (i := 1361) (by decide +kernel)⟩
theorem lw_p40 : lw_okq (⟨"StillLoops$Twin", "act", "(LStillLoops$Bench;I)V"⟩, 9) := ⟨⟨by decide +kernel, by decide +kernel⟩, List.mem_of_getElem? (i := 464) (by decide +kernel), List.mem_of_getElem? (i := 1382) (by decide +kernel), List.mem_of_getElem? (i := 1383) (by decide +kernel)⟩
theorem lw_p41 : lw_okq (⟨"StillLoops$Twin", "flowOf", "(LStillLoops$Valve;I)D"⟩, 9) := ⟨⟨by decide +kernel, by decide +kernel⟩, List.mem_of_getElem? (i := 464) (by decide +kernel), List.mem_of_getElem? (i := 1395) (by decide +kernel), List.mem_of_getElem? (i := 1396) (by decide +kernel)⟩
theorem lw_p42 : lw_okq (⟨"StillLoops$Twin", "take", "(LStillLoops$Plant;ID)V"⟩, 9) := ⟨⟨by decide +kernel, by decide +kernel⟩, List.mem_of_getElem? (i := 464) (by decide +kernel), List.mem_of_getElem? (i := 1401) (by decide +kernel), List.mem_of_getElem? (i := 1402) (by decide +kernel)⟩
theorem lw_p43 : lw_okq (⟨"StillLoops", "goAhead", "(I)V"⟩, 8) := ⟨⟨by decide +kernel, by decide +kernel⟩, List.mem_of_getElem? (i := 31) (by decide +kernel), List.mem_of_getElem? (i := 1421) (by decide +kernel), List.mem_of_getElem? (i := 1422) (by decide +kernel)⟩
theorem lw_p44 : lw_okq (⟨"StillLoopsModel", "readBench", "()Z"⟩, 30) := ⟨⟨by decide +kernel, by decide +kernel⟩, List.mem_of_getElem? (i := 1473) (by decide +kernel), List.mem_of_getElem? (i := 1599) (by decide +kernel), List.mem_of_getElem? (i := 1600) (by decide +kernel)⟩
theorem lw_p45 : lw_okq (⟨"StillLoopsModel", "blanks", "()V"⟩, 30) := ⟨⟨by decide +kernel, by decide +kernel⟩, List.mem_of_getElem? (i := 1473) (by decide +kernel), List.mem_of_getElem? (i := 1603) (by decide +kernel), List.mem_of_getElem? (i := 1604) (by decide +kernel)⟩
theorem lw_p46 : lw_okq (⟨"StillLoopsModel", "isAt", "(II)Z"⟩, 30) := ⟨⟨by decide +kernel, by decide +kernel⟩, List.mem_of_getElem? (i := 1473) (by decide +kernel), List.mem_of_getElem? (i := 1607) (by decide +kernel), List.mem_of_getElem? (i := 1608) (by decide +kernel)⟩
theorem lw_p47 : lw_okq (⟨"StillLoopsModel", "letters", "()V"⟩, 30) := ⟨⟨by decide +kernel, by decide +kernel⟩, List.mem_of_getElem? (i := 1473) (by decide +kernel), List.mem_of_getElem? (i := 1611) (by decide +kernel), List.mem_of_getElem? (i := 1612) (by decide +kernel)⟩
def lw_privs_3 : List (MethodName × Nat) := [(⟨"StillLoops$Reader", "readEvent", "()V"⟩, 7), (⟨"StillLoops$Reader", "readWhat", "()I"⟩, 7), (⟨"StillLoops$Reader", "readMode", "(LStillLoops$Loop;)I"⟩, 7), (⟨"java/lang/Throwable", "fillInStackTrace", "(I)Ljava/lang/Throwable;"⟩, 6), (⟨"StillLoops", "knownLoop", "(I)LStillLoops$Loop;"⟩, 8), (⟨"StillLoops$Bench", "carryOut", "(III)V"⟩, 8), (⟨"StillLoops$Rounds", "wasFound", "(LStillLoops$Bench;)Z"⟩, 4), (⟨"StillLoops", "stepAnswer", "(III)I"⟩, 8), (⟨"StillLoops$Twin", "act", "(LStillLoops$Bench;I)V"⟩, 9), (⟨"StillLoops$Twin", "flowOf", "(LStillLoops$Valve;I)D"⟩, 9), (⟨"StillLoops$Twin", "take", "(LStillLoops$Plant;ID)V"⟩, 9), (⟨"StillLoops", "goAhead", "(I)V"⟩, 8), (⟨"StillLoopsModel", "readBench", "()Z"⟩, 30), (⟨"StillLoopsModel", "blanks", "()V"⟩, 30), (⟨"StillLoopsModel", "isAt", "(II)Z"⟩, 30), (⟨"StillLoopsModel", "letters", "()V"⟩, 30)]
theorem lw_r3 : ∀ q ∈ lw_privs_3, lw_okq q := List.forall_mem_cons.mpr ⟨lw_p32, List.forall_mem_cons.mpr ⟨lw_p33, List.forall_mem_cons.mpr ⟨lw_p34, List.forall_mem_cons.mpr ⟨lw_p35, List.forall_mem_cons.mpr ⟨lw_p36, List.forall_mem_cons.mpr ⟨lw_p37, List.forall_mem_cons.mpr ⟨lw_p38, List.forall_mem_cons.mpr ⟨lw_p39, List.forall_mem_cons.mpr ⟨lw_p40, List.forall_mem_cons.mpr ⟨lw_p41, List.forall_mem_cons.mpr ⟨lw_p42, List.forall_mem_cons.mpr ⟨lw_p43, List.forall_mem_cons.mpr ⟨lw_p44, List.forall_mem_cons.mpr ⟨lw_p45, List.forall_mem_cons.mpr ⟨lw_p46, List.forall_mem_cons.mpr ⟨lw_p47, fun _ h => absurd h List.not_mem_nil⟩⟩⟩⟩⟩⟩⟩⟩⟩⟩⟩⟩⟩⟩⟩⟩
theorem lw_p48 : lw_okq (⟨"StillLoopsModel", "readLine", "()Z"⟩, 30) := ⟨⟨by decide +kernel, by decide +kernel⟩, List.mem_of_getElem? (i := 1473) (by decide +kernel), List.mem_of_getElem? (i := 1615) (by decide +kernel), List.mem_of_getElem? (i := 1616) (by decide +kernel)⟩
theorem lw_p49 : lw_okq (⟨"StillLoopsModel", "isWord", "(Ljava/lang/String;)Z"⟩, 30) := ⟨⟨by decide +kernel, by decide +kernel⟩, List.mem_of_getElem? (i := 1473) (by decide +kernel), List.mem_of_getElem? (i := 1620) (by decide +kernel), List.mem_of_getElem? (i := 1621) (by decide +kernel)⟩
theorem lw_p50 : lw_okq (⟨"StillLoopsModel", "readLoop", "()Z"⟩, 30) := ⟨⟨by decide +kernel, by decide +kernel⟩, List.mem_of_getElem? (i := 1473) (by decide +kernel), List.mem_of_getElem? (i := 1626) (by decide +kernel), List.mem_of_getElem? (i := 1627) (by decide +kernel)⟩
theorem lw_p51 : lw_okq (⟨"StillLoopsModel", "loops", "()I"⟩, 30) := ⟨⟨by decide +kernel, by decide +kernel⟩, List.mem_of_getElem? (i := 1473) (by decide +kernel), List.mem_of_getElem? (i := 1630) (by decide +kernel), List.mem_of_getElem? (i := 1631) (by decide +kernel)⟩
theorem lw_p52 : lw_okq (⟨"StillLoopsModel", "readKind", "()Z"⟩, 30) := ⟨⟨by decide +kernel, by decide +kernel⟩, List.mem_of_getElem? (i := 1473) (by decide +kernel), List.mem_of_getElem? (i := 1634) (by decide +kernel), List.mem_of_getElem? (i := 1635) (by decide +kernel)⟩
theorem lw_p53 : lw_okq (⟨"StillLoopsModel", "lays", "(IIJ)V"⟩, 30) := ⟨⟨by decide +kernel, by decide +kernel⟩, List.mem_of_getElem? (i := 1473) (by decide +kernel), List.mem_of_getElem? (i := 1641) (by decide +kernel), List.mem_of_getElem? (i := 1642) (by decide +kernel)⟩
theorem lw_p54 : lw_okq (⟨"StillLoopsModel", "behind", "(Ljava/lang/String;II)Z"⟩, 30) := ⟨⟨by decide +kernel, by decide +kernel⟩, List.mem_of_getElem? (i := 1473) (by decide +kernel), List.mem_of_getElem? (i := 1649) (by decide +kernel), List.mem_of_getElem? (i := 1650) (by decide +kernel)⟩
theorem lw_p55 : lw_okq (⟨"StillLoopsModel", "must", "(Ljava/lang/String;)Z"⟩, 30) := ⟨⟨by decide +kernel, by decide +kernel⟩, List.mem_of_getElem? (i := 1473) (by decide +kernel), List.mem_of_getElem? (i := 1653) (by decide +kernel), List.mem_of_getElem? (i := 1654) (by decide +kernel)⟩
theorem lw_p56 : lw_okq (⟨"StillLoopsModel", "number", "(II)Z"⟩, 30) := ⟨⟨by decide +kernel, by decide +kernel⟩, List.mem_of_getElem? (i := 1473) (by decide +kernel), List.mem_of_getElem? (i := 1657) (by decide +kernel), List.mem_of_getElem? (i := 1658) (by decide +kernel)⟩
theorem lw_p57 : lw_okq (⟨"StillLoopsModel", "figures", "(III)Z"⟩, 30) := ⟨⟨by decide +kernel, by decide +kernel⟩, List.mem_of_getElem? (i := 1473) (by decide +kernel), List.mem_of_getElem? (i := 1661) (by decide +kernel), List.mem_of_getElem? (i := 1662) (by decide +kernel)⟩
theorem lw_p58 : lw_okq (⟨"StillLoopsModel", "signed", "(II)Z"⟩, 30) := ⟨⟨by decide +kernel, by decide +kernel⟩, List.mem_of_getElem? (i := 1473) (by decide +kernel), List.mem_of_getElem? (i := 1670) (by decide +kernel), List.mem_of_getElem? (i := 1671) (by decide +kernel)⟩
theorem lw_p59 : lw_okq (⟨"StillLoopsModel", "whole", "(II)I"⟩, 30) := ⟨⟨by decide +kernel, by decide +kernel⟩, List.mem_of_getElem? (i := 1473) (by decide +kernel), List.mem_of_getElem? (i := 1675) (by decide +kernel), List.mem_of_getElem? (i := 1676) (by decide +kernel)⟩
theorem lw_p60 : lw_okq (⟨"StillLoopsModel", "mayBe", "(Ljava/lang/String;III)Z"⟩, 30) := ⟨⟨by decide +kernel, by decide +kernel⟩, List.mem_of_getElem? (i := 1473) (by decide +kernel), List.mem_of_getElem? (i := 1680) (by decide +kernel), List.mem_of_getElem? (i := 1681) (by decide +kernel)⟩
theorem lw_p61 : lw_okq (⟨"StillLoopsModel", "passes", "(Ljava/lang/String;)Z"⟩, 30) := ⟨⟨by decide +kernel, by decide +kernel⟩, List.mem_of_getElem? (i := 1473) (by decide +kernel), List.mem_of_getElem? (i := 1684) (by decide +kernel), List.mem_of_getElem? (i := 1685) (by decide +kernel)⟩
theorem lw_p62 : lw_okq (⟨"StillLoopsModel", "setAt", "(III)I"⟩, 30) := ⟨⟨by decide +kernel, by decide +kernel⟩, List.mem_of_getElem? (i := 1473) (by decide +kernel), List.mem_of_getElem? (i := 1693) (by decide +kernel), List.mem_of_getElem? (i := 1694) (by decide +kernel)⟩
theorem lw_p63 : lw_okq (⟨"StillLoopsModel", "of", "(II)J"⟩, 30) := ⟨⟨by decide +kernel, by decide +kernel⟩, List.mem_of_getElem? (i := 1473) (by decide +kernel), List.mem_of_getElem? (i := 1698) (by decide +kernel), List.mem_of_getElem? (i := 1699) (by decide +kernel)⟩
def lw_privs_4 : List (MethodName × Nat) := [(⟨"StillLoopsModel", "readLine", "()Z"⟩, 30), (⟨"StillLoopsModel", "isWord", "(Ljava/lang/String;)Z"⟩, 30), (⟨"StillLoopsModel", "readLoop", "()Z"⟩, 30), (⟨"StillLoopsModel", "loops", "()I"⟩, 30), (⟨"StillLoopsModel", "readKind", "()Z"⟩, 30), (⟨"StillLoopsModel", "lays", "(IIJ)V"⟩, 30), (⟨"StillLoopsModel", "behind", "(Ljava/lang/String;II)Z"⟩, 30), (⟨"StillLoopsModel", "must", "(Ljava/lang/String;)Z"⟩, 30), (⟨"StillLoopsModel", "number", "(II)Z"⟩, 30), (⟨"StillLoopsModel", "figures", "(III)Z"⟩, 30), (⟨"StillLoopsModel", "signed", "(II)Z"⟩, 30), (⟨"StillLoopsModel", "whole", "(II)I"⟩, 30), (⟨"StillLoopsModel", "mayBe", "(Ljava/lang/String;III)Z"⟩, 30), (⟨"StillLoopsModel", "passes", "(Ljava/lang/String;)Z"⟩, 30), (⟨"StillLoopsModel", "setAt", "(III)I"⟩, 30), (⟨"StillLoopsModel", "of", "(II)J"⟩, 30)]
theorem lw_r4 : ∀ q ∈ lw_privs_4, lw_okq q := List.forall_mem_cons.mpr ⟨lw_p48, List.forall_mem_cons.mpr ⟨lw_p49, List.forall_mem_cons.mpr ⟨lw_p50, List.forall_mem_cons.mpr ⟨lw_p51, List.forall_mem_cons.mpr ⟨lw_p52, List.forall_mem_cons.mpr ⟨lw_p53, List.forall_mem_cons.mpr ⟨lw_p54, List.forall_mem_cons.mpr ⟨lw_p55, List.forall_mem_cons.mpr ⟨lw_p56, List.forall_mem_cons.mpr ⟨lw_p57, List.forall_mem_cons.mpr ⟨lw_p58, List.forall_mem_cons.mpr ⟨lw_p59, List.forall_mem_cons.mpr ⟨lw_p60, List.forall_mem_cons.mpr ⟨lw_p61, List.forall_mem_cons.mpr ⟨lw_p62, List.forall_mem_cons.mpr ⟨lw_p63, fun _ h => absurd h List.not_mem_nil⟩⟩⟩⟩⟩⟩⟩⟩⟩⟩⟩⟩⟩⟩⟩⟩
theorem lw_p64 : lw_okq (⟨"StillLoopsModel", "readLaw", "()Z"⟩, 30) := ⟨⟨by decide +kernel, by decide +kernel⟩, List.mem_of_getElem? (i := 1473) (by decide +kernel), List.mem_of_getElem? (i := 1708) (by decide +kernel), List.mem_of_getElem? (i := 1709) (by decide +kernel)⟩
theorem lw_p65 : lw_okq (⟨"StillLoopsModel", "readGains", "(I)Z"⟩, 30) := ⟨⟨by decide +kernel, by decide +kernel⟩, List.mem_of_getElem? (i := 1473) (by decide +kernel), List.mem_of_getElem? (i := 1719) (by decide +kernel), List.mem_of_getElem? (i := 1720) (by decide +kernel)⟩
theorem lw_p66 : lw_okq (⟨"StillLoopsModel", "readGain", "(Ljava/lang/String;III)Z"⟩, 30) := ⟨⟨by decide +kernel, by decide +kernel⟩, List.mem_of_getElem? (i := 1473) (by decide +kernel), List.mem_of_getElem? (i := 1725) (by decide +kernel), List.mem_of_getElem? (i := 1726) (by decide +kernel)⟩
theorem lw_p67 : lw_okq (⟨"StillLoopsModel", "readCurve", "()Z"⟩, 30) := ⟨⟨by decide +kernel, by decide +kernel⟩, List.mem_of_getElem? (i := 1473) (by decide +kernel), List.mem_of_getElem? (i := 1732) (by decide +kernel), List.mem_of_getElem? (i := 1733) (by decide +kernel)⟩
theorem lw_p68 : lw_okq (⟨"StillLoopsModel", "isFigure", "()Z"⟩, 30) := ⟨⟨by decide +kernel, by decide +kernel⟩, List.mem_of_getElem? (i := 1473) (by decide +kernel), List.mem_of_getElem? (i := 1736) (by decide +kernel), List.mem_of_getElem? (i := 1737) (by decide +kernel)⟩
theorem lw_p69 : lw_okq (⟨"StillLoopsModel", "readEvent", "()Z"⟩, 30) := ⟨⟨by decide +kernel, by decide +kernel⟩, List.mem_of_getElem? (i := 1473) (by decide +kernel), List.mem_of_getElem? (i := 1741) (by decide +kernel), List.mem_of_getElem? (i := 1742) (by decide +kernel)⟩
theorem lw_p70 : lw_okq (⟨"StillLoopsModel", "eventWord", "()I"⟩, 30) := ⟨⟨by decide +kernel, by decide +kernel⟩, List.mem_of_getElem? (i := 1473) (by decide +kernel), List.mem_of_getElem? (i := 1746) (by decide +kernel), List.mem_of_getElem? (i := 1747) (by decide +kernel)⟩
theorem lw_p71 : lw_okq (⟨"StillLoopsModel", "readMode", "(I)Z"⟩, 30) := ⟨⟨by decide +kernel, by decide +kernel⟩, List.mem_of_getElem? (i := 1473) (by decide +kernel), List.mem_of_getElem? (i := 1755) (by decide +kernel), List.mem_of_getElem? (i := 1756) (by decide +kernel)⟩
theorem lw_p72 : lw_okq (⟨"StillLoopsModel", "throwsIf", "(ZI)Z"⟩, 30) := ⟨⟨by decide +kernel, by decide +kernel⟩, List.mem_of_getElem? (i := 1473) (by decide +kernel), List.mem_of_getElem? (i := 1762) (by decide +kernel), List.mem_of_getElem? (i := 1763) (by decide +kernel)⟩
theorem lw_p73 : lw_okq (⟨"StillLoopsModel", "oneTick", "(Z)I"⟩, 30) := ⟨⟨by decide +kernel, by decide +kernel⟩, List.mem_of_getElem? (i := 1473) (by decide +kernel), List.mem_of_getElem? (i := 1771) (by decide +kernel), List.mem_of_getElem? (i := 1772) (by decide +kernel)⟩
theorem lw_p74 : lw_okq (⟨"StillLoopsModel", "allHappen", "()V"⟩, 30) := ⟨⟨by decide +kernel, by decide +kernel⟩, List.mem_of_getElem? (i := 1473) (by decide +kernel), List.mem_of_getElem? (i := 1775) (by decide +kernel), List.mem_of_getElem? (i := 1776) (by decide +kernel)⟩
theorem lw_p75 : lw_okq (⟨"StillLoopsModel", "happens", "(III)V"⟩, 30) := ⟨⟨by decide +kernel, by decide +kernel⟩, List.mem_of_getElem? (i := 1473) (by decide +kernel), List.mem_of_getElem? (i := 1779) (by decide +kernel), List.mem_of_getElem? (i := 1780) (by decide +kernel)⟩
theorem lw_p76 : lw_okq (⟨"StillLoopsModel", "is", "(II)Z"⟩, 30) := ⟨⟨by decide +kernel, by decide +kernel⟩, List.mem_of_getElem? (i := 1473) (by decide +kernel), List.mem_of_getElem? (i := 1783) (by decide +kernel), List.mem_of_getElem? (i := 1784) (by decide +kernel)⟩
theorem lw_p77 : lw_okq (⟨"StillLoopsModel", "isMode", "(II)V"⟩, 30) := ⟨⟨by decide +kernel, by decide +kernel⟩, List.mem_of_getElem? (i := 1473) (by decide +kernel), List.mem_of_getElem? (i := 1787) (by decide +kernel), List.mem_of_getElem? (i := 1788) (by decide +kernel)⟩
theorem lw_p78 : lw_okq (⟨"StillLoopsModel", "pv", "(I)J"⟩, 30) := ⟨⟨by decide +kernel, by decide +kernel⟩, List.mem_of_getElem? (i := 1473) (by decide +kernel), List.mem_of_getElem? (i := 1791) (by decide +kernel), List.mem_of_getElem? (i := 1792) (by decide +kernel)⟩
theorem lw_p79 : lw_okq (⟨"StillLoopsModel", "isBalanced", "(IJ)V"⟩, 30) := ⟨⟨by decide +kernel, by decide +kernel⟩, List.mem_of_getElem? (i := 1473) (by decide +kernel), List.mem_of_getElem? (i := 1799) (by decide +kernel), List.mem_of_getElem? (i := 1800) (by decide +kernel)⟩
def lw_privs_5 : List (MethodName × Nat) := [(⟨"StillLoopsModel", "readLaw", "()Z"⟩, 30), (⟨"StillLoopsModel", "readGains", "(I)Z"⟩, 30), (⟨"StillLoopsModel", "readGain", "(Ljava/lang/String;III)Z"⟩, 30), (⟨"StillLoopsModel", "readCurve", "()Z"⟩, 30), (⟨"StillLoopsModel", "isFigure", "()Z"⟩, 30), (⟨"StillLoopsModel", "readEvent", "()Z"⟩, 30), (⟨"StillLoopsModel", "eventWord", "()I"⟩, 30), (⟨"StillLoopsModel", "readMode", "(I)Z"⟩, 30), (⟨"StillLoopsModel", "throwsIf", "(ZI)Z"⟩, 30), (⟨"StillLoopsModel", "oneTick", "(Z)I"⟩, 30), (⟨"StillLoopsModel", "allHappen", "()V"⟩, 30), (⟨"StillLoopsModel", "happens", "(III)V"⟩, 30), (⟨"StillLoopsModel", "is", "(II)Z"⟩, 30), (⟨"StillLoopsModel", "isMode", "(II)V"⟩, 30), (⟨"StillLoopsModel", "pv", "(I)J"⟩, 30), (⟨"StillLoopsModel", "isBalanced", "(IJ)V"⟩, 30)]
theorem lw_r5 : ∀ q ∈ lw_privs_5, lw_okq q := List.forall_mem_cons.mpr ⟨lw_p64, List.forall_mem_cons.mpr ⟨lw_p65, List.forall_mem_cons.mpr ⟨lw_p66, List.forall_mem_cons.mpr ⟨lw_p67, List.forall_mem_cons.mpr ⟨lw_p68, List.forall_mem_cons.mpr ⟨lw_p69, List.forall_mem_cons.mpr ⟨lw_p70, List.forall_mem_cons.mpr ⟨lw_p71, List.forall_mem_cons.mpr ⟨lw_p72, List.forall_mem_cons.mpr ⟨lw_p73, List.forall_mem_cons.mpr ⟨lw_p74, List.forall_mem_cons.mpr ⟨lw_p75, List.forall_mem_cons.mpr ⟨lw_p76, List.forall_mem_cons.mpr ⟨lw_p77, List.forall_mem_cons.mpr ⟨lw_p78, List.forall_mem_cons.mpr ⟨lw_p79, fun _ h => absurd h List.not_mem_nil⟩⟩⟩⟩⟩⟩⟩⟩⟩⟩⟩⟩⟩⟩⟩⟩
theorem lw_p80 : lw_okq (⟨"StillLoopsModel", "pNow", "(IJ)J"⟩, 30) := ⟨⟨by decide +kernel, by decide +kernel⟩, List.mem_of_getElem? (i := 1473) (by decide +kernel), List.mem_of_getElem? (i := 1804) (by decide +kernel), List.mem_of_getElem? (i := 1805) (by decide +kernel)⟩
theorem lw_p81 : lw_okq (⟨"StillLoopsModel", "ofSet", "(II)J"⟩, 30) := ⟨⟨by decide +kernel, by decide +kernel⟩, List.mem_of_getElem? (i := 1473) (by decide +kernel), List.mem_of_getElem? (i := 1808) (by decide +kernel), List.mem_of_getElem? (i := 1809) (by decide +kernel)⟩
theorem lw_p82 : lw_okq (⟨"StillLoopsModel", "pOf", "(IJJ)J"⟩, 30) := ⟨⟨by decide +kernel, by decide +kernel⟩, List.mem_of_getElem? (i := 1473) (by decide +kernel), List.mem_of_getElem? (i := 1812) (by decide +kernel), List.mem_of_getElem? (i := 1813) (by decide +kernel)⟩
theorem lw_p83 : lw_okq (⟨"StillLoopsModel", "dNow", "(I)J"⟩, 30) := ⟨⟨by decide +kernel, by decide +kernel⟩, List.mem_of_getElem? (i := 1473) (by decide +kernel), List.mem_of_getElem? (i := 1816) (by decide +kernel), List.mem_of_getElem? (i := 1817) (by decide +kernel)⟩
theorem lw_p84 : lw_okq (⟨"StillLoopsModel", "isI", "(IJ)V"⟩, 30) := ⟨⟨by decide +kernel, by decide +kernel⟩, List.mem_of_getElem? (i := 1473) (by decide +kernel), List.mem_of_getElem? (i := 1820) (by decide +kernel), List.mem_of_getElem? (i := 1821) (by decide +kernel)⟩
theorem lw_p85 : lw_okq (⟨"StillLoopsModel", "isTold", "(IIJ)V"⟩, 30) := ⟨⟨by decide +kernel, by decide +kernel⟩, List.mem_of_getElem? (i := 1473) (by decide +kernel), List.mem_of_getElem? (i := 1826) (by decide +kernel), List.mem_of_getElem? (i := 1827) (by decide +kernel)⟩
theorem lw_p86 : lw_okq (⟨"StillLoopsModel", "oneLoop", "(I)V"⟩, 30) := ⟨⟨by decide +kernel, by decide +kernel⟩, List.mem_of_getElem? (i := 1473) (by decide +kernel), List.mem_of_getElem? (i := 1831) (by decide +kernel), List.mem_of_getElem? (i := 1832) (by decide +kernel)⟩
theorem lw_p87 : lw_okq (⟨"StillLoopsModel", "mayTrip", "(I)V"⟩, 30) := ⟨⟨by decide +kernel, by decide +kernel⟩, List.mem_of_getElem? (i := 1473) (by decide +kernel), List.mem_of_getElem? (i := 1835) (by decide +kernel), List.mem_of_getElem? (i := 1836) (by decide +kernel)⟩
theorem lw_p88 : lw_okq (⟨"StillLoopsModel", "cause", "(I)I"⟩, 30) := ⟨⟨by decide +kernel, by decide +kernel⟩, List.mem_of_getElem? (i := 1473) (by decide +kernel), List.mem_of_getElem? (i := 1839) (by decide +kernel), List.mem_of_getElem? (i := 1840) (by decide +kernel)⟩
theorem lw_p89 : lw_okq (⟨"StillLoopsModel", "picksSet", "(IJ)V"⟩, 30) := ⟨⟨by decide +kernel, by decide +kernel⟩, List.mem_of_getElem? (i := 1473) (by decide +kernel), List.mem_of_getElem? (i := 1844) (by decide +kernel), List.mem_of_getElem? (i := 1845) (by decide +kernel)⟩
theorem lw_p90 : lw_okq (⟨"StillLoopsModel", "makesUp", "(IJJ)V"⟩, 30) := ⟨⟨by decide +kernel, by decide +kernel⟩, List.mem_of_getElem? (i := 1473) (by decide +kernel), List.mem_of_getElem? (i := 1848) (by decide +kernel), List.mem_of_getElem? (i := 1849) (by decide +kernel)⟩
theorem lw_p91 : lw_okq (⟨"StillLoopsModel", "isFollowing", "(I)Z"⟩, 30) := ⟨⟨by decide +kernel, by decide +kernel⟩, List.mem_of_getElem? (i := 1473) (by decide +kernel), List.mem_of_getElem? (i := 1852) (by decide +kernel), List.mem_of_getElem? (i := 1853) (by decide +kernel)⟩
theorem lw_p92 : lw_okq (⟨"StillLoopsModel", "leastOn", "(I)I"⟩, 30) := ⟨⟨by decide +kernel, by decide +kernel⟩, List.mem_of_getElem? (i := 1473) (by decide +kernel), List.mem_of_getElem? (i := 1856) (by decide +kernel), List.mem_of_getElem? (i := 1857) (by decide +kernel)⟩
theorem lw_p93 : lw_okq (⟨"StillLoopsModel", "controls", "(IJ)V"⟩, 30) := ⟨⟨by decide +kernel, by decide +kernel⟩, List.mem_of_getElem? (i := 1473) (by decide +kernel), List.mem_of_getElem? (i := 1860) (by decide +kernel), List.mem_of_getElem? (i := 1861) (by decide +kernel)⟩
theorem lw_p94 : lw_okq (⟨"StillLoopsModel", "isHeldAt", "(IJ)Z"⟩, 30) := ⟨⟨by decide +kernel, by decide +kernel⟩, List.mem_of_getElem? (i := 1473) (by decide +kernel), List.mem_of_getElem? (i := 1866) (by decide +kernel), List.mem_of_getElem? (i := 1867) (by decide +kernel)⟩
theorem lw_p95 : lw_okq (⟨"StillLoopsModel", "relays", "(IJ)V"⟩, 30) := ⟨⟨by decide +kernel, by decide +kernel⟩, List.mem_of_getElem? (i := 1473) (by decide +kernel), List.mem_of_getElem? (i := 1870) (by decide +kernel), List.mem_of_getElem? (i := 1871) (by decide +kernel)⟩
def lw_privs_6 : List (MethodName × Nat) := [(⟨"StillLoopsModel", "pNow", "(IJ)J"⟩, 30), (⟨"StillLoopsModel", "ofSet", "(II)J"⟩, 30), (⟨"StillLoopsModel", "pOf", "(IJJ)J"⟩, 30), (⟨"StillLoopsModel", "dNow", "(I)J"⟩, 30), (⟨"StillLoopsModel", "isI", "(IJ)V"⟩, 30), (⟨"StillLoopsModel", "isTold", "(IIJ)V"⟩, 30), (⟨"StillLoopsModel", "oneLoop", "(I)V"⟩, 30), (⟨"StillLoopsModel", "mayTrip", "(I)V"⟩, 30), (⟨"StillLoopsModel", "cause", "(I)I"⟩, 30), (⟨"StillLoopsModel", "picksSet", "(IJ)V"⟩, 30), (⟨"StillLoopsModel", "makesUp", "(IJJ)V"⟩, 30), (⟨"StillLoopsModel", "isFollowing", "(I)Z"⟩, 30), (⟨"StillLoopsModel", "leastOn", "(I)I"⟩, 30), (⟨"StillLoopsModel", "controls", "(IJ)V"⟩, 30), (⟨"StillLoopsModel", "isHeldAt", "(IJ)Z"⟩, 30), (⟨"StillLoopsModel", "relays", "(IJ)V"⟩, 30)]
theorem lw_r6 : ∀ q ∈ lw_privs_6, lw_okq q := List.forall_mem_cons.mpr ⟨lw_p80, List.forall_mem_cons.mpr ⟨lw_p81, List.forall_mem_cons.mpr ⟨lw_p82, List.forall_mem_cons.mpr ⟨lw_p83, List.forall_mem_cons.mpr ⟨lw_p84, List.forall_mem_cons.mpr ⟨lw_p85, List.forall_mem_cons.mpr ⟨lw_p86, List.forall_mem_cons.mpr ⟨lw_p87, List.forall_mem_cons.mpr ⟨lw_p88, List.forall_mem_cons.mpr ⟨lw_p89, List.forall_mem_cons.mpr ⟨lw_p90, List.forall_mem_cons.mpr ⟨lw_p91, List.forall_mem_cons.mpr ⟨lw_p92, List.forall_mem_cons.mpr ⟨lw_p93, List.forall_mem_cons.mpr ⟨lw_p94, List.forall_mem_cons.mpr ⟨lw_p95, fun _ h => absurd h List.not_mem_nil⟩⟩⟩⟩⟩⟩⟩⟩⟩⟩⟩⟩⟩⟩⟩⟩
theorem lw_p96 : lw_okq (⟨"StillLoopsModel", "isRelayed", "(IJ)Z"⟩, 30) := ⟨⟨by decide +kernel, by decide +kernel⟩, List.mem_of_getElem? (i := 1473) (by decide +kernel), List.mem_of_getElem? (i := 1874) (by decide +kernel), List.mem_of_getElem? (i := 1875) (by decide +kernel)⟩
theorem lw_p97 : lw_okq (⟨"StillLoopsModel", "goesUp", "(IJ)Z"⟩, 30) := ⟨⟨by decide +kernel, by decide +kernel⟩, List.mem_of_getElem? (i := 1473) (by decide +kernel), List.mem_of_getElem? (i := 1878) (by decide +kernel), List.mem_of_getElem? (i := 1879) (by decide +kernel)⟩
theorem lw_p98 : lw_okq (⟨"StillLoopsModel", "onePlant", "(I)V"⟩, 30) := ⟨⟨by decide +kernel, by decide +kernel⟩, List.mem_of_getElem? (i := 1473) (by decide +kernel), List.mem_of_getElem? (i := 1887) (by decide +kernel), List.mem_of_getElem? (i := 1888) (by decide +kernel)⟩
theorem lw_p99 : lw_okq (⟨"StillLoopsModel", "flowOf", "(IJ)J"⟩, 30) := ⟨⟨by decide +kernel, by decide +kernel⟩, List.mem_of_getElem? (i := 1473) (by decide +kernel), List.mem_of_getElem? (i := 1891) (by decide +kernel), List.mem_of_getElem? (i := 1892) (by decide +kernel)⟩
theorem lw_p100 : lw_okq (⟨"StillLoopsModel", "is0", "(II)Z"⟩, 30) := ⟨⟨by decide +kernel, by decide +kernel⟩, List.mem_of_getElem? (i := 1473) (by decide +kernel), List.mem_of_getElem? (i := 1898) (by decide +kernel), List.mem_of_getElem? (i := 1899) (by decide +kernel)⟩
theorem lw_p101 : lw_okq (⟨"StillLoopsModel", "noMode", "(IIII)Z"⟩, 30) := ⟨⟨by decide +kernel, by decide +kernel⟩, List.mem_of_getElem? (i := 1473) (by decide +kernel), List.mem_of_getElem? (i := 1908) (by decide +kernel), List.mem_of_getElem? (i := 1909) (by decide +kernel)⟩
theorem lw_p102 : lw_okq (⟨"StillLoopsModel", "noLoop", "(I)Z"⟩, 30) := ⟨⟨by decide +kernel, by decide +kernel⟩, List.mem_of_getElem? (i := 1473) (by decide +kernel), List.mem_of_getElem? (i := 1912) (by decide +kernel), List.mem_of_getElem? (i := 1913) (by decide +kernel)⟩
theorem lw_p103 : lw_okq (⟨"StillLoopsModel", "isGained", "(IJJJ)V"⟩, 30) := ⟨⟨by decide +kernel, by decide +kernel⟩, List.mem_of_getElem? (i := 1473) (by decide +kernel), List.mem_of_getElem? (i := 1928) (by decide +kernel), List.mem_of_getElem? (i := 1929) (by decide +kernel)⟩
theorem lw_p104 : lw_okq (⟨"StillLoopsModel", "roomOf", "(I)J"⟩, 30) := ⟨⟨by decide +kernel, by decide +kernel⟩, List.mem_of_getElem? (i := 1473) (by decide +kernel), List.mem_of_getElem? (i := 1962) (by decide +kernel), List.mem_of_getElem? (i := 1963) (by decide +kernel)⟩
theorem lw_p105 : lw_okq (⟨"StillLoopsModel", "keepsAll", "()V"⟩, 30) := ⟨⟨by decide +kernel, by decide +kernel⟩, List.mem_of_getElem? (i := 1473) (by decide +kernel), List.mem_of_getElem? (i := 1990) (by decide +kernel), List.mem_of_getElem? (i := 1991) (by decide +kernel)⟩
theorem lw_p106 : lw_okq (⟨"StillLoopsModel", "goesOn", "(I)V"⟩, 30) := ⟨⟨by decide +kernel, by decide +kernel⟩, List.mem_of_getElem? (i := 1473) (by decide +kernel), List.mem_of_getElem? (i := 1994) (by decide +kernel), List.mem_of_getElem? (i := 1995) (by decide +kernel)⟩
theorem lw_p107 : lw_okq (⟨"StillLoopsModel", "bringsBack", "()V"⟩, 30) := ⟨⟨by decide +kernel, by decide +kernel⟩, List.mem_of_getElem? (i := 1473) (by decide +kernel), List.mem_of_getElem? (i := 1998) (by decide +kernel), List.mem_of_getElem? (i := 1999) (by decide +kernel)⟩
theorem lw_p108 : lw_okq (⟨"StillLoopsModel", "noTicks", "(II)Z"⟩, 30) := ⟨⟨by decide +kernel, by decide +kernel⟩, List.mem_of_getElem? (i := 1473) (by decide +kernel), List.mem_of_getElem? (i := 2010) (by decide +kernel), List.mem_of_getElem? (i := 2011) (by decide +kernel)⟩
theorem lw_p109 : lw_okq (⟨"StillLoopsModel", "isUpTo", "(I)Z"⟩, 30) := ⟨⟨by decide +kernel, by decide +kernel⟩, List.mem_of_getElem? (i := 1473) (by decide +kernel), List.mem_of_getElem? (i := 2018) (by decide +kernel), List.mem_of_getElem? (i := 2019) (by decide +kernel)⟩
theorem lw_p110 : lw_okq (⟨"StillLoopsModel", "offBy", "(I)J"⟩, 30) := ⟨⟨by decide +kernel, by decide +kernel⟩, List.mem_of_getElem? (i := 1473) (by decide +kernel), List.mem_of_getElem? (i := 2026) (by decide +kernel), List.mem_of_getElem? (i := 2027) (by decide +kernel)⟩
theorem lw_p111 : lw_okq (⟨"StillLoopsModel", "laysRound", "()V"⟩, 30) := ⟨⟨by decide +kernel, by decide +kernel⟩, List.mem_of_getElem? (i := 1473) (by decide +kernel), List.mem_of_getElem? (i := 2050) (by decide +kernel), List.mem_of_getElem? (i := 2051) (by decide +kernel)⟩
def lw_privs_7 : List (MethodName × Nat) := [(⟨"StillLoopsModel", "isRelayed", "(IJ)Z"⟩, 30), (⟨"StillLoopsModel", "goesUp", "(IJ)Z"⟩, 30), (⟨"StillLoopsModel", "onePlant", "(I)V"⟩, 30), (⟨"StillLoopsModel", "flowOf", "(IJ)J"⟩, 30), (⟨"StillLoopsModel", "is0", "(II)Z"⟩, 30), (⟨"StillLoopsModel", "noMode", "(IIII)Z"⟩, 30), (⟨"StillLoopsModel", "noLoop", "(I)Z"⟩, 30), (⟨"StillLoopsModel", "isGained", "(IJJJ)V"⟩, 30), (⟨"StillLoopsModel", "roomOf", "(I)J"⟩, 30), (⟨"StillLoopsModel", "keepsAll", "()V"⟩, 30), (⟨"StillLoopsModel", "goesOn", "(I)V"⟩, 30), (⟨"StillLoopsModel", "bringsBack", "()V"⟩, 30), (⟨"StillLoopsModel", "noTicks", "(II)Z"⟩, 30), (⟨"StillLoopsModel", "isUpTo", "(I)Z"⟩, 30), (⟨"StillLoopsModel", "offBy", "(I)J"⟩, 30), (⟨"StillLoopsModel", "laysRound", "()V"⟩, 30)]
theorem lw_r7 : ∀ q ∈ lw_privs_7, lw_okq q := List.forall_mem_cons.mpr ⟨lw_p96, List.forall_mem_cons.mpr ⟨lw_p97, List.forall_mem_cons.mpr ⟨lw_p98, List.forall_mem_cons.mpr ⟨lw_p99, List.forall_mem_cons.mpr ⟨lw_p100, List.forall_mem_cons.mpr ⟨lw_p101, List.forall_mem_cons.mpr ⟨lw_p102, List.forall_mem_cons.mpr ⟨lw_p103, List.forall_mem_cons.mpr ⟨lw_p104, List.forall_mem_cons.mpr ⟨lw_p105, List.forall_mem_cons.mpr ⟨lw_p106, List.forall_mem_cons.mpr ⟨lw_p107, List.forall_mem_cons.mpr ⟨lw_p108, List.forall_mem_cons.mpr ⟨lw_p109, List.forall_mem_cons.mpr ⟨lw_p110, List.forall_mem_cons.mpr ⟨lw_p111, fun _ h => absurd h List.not_mem_nil⟩⟩⟩⟩⟩⟩⟩⟩⟩⟩⟩⟩⟩⟩⟩⟩
theorem lw_p112 : lw_okq (⟨"StillLoopsModel", "keepsTime", "([JI)V"⟩, 30) := ⟨⟨by decide +kernel, by decide +kernel⟩, List.mem_of_getElem? (i := 1473) (by decide +kernel), List.mem_of_getElem? (i := 2054) (by decide +kernel), List.mem_of_getElem? (i := 2055) (by decide +kernel)⟩
theorem lw_p113 : lw_okq (⟨"StillLoopsModel", "areAlike", "([JI[JI)Z"⟩, 30) := ⟨⟨by decide +kernel, by decide +kernel⟩, List.mem_of_getElem? (i := 1473) (by decide +kernel), List.mem_of_getElem? (i := 2058) (by decide +kernel), List.mem_of_getElem? (i := 2059) (by decide +kernel)⟩
theorem lw_p114 : lw_okq (⟨"StillLoopsModel", "isInRound", "(I)Z"⟩, 30) := ⟨⟨by decide +kernel, by decide +kernel⟩, List.mem_of_getElem? (i := 1473) (by decide +kernel), List.mem_of_getElem? (i := 2071) (by decide +kernel), List.mem_of_getElem? (i := 2072) (by decide +kernel)⟩
theorem lw_p115 : lw_okq (⟨"StillLoopsModel", "stepOf", "(III)I"⟩, 30) := ⟨⟨by decide +kernel, by decide +kernel⟩, List.mem_of_getElem? (i := 1473) (by decide +kernel), List.mem_of_getElem? (i := 2079) (by decide +kernel), List.mem_of_getElem? (i := 2080) (by decide +kernel)⟩
theorem lw_p116 : lw_okq (⟨"StillLoopsModel", "beginsTwin", "()V"⟩, 30) := ⟨⟨by decide +kernel, by decide +kernel⟩, List.mem_of_getElem? (i := 1473) (by decide +kernel), List.mem_of_getElem? (i := 2089) (by decide +kernel), List.mem_of_getElem? (i := 2090) (by decide +kernel)⟩
theorem lw_p117 : lw_okq (⟨"StillLoopsModel", "twinOff", "(I)D"⟩, 30) := ⟨⟨by decide +kernel, by decide +kernel⟩, List.mem_of_getElem? (i := 1473) (by decide +kernel), List.mem_of_getElem? (i := 2093) (by decide +kernel), List.mem_of_getElem? (i := 2094) (by decide +kernel)⟩
theorem lw_p118 : lw_okq (⟨"StillLoopsModel", "twinLoop", "(I)V"⟩, 30) := ⟨⟨by decide +kernel, by decide +kernel⟩, List.mem_of_getElem? (i := 1473) (by decide +kernel), List.mem_of_getElem? (i := 2097) (by decide +kernel), List.mem_of_getElem? (i := 2098) (by decide +kernel)⟩
theorem lw_p119 : lw_okq (⟨"StillLoopsModel", "told", "(II)J"⟩, 30) := ⟨⟨by decide +kernel, by decide +kernel⟩, List.mem_of_getElem? (i := 1473) (by decide +kernel), List.mem_of_getElem? (i := 2102) (by decide +kernel), List.mem_of_getElem? (i := 2103) (by decide +kernel)⟩
theorem lw_p120 : lw_okq (⟨"StillLoopsModel", "gainTold", "(II)D"⟩, 30) := ⟨⟨by decide +kernel, by decide +kernel⟩, List.mem_of_getElem? (i := 1473) (by decide +kernel), List.mem_of_getElem? (i := 2106) (by decide +kernel), List.mem_of_getElem? (i := 2107) (by decide +kernel)⟩
theorem lw_p121 : lw_okq (⟨"StillLoopsModel", "twinPlant", "(I)V"⟩, 30) := ⟨⟨by decide +kernel, by decide +kernel⟩, List.mem_of_getElem? (i := 1473) (by decide +kernel), List.mem_of_getElem? (i := 2129) (by decide +kernel), List.mem_of_getElem? (i := 2130) (by decide +kernel)⟩
theorem lw_p122 : lw_okq (⟨"StillLoopsModel", "twinFlow", "(I)D"⟩, 30) := ⟨⟨by decide +kernel, by decide +kernel⟩, List.mem_of_getElem? (i := 1473) (by decide +kernel), List.mem_of_getElem? (i := 2133) (by decide +kernel), List.mem_of_getElem? (i := 2134) (by decide +kernel)⟩
def lw_privs_8 : List (MethodName × Nat) := [(⟨"StillLoopsModel", "keepsTime", "([JI)V"⟩, 30), (⟨"StillLoopsModel", "areAlike", "([JI[JI)Z"⟩, 30), (⟨"StillLoopsModel", "isInRound", "(I)Z"⟩, 30), (⟨"StillLoopsModel", "stepOf", "(III)I"⟩, 30), (⟨"StillLoopsModel", "beginsTwin", "()V"⟩, 30), (⟨"StillLoopsModel", "twinOff", "(I)D"⟩, 30), (⟨"StillLoopsModel", "twinLoop", "(I)V"⟩, 30), (⟨"StillLoopsModel", "told", "(II)J"⟩, 30), (⟨"StillLoopsModel", "gainTold", "(II)D"⟩, 30), (⟨"StillLoopsModel", "twinPlant", "(I)V"⟩, 30), (⟨"StillLoopsModel", "twinFlow", "(I)D"⟩, 30)]
theorem lw_r8 : ∀ q ∈ lw_privs_8, lw_okq q := List.forall_mem_cons.mpr ⟨lw_p112, List.forall_mem_cons.mpr ⟨lw_p113, List.forall_mem_cons.mpr ⟨lw_p114, List.forall_mem_cons.mpr ⟨lw_p115, List.forall_mem_cons.mpr ⟨lw_p116, List.forall_mem_cons.mpr ⟨lw_p117, List.forall_mem_cons.mpr ⟨lw_p118, List.forall_mem_cons.mpr ⟨lw_p119, List.forall_mem_cons.mpr ⟨lw_p120, List.forall_mem_cons.mpr ⟨lw_p121, List.forall_mem_cons.mpr ⟨lw_p122, fun _ h => absurd h List.not_mem_nil⟩⟩⟩⟩⟩⟩⟩⟩⟩⟩⟩
def lw_privs : List (MethodName × Nat) := lw_privs_1 ++ (lw_privs_2 ++ (lw_privs_3 ++ (lw_privs_4 ++ (lw_privs_5 ++ (lw_privs_6 ++ (lw_privs_7 ++ (lw_privs_8)))))))
def lw_tbl : List Cond := k2_sels lw_privs ++ tables_1
theorem lw_privs_ok : ∀ q ∈ lw_privs, lw_okq q := by
  show ∀ q ∈ lw_privs_1 ++ (lw_privs_2 ++ (lw_privs_3 ++ (lw_privs_4 ++ (lw_privs_5 ++ (lw_privs_6 ++ (lw_privs_7 ++ (lw_privs_8))))))), lw_okq q
  exact List.forall_mem_append.mpr ⟨lw_r1, List.forall_mem_append.mpr ⟨lw_r2, List.forall_mem_append.mpr ⟨lw_r3, List.forall_mem_append.mpr ⟨lw_r4, List.forall_mem_append.mpr ⟨lw_r5, List.forall_mem_append.mpr ⟨lw_r6, List.forall_mem_append.mpr ⟨lw_r7, lw_r8⟩⟩⟩⟩⟩⟩⟩
/-- the streams that the claim lets the run draw from -/
abbrev lw_cs : List Choice := [Jvm.Choice.named "NaN.bits", Jvm.Choice.named "NaN.copy"]
theorem lw_bits : nanBits ∈ lw_cs := by first | decide | exact List.mem_cons_self | simp [lw_cs, nanBits]
end
section
/-! ===== BEGIN words of one list among another's, by their places ===== -/
theorem goodIn_r {big : List Cond} (ws : List Cond) (ps : List Nat) (hp : ws = ps.filterMap (fun i => big[i]?)) (h : ws.all goodWord = true) : GoodIn big ws := by
  intro w hw
  have h1 := List.all_eq_true.mp h w hw
  rw [hp] at hw
  obtain ⟨i, -, hi⟩ := List.mem_filterMap.mp hw
  have hm : w ∈ big := by first | exact List.mem_of_getElem? hi | exact List.getElem?_mem hi
  exact ⟨hm, good_of_word h1⟩
theorem goodIn_app {big a b : List Cond} (ha : GoodIn big a) (hb : GoodIn big b) : GoodIn big (a ++ b) := fun w h => (List.mem_append.mp h).elim (ha w) (hb w)
theorem goodIn_ca {big a b : List Cond} {c : Cond} (ha : GoodIn big (c :: a)) (hb : GoodIn big b) : GoodIn big (c :: (a ++ b)) := fun w h => (List.mem_cons.mp h).elim (fun e => ha w (List.mem_cons.mpr (Or.inl e))) (fun h => (List.mem_append.mp h).elim (fun h => ha w (List.mem_cons.mpr (Or.inr h))) (hb w))
theorem goodIn_sub {big ws : List Cond} (hm : ∀ w ∈ ws, w ∈ big) (h : ws.all goodWord = true) : GoodIn big ws := fun w hw => ⟨hm w hw, good_of_word (List.all_eq_true.mp h w hw)⟩
/-! ===== END ===== -/



/-! ===== BEGIN exceptions that leave a method, and their catching by the caller (launches without stack traces) ===== -/
section VXA
/-! The laws vx_back, vx_callV, vx_callS, vx_callSW, vx_throw0, vx_throwS follow proofs of the library, with one case more: JvmDerived/Free/Laws.lean (Back.of_free), Shelf42/LK1.lean (callV, callS), Shelf/KitTraced.lean (throwNew0V, throwNewS). -/
/-- where a method has thrown q: the class by its name, the cell, what was written, the world -/
def vx_T (XC : String → State → State → Prop) (st : State) (q : Addr) (t : State) (mc ms : Nat) (free : Addr → Prop) : Prop :=
  ∃ (E : String) (ce : Cell) (L : List Loc), XC E st t ∧ t.heap[q]? = some ce ∧ ce.vm = .none ∧ st.vm.findClass E = some ce.cls ∧ st.WarmedH t.vm ∧ st.sameButNew ({ t with vm := st.vm } : State) L mc ms ∧ ∀ z ∈ L, free z.base
def vx_Q (Qc : Array Value → State → Outcome → State → Prop) (XC : String → State → State → Prop) (mc ms : Nat) (free : Addr → Prop) : Array Value → State → Outcome → State → Prop := fun a st o t =>
  (Qc a st o t ∧ ∃ L, FrameEnd st o t L mc ms ∧ ∀ q ∈ L, free q.base) ∨ ∃ q, o = .threw q ∧ vx_T XC st q t mc ms free
/-- a callee that returns or throws -/
def vx_Met (l : Launch) (y : MethodName) (ws : List Cond) (rm : Room) (Pc : Array Value → State → Prop) (Qc : Array Value → State → Outcome → State → Prop) (XC : String → State → State → Prop) (mc ms : Nat) (free : Addr → Prop) : Prop :=
  MetFree l y (headSpec ws rm) Pc (fun _ _ _ _ _ => True) (vx_Q Qc XC mc ms free)
def vx_Post (XC : String → State → State → Prop) (mc ms : Nat) (free : Addr → Prop) : Pt → Array Value → Addr → Pt → Prop := fun A a q B =>
  ∃ (g : JFrame) (mk : MethodId) (t : State) (L : List Loc) (E : String) (ce : Cell), B.U.heap = t.heap ∧ B.U.vm = t.vm ∧ XC E (A.U.calling g mk a) t ∧ t.heap[q]? = some ce ∧ ce.vm = .none ∧ A.U.vm.findClass E = some ce.cls ∧ B.locs = A.locs ++ L ∧ (∀ z ∈ L, free z.base) ∧ B.cells = A.cells + mc ∧ B.slots = A.slots + ms
def vx_Back (l : Launch) (R : Room) (p : Program) (e : Env) (below : List Frame) (s : State) (sargs : Array Value) (y : MethodName) (len W9 : Nat)
    (Pre : Pt → Array Value → Prop) (Post : Pt → Array Value → Option Value → Pt → Prop) (PostX : Pt → Array Value → Addr → Pt → Prop) : Prop :=
  ∀ (m : MethodId) (meth : Method) (c : Code) (A : Pt) (g : JFrame) (ig : Instr) (mk : MethodId) (a : Array Value),
    Stand p l e R s m sargs below meth c A.U A.locs A.cells A.slots → g.method = m → g.locals.size = c.maxLocals → decode c.code g.pc = .ok (ig, len) →
    2 * g.monitorRoom + (g.stack.map fun v => v.category).sum ≤ W9 → A.U.methodNamed? y = some mk → Pre A a →
    (∃ (v : Option Value) (B : Pt), Stand p l e R s m sargs below meth c B.U B.locs B.cells B.slots ∧ Post A a v B ∧
      Steps p.tables e below (doInvoke e (A.U.setTop g) [] mk a).1 (B.U.setTop { g with pc := g.pc + len, stack := v.toList ++ g.stack })) ∨
    (∃ (q : Addr) (B : Pt), Stand p l e R s m sargs below meth c B.U B.locs B.cells B.slots ∧ PostX A a q B ∧
      Steps p.tables e below (doInvoke e (A.U.setTop g) [] mk a).1 ((B.U.setTop g).pushFrame (.throwing q)))
section Payer
variable {l : Launch} {R : Room} {p : Program} {e : Env} {below : List Frame} {s : State} {sargs : Array Value} {y : MethodName} {len W9 : Nat}
theorem vx_back {ws : List Cond} {rm : Room} {Pc : Array Value → State → Prop} {Qc : Array Value → State → Outcome → State → Prop} {XC : String → State → State → Prop} {mc ms : Nat} {free : Addr → Prop} {bytes : ByteArray} {maxL : Nat} {ret : Option FieldType}
    (hM : vx_Met l y ws rm Pc Qc XC mc ms free) (hblind : FrameBlind Pc) (hrc : rm.cells = mc) (hrs : rm.slots = ms)
    (hframes : rm.frames + 1 ≤ R.frames) (hlocals : W9 + (maxL + 11) + rm.locals ≤ R.locals)
    (hws : ∀ w ∈ ws, ∀ a' U, s.WarmedH U.vm → w.before a' U = true) (hcode : Cond.code y bytes maxL ret ∈ ws) (hinit : ∀ a' U, s.WarmedH U.vm → (Cond.initialized y.cls).before a' U = true) :
    vx_Back l R p e below s sargs y len W9 (PreOf R mc ms Pc) (PostOf Qc mc ms free) (vx_Post XC mc ms free) := by
  intro m meth c A g ig mk a X hg hsize hdg hW hn hp
  have h1 : (headSpec ws rm).pre.before a A.U = true := atoms_intro fun w hw => hws w hw _ _ X.warmed
  have h2 : (Cond.code y bytes maxL ret).before a A.U = true := hws _ hcode _ _ X.warmed
  have h3 : (Cond.initialized y.cls).before a A.U = true := hinit _ _ X.warmed
  have h4 : A.cells + (headSpec ws rm).room.cells ≤ R.cells := by rw [show (headSpec ws rm).room.cells = mc from hrc]; exact hp.1
  have h5 : A.slots + (headSpec ws rm).room.slots ≤ R.slots := by rw [show (headSpec ws rm).room.slots = ms from hrs]; exact hp.2.1
  have hPc : Pc a (A.U.calling g mk a) := hblind _ _ _ _ hp.2.2
  obtain ⟨U, Ls, c0, s0⟩ := A
  dsimp only [Pt.U, Pt.locs, Pt.cells, Pt.slots] at h1 h2 h3 h4 h5 X hn hPc ⊢
  obtain ⟨methY, cY, hmY, hcY, -, hlY, -, -, -, -⟩ := Cond.code_spec hn h2
  obtain ⟨kY, hkY, -⟩ := className_of_methodNamed hn
  have hinitY : kY.init = .initialized := Cond.initialized_spec (findClass_of_methodNamed hn) hkY h3
  have h : At U g.method c below := by rw [hg]; exact X.here
  have hlocals9 : W9 + (maxL + 11) + (headSpec ws rm).room.locals ≤ R.locals := hlocals
  have happ : (headSpec ws rm).appliesLoose y e.platform (U.calling g mk a) = true :=
    Spec.appliesLoose_calling (g := g) h hdg hn hkY hinitY
      (X.room_calling (g := g) (R' := (headSpec ws rm).room) hsize hmY hcY hframes (by rw [hlY]; omega) h4 h5) h1
  obtain ⟨mid, hmid⟩ := h.above
  have hfr : (U.setTop g).frames = (.java g :: mid) ++ below := by rw [State.frames_setTop' g h.top, hmid]; rfl
  obtain ⟨o, s₂, hsteps, -, hend, hq⟩ := Steps.callFree hM p X.admits X.cas X.clock (acts := []) hfr happ hPc trivial
  have hq' : vx_Q Qc XC mc ms free a (U.calling g mk a) o s₂ := hq
  rw [State.frames_setTop' g h.top] at hend
  obtain ⟨g₀, hg0⟩ := Option.isSome_iff_exists.mp h.top
  obtain ⟨r, hr⟩ := State.topJava?_eq_some.mp hg0
  have hr' : (({ U with heap := s₂.heap, slotsUsed := s₂.slotsUsed } : State).setVm s₂.vm).frames = .java g₀ :: r := hr
  rcases hq' with ⟨hqc, L, hfe, hL⟩ | ⟨q, rfl, E, ce, L, hx, hce, hcv, hcl, hW₂, hsm, hL⟩
  · obtain ⟨⟨v, rfl⟩, hW₂, e2, q2, q3, q4, q5, q6⟩ := id hfe
    have e3 : s₂ = ({ (U.calling g mk a).setFrames s₂.frames with heap := s₂.heap, slotsUsed := s₂.slotsUsed } : State).setVm s₂.vm := by
      have : s₂ = ({ s₂ with vm := (U.calling g mk a).vm } : State).setVm s₂.vm := rfl
      rw [e2] at this
      exact this
    obtain ⟨c₂, i₂, len₂, hc₂, hd₂, hf₂⟩ := hend
    have hW' : U.WarmedH s₂.vm := hW₂
    have hcc : c₂ = c := by
      have h1 : s₂.code? g.method = U.code? g.method := by
        rw [State.code?_eq, State.code?_eq, hW'.alike.method?]
      exact Option.some.inj (hc₂.symm.trans (h1.trans h.code))
    subst hcc
    have hlen : len₂ = len := by rw [hdg] at hd₂; cases hd₂; rfl
    subst hlen
    have hs₂ : s₂ = (({ U with heap := s₂.heap, slotsUsed := s₂.slotsUsed } : State).setVm s₂.vm).setTop { g with pc := g.pc + len₂, stack := v.toList ++ g.stack } := by
      refine e3.trans ?_
      rw [hf₂, State.calling_eq h.top, State.setFrames_setFrames, State.setTop_of_frames _ hr', hr]
      rfl
    have hsame : U.sameButNew ({ U with heap := s₂.heap, slotsUsed := s₂.slotsUsed } : State) L mc ms := by
      refine ⟨?_, q2, q3, q4, q5, q6⟩
      obtain ⟨t, ht, -⟩ := State.frames_cons hr
      show ({ U with heap := s₂.heap, slotsUsed := s₂.slotsUsed } : State) = { U.setFrames U.frames with heap := s₂.heap, slotsUsed := s₂.slotsUsed }
      rw [State.setFrames_self ht]
    subst hg
    refine Or.inl ⟨v, ⟨(({ U with heap := s₂.heap, slotsUsed := s₂.slotsUsed } : State).setVm s₂.vm), Ls ++ L, c0 + mc, s0 + ms⟩,
      ⟨X.admits, X.cas, X.clock, X.frames, X.room, X.hears, X.method, X.code, (X.here.setHeapUsed s₂.heap s₂.slotsUsed).setVm hW'.alike, X.tail, State.WarmedH.trans X.warmed hW', X.limits, X.bytes, X.same.trans (hsame.setVm s.vm)⟩,
      ⟨g, mk, s₂, L, rfl, rfl, hqc, rfl, hL, rfl, rfl⟩, ?_⟩
    show Steps p.tables e below _ ((({ U with heap := s₂.heap, slotsUsed := s₂.slotsUsed } : State).setVm s₂.vm).setTop { g with pc := g.pc + len₂, stack := v.toList ++ g.stack })
    rw [← hs₂]
    exact hsteps
  · obtain ⟨e2, q2, q3, q4, q5, q6⟩ := id hsm
    have e3 : s₂ = ({ (U.calling g mk a).setFrames s₂.frames with heap := s₂.heap, slotsUsed := s₂.slotsUsed } : State).setVm s₂.vm := by
      have : s₂ = ({ s₂ with vm := (U.calling g mk a).vm } : State).setVm s₂.vm := rfl
      rw [e2] at this
      exact this
    have hf₂ : s₂.frames = .throwing q :: .java g :: U.frames.tail := hend
    have hW' : U.WarmedH s₂.vm := hW₂
    have hs₂ : s₂ = ((({ U with heap := s₂.heap, slotsUsed := s₂.slotsUsed } : State).setVm s₂.vm).setTop g).pushFrame (.throwing q) := by
      refine e3.trans ?_
      rw [hf₂, State.calling_eq h.top, State.setFrames_setFrames, State.pushFrame, State.frames_setTop _ hr', State.setTop_of_frames _ hr', State.setFrames_setFrames, hr]
      rfl
    have hsame : U.sameButNew ({ U with heap := s₂.heap, slotsUsed := s₂.slotsUsed } : State) L mc ms := by
      refine ⟨?_, q2, q3, q4, q5, q6⟩
      obtain ⟨t, ht, -⟩ := State.frames_cons hr
      show ({ U with heap := s₂.heap, slotsUsed := s₂.slotsUsed } : State) = { U.setFrames U.frames with heap := s₂.heap, slotsUsed := s₂.slotsUsed }
      rw [State.setFrames_self ht]
    subst hg
    refine Or.inr ⟨q, ⟨(({ U with heap := s₂.heap, slotsUsed := s₂.slotsUsed } : State).setVm s₂.vm), Ls ++ L, c0 + mc, s0 + ms⟩,
      ⟨X.admits, X.cas, X.clock, X.frames, X.room, X.hears, X.method, X.code, (X.here.setHeapUsed s₂.heap s₂.slotsUsed).setVm hW'.alike, X.tail, State.WarmedH.trans X.warmed hW', X.limits, X.bytes, X.same.trans (hsame.setVm s.vm)⟩,
      ⟨g, mk, s₂, L, E, ce, rfl, rfl, hx, hce, hcv, hcl, rfl, hL, rfl, rfl⟩, ?_⟩
    show Steps p.tables e below _ (((({ U with heap := s₂.heap, slotsUsed := s₂.slotsUsed } : State).setVm s₂.vm).setTop g).pushFrame (.throwing q))
    rw [← hs₂]
    exact hsteps
end Payer
section Calls
variable {p : Program} {l : Launch} {e : Env} {R : Room} {s : State} {m : MethodId} {args : Array Value} {below : List Frame} {meth : Method} {c : Code} {T : State} {locs : List Loc} {cells slots : Nat}
theorem vx_callV (X : Stand p l e R s m args below meth c T locs cells slots) (hexec : p.tables.exec = Jvm.exec) {own C : String} {index : Nat} {y : MethodName} {bytes : ByteArray} {maxL : Nat} {ret : Option FieldType}
    (hown : s.vm.findClass own = some m.cls) (hlink : (Cond.methodLink own index y).before args s = true) (hinst : (Cond.instanceMethod y).before args s = true) (hsel : (Cond.selects C y y).before args s = true)
    (hcode : (Cond.code y bytes maxL ret).before args s = true) (hy : y.cls ≠ "java/lang/invoke/MethodHandle" ∧ y.cls ≠ "java/lang/invoke/VarHandle")
    {W9 : Nat} {Pre : Pt → Array Value → Prop} {Post : Pt → Array Value → Option Value → Pt → Prop} {PostX : Pt → Array Value → Addr → Pt → Prop} (hK : vx_Back l R p e below s args y 3 W9 Pre Post PostX)
    {b : Addr} {cellB : Cell} (hcell : T.heap[b]? = some cellB) (hobj : cellB.vm.isStatics = false) (hcls : s.vm.findClass C = some cellB.cls)
    {g : JFrame} (hg : g.method = m) (hsize : g.locals.size = c.maxLocals) {argsL rest : List Value} (hlen : ∀ sig, parseMethodDescriptor y.desc = some sig → argsL.length = sig.parameters.length)
    (hstack : g.stack = argsL.reverse ++ .ref b :: rest) (hW : 2 * g.monitorRoom + (rest.map fun v => v.category).sum ≤ W9) (hdg : decode c.code g.pc = .ok (.invokevirtual index, 3))
    (hpre : ∀ vm₁, s.WarmedH vm₁ → Pre ⟨T.setVm vm₁, locs, cells, slots⟩ (Value.ref b :: argsL).toArray) :
    (∃ (v : Option Value) (vm₁ : Vm) (B : Pt), s.WarmedH vm₁ ∧ Stand p l e R s m args below meth c B.U B.locs B.cells B.slots ∧ Post ⟨T.setVm vm₁, locs, cells, slots⟩ (Value.ref b :: argsL).toArray v B ∧
      ∀ target, Steps p.tables e below (B.U.setTop { g with pc := g.pc + 3, stack := v.toList ++ rest }) target → Steps p.tables e below (T.setTop g) target) ∨
    (∃ (q : Addr) (vm₁ : Vm) (B : Pt), s.WarmedH vm₁ ∧ Stand p l e R s m args below meth c B.U B.locs B.cells B.slots ∧ PostX ⟨T.setVm vm₁, locs, cells, slots⟩ (Value.ref b :: argsL).toArray q B ∧
      Steps p.tables e below (T.setTop g) ((B.U.setTop { g with stack := rest }).pushFrame (.throwing q))) := by
  obtain ⟨mk, methM, hnamed, hmethM, hstM, habM⟩ := Cond.instanceMethod_spec hinst
  obtain ⟨methM', cM, hmethM', -, -, -, -, -, -, hsigM⟩ := Cond.code_spec hnamed hcode
  cases hmethM.symm.trans hmethM'
  obtain ⟨c2, r2, m2, q1, q2, q3, q4, kP, hkP, hkPi⟩ := Cond.selects_spec hsel
  cases hcls.symm.trans q1
  cases (State.methodFound?_of_named hnamed hy).symm.trans q2
  cases hnamed.symm.trans q3
  have hselP : selectMethod e.platform s.vm cellB.cls mk = .method mk := by rw [Launch.admits_selectMethod X.admits]; exact q4
  obtain ⟨vm₁, X₁, hstep₁⟩ := X.invokevirtual hexec hown hlink hnamed hmethM hstM hkP hkPi hy (a := b) (cell := cellB) hcell
    (fun z h => by rw [h] at hobj; cases hobj) hselP hmethM habM hkP hkPi (g := g) hg (argsL := argsL) (rest := rest) (hlen _ hsigM) hstack hdg
  rcases hK m meth c ⟨T.setVm vm₁, locs, cells, slots⟩ { g with stack := rest } (.invokevirtual index) mk (Value.ref b :: argsL).toArray X₁ hg hsize hdg hW (X₁.named hnamed) (hpre vm₁ X₁.warmed) with ⟨v, B, X', hpost, hsteps⟩ | ⟨q, B, X', hpost, hsteps⟩
  · exact Or.inl ⟨v, vm₁, B, X₁.warmed, X', hpost, fun target h => hstep₁ _ fun acts => by rw [doInvoke_state]; exact hsteps.trans h⟩
  · exact Or.inr ⟨q, vm₁, B, X₁.warmed, X', hpost, hstep₁ _ fun acts => by rw [doInvoke_state]; exact hsteps⟩
theorem vx_callS (X : Stand p l e R s m args below meth c T locs cells slots) (hexec : p.tables.exec = Jvm.exec) {own : String} {index : Nat} {y : MethodName} {bytes : ByteArray} {maxL : Nat} {ret : Option FieldType}
    (hown : s.vm.findClass own = some m.cls) (hlink : (Cond.methodLink own index y).before args s = true) (hstat : (Cond.static y).before args s = true) (hinit : (Cond.initialized y.cls).before args s = true)
    (hcode : (Cond.code y bytes maxL ret).before args s = true) (hy : y.cls ≠ "java/lang/invoke/MethodHandle" ∧ y.cls ≠ "java/lang/invoke/VarHandle")
    {W9 : Nat} {Pre : Pt → Array Value → Prop} {Post : Pt → Array Value → Option Value → Pt → Prop} {PostX : Pt → Array Value → Addr → Pt → Prop} (hK : vx_Back l R p e below s args y 3 W9 Pre Post PostX)
    {g : JFrame} (hg : g.method = m) (hsize : g.locals.size = c.maxLocals) {argsL rest : List Value} (hlen : ∀ sig, parseMethodDescriptor y.desc = some sig → argsL.length = sig.parameters.length)
    (hstack : g.stack = argsL.reverse ++ rest) (hW : 2 * g.monitorRoom + (rest.map fun v => v.category).sum ≤ W9) (hdg : decode c.code g.pc = .ok (.invokestatic index, 3))
    (hpre : ∀ vm₁, s.WarmedH vm₁ → Pre ⟨T.setVm vm₁, locs, cells, slots⟩ argsL.toArray) :
    (∃ (v : Option Value) (vm₁ : Vm) (B : Pt), s.WarmedH vm₁ ∧ Stand p l e R s m args below meth c B.U B.locs B.cells B.slots ∧ Post ⟨T.setVm vm₁, locs, cells, slots⟩ argsL.toArray v B ∧
      ∀ target, Steps p.tables e below (B.U.setTop { g with pc := g.pc + 3, stack := v.toList ++ rest }) target → Steps p.tables e below (T.setTop g) target) ∨
    (∃ (q : Addr) (vm₁ : Vm) (B : Pt), s.WarmedH vm₁ ∧ Stand p l e R s m args below meth c B.U B.locs B.cells B.slots ∧ PostX ⟨T.setVm vm₁, locs, cells, slots⟩ argsL.toArray q B ∧
      Steps p.tables e below (T.setTop g) ((B.U.setTop { g with stack := rest }).pushFrame (.throwing q))) := by
  obtain ⟨mk, hnamed⟩ := Cond.code_named hcode
  obtain ⟨methM, cM, hmethM, -, -, -, -, -, -, hsigM⟩ := Cond.code_spec hnamed hcode
  have hstatic : methM.isStatic = true := Cond.static_spec hnamed hmethM hstat
  obtain ⟨kP, hkP, -⟩ := className_of_methodNamed hnamed
  have hinitP : kP.init = .initialized := Cond.initialized_spec (findClass_of_methodNamed hnamed) hkP hinit
  obtain ⟨vm₁, X₁, hstep₁⟩ := X.invokestatic hexec hown hlink hnamed hmethM hstatic hkP hinitP hy (g := g) hg (argsL := argsL) (rest := rest) (hlen _ hsigM) hstack hdg
  rcases hK m meth c ⟨T.setVm vm₁, locs, cells, slots⟩ { g with stack := rest } (.invokestatic index) mk argsL.toArray X₁ hg hsize hdg hW (X₁.named hnamed) (hpre vm₁ X₁.warmed) with ⟨v, B, X', hpost, hsteps⟩ | ⟨q, B, X', hpost, hsteps⟩
  · exact Or.inl ⟨v, vm₁, B, X₁.warmed, X', hpost, fun target h => hstep₁ _ fun acts => by rw [doInvoke_state]; exact hsteps.trans h⟩
  · exact Or.inr ⟨q, vm₁, B, X₁.warmed, X', hpost, hstep₁ _ fun acts => by rw [doInvoke_state]; exact hsteps⟩
end Calls
theorem vx_cls {s : State} {T : State} {vm₁ : Vm} {E : String} {k : ClassId} (hW : s.WarmedH vm₁) (h : (T.setVm vm₁).vm.findClass E = some k) : s.vm.findClass E = some k := by
  have h1 : vm₁.findClass E = some k := h
  rw [hW.alike.findClass] at h1
  exact h1
/-- the method's frame g, with q thrown over it -/
def vx_W (p : Program) (l : Launch) (e : Env) (R : Room) (s : State) (m : MethodId) (args : Array Value) (below : List Frame) (meth : Method) (c : Code) (H : Heap) (locs : List Loc) (cells slots : Nat) (Q : State → Prop) (g : JFrame) (q : Addr) : Prop :=
  ∀ T : State, T.heap = H → Stand p l e R s m args below meth c T locs cells slots → ∃ t, Steps p.tables e below ((T.setTop g).pushFrame (.throwing q)) t ∧ Q t
def vx_Run (p : Program) (l : Launch) (e : Env) (R : Room) (s : State) (m : MethodId) (args : Array Value) (below : List Frame) (meth : Method) (c : Code) (H : Heap) (locs : List Loc) (cells slots mc ms : Nat) (g : JFrame) (rest : List Value) (Qa : State → Outcome → State → Prop) (XC : String → State → State → Prop) (free : Addr → Prop) : Prop :=
  ∀ T : State, T.heap = H → Stand p l e R s m args below meth c T locs cells slots →
    (∃ (v : Option Value) (st₀ t T' : State) (L : List Loc), st₀.heap = H ∧ Stand p l e R s m args below meth c T' (locs ++ L) (cells + mc) (slots + ms) ∧ (∀ q ∈ L, free q.base) ∧ T'.heap = t.heap ∧ T'.vm = t.vm ∧ Qa st₀ (.returned v) t ∧
      Goes p e below T g T' { g with pc := g.pc + 3, stack := v.toList ++ rest }) ∨
    (∃ (q : Addr) (st₀ t T' : State) (L : List Loc) (E : String) (ce : Cell), st₀.heap = H ∧ Stand p l e R s m args below meth c T' (locs ++ L) (cells + mc) (slots + ms) ∧ (∀ z ∈ L, free z.base) ∧ T'.heap = t.heap ∧ T'.vm = t.vm ∧ XC E st₀ t ∧ t.heap[q]? = some ce ∧ ce.vm = .none ∧ s.vm.findClass E = some ce.cls ∧
      Steps p.tables e below (T.setTop g) ((T'.setTop { g with stack := rest }).pushFrame (.throwing q)))
def vx_X {S : Type} (px : S → Prop) (B : String → S → State → Prop) (A : Nat → Prop) : String → State → State → Prop := fun E st t => ∃ u : S, px u ∧ B E u t ∧ va_F A st t
section Runs
variable {p : Program} {l : Launch} {e : Env} {R : Room} {s : State} {m : MethodId} {args : Array Value} {below : List Frame} {meth : Method} {c : Code} {H : Heap} {locs : List Loc} {cells slots : Nat}
variable {y : MethodName} {bytes cc : ByteArray} {maxL nL mc ms n index : Nat} {ret : Option FieldType} {ws : List Cond} {rm : Room} {Pc : Array Value → State → Prop} {Qc : Array Value → State → Outcome → State → Prop} {XC : String → State → State → Prop} {free : Addr → Prop} {Ts : List Cond} {own C : String} {b : Addr} {As rest : List Value} {g : JFrame}
theorem vx_callBack (cb : CallB R s args own index y bytes maxL ret ws rm mc ms n) (hM : vx_Met l y ws rm Pc Qc XC mc ms free) (hbl : FrameBlind Pc) : vx_Back l R p e below s args y 3 8 (PreOf R mc ms Pc) (PostOf Qc mc ms free) (vx_Post XC mc ms free) := by
  obtain ⟨hrc, hrs, hfr, hlo, hws, hcw, -, hini, -⟩ := cb
  exact vx_back (bytes := bytes) (maxL := maxL) (ret := ret) hM hbl hrc hrs hfr hlo hws hcw (fun a' U hW => word_at hW (Or.inl (by first | rfl | simp [Cond.onTables, Cond.keeps, Cond.steady])) hini)
theorem vx_runV (S : CallFix p m c cc nL s args Ts own) (hM : vx_Met l y ws rm Pc Qc XC mc ms free) (cw : CallW R s args own C index y bytes maxL ret ws rm mc ms n) (hp : PreV s H C b Pc As)
    (hg : g.method = m) (hn : As.length = n) (hsize : g.locals.size = nL) (hstack : g.stack = As.reverse ++ .ref b :: rest) (hW : 2 * g.monitorRoom + (rest.map fun v => v.category).sum ≤ 8) (hdg : decode cc g.pc = .ok (.invokevirtual index, 3)) (hf : cells + mc ≤ R.cells ∧ slots + ms ≤ R.slots) :
    vx_Run p l e R s m args below meth c H locs cells slots mc ms g rest (Qc (Value.ref b :: As).toArray) XC free := by
  have hK : vx_Back l R p e below s args y 3 8 (PreOf R mc ms Pc) (PostOf Qc mc ms free) (vx_Post XC mc ms free) := vx_callBack cw.1 hM hp.1
  obtain ⟨⟨-, -, -, -, -, -, hcode, -, hy, hlen, hl⟩, hin, hse⟩ := cw
  obtain ⟨hx, hb, hml, ho, -⟩ := S
  obtain ⟨-, ⟨cellB, hcB, hoB, hclB⟩, hPc⟩ := hp
  intro T hT X
  rcases vx_callV X hx (C := C) (bytes := bytes) (maxL := maxL) (ret := ret) ho hl hin hse hcode hy hK (by rw [hT]; exact hcB) hoB hclB hg (hsize.trans hml.symm) (argsL := As) (rest := rest) (fun sig h => hn.trans (hlen sig h)) hstack hW (by rw [hb]; exact hdg)
    (fun vm₁ hW₁ => ⟨hf.1, hf.2, hPc (T.setVm vm₁) hT hW₁⟩) with ⟨v, vm₁, ⟨U', l2, c2, s2⟩, hW₁, X', ⟨g', mk, t, L, e1, e2, hq, h1, hL, h2, h3⟩, st⟩ | ⟨q, vm₁, ⟨U', l2, c2, s2⟩, hW₁, X', ⟨g', mk, t, L, E, ce, e1, e2, hq, hce, hcv, hcl, h1, hL, h2, h3⟩, st⟩
  · dsimp only [Pt.U, Pt.locs, Pt.cells, Pt.slots] at X' e1 e2 h1 h2 h3 st
    subst h1; subst h2; subst h3
    exact Or.inl ⟨v, (T.setVm vm₁).calling g' mk (Value.ref b :: As).toArray, t, U', L, hT, X', hL, e1, e2, hq, st⟩
  · dsimp only [Pt.U, Pt.locs, Pt.cells, Pt.slots] at X' e1 e2 h1 h2 h3 st hcl
    subst h1; subst h2; subst h3
    exact Or.inr ⟨q, (T.setVm vm₁).calling g' mk (Value.ref b :: As).toArray, t, U', L, E, ce, hT, X', hL, e1, e2, hq, hce, hcv, vx_cls hW₁ hcl, st⟩
theorem vx_runS (S : CallFix p m c cc nL s args Ts own) (hM : vx_Met l y ws rm Pc Qc XC mc ms free) (cw : CallB R s args own index y bytes maxL ret ws rm mc ms n ∧ (Cond.static y).before args s = true) (hp : PreS s H Pc As)
    (hg : g.method = m) (hn : As.length = n) (hsize : g.locals.size = nL) (hstack : g.stack = As.reverse ++ rest) (hW : 2 * g.monitorRoom + (rest.map fun v => v.category).sum ≤ 8) (hdg : decode cc g.pc = .ok (.invokestatic index, 3)) (hf : cells + mc ≤ R.cells ∧ slots + ms ≤ R.slots) :
    vx_Run p l e R s m args below meth c H locs cells slots mc ms g rest (Qc As.toArray) XC free := by
  have hK : vx_Back l R p e below s args y 3 8 (PreOf R mc ms Pc) (PostOf Qc mc ms free) (vx_Post XC mc ms free) := vx_callBack cw.1 hM hp.1
  obtain ⟨⟨-, -, -, -, -, -, hcode, hini, hy, hlen, hl⟩, hstt⟩ := cw
  obtain ⟨hx, hb, hml, ho, -⟩ := S
  intro T hT X
  rcases vx_callS X hx (bytes := bytes) (maxL := maxL) (ret := ret) ho hl hstt hini hcode hy hK hg (hsize.trans hml.symm) (argsL := As) (rest := rest) (fun sig h => hn.trans (hlen sig h)) hstack hW (by rw [hb]; exact hdg)
    (fun vm₁ hW₁ => ⟨hf.1, hf.2, hp.2 (T.setVm vm₁) hT hW₁⟩) with ⟨v, vm₁, ⟨U', l2, c2, s2⟩, hW₁, X', ⟨g', mk, t, L, e1, e2, hq, h1, hL, h2, h3⟩, st⟩ | ⟨q, vm₁, ⟨U', l2, c2, s2⟩, hW₁, X', ⟨g', mk, t, L, E, ce, e1, e2, hq, hce, hcv, hcl, h1, hL, h2, h3⟩, st⟩
  · dsimp only [Pt.U, Pt.locs, Pt.cells, Pt.slots] at X' e1 e2 h1 h2 h3 st
    subst h1; subst h2; subst h3
    exact Or.inl ⟨v, (T.setVm vm₁).calling g' mk As.toArray, t, U', L, hT, X', hL, e1, e2, hq, st⟩
  · dsimp only [Pt.U, Pt.locs, Pt.cells, Pt.slots] at X' e1 e2 h1 h2 h3 st hcl
    subst h1; subst h2; subst h3
    exact Or.inr ⟨q, (T.setVm vm₁).calling g' mk As.toArray, t, U', L, E, ce, hT, X', hL, e1, e2, hq, hce, hcv, vx_cls hW₁ hcl, st⟩
end Runs
section Rows
variable {p : Program} {l : Launch} {e : Env} {R : Room} {s : State} {m : MethodId} {args : Array Value} {below : List Frame} {meth : Method} {c : Code} {H : Heap} {locs : List Loc} {cells slots : Nat} {Q : State → Prop}
variable {mc ms : Nat} {free : Addr → Prop} {A0 A1 : Nat → Prop} {H0 : Heap} {a : Array Value} {pc : Nat} {ls : Array Slot} {st0 rest : List Value}
theorem vx_keep {st₀ t T' : State} {L : List Loc} (h0 : st₀.heap = H) (e1 : T'.heap = t.heap) (hS : va_S A0 H0 H locs) (hA : ∀ q, q < H.size → A1 q → A0 q) (hf : ∀ q, free q → A0 q) (hL : ∀ q ∈ L, free q.base) (hF : va_F A1 st₀ t) :
    H.size ≤ T'.heap.size ∧ (∀ q : Nat, q < H.size → ¬ A1 q → T'.heap[q]? = H[q]?) ∧ va_S A0 H0 T'.heap (locs ++ L) := by
  obtain ⟨hz, hk⟩ := hF
  rw [h0] at hz hk
  exact ⟨by rw [e1]; exact hz, fun q h1 h2 => by rw [e1]; exact hk q h1 h2,
    ⟨Nat.le_trans hS.1 (by rw [e1]; exact hz), fun q h1 h2 => by rw [e1, hk q (Nat.lt_of_lt_of_le h1 hS.1) (fun z => h2 (hA q (Nat.lt_of_lt_of_le h1 hS.1) z))]; exact hS.2.1 q h1 h2, fun q hq => by
      rcases List.mem_append.mp hq with h | h
      · exact hS.2.2 q h
      · exact hf _ (hL q h)⟩⟩
theorem vx_calli {S SX : Type} {post : Int32 → S → Prop} {px : SX → Prop} {B : S → State → Prop} {BX : String → SX → State → Prop} {AX : Nat → Prop} (hr : vx_Run p l e R s m args below meth c H locs cells slots mc ms (F0 m pc ls st0) rest (va_Qi post B A1 a) (vx_X px BX AX) free) (hS : va_S A0 H0 H locs) (hA : ∀ q, q < H.size → A1 q → A0 q) (hf : ∀ q, free q → A0 q) (hAX : ∀ q, q < H.size → AX q → A0 q)
    (kx : ∀ (E : String) (ce : Cell) (q9 : Addr) (u : SX) (t : State) (H1 : Heap) (locs1 : List Loc), t.heap = H1 → s.vm.Alike t.vm → px u → BX E u t → H.size ≤ H1.size → (∀ q : Nat, q < H.size → ¬ AX q → H1[q]? = H[q]?) → va_S A0 H0 H1 locs1 → H1[q9]? = some ce → ce.vm = .none → s.vm.findClass E = some ce.cls → vx_W p l e R s m args below meth c H1 locs1 (cells + mc) (slots + ms) Q (F0 m pc ls rest) q9)
    (kk : ∀ (r : Int32) (u : S) (t : State) (H1 : Heap) (locs1 : List Loc), t.heap = H1 → s.vm.Alike t.vm → post r u → B u t → H.size ≤ H1.size → (∀ q : Nat, q < H.size → ¬ A1 q → H1[q]? = H[q]?) → va_S A0 H0 H1 locs1 → W p l e R s m args below meth c H1 locs1 (cells + mc) (slots + ms) Q (F0 m (pc + 3) ls (.int r :: rest))) : W p l e R s m args below meth c H locs cells slots Q (F0 m pc ls st0) := by
  intro T hT X
  rcases hr T hT X with ⟨v, st₀, t, T', L, h0, X', hL, e1, e2, ⟨⟨r, u, hv, hp, hb⟩, hF⟩, st⟩ | ⟨q, st₀, t, T', L, E, ce, h0, X', hL, e1, e2, ⟨u, hp, hb, hF⟩, hce, hcv, hcl, st⟩
  · cases hv
    obtain ⟨k1, k2, k3⟩ := vx_keep h0 e1 hS hA hf hL hF
    obtain ⟨t2, a1, b1⟩ := kk r u t T'.heap (locs ++ L) e1.symm (by rw [← e2]; exact X'.warmed.alike) hp hb k1 k2 k3 T' rfl X'
    exact ⟨t2, st t2 a1, b1⟩
  · obtain ⟨k1, k2, k3⟩ := vx_keep h0 e1 hS hAX hf hL hF
    obtain ⟨t2, a1, b1⟩ := kx E ce q u t T'.heap (locs ++ L) e1.symm (by rw [← e2]; exact X'.warmed.alike) hp hb k1 k2 k3 (by rw [e1]; exact hce) hcv hcl T' rfl X'
    exact ⟨t2, st.trans a1, b1⟩
theorem vx_calll {S SX : Type} {post : Int64 → S → Prop} {px : SX → Prop} {B : S → State → Prop} {BX : String → SX → State → Prop} {AX : Nat → Prop} (hr : vx_Run p l e R s m args below meth c H locs cells slots mc ms (F0 m pc ls st0) rest (va_Ql post B A1 a) (vx_X px BX AX) free) (hS : va_S A0 H0 H locs) (hA : ∀ q, q < H.size → A1 q → A0 q) (hf : ∀ q, free q → A0 q) (hAX : ∀ q, q < H.size → AX q → A0 q)
    (kx : ∀ (E : String) (ce : Cell) (q9 : Addr) (u : SX) (t : State) (H1 : Heap) (locs1 : List Loc), t.heap = H1 → s.vm.Alike t.vm → px u → BX E u t → H.size ≤ H1.size → (∀ q : Nat, q < H.size → ¬ AX q → H1[q]? = H[q]?) → va_S A0 H0 H1 locs1 → H1[q9]? = some ce → ce.vm = .none → s.vm.findClass E = some ce.cls → vx_W p l e R s m args below meth c H1 locs1 (cells + mc) (slots + ms) Q (F0 m pc ls rest) q9)
    (kk : ∀ (r : Int64) (u : S) (t : State) (H1 : Heap) (locs1 : List Loc), t.heap = H1 → s.vm.Alike t.vm → post r u → B u t → H.size ≤ H1.size → (∀ q : Nat, q < H.size → ¬ A1 q → H1[q]? = H[q]?) → va_S A0 H0 H1 locs1 → W p l e R s m args below meth c H1 locs1 (cells + mc) (slots + ms) Q (F0 m (pc + 3) ls (.long r :: rest))) : W p l e R s m args below meth c H locs cells slots Q (F0 m pc ls st0) := by
  intro T hT X
  rcases hr T hT X with ⟨v, st₀, t, T', L, h0, X', hL, e1, e2, ⟨⟨r, u, hv, hp, hb⟩, hF⟩, st⟩ | ⟨q, st₀, t, T', L, E, ce, h0, X', hL, e1, e2, ⟨u, hp, hb, hF⟩, hce, hcv, hcl, st⟩
  · cases hv
    obtain ⟨k1, k2, k3⟩ := vx_keep h0 e1 hS hA hf hL hF
    obtain ⟨t2, a1, b1⟩ := kk r u t T'.heap (locs ++ L) e1.symm (by rw [← e2]; exact X'.warmed.alike) hp hb k1 k2 k3 T' rfl X'
    exact ⟨t2, st t2 a1, b1⟩
  · obtain ⟨k1, k2, k3⟩ := vx_keep h0 e1 hS hAX hf hL hF
    obtain ⟨t2, a1, b1⟩ := kx E ce q u t T'.heap (locs ++ L) e1.symm (by rw [← e2]; exact X'.warmed.alike) hp hb k1 k2 k3 (by rw [e1]; exact hce) hcv hcl T' rfl X'
    exact ⟨t2, st.trans a1, b1⟩
theorem vx_callf {S SX : Type} {post : UInt32 → S → Prop} {px : SX → Prop} {B : S → State → Prop} {BX : String → SX → State → Prop} {AX : Nat → Prop} (hr : vx_Run p l e R s m args below meth c H locs cells slots mc ms (F0 m pc ls st0) rest (va_Qf post B A1 a) (vx_X px BX AX) free) (hS : va_S A0 H0 H locs) (hA : ∀ q, q < H.size → A1 q → A0 q) (hf : ∀ q, free q → A0 q) (hAX : ∀ q, q < H.size → AX q → A0 q)
    (kx : ∀ (E : String) (ce : Cell) (q9 : Addr) (u : SX) (t : State) (H1 : Heap) (locs1 : List Loc), t.heap = H1 → s.vm.Alike t.vm → px u → BX E u t → H.size ≤ H1.size → (∀ q : Nat, q < H.size → ¬ AX q → H1[q]? = H[q]?) → va_S A0 H0 H1 locs1 → H1[q9]? = some ce → ce.vm = .none → s.vm.findClass E = some ce.cls → vx_W p l e R s m args below meth c H1 locs1 (cells + mc) (slots + ms) Q (F0 m pc ls rest) q9)
    (kk : ∀ (r : UInt32) (u : S) (t : State) (H1 : Heap) (locs1 : List Loc), t.heap = H1 → s.vm.Alike t.vm → post r u → B u t → H.size ≤ H1.size → (∀ q : Nat, q < H.size → ¬ A1 q → H1[q]? = H[q]?) → va_S A0 H0 H1 locs1 → W p l e R s m args below meth c H1 locs1 (cells + mc) (slots + ms) Q (F0 m (pc + 3) ls (.float r :: rest))) : W p l e R s m args below meth c H locs cells slots Q (F0 m pc ls st0) := by
  intro T hT X
  rcases hr T hT X with ⟨v, st₀, t, T', L, h0, X', hL, e1, e2, ⟨⟨r, u, hv, hp, hb⟩, hF⟩, st⟩ | ⟨q, st₀, t, T', L, E, ce, h0, X', hL, e1, e2, ⟨u, hp, hb, hF⟩, hce, hcv, hcl, st⟩
  · cases hv
    obtain ⟨k1, k2, k3⟩ := vx_keep h0 e1 hS hA hf hL hF
    obtain ⟨t2, a1, b1⟩ := kk r u t T'.heap (locs ++ L) e1.symm (by rw [← e2]; exact X'.warmed.alike) hp hb k1 k2 k3 T' rfl X'
    exact ⟨t2, st t2 a1, b1⟩
  · obtain ⟨k1, k2, k3⟩ := vx_keep h0 e1 hS hAX hf hL hF
    obtain ⟨t2, a1, b1⟩ := kx E ce q u t T'.heap (locs ++ L) e1.symm (by rw [← e2]; exact X'.warmed.alike) hp hb k1 k2 k3 (by rw [e1]; exact hce) hcv hcl T' rfl X'
    exact ⟨t2, st.trans a1, b1⟩
theorem vx_calld {S SX : Type} {post : UInt64 → S → Prop} {px : SX → Prop} {B : S → State → Prop} {BX : String → SX → State → Prop} {AX : Nat → Prop} (hr : vx_Run p l e R s m args below meth c H locs cells slots mc ms (F0 m pc ls st0) rest (va_Qd post B A1 a) (vx_X px BX AX) free) (hS : va_S A0 H0 H locs) (hA : ∀ q, q < H.size → A1 q → A0 q) (hf : ∀ q, free q → A0 q) (hAX : ∀ q, q < H.size → AX q → A0 q)
    (kx : ∀ (E : String) (ce : Cell) (q9 : Addr) (u : SX) (t : State) (H1 : Heap) (locs1 : List Loc), t.heap = H1 → s.vm.Alike t.vm → px u → BX E u t → H.size ≤ H1.size → (∀ q : Nat, q < H.size → ¬ AX q → H1[q]? = H[q]?) → va_S A0 H0 H1 locs1 → H1[q9]? = some ce → ce.vm = .none → s.vm.findClass E = some ce.cls → vx_W p l e R s m args below meth c H1 locs1 (cells + mc) (slots + ms) Q (F0 m pc ls rest) q9)
    (kk : ∀ (r : UInt64) (u : S) (t : State) (H1 : Heap) (locs1 : List Loc), t.heap = H1 → s.vm.Alike t.vm → post r u → B u t → H.size ≤ H1.size → (∀ q : Nat, q < H.size → ¬ A1 q → H1[q]? = H[q]?) → va_S A0 H0 H1 locs1 → W p l e R s m args below meth c H1 locs1 (cells + mc) (slots + ms) Q (F0 m (pc + 3) ls (.double r :: rest))) : W p l e R s m args below meth c H locs cells slots Q (F0 m pc ls st0) := by
  intro T hT X
  rcases hr T hT X with ⟨v, st₀, t, T', L, h0, X', hL, e1, e2, ⟨⟨r, u, hv, hp, hb⟩, hF⟩, st⟩ | ⟨q, st₀, t, T', L, E, ce, h0, X', hL, e1, e2, ⟨u, hp, hb, hF⟩, hce, hcv, hcl, st⟩
  · cases hv
    obtain ⟨k1, k2, k3⟩ := vx_keep h0 e1 hS hA hf hL hF
    obtain ⟨t2, a1, b1⟩ := kk r u t T'.heap (locs ++ L) e1.symm (by rw [← e2]; exact X'.warmed.alike) hp hb k1 k2 k3 T' rfl X'
    exact ⟨t2, st t2 a1, b1⟩
  · obtain ⟨k1, k2, k3⟩ := vx_keep h0 e1 hS hAX hf hL hF
    obtain ⟨t2, a1, b1⟩ := kx E ce q u t T'.heap (locs ++ L) e1.symm (by rw [← e2]; exact X'.warmed.alike) hp hb k1 k2 k3 (by rw [e1]; exact hce) hcv hcl T' rfl X'
    exact ⟨t2, st.trans a1, b1⟩
theorem vx_callv {S SX : Type} {post : S → Prop} {px : SX → Prop} {B : S → State → Prop} {BX : String → SX → State → Prop} {AX : Nat → Prop} (hr : vx_Run p l e R s m args below meth c H locs cells slots mc ms (F0 m pc ls st0) rest (va_Qv post B A1 a) (vx_X px BX AX) free) (hS : va_S A0 H0 H locs) (hA : ∀ q, q < H.size → A1 q → A0 q) (hf : ∀ q, free q → A0 q) (hAX : ∀ q, q < H.size → AX q → A0 q)
    (kx : ∀ (E : String) (ce : Cell) (q9 : Addr) (u : SX) (t : State) (H1 : Heap) (locs1 : List Loc), t.heap = H1 → s.vm.Alike t.vm → px u → BX E u t → H.size ≤ H1.size → (∀ q : Nat, q < H.size → ¬ AX q → H1[q]? = H[q]?) → va_S A0 H0 H1 locs1 → H1[q9]? = some ce → ce.vm = .none → s.vm.findClass E = some ce.cls → vx_W p l e R s m args below meth c H1 locs1 (cells + mc) (slots + ms) Q (F0 m pc ls rest) q9)
    (kk : ∀ (u : S) (t : State) (H1 : Heap) (locs1 : List Loc), t.heap = H1 → s.vm.Alike t.vm → post u → B u t → H.size ≤ H1.size → (∀ q : Nat, q < H.size → ¬ A1 q → H1[q]? = H[q]?) → va_S A0 H0 H1 locs1 → W p l e R s m args below meth c H1 locs1 (cells + mc) (slots + ms) Q (F0 m (pc + 3) ls (rest))) : W p l e R s m args below meth c H locs cells slots Q (F0 m pc ls st0) := by
  intro T hT X
  rcases hr T hT X with ⟨v, st₀, t, T', L, h0, X', hL, e1, e2, ⟨⟨u, hv, hp, hb⟩, hF⟩, st⟩ | ⟨q, st₀, t, T', L, E, ce, h0, X', hL, e1, e2, ⟨u, hp, hb, hF⟩, hce, hcv, hcl, st⟩
  · cases hv
    obtain ⟨k1, k2, k3⟩ := vx_keep h0 e1 hS hA hf hL hF
    obtain ⟨t2, a1, b1⟩ := kk u t T'.heap (locs ++ L) e1.symm (by rw [← e2]; exact X'.warmed.alike) hp hb k1 k2 k3 T' rfl X'
    exact ⟨t2, st t2 a1, b1⟩
  · obtain ⟨k1, k2, k3⟩ := vx_keep h0 e1 hS hAX hf hL hF
    obtain ⟨t2, a1, b1⟩ := kx E ce q u t T'.heap (locs ++ L) e1.symm (by rw [← e2]; exact X'.warmed.alike) hp hb k1 k2 k3 (by rw [e1]; exact hce) hcv hcl T' rfl X'
    exact ⟨t2, st.trans a1, b1⟩
/-- caught by the row x of this method's table; the rows ahead don't take it -/
theorem vx_catch {own name : String} {E : String} {ce : Cell} {q : Addr} (hown : s.vm.findClass own = some m.cls) (pre : List ExceptionTableEntry) (x : ExceptionTableEntry) (suf : List ExceptionTableEntry) (hsplit : c.exceptionTable.toList = pre ++ x :: suf)
    (hpass : ∀ z ∈ pre, covers z pc = false ∨ (z.catchType ≠ 0 ∧ ∃ nm : String, (Cond.classLink own z.catchType nm).before args s = true ∧ va_Nc E nm s)) (hx : covers x pc = true) (h0 : x.catchType ≠ 0)
    (hlink : (Cond.classLink own x.catchType name).before args s = true) (hcast : (Cond.castable E name).before args s = true) (hcell : H[q]? = some ce) (hv : ce.vm = .none) (hcl : s.vm.findClass E = some ce.cls)
    (kk : W p l e R s m args below meth c H locs cells slots Q (F0 m x.handlerPc ls [.ref q])) : vx_W p l e R s m args below meth c H locs cells slots Q (F0 m pc ls rest) q := by
  intro T hT X
  have hpl : e.platform.magicAccessors = ({} : Platform).magicAccessors := by rw [X.admits.platform]
  obtain ⟨c3, c4, hc3, hc4, hasg⟩ := Cond.castable_spec hcast
  cases Option.some.inj (hc3.symm.trans hcl)
  obtain ⟨c5, hc5, hcl5⟩ := Cond.classLink_spec hown hlink e.platform hpl
  cases Option.some.inj (hc4.symm.trans hc5)
  obtain ⟨vm', X', st⟩ := X.thenCaughtThrough q (g := F0 m pc ls rest) rfl (Steps.refl _) (by rw [hT]; exact hcell) (by rw [hv]; rfl) (by obtain ⟨k9, h9, -⟩ := Vm.findClass_spec hcl; exact ⟨k9, h9⟩) pre x suf hsplit
    (fun z hz => by
      rcases hpass z hz with h | ⟨hz0, nm, hl1, hn1⟩
      · exact Or.inl h
      · obtain ⟨c6, hc6, hcl6⟩ := Cond.classLink_spec hown hl1 e.platform hpl
        obtain ⟨a8, b8, h1, h2, h3⟩ := hn1
        cases Option.some.inj (h1.symm.trans hcl)
        cases Option.some.inj (h2.symm.trans hc6)
        exact Or.inr ⟨hz0, _, hcl6, h3⟩) hx (Or.inr ⟨h0, c4, hcl5, hasg⟩)
  obtain ⟨t, a1, b1⟩ := kk (T.setVm vm') hT X'
  exact ⟨t, st.trans a1, b1⟩
end Rows
section Ends
variable {p : Program} {l : Launch} {e : Env} {R : Room} {s : State} {m : MethodId} {args : Array Value} {below : List Frame} {meth : Method} {c : Code} {H : Heap} {locs : List Loc} {cells slots : Nat} {Q : State → Prop}
variable {mc ms : Nat} {free : Addr → Prop} {A0 A1 : Nat → Prop} {H0 : Heap} {a : Array Value} {ls : Array Slot} {st0 rest : List Value}
variable {Qc : Array Value → State → Outcome → State → Prop} {XC : String → State → State → Prop}
/-- what a body that may throw owes at its end -/
def vx_MQ (below : List Frame) (Qc : Array Value → State → Outcome → State → Prop) (XC : String → State → State → Prop) (a : Array Value) (s : State) (mc ms : Nat) (free : Addr → Prop) : State → Prop := fun t =>
  ∃ o, t.status = .running ∧ Ended t below o ∧ vx_Q Qc XC mc ms free a s o t
theorem vx_ret {g : JFrame} {mc ms : Nat} (k : W p l e R s m args below meth c H locs cells slots (MQ below Qc args s mc ms free) g) : W p l e R s m args below meth c H locs cells slots (vx_MQ below Qc XC args s mc ms free) g := by
  intro T hT X
  obtain ⟨t, a1, o, b1, b2, b3, b4⟩ := k T hT X
  exact ⟨t, a1, o, b1, b2, Or.inl ⟨b3, b4⟩⟩
/-- not caught here: it goes on to the caller -/
theorem vx_widen {g : JFrame} {q : Addr} {k n : Nat} (h1 : cells ≤ k) (h2 : slots ≤ n) (kk : vx_W p l e R s m args below meth c H locs k n Q g q) : vx_W p l e R s m args below meth c H locs cells slots Q g q := fun T hT X => kk T hT (stand_widen X h1 h2)
theorem vx_out {pc : Nat} {E : String} {ce : Cell} {q : Addr} {mc ms : Nat} (hout : ∀ x ∈ c.exceptionTable.toList, covers x pc = false) (hlocks : meth.locks = false) (hcell : H[q]? = some ce) (hv : ce.vm = .none) (hcl : s.vm.findClass E = some ce.cls)
    (hx : ∀ t : State, t.heap = H → s.vm.Alike t.vm → XC E s t) (hf : ∀ z ∈ locs, free z.base) (hc : cells ≤ mc) (hs : slots ≤ ms) :
    vx_W p l e R s m args below meth c H locs cells slots (vx_MQ below Qc XC args s mc ms free) (F0 m pc ls rest) q := by
  intro T hT X
  obtain ⟨st1, hrun, hend, hW, hsm⟩ := X.leaveThrown q (g := F0 m pc ls rest) rfl rfl rfl hout hlocks
  have hcell9 : (T.setFrames (.throwing q :: below)).heap[q]? = some ce := by
    show T.heap[q]? = some ce
    rw [hT]; exact hcell
  exact ⟨_, st1, .threw q, hrun, hend, Or.inr ⟨q, rfl, E, ce, locs, hx _ hT hW.alike, hcell9, hv, hcl, hW, hsm.mono hc hs, hf⟩⟩
theorem vx_frame {U : State} {k n : Nat} (h : s.sameButNew ({ U with vm := s.vm } : State) locs k n) : s.heap.size ≤ U.heap.size ∧ ∀ q : Nat, q < s.heap.size → (∀ z ∈ locs, z.base ≠ q) → U.heap[q]? = s.heap[q]? := by
  obtain ⟨-, h2, -, -, -, h6⟩ := h
  refine ⟨h2, fun q hq hz => ?_⟩
  obtain ⟨c9, e1, e2, e3, e4⟩ := h6 q _ (Array.getElem?_eq_getElem hq)
  have hs : c9.slots = (s.heap[q]).slots := Array.ext_getElem? fun i => e4 i fun hm => hz _ hm rfl
  have h9 : c9 = s.heap[q] := by
    rw [hs] at e2
    exact e2
  have e5 : U.heap[q]? = some c9 := e1
  rw [e5, h9, Array.getElem?_eq_getElem hq]
/-- the words of a throw but the four that speak of the heap -/
def vx_no (w : Cond) : Bool := decide (w ≠ .isRef (.static Bundle.tN "UNASSIGNED_STACK" Bundle.steD)) && decide (w ≠ .isRef (.static Bundle.tN "SUPPRESSED_SENTINEL" Bundle.listD)) && decide (w ≠ .laysStatic Bundle.tN "UNASSIGNED_STACK" Bundle.steD) && decide (w ≠ .laysStatic Bundle.tN "SUPPRESSED_SENTINEL" Bundle.listD)
def vx_at0 (own : String) (ic : Nat) (X : String) (names : List String) : List Cond := (Bundle.ownAtoms0 own ic X names).filter vx_no
def vx_atS (own : String) (ic : Nat) (X : String) (names : List String) : List Cond := (Bundle.ownAtoms own ic X names).filter vx_no
/-- a word that the tables alone decide, or a good one -/
def vx_ot (w : Cond) : Bool := w.onTables || goodWord w
theorem vx_ot_at {args a' : Array Value} {s U : State} {w : Cond} (hW : s.WarmedH U.vm) (hvm : s.vm = U.vm) (hg : vx_ot w = true) (h : w.before args s = true) : w.before a' U = true := by
  simp only [vx_ot, Bool.or_eq_true] at hg
  rcases hg with hg | hg
  · exact va_tabs hg hvm h
  · exact word_at hW (good_of_word hg) h
/-- a list's words: the good ones out of the method's own list, the others by premises of their own -/
theorem vx_hat {args : Array Value} {s : State} {L B : List Cond} (h1 : ∀ w ∈ L.filter goodWord, w.before args s = true) (h2 : ∀ w ∈ L.filter (fun w => !goodWord w), w ∈ B) (h3 : ∀ w ∈ B, w.before args s = true) : ∀ w ∈ L, w.before args s = true := by
  intro w hw
  by_cases g : goodWord w = true
  · exact h1 w (List.mem_filter.mpr ⟨hw, g⟩)
  · refine h3 w (h2 w (List.mem_filter.mpr ⟨hw, ?_⟩))
    show (!goodWord w) = true
    cases hgw : goodWord w
    · rfl
    · exact absurd hgw g
theorem vx_c {args : Array Value} {s : State} {w : Cond} {B : List Cond} (h : w.before args s = true) (t : ∀ w ∈ B, w.before args s = true) : ∀ w' ∈ w :: B, w'.before args s = true := fun w' h' => (List.mem_cons.mp h').elim (fun e => by rw [e]; exact h) (t w')
theorem vx_n {args : Array Value} {s : State} : ∀ w ∈ ([] : List Cond), w.before args s = true := fun _ h => nomatch h
theorem vx_own {args : Array Value} {s : State} {L : List Cond} (h1 : ∀ w ∈ L.filter vx_no, w.before args s = true)
    (hU : (Cond.isRef (.static Bundle.tN "UNASSIGNED_STACK" Bundle.steD)).before args s = true) (hN : (Cond.isRef (.static Bundle.tN "SUPPRESSED_SENTINEL" Bundle.listD)).before args s = true)
    (lU : (Cond.laysStatic Bundle.tN "UNASSIGNED_STACK" Bundle.steD).before args s = true) (lN : (Cond.laysStatic Bundle.tN "SUPPRESSED_SENTINEL" Bundle.listD).before args s = true) : ∀ w ∈ L, w.before args s = true := by
  intro w hw
  by_cases e1 : w = .isRef (.static Bundle.tN "UNASSIGNED_STACK" Bundle.steD)
  · rw [e1]; exact hU
  · by_cases e2 : w = .isRef (.static Bundle.tN "SUPPRESSED_SENTINEL" Bundle.listD)
    · rw [e2]; exact hN
    · by_cases e3 : w = .laysStatic Bundle.tN "UNASSIGNED_STACK" Bundle.steD
      · rw [e3]; exact lU
      · by_cases e4 : w = .laysStatic Bundle.tN "SUPPRESSED_SENTINEL" Bundle.listD
        · rw [e4]; exact lN
        · exact h1 w (List.mem_filter.mpr ⟨hw, by unfold vx_no; rw [decide_eq_true e1, decide_eq_true e2, decide_eq_true e3, decide_eq_true e4]; rfl⟩)
/-- where a static field lies, its class's statics cell in H -/
def vx_L (C n d : String) (A : Nat → Prop) (U : State) (H : Heap) : Prop := ∃ (c : ClassId) (k : Class) (i : Nat) (f : Field) (a : Nat) (cell : Cell), U.vm.findClass C = some c ∧ U.fieldFound? C n d = some (c, k, i, f) ∧ f.isStatic = true ∧ k.statics = some a ∧ H[a]? = some cell ∧ cell.vm.isStatics = true ∧ cell.cls = c ∧ f.slot < cell.slots.size ∧ k.staticTypes[f.slot]? = some f.type ∧ ¬ A a
theorem vx_L.moved {C n d : String} {A : Nat → Prop} {u U : State} {H : Heap} (hvm : u.vm.Alike U.vm) (h : vx_L C n d A u H) : vx_L C n d A U H := by
  obtain ⟨c, k, i, f, a, cell, h1, h2, h3, h4, h5, h6, h7, h8, h9, h10⟩ := h
  obtain ⟨k', hi', he⟩ := State.fieldFound?_setVm hvm h2
  exact ⟨c, k', i, f, a, cell, by rw [hvm.findClass]; exact h1, hi', h3, by rw [he]; exact h4, h5, h6, h7, h8, by rw [he]; exact h9, h10⟩
theorem vx_L.kept {C n d : String} {A : Nat → Prop} {U : State} {H H1 : Heap} (h : vx_L C n d A U H) (hq : ∀ a : Nat, a < H.size → ¬ A a → H1[a]? = H[a]?) : vx_L C n d A U H1 := by
  obtain ⟨c, k, i, f, a, cell, h1, h2, h3, h4, h5, h6, h7, h8, h9, h10⟩ := h
  exact ⟨c, k, i, f, a, cell, h1, h2, h3, h4, by rw [hq a (Array.getElem?_eq_some_iff.mp h5).1 h10]; exact h5, h6, h7, h8, h9, h10⟩
theorem vx_L.narrow {C n d : String} {A B : Nat → Prop} {U : State} {H : Heap} (h : vx_L C n d A U H) (hAB : ∀ q, B q → A q) : vx_L C n d B U H := by
  obtain ⟨c, k, i, f, a, cell, h1, h2, h3, h4, h5, h6, h7, h8, h9, h10⟩ := h
  exact ⟨c, k, i, f, a, cell, h1, h2, h3, h4, h5, h6, h7, h8, h9, fun z => h10 (hAB _ z)⟩
theorem vx_L.word {C n d : String} {A : Nat → Prop} {s : State} {args : Array Value} (h : vx_L C n d A s s.heap) : (Cond.laysStatic C n d).before args s = true := by
  obtain ⟨c, k, i, f, a, cell, h1, h2, h3, h4, h5, h6, h7, h8, h9, -⟩ := h
  show (Cond.laysStatic C n d).holds args s none s [] = true
  exact Cond.laysStatic_of h1 h2 h3 h4 h5 h6 h7 h8 h9
/-- .. and what it holds: null or some reference -/
def vx_Zq (C n d : String) (A : Nat → Prop) (U : State) (H : Heap) : Prop := va_Zq C n d A U H ∧ vx_L C n d A U H
theorem vx_Zq.moved {C n d : String} {A : Nat → Prop} {u U : State} {H : Heap} (hvm : u.vm.Alike U.vm) (h : vx_Zq C n d A u H) : vx_Zq C n d A U H := ⟨va_Zq.moved hvm h.1, vx_L.moved hvm h.2⟩
theorem vx_Zq.kept {C n d : String} {A : Nat → Prop} {U : State} {H H1 : Heap} (h : vx_Zq C n d A U H) (hq : ∀ a : Nat, a < H.size → ¬ A a → H1[a]? = H[a]?) : vx_Zq C n d A U H1 := ⟨va_Zq.kept h.1 hq, vx_L.kept h.2 hq⟩
theorem vx_Zq.narrow {C n d : String} {A B : Nat → Prop} {U : State} {H : Heap} (h : vx_Zq C n d A U H) (hAB : ∀ q, B q → A q) : vx_Zq C n d B U H := ⟨va_Zq.narrow h.1 hAB, vx_L.narrow h.2 hAB⟩
theorem vx_Zqof {args : Array Value} {s : State} {C n d : String} {A : Nat → Prop} (hl : (Cond.laysStatic C n d).before args s = true) (hini : (Cond.initialized C).before args s = true) (h : (Cond.isRef (.static C n d)).before args s = true) (hA : ∀ a : Nat, a < s.heap.size → ¬ A a) : vx_Zq C n d A s s.heap := by
  refine ⟨va_Zqof hl hini h hA, ?_⟩
  obtain ⟨c, k, i, f, a, cell, h1, h2, h3, h4, h5, h6, h7, h8, h9⟩ := Cond.laysStatic_spec hl
  exact ⟨c, k, i, f, a, cell, h1, h2, h3, h4, h5, h6, h7, h8, h9, hA a (Array.getElem?_eq_some_iff.mp h5).1⟩
theorem vx_isRef {C n d : String} {v : Value} {A : Nat → Prop} {s : State} {args : Array Value} (h : va_Z C n d v A s s.heap) (hv : v.isRef = true) : (Cond.isRef (.static C n d)).before args s = true := by
  obtain ⟨cf, kf, fi, f, a, cell, h1, h2, h3, h4, h5, h6, h7, -⟩ := h
  have he : (Term.static C n d).eval args s none [] s = some v := by
    simp [Term.eval, State.fieldNamed?, h1, h2, h4, h5, h6, h7]
  simp only [Cond.before, Cond.holds, Cond.value, he]
  cases v <;> simp_all [Value.isRef]
theorem vx_isRefq {C n d : String} {A : Nat → Prop} {s : State} {args : Array Value} (h : va_Zq C n d A s s.heap) : (Cond.isRef (.static C n d)).before args s = true := by
  rcases h with h | ⟨t, h⟩
  · exact vx_isRef h rfl
  · exact vx_isRef h rfl
/-- the same frame, seen from here: as if the method were called anew in this heap -/
theorem vx_rebase {T : State} (X : Stand p l e R s m args below meth c T locs cells slots) {R' : Room} (hf : R'.frames ≤ R.frames) (hl : R'.locals ≤ R.locals) (hc : cells + R'.cells ≤ R.cells) (hs : slots + R'.slots ≤ R.slots) :
    Stand p l e R' ((T.setVm s.vm).setFrames (.invoking m args :: below)) m args below meth c T [] 0 0 := by
  have htop : (T.setVm s.vm).topJava?.isSome := X.here.top
  have hF : ((T.setVm s.vm).setFrames (.invoking m args :: below)).frames = .invoking m args :: below := State.frames_setFrames _ (State.cur_lt_of_top htop)
  obtain ⟨g₀, hg0⟩ := Option.isSome_iff_exists.mp htop
  obtain ⟨r, hr⟩ := State.topJava?_eq_some.mp hg0
  have hl9 : e.platform.stackLimits (T.setVm s.vm).me = e.platform.stackLimits s.me := X.limits
  have hb9 : (T.setVm s.vm).me.stackBytes = s.me.stackBytes := X.bytes
  refine ⟨X.admits, X.cas, X.clock, hF, ?_, X.hears, X.method, X.code, X.here, X.tail, X.warmed, ?_, ?_, ?_⟩
  · have h := X.room
    have hU : ((T.setVm s.vm).setFrames (.invoking m args :: below)).localsInUse = s.localsInUse := by
      rw [State.localsInUse_invoking hF (meth := meth) (c := c) X.method X.code, State.localsInUse_invoking X.frames X.method X.code]
    simp only [State.hasRoom, Bool.and_eq_true, decide_eq_true_eq] at h ⊢
    obtain ⟨⟨⟨⟨h1, h2, h3, h4, h5, h6⟩, h7⟩, h8⟩, h9⟩ := h
    rw [X.frames, List.length_cons] at h2 h3
    have q1 := X.heapSize
    have q2 := X.used
    simp only [hF, hU, List.length_cons, State.stackLimits_setFrames, State.stackBytes_setFrames, hl9, hb9]
    refine ⟨⟨⟨⟨by omega, by omega, by omega, by omega, by omega, h6⟩, ?_⟩, ?_⟩, X.book⟩
    · show T.heap.size + R'.cells ≤ e.platform.maxCells
      omega
    · show T.slotsUsed + R'.slots ≤ e.platform.maxSlots
      omega
  · rw [State.stackLimits_setFrames]; rfl
  · rw [State.stackBytes_setFrames]; rfl
  · refine ⟨?_, Nat.le_refl _, Nat.le_refl _, ?_, ?_, fun a c9 h9 => ⟨c9, h9, rfl, rfl, fun _ _ => rfl⟩⟩
    · obtain ⟨t, ht, -⟩ := State.frames_cons hr
      show T.setVm s.vm = { ((T.setVm s.vm).setFrames (.invoking m args :: below)).setFrames (T.setVm s.vm).frames with heap := T.heap, slotsUsed := T.slotsUsed }
      rw [State.setFrames_setFrames, State.setFrames_self ht]
      rfl
    · show T.slotsUsed = T.slotsUsed + ((T.heap.toList.drop T.heap.size).map (·.slots.size)).sum
      rw [List.drop_eq_nil_of_le (Nat.le_of_eq Array.length_toList)]
      rfl
    · show ((T.heap.toList.drop T.heap.size).map (·.slots.size)).sum ≤ 0
      rw [List.drop_eq_nil_of_le (Nat.le_of_eq Array.length_toList)]
      exact Nat.le_refl _
/-- 'throw new E()': new; dup; invokespecial; athrow -/
theorem vx_throw0 {cc : ByteArray} {pc : Nat} (hexec : p.tables.exec = Jvm.exec) (hb : c.code = cc) (hl : l.stackTraces = false) {own cls : String} {names : List String} {ik ic mc ms : Nat} {A : Nat → Prop}
    (hown : s.vm.findClass own = some m.cls) (hcls : Bundle.fit cls = true) (hnames : ∀ n ∈ names, Bundle.fit n = true)
    (hk : (Cond.classLink own ik cls).before args s = true) (hini : (Cond.initialized cls).before args s = true) (hat : ∀ w ∈ vx_at0 own ic cls names, w.before args s = true)
    (hgood : ∀ w ∈ Cond.classLink own ik cls :: Cond.initialized cls :: vx_at0 own ic cls names, vx_ot w = true)
    (hU : vx_Zq Bundle.tN "UNASSIGNED_STACK" Bundle.steD A s s.heap) (hN : vx_Zq Bundle.tN "SUPPRESSED_SENTINEL" Bundle.listD A s s.heap) (hS : va_S A s.heap H locs) (hsize : ls.size = c.maxLocals)
    (d0 : decode cc pc = .ok (.new ik, 3)) (d3 : decode cc (pc + 3) = .ok (.dup, 1)) (d4 : decode cc (pc + 4) = .ok (.invokespecial ic, 3)) (d7 : decode cc (pc + 7) = .ok (.athrow, 1))
    (hout : ∀ x ∈ c.exceptionTable.toList, covers x (pc + 7) = false)
    (hRframes : names.length + 3 < R.frames) (hRlocals : (rest.map fun v => v.category).sum + (13 * (names.length + 1) + 42) ≤ R.locals) (hRcells : cells + 1 ≤ R.cells) (hRslots : slots + 6 ≤ R.slots) (hlocks : meth.locks = false)
    (hx : ∀ t : State, s.vm.Alike t.vm → H.size ≤ t.heap.size → (∀ q : Nat, q < H.size → t.heap[q]? = H[q]?) → XC cls s t)
    (hf : ∀ z ∈ locs, free z.base) (hc : cells + 1 ≤ mc) (hs : slots + 6 ≤ ms) :
    W p l e R s m args below meth c H locs cells slots (vx_MQ below Qc XC args s mc ms free) (F0 m pc ls rest) := by
  intro T hT X
  have htr : e.platform.stackTraces = false := (show e.platform.stackTraces = l.stackTraces by rw [X.admits.platform]).trans hl
  have Y := vx_rebase X (R' := { frames := R.frames, locals := R.locals, cells := 1, slots := 6 }) (Nat.le_refl _) (Nat.le_refl _) hRcells hRslots
  obtain ⟨s', hA⟩ : ∃ z, z = (T.setVm s.vm).setFrames (.invoking m args :: below) := ⟨_, rfl⟩
  rw [← hA] at Y
  have hvm : s'.vm = s.vm := by rw [hA]; rfl
  have hhp : s'.heap = H := by rw [hA]; exact hT
  have hW0 : s.WarmedH s'.vm := by rw [hvm]; exact State.WarmedH.refl s
  have hat' : ∀ w ∈ vx_at0 own ic cls names, w.before args s' = true := fun w hw => vx_ot_at hW0 hvm.symm (hgood w (List.mem_cons_of_mem _ (List.mem_cons_of_mem _ hw))) (hat w hw)
  have hk' : (Cond.classLink own ik cls).before args s' = true := vx_ot_at hW0 hvm.symm (hgood _ List.mem_cons_self) hk
  have hini' : (Cond.initialized cls).before args s' = true := vx_ot_at hW0 hvm.symm (hgood _ (List.mem_cons_of_mem _ List.mem_cons_self)) hini
  have hU' : vx_Zq Bundle.tN "UNASSIGNED_STACK" Bundle.steD A s' s'.heap := by rw [hhp]; exact vx_Zq.moved hW0.alike (hU.kept hS.2.1)
  have hN' : vx_Zq Bundle.tN "SUPPRESSED_SENTINEL" Bundle.listD A s' s'.heap := by rw [hhp]; exact vx_Zq.moved hW0.alike (hN.kept hS.2.1)
  have h : ∀ w ∈ Bundle.ownAtoms0 own ic cls names, w.before args s' = true := vx_own hat' (vx_isRefq hU'.1) (vx_isRefq hN'.1) hU'.2.word hN'.2.word
  have hown' : s'.vm.findClass own = some m.cls := by rw [hvm]; exact hown
  have hins : (Cond.instantiable cls 6).before args s' = true := h _ (by simp [Bundle.ownAtoms0])
  obtain ⟨vm₁, cX, kX, hfX, hkX, -, -, X₁, st1⟩ := Y.newCold hexec (own := own) (C := cls) (index := ik) (n := 6) hown' hk' hins hini'
    (g := F0 m pc ls rest) rfl (by rw [hb]; exact d0) (Nat.le_refl _) (Nat.le_refl _)
  generalize hT1 : (T.setVm vm₁).pushCell { cls := cX, slots := kX.instanceTypes.map defaultValue, vm := .none } = T1 at X₁ st1
  have hcat : (Value.ref T.heap.size).category = 1 := rfl
  have hcellA : T1.heap[T.heap.size]? = some (freshCell cX kX) := by rw [← hT1]; exact State.heap_pushCell_size _ _
  have d3' : decode c.code (pc + 3) = .ok (.dup, 1) := by rw [hb]; exact d3
  obtain ⟨U, hsteps, hrun, hend, hW, hsame, ce, hce, hO⟩ := X₁.ctorThrow0 hexec htr (own := own) (cls := cls) (names := names) (ic := ic) hown' hcls hnames h (fun x hx => nomatch hx) hfX hkX hcellA (by rw [hhp, hT]; exact Nat.le_refl _)
    (g := { method := m, pc := pc + 4, locals := ls, stack := .ref T.heap.size :: .ref T.heap.size :: rest, locked := none }) rfl hsize rfl rfl (rest := rest) rfl
    (by rw [hb]; exact d4) (by rw [hb]; exact d7) hout hRframes (by simp only [List.map_cons, List.sum_cons, hcat]; omega) hlocks
  obtain ⟨f1, f2⟩ := vx_frame hsame
  rw [hhp] at f1 f2
  have hWs : s.WarmedH U.vm := State.WarmedH.trans hW0 hW
  have hcl : s.vm.findClass cls = some ce.cls := by
    have h9 := hO.cls
    rw [hvm] at h9
    exact h9
  have hall : s.sameButNew ({ U with vm := s.vm } : State) locs mc ms := by
    subst hA
    obtain ⟨e1, e2⟩ := hsame
    rw [State.setFrames_setFrames] at e1
    have h2 : (T.setVm s.vm).sameButNew ({ U with vm := s.vm } : State) [] (0 + 1) (0 + 6) := ⟨e1, e2⟩
    have h3 := X.same.trans h2
    rw [List.append_nil] at h3
    exact h3.mono hc hs
  refine ⟨U, ?_, .threw T.heap.size, hrun, hend, Or.inr ⟨T.heap.size, rfl, cls, ce, locs, hx U hWs.alike f1 (fun q hq => f2 q hq (fun z hz => nomatch hz)), hce, hO.vm, hcl, hWs, hall, hf⟩⟩
  refine st1 _ ?_
  show Steps p.tables e below (T1.setTop { method := m, pc := pc + 3, locals := ls, stack := .ref T.heap.size :: rest, locked := none }) _
  jvm_step X₁.here [X₁.here.top, hexec, d3', Value.category]
  exact hsteps
/-- 'throw new E("text")': new; dup; ldc; invokespecial; athrow -/
theorem vx_throwS {cc : ByteArray} {pc : Nat} (hexec : p.tables.exec = Jvm.exec) (hb : c.code = cc) (hl : l.stackTraces = false) {own cls text : String} {names : List String} {ik is ic mc ms sa : Nat} {A : Nat → Prop}
    (hown : s.vm.findClass own = some m.cls) (hcls : Bundle.fit cls = true) (hnames : ∀ n ∈ names, Bundle.fit n = true)
    (hk : (Cond.classLink own ik cls).before args s = true) (hini : (Cond.initialized cls).before args s = true) (hstr : vk_R own is text sa s) (hat : ∀ w ∈ vx_atS own ic cls names, w.before args s = true)
    (hgood : ∀ w ∈ Cond.classLink own ik cls :: Cond.initialized cls :: vx_atS own ic cls names, vx_ot w = true)
    (hU : vx_Zq Bundle.tN "UNASSIGNED_STACK" Bundle.steD A s s.heap) (hN : vx_Zq Bundle.tN "SUPPRESSED_SENTINEL" Bundle.listD A s s.heap) (hS : va_S A s.heap H locs) (hsize : ls.size = c.maxLocals)
    (d0 : decode cc pc = .ok (.new ik, 3)) (d3 : decode cc (pc + 3) = .ok (.dup, 1)) (d4 : decode cc (pc + 4) = .ok (.ldc is, 2)) (d6 : decode cc (pc + 6) = .ok (.invokespecial ic, 3)) (d9 : decode cc (pc + 9) = .ok (.athrow, 1))
    (hout : ∀ x ∈ c.exceptionTable.toList, covers x (pc + 9) = false)
    (hRframes : names.length + 3 < R.frames) (hRlocals : (rest.map fun v => v.category).sum + (13 * (names.length + 1) + 43) ≤ R.locals) (hRcells : cells + 1 ≤ R.cells) (hRslots : slots + 6 ≤ R.slots) (hlocks : meth.locks = false)
    (hx : ∀ t : State, s.vm.Alike t.vm → H.size ≤ t.heap.size → (∀ q : Nat, q < H.size → t.heap[q]? = H[q]?) → XC cls s t)
    (hf : ∀ z ∈ locs, free z.base) (hc : cells + 1 ≤ mc) (hs : slots + 6 ≤ ms) :
    W p l e R s m args below meth c H locs cells slots (vx_MQ below Qc XC args s mc ms free) (F0 m pc ls rest) := by
  intro T hT X
  have htr : e.platform.stackTraces = false := (show e.platform.stackTraces = l.stackTraces by rw [X.admits.platform]).trans hl
  have Y := vx_rebase X (R' := { frames := R.frames, locals := R.locals, cells := 1, slots := 6 }) (Nat.le_refl _) (Nat.le_refl _) hRcells hRslots
  obtain ⟨s', hA⟩ : ∃ z, z = (T.setVm s.vm).setFrames (.invoking m args :: below) := ⟨_, rfl⟩
  rw [← hA] at Y
  have hvm : s'.vm = s.vm := by rw [hA]; rfl
  have hhp : s'.heap = H := by rw [hA]; exact hT
  have hW0 : s.WarmedH s'.vm := by rw [hvm]; exact State.WarmedH.refl s
  have hat' : ∀ w ∈ vx_atS own ic cls names, w.before args s' = true := fun w hw => vx_ot_at hW0 hvm.symm (hgood w (List.mem_cons_of_mem _ (List.mem_cons_of_mem _ hw))) (hat w hw)
  have hk' : (Cond.classLink own ik cls).before args s' = true := vx_ot_at hW0 hvm.symm (hgood _ List.mem_cons_self) hk
  have hini' : (Cond.initialized cls).before args s' = true := vx_ot_at hW0 hvm.symm (hgood _ (List.mem_cons_of_mem _ List.mem_cons_self)) hini
  have hU' : vx_Zq Bundle.tN "UNASSIGNED_STACK" Bundle.steD A s' s'.heap := by rw [hhp]; exact vx_Zq.moved hW0.alike (hU.kept hS.2.1)
  have hN' : vx_Zq Bundle.tN "SUPPRESSED_SENTINEL" Bundle.listD A s' s'.heap := by rw [hhp]; exact vx_Zq.moved hW0.alike (hN.kept hS.2.1)
  have h : ∀ w ∈ Bundle.ownAtoms own ic cls names, w.before args s' = true := vx_own hat' (vx_isRefq hU'.1) (vx_isRefq hN'.1) hU'.2.word hN'.2.word
  have hown' : s'.vm.findClass own = some m.cls := by rw [hvm]; exact hown
  have hins : (Cond.instantiable cls 6).before args s' = true := h _ (by simp [Bundle.ownAtoms])
  obtain ⟨vm₁, cX, kX, hfX, hkX, -, -, X₁, st1⟩ := Y.newCold hexec (own := own) (C := cls) (index := ik) (n := 6) hown' hk' hins hini'
    (g := F0 m pc ls rest) rfl (by rw [hb]; exact d0) (Nat.le_refl _) (Nat.le_refl _)
  generalize hT1 : (T.setVm vm₁).pushCell { cls := cX, slots := kX.instanceTypes.map defaultValue, vm := .none } = T1 at X₁ st1
  have hcat : (Value.ref T.heap.size).category = 1 := rfl
  have hcellA : T1.heap[T.heap.size]? = some (freshCell cX kX) := by rw [← hT1]; exact State.heap_pushCell_size _ _
  have d3' : decode c.code (pc + 3) = .ok (.dup, 1) := by rw [hb]; exact d3
  have d4' : decode c.code (pc + 4) = .ok (.ldc is, 2) := by rw [hb]; exact d4
  have hstr' : vk_R own is text sa s' := vk_R.warm hW0 hstr
  obtain ⟨U, hsteps, hrun, hend, hW, hsame, ce, hce, hO⟩ := X₁.ctorThrowS hexec htr (own := own) (cls := cls) (names := names) (ic := ic) hown' hcls hnames h (fun x hx => nomatch hx) hfX hkX hcellA (by rw [hhp, hT]; exact Nat.le_refl _) (msg := .ref sa) rfl
    (g := { method := m, pc := pc + 6, locals := ls, stack := .ref sa :: .ref T.heap.size :: .ref T.heap.size :: rest, locked := none }) rfl hsize rfl rfl (rest := rest) rfl
    (by rw [hb]; exact d6) (by rw [hb]; exact d9) hout hRframes (by simp only [List.map_cons, List.sum_cons, hcat]; omega) hlocks
  obtain ⟨f1, f2⟩ := vx_frame hsame
  rw [hhp] at f1 f2
  have hWs : s.WarmedH U.vm := State.WarmedH.trans hW0 hW
  have hcl : s.vm.findClass cls = some ce.cls := by
    have h9 := hO.cls
    rw [hvm] at h9
    exact h9
  have hall : s.sameButNew ({ U with vm := s.vm } : State) locs mc ms := by
    subst hA
    obtain ⟨e1, e2⟩ := hsame
    rw [State.setFrames_setFrames] at e1
    have h2 : (T.setVm s.vm).sameButNew ({ U with vm := s.vm } : State) [] (0 + 1) (0 + 6) := ⟨e1, e2⟩
    have h3 := X.same.trans h2
    rw [List.append_nil] at h3
    exact h3.mono hc hs
  refine ⟨U, ?_, .threw T.heap.size, hrun, hend, Or.inr ⟨T.heap.size, rfl, cls, ce, locs, hx U hWs.alike f1 (fun q hq => f2 q hq (fun z hz => nomatch hz)), hce, hO.vm, hcl, hWs, hall, hf⟩⟩
  refine st1 _ ?_
  show Steps p.tables e below (T1.setTop { method := m, pc := pc + 3, locals := ls, stack := .ref T.heap.size :: rest, locked := none }) _
  jvm_step X₁.here [X₁.here.top, hexec, d3', Value.category]
  exact X₁.ldcString hexec (own := own) (text := text) (index := is) (a := sa) hown' hstr'.1 hstr'.2
    (g := { method := m, pc := pc + 4, locals := ls, stack := .ref T.heap.size :: .ref T.heap.size :: rest, locked := none }) rfl d4' _ hsteps
/-- 'throw new E("text")', the text by a wide index -/
theorem vx_throwSW {cc : ByteArray} {pc : Nat} (hexec : p.tables.exec = Jvm.exec) (hb : c.code = cc) (hl : l.stackTraces = false) {own cls text : String} {names : List String} {ik is ic mc ms sa : Nat} {A : Nat → Prop}
    (hown : s.vm.findClass own = some m.cls) (hcls : Bundle.fit cls = true) (hnames : ∀ n ∈ names, Bundle.fit n = true)
    (hk : (Cond.classLink own ik cls).before args s = true) (hini : (Cond.initialized cls).before args s = true) (hstr : vk_R own is text sa s) (hat : ∀ w ∈ vx_atS own ic cls names, w.before args s = true)
    (hgood : ∀ w ∈ Cond.classLink own ik cls :: Cond.initialized cls :: vx_atS own ic cls names, vx_ot w = true)
    (hU : vx_Zq Bundle.tN "UNASSIGNED_STACK" Bundle.steD A s s.heap) (hN : vx_Zq Bundle.tN "SUPPRESSED_SENTINEL" Bundle.listD A s s.heap) (hS : va_S A s.heap H locs) (hsize : ls.size = c.maxLocals)
    (d0 : decode cc pc = .ok (.new ik, 3)) (d3 : decode cc (pc + 3) = .ok (.dup, 1)) (d4 : decode cc (pc + 4) = .ok (.ldc_w is, 3)) (d7 : decode cc (pc + 7) = .ok (.invokespecial ic, 3)) (d10 : decode cc (pc + 10) = .ok (.athrow, 1))
    (hout : ∀ x ∈ c.exceptionTable.toList, covers x (pc + 10) = false)
    (hRframes : names.length + 3 < R.frames) (hRlocals : (rest.map fun v => v.category).sum + (13 * (names.length + 1) + 43) ≤ R.locals) (hRcells : cells + 1 ≤ R.cells) (hRslots : slots + 6 ≤ R.slots) (hlocks : meth.locks = false)
    (hx : ∀ t : State, s.vm.Alike t.vm → H.size ≤ t.heap.size → (∀ q : Nat, q < H.size → t.heap[q]? = H[q]?) → XC cls s t)
    (hf : ∀ z ∈ locs, free z.base) (hc : cells + 1 ≤ mc) (hs : slots + 6 ≤ ms) :
    W p l e R s m args below meth c H locs cells slots (vx_MQ below Qc XC args s mc ms free) (F0 m pc ls rest) := by
  intro T hT X
  have htr : e.platform.stackTraces = false := (show e.platform.stackTraces = l.stackTraces by rw [X.admits.platform]).trans hl
  have Y := vx_rebase X (R' := { frames := R.frames, locals := R.locals, cells := 1, slots := 6 }) (Nat.le_refl _) (Nat.le_refl _) hRcells hRslots
  obtain ⟨s', hA⟩ : ∃ z, z = (T.setVm s.vm).setFrames (.invoking m args :: below) := ⟨_, rfl⟩
  rw [← hA] at Y
  have hvm : s'.vm = s.vm := by rw [hA]; rfl
  have hhp : s'.heap = H := by rw [hA]; exact hT
  have hW0 : s.WarmedH s'.vm := by rw [hvm]; exact State.WarmedH.refl s
  have hat' : ∀ w ∈ vx_atS own ic cls names, w.before args s' = true := fun w hw => vx_ot_at hW0 hvm.symm (hgood w (List.mem_cons_of_mem _ (List.mem_cons_of_mem _ hw))) (hat w hw)
  have hk' : (Cond.classLink own ik cls).before args s' = true := vx_ot_at hW0 hvm.symm (hgood _ List.mem_cons_self) hk
  have hini' : (Cond.initialized cls).before args s' = true := vx_ot_at hW0 hvm.symm (hgood _ (List.mem_cons_of_mem _ List.mem_cons_self)) hini
  have hU' : vx_Zq Bundle.tN "UNASSIGNED_STACK" Bundle.steD A s' s'.heap := by rw [hhp]; exact vx_Zq.moved hW0.alike (hU.kept hS.2.1)
  have hN' : vx_Zq Bundle.tN "SUPPRESSED_SENTINEL" Bundle.listD A s' s'.heap := by rw [hhp]; exact vx_Zq.moved hW0.alike (hN.kept hS.2.1)
  have h : ∀ w ∈ Bundle.ownAtoms own ic cls names, w.before args s' = true := vx_own hat' (vx_isRefq hU'.1) (vx_isRefq hN'.1) hU'.2.word hN'.2.word
  have hown' : s'.vm.findClass own = some m.cls := by rw [hvm]; exact hown
  have hins : (Cond.instantiable cls 6).before args s' = true := h _ (by simp [Bundle.ownAtoms])
  obtain ⟨vm₁, cX, kX, hfX, hkX, -, -, X₁, st1⟩ := Y.newCold hexec (own := own) (C := cls) (index := ik) (n := 6) hown' hk' hins hini'
    (g := F0 m pc ls rest) rfl (by rw [hb]; exact d0) (Nat.le_refl _) (Nat.le_refl _)
  generalize hT1 : (T.setVm vm₁).pushCell { cls := cX, slots := kX.instanceTypes.map defaultValue, vm := .none } = T1 at X₁ st1
  have hcat : (Value.ref T.heap.size).category = 1 := rfl
  have hcellA : T1.heap[T.heap.size]? = some (freshCell cX kX) := by rw [← hT1]; exact State.heap_pushCell_size _ _
  have d3' : decode c.code (pc + 3) = .ok (.dup, 1) := by rw [hb]; exact d3
  have d4' : decode c.code (pc + 4) = .ok (.ldc_w is, 3) := by rw [hb]; exact d4
  have hstr' : vk_R own is text sa s' := vk_R.warm hW0 hstr
  obtain ⟨U, hsteps, hrun, hend, hW, hsame, ce, hce, hO⟩ := X₁.ctorThrowS hexec htr (own := own) (cls := cls) (names := names) (ic := ic) hown' hcls hnames h (fun x hx => nomatch hx) hfX hkX hcellA (by rw [hhp, hT]; exact Nat.le_refl _) (msg := .ref sa) rfl
    (g := { method := m, pc := pc + 7, locals := ls, stack := .ref sa :: .ref T.heap.size :: .ref T.heap.size :: rest, locked := none }) rfl hsize rfl rfl (rest := rest) rfl
    (by rw [hb]; exact d7) (by rw [hb]; exact d10) hout hRframes (by simp only [List.map_cons, List.sum_cons, hcat]; omega) hlocks
  obtain ⟨f1, f2⟩ := vx_frame hsame
  rw [hhp] at f1 f2
  have hWs : s.WarmedH U.vm := State.WarmedH.trans hW0 hW
  have hcl : s.vm.findClass cls = some ce.cls := by
    have h9 := hO.cls
    rw [hvm] at h9
    exact h9
  have hall : s.sameButNew ({ U with vm := s.vm } : State) locs mc ms := by
    subst hA
    obtain ⟨e1, e2⟩ := hsame
    rw [State.setFrames_setFrames] at e1
    have h2 : (T.setVm s.vm).sameButNew ({ U with vm := s.vm } : State) [] (0 + 1) (0 + 6) := ⟨e1, e2⟩
    have h3 := X.same.trans h2
    rw [List.append_nil] at h3
    exact h3.mono hc hs
  refine ⟨U, ?_, .threw T.heap.size, hrun, hend, Or.inr ⟨T.heap.size, rfl, cls, ce, locs, hx U hWs.alike f1 (fun q hq => f2 q hq (fun z hz => nomatch hz)), hce, hO.vm, hcl, hWs, hall, hf⟩⟩
  refine st1 _ ?_
  show Steps p.tables e below (T1.setTop { method := m, pc := pc + 3, locals := ls, stack := .ref T.heap.size :: rest, locked := none }) _
  jvm_step X₁.here [X₁.here.top, hexec, d3', Value.category]
  exact X₁.ldcStringW hexec (own := own) (text := text) (index := is) (a := sa) hown' hstr'.1 hstr'.2
    (g := { method := m, pc := pc + 4, locals := ls, stack := .ref T.heap.size :: .ref T.heap.size :: rest, locked := none }) rfl d4' _ hsteps
end Ends
section Bodies
variable {l : Launch}
theorem vx_ofW {y : MethodName} {ws ws' : List Cond} {rm : Room} {Pc : Array Value → State → Prop} {Qc : Array Value → State → Outcome → State → Prop} {XC : String → State → State → Prop} {mc ms : Nat} {free : Addr → Prop} {cc : ByteArray} {maxL : Nat} {ret : Option FieldType}
    (hy : plainName y.cls = true) (hw : ws = Cond.code y cc maxL ret :: ws')
    (body : ∀ p e s m args below meth c s₁, BodyLoose p l y (headSpec ws rm) cc maxL ret e s m args below meth c s₁ → c.maxLocals = maxL → (∀ x ∈ c.exceptionTable.toList, False) → Pc args s →
      W p l e (headSpec ws rm).room s m args below meth c s.heap [] 0 0 (vx_MQ below Qc XC args s mc ms free) (entryFrame m args maxL)) : vx_Met l y ws rm Pc Qc XC mc ms free := by
  refine MetFree.of_bodyS (code := cc) (maxLocals := maxL) (ret := ret) hy ?_ ?_
  · intro args s m h hn
    obtain ⟨meth, c, h1, h2, h3, h4, h5, h6, -, -⟩ := Cond.code_spec hn (atoms_spec (ws := ws) h _ (by rw [hw]; exact List.mem_cons_self))
    exact ⟨meth, c, h1, h2, h3, h4, h5, h6⟩
  · intro p e s m args below meth c s₁ B hml hP _
    have hh0 : s₁.heap = s.heap := by rw [B.state]; rfl
    have ht : ∀ x ∈ c.exceptionTable.toList, False := by
      obtain ⟨meth9, c9, h1, h2, -, -, -, -, h7, -⟩ := Cond.code_spec B.named (atoms_spec (ws := ws) B.pre _ (by rw [hw]; exact List.mem_cons_self))
      cases Option.some.inj (h1.symm.trans B.method)
      cases Option.some.inj (h2.symm.trans (Stand.of_body B).code)
      intro x hx
      rw [Array.isEmpty_iff.mp h7] at hx
      cases hx
    obtain ⟨t, a1, o, b1, b2, b3⟩ := body p e s m args below meth c s₁ B hml ht hP s₁ hh0 (Stand.of_body B)
    exact ⟨t, o, a1, b1, b2, b3⟩
/-- the table of a body with handlers -/
theorem vx_table {p : Program} {x y : MethodName} {S : Spec} {cc bytes : ByteArray} {maxL maxL' : Nat} {ret ret' : Option FieldType} {e : Env} {s s₁ : State} {m : MethodId} {args : Array Value} {below : List Frame} {meth : Method} {c : Code} {hh : List (Nat × Nat × Nat × Nat)}
    (B : BodyLoose p l y S cc maxL ret e s m args below meth c s₁) (h : (Cond.codeWith y bytes maxL' ret' hh).before args s = true) : c.exceptionTable.toList = tableOf hh := by
  obtain ⟨m9, meth9, c9, hn9, h1, h2, -, -, h6, -⟩ := Cond.codeWith_spec h
  cases Option.some.inj (hn9.symm.trans B.named)
  cases Option.some.inj (h1.symm.trans B.method)
  cases Option.some.inj (h2.symm.trans (Stand.of_body B).code)
  rw [← h6, table_eq]
end Bodies
end VXA
/-! ===== END ===== -/
/-! ===== BEGIN a static call of a method with an exception table ===== -/
section VXS
variable {p : Program} {l : Launch} {e : Env} {R : Room} {s : State} {m : MethodId} {args : Array Value} {below : List Frame} {meth : Method} {c : Code} {T : State} {H : Heap} {locs : List Loc} {cells slots : Nat}
abbrev vx_CSW (R : Room) (s : State) (args : Array Value) (own : String) (index : Nat) (y : MethodName) (bytes : ByteArray) (maxL : Nat) (ret : Option FieldType) (hh : List (Nat × Nat × Nat × Nat)) (ws : List Cond) (rm : Room) (mc ms n : Nat) : Prop :=
  (rm.cells = mc ∧ rm.slots = ms ∧ rm.frames + 1 ≤ R.frames ∧ 8 + (maxL + 11) + rm.locals ≤ R.locals ∧ (∀ w ∈ ws, ∀ (a' : Array Value) (U : State), s.WarmedH U.vm → w.before a' U = true) ∧ Cond.codeWith y bytes maxL ret hh ∈ ws) ∧
  (Cond.codeWith y bytes maxL ret hh).before args s = true ∧ (Cond.initialized y.cls).before args s = true ∧ (y.cls ≠ "java/lang/invoke/MethodHandle" ∧ y.cls ≠ "java/lang/invoke/VarHandle") ∧
  (∀ sig, parseMethodDescriptor y.desc = some sig → n = sig.parameters.length) ∧ (Cond.methodLink own index y).before args s = true ∧ (Cond.static y).before args s = true
theorem vx_cwSW {own : String} {index maxL mc ms : Nat} {y : MethodName} {bytes : ByteArray} {ret : Option FieldType} {hh : List (Nat × Nat × Nat × Nat)} {Ts ws ws' : List Cond} {rm : Room} (n : Nat) (ht : ∀ w ∈ Ts, w.before args s = true) (hT : GoodIn Ts (va_wsS own index y ws)) (hw : ws = Cond.codeWith y bytes maxL ret hh :: ws') (hrc : rm.cells = mc) (hrs : rm.slots = ms)
    (hd : y.cls ≠ "java/lang/invoke/MethodHandle" ∧ y.cls ≠ "java/lang/invoke/VarHandle" ∧ (parseMethodDescriptor y.desc).map (fun d => d.parameters.length) = some n) (hR : rm.frames + 1 ≤ R.frames ∧ 8 + (maxL + 11) + rm.locals ≤ R.locals) :
    vx_CSW R s args own index y bytes maxL ret hh ws rm mc ms n := by
  have ok : ∀ w ∈ va_wsS own index y ws, w.before args s = true := fun w h => ht w (hT w h).1
  have hG : GoodIn Ts ws := fun w h => hT w (by unfold va_wsS; exact List.mem_append_right _ h)
  have hc : Cond.codeWith y bytes maxL ret hh ∈ ws := by rw [hw]; exact List.mem_cons_self
  refine ⟨⟨hrc, hrs, hR.1, hR.2, pay_in ht hG, hc⟩, ht _ (hG _ hc).1, ok _ (by simp [va_wsS]), ⟨hd.1, hd.2.1⟩, fun sig h => ?_, ok _ (by simp [va_wsS]), ok _ (by simp [va_wsS])⟩
  have h2 := hd.2.2
  rw [h] at h2
  exact (Option.some.inj h2).symm
theorem vx_callSW (X : Stand p l e R s m args below meth c T locs cells slots) (hexec : p.tables.exec = Jvm.exec) {own : String} {index : Nat} {y : MethodName} {bytes : ByteArray} {maxL : Nat} {ret : Option FieldType} {hh : List (Nat × Nat × Nat × Nat)}
    (hown : s.vm.findClass own = some m.cls) (hlink : (Cond.methodLink own index y).before args s = true) (hstat : (Cond.static y).before args s = true) (hinit : (Cond.initialized y.cls).before args s = true)
    (hcode : (Cond.codeWith y bytes maxL ret hh).before args s = true) (hy : y.cls ≠ "java/lang/invoke/MethodHandle" ∧ y.cls ≠ "java/lang/invoke/VarHandle")
    {W9 : Nat} {Pre : Pt → Array Value → Prop} {Post : Pt → Array Value → Option Value → Pt → Prop} (hK : Back l R p e below s args y 3 W9 Pre Post)
    {g : JFrame} (hg : g.method = m) (hsize : g.locals.size = c.maxLocals) {argsL rest : List Value} (hlen : ∀ sig, parseMethodDescriptor y.desc = some sig → argsL.length = sig.parameters.length)
    (hstack : g.stack = argsL.reverse ++ rest) (hW : 2 * g.monitorRoom + (rest.map fun v => v.category).sum ≤ W9) (hdg : decode c.code g.pc = .ok (.invokestatic index, 3))
    (hpre : ∀ vm₁, s.WarmedH vm₁ → Pre ⟨T.setVm vm₁, locs, cells, slots⟩ argsL.toArray) :
    ∃ (v : Option Value) (vm₁ : Vm) (B : Pt), s.WarmedH vm₁ ∧ Stand p l e R s m args below meth c B.U B.locs B.cells B.slots ∧ Post ⟨T.setVm vm₁, locs, cells, slots⟩ argsL.toArray v B ∧
      ∀ target, Steps p.tables e below (B.U.setTop { g with pc := g.pc + 3, stack := v.toList ++ rest }) target → Steps p.tables e below (T.setTop g) target := by
  obtain ⟨mk, methM, cM, hnamed, hmethM, -, -, -, -, -, -, hsigM⟩ := Cond.codeWith_spec hcode
  have hstatic : methM.isStatic = true := Cond.static_spec hnamed hmethM hstat
  obtain ⟨kP, hkP, -⟩ := className_of_methodNamed hnamed
  have hinitP : kP.init = .initialized := Cond.initialized_spec (findClass_of_methodNamed hnamed) hkP hinit
  obtain ⟨vm₁, X₁, hstep₁⟩ := X.invokestatic hexec hown hlink hnamed hmethM hstatic hkP hinitP hy (g := g) hg (argsL := argsL) (rest := rest) (hlen _ hsigM) hstack hdg
  obtain ⟨v, B, X', hpost, hsteps⟩ := hK m meth c ⟨T.setVm vm₁, locs, cells, slots⟩ { g with stack := rest } (.invokestatic index) mk argsL.toArray X₁ hg hsize hdg hW (X₁.named hnamed) (hpre vm₁ X₁.warmed)
  exact ⟨v, vm₁, B, X₁.warmed, X', hpost, fun target h => hstep₁ _ fun acts => by rw [doInvoke_state]; exact hsteps.trans h⟩
theorem vx_runSW {y : MethodName} {bytes cc : ByteArray} {maxL nL mc ms n index : Nat} {ret : Option FieldType} {hh : List (Nat × Nat × Nat × Nat)} {ws : List Cond} {rm : Room} {Pc : Array Value → State → Prop} {Qc : Array Value → State → Outcome → State → Prop} {free : Addr → Prop} {Ts : List Cond} {own : String} {As rest : List Value} {g : JFrame}
    (S : CallFix p m c cc nL s args Ts own) (hM : Met l y ws rm Pc Qc mc ms free) (cw : vx_CSW R s args own index y bytes maxL ret hh ws rm mc ms n) (hp : PreS s H Pc As)
    (hg : g.method = m) (hn : As.length = n) (hsize : g.locals.size = nL) (hstack : g.stack = As.reverse ++ rest) (hW : 2 * g.monitorRoom + (rest.map fun v => v.category).sum ≤ 8) (hdg : decode cc g.pc = .ok (.invokestatic index, 3)) (hf : cells + mc ≤ R.cells ∧ slots + ms ≤ R.slots) :
    va_Run p l e R s m args below meth c H locs cells slots mc ms g rest (Qc As.toArray) (free) := by
  obtain ⟨⟨hrc, hrs, hfr, hlo, hws, hcw⟩, hcode, hini, hy, hlen, hl, hstt⟩ := cw
  have hK : Back l R p e below s args y 3 8 (PreOf R mc ms Pc) (PostOf Qc mc ms free) := va_backW (hh := hh) (bytes := bytes) (maxL := maxL) (ret := ret) hM hp.1 hrc hrs hfr hlo hws hcw (fun a' U hW => word_at hW (Or.inl (by first | rfl | simp [Cond.onTables, Cond.keeps, Cond.steady])) hini)
  obtain ⟨hx, hb, hml, ho, -⟩ := S
  intro T hT X
  obtain ⟨v, vm₁, ⟨U', l2, c2, s2⟩, hW₁, X', ⟨g', mk, t, L, e1, e2, hq, h1, hL, h2, h3⟩, st⟩ := vx_callSW X hx (hh := hh) (bytes := bytes) (maxL := maxL) (ret := ret) ho hl hstt hini hcode hy hK hg (hsize.trans hml.symm) (argsL := As) (rest := rest) (fun sig h => hn.trans (hlen sig h)) hstack hW (by rw [hb]; exact hdg)
    (fun vm₁ hW₁ => ⟨hf.1, hf.2, hp.2 (T.setVm vm₁) hT hW₁⟩)
  dsimp only [Pt.U, Pt.locs, Pt.cells, Pt.slots] at X' e1 e2 h1 h2 h3 st
  subst h1; subst h2; subst h3
  exact ⟨v, (T.setVm vm₁).calling g' mk As.toArray, t, U', L, hT, X', hL, e1, e2, hq, st⟩
/-- not caught here, past rows that name other classes: it goes on to the caller -/
theorem vx_outP {p : Program} {l : Launch} {e : Env} {R : Room} {s : State} {m : MethodId} {args : Array Value} {below : List Frame} {meth : Method} {c : Code} {H : Heap} {locs : List Loc} {cells slots : Nat} {free : Addr → Prop} {ls : Array Slot} {rest : List Value} {Qc : Array Value → State → Outcome → State → Prop} {XC : String → State → State → Prop}
    {pc : Nat} {own E : String} {ce : Cell} {q : Addr} {mc ms : Nat} (hown : s.vm.findClass own = some m.cls) (hlocks : meth.locks = false)
    (hpass : ∀ z ∈ c.exceptionTable.toList, covers z pc = false ∨ (z.catchType ≠ 0 ∧ ∃ nm : String, (Cond.classLink own z.catchType nm).before args s = true ∧ va_Nc E nm s)) (hcell : H[q]? = some ce) (hv : ce.vm = .none) (hcl : s.vm.findClass E = some ce.cls)
    (hx : ∀ t : State, t.heap = H → s.vm.Alike t.vm → XC E s t) (hf : ∀ z ∈ locs, free z.base) (hc : cells ≤ mc) (hs : slots ≤ ms) :
    vx_W p l e R s m args below meth c H locs cells slots (vx_MQ below Qc XC args s mc ms free) (F0 m pc ls rest) q := by
  intro T hT X
  have hpl : e.platform.magicAccessors = ({} : Platform).magicAccessors := by rw [X.admits.platform]
  obtain ⟨vm', hW', X', st⟩ := X.outThrough hlocks q (g := F0 m pc ls rest) rfl rfl rfl (cell := ce) (by rw [hT]; exact hcell) (by rw [hv]; rfl)
    (by obtain ⟨k9, h9, -⟩ := Vm.findClass_spec hcl; exact ⟨k9, h9⟩) (fun z hz => by
      rcases hpass z hz with h | ⟨hz0, nm, hl1, hn1⟩
      · exact Or.inl h
      · obtain ⟨c6, hc6, hcl6⟩ := Cond.classLink_spec hown hl1 e.platform hpl
        obtain ⟨a8, b8, h1, h2, h3⟩ := hn1
        cases Option.some.inj (h1.symm.trans hcl)
        cases Option.some.inj (h2.symm.trans hc6)
        exact Or.inr ⟨hz0, _, hcl6, h3⟩)
  obtain ⟨g₀, hfr⟩ := X'.frames_eq
  have hcell9 : ((T.setVm vm').setFrames (.throwing q :: below)).heap[q]? = some ce := by
    show T.heap[q]? = some ce
    rw [hT]; exact hcell
  have hend : Ended ((T.setVm vm').setFrames (.throwing q :: below)) below (.threw q) := State.frames_setFrames _ (State.cur_lt_of_frames hfr)
  refine ⟨(T.setVm vm').setFrames (.throwing q :: below), ?_, .threw q, X'.here.running, hend, Or.inr ⟨q, rfl, E, ce, locs, hx _ hT (X'.ends _).1.alike, hcell9, hv, hcl, (X'.ends _).1, (X'.ends _).2.mono hc hs, hf⟩⟩
  rw [X.pushThrowing_eq]
  exact st
/-- a thing of a world lies in the heap -/
theorem vx_lt {D : va_G} {cl : List vw_C} {ws : va_W} {H1 : Heap} (h : va_P D cl ws H1) {k : Nat} {q : Nat × va_E} (hk : ws[k]? = some q) : q.1 < H1.size := (h k q hk).lt
end VXS
/-! ===== END ===== -/
/-! ===== BEGIN methods with a table of their own: called by a name, returning or throwing ===== -/
section VXH
/-! vx_backW, vx_callVX, vx_callSX, vx_callVW, vx_runVW, vx_runVX, vx_runSX, vx_ofWH follow the same proofs as their sisters above (Free/Laws.lean, Shelf42/LK1.lean); vx_outP calls Shelf42/NT130.lean (outThrough). -/
section
variable {l : Launch} {R : Room} {p : Program} {e : Env} {below : List Frame} {s : State} {sargs : Array Value} {y : MethodName} {len W9 : Nat}
theorem vx_backW {ws : List Cond} {rm : Room} {Pc : Array Value → State → Prop} {Qc : Array Value → State → Outcome → State → Prop} {XC : String → State → State → Prop} {mc ms : Nat} {free : Addr → Prop} {bytes : ByteArray} {maxL : Nat} {ret : Option FieldType} {hh : List (Nat × Nat × Nat × Nat)}
    (hM : vx_Met l y ws rm Pc Qc XC mc ms free) (hblind : FrameBlind Pc) (hrc : rm.cells = mc) (hrs : rm.slots = ms)
    (hframes : rm.frames + 1 ≤ R.frames) (hlocals : W9 + (maxL + 11) + rm.locals ≤ R.locals)
    (hws : ∀ w ∈ ws, ∀ a' U, s.WarmedH U.vm → w.before a' U = true) (hcode : Cond.codeWith y bytes maxL ret hh ∈ ws) (hinit : ∀ a' U, s.WarmedH U.vm → (Cond.initialized y.cls).before a' U = true) :
    vx_Back l R p e below s sargs y len W9 (PreOf R mc ms Pc) (PostOf Qc mc ms free) (vx_Post XC mc ms free) := by
  intro m meth c A g ig mk a X hg hsize hdg hW hn hp
  have h1 : (headSpec ws rm).pre.before a A.U = true := atoms_intro fun w hw => hws w hw _ _ X.warmed
  have h2 : (Cond.codeWith y bytes maxL ret hh).before a A.U = true := hws _ hcode _ _ X.warmed
  have h3 : (Cond.initialized y.cls).before a A.U = true := hinit _ _ X.warmed
  have h4 : A.cells + (headSpec ws rm).room.cells ≤ R.cells := by rw [show (headSpec ws rm).room.cells = mc from hrc]; exact hp.1
  have h5 : A.slots + (headSpec ws rm).room.slots ≤ R.slots := by rw [show (headSpec ws rm).room.slots = ms from hrs]; exact hp.2.1
  have hPc : Pc a (A.U.calling g mk a) := hblind _ _ _ _ hp.2.2
  obtain ⟨U, Ls, c0, s0⟩ := A
  dsimp only [Pt.U, Pt.locs, Pt.cells, Pt.slots] at h1 h2 h3 h4 h5 X hn hPc ⊢
  obtain ⟨m9, methY, cY, hn9, hmY, hcY, -, hlY, -⟩ := Cond.codeWith_spec h2
  cases Option.some.inj (hn9.symm.trans hn)
  obtain ⟨kY, hkY, -⟩ := className_of_methodNamed hn
  have hinitY : kY.init = .initialized := Cond.initialized_spec (findClass_of_methodNamed hn) hkY h3
  have h : At U g.method c below := by rw [hg]; exact X.here
  have hlocals9 : W9 + (maxL + 11) + (headSpec ws rm).room.locals ≤ R.locals := hlocals
  have happ : (headSpec ws rm).appliesLoose y e.platform (U.calling g mk a) = true :=
    Spec.appliesLoose_calling (g := g) h hdg hn hkY hinitY
      (X.room_calling (g := g) (R' := (headSpec ws rm).room) hsize hmY hcY hframes (by rw [hlY]; omega) h4 h5) h1
  obtain ⟨mid, hmid⟩ := h.above
  have hfr : (U.setTop g).frames = (.java g :: mid) ++ below := by rw [State.frames_setTop' g h.top, hmid]; rfl
  obtain ⟨o, s₂, hsteps, -, hend, hq⟩ := Steps.callFree hM p X.admits X.cas X.clock (acts := []) hfr happ hPc trivial
  have hq' : vx_Q Qc XC mc ms free a (U.calling g mk a) o s₂ := hq
  rw [State.frames_setTop' g h.top] at hend
  obtain ⟨g₀, hg0⟩ := Option.isSome_iff_exists.mp h.top
  obtain ⟨r, hr⟩ := State.topJava?_eq_some.mp hg0
  have hr' : (({ U with heap := s₂.heap, slotsUsed := s₂.slotsUsed } : State).setVm s₂.vm).frames = .java g₀ :: r := hr
  rcases hq' with ⟨hqc, L, hfe, hL⟩ | ⟨q, rfl, E, ce, L, hx, hce, hcv, hcl, hW₂, hsm, hL⟩
  · obtain ⟨⟨v, rfl⟩, hW₂, e2, q2, q3, q4, q5, q6⟩ := id hfe
    have e3 : s₂ = ({ (U.calling g mk a).setFrames s₂.frames with heap := s₂.heap, slotsUsed := s₂.slotsUsed } : State).setVm s₂.vm := by
      have : s₂ = ({ s₂ with vm := (U.calling g mk a).vm } : State).setVm s₂.vm := rfl
      rw [e2] at this
      exact this
    obtain ⟨c₂, i₂, len₂, hc₂, hd₂, hf₂⟩ := hend
    have hW' : U.WarmedH s₂.vm := hW₂
    have hcc : c₂ = c := by
      have h1 : s₂.code? g.method = U.code? g.method := by
        rw [State.code?_eq, State.code?_eq, hW'.alike.method?]
      exact Option.some.inj (hc₂.symm.trans (h1.trans h.code))
    subst hcc
    have hlen : len₂ = len := by rw [hdg] at hd₂; cases hd₂; rfl
    subst hlen
    have hs₂ : s₂ = (({ U with heap := s₂.heap, slotsUsed := s₂.slotsUsed } : State).setVm s₂.vm).setTop { g with pc := g.pc + len₂, stack := v.toList ++ g.stack } := by
      refine e3.trans ?_
      rw [hf₂, State.calling_eq h.top, State.setFrames_setFrames, State.setTop_of_frames _ hr', hr]
      rfl
    have hsame : U.sameButNew ({ U with heap := s₂.heap, slotsUsed := s₂.slotsUsed } : State) L mc ms := by
      refine ⟨?_, q2, q3, q4, q5, q6⟩
      obtain ⟨t, ht, -⟩ := State.frames_cons hr
      show ({ U with heap := s₂.heap, slotsUsed := s₂.slotsUsed } : State) = { U.setFrames U.frames with heap := s₂.heap, slotsUsed := s₂.slotsUsed }
      rw [State.setFrames_self ht]
    subst hg
    refine Or.inl ⟨v, ⟨(({ U with heap := s₂.heap, slotsUsed := s₂.slotsUsed } : State).setVm s₂.vm), Ls ++ L, c0 + mc, s0 + ms⟩,
      ⟨X.admits, X.cas, X.clock, X.frames, X.room, X.hears, X.method, X.code, (X.here.setHeapUsed s₂.heap s₂.slotsUsed).setVm hW'.alike, X.tail, State.WarmedH.trans X.warmed hW', X.limits, X.bytes, X.same.trans (hsame.setVm s.vm)⟩,
      ⟨g, mk, s₂, L, rfl, rfl, hqc, rfl, hL, rfl, rfl⟩, ?_⟩
    show Steps p.tables e below _ ((({ U with heap := s₂.heap, slotsUsed := s₂.slotsUsed } : State).setVm s₂.vm).setTop { g with pc := g.pc + len₂, stack := v.toList ++ g.stack })
    rw [← hs₂]
    exact hsteps
  · obtain ⟨e2, q2, q3, q4, q5, q6⟩ := id hsm
    have e3 : s₂ = ({ (U.calling g mk a).setFrames s₂.frames with heap := s₂.heap, slotsUsed := s₂.slotsUsed } : State).setVm s₂.vm := by
      have : s₂ = ({ s₂ with vm := (U.calling g mk a).vm } : State).setVm s₂.vm := rfl
      rw [e2] at this
      exact this
    have hf₂ : s₂.frames = .throwing q :: .java g :: U.frames.tail := hend
    have hW' : U.WarmedH s₂.vm := hW₂
    have hs₂ : s₂ = ((({ U with heap := s₂.heap, slotsUsed := s₂.slotsUsed } : State).setVm s₂.vm).setTop g).pushFrame (.throwing q) := by
      refine e3.trans ?_
      rw [hf₂, State.calling_eq h.top, State.setFrames_setFrames, State.pushFrame, State.frames_setTop _ hr', State.setTop_of_frames _ hr', State.setFrames_setFrames, hr]
      rfl
    have hsame : U.sameButNew ({ U with heap := s₂.heap, slotsUsed := s₂.slotsUsed } : State) L mc ms := by
      refine ⟨?_, q2, q3, q4, q5, q6⟩
      obtain ⟨t, ht, -⟩ := State.frames_cons hr
      show ({ U with heap := s₂.heap, slotsUsed := s₂.slotsUsed } : State) = { U.setFrames U.frames with heap := s₂.heap, slotsUsed := s₂.slotsUsed }
      rw [State.setFrames_self ht]
    subst hg
    refine Or.inr ⟨q, ⟨(({ U with heap := s₂.heap, slotsUsed := s₂.slotsUsed } : State).setVm s₂.vm), Ls ++ L, c0 + mc, s0 + ms⟩,
      ⟨X.admits, X.cas, X.clock, X.frames, X.room, X.hears, X.method, X.code, (X.here.setHeapUsed s₂.heap s₂.slotsUsed).setVm hW'.alike, X.tail, State.WarmedH.trans X.warmed hW', X.limits, X.bytes, X.same.trans (hsame.setVm s.vm)⟩,
      ⟨g, mk, s₂, L, E, ce, rfl, rfl, hx, hce, hcv, hcl, rfl, hL, rfl, rfl⟩, ?_⟩
    show Steps p.tables e below _ (((({ U with heap := s₂.heap, slotsUsed := s₂.slotsUsed } : State).setVm s₂.vm).setTop g).pushFrame (.throwing q))
    rw [← hs₂]
    exact hsteps
end
variable {p : Program} {l : Launch} {e : Env} {R : Room} {s : State} {m : MethodId} {args : Array Value} {below : List Frame} {meth : Method} {c : Code} {T : State} {H : Heap} {locs : List Loc} {cells slots : Nat}
theorem vx_callVX (X : Stand p l e R s m args below meth c T locs cells slots) (hexec : p.tables.exec = Jvm.exec) {own C : String} {index : Nat} {y : MethodName} {bytes : ByteArray} {maxL : Nat} {ret : Option FieldType} {hh : List (Nat × Nat × Nat × Nat)}
    (hown : s.vm.findClass own = some m.cls) (hlink : (Cond.methodLink own index y).before args s = true) (hinst : (Cond.instanceMethod y).before args s = true) (hsel : (Cond.selects C y y).before args s = true)
    (hcode : (Cond.codeWith y bytes maxL ret hh).before args s = true) (hy : y.cls ≠ "java/lang/invoke/MethodHandle" ∧ y.cls ≠ "java/lang/invoke/VarHandle")
    {W9 : Nat} {Pre : Pt → Array Value → Prop} {Post : Pt → Array Value → Option Value → Pt → Prop} {PostX : Pt → Array Value → Addr → Pt → Prop} (hK : vx_Back l R p e below s args y 3 W9 Pre Post PostX)
    {b : Addr} {cellB : Cell} (hcell : T.heap[b]? = some cellB) (hobj : cellB.vm.isStatics = false) (hcls : s.vm.findClass C = some cellB.cls)
    {g : JFrame} (hg : g.method = m) (hsize : g.locals.size = c.maxLocals) {argsL rest : List Value} (hlen : ∀ sig, parseMethodDescriptor y.desc = some sig → argsL.length = sig.parameters.length)
    (hstack : g.stack = argsL.reverse ++ .ref b :: rest) (hW : 2 * g.monitorRoom + (rest.map fun v => v.category).sum ≤ W9) (hdg : decode c.code g.pc = .ok (.invokevirtual index, 3))
    (hpre : ∀ vm₁, s.WarmedH vm₁ → Pre ⟨T.setVm vm₁, locs, cells, slots⟩ (Value.ref b :: argsL).toArray) :
    (∃ (v : Option Value) (vm₁ : Vm) (B : Pt), s.WarmedH vm₁ ∧ Stand p l e R s m args below meth c B.U B.locs B.cells B.slots ∧ Post ⟨T.setVm vm₁, locs, cells, slots⟩ (Value.ref b :: argsL).toArray v B ∧
      ∀ target, Steps p.tables e below (B.U.setTop { g with pc := g.pc + 3, stack := v.toList ++ rest }) target → Steps p.tables e below (T.setTop g) target) ∨
    (∃ (q : Addr) (vm₁ : Vm) (B : Pt), s.WarmedH vm₁ ∧ Stand p l e R s m args below meth c B.U B.locs B.cells B.slots ∧ PostX ⟨T.setVm vm₁, locs, cells, slots⟩ (Value.ref b :: argsL).toArray q B ∧
      Steps p.tables e below (T.setTop g) ((B.U.setTop { g with stack := rest }).pushFrame (.throwing q))) := by
  obtain ⟨mk, methM, hnamed, hmethM, hstM, habM⟩ := Cond.instanceMethod_spec hinst
  obtain ⟨m8, methM', cM, hn8, hmethM', -, -, -, -, -, -, hsigM⟩ := Cond.codeWith_spec hcode
  cases Option.some.inj (hn8.symm.trans hnamed)
  cases hmethM.symm.trans hmethM'
  obtain ⟨c2, r2, m2, q1, q2, q3, q4, kP, hkP, hkPi⟩ := Cond.selects_spec hsel
  cases hcls.symm.trans q1
  cases (State.methodFound?_of_named hnamed hy).symm.trans q2
  cases hnamed.symm.trans q3
  have hselP : selectMethod e.platform s.vm cellB.cls mk = .method mk := by rw [Launch.admits_selectMethod X.admits]; exact q4
  obtain ⟨vm₁, X₁, hstep₁⟩ := X.invokevirtual hexec hown hlink hnamed hmethM hstM hkP hkPi hy (a := b) (cell := cellB) hcell
    (fun z h => by rw [h] at hobj; cases hobj) hselP hmethM habM hkP hkPi (g := g) hg (argsL := argsL) (rest := rest) (hlen _ hsigM) hstack hdg
  rcases hK m meth c ⟨T.setVm vm₁, locs, cells, slots⟩ { g with stack := rest } (.invokevirtual index) mk (Value.ref b :: argsL).toArray X₁ hg hsize hdg hW (X₁.named hnamed) (hpre vm₁ X₁.warmed) with ⟨v, B, X', hpost, hsteps⟩ | ⟨q, B, X', hpost, hsteps⟩
  · exact Or.inl ⟨v, vm₁, B, X₁.warmed, X', hpost, fun target h => hstep₁ _ fun acts => by rw [doInvoke_state]; exact hsteps.trans h⟩
  · exact Or.inr ⟨q, vm₁, B, X₁.warmed, X', hpost, hstep₁ _ fun acts => by rw [doInvoke_state]; exact hsteps⟩
theorem vx_callSX (X : Stand p l e R s m args below meth c T locs cells slots) (hexec : p.tables.exec = Jvm.exec) {own : String} {index : Nat} {y : MethodName} {bytes : ByteArray} {maxL : Nat} {ret : Option FieldType} {hh : List (Nat × Nat × Nat × Nat)}
    (hown : s.vm.findClass own = some m.cls) (hlink : (Cond.methodLink own index y).before args s = true) (hstat : (Cond.static y).before args s = true) (hinit : (Cond.initialized y.cls).before args s = true)
    (hcode : (Cond.codeWith y bytes maxL ret hh).before args s = true) (hy : y.cls ≠ "java/lang/invoke/MethodHandle" ∧ y.cls ≠ "java/lang/invoke/VarHandle")
    {W9 : Nat} {Pre : Pt → Array Value → Prop} {Post : Pt → Array Value → Option Value → Pt → Prop} {PostX : Pt → Array Value → Addr → Pt → Prop} (hK : vx_Back l R p e below s args y 3 W9 Pre Post PostX)
    {g : JFrame} (hg : g.method = m) (hsize : g.locals.size = c.maxLocals) {argsL rest : List Value} (hlen : ∀ sig, parseMethodDescriptor y.desc = some sig → argsL.length = sig.parameters.length)
    (hstack : g.stack = argsL.reverse ++ rest) (hW : 2 * g.monitorRoom + (rest.map fun v => v.category).sum ≤ W9) (hdg : decode c.code g.pc = .ok (.invokestatic index, 3))
    (hpre : ∀ vm₁, s.WarmedH vm₁ → Pre ⟨T.setVm vm₁, locs, cells, slots⟩ argsL.toArray) :
    (∃ (v : Option Value) (vm₁ : Vm) (B : Pt), s.WarmedH vm₁ ∧ Stand p l e R s m args below meth c B.U B.locs B.cells B.slots ∧ Post ⟨T.setVm vm₁, locs, cells, slots⟩ argsL.toArray v B ∧
      ∀ target, Steps p.tables e below (B.U.setTop { g with pc := g.pc + 3, stack := v.toList ++ rest }) target → Steps p.tables e below (T.setTop g) target) ∨
    (∃ (q : Addr) (vm₁ : Vm) (B : Pt), s.WarmedH vm₁ ∧ Stand p l e R s m args below meth c B.U B.locs B.cells B.slots ∧ PostX ⟨T.setVm vm₁, locs, cells, slots⟩ argsL.toArray q B ∧
      Steps p.tables e below (T.setTop g) ((B.U.setTop { g with stack := rest }).pushFrame (.throwing q))) := by
  obtain ⟨mk, methM, cM, hnamed, hmethM, -, -, -, -, -, -, hsigM⟩ := Cond.codeWith_spec hcode
  have hstatic : methM.isStatic = true := Cond.static_spec hnamed hmethM hstat
  obtain ⟨kP, hkP, -⟩ := className_of_methodNamed hnamed
  have hinitP : kP.init = .initialized := Cond.initialized_spec (findClass_of_methodNamed hnamed) hkP hinit
  obtain ⟨vm₁, X₁, hstep₁⟩ := X.invokestatic hexec hown hlink hnamed hmethM hstatic hkP hinitP hy (g := g) hg (argsL := argsL) (rest := rest) (hlen _ hsigM) hstack hdg
  rcases hK m meth c ⟨T.setVm vm₁, locs, cells, slots⟩ { g with stack := rest } (.invokestatic index) mk argsL.toArray X₁ hg hsize hdg hW (X₁.named hnamed) (hpre vm₁ X₁.warmed) with ⟨v, B, X', hpost, hsteps⟩ | ⟨q, B, X', hpost, hsteps⟩
  · exact Or.inl ⟨v, vm₁, B, X₁.warmed, X', hpost, fun target h => hstep₁ _ fun acts => by rw [doInvoke_state]; exact hsteps.trans h⟩
  · exact Or.inr ⟨q, vm₁, B, X₁.warmed, X', hpost, hstep₁ _ fun acts => by rw [doInvoke_state]; exact hsteps⟩
theorem vx_callVW (X : Stand p l e R s m args below meth c T locs cells slots) (hexec : p.tables.exec = Jvm.exec) {own C : String} {index : Nat} {y : MethodName} {bytes : ByteArray} {maxL : Nat} {ret : Option FieldType} {hh : List (Nat × Nat × Nat × Nat)}
    (hown : s.vm.findClass own = some m.cls) (hlink : (Cond.methodLink own index y).before args s = true) (hinst : (Cond.instanceMethod y).before args s = true) (hsel : (Cond.selects C y y).before args s = true)
    (hcode : (Cond.codeWith y bytes maxL ret hh).before args s = true) (hy : y.cls ≠ "java/lang/invoke/MethodHandle" ∧ y.cls ≠ "java/lang/invoke/VarHandle")
    {W9 : Nat} {Pre : Pt → Array Value → Prop} {Post : Pt → Array Value → Option Value → Pt → Prop} (hK : Back l R p e below s args y 3 W9 Pre Post)
    {b : Addr} {cellB : Cell} (hcell : T.heap[b]? = some cellB) (hobj : cellB.vm.isStatics = false) (hcls : s.vm.findClass C = some cellB.cls)
    {g : JFrame} (hg : g.method = m) (hsize : g.locals.size = c.maxLocals) {argsL rest : List Value} (hlen : ∀ sig, parseMethodDescriptor y.desc = some sig → argsL.length = sig.parameters.length)
    (hstack : g.stack = argsL.reverse ++ .ref b :: rest) (hW : 2 * g.monitorRoom + (rest.map fun v => v.category).sum ≤ W9) (hdg : decode c.code g.pc = .ok (.invokevirtual index, 3))
    (hpre : ∀ vm₁, s.WarmedH vm₁ → Pre ⟨T.setVm vm₁, locs, cells, slots⟩ (Value.ref b :: argsL).toArray) :
    ∃ (v : Option Value) (vm₁ : Vm) (B : Pt), s.WarmedH vm₁ ∧ Stand p l e R s m args below meth c B.U B.locs B.cells B.slots ∧ Post ⟨T.setVm vm₁, locs, cells, slots⟩ (Value.ref b :: argsL).toArray v B ∧
      ∀ target, Steps p.tables e below (B.U.setTop { g with pc := g.pc + 3, stack := v.toList ++ rest }) target → Steps p.tables e below (T.setTop g) target := by
  obtain ⟨mk, methM, hnamed, hmethM, hstM, habM⟩ := Cond.instanceMethod_spec hinst
  obtain ⟨m8, methM', cM, hn8, hmethM', -, -, -, -, -, -, hsigM⟩ := Cond.codeWith_spec hcode
  cases Option.some.inj (hn8.symm.trans hnamed)
  cases hmethM.symm.trans hmethM'
  obtain ⟨c2, r2, m2, q1, q2, q3, q4, kP, hkP, hkPi⟩ := Cond.selects_spec hsel
  cases hcls.symm.trans q1
  cases (State.methodFound?_of_named hnamed hy).symm.trans q2
  cases hnamed.symm.trans q3
  have hselP : selectMethod e.platform s.vm cellB.cls mk = .method mk := by rw [Launch.admits_selectMethod X.admits]; exact q4
  obtain ⟨vm₁, X₁, hstep₁⟩ := X.invokevirtual hexec hown hlink hnamed hmethM hstM hkP hkPi hy (a := b) (cell := cellB) hcell
    (fun z h => by rw [h] at hobj; cases hobj) hselP hmethM habM hkP hkPi (g := g) hg (argsL := argsL) (rest := rest) (hlen _ hsigM) hstack hdg
  obtain ⟨v, B, X', hpost, hsteps⟩ := hK m meth c ⟨T.setVm vm₁, locs, cells, slots⟩ { g with stack := rest } (.invokevirtual index) mk (Value.ref b :: argsL).toArray X₁ hg hsize hdg hW (X₁.named hnamed) (hpre vm₁ X₁.warmed)
  exact ⟨v, vm₁, B, X₁.warmed, X', hpost, fun target h => hstep₁ _ fun acts => by rw [doInvoke_state]; exact hsteps.trans h⟩
abbrev vx_CVW (R : Room) (s : State) (args : Array Value) (own C : String) (index : Nat) (y : MethodName) (bytes : ByteArray) (maxL : Nat) (ret : Option FieldType) (hh : List (Nat × Nat × Nat × Nat)) (ws : List Cond) (rm : Room) (mc ms n : Nat) : Prop :=
  (rm.cells = mc ∧ rm.slots = ms ∧ rm.frames + 1 ≤ R.frames ∧ 8 + (maxL + 11) + rm.locals ≤ R.locals ∧ (∀ w ∈ ws, ∀ (a' : Array Value) (U : State), s.WarmedH U.vm → w.before a' U = true) ∧ Cond.codeWith y bytes maxL ret hh ∈ ws) ∧
  (Cond.codeWith y bytes maxL ret hh).before args s = true ∧ (Cond.initialized y.cls).before args s = true ∧ (y.cls ≠ "java/lang/invoke/MethodHandle" ∧ y.cls ≠ "java/lang/invoke/VarHandle") ∧
  (∀ sig, parseMethodDescriptor y.desc = some sig → n = sig.parameters.length) ∧ (Cond.methodLink own index y).before args s = true ∧ (Cond.instanceMethod y).before args s = true ∧ (Cond.selects C y y).before args s = true
theorem vx_cwVW {own C : String} {index maxL mc ms : Nat} {y : MethodName} {bytes : ByteArray} {ret : Option FieldType} {hh : List (Nat × Nat × Nat × Nat)} {Ts ws ws' : List Cond} {rm : Room} (n : Nat) (ht : ∀ w ∈ Ts, w.before args s = true) (hT : GoodIn Ts (wsV own index C y ws)) (hw : ws = Cond.codeWith y bytes maxL ret hh :: ws') (hrc : rm.cells = mc) (hrs : rm.slots = ms)
    (hd : y.cls = C ∧ y.cls ≠ "java/lang/invoke/MethodHandle" ∧ y.cls ≠ "java/lang/invoke/VarHandle" ∧ (parseMethodDescriptor y.desc).map (fun d => d.parameters.length) = some n) (hR : rm.frames + 1 ≤ R.frames ∧ 8 + (maxL + 11) + rm.locals ≤ R.locals) :
    vx_CVW R s args own C index y bytes maxL ret hh ws rm mc ms n := by
  obtain ⟨hC, hd⟩ := hd
  subst hC
  have ok : ∀ w ∈ wsV own index y.cls y ws, w.before args s = true := fun w h => ht w (hT w h).1
  have hG : GoodIn Ts ws := fun w h => hT w (by unfold wsV; exact List.mem_append_right _ h)
  have hc : Cond.codeWith y bytes maxL ret hh ∈ ws := by rw [hw]; exact List.mem_cons_self
  refine ⟨⟨hrc, hrs, hR.1, hR.2, pay_in ht hG, hc⟩, ht _ (hG _ hc).1, ok _ (by simp [wsV]), ⟨hd.1, hd.2.1⟩, fun sig h => ?_, ok _ (by simp [wsV]), ok _ (by simp [wsV]), ok _ (by simp [wsV])⟩
  have h2 := hd.2.2
  rw [h] at h2
  exact (Option.some.inj h2).symm
theorem vx_runVW {y : MethodName} {bytes cc : ByteArray} {maxL nL mc ms n index : Nat} {ret : Option FieldType} {hh : List (Nat × Nat × Nat × Nat)} {ws : List Cond} {rm : Room} {Pc : Array Value → State → Prop} {Qc : Array Value → State → Outcome → State → Prop} {free : Addr → Prop} {Ts : List Cond} {own C : String} {b : Addr} {As rest : List Value} {g : JFrame}
    (S : CallFix p m c cc nL s args Ts own) (hM : Met l y ws rm Pc Qc mc ms free) (cw : vx_CVW R s args own C index y bytes maxL ret hh ws rm mc ms n) (hp : PreV s H C b Pc As)
    (hg : g.method = m) (hn : As.length = n) (hsize : g.locals.size = nL) (hstack : g.stack = As.reverse ++ .ref b :: rest) (hW : 2 * g.monitorRoom + (rest.map fun v => v.category).sum ≤ 8) (hdg : decode cc g.pc = .ok (.invokevirtual index, 3)) (hf : cells + mc ≤ R.cells ∧ slots + ms ≤ R.slots) :
    va_Run p l e R s m args below meth c H locs cells slots mc ms g rest (Qc (Value.ref b :: As).toArray) free := by
  obtain ⟨⟨hrc, hrs, hfr, hlo, hws, hcw⟩, hcode, hini, hy, hlen, hl, hin, hse⟩ := cw
  have hK : Back l R p e below s args y 3 8 (PreOf R mc ms Pc) (PostOf Qc mc ms free) := va_backW (hh := hh) (bytes := bytes) (maxL := maxL) (ret := ret) hM hp.1 hrc hrs hfr hlo hws hcw (fun a' U hW => word_at hW (Or.inl (by first | rfl | simp [Cond.onTables, Cond.keeps, Cond.steady])) hini)
  obtain ⟨hx, hb, hml, ho, -⟩ := S
  obtain ⟨-, ⟨cellB, hcB, hoB, hclB⟩, hPc⟩ := hp
  intro T hT X
  obtain ⟨v, vm₁, ⟨U', l2, c2, s2⟩, hW₁, X', ⟨g', mk, t, L, e1, e2, hq, h1, hL, h2, h3⟩, st⟩ := vx_callVW X hx (C := C) (hh := hh) (bytes := bytes) (maxL := maxL) (ret := ret) ho hl hin hse hcode hy hK (by rw [hT]; exact hcB) hoB hclB hg (hsize.trans hml.symm) (argsL := As) (rest := rest) (fun sig h => hn.trans (hlen sig h)) hstack hW (by rw [hb]; exact hdg)
    (fun vm₁ hW₁ => ⟨hf.1, hf.2, hPc (T.setVm vm₁) hT hW₁⟩)
  dsimp only [Pt.U, Pt.locs, Pt.cells, Pt.slots] at X' e1 e2 h1 h2 h3 st
  subst h1; subst h2; subst h3
  exact ⟨v, (T.setVm vm₁).calling g' mk (Value.ref b :: As).toArray, t, U', L, hT, X', hL, e1, e2, hq, st⟩
section
variable {y : MethodName} {bytes cc : ByteArray} {maxL nL mc ms n index : Nat} {ret : Option FieldType} {ws : List Cond} {rm : Room} {Pc : Array Value → State → Prop} {Qc : Array Value → State → Outcome → State → Prop} {XC : String → State → State → Prop} {free : Addr → Prop} {Ts : List Cond} {own C : String} {b : Addr} {As rest : List Value} {g : JFrame}
theorem vx_runVX {hh : List (Nat × Nat × Nat × Nat)} (S : CallFix p m c cc nL s args Ts own) (hM : vx_Met l y ws rm Pc Qc XC mc ms free) (cw : vx_CVW R s args own C index y bytes maxL ret hh ws rm mc ms n) (hp : PreV s H C b Pc As)
    (hg : g.method = m) (hn : As.length = n) (hsize : g.locals.size = nL) (hstack : g.stack = As.reverse ++ .ref b :: rest) (hW : 2 * g.monitorRoom + (rest.map fun v => v.category).sum ≤ 8) (hdg : decode cc g.pc = .ok (.invokevirtual index, 3)) (hf : cells + mc ≤ R.cells ∧ slots + ms ≤ R.slots) :
    vx_Run p l e R s m args below meth c H locs cells slots mc ms g rest (Qc (Value.ref b :: As).toArray) XC free := by
  obtain ⟨⟨hrc, hrs, hfr, hlo, hws, hcw⟩, hcode, hini, hy, hlen, hl, hin, hse⟩ := cw
  have hK : vx_Back l R p e below s args y 3 8 (PreOf R mc ms Pc) (PostOf Qc mc ms free) (vx_Post XC mc ms free) := vx_backW (hh := hh) (bytes := bytes) (maxL := maxL) (ret := ret) hM hp.1 hrc hrs hfr hlo hws hcw (fun a' U hW => word_at hW (Or.inl (by first | rfl | simp [Cond.onTables, Cond.keeps, Cond.steady])) hini)
  obtain ⟨hx, hb, hml, ho, -⟩ := S
  obtain ⟨-, ⟨cellB, hcB, hoB, hclB⟩, hPc⟩ := hp
  intro T hT X
  rcases vx_callVX X hx (C := C) (hh := hh) (bytes := bytes) (maxL := maxL) (ret := ret) ho hl hin hse hcode hy hK (by rw [hT]; exact hcB) hoB hclB hg (hsize.trans hml.symm) (argsL := As) (rest := rest) (fun sig h => hn.trans (hlen sig h)) hstack hW (by rw [hb]; exact hdg)
    (fun vm₁ hW₁ => ⟨hf.1, hf.2, hPc (T.setVm vm₁) hT hW₁⟩) with ⟨v, vm₁, ⟨U', l2, c2, s2⟩, hW₁, X', ⟨g', mk, t, L, e1, e2, hq, h1, hL, h2, h3⟩, st⟩ | ⟨q, vm₁, ⟨U', l2, c2, s2⟩, hW₁, X', ⟨g', mk, t, L, E, ce, e1, e2, hq, hce, hcv, hcl, h1, hL, h2, h3⟩, st⟩
  · dsimp only [Pt.U, Pt.locs, Pt.cells, Pt.slots] at X' e1 e2 h1 h2 h3 st
    subst h1; subst h2; subst h3
    exact Or.inl ⟨v, (T.setVm vm₁).calling g' mk (Value.ref b :: As).toArray, t, U', L, hT, X', hL, e1, e2, hq, st⟩
  · dsimp only [Pt.U, Pt.locs, Pt.cells, Pt.slots] at X' e1 e2 h1 h2 h3 st hcl
    subst h1; subst h2; subst h3
    exact Or.inr ⟨q, (T.setVm vm₁).calling g' mk (Value.ref b :: As).toArray, t, U', L, E, ce, hT, X', hL, e1, e2, hq, hce, hcv, vx_cls hW₁ hcl, st⟩
theorem vx_runSX {hh : List (Nat × Nat × Nat × Nat)} (S : CallFix p m c cc nL s args Ts own) (hM : vx_Met l y ws rm Pc Qc XC mc ms free) (cw : vx_CSW R s args own index y bytes maxL ret hh ws rm mc ms n) (hp : PreS s H Pc As)
    (hg : g.method = m) (hn : As.length = n) (hsize : g.locals.size = nL) (hstack : g.stack = As.reverse ++ rest) (hW : 2 * g.monitorRoom + (rest.map fun v => v.category).sum ≤ 8) (hdg : decode cc g.pc = .ok (.invokestatic index, 3)) (hf : cells + mc ≤ R.cells ∧ slots + ms ≤ R.slots) :
    vx_Run p l e R s m args below meth c H locs cells slots mc ms g rest (Qc As.toArray) XC free := by
  obtain ⟨⟨hrc, hrs, hfr, hlo, hws, hcw⟩, hcode, hini, hy, hlen, hl, hstt⟩ := cw
  have hK : vx_Back l R p e below s args y 3 8 (PreOf R mc ms Pc) (PostOf Qc mc ms free) (vx_Post XC mc ms free) := vx_backW (hh := hh) (bytes := bytes) (maxL := maxL) (ret := ret) hM hp.1 hrc hrs hfr hlo hws hcw (fun a' U hW => word_at hW (Or.inl (by first | rfl | simp [Cond.onTables, Cond.keeps, Cond.steady])) hini)
  obtain ⟨hx, hb, hml, ho, -⟩ := S
  intro T hT X
  rcases vx_callSX X hx (hh := hh) (bytes := bytes) (maxL := maxL) (ret := ret) ho hl hstt hini hcode hy hK hg (hsize.trans hml.symm) (argsL := As) (rest := rest) (fun sig h => hn.trans (hlen sig h)) hstack hW (by rw [hb]; exact hdg)
    (fun vm₁ hW₁ => ⟨hf.1, hf.2, hp.2 (T.setVm vm₁) hT hW₁⟩) with ⟨v, vm₁, ⟨U', l2, c2, s2⟩, hW₁, X', ⟨g', mk, t, L, e1, e2, hq, h1, hL, h2, h3⟩, st⟩ | ⟨q, vm₁, ⟨U', l2, c2, s2⟩, hW₁, X', ⟨g', mk, t, L, E, ce, e1, e2, hq, hce, hcv, hcl, h1, hL, h2, h3⟩, st⟩
  · dsimp only [Pt.U, Pt.locs, Pt.cells, Pt.slots] at X' e1 e2 h1 h2 h3 st
    subst h1; subst h2; subst h3
    exact Or.inl ⟨v, (T.setVm vm₁).calling g' mk As.toArray, t, U', L, hT, X', hL, e1, e2, hq, st⟩
  · dsimp only [Pt.U, Pt.locs, Pt.cells, Pt.slots] at X' e1 e2 h1 h2 h3 st hcl
    subst h1; subst h2; subst h3
    exact Or.inr ⟨q, (T.setVm vm₁).calling g' mk As.toArray, t, U', L, E, ce, hT, X', hL, e1, e2, hq, hce, hcv, vx_cls hW₁ hcl, st⟩
end
end VXH
theorem vx_ofWH {l : Launch} {y : MethodName} {ws ws' : List Cond} {rm : Room} {Pc : Array Value → State → Prop} {Qc : Array Value → State → Outcome → State → Prop} {XC : String → State → State → Prop} {mc ms : Nat} {free : Addr → Prop} {cc : ByteArray} {maxL : Nat} {ret : Option FieldType} {hh : List (Nat × Nat × Nat × Nat)}
    (hy : plainName y.cls = true) (hw : ws = Cond.codeWith y cc maxL ret hh :: ws')
    (body : ∀ p e s m args below meth c s₁, BodyLoose p l y (headSpec ws rm) cc maxL ret e s m args below meth c s₁ → c.maxLocals = maxL → Pc args s →
      W p l e (headSpec ws rm).room s m args below meth c s.heap [] 0 0 (vx_MQ below Qc XC args s mc ms free) (entryFrame m args maxL)) : vx_Met l y ws rm Pc Qc XC mc ms free := by
  refine MetFree.of_bodyS (code := cc) (maxLocals := maxL) (ret := ret) hy ?_ ?_
  · intro args s m h hn
    obtain ⟨m9, meth, c, hn9, h1, h2, h3, h4, -, h5, h6, -⟩ := Cond.codeWith_spec (atoms_spec (ws := ws) h _ (by rw [hw]; exact List.mem_cons_self))
    cases hn.symm.trans hn9
    exact ⟨meth, c, h1, h2, h3, h4, h5, h6⟩
  · intro p e s m args below meth c s₁ B hml hP _
    have hh0 : s₁.heap = s.heap := by rw [B.state]; rfl
    obtain ⟨t, a1, o, b1, b2, b3⟩ := body p e s m args below meth c s₁ B hml hP s₁ hh0 (Stand.of_body B)
    exact ⟨t, o, a1, b1, b2, b3⟩
/-! ===== END ===== -/

/-! ===== BEGIN a constructor that throws (launches without stack traces) ===== -/
section VXIA
variable {p : Program} {l : Launch} {e : Env} {R : Room} {s : State} {m : MethodId} {args : Array Value} {below : List Frame} {meth : Method} {c : Code} {T : State} {locs : List Loc} {cells slots : Nat}
theorem vx_callI (X : Stand p l e R s m args below meth c T locs cells slots) (hexec : p.tables.exec = Jvm.exec) {own : String} {index : Nat} {y : MethodName} {bytes : ByteArray} {maxL : Nat}
    (hown : s.vm.findClass own = some m.cls) (hy1 : y.name = "<init>") (hlink : (Cond.methodLink own index y).before args s = true) (hinst : (Cond.instanceMethod y).before args s = true)
    (hcode : (Cond.code y bytes maxL none).before args s = true) (hy : y.cls ≠ "java/lang/invoke/MethodHandle" ∧ y.cls ≠ "java/lang/invoke/VarHandle")
    {W9 : Nat} {Pre : Pt → Array Value → Prop} {Post : Pt → Array Value → Option Value → Pt → Prop} {PostX : Pt → Array Value → Addr → Pt → Prop} (hK : vx_Back l R p e below s args y 3 W9 Pre Post PostX)
    {g : JFrame} (hg : g.method = m) (hsize : g.locals.size = c.maxLocals) {a : Addr} {argsL rest : List Value} (hlen : ∀ sig, parseMethodDescriptor y.desc = some sig → argsL.length = sig.parameters.length)
    (hstack : g.stack = argsL.reverse ++ .ref a :: rest) (hW : 2 * g.monitorRoom + (rest.map fun v => v.category).sum ≤ W9) (hdg : decode c.code g.pc = .ok (.invokespecial index, 3))
    (hpre : ∀ vm₁, s.WarmedH vm₁ → Pre ⟨T.setVm vm₁, locs, cells, slots⟩ (Value.ref a :: argsL).toArray) :
    (∃ (v : Option Value) (vm₁ : Vm) (B : Pt), s.WarmedH vm₁ ∧ Stand p l e R s m args below meth c B.U B.locs B.cells B.slots ∧ Post ⟨T.setVm vm₁, locs, cells, slots⟩ (Value.ref a :: argsL).toArray v B ∧
      ∀ target, Steps p.tables e below (B.U.setTop { g with pc := g.pc + 3, stack := v.toList ++ rest }) target → Steps p.tables e below (T.setTop g) target) ∨
    (∃ (q : Addr) (vm₁ : Vm) (B : Pt), s.WarmedH vm₁ ∧ Stand p l e R s m args below meth c B.U B.locs B.cells B.slots ∧ PostX ⟨T.setVm vm₁, locs, cells, slots⟩ (Value.ref a :: argsL).toArray q B ∧
      Steps p.tables e below (T.setTop g) ((B.U.setTop { g with stack := rest }).pushFrame (.throwing q))) := by
  subst hg
  have hpl : e.platform.magicAccessors = ({} : Platform).magicAccessors := by rw [X.admits.platform]
  obtain ⟨mk, methM, cM, kP, vm₁, hnamed, hmethM, hcodeM, -, hlocalsM, -, hkP, -, hW₁, hstep₁⟩ := Steps.initColdArgs (e := e) X.here hexec X.warmed hpl hown hy1 hy hlink hinst hcode (f := g) rfl hlen hstack hdg
  have X₁ := X.noted hW₁
  rcases hK g.method meth c ⟨T.setVm vm₁, locs, cells, slots⟩ { g with stack := rest } (.invokespecial index) mk (Value.ref a :: argsL).toArray X₁ rfl hsize hdg hW (X₁.named hnamed) (hpre vm₁ X₁.warmed) with ⟨v, B, X', hpost, hsteps⟩ | ⟨q, B, X', hpost, hsteps⟩
  · exact Or.inl ⟨v, vm₁, B, X₁.warmed, X', hpost, fun target h => hstep₁ _ fun acts => by rw [doInvoke_state]; exact hsteps.trans h⟩
  · exact Or.inr ⟨q, vm₁, B, X₁.warmed, X', hpost, hstep₁ _ fun acts => by rw [doInvoke_state]; exact hsteps⟩
end VXIA
section VXIB
variable {p : Program} {l : Launch} {e : Env} {R : Room} {s : State} {m : MethodId} {args : Array Value} {below : List Frame} {meth : Method} {c : Code} {H : Heap} {locs : List Loc} {cells slots : Nat}
variable {y : MethodName} {bytes cc : ByteArray} {maxL nL mc ms n index : Nat} {ret : Option FieldType} {ws : List Cond} {rm : Room} {Pc : Array Value → State → Prop} {Qc : Array Value → State → Outcome → State → Prop} {XC : String → State → State → Prop} {free : Addr → Prop} {Ts : List Cond} {own C : String} {b : Addr} {As rest : List Value} {g : JFrame}
theorem vx_runI (S : CallFix p m c cc nL s args Ts own) (hM : vx_Met l y ws rm Pc Qc XC mc ms free) (cw : CallB R s args own index y bytes maxL none ws rm mc ms n ∧ y.name = "<init>" ∧ (Cond.instanceMethod y).before args s = true) (hp : PreS s H Pc (.ref b :: As))
    (hg : g.method = m) (hn : As.length = n) (hsize : g.locals.size = nL) (hstack : g.stack = As.reverse ++ .ref b :: rest) (hW : 2 * g.monitorRoom + (rest.map fun v => v.category).sum ≤ 8) (hdg : decode cc g.pc = .ok (.invokespecial index, 3)) (hf : cells + mc ≤ R.cells ∧ slots + ms ≤ R.slots) :
    vx_Run p l e R s m args below meth c H locs cells slots mc ms g rest (Qc (Value.ref b :: As).toArray) XC free := by
  have hK : vx_Back l R p e below s args y 3 8 (PreOf R mc ms Pc) (PostOf Qc mc ms free) (vx_Post XC mc ms free) := vx_callBack cw.1 hM hp.1
  obtain ⟨⟨-, -, -, -, -, -, hcode, -, hy, hlen, hl⟩, hy1, hin⟩ := cw
  obtain ⟨hx, hb, hml, ho, -⟩ := S
  have hPc := hp.2
  intro T hT X
  rcases vx_callI X hx (bytes := bytes) (maxL := maxL) ho hy1 hl hin hcode hy hK hg (hsize.trans hml.symm) (a := b) (argsL := As) (rest := rest) (fun sig h => hn.trans (hlen sig h)) hstack hW (by rw [hb]; exact hdg)
    (fun vm₁ hW₁ => ⟨hf.1, hf.2, hPc (T.setVm vm₁) hT hW₁⟩) with ⟨v, vm₁, ⟨U', l2, c2, s2⟩, hW₁, X', ⟨g', mk, t, L, e1, e2, hq, h1, hL, h2, h3⟩, st⟩ | ⟨q, vm₁, ⟨U', l2, c2, s2⟩, hW₁, X', ⟨g', mk, t, L, E, ce, e1, e2, hq, hce, hcv, hcl, h1, hL, h2, h3⟩, st⟩
  · dsimp only [Pt.U, Pt.locs, Pt.cells, Pt.slots] at X' e1 e2 h1 h2 h3 st
    subst h1; subst h2; subst h3
    exact Or.inl ⟨v, (T.setVm vm₁).calling g' mk (Value.ref b :: As).toArray, t, U', L, hT, X', hL, e1, e2, hq, st⟩
  · dsimp only [Pt.U, Pt.locs, Pt.cells, Pt.slots] at X' e1 e2 h1 h2 h3 st hcl
    subst h1; subst h2; subst h3
    exact Or.inr ⟨q, (T.setVm vm₁).calling g' mk (Value.ref b :: As).toArray, t, U', L, E, ce, hT, X', hL, e1, e2, hq, hce, hcv, vx_cls hW₁ hcl, st⟩
end VXIB
/-! ===== END ===== -/

/-! ===== BEGIN a private constructor of a nest mate that throws ===== -/
section VXIC
variable {p : Program} {l : Launch} {e : Env} {R : Room} {s : State} {m : MethodId} {args : Array Value} {below : List Frame} {meth : Method} {c : Code} {T : State} {locs : List Loc} {cells slots : Nat}
theorem vx_callIN (X : Stand p l e R s m args below meth c T locs cells slots) (hexec : p.tables.exec = Jvm.exec) {own : String} {index : Nat} {host : String} {y : MethodName} {bytes : ByteArray} {maxL : Nat}
    (hown : s.vm.findClass own = some m.cls) (hy1 : y.name = "<init>") (hlink : (Cond.methodLinkNest own index y host).before args s = true) (hinst : (Cond.instanceMethod y).before args s = true)
    (hcode : (Cond.code y bytes maxL none).before args s = true) (hy : y.cls ≠ "java/lang/invoke/MethodHandle" ∧ y.cls ≠ "java/lang/invoke/VarHandle")
    {W9 : Nat} {Pre : Pt → Array Value → Prop} {Post : Pt → Array Value → Option Value → Pt → Prop} {PostX : Pt → Array Value → Addr → Pt → Prop} (hK : vx_Back l R p e below s args y 3 W9 Pre Post PostX)
    {g : JFrame} (hg : g.method = m) (hsize : g.locals.size = c.maxLocals) {a : Addr} {argsL rest : List Value} (hlen : ∀ sig, parseMethodDescriptor y.desc = some sig → argsL.length = sig.parameters.length)
    (hstack : g.stack = argsL.reverse ++ .ref a :: rest) (hW : 2 * g.monitorRoom + (rest.map fun v => v.category).sum ≤ W9) (hdg : decode c.code g.pc = .ok (.invokespecial index, 3))
    (hpre : ∀ vm₁, s.WarmedH vm₁ → Pre ⟨T.setVm vm₁, locs, cells, slots⟩ (Value.ref a :: argsL).toArray) :
    (∃ (v : Option Value) (vm₁ : Vm) (B : Pt), s.WarmedH vm₁ ∧ Stand p l e R s m args below meth c B.U B.locs B.cells B.slots ∧ Post ⟨T.setVm vm₁, locs, cells, slots⟩ (Value.ref a :: argsL).toArray v B ∧
      ∀ target, Steps p.tables e below (B.U.setTop { g with pc := g.pc + 3, stack := v.toList ++ rest }) target → Steps p.tables e below (T.setTop g) target) ∨
    (∃ (q : Addr) (vm₁ : Vm) (B : Pt), s.WarmedH vm₁ ∧ Stand p l e R s m args below meth c B.U B.locs B.cells B.slots ∧ PostX ⟨T.setVm vm₁, locs, cells, slots⟩ (Value.ref a :: argsL).toArray q B ∧
      Steps p.tables e below (T.setTop g) ((B.U.setTop { g with stack := rest }).pushFrame (.throwing q))) := by
  subst hg
  have hpl : e.platform.magicAccessors = ({} : Platform).magicAccessors := by rw [X.admits.platform]
  obtain ⟨mk, methM, cM, kP, vm₁, hnamed, hmethM, hcodeM, -, hlocalsM, -, hkP, -, hW₁, hstep₁⟩ := Steps.initColdArgsNest (e := e) X.here hexec X.warmed hpl hown hy1 hy hlink hinst hcode (f := g) rfl hlen hstack hdg
  have X₁ := X.noted hW₁
  rcases hK g.method meth c ⟨T.setVm vm₁, locs, cells, slots⟩ { g with stack := rest } (.invokespecial index) mk (Value.ref a :: argsL).toArray X₁ rfl hsize hdg hW (X₁.named hnamed) (hpre vm₁ X₁.warmed) with ⟨v, B, X', hpost, hsteps⟩ | ⟨q, B, X', hpost, hsteps⟩
  · exact Or.inl ⟨v, vm₁, B, X₁.warmed, X', hpost, fun target h => hstep₁ _ fun acts => by rw [doInvoke_state]; exact hsteps.trans h⟩
  · exact Or.inr ⟨q, vm₁, B, X₁.warmed, X', hpost, hstep₁ _ fun acts => by rw [doInvoke_state]; exact hsteps⟩
end VXIC
section VXID
variable {p : Program} {l : Launch} {e : Env} {R : Room} {s : State} {m : MethodId} {args : Array Value} {below : List Frame} {meth : Method} {c : Code} {H : Heap} {locs : List Loc} {cells slots : Nat}
theorem vx_runIN {y : MethodName} {bytes cc : ByteArray} {maxL nL mc ms n index : Nat} {ws : List Cond} {rm : Room} {Pc : Array Value → State → Prop} {Qc : Array Value → State → Outcome → State → Prop} {XC : String → State → State → Prop} {free : Addr → Prop} {Ts : List Cond} {own host : String} {b : Addr} {As rest : List Value} {g : JFrame}
    (S : CallFix p m c cc nL s args Ts own) (hM : vx_Met l y ws rm Pc Qc XC mc ms free) (cw : va_CN R s args own index y host bytes maxL none ws rm mc ms n ∧ y.name = "<init>" ∧ (Cond.instanceMethod y).before args s = true) (hp : PreS s H Pc (.ref b :: As))
    (hg : g.method = m) (hn : As.length = n) (hsize : g.locals.size = nL) (hstack : g.stack = As.reverse ++ .ref b :: rest) (hW : 2 * g.monitorRoom + (rest.map fun v => v.category).sum ≤ 8) (hdg : decode cc g.pc = .ok (.invokespecial index, 3)) (hf : cells + mc ≤ R.cells ∧ slots + ms ≤ R.slots) :
    vx_Run p l e R s m args below meth c H locs cells slots mc ms g rest (Qc (Value.ref b :: As).toArray) XC free := by
  obtain ⟨⟨⟨hrc, hrs, hfr, hlo, hws, hcw⟩, hcode, hini, hy, hlen, hl⟩, hx1, hx2⟩ := cw
  have hK : vx_Back l R p e below s args y 3 8 (PreOf R mc ms Pc) (PostOf Qc mc ms free) (vx_Post XC mc ms free) := vx_back (bytes := bytes) (maxL := maxL) (ret := none) hM hp.1 hrc hrs hfr hlo hws hcw (fun a' U hW => word_at hW (Or.inl (by first | rfl | simp [Cond.onTables, Cond.keeps, Cond.steady])) hini)
  obtain ⟨hx, hb, hml, ho, -⟩ := S
  have hPc := hp.2
  intro T hT X
  rcases vx_callIN X hx (bytes := bytes) (maxL := maxL) ho hx1 hl hx2 hcode hy hK hg (hsize.trans hml.symm) (a := b) (argsL := As) (rest := rest) (fun sig h => hn.trans (hlen sig h)) hstack hW (by rw [hb]; exact hdg)
    (fun vm₁ hW₁ => ⟨hf.1, hf.2, hPc (T.setVm vm₁) hT hW₁⟩) with ⟨v, vm₁, ⟨U', l2, c2, s2⟩, hW₁, X', ⟨g', mk, t, L, e1, e2, hq, h1, hL, h2, h3⟩, st⟩ | ⟨q, vm₁, ⟨U', l2, c2, s2⟩, hW₁, X', ⟨g', mk, t, L, E, ce, e1, e2, hq, hce, hcv, hcl, h1, hL, h2, h3⟩, st⟩
  · dsimp only [Pt.U, Pt.locs, Pt.cells, Pt.slots] at X' e1 e2 h1 h2 h3 st
    subst h1; subst h2; subst h3
    exact Or.inl ⟨v, (T.setVm vm₁).calling g' mk (Value.ref b :: As).toArray, t, U', L, hT, X', hL, e1, e2, hq, st⟩
  · dsimp only [Pt.U, Pt.locs, Pt.cells, Pt.slots] at X' e1 e2 h1 h2 h3 st hcl
    subst h1; subst h2; subst h3
    exact Or.inr ⟨q, (T.setVm vm₁).calling g' mk (Value.ref b :: As).toArray, t, U', L, E, ce, hT, X', hL, e1, e2, hq, hce, hcv, vx_cls hW₁ hcl, st⟩
end VXID
/-! ===== END ===== -/

/-! ===== BEGIN a private method of a nest mate that may throw (follows va_callVN, va_callSN, va_runVN, va_runSN) ===== -/
section
variable {p : Program} {l : Launch} {e : Env} {R : Room} {s : State} {m : MethodId} {args : Array Value} {below : List Frame} {meth : Method} {c : Code} {H : Heap} {locs : List Loc} {cells slots : Nat}
variable {T : State}
theorem vx_callVN (X : Stand p l e R s m args below meth c T locs cells slots) (hexec : p.tables.exec = Jvm.exec) {own C : String} {index : Nat} {host : String} {y : MethodName} {bytes : ByteArray} {maxL : Nat} {ret : Option FieldType}
    (hown : s.vm.findClass own = some m.cls) (hlink : (Cond.methodLinkNest own index y host).before args s = true) (hinst : (Cond.instanceMethod y).before args s = true) (hsel : (Cond.selects C y y).before args s = true)
    (hcode : (Cond.code y bytes maxL ret).before args s = true) (hy : y.cls ≠ "java/lang/invoke/MethodHandle" ∧ y.cls ≠ "java/lang/invoke/VarHandle")
    {W : Nat} {Pre : Pt → Array Value → Prop} {Post : Pt → Array Value → Option Value → Pt → Prop} {PostX : Pt → Array Value → Addr → Pt → Prop} (hK : vx_Back l R p e below s args y 3 W Pre Post PostX)
    {b : Addr} {cellB : Cell} (hcell : T.heap[b]? = some cellB) (hobj : cellB.vm.isStatics = false) (hcls : s.vm.findClass C = some cellB.cls)
    {g : JFrame} (hg : g.method = m) (hsize : g.locals.size = c.maxLocals) {argsL rest : List Value} (hlen : ∀ sig, parseMethodDescriptor y.desc = some sig → argsL.length = sig.parameters.length)
    (hstack : g.stack = argsL.reverse ++ .ref b :: rest) (hW : 2 * g.monitorRoom + (rest.map fun v => v.category).sum ≤ W) (hdg : decode c.code g.pc = .ok (.invokevirtual index, 3))
    (hpre : ∀ vm₁, s.WarmedH vm₁ → Pre ⟨T.setVm vm₁, locs, cells, slots⟩ (Value.ref b :: argsL).toArray) :
    (∃ (v : Option Value) (vm₁ : Vm) (B : Pt), s.WarmedH vm₁ ∧ Stand p l e R s m args below meth c B.U B.locs B.cells B.slots ∧ Post ⟨T.setVm vm₁, locs, cells, slots⟩ (Value.ref b :: argsL).toArray v B ∧
      ∀ target, Steps p.tables e below (B.U.setTop { g with pc := g.pc + 3, stack := v.toList ++ rest }) target → Steps p.tables e below (T.setTop g) target) ∨
    (∃ (q : Addr) (vm₁ : Vm) (B : Pt), s.WarmedH vm₁ ∧ Stand p l e R s m args below meth c B.U B.locs B.cells B.slots ∧ PostX ⟨T.setVm vm₁, locs, cells, slots⟩ (Value.ref b :: argsL).toArray q B ∧
      Steps p.tables e below (T.setTop g) ((B.U.setTop { g with stack := rest }).pushFrame (.throwing q))) := by
  obtain ⟨mk, methM, hnamed, hmethM, hstM, habM⟩ := Cond.instanceMethod_spec hinst
  obtain ⟨methM', cM, hmethM', -, -, -, -, -, -, hsigM⟩ := Cond.code_spec hnamed hcode
  cases hmethM.symm.trans hmethM'
  obtain ⟨c2, r2, m2, q1, q2, q3, q4, kP, hkP, hkPi⟩ := Cond.selects_spec hsel
  cases hcls.symm.trans q1
  cases (State.methodFound?_of_named hnamed hy).symm.trans q2
  cases hnamed.symm.trans q3
  have hselP : selectMethod e.platform s.vm cellB.cls mk = .method mk := by rw [Launch.admits_selectMethod X.admits]; exact q4
  obtain ⟨vm₁, X₁, hstep₁⟩ := X.invokevirtualNest hexec hown hlink hnamed hmethM hstM hkP hkPi hy (a := b) (cell := cellB) hcell
    (fun z h => by rw [h] at hobj; cases hobj) hselP hmethM habM hkP hkPi (g := g) hg (argsL := argsL) (rest := rest) (hlen _ hsigM) hstack hdg
  rcases hK m meth c ⟨T.setVm vm₁, locs, cells, slots⟩ { g with stack := rest } (.invokevirtual index) mk (Value.ref b :: argsL).toArray X₁ hg hsize hdg hW (X₁.named hnamed) (hpre vm₁ X₁.warmed) with ⟨v, B, X', hpost, hsteps⟩ | ⟨q, B, X', hpost, hsteps⟩
  · exact Or.inl ⟨v, vm₁, B, X₁.warmed, X', hpost, fun target h => hstep₁ _ fun acts => by rw [doInvoke_state]; exact hsteps.trans h⟩
  · exact Or.inr ⟨q, vm₁, B, X₁.warmed, X', hpost, hstep₁ _ fun acts => by rw [doInvoke_state]; exact hsteps⟩
theorem vx_callSN (X : Stand p l e R s m args below meth c T locs cells slots) (hexec : p.tables.exec = Jvm.exec) {own : String} {index : Nat} {host : String} {y : MethodName} {bytes : ByteArray} {maxL : Nat} {ret : Option FieldType}
    (hown : s.vm.findClass own = some m.cls) (hlink : (Cond.methodLinkNest own index y host).before args s = true) (hstat : (Cond.static y).before args s = true) (hinit : (Cond.initialized y.cls).before args s = true)
    (hcode : (Cond.code y bytes maxL ret).before args s = true) (hy : y.cls ≠ "java/lang/invoke/MethodHandle" ∧ y.cls ≠ "java/lang/invoke/VarHandle")
    {W : Nat} {Pre : Pt → Array Value → Prop} {Post : Pt → Array Value → Option Value → Pt → Prop} {PostX : Pt → Array Value → Addr → Pt → Prop} (hK : vx_Back l R p e below s args y 3 W Pre Post PostX)
    {g : JFrame} (hg : g.method = m) (hsize : g.locals.size = c.maxLocals) {argsL rest : List Value} (hlen : ∀ sig, parseMethodDescriptor y.desc = some sig → argsL.length = sig.parameters.length)
    (hstack : g.stack = argsL.reverse ++ rest) (hW : 2 * g.monitorRoom + (rest.map fun v => v.category).sum ≤ W) (hdg : decode c.code g.pc = .ok (.invokestatic index, 3))
    (hpre : ∀ vm₁, s.WarmedH vm₁ → Pre ⟨T.setVm vm₁, locs, cells, slots⟩ argsL.toArray) :
    (∃ (v : Option Value) (vm₁ : Vm) (B : Pt), s.WarmedH vm₁ ∧ Stand p l e R s m args below meth c B.U B.locs B.cells B.slots ∧ Post ⟨T.setVm vm₁, locs, cells, slots⟩ argsL.toArray v B ∧
      ∀ target, Steps p.tables e below (B.U.setTop { g with pc := g.pc + 3, stack := v.toList ++ rest }) target → Steps p.tables e below (T.setTop g) target) ∨
    (∃ (q : Addr) (vm₁ : Vm) (B : Pt), s.WarmedH vm₁ ∧ Stand p l e R s m args below meth c B.U B.locs B.cells B.slots ∧ PostX ⟨T.setVm vm₁, locs, cells, slots⟩ argsL.toArray q B ∧
      Steps p.tables e below (T.setTop g) ((B.U.setTop { g with stack := rest }).pushFrame (.throwing q))) := by
  obtain ⟨mk, hnamed⟩ := Cond.code_named hcode
  obtain ⟨methM, cM, hmethM, -, -, -, -, -, -, hsigM⟩ := Cond.code_spec hnamed hcode
  have hstatic : methM.isStatic = true := Cond.static_spec hnamed hmethM hstat
  obtain ⟨kP, hkP, -⟩ := className_of_methodNamed hnamed
  have hinitP : kP.init = .initialized := Cond.initialized_spec (findClass_of_methodNamed hnamed) hkP hinit
  obtain ⟨vm₁, X₁, hstep₁⟩ := X.invokestaticNest hexec hown hlink hnamed hmethM hstatic hkP hinitP hy (g := g) hg (argsL := argsL) (rest := rest) (hlen _ hsigM) hstack hdg
  rcases hK m meth c ⟨T.setVm vm₁, locs, cells, slots⟩ { g with stack := rest } (.invokestatic index) mk argsL.toArray X₁ hg hsize hdg hW (X₁.named hnamed) (hpre vm₁ X₁.warmed) with ⟨v, B, X', hpost, hsteps⟩ | ⟨q, B, X', hpost, hsteps⟩
  · exact Or.inl ⟨v, vm₁, B, X₁.warmed, X', hpost, fun target h => hstep₁ _ fun acts => by rw [doInvoke_state]; exact hsteps.trans h⟩
  · exact Or.inr ⟨q, vm₁, B, X₁.warmed, X', hpost, hstep₁ _ fun acts => by rw [doInvoke_state]; exact hsteps⟩
theorem vx_runVN {y : MethodName} {bytes cc : ByteArray} {maxL nL mc ms n index : Nat} {ret : Option FieldType} {ws : List Cond} {rm : Room} {Pc : Array Value → State → Prop} {Qc : Array Value → State → Outcome → State → Prop} {XC : String → State → State → Prop} {free : Addr → Prop} {Ts : List Cond} {own C host : String} {b : Addr} {As rest : List Value} {g : JFrame}
    (S : CallFix p m c cc nL s args Ts own) (hM : vx_Met l y ws rm Pc Qc XC mc ms free) (cw : va_CN R s args own index y host bytes maxL ret ws rm mc ms n ∧ (Cond.instanceMethod y).before args s = true ∧ (Cond.selects C y y).before args s = true) (hp : PreV s H C b Pc As)
    (hg : g.method = m) (hn : As.length = n) (hsize : g.locals.size = nL) (hstack : g.stack = As.reverse ++ .ref b :: rest) (hW : 2 * g.monitorRoom + (rest.map fun v => v.category).sum ≤ 8) (hdg : decode cc g.pc = .ok (.invokevirtual index, 3)) (hf : cells + mc ≤ R.cells ∧ slots + ms ≤ R.slots) :
    vx_Run p l e R s m args below meth c H locs cells slots mc ms g rest (Qc (Value.ref b :: As).toArray) XC free := by
  obtain ⟨⟨⟨hrc, hrs, hfr, hlo, hws, hcw⟩, hcode, hini, hy, hlen, hl⟩, hx1, hx2⟩ := cw
  have hK : vx_Back l R p e below s args y 3 8 (PreOf R mc ms Pc) (PostOf Qc mc ms free) (vx_Post XC mc ms free) := vx_back (bytes := bytes) (maxL := maxL) (ret := ret) hM hp.1 hrc hrs hfr hlo hws hcw (fun a' U hW => word_at hW (Or.inl (by first | rfl | simp [Cond.onTables, Cond.keeps, Cond.steady])) hini)
  obtain ⟨hx, hb, hml, ho, -⟩ := S
  obtain ⟨-, ⟨cellB, hcB, hoB, hclB⟩, hPc⟩ := hp
  intro T hT X
  rcases vx_callVN X hx (C := C) (bytes := bytes) (maxL := maxL) (ret := ret) ho hl hx1 hx2 hcode hy hK (by rw [hT]; exact hcB) hoB hclB hg (hsize.trans hml.symm) (argsL := As) (rest := rest) (fun sig h => hn.trans (hlen sig h)) hstack hW (by rw [hb]; exact hdg)
    (fun vm₁ hW₁ => ⟨hf.1, hf.2, hPc (T.setVm vm₁) hT hW₁⟩) with ⟨v, vm₁, ⟨U', l2, c2, s2⟩, hW₁, X', ⟨g', mk, t, L, e1, e2, hq, h1, hL, h2, h3⟩, st⟩ | ⟨q, vm₁, ⟨U', l2, c2, s2⟩, hW₁, X', ⟨g', mk, t, L, E, ce, e1, e2, hq, hce, hcv, hcl, h1, hL, h2, h3⟩, st⟩
  · dsimp only [Pt.U, Pt.locs, Pt.cells, Pt.slots] at X' e1 e2 h1 h2 h3 st
    subst h1; subst h2; subst h3
    exact Or.inl ⟨v, (T.setVm vm₁).calling g' mk (Value.ref b :: As).toArray, t, U', L, hT, X', hL, e1, e2, hq, st⟩
  · dsimp only [Pt.U, Pt.locs, Pt.cells, Pt.slots] at X' e1 e2 h1 h2 h3 st hcl
    subst h1; subst h2; subst h3
    exact Or.inr ⟨q, (T.setVm vm₁).calling g' mk (Value.ref b :: As).toArray, t, U', L, E, ce, hT, X', hL, e1, e2, hq, hce, hcv, vx_cls hW₁ hcl, st⟩
theorem vx_runSN {y : MethodName} {bytes cc : ByteArray} {maxL nL mc ms n index : Nat} {ret : Option FieldType} {ws : List Cond} {rm : Room} {Pc : Array Value → State → Prop} {Qc : Array Value → State → Outcome → State → Prop} {XC : String → State → State → Prop} {free : Addr → Prop} {Ts : List Cond} {own host : String} {As rest : List Value} {g : JFrame}
    (S : CallFix p m c cc nL s args Ts own) (hM : vx_Met l y ws rm Pc Qc XC mc ms free) (cw : va_CN R s args own index y host bytes maxL ret ws rm mc ms n ∧ (Cond.static y).before args s = true ∧ True) (hp : PreS s H Pc As)
    (hg : g.method = m) (hn : As.length = n) (hsize : g.locals.size = nL) (hstack : g.stack = As.reverse ++ rest) (hW : 2 * g.monitorRoom + (rest.map fun v => v.category).sum ≤ 8) (hdg : decode cc g.pc = .ok (.invokestatic index, 3)) (hf : cells + mc ≤ R.cells ∧ slots + ms ≤ R.slots) :
    vx_Run p l e R s m args below meth c H locs cells slots mc ms g rest (Qc As.toArray) XC free := by
  obtain ⟨⟨⟨hrc, hrs, hfr, hlo, hws, hcw⟩, hcode, hini, hy, hlen, hl⟩, hx1, hx2⟩ := cw
  have hK : vx_Back l R p e below s args y 3 8 (PreOf R mc ms Pc) (PostOf Qc mc ms free) (vx_Post XC mc ms free) := vx_back (bytes := bytes) (maxL := maxL) (ret := ret) hM hp.1 hrc hrs hfr hlo hws hcw (fun a' U hW => word_at hW (Or.inl (by first | rfl | simp [Cond.onTables, Cond.keeps, Cond.steady])) hini)
  obtain ⟨hx, hb, hml, ho, -⟩ := S
  have hPc := hp.2
  intro T hT X
  rcases vx_callSN X hx (bytes := bytes) (maxL := maxL) (ret := ret) ho hl hx1 hini hcode hy hK hg (hsize.trans hml.symm) (argsL := As) (rest := rest) (fun sig h => hn.trans (hlen sig h)) hstack hW (by rw [hb]; exact hdg)
    (fun vm₁ hW₁ => ⟨hf.1, hf.2, hPc (T.setVm vm₁) hT hW₁⟩) with ⟨v, vm₁, ⟨U', l2, c2, s2⟩, hW₁, X', ⟨g', mk, t, L, e1, e2, hq, h1, hL, h2, h3⟩, st⟩ | ⟨q, vm₁, ⟨U', l2, c2, s2⟩, hW₁, X', ⟨g', mk, t, L, E, ce, e1, e2, hq, hce, hcv, hcl, h1, hL, h2, h3⟩, st⟩
  · dsimp only [Pt.U, Pt.locs, Pt.cells, Pt.slots] at X' e1 e2 h1 h2 h3 st
    subst h1; subst h2; subst h3
    exact Or.inl ⟨v, (T.setVm vm₁).calling g' mk As.toArray, t, U', L, hT, X', hL, e1, e2, hq, st⟩
  · dsimp only [Pt.U, Pt.locs, Pt.cells, Pt.slots] at X' e1 e2 h1 h2 h3 st hcl
    subst h1; subst h2; subst h3
    exact Or.inr ⟨q, (T.setVm vm₁).calling g' mk As.toArray, t, U', L, E, ce, hT, X', hL, e1, e2, hq, hce, hcv, vx_cls hW₁ hcl, st⟩
end
/-! ===== END ===== -/
end
section
/-! ===== the reckoner, part 1: values, locals, instructions that touch no heap ===== -/
/-- a value whose references are numbers of cells of a world, said of the machine: the number's address; a float's code k is an int that isn't known: number k of those -/
def ri_v (ad : Nat → Nat) (v : Value) : Value := match v with
  | .ref k => .ref (ad k)
  | .int x => .int x
  | .long x => .long x
  | .float k => .int (Int32.ofNat (ad (2000000 + k.toNat)))
  | .double x => .double x
  | .null => .null
  | .retAddr x => .retAddr x
theorem ri_v_cat (ad : Nat → Nat) (v : Value) : (ri_v ad v).category = v.category := by cases v <;> rfl
/-- an int, known or not -/
def ri_isI (v : Value) : Bool := match v with
  | .int _ => true
  | .float _ => true
  | _ => false
def ri_I (ad : Nat → Nat) (v : Value) : Int32 := match v with
  | .int x => x
  | .float k => Int32.ofNat (ad (2000000 + k.toNat))
  | _ => 0
theorem ri_isI_v {ad : Nat → Nat} {v : Value} (h : ri_isI v = true) : ri_v ad v = .int (ri_I ad v) := by
  cases v <;> first | rfl | cases h
abbrev ri_L : Type := List (Nat × Value)
def ri_lr (ad : Nat → Nat) (lv : ri_L) : ri_L := lv.map (fun q => (q.1, ri_v ad q.2))
noncomputable def ri_get (i : Nat) (lv : ri_L) : Option Value := List.rec none (fun q _ ih => @Bool.rec (fun _ => Option Value) ih (some q.2) (Nat.beq q.1 i)) lv
theorem ri_get_mem {i : Nat} {v : Value} : ∀ {lv : ri_L}, ri_get i lv = some v → (i, v) ∈ lv
  | [], h => by cases h
  | (j, u) :: r, h => by
    have h2 : (@Bool.rec (fun _ => Option Value) (ri_get i r) (some u) (Nat.beq j i)) = some v := h
    cases hb : Nat.beq j i with
    | true =>
      rw [hb] at h2
      have e1 : j = i := Nat.eq_of_beq_eq_true hb
      have e2 : u = v := Option.some.inj h2
      subst e1; subst e2
      exact List.mem_cons_self
    | false =>
      rw [hb] at h2
      exact List.mem_cons_of_mem _ (ri_get_mem h2)
theorem ri_at {ad : Nat → Nat} {ls : Array Slot} {nL i : Nat} {lv : ri_L} {v : Value} (hl : lv_has ls nL (ri_lr ad lv)) (h : ri_get i lv = some v) : ls[i]? = some (.val (ri_v ad v)) :=
  hl.2.2 (i, ri_v ad v) (List.mem_map.mpr ⟨(i, v), ri_get_mem h, rfl⟩)
def ri_f1 (i : Nat) (q : Nat × Value) : Bool := !(q.1 == i) && !(q.1 + 1 == i && q.2.category == 2)
def ri_f2 (i : Nat) (q : Nat × Value) : Bool := !(q.1 == i) && (!(q.1 == i + 1) && !(q.1 + 1 == i && q.2.category == 2))
def ri_s1 (i : Nat) (v : Value) (lv : ri_L) : ri_L := (i, v) :: lv.filter (ri_f1 i)
def ri_s2 (i : Nat) (v : Value) (lv : ri_L) : ri_L := (i, v) :: lv.filter (ri_f2 i)
theorem ri_filter {ad : Nat → Nat} {f : Nat × Value → Bool} (hf : ∀ q : Nat × Value, f (q.1, ri_v ad q.2) = f q) : ∀ lv : ri_L, (ri_lr ad lv).filter f = ri_lr ad (lv.filter f)
  | [] => rfl
  | q :: r => by
    show ((q.1, ri_v ad q.2) :: ri_lr ad r).filter f = ri_lr ad ((q :: r).filter f)
    rw [List.filter_cons, List.filter_cons, hf q, ri_filter hf r]
    cases f q <;> rfl
theorem ri_s1_eq {ad : Nat → Nat} {i : Nat} {v : Value} {lv : ri_L} : (i, ri_v ad v) :: (ri_lr ad lv).filter (fun q => !(q.1 == i) && !(q.1 + 1 == i && q.2.category == 2)) = ri_lr ad (ri_s1 i v lv) := by
  have h := ri_filter (ad := ad) (f := ri_f1 i) (fun q => by unfold ri_f1; rw [ri_v_cat]) lv
  exact congrArg (List.cons (i, ri_v ad v)) h
theorem ri_s2_eq {ad : Nat → Nat} {i : Nat} {v : Value} {lv : ri_L} : (i, ri_v ad v) :: (ri_lr ad lv).filter (fun q => !(q.1 == i) && (!(q.1 == i + 1) && !(q.1 + 1 == i && q.2.category == 2))) = ri_lr ad (ri_s2 i v lv) := by
  have h := ri_filter (ad := ad) (f := ri_f2 i) (fun q => by unfold ri_f2; rw [ri_v_cat]) lv
  exact congrArg (List.cons (i, ri_v ad v)) h
/-! what stands on top of the stack -/
section RIP
variable {ρ : Type}

def ri_i1 (st : List Value) (f : Int32 → List Value → Option ρ) : Option ρ := match st with
  | .int x :: r => f x r
  | _ => none
theorem ri_i1_eq {st : List Value} {f : Int32 → List Value → Option ρ} {o : ρ} (h : ri_i1 st f = some o) : ∃ (x : Int32) (r : List Value), st = .int x :: r ∧ f x r = some o := by
  unfold ri_i1 at h
  split at h
  · exact ⟨_, _, rfl, h⟩
  · cases h
def ri_i2 (st : List Value) (f : Int32 → Int32 → List Value → Option ρ) : Option ρ := match st with
  | .int y :: .int x :: r => f y x r
  | _ => none
theorem ri_i2_eq {st : List Value} {f : Int32 → Int32 → List Value → Option ρ} {o : ρ} (h : ri_i2 st f = some o) : ∃ (y : Int32) (x : Int32) (r : List Value), st = .int y :: .int x :: r ∧ f y x r = some o := by
  unfold ri_i2 at h
  split at h
  · exact ⟨_, _, _, rfl, h⟩
  · cases h
def ri_l1 (st : List Value) (f : Int64 → List Value → Option ρ) : Option ρ := match st with
  | .long x :: r => f x r
  | _ => none
theorem ri_l1_eq {st : List Value} {f : Int64 → List Value → Option ρ} {o : ρ} (h : ri_l1 st f = some o) : ∃ (x : Int64) (r : List Value), st = .long x :: r ∧ f x r = some o := by
  unfold ri_l1 at h
  split at h
  · exact ⟨_, _, rfl, h⟩
  · cases h
def ri_l2 (st : List Value) (f : Int64 → Int64 → List Value → Option ρ) : Option ρ := match st with
  | .long y :: .long x :: r => f y x r
  | _ => none
theorem ri_l2_eq {st : List Value} {f : Int64 → Int64 → List Value → Option ρ} {o : ρ} (h : ri_l2 st f = some o) : ∃ (y : Int64) (x : Int64) (r : List Value), st = .long y :: .long x :: r ∧ f y x r = some o := by
  unfold ri_l2 at h
  split at h
  · exact ⟨_, _, _, rfl, h⟩
  · cases h
def ri_il (st : List Value) (f : Int32 → Int64 → List Value → Option ρ) : Option ρ := match st with
  | .int y :: .long x :: r => f y x r
  | _ => none
theorem ri_il_eq {st : List Value} {f : Int32 → Int64 → List Value → Option ρ} {o : ρ} (h : ri_il st f = some o) : ∃ (y : Int32) (x : Int64) (r : List Value), st = .int y :: .long x :: r ∧ f y x r = some o := by
  unfold ri_il at h
  split at h
  · exact ⟨_, _, _, rfl, h⟩
  · cases h
def ri_d1 (st : List Value) (f : UInt64 → List Value → Option ρ) : Option ρ := match st with
  | .double x :: r => f x r
  | _ => none
theorem ri_d1_eq {st : List Value} {f : UInt64 → List Value → Option ρ} {o : ρ} (h : ri_d1 st f = some o) : ∃ (x : UInt64) (r : List Value), st = .double x :: r ∧ f x r = some o := by
  unfold ri_d1 at h
  split at h
  · exact ⟨_, _, rfl, h⟩
  · cases h
def ri_d2 (st : List Value) (f : UInt64 → UInt64 → List Value → Option ρ) : Option ρ := match st with
  | .double y :: .double x :: r => f y x r
  | _ => none
theorem ri_d2_eq {st : List Value} {f : UInt64 → UInt64 → List Value → Option ρ} {o : ρ} (h : ri_d2 st f = some o) : ∃ (y : UInt64) (x : UInt64) (r : List Value), st = .double y :: .double x :: r ∧ f y x r = some o := by
  unfold ri_d2 at h
  split at h
  · exact ⟨_, _, _, rfl, h⟩
  · cases h
def ri_c1 (st : List Value) (f : Value → List Value → Option ρ) : Option ρ := match st with
  | v :: r => bif Nat.beq v.category 1 then f v r else none
  | _ => none
theorem ri_c1_eq {st : List Value} {f : Value → List Value → Option ρ} {o : ρ} (h : ri_c1 st f = some o) : ∃ (v : Value) (r : List Value), st = v :: r ∧ v.category = 1 ∧ f v r = some o := by
  unfold ri_c1 at h
  split at h
  · rename_i v r
    cases hb : Nat.beq v.category 1 with
    | true => rw [hb] at h; exact ⟨v, r, rfl, Nat.eq_of_beq_eq_true hb, h⟩
    | false => rw [hb] at h; cases h
  · cases h
def ri_c2 (st : List Value) (f : Value → List Value → Option ρ) : Option ρ := match st with
  | v :: r => bif Nat.beq v.category 2 then f v r else none
  | _ => none
theorem ri_c2_eq {st : List Value} {f : Value → List Value → Option ρ} {o : ρ} (h : ri_c2 st f = some o) : ∃ (v : Value) (r : List Value), st = v :: r ∧ v.category = 2 ∧ f v r = some o := by
  unfold ri_c2 at h
  split at h
  · rename_i v r
    cases hb : Nat.beq v.category 2 with
    | true => rw [hb] at h; exact ⟨v, r, rfl, Nat.eq_of_beq_eq_true hb, h⟩
    | false => rw [hb] at h; cases h
  · cases h
/-- what a place of the frame holds: an int, a long, a double, a reference or null -/
def ri_gi (v : Option Value) (f : Int32 → Option ρ) : Option ρ := match v with
  | some (.int x) => f x
  | _ => none
theorem ri_gi_eq {v : Option Value} {f : Int32 → Option ρ} {o : ρ} (h : ri_gi v f = some o) : ∃ x : Int32, v = some (.int x) ∧ f x = some o := by
  unfold ri_gi at h
  split at h
  · exact ⟨_, rfl, h⟩
  · cases h
def ri_gl (v : Option Value) (f : Int64 → Option ρ) : Option ρ := match v with
  | some (.long x) => f x
  | _ => none
theorem ri_gl_eq {v : Option Value} {f : Int64 → Option ρ} {o : ρ} (h : ri_gl v f = some o) : ∃ x : Int64, v = some (.long x) ∧ f x = some o := by
  unfold ri_gl at h
  split at h
  · exact ⟨_, rfl, h⟩
  · cases h
def ri_gd (v : Option Value) (f : UInt64 → Option ρ) : Option ρ := match v with
  | some (.double x) => f x
  | _ => none
theorem ri_gd_eq {v : Option Value} {f : UInt64 → Option ρ} {o : ρ} (h : ri_gd v f = some o) : ∃ x : UInt64, v = some (.double x) ∧ f x = some o := by
  unfold ri_gd at h
  split at h
  · exact ⟨_, rfl, h⟩
  · cases h
/-- a reference (kr) or null (kn) -/
def ri_gr (v : Option Value) (kr : Nat → Option ρ) (kn : Option ρ) : Option ρ := match v with
  | some (.ref x) => kr x
  | some .null => kn
  | _ => none
theorem ri_gr_eq {v : Option Value} {kr : Nat → Option ρ} {kn : Option ρ} {o : ρ} (h : ri_gr v kr kn = some o) : (∃ x : Nat, v = some (.ref x) ∧ kr x = some o) ∨ (v = some .null ∧ kn = some o) := by
  unfold ri_gr at h
  split at h
  · exact Or.inl ⟨_, rfl, h⟩
  · exact Or.inr ⟨rfl, h⟩
  · cases h
def ri_r1 (st : List Value) (kr : Nat → List Value → Option ρ) (kn : List Value → Option ρ) : Option ρ := match st with
  | .ref x :: r => kr x r
  | .null :: r => kn r
  | _ => none
theorem ri_r1_eq {st : List Value} {kr : Nat → List Value → Option ρ} {kn : List Value → Option ρ} {o : ρ} (h : ri_r1 st kr kn = some o) : (∃ (x : Nat) (r : List Value), st = .ref x :: r ∧ kr x r = some o) ∨ (∃ r : List Value, st = .null :: r ∧ kn r = some o) := by
  unfold ri_r1 at h
  split at h
  · exact Or.inl ⟨_, _, rfl, h⟩
  · exact Or.inr ⟨_, rfl, h⟩
  · cases h
def ri_gv (v : Option Value) (f : Value → Option ρ) : Option ρ := match v with
  | some u => bif ri_isI u then f u else none
  | none => none
theorem ri_gv_eq {v : Option Value} {f : Value → Option ρ} {o : ρ} (h : ri_gv v f = some o) : ∃ u : Value, v = some u ∧ ri_isI u = true ∧ f u = some o := by
  cases v with
  | none => cases h
  | some u =>
    have h2 : (bif ri_isI u then f u else none) = some o := h
    cases hb : ri_isI u with
    | true => rw [hb] at h2; exact ⟨u, rfl, hb, h2⟩
    | false => rw [hb] at h2; cases h2
def ri_v1 (st : List Value) (f : Value → List Value → Option ρ) : Option ρ := match st with
  | u :: r => bif ri_isI u then f u r else none
  | [] => none
theorem ri_v1_eq {st : List Value} {f : Value → List Value → Option ρ} {o : ρ} (h : ri_v1 st f = some o) : ∃ (u : Value) (r : List Value), st = u :: r ∧ ri_isI u = true ∧ f u r = some o := by
  cases st with
  | nil => cases h
  | cons u r =>
    have h2 : (bif ri_isI u then f u r else none) = some o := h
    cases hb : ri_isI u with
    | true => rw [hb] at h2; exact ⟨u, r, rfl, hb, h2⟩
    | false => rw [hb] at h2; cases h2
noncomputable def ri_ok (b : Bool) (f : Option ρ) : Option ρ := @Bool.rec (fun _ => Option ρ) none f b
theorem ri_ok_eq {b : Bool} {f : Option ρ} {o : ρ} (h : ri_ok b f = some o) : b = true ∧ f = some o := by
  cases b with
  | true => exact ⟨rfl, h⟩
  | false => cases h
end RIP
/-- what an instruction leaves: which target (0: the next one), its pc, locals, stack -/
abbrev ri_R : Type := Nat × Nat × ri_L × List Value
def ri_cnd (c : Jvm.ClassFile.Cond) (x y : Int32) : Bool := match c with
  | .eq => decide (x = y)
  | .ne => !decide (x = y)
  | .lt => decide (x < y)
  | .ge => decide (y ≤ x)
  | .gt => decide (y < x)
  | .le => decide (x ≤ y)
def ri_br (b : Bool) (pc : Nat) (off : Int) (nx : Nat) (lv : ri_L) (r : List Value) : Option ri_R := match (pc : Int) + off with
  | .ofNat t => bif b then some (1, t, lv, r) else some (0, nx, lv, r)
  | .negSucc _ => none
theorem ri_br_eq {b : Bool} {pc : Nat} {off : Int} {nx : Nat} {lv : ri_L} {r : List Value} {z : ri_R} (h : ri_br b pc off nx lv r = some z) : ∃ t : Nat, (pc : Int) + off = (t : Int) ∧ (b = true ∧ z.2.1 = t ∧ z.2.2.1 = lv ∧ z.2.2.2 = r ∨ b = false ∧ z.2.1 = nx ∧ z.2.2.1 = lv ∧ z.2.2.2 = r) := by
  unfold ri_br at h
  split at h
  · rename_i t ht
    refine ⟨t, ht, ?_⟩
    cases b with
    | true => cases h; exact Or.inl ⟨rfl, rfl, rfl, rfl⟩
    | false => cases h; exact Or.inr ⟨rfl, rfl, rfl, rfl⟩
  · cases h
def ri_tg (pc : Nat) (off : Int) (j : Nat) (lv : ri_L) (r : List Value) : Option ri_R := match (pc : Int) + off with
  | .ofNat t => some (j, t, lv, r)
  | .negSucc _ => none
theorem ri_tg_eq {pc : Nat} {off : Int} {j : Nat} {lv : ri_L} {r : List Value} {z : ri_R} (h : ri_tg pc off j lv r = some z) : ∃ t : Nat, (pc : Int) + off = (t : Int) ∧ z = (j, t, lv, r) := by
  unfold ri_tg at h
  split at h
  · rename_i t ht
    exact ⟨t, ht, (Option.some.inj h).symm⟩
  · cases h

/-- how long an instruction is (0: it says so itself) -/
def ri_len (i : Instr) : Nat := match i with
  | .bipush _ | .iload _ | .lload _ | .dload _ | .aload _ | .istore _ | .lstore _ | .dstore _ | .astore _ | .ldc _ | .newarray _ => 2
  | .sipush _ | .ldc_w _ | .ldc2_w _ | .iinc _ _ | .ifCond _ _ | .if_icmp _ _ | .if_acmp _ _ | .ifnull _ | .ifnonnull _ | .goto _ | .getfield _ | .putfield _ | .getstatic _ | .putstatic _ | .invokevirtual _ | .invokespecial _ | .invokestatic _ | .new _ | .anewarray _ | .checkcast _ | .instanceof _ => 3
  | .multianewarray _ _ => 4
  | .tableswitch _ _ _ _ | .lookupswitch _ _ => 0
  | _ => 1
def ri_n64 (x : UInt64) : Bool := decide (x &&& 9223372036854775807 ≤ 9218868437227405312)
theorem ri_nz {a b : Int32} (h : (!decide (a = b)) = true) : ¬ a = b := by
  intro e
  rw [decide_eq_true e] at h
  cases h
theorem ri_nzl {a b : Int64} (h : (!decide (a = b)) = true) : ¬ a = b := by
  intro e
  rw [decide_eq_true e] at h
  cases h
theorem ri_n64_ok {x : UInt64} (h : ri_n64 x = true) : vf_n64 x := by
  unfold ri_n64 at h
  unfold vf_n64
  exact of_decide_eq_true h

/-- an instruction that touches no heap: nL how many places the frame has -/
noncomputable def ri_pure (nL : Nat) (i : Instr) (pc : Nat) (lv : ri_L) (st : List Value) : Option ri_R := match i with
  | .iconst n => some (0, pc + 1, lv, .int (Int32.ofInt n) :: st)
  | .bipush n => some (0, pc + 2, lv, .int (Int8.ofInt n).toInt32 :: st)
  | .sipush n => some (0, pc + 3, lv, .int (Int16.ofInt n).toInt32 :: st)
  | .lconst n => some (0, pc + 1, lv, .long (Int64.ofNat (n : Nat)) :: st)
  | .aconst_null => some (0, pc + 1, lv, .null :: st)
  | .dconst n => ri_ok (Nat.beq n.val 0) (some (0, pc + 1, lv, .double FP.dconst0 :: st))
  | .iload i => ri_gv (ri_get i lv) (fun v => some (0, pc + 2, lv, v :: st))
  | .iload_n i => ri_gv (ri_get i.val lv) (fun v => some (0, pc + 1, lv, v :: st))
  | .istore i => ri_v1 st (fun v r => ri_ok (Nat.blt (i) nL) (some (0, pc + 2, ri_s1 i v lv, r)))
  | .istore_n i => ri_v1 st (fun v r => ri_ok (Nat.blt (i.val) nL) (some (0, pc + 1, ri_s1 i.val v lv, r)))
  | .lload i => ri_gl (ri_get i lv) (fun x => some (0, pc + 2, lv, .long x :: st))
  | .lload_n i => ri_gl (ri_get i.val lv) (fun x => some (0, pc + 1, lv, .long x :: st))
  | .dload i => ri_gd (ri_get i lv) (fun x => some (0, pc + 2, lv, .double x :: st))
  | .dload_n i => ri_gd (ri_get i.val lv) (fun x => some (0, pc + 1, lv, .double x :: st))
  | .aload i => ri_gr (ri_get i lv) (fun x => some (0, pc + 2, lv, .ref x :: st)) (some (0, pc + 2, lv, .null :: st))
  | .aload_n i => ri_gr (ri_get i.val lv) (fun x => some (0, pc + 1, lv, .ref x :: st)) (some (0, pc + 1, lv, .null :: st))
  | .lstore i => ri_l1 st (fun x r => ri_ok (Nat.blt (i + 1) nL) (some (0, pc + 2, ri_s2 i (.long x) lv, r)))
  | .lstore_n i => ri_l1 st (fun x r => ri_ok (Nat.blt (i.val + 1) nL) (some (0, pc + 1, ri_s2 i.val (.long x) lv, r)))
  | .dstore i => ri_d1 st (fun x r => ri_ok (Nat.blt (i + 1) nL) (some (0, pc + 2, ri_s2 i (.double x) lv, r)))
  | .dstore_n i => ri_d1 st (fun x r => ri_ok (Nat.blt (i.val + 1) nL) (some (0, pc + 1, ri_s2 i.val (.double x) lv, r)))
  | .astore i => ri_r1 st (fun x r => ri_ok (Nat.blt i nL) (some (0, pc + 2, ri_s1 i (.ref x) lv, r))) (fun r => ri_ok (Nat.blt i nL) (some (0, pc + 2, ri_s1 i .null lv, r)))
  | .astore_n i => ri_r1 st (fun x r => ri_ok (Nat.blt i.val nL) (some (0, pc + 1, ri_s1 i.val (.ref x) lv, r))) (fun r => ri_ok (Nat.blt i.val nL) (some (0, pc + 1, ri_s1 i.val .null lv, r)))
  | .iinc i n => ri_gi (ri_get i lv) (fun x => ri_ok (Nat.blt i nL) (some (0, pc + 3, ri_s1 i (.int (x + Int32.ofInt n)) lv, st)))
  | .iadd => ri_i2 st (fun y x r => some (0, pc + 1, lv, .int (x + y) :: r))
  | .isub => ri_i2 st (fun y x r => some (0, pc + 1, lv, .int (x - y) :: r))
  | .imul => ri_i2 st (fun y x r => some (0, pc + 1, lv, .int (x * y) :: r))
  | .iand => ri_i2 st (fun y x r => some (0, pc + 1, lv, .int (x &&& y) :: r))
  | .ior => ri_i2 st (fun y x r => some (0, pc + 1, lv, .int (x ||| y) :: r))
  | .ixor => ri_i2 st (fun y x r => some (0, pc + 1, lv, .int (x ^^^ y) :: r))
  | .ishl => ri_i2 st (fun y x r => some (0, pc + 1, lv, .int (x <<< (y &&& 31)) :: r))
  | .ishr => ri_i2 st (fun y x r => some (0, pc + 1, lv, .int (x >>> (y &&& 31)) :: r))
  | .iushr => ri_i2 st (fun y x r => some (0, pc + 1, lv, .int ((x.toUInt32 >>> (y.toUInt32 &&& Int32.toUInt32 31)).toInt32) :: r))
  | .ladd => ri_l2 st (fun y x r => some (0, pc + 1, lv, .long (x + y) :: r))
  | .lsub => ri_l2 st (fun y x r => some (0, pc + 1, lv, .long (x - y) :: r))
  | .lmul => ri_l2 st (fun y x r => some (0, pc + 1, lv, .long (x * y) :: r))
  | .land => ri_l2 st (fun y x r => some (0, pc + 1, lv, .long (x &&& y) :: r))
  | .lor => ri_l2 st (fun y x r => some (0, pc + 1, lv, .long (x ||| y) :: r))
  | .lxor => ri_l2 st (fun y x r => some (0, pc + 1, lv, .long (x ^^^ y) :: r))
  | .lshl => ri_il st (fun y x r => some (0, pc + 1, lv, .long (x <<< (y.toInt64 &&& 63)) :: r))
  | .lshr => ri_il st (fun y x r => some (0, pc + 1, lv, .long (x >>> (y.toInt64 &&& 63)) :: r))
  | .lushr => ri_il st (fun y x r => some (0, pc + 1, lv, .long ((x.toUInt64 >>> (y.toInt64.toUInt64 &&& Int64.toUInt64 63)).toInt64) :: r))
  | .idiv => ri_i2 st (fun y x r => ri_ok (!decide (y = 0)) (some (0, pc + 1, lv, .int (x / y) :: r)))
  | .irem => ri_i2 st (fun y x r => ri_ok (!decide (y = 0)) (some (0, pc + 1, lv, .int (x - x / y * y) :: r)))
  | .ldiv => ri_l2 st (fun y x r => ri_ok (!decide (y = 0)) (some (0, pc + 1, lv, .long (x / y) :: r)))
  | .lrem => ri_l2 st (fun y x r => ri_ok (!decide (y = 0)) (some (0, pc + 1, lv, .long (x - x / y * y) :: r)))
  | .ineg => ri_i1 st (fun x r => some (0, pc + 1, lv, .int (-x) :: r))
  | .lneg => ri_l1 st (fun x r => some (0, pc + 1, lv, .long (-x) :: r))
  | .i2l => ri_i1 st (fun x r => some (0, pc + 1, lv, .long (x.toInt64) :: r))
  | .l2i => ri_l1 st (fun x r => some (0, pc + 1, lv, .int (x.toInt32) :: r))
  | .i2b => ri_i1 st (fun x r => some (0, pc + 1, lv, .int (x.toInt8.toInt32) :: r))
  | .i2s => ri_i1 st (fun x r => some (0, pc + 1, lv, .int (x.toInt16.toInt32) :: r))
  | .i2c => ri_i1 st (fun x r => some (0, pc + 1, lv, .int ((x.toUInt32 % 65536).toInt32) :: r))
  | .i2d => ri_i1 st (fun x r => some (0, pc + 1, lv, .double (FP.i2d x) :: r))
  | .l2d => ri_l1 st (fun x r => some (0, pc + 1, lv, .double (FP.l2d x) :: r))
  | .d2i => ri_d1 st (fun x r => some (0, pc + 1, lv, .int (FP.d2i x) :: r))
  | .d2l => ri_d1 st (fun x r => some (0, pc + 1, lv, .long (FP.d2l x) :: r))
  | .dneg => ri_d1 st (fun x r => some (0, pc + 1, lv, .double (FP.dneg x) :: r))
  | .dadd => ri_d2 st (fun y x r => ri_ok (ri_n64 (FP.dadd x y)) (some (0, pc + 1, lv, .double (FP.dadd x y) :: r)))
  | .dsub => ri_d2 st (fun y x r => ri_ok (ri_n64 (FP.dsub x y)) (some (0, pc + 1, lv, .double (FP.dsub x y) :: r)))
  | .dmul => ri_d2 st (fun y x r => ri_ok (ri_n64 (FP.dmul x y)) (some (0, pc + 1, lv, .double (FP.dmul x y) :: r)))
  | .ddiv => ri_d2 st (fun y x r => ri_ok (ri_n64 (FP.ddiv x y)) (some (0, pc + 1, lv, .double (FP.ddiv x y) :: r)))
  | .dcmp op => ri_d2 st (fun y x r => some (0, pc + 1, lv, .int (Op.cmpValue (FP.dcmp x y) op) :: r))
  | .lcmp => ri_l2 st (fun y x r => some (0, pc + 1, lv, .int (lg_cmp x y) :: r))
  | .dup => ri_c1 st (fun v r => some (0, pc + 1, lv, v :: v :: r))
  | .pop => ri_c1 st (fun v r => some (0, pc + 1, lv, r))
  | .dup_x1 => ri_c1 st (fun v r => ri_c1 r (fun u r => some (0, pc + 1, lv, v :: u :: v :: r)))
  | .dup2 => (match st with | v :: r => bif Nat.beq v.category 2 then some (0, pc + 1, lv, v :: v :: r) else ri_c1 (v :: r) (fun v r => ri_c1 r (fun u r => some (0, pc + 1, lv, v :: u :: v :: u :: r))) | [] => none)
  | .goto off => ri_tg pc off 1 lv st
  | .ifCond c9 off => ri_i1 st (fun x r => ri_br (ri_cnd c9 x 0) pc off (pc + 3) lv r)
  | .if_icmp c9 off => ri_i2 st (fun y x r => ri_br (ri_cnd c9 x y) pc off (pc + 3) lv r)
  | .ifnonnull off => ri_r1 st (fun _ r => ri_tg pc off 1 lv r) (fun r => some (0, pc + 3, lv, r))
  | .ifnull off => ri_r1 st (fun _ r => some (0, pc + 3, lv, r)) (fun r => ri_tg pc off 1 lv r)
  | .tableswitch dflt lo hi offs => ri_i1 st (fun x r => bif decide (x.toInt < lo) || decide (hi < x.toInt) then ri_tg pc dflt 1 lv r else (match offs[(x.toInt - lo).toNat]? with | some off => ri_tg pc off ((x.toInt - lo).toNat + 2) lv r | none => none))
  | .lookupswitch dflt ps => none
  | _ => none
section RIW
variable {p : Program} {l : Launch} {e : Env} {R : Room} {s : State} {m : MethodId} {args : Array Value} {below : List Frame} {meth : Method} {c : Code} {H : Heap} {locs : List Loc} {cells slots : Nat} {Q : State → Prop}
set_option maxHeartbeats 4000000 in
theorem ri_pure_ok {cc : ByteArray} {ad : Nat → Nat} {nL : Nat} {i : Instr} {len pc : Nat} {lv : ri_L} {st : List Value} {j p' : Nat} {lv' : ri_L} {st' : List Value} {ls : Array Slot} (hx : p.tables.exec = Jvm.exec) (hb : c.code = cc)
    (hd : decode cc pc = .ok (i, len)) (hlen : ri_len i = 0 ∨ ri_len i = len) (hl : lv_has ls nL (ri_lr ad lv)) (h : ri_pure nL i pc lv st = some (j, p', lv', st'))
    (k : ∀ ls' : Array Slot, lv_has ls' nL (ri_lr ad lv') → W p l e R s m args below meth c H locs cells slots Q (F0 m p' ls' (st'.map (ri_v ad)))) : W p l e R s m args below meth c H locs cells slots Q (F0 m pc ls (st.map (ri_v ad))) := by
  cases i with
  | iconst n =>
    have hl9 : 1 = len := hlen.resolve_left (fun q => by cases q)
    subst hl9
    cases h; exact lv_iconst hx hb hd rfl (k ls hl)
  | bipush n =>
    have hl9 : 2 = len := hlen.resolve_left (fun q => by cases q)
    subst hl9
    cases h; exact lv_bipush hx hb hd rfl (k ls hl)
  | sipush n =>
    have hl9 : 3 = len := hlen.resolve_left (fun q => by cases q)
    subst hl9
    cases h; exact lv_sipush hx hb hd rfl (k ls hl)
  | lconst n =>
    have hl9 : 1 = len := hlen.resolve_left (fun q => by cases q)
    subst hl9
    cases h; exact lv_lconst hx hb hd rfl (k ls hl)
  | aconst_null =>
    have hl9 : 1 = len := hlen.resolve_left (by decide)
    subst hl9
    cases h; exact lv_null hx hb hd  (k ls hl)
  | dconst n =>
    have hl9 : 1 = len := hlen.resolve_left (fun q => by cases q)
    subst hl9
    obtain ⟨hn, h⟩ := ri_ok_eq h; cases h; have e9 : n = 0 := Fin.ext (Nat.eq_of_beq_eq_true hn); subst e9; exact lv_dconst0 hx hb hd (k ls hl)
  | iload i =>
    have hl9 : 2 = len := hlen.resolve_left (fun q => by cases q)
    subst hl9
    obtain ⟨v, hg, hv, h⟩ := ri_gv_eq h; cases h; have g1 := ri_at hl hg; rw [ri_isI_v hv] at g1; have k2 := k ls hl; rw [List.map_cons, ri_isI_v hv] at k2; exact lv_iload hx hb hd g1 k2
  | iload_n i =>
    have hl9 : 1 = len := hlen.resolve_left (fun q => by cases q)
    subst hl9
    obtain ⟨v, hg, hv, h⟩ := ri_gv_eq h; cases h; have g1 := ri_at hl hg; rw [ri_isI_v hv] at g1; have k2 := k ls hl; rw [List.map_cons, ri_isI_v hv] at k2; exact lv_iload_n hx hb hd rfl g1 k2
  | istore i =>
    have hl9 : 2 = len := hlen.resolve_left (fun q => by cases q)
    subst hl9
    obtain ⟨v, r, e1, hv, h1⟩ := ri_v1_eq h; obtain ⟨hn, h2⟩ := ri_ok_eq h1; clear h h1; subst e1; cases h2; rw [List.map_cons, ri_isI_v hv]; exact lv_istore hx hb hd hl (Nat.le_of_ble_eq_true hn) (by rw [← ri_isI_v hv]; exact ri_s1_eq (ad := ad) (v := v)) (fun ls' hl' => k ls' hl')
  | istore_n i =>
    have hl9 : 1 = len := hlen.resolve_left (fun q => by cases q)
    subst hl9
    obtain ⟨v, r, e1, hv, h1⟩ := ri_v1_eq h; obtain ⟨hn, h2⟩ := ri_ok_eq h1; clear h h1; subst e1; cases h2; rw [List.map_cons, ri_isI_v hv]; exact lv_istore_n hx hb hd rfl hl (Nat.le_of_ble_eq_true hn) (by rw [← ri_isI_v hv]; exact ri_s1_eq (ad := ad) (v := v)) (fun ls' hl' => k ls' hl')
  | lload i =>
    have hl9 : 2 = len := hlen.resolve_left (fun q => by cases q)
    subst hl9
    obtain ⟨x, hg, h⟩ := ri_gl_eq h; cases h; exact lv_lload hx hb hd (ri_at hl hg) (k ls hl)
  | lload_n i =>
    have hl9 : 1 = len := hlen.resolve_left (fun q => by cases q)
    subst hl9
    obtain ⟨x, hg, h⟩ := ri_gl_eq h; cases h; exact lv_lload_n hx hb hd rfl (ri_at hl hg) (k ls hl)
  | dload i =>
    have hl9 : 2 = len := hlen.resolve_left (fun q => by cases q)
    subst hl9
    obtain ⟨x, hg, h⟩ := ri_gd_eq h; cases h; exact lv_dload hx hb hd (ri_at hl hg) (k ls hl)
  | dload_n i =>
    have hl9 : 1 = len := hlen.resolve_left (fun q => by cases q)
    subst hl9
    obtain ⟨x, hg, h⟩ := ri_gd_eq h; cases h; exact lv_dload_n hx hb hd rfl (ri_at hl hg) (k ls hl)
  | aload i =>
    have hl9 : 2 = len := hlen.resolve_left (fun q => by cases q)
    subst hl9
    rcases ri_gr_eq h with ⟨x, hg, h⟩ | ⟨hg, h⟩
    · cases h; exact lv_aload hx hb hd (ri_at hl hg) (k ls hl)
    · cases h; exact lv_aloadN hx hb hd (ri_at hl hg) (k ls hl)
  | aload_n i =>
    have hl9 : 1 = len := hlen.resolve_left (fun q => by cases q)
    subst hl9
    rcases ri_gr_eq h with ⟨x, hg, h⟩ | ⟨hg, h⟩
    · cases h; exact lv_aload_n hx hb hd rfl (ri_at hl hg) (k ls hl)
    · cases h; exact lv_aload_nN hx hb hd rfl (ri_at hl hg) (k ls hl)
  | lstore i =>
    have hl9 : 2 = len := hlen.resolve_left (fun q => by cases q)
    subst hl9
    obtain ⟨x, r, rfl, h⟩ := ri_l1_eq h; obtain ⟨hn, h⟩ := ri_ok_eq h; cases h; exact lv_lstore hx hb hd hl (Nat.le_of_ble_eq_true hn) (ri_s2_eq (ad := ad) (v := .long x)) (fun ls' hl' => k ls' hl')
  | lstore_n i =>
    have hl9 : 1 = len := hlen.resolve_left (fun q => by cases q)
    subst hl9
    obtain ⟨x, r, rfl, h⟩ := ri_l1_eq h; obtain ⟨hn, h⟩ := ri_ok_eq h; cases h; exact lv_lstore_n hx hb hd rfl hl (Nat.le_of_ble_eq_true hn) (ri_s2_eq (ad := ad) (v := .long x)) (fun ls' hl' => k ls' hl')
  | dstore i =>
    have hl9 : 2 = len := hlen.resolve_left (fun q => by cases q)
    subst hl9
    obtain ⟨x, r, rfl, h⟩ := ri_d1_eq h; obtain ⟨hn, h⟩ := ri_ok_eq h; cases h; exact lv_dstore hx hb hd hl (Nat.le_of_ble_eq_true hn) (ri_s2_eq (ad := ad) (v := .double x)) (fun ls' hl' => k ls' hl')
  | dstore_n i =>
    have hl9 : 1 = len := hlen.resolve_left (fun q => by cases q)
    subst hl9
    obtain ⟨x, r, rfl, h⟩ := ri_d1_eq h; obtain ⟨hn, h⟩ := ri_ok_eq h; cases h; exact lv_dstore_n hx hb hd rfl hl (Nat.le_of_ble_eq_true hn) (ri_s2_eq (ad := ad) (v := .double x)) (fun ls' hl' => k ls' hl')
  | astore i =>
    have hl9 : 2 = len := hlen.resolve_left (fun q => by cases q)
    subst hl9
    rcases ri_r1_eq h with ⟨x, r, rfl, h⟩ | ⟨r, rfl, h⟩
    · obtain ⟨hn, h⟩ := ri_ok_eq h; cases h; exact lv_astore hx hb hd hl (Nat.le_of_ble_eq_true hn) (ri_s1_eq (ad := ad) (v := .ref x)) (fun ls' hl' => k ls' hl')
    · obtain ⟨hn, h⟩ := ri_ok_eq h; cases h; exact lv_astoreN hx hb hd hl (Nat.le_of_ble_eq_true hn) (ri_s1_eq (ad := ad) (v := .null)) (fun ls' hl' => k ls' hl')
  | astore_n i =>
    have hl9 : 1 = len := hlen.resolve_left (fun q => by cases q)
    subst hl9
    rcases ri_r1_eq h with ⟨x, r, rfl, h⟩ | ⟨r, rfl, h⟩
    · obtain ⟨hn, h⟩ := ri_ok_eq h; cases h; exact lv_astore_n hx hb hd rfl hl (Nat.le_of_ble_eq_true hn) (ri_s1_eq (ad := ad) (v := .ref x)) (fun ls' hl' => k ls' hl')
    · obtain ⟨hn, h⟩ := ri_ok_eq h; cases h; exact lv_astore_nN hx hb hd rfl hl (Nat.le_of_ble_eq_true hn) (ri_s1_eq (ad := ad) (v := .null)) (fun ls' hl' => k ls' hl')
  | iinc i n =>
    have hl9 : 3 = len := hlen.resolve_left (fun q => by cases q)
    subst hl9
    obtain ⟨x, hg, h⟩ := ri_gi_eq h; obtain ⟨hn, h⟩ := ri_ok_eq h; cases h; obtain ⟨kk, hk⟩ := List.getElem?_of_mem (List.mem_map.mpr ⟨(i, .int x), ri_get_mem hg, rfl⟩ : (i, ri_v ad (.int x)) ∈ ri_lr ad lv); exact lv_iinc hx hb hd hl hk rfl (Nat.le_of_ble_eq_true hn) (ri_s1_eq (v := .int (x + Int32.ofInt n))) (fun ls' hl' => k ls' hl')
  | iadd =>
    have hl9 : 1 = len := hlen.resolve_left (by decide)
    subst hl9
    obtain ⟨y, x, r, rfl, h⟩ := ri_i2_eq h; cases h; exact lv_iadd hx hb hd  (k ls hl)
  | isub =>
    have hl9 : 1 = len := hlen.resolve_left (by decide)
    subst hl9
    obtain ⟨y, x, r, rfl, h⟩ := ri_i2_eq h; cases h; exact lv_isub hx hb hd  (k ls hl)
  | imul =>
    have hl9 : 1 = len := hlen.resolve_left (by decide)
    subst hl9
    obtain ⟨y, x, r, rfl, h⟩ := ri_i2_eq h; cases h; exact lv_imul hx hb hd  (k ls hl)
  | iand =>
    have hl9 : 1 = len := hlen.resolve_left (by decide)
    subst hl9
    obtain ⟨y, x, r, rfl, h⟩ := ri_i2_eq h; cases h; exact lv_iand hx hb hd  (k ls hl)
  | ior =>
    have hl9 : 1 = len := hlen.resolve_left (by decide)
    subst hl9
    obtain ⟨y, x, r, rfl, h⟩ := ri_i2_eq h; cases h; exact lv_ior hx hb hd  (k ls hl)
  | ixor =>
    have hl9 : 1 = len := hlen.resolve_left (by decide)
    subst hl9
    obtain ⟨y, x, r, rfl, h⟩ := ri_i2_eq h; cases h; exact lv_ixor hx hb hd  (k ls hl)
  | ishl =>
    have hl9 : 1 = len := hlen.resolve_left (by decide)
    subst hl9
    obtain ⟨y, x, r, rfl, h⟩ := ri_i2_eq h; cases h; exact lv_ishl hx hb hd  (k ls hl)
  | ishr =>
    have hl9 : 1 = len := hlen.resolve_left (by decide)
    subst hl9
    obtain ⟨y, x, r, rfl, h⟩ := ri_i2_eq h; cases h; exact lv_ishr hx hb hd  (k ls hl)
  | iushr =>
    have hl9 : 1 = len := hlen.resolve_left (by decide)
    subst hl9
    obtain ⟨y, x, r, rfl, h⟩ := ri_i2_eq h; cases h; exact lv_iushr hx hb hd rfl (k ls hl)
  | ladd =>
    have hl9 : 1 = len := hlen.resolve_left (by decide)
    subst hl9
    obtain ⟨y, x, r, rfl, h⟩ := ri_l2_eq h; cases h; exact lv_ladd hx hb hd  (k ls hl)
  | lsub =>
    have hl9 : 1 = len := hlen.resolve_left (by decide)
    subst hl9
    obtain ⟨y, x, r, rfl, h⟩ := ri_l2_eq h; cases h; exact lv_lsub hx hb hd  (k ls hl)
  | lmul =>
    have hl9 : 1 = len := hlen.resolve_left (by decide)
    subst hl9
    obtain ⟨y, x, r, rfl, h⟩ := ri_l2_eq h; cases h; exact lv_lmul hx hb hd  (k ls hl)
  | land =>
    have hl9 : 1 = len := hlen.resolve_left (by decide)
    subst hl9
    obtain ⟨y, x, r, rfl, h⟩ := ri_l2_eq h; cases h; exact lv_land hx hb hd  (k ls hl)
  | lor =>
    have hl9 : 1 = len := hlen.resolve_left (by decide)
    subst hl9
    obtain ⟨y, x, r, rfl, h⟩ := ri_l2_eq h; cases h; exact lv_lor hx hb hd  (k ls hl)
  | lxor =>
    have hl9 : 1 = len := hlen.resolve_left (by decide)
    subst hl9
    obtain ⟨y, x, r, rfl, h⟩ := ri_l2_eq h; cases h; exact lv_lxor hx hb hd  (k ls hl)
  | lshl =>
    have hl9 : 1 = len := hlen.resolve_left (by decide)
    subst hl9
    obtain ⟨y, x, r, rfl, h⟩ := ri_il_eq h; cases h; exact lv_lshl hx hb hd rfl (k ls hl)
  | lshr =>
    have hl9 : 1 = len := hlen.resolve_left (by decide)
    subst hl9
    obtain ⟨y, x, r, rfl, h⟩ := ri_il_eq h; cases h; exact lv_lshr hx hb hd rfl (k ls hl)
  | lushr =>
    have hl9 : 1 = len := hlen.resolve_left (by decide)
    subst hl9
    obtain ⟨y, x, r, rfl, h⟩ := ri_il_eq h; cases h; exact lv_lushr hx hb hd rfl (k ls hl)
  | idiv =>
    have hl9 : 1 = len := hlen.resolve_left (by decide)
    subst hl9
    obtain ⟨y, x, r, rfl, h⟩ := ri_i2_eq h; obtain ⟨hn, h⟩ := ri_ok_eq h; cases h; exact lv_idiv hx hb hd (ri_nz hn) (k ls hl)
  | irem =>
    have hl9 : 1 = len := hlen.resolve_left (by decide)
    subst hl9
    obtain ⟨y, x, r, rfl, h⟩ := ri_i2_eq h; obtain ⟨hn, h⟩ := ri_ok_eq h; cases h; exact lv_irem hx hb hd (ri_nz hn) (k ls hl)
  | ldiv =>
    have hl9 : 1 = len := hlen.resolve_left (by decide)
    subst hl9
    obtain ⟨y, x, r, rfl, h⟩ := ri_l2_eq h; obtain ⟨hn, h⟩ := ri_ok_eq h; cases h; exact lv_ldiv hx hb hd (ri_nzl hn) (k ls hl)
  | lrem =>
    have hl9 : 1 = len := hlen.resolve_left (by decide)
    subst hl9
    obtain ⟨y, x, r, rfl, h⟩ := ri_l2_eq h; obtain ⟨hn, h⟩ := ri_ok_eq h; cases h; exact lv_lrem hx hb hd (ri_nzl hn) (k ls hl)
  | ineg =>
    have hl9 : 1 = len := hlen.resolve_left (by decide)
    subst hl9
    obtain ⟨x, r, rfl, h⟩ := ri_i1_eq h; cases h; exact lv_ineg hx hb hd  (k ls hl)
  | lneg =>
    have hl9 : 1 = len := hlen.resolve_left (by decide)
    subst hl9
    obtain ⟨x, r, rfl, h⟩ := ri_l1_eq h; cases h; exact lv_lneg hx hb hd  (k ls hl)
  | i2l =>
    have hl9 : 1 = len := hlen.resolve_left (by decide)
    subst hl9
    obtain ⟨x, r, rfl, h⟩ := ri_i1_eq h; cases h; exact lv_i2l hx hb hd rfl (k ls hl)
  | l2i =>
    have hl9 : 1 = len := hlen.resolve_left (by decide)
    subst hl9
    obtain ⟨x, r, rfl, h⟩ := ri_l1_eq h; cases h; exact lv_l2i hx hb hd rfl (k ls hl)
  | i2b =>
    have hl9 : 1 = len := hlen.resolve_left (by decide)
    subst hl9
    obtain ⟨x, r, rfl, h⟩ := ri_i1_eq h; cases h; exact lv_i2b hx hb hd rfl (k ls hl)
  | i2s =>
    have hl9 : 1 = len := hlen.resolve_left (by decide)
    subst hl9
    obtain ⟨x, r, rfl, h⟩ := ri_i1_eq h; cases h; exact lv_i2s hx hb hd rfl (k ls hl)
  | i2c =>
    have hl9 : 1 = len := hlen.resolve_left (by decide)
    subst hl9
    obtain ⟨x, r, rfl, h⟩ := ri_i1_eq h; cases h; exact lv_i2c hx hb hd rfl (k ls hl)
  | i2d =>
    have hl9 : 1 = len := hlen.resolve_left (by decide)
    subst hl9
    obtain ⟨x, r, rfl, h⟩ := ri_i1_eq h; cases h; exact lv_i2d hx hb hd  (k ls hl)
  | l2d =>
    have hl9 : 1 = len := hlen.resolve_left (by decide)
    subst hl9
    obtain ⟨x, r, rfl, h⟩ := ri_l1_eq h; cases h; exact lv_l2d hx hb hd  (k ls hl)
  | d2i =>
    have hl9 : 1 = len := hlen.resolve_left (by decide)
    subst hl9
    obtain ⟨x, r, rfl, h⟩ := ri_d1_eq h; cases h; exact lv_d2i hx hb hd  (k ls hl)
  | d2l =>
    have hl9 : 1 = len := hlen.resolve_left (by decide)
    subst hl9
    obtain ⟨x, r, rfl, h⟩ := ri_d1_eq h; cases h; exact lv_d2l hx hb hd  (k ls hl)
  | dneg =>
    have hl9 : 1 = len := hlen.resolve_left (by decide)
    subst hl9
    obtain ⟨x, r, rfl, h⟩ := ri_d1_eq h; cases h; exact lv_dneg hx hb hd  (k ls hl)
  | dadd =>
    have hl9 : 1 = len := hlen.resolve_left (by decide)
    subst hl9
    obtain ⟨y, x, r, rfl, h⟩ := ri_d2_eq h; obtain ⟨hn, h⟩ := ri_ok_eq h; cases h; exact lv_dadd hx hb hd (ri_n64_ok hn) (k ls hl)
  | dsub =>
    have hl9 : 1 = len := hlen.resolve_left (by decide)
    subst hl9
    obtain ⟨y, x, r, rfl, h⟩ := ri_d2_eq h; obtain ⟨hn, h⟩ := ri_ok_eq h; cases h; exact lv_dsub hx hb hd (ri_n64_ok hn) (k ls hl)
  | dmul =>
    have hl9 : 1 = len := hlen.resolve_left (by decide)
    subst hl9
    obtain ⟨y, x, r, rfl, h⟩ := ri_d2_eq h; obtain ⟨hn, h⟩ := ri_ok_eq h; cases h; exact lv_dmul hx hb hd (ri_n64_ok hn) (k ls hl)
  | ddiv =>
    have hl9 : 1 = len := hlen.resolve_left (by decide)
    subst hl9
    obtain ⟨y, x, r, rfl, h⟩ := ri_d2_eq h; obtain ⟨hn, h⟩ := ri_ok_eq h; cases h; exact lv_ddiv hx hb hd (ri_n64_ok hn) (k ls hl)
  | dcmp op =>
    have hl9 : 1 = len := hlen.resolve_left (fun q => by cases q)
    subst hl9
    obtain ⟨y, x, r, rfl, h⟩ := ri_d2_eq h; cases h; exact lv_dcmp hx hb hd (k ls hl)
  | lcmp =>
    have hl9 : 1 = len := hlen.resolve_left (by decide)
    subst hl9
    obtain ⟨y, x, r, rfl, h⟩ := ri_l2_eq h; cases h; exact W.lcmp hx hb hd (k ls hl)
  | dup =>
    have hl9 : 1 = len := hlen.resolve_left (by decide)
    subst hl9
    obtain ⟨v, r, rfl, hv, h⟩ := ri_c1_eq h; cases h; exact lv_dup hx hb hd ((ri_v_cat ad v).trans hv) (k ls hl)
  | pop =>
    have hl9 : 1 = len := hlen.resolve_left (by decide)
    subst hl9
    obtain ⟨v, r, rfl, hv, h⟩ := ri_c1_eq h; cases h; exact lv_pop hx hb hd ((ri_v_cat ad v).trans hv) (k ls hl)
  | dup_x1 =>
    have hl9 : 1 = len := hlen.resolve_left (by decide)
    subst hl9
    obtain ⟨v, r, rfl, hv, h⟩ := ri_c1_eq h; obtain ⟨u, r, rfl, hu, h⟩ := ri_c1_eq h; cases h; exact lv_dup_x1 hx hb hd ((ri_v_cat ad v).trans hv) ((ri_v_cat ad u).trans hu) (k ls hl)
  | dup2 =>
    have hl9 : 1 = len := hlen.resolve_left (by decide)
    subst hl9
    cases st with
    | nil => cases h
    | cons v r =>
      have h : (bif Nat.beq v.category 2 then some (0, pc + 1, lv, v :: v :: r) else ri_c1 (v :: r) (fun v r => ri_c1 r (fun u r => some (0, pc + 1, lv, v :: u :: v :: u :: r)))) = some (j, p', lv', st') := h
      cases hb2 : Nat.beq v.category 2 with
      | true => rw [hb2] at h; cases h; exact lv_dup2_2 hx hb hd ((ri_v_cat ad v).trans (Nat.eq_of_beq_eq_true hb2)) (k ls hl)
      | false =>
        rw [hb2, cond_false] at h
        obtain ⟨v9, r9, e1, hv, h1⟩ := ri_c1_eq h
        obtain ⟨u, r8, e2, hu, h2⟩ := ri_c1_eq h1
        cases e1; cases e2; cases h2
        exact lv_dup2_11 hx hb hd ((ri_v_cat ad v).trans hv) ((ri_v_cat ad u).trans hu) (k ls hl)
  | goto off =>
    have hl9 : 3 = len := hlen.resolve_left (fun q => by cases q)
    subst hl9
    obtain ⟨t, ht, e⟩ := ri_tg_eq h; cases e; exact lv_goto hx hb hd ht (k ls hl)
  | ifCond c9 off =>
    have hl9 : 3 = len := hlen.resolve_left (fun q => by cases q)
    subst hl9
    obtain ⟨x, r, rfl, h⟩ := ri_i1_eq h
    obtain ⟨t, ht, hz⟩ := ri_br_eq h
    cases c9 with
    | eq =>
      refine lv_if_eq hx hb hd ht (fun hq => ?_) (fun hq => ?_)
      · rcases hz with ⟨hc, e1, e2, e3⟩ | ⟨hc, e1, e2, e3⟩
        · cases e1; cases e2; cases e3; exact k ls hl
        · exact absurd hc (by simp [ri_cnd, hq])
      · rcases hz with ⟨hc, e1, e2, e3⟩ | ⟨hc, e1, e2, e3⟩
        · exact absurd hc (by simp [ri_cnd, hq])
        · cases e1; cases e2; cases e3; exact k ls hl
    | ne =>
      refine lv_if_ne hx hb hd ht (fun hq => ?_) (fun hq => ?_)
      · rcases hz with ⟨hc, e1, e2, e3⟩ | ⟨hc, e1, e2, e3⟩
        · cases e1; cases e2; cases e3; exact k ls hl
        · exact absurd hc (by simp [ri_cnd, hq])
      · rcases hz with ⟨hc, e1, e2, e3⟩ | ⟨hc, e1, e2, e3⟩
        · exact absurd hc (by simp [ri_cnd, hq])
        · cases e1; cases e2; cases e3; exact k ls hl
    | lt =>
      refine lv_if_lt hx hb hd ht (fun hq => ?_) (fun hq => ?_)
      · rcases hz with ⟨hc, e1, e2, e3⟩ | ⟨hc, e1, e2, e3⟩
        · cases e1; cases e2; cases e3; exact k ls hl
        · exact absurd hc (by simp [ri_cnd, hq])
      · rcases hz with ⟨hc, e1, e2, e3⟩ | ⟨hc, e1, e2, e3⟩
        · exact absurd hc (by simp [ri_cnd, hq])
        · cases e1; cases e2; cases e3; exact k ls hl
    | ge =>
      refine lv_if_ge hx hb hd ht (fun hq => ?_) (fun hq => ?_)
      · rcases hz with ⟨hc, e1, e2, e3⟩ | ⟨hc, e1, e2, e3⟩
        · cases e1; cases e2; cases e3; exact k ls hl
        · exact absurd hc (by simp [ri_cnd, hq])
      · rcases hz with ⟨hc, e1, e2, e3⟩ | ⟨hc, e1, e2, e3⟩
        · exact absurd hc (by simp [ri_cnd, hq])
        · cases e1; cases e2; cases e3; exact k ls hl
    | gt =>
      refine lv_if_gt hx hb hd ht (fun hq => ?_) (fun hq => ?_)
      · rcases hz with ⟨hc, e1, e2, e3⟩ | ⟨hc, e1, e2, e3⟩
        · cases e1; cases e2; cases e3; exact k ls hl
        · exact absurd hc (by simp [ri_cnd, hq])
      · rcases hz with ⟨hc, e1, e2, e3⟩ | ⟨hc, e1, e2, e3⟩
        · exact absurd hc (by simp [ri_cnd, hq])
        · cases e1; cases e2; cases e3; exact k ls hl
    | le =>
      refine lv_if_le hx hb hd ht (fun hq => ?_) (fun hq => ?_)
      · rcases hz with ⟨hc, e1, e2, e3⟩ | ⟨hc, e1, e2, e3⟩
        · cases e1; cases e2; cases e3; exact k ls hl
        · exact absurd hc (by simp [ri_cnd, hq])
      · rcases hz with ⟨hc, e1, e2, e3⟩ | ⟨hc, e1, e2, e3⟩
        · exact absurd hc (by simp [ri_cnd, hq])
        · cases e1; cases e2; cases e3; exact k ls hl
  | if_icmp c9 off =>
    have hl9 : 3 = len := hlen.resolve_left (fun q => by cases q)
    subst hl9
    obtain ⟨y, x, r, rfl, h⟩ := ri_i2_eq h
    obtain ⟨t, ht, hz⟩ := ri_br_eq h
    cases c9 with
    | eq =>
      refine lv_icmp_eq hx hb hd ht (fun hq => ?_) (fun hq => ?_)
      · rcases hz with ⟨hc, e1, e2, e3⟩ | ⟨hc, e1, e2, e3⟩
        · cases e1; cases e2; cases e3; exact k ls hl
        · exact absurd hc (by simp [ri_cnd, hq])
      · rcases hz with ⟨hc, e1, e2, e3⟩ | ⟨hc, e1, e2, e3⟩
        · exact absurd hc (by simp [ri_cnd, hq])
        · cases e1; cases e2; cases e3; exact k ls hl
    | ne =>
      refine lv_icmp_ne hx hb hd ht (fun hq => ?_) (fun hq => ?_)
      · rcases hz with ⟨hc, e1, e2, e3⟩ | ⟨hc, e1, e2, e3⟩
        · cases e1; cases e2; cases e3; exact k ls hl
        · exact absurd hc (by simp [ri_cnd, hq])
      · rcases hz with ⟨hc, e1, e2, e3⟩ | ⟨hc, e1, e2, e3⟩
        · exact absurd hc (by simp [ri_cnd, hq])
        · cases e1; cases e2; cases e3; exact k ls hl
    | lt =>
      refine lv_icmp_lt hx hb hd ht (fun hq => ?_) (fun hq => ?_)
      · rcases hz with ⟨hc, e1, e2, e3⟩ | ⟨hc, e1, e2, e3⟩
        · cases e1; cases e2; cases e3; exact k ls hl
        · exact absurd hc (by simp [ri_cnd, hq])
      · rcases hz with ⟨hc, e1, e2, e3⟩ | ⟨hc, e1, e2, e3⟩
        · exact absurd hc (by simp [ri_cnd, hq])
        · cases e1; cases e2; cases e3; exact k ls hl
    | ge =>
      refine lv_icmp_ge hx hb hd ht (fun hq => ?_) (fun hq => ?_)
      · rcases hz with ⟨hc, e1, e2, e3⟩ | ⟨hc, e1, e2, e3⟩
        · cases e1; cases e2; cases e3; exact k ls hl
        · exact absurd hc (by simp [ri_cnd, hq])
      · rcases hz with ⟨hc, e1, e2, e3⟩ | ⟨hc, e1, e2, e3⟩
        · exact absurd hc (by simp [ri_cnd, hq])
        · cases e1; cases e2; cases e3; exact k ls hl
    | gt =>
      refine lv_icmp_gt hx hb hd ht (fun hq => ?_) (fun hq => ?_)
      · rcases hz with ⟨hc, e1, e2, e3⟩ | ⟨hc, e1, e2, e3⟩
        · cases e1; cases e2; cases e3; exact k ls hl
        · exact absurd hc (by simp [ri_cnd, hq])
      · rcases hz with ⟨hc, e1, e2, e3⟩ | ⟨hc, e1, e2, e3⟩
        · exact absurd hc (by simp [ri_cnd, hq])
        · cases e1; cases e2; cases e3; exact k ls hl
    | le =>
      refine lv_icmp_le hx hb hd ht (fun hq => ?_) (fun hq => ?_)
      · rcases hz with ⟨hc, e1, e2, e3⟩ | ⟨hc, e1, e2, e3⟩
        · cases e1; cases e2; cases e3; exact k ls hl
        · exact absurd hc (by simp [ri_cnd, hq])
      · rcases hz with ⟨hc, e1, e2, e3⟩ | ⟨hc, e1, e2, e3⟩
        · exact absurd hc (by simp [ri_cnd, hq])
        · cases e1; cases e2; cases e3; exact k ls hl
  | ifnonnull off =>
    have hl9 : 3 = len := hlen.resolve_left (fun q => by cases q)
    subst hl9
    rcases ri_r1_eq h with ⟨x, r, rfl, h⟩ | ⟨r, rfl, h⟩
    · obtain ⟨t, ht, e⟩ := ri_tg_eq h; cases e; exact lv_ifnonnull hx hb hd ht (k ls hl)
    · cases h; exact lv_ifnonnullN hx hb hd (k ls hl)
  | ifnull off =>
    have hl9 : 3 = len := hlen.resolve_left (fun q => by cases q)
    subst hl9
    rcases ri_r1_eq h with ⟨x, r, rfl, h⟩ | ⟨r, rfl, h⟩
    · cases h; exact lv_ifnull hx hb hd (k ls hl)
    · obtain ⟨t, ht, e⟩ := ri_tg_eq h; cases e; exact lv_ifnullN hx hb hd ht (k ls hl)
  | tableswitch dflt lo hi offs =>
    obtain ⟨x, r, e1, h9⟩ := ri_i1_eq h
    clear h
    have h := h9
    clear h9
    subst e1
    cases hc : (decide (x.toInt < lo) || decide (hi < x.toInt)) with
    | true =>
      rw [hc, cond_true] at h
      obtain ⟨t, ht, e9⟩ := ri_tg_eq h
      cases e9
      exact lv_tableOut hx hb hd (by simpa using hc) ht (k ls hl)
    | false =>
      rw [hc] at h
      have hc2 : ¬ x.toInt < lo ∧ ¬ hi < x.toInt := by simpa using hc
      cases ho : offs[(x.toInt - lo).toNat]? with
      | none => simp only [ho, cond_false] at h; cases h
      | some off =>
        simp only [ho, cond_false] at h
        obtain ⟨t, ht, e9⟩ := ri_tg_eq h
        cases e9
        exact lv_tableIn hx hb hd hc2.1 hc2.2 ho ht (k ls hl)
  | _ => cases h
end RIW
end
section
/-! ===== the reckoner, part 1b: ints that aren't known ===== -/
/-- a condition: of a branch (which way it went), or what a new number of the unknown is -/
abbrev ri_Cd : Type := Instr × Value × Value × Nat × Bool
def ri_sy (ad : Nat → Nat) (k : Nat) : Int32 := ri_I ad (.float (UInt32.ofNat k))
def ri_op2 (i : Instr) (x y : Int32) : Option Int32 := match i with
  | .iadd => some (x + y)
  | .isub => some (x - y)
  | .imul => some (x * y)
  | .iand => some (x &&& y)
  | .ior => some (x ||| y)
  | .ixor => some (x ^^^ y)
  | .ishl => some (x <<< (y &&& 31))
  | .ishr => some (x >>> (y &&& 31))
  | .iushr => some ((x.toUInt32 >>> (y.toUInt32 &&& Int32.toUInt32 31)).toInt32)
  | _ => none
def ri_op1 (i : Instr) (x : Int32) : Option Int32 := match i with
  | .ineg => some (-x)
  | .i2b => some (x.toInt8.toInt32)
  | .i2s => some (x.toInt16.toInt32)
  | .i2c => some ((x.toUInt32 % 65536).toInt32)
  | _ => none
/-- how many ints an instruction takes -/
def ri_ar (i : Instr) : Nat := match i with
  | .iadd | .isub | .imul | .iand | .ior | .ixor | .ishl | .ishr | .iushr => 2
  | .ineg | .i2b | .i2s | .i2c => 1
  | _ => 0
def ri_sem (ad : Nat → Nat) (q : ri_Cd) : Prop := match q.1 with
  | .if_icmp c _ => ri_cnd c (ri_I ad q.2.1) (ri_I ad q.2.2.1) = q.2.2.2.2
  | .ifCond c _ => ri_cnd c (ri_I ad q.2.1) 0 = q.2.2.2.2
  | .lcmp => ri_cnd .lt (lg_cmp (ri_I ad q.2.1).toInt64 (match q.2.2.1 with | .long y => y | _ => 0)) 0 = q.2.2.2.2
  | i => match ri_ar i with
    | 2 => ri_op2 i (ri_I ad q.2.1) (ri_I ad q.2.2.1) = some (ri_sy ad q.2.2.2.1)
    | _ => ri_op1 i (ri_I ad q.2.1) = some (ri_sy ad q.2.2.2.1)
/-- are the first a of the stack known ints? -/
def ri_conc (a : Nat) (st : List Value) : Bool := match a with
  | 1 => (match st with | .int _ :: _ => true | _ => false)
  | _ => (match st with | .int _ :: .int _ :: _ => true | _ => false)
noncomputable def ri_sym (nL : Nat) (o : Option (Bool ⊕ Int32)) (fr : Nat) (i : Instr) (pc : Nat) (lv : ri_L) (st : List Value) : Option (ri_R × Nat × ri_Cd) := match i with
  | .ifCond c off => (match o with
    | some (.inl b) => ri_v1 st (fun v r => match (pc : Int) + off with
      | .ofNat t => some ((bif b then (1, t, lv, r) else (0, pc + 3, lv, r)), fr + 1, (.ifCond c off, v, .int 0, 0, b))
      | .negSucc _ => none)
    | _ => none)
  | .if_icmp c off => (match o with
    | some (.inl b) => ri_v1 st (fun y r => ri_v1 r (fun x r => match (pc : Int) + off with
      | .ofNat t => some ((bif b then (1, t, lv, r) else (0, pc + 3, lv, r)), fr + 1, (.if_icmp c off, x, y, 0, b))
      | .negSucc _ => none))
    | _ => none)
  | .tableswitch d9 lo hi offs => (match o with
    | some (.inr x) => ri_v1 st (fun v r => match ri_pure nL (.tableswitch d9 lo hi offs) pc lv (.int x :: r) with
      | some z => some (z, fr + 1, (.if_icmp .eq 0, v, .int x, 0, true))
      | none => none)
    | some (.inl true) => ri_v1 st (fun v r => ri_ok (decide ((Int32.ofInt hi).toInt = hi)) (match ri_tg pc d9 1 lv r with
      | some z => some (z, fr + 1, (.if_icmp .gt 0, v, .int (Int32.ofInt hi), 0, true))
      | none => none))
    | some (.inl false) => ri_v1 st (fun v r => ri_ok (decide ((Int32.ofInt lo).toInt = lo)) (match ri_tg pc d9 1 lv r with
      | some z => some (z, fr + 1, (.if_icmp .lt 0, v, .int (Int32.ofInt lo), 0, true))
      | none => none))
    | none => none)
  | i => (match ri_ar i with
    | 1 => ri_v1 st (fun x r => some ((0, pc + 1, lv, .float (UInt32.ofNat fr) :: r), fr + 1, (i, x, .int 0, fr, true)))
    | 2 => ri_v1 st (fun y r => ri_v1 r (fun x r => some ((0, pc + 1, lv, .float (UInt32.ofNat fr) :: r), fr + 1, (i, x, y, fr, true))))
    | _ => none)
section RIY
variable {p : Program} {l : Launch} {e : Env} {R : Room} {s : State} {m : MethodId} {args : Array Value} {below : List Frame} {meth : Method} {c : Code} {H : Heap} {locs : List Loc} {cells slots : Nat} {Q : State → Prop}
variable {cc : ByteArray} {ls : Array Slot} {rest : List Value}
theorem ri_op2_ok {i : Instr} {len pc : Nat} {x y z : Int32} (hx : p.tables.exec = Jvm.exec) (hb : c.code = cc) (hd : decode cc pc = .ok (i, len)) (hlen : ri_len i = 0 ∨ ri_len i = len) (h : ri_op2 i x y = some z) (k : W p l e R s m args below meth c H locs cells slots Q (F0 m (pc + 1) ls (.int z :: rest))) : W p l e R s m args below meth c H locs cells slots Q (F0 m pc ls (.int y :: .int x :: rest)) := by
  have hl9 : ∀ {n : Nat}, ri_len i = n + 1 → n + 1 = len := fun h9 => (hlen.resolve_left (fun q => by rw [h9] at q; cases q)) ▸ h9.symm
  cases i with
  | iadd => cases hl9 rfl; cases h; exact lv_iadd hx hb hd k
  | isub => cases hl9 rfl; cases h; exact lv_isub hx hb hd k
  | imul => cases hl9 rfl; cases h; exact lv_imul hx hb hd k
  | iand => cases hl9 rfl; cases h; exact lv_iand hx hb hd k
  | ior => cases hl9 rfl; cases h; exact lv_ior hx hb hd k
  | ixor => cases hl9 rfl; cases h; exact lv_ixor hx hb hd k
  | ishl => cases hl9 rfl; cases h; exact lv_ishl hx hb hd k
  | ishr => cases hl9 rfl; cases h; exact lv_ishr hx hb hd k
  | iushr => cases hl9 rfl; cases h; exact lv_iushr hx hb hd rfl k
  | _ => cases h
theorem ri_op1_ok {i : Instr} {len pc : Nat} {x z : Int32} (hx : p.tables.exec = Jvm.exec) (hb : c.code = cc) (hd : decode cc pc = .ok (i, len)) (hlen : ri_len i = 0 ∨ ri_len i = len) (h : ri_op1 i x = some z) (k : W p l e R s m args below meth c H locs cells slots Q (F0 m (pc + 1) ls (.int z :: rest))) : W p l e R s m args below meth c H locs cells slots Q (F0 m pc ls (.int x :: rest)) := by
  have hl9 : ∀ {n : Nat}, ri_len i = n + 1 → n + 1 = len := fun h9 => (hlen.resolve_left (fun q => by rw [h9] at q; cases q)) ▸ h9.symm
  cases i with
  | ineg => cases hl9 rfl; cases h; exact lv_ineg hx hb hd k
  | i2b => cases hl9 rfl; cases h; exact lv_i2b hx hb hd rfl k
  | i2s => cases hl9 rfl; cases h; exact lv_i2s hx hb hd rfl k
  | i2c => cases hl9 rfl; cases h; exact lv_i2c hx hb hd rfl k
  | _ => cases h
theorem ri_if_ok {c9 : Jvm.ClassFile.Cond} {off : Int} {len pc t : Nat} {x : Int32} {b : Bool} (hx : p.tables.exec = Jvm.exec) (hb : c.code = cc) (hd : decode cc pc = .ok (.ifCond c9 off, len)) (hlen : ri_len (.ifCond c9 off) = 0 ∨ ri_len (.ifCond c9 off) = len) (ht : (pc : Int) + off = (t : Int)) (hc : ri_cnd c9 x 0 = b)
    (k : W p l e R s m args below meth c H locs cells slots Q (F0 m (bif b then t else pc + 3) ls rest)) : W p l e R s m args below meth c H locs cells slots Q (F0 m pc ls (.int x :: rest)) := by
  cases (hlen.resolve_left (fun q => by cases q) : 3 = len)
  cases c9 with
  | eq => exact lv_if_eq hx hb hd ht (fun hq => by rw [show b = true by rw [← hc]; simp [ri_cnd, hq]] at k; exact k) (fun hq => by rw [show b = false by rw [← hc]; simp [ri_cnd, hq]] at k; exact k)
  | ne => exact lv_if_ne hx hb hd ht (fun hq => by rw [show b = true by rw [← hc]; simp [ri_cnd, hq]] at k; exact k) (fun hq => by rw [show b = false by rw [← hc]; simp [ri_cnd, hq]] at k; exact k)
  | lt => exact lv_if_lt hx hb hd ht (fun hq => by rw [show b = true by rw [← hc]; simp [ri_cnd, hq]] at k; exact k) (fun hq => by rw [show b = false by rw [← hc]; simp [ri_cnd, hq]] at k; exact k)
  | ge => exact lv_if_ge hx hb hd ht (fun hq => by rw [show b = true by rw [← hc]; simp [ri_cnd, hq]] at k; exact k) (fun hq => by rw [show b = false by rw [← hc]; simp [ri_cnd, hq]] at k; exact k)
  | gt => exact lv_if_gt hx hb hd ht (fun hq => by rw [show b = true by rw [← hc]; simp [ri_cnd, hq]] at k; exact k) (fun hq => by rw [show b = false by rw [← hc]; simp [ri_cnd, hq]] at k; exact k)
  | le => exact lv_if_le hx hb hd ht (fun hq => by rw [show b = true by rw [← hc]; simp [ri_cnd, hq]] at k; exact k) (fun hq => by rw [show b = false by rw [← hc]; simp [ri_cnd, hq]] at k; exact k)
theorem ri_icmp_ok {c9 : Jvm.ClassFile.Cond} {off : Int} {len pc t : Nat} {x y : Int32} {b : Bool} (hx : p.tables.exec = Jvm.exec) (hb : c.code = cc) (hd : decode cc pc = .ok (.if_icmp c9 off, len)) (hlen : ri_len (.if_icmp c9 off) = 0 ∨ ri_len (.if_icmp c9 off) = len) (ht : (pc : Int) + off = (t : Int)) (hc : ri_cnd c9 x y = b)
    (k : W p l e R s m args below meth c H locs cells slots Q (F0 m (bif b then t else pc + 3) ls rest)) : W p l e R s m args below meth c H locs cells slots Q (F0 m pc ls (.int y :: .int x :: rest)) := by
  cases (hlen.resolve_left (fun q => by cases q) : 3 = len)
  cases c9 with
  | eq => exact lv_icmp_eq hx hb hd ht (fun hq => by rw [show b = true by rw [← hc]; simp [ri_cnd, hq]] at k; exact k) (fun hq => by rw [show b = false by rw [← hc]; simp [ri_cnd, hq]] at k; exact k)
  | ne => exact lv_icmp_ne hx hb hd ht (fun hq => by rw [show b = true by rw [← hc]; simp [ri_cnd, hq]] at k; exact k) (fun hq => by rw [show b = false by rw [← hc]; simp [ri_cnd, hq]] at k; exact k)
  | lt => exact lv_icmp_lt hx hb hd ht (fun hq => by rw [show b = true by rw [← hc]; simp [ri_cnd, hq]] at k; exact k) (fun hq => by rw [show b = false by rw [← hc]; simp [ri_cnd, hq]] at k; exact k)
  | ge => exact lv_icmp_ge hx hb hd ht (fun hq => by rw [show b = true by rw [← hc]; simp [ri_cnd, hq]] at k; exact k) (fun hq => by rw [show b = false by rw [← hc]; simp [ri_cnd, hq]] at k; exact k)
  | gt => exact lv_icmp_gt hx hb hd ht (fun hq => by rw [show b = true by rw [← hc]; simp [ri_cnd, hq]] at k; exact k) (fun hq => by rw [show b = false by rw [← hc]; simp [ri_cnd, hq]] at k; exact k)
  | le => exact lv_icmp_le hx hb hd ht (fun hq => by rw [show b = true by rw [← hc]; simp [ri_cnd, hq]] at k; exact k) (fun hq => by rw [show b = false by rw [← hc]; simp [ri_cnd, hq]] at k; exact k)
set_option maxHeartbeats 4000000 in
theorem ri_sym_ok {ad : Nat → Nat} {nL fr : Nat} {o : Option (Bool ⊕ Int32)} {i : Instr} {len pc : Nat} {lv : ri_L} {st : List Value} {z : ri_R × Nat × ri_Cd} (hx : p.tables.exec = Jvm.exec) (hb : c.code = cc)
    (hd : decode cc pc = .ok (i, len)) (hlen : ri_len i = 0 ∨ ri_len i = len) (hl : lv_has ls nL (ri_lr ad lv)) (h : ri_sym nL o fr i pc lv st = some z) (hs : ri_sem ad z.2.2)
    (k : ∀ ls' : Array Slot, lv_has ls' nL (ri_lr ad z.1.2.2.1) → W p l e R s m args below meth c H locs cells slots Q (F0 m z.1.2.1 ls' (z.1.2.2.2.map (ri_v ad)))) : W p l e R s m args below meth c H locs cells slots Q (F0 m pc ls (st.map (ri_v ad))) := by
  have two : ∀ (i : Instr), ri_ar i = 2 → decode cc pc = .ok (i, len) → (ri_len i = 0 ∨ ri_len i = len) → ri_v1 st (fun y r => ri_v1 r (fun x r => some (((0, pc + 1, lv, .float (UInt32.ofNat fr) :: r) : ri_R), fr + 1, ((i, x, y, fr, true) : ri_Cd)))) = some z → (∀ q : ri_Cd, q.1 = i → ri_sem ad q → ri_op2 i (ri_I ad q.2.1) (ri_I ad q.2.2.1) = some (ri_sy ad q.2.2.2.1)) → W p l e R s m args below meth c H locs cells slots Q (F0 m pc ls (st.map (ri_v ad))) := by
    intro i _ hd hlen h hq
    obtain ⟨y, r1, e1, hy, h1⟩ := ri_v1_eq h
    obtain ⟨x, r, e2, hx9, h2⟩ := ri_v1_eq h1
    clear h h1
    subst e1; subst e2
    cases h2
    rw [List.map_cons, List.map_cons, ri_isI_v hy, ri_isI_v hx9]
    exact ri_op2_ok hx hb hd hlen (hq _ rfl hs) (k ls hl)
  have one : ∀ (i : Instr), ri_ar i = 1 → decode cc pc = .ok (i, len) → (ri_len i = 0 ∨ ri_len i = len) → ri_v1 st (fun x r => some (((0, pc + 1, lv, .float (UInt32.ofNat fr) :: r) : ri_R), fr + 1, ((i, x, .int 0, fr, true) : ri_Cd))) = some z → (∀ q : ri_Cd, q.1 = i → ri_sem ad q → ri_op1 i (ri_I ad q.2.1) = some (ri_sy ad q.2.2.2.1)) → W p l e R s m args below meth c H locs cells slots Q (F0 m pc ls (st.map (ri_v ad))) := by
    intro i _ hd hlen h hq
    obtain ⟨x, r, e2, hx9, h2⟩ := ri_v1_eq h
    clear h
    subst e2
    cases h2
    rw [List.map_cons, ri_isI_v hx9]
    exact ri_op1_ok hx hb hd hlen (hq _ rfl hs) (k ls hl)
  cases i with
  | iadd => exact two .iadd rfl hd hlen h (fun q e h9 => by obtain ⟨q1, q2⟩ := q; cases e; exact h9)
  | isub => exact two .isub rfl hd hlen h (fun q e h9 => by obtain ⟨q1, q2⟩ := q; cases e; exact h9)
  | imul => exact two .imul rfl hd hlen h (fun q e h9 => by obtain ⟨q1, q2⟩ := q; cases e; exact h9)
  | iand => exact two .iand rfl hd hlen h (fun q e h9 => by obtain ⟨q1, q2⟩ := q; cases e; exact h9)
  | ior => exact two .ior rfl hd hlen h (fun q e h9 => by obtain ⟨q1, q2⟩ := q; cases e; exact h9)
  | ixor => exact two .ixor rfl hd hlen h (fun q e h9 => by obtain ⟨q1, q2⟩ := q; cases e; exact h9)
  | ishl => exact two .ishl rfl hd hlen h (fun q e h9 => by obtain ⟨q1, q2⟩ := q; cases e; exact h9)
  | ishr => exact two .ishr rfl hd hlen h (fun q e h9 => by obtain ⟨q1, q2⟩ := q; cases e; exact h9)
  | iushr => exact two .iushr rfl hd hlen h (fun q e h9 => by obtain ⟨q1, q2⟩ := q; cases e; exact h9)
  | ineg => exact one .ineg rfl hd hlen h (fun q e h9 => by obtain ⟨q1, q2⟩ := q; cases e; exact h9)
  | i2b => exact one .i2b rfl hd hlen h (fun q e h9 => by obtain ⟨q1, q2⟩ := q; cases e; exact h9)
  | i2s => exact one .i2s rfl hd hlen h (fun q e h9 => by obtain ⟨q1, q2⟩ := q; cases e; exact h9)
  | i2c => exact one .i2c rfl hd hlen h (fun q e h9 => by obtain ⟨q1, q2⟩ := q; cases e; exact h9)
  | ifCond c9 off =>
    cases o with
    | none => cases h
    | some o9 =>
      cases o9 with
      | inr x => cases h
      | inl b =>
        obtain ⟨v, r, e1, hv, h1⟩ := ri_v1_eq h
        clear h
        subst e1
        split at h1
        · rename_i t ht
          cases h1
          rw [List.map_cons, ri_isI_v hv]
          refine ri_if_ok (t := t) (b := b) hx hb hd hlen ht hs ?_
          cases b with
          | true => exact k ls hl
          | false => exact k ls hl
        · cases h1
  | if_icmp c9 off =>
    cases o with
    | none => cases h
    | some o9 =>
      cases o9 with
      | inr x => cases h
      | inl b =>
        obtain ⟨y, r1, e1, hy, h1⟩ := ri_v1_eq h
        obtain ⟨x, r, e2, hx9, h2⟩ := ri_v1_eq h1
        clear h h1
        subst e1; subst e2
        split at h2
        · rename_i t ht
          cases h2
          rw [List.map_cons, List.map_cons, ri_isI_v hy, ri_isI_v hx9]
          refine ri_icmp_ok (t := t) (b := b) hx hb hd hlen ht hs ?_
          cases b with
          | true => exact k ls hl
          | false => exact k ls hl
        · cases h2
  | tableswitch d9 lo hi offs =>
    cases o with
    | none => cases h
    | some o9 =>
      cases o9 with
      | inl b =>
        cases b with
        | true =>
          obtain ⟨v, r, e1, hv, h1⟩ := ri_v1_eq h
          clear h
          subst e1
          obtain ⟨hq, h2⟩ := ri_ok_eq h1
          have hq2 : (Int32.ofInt hi).toInt = hi := of_decide_eq_true hq
          split at h2
          · rename_i z9 hz
            cases h2
            have hs2 : ri_cnd .gt (ri_I ad v) (Int32.ofInt hi) = true := hs
            have e9 : Int32.ofInt hi < ri_I ad v := by simpa [ri_cnd] using hs2
            have e8 : hi < (ri_I ad v).toInt := by rw [← hq2]; exact Int32.lt_iff_toInt_lt.mp e9
            rw [List.map_cons, ri_isI_v hv]
            refine ri_pure_ok (ad := ad) (j := z9.1) (p' := z9.2.1) (lv' := z9.2.2.1) (st' := z9.2.2.2) (st := .int (ri_I ad v) :: r) hx hb hd hlen hl ?_ k
            show (bif decide ((ri_I ad v).toInt < lo) || decide (hi < (ri_I ad v).toInt) then ri_tg pc d9 1 lv r else _) = some z9
            rw [decide_eq_true e8, Bool.or_true, cond_true]
            exact hz
          · cases h2
        | false =>
          obtain ⟨v, r, e1, hv, h1⟩ := ri_v1_eq h
          clear h
          subst e1
          obtain ⟨hq, h2⟩ := ri_ok_eq h1
          have hq2 : (Int32.ofInt lo).toInt = lo := of_decide_eq_true hq
          split at h2
          · rename_i z9 hz
            cases h2
            have hs2 : ri_cnd .lt (ri_I ad v) (Int32.ofInt lo) = true := hs
            have e9 : ri_I ad v < Int32.ofInt lo := by simpa [ri_cnd] using hs2
            have e8 : (ri_I ad v).toInt < lo := by rw [← hq2]; exact Int32.lt_iff_toInt_lt.mp e9
            rw [List.map_cons, ri_isI_v hv]
            refine ri_pure_ok (ad := ad) (j := z9.1) (p' := z9.2.1) (lv' := z9.2.2.1) (st' := z9.2.2.2) (st := .int (ri_I ad v) :: r) hx hb hd hlen hl ?_ k
            show (bif decide ((ri_I ad v).toInt < lo) || decide (hi < (ri_I ad v).toInt) then ri_tg pc d9 1 lv r else _) = some z9
            rw [decide_eq_true e8, Bool.true_or, cond_true]
            exact hz
          · cases h2
      | inr x =>
        obtain ⟨v, r, e1, hv, h1⟩ := ri_v1_eq h
        clear h
        subst e1
        split at h1
        · rename_i z9 hz
          cases h1
          have hs2 : ri_cnd .eq (ri_I ad v) x = true := hs
          have e9 : ri_I ad v = x := by simpa [ri_cnd] using hs2
          rw [List.map_cons, ri_isI_v hv, e9]
          exact ri_pure_ok (ad := ad) (j := z9.1) (p' := z9.2.1) (lv' := z9.2.2.1) (st' := z9.2.2.2) (st := .int x :: r) hx hb hd hlen hl hz k
        · cases h1
  | _ => cases h
end RIY
end
section
/-! ===== the reckoner, part 2: worlds of numbered cells, and the instructions that touch them ===== -/
noncomputable def ri_nth {α : Type} (l : List α) : Nat → Option α := List.rec (fun _ => none) (fun a _ ih n => Nat.rec (some a) (fun m _ => ih m) n) l
theorem ri_nth_eq {α : Type} : ∀ (l : List α) (n : Nat), ri_nth l n = l[n]?
  | [], _ => rfl
  | _ :: _, 0 => rfl
  | _ :: t, n + 1 => ri_nth_eq t n
noncomputable def ri_upd {α : Type} (v : α) (l : List α) : Nat → List α := List.rec (fun _ => []) (fun a t ih n => Nat.rec (v :: t) (fun m _ => a :: ih m) n) l
theorem ri_upd_eq {α : Type} (v : α) : ∀ (l : List α) (n : Nat), ri_upd v l n = l.set n v
  | [], _ => rfl
  | _ :: _, 0 => rfl
  | a :: t, n + 1 => congrArg (List.cons a) (ri_upd_eq v t n)
/-- a cell: an array (which of the types, its elements) or an object (which of the kinds, its fields) -/
abbrev ri_E : Type := (Nat × List Value) ⊕ (Nat × List Value)
/-- what a list of values holds at a place, said of the machine -/
def ri_f (ad : Nat → Nat) (vs : List Value) (j : Nat) : Value := ri_v ad (vs.getD j .null)
theorem ri_f_at {ad : Nat → Nat} {vs : List Value} {j : Nat} {v : Value} (h : vs[j]? = some v) : ri_f ad vs j = ri_v ad v := by
  simp [ri_f, h]
theorem ri_f_set {ad : Nat → Nat} {vs : List Value} {k : Nat} (hk : k < vs.length) (v : Value) : updV (ri_f ad vs) k (ri_v ad v) = ri_f ad (vs.set k v) := by
  funext j
  by_cases h : j = k
  · subst h
    simp [updV, ri_f, hk]
  · simp [updV, ri_f, h, List.getElem?_set, Ne.symm h]
def ri_tys (cA : Nat → ClassId) (tyL : List FieldType) : List (ClassId × FieldType) := tyL.mapIdx (fun t ty => (cA t, ty))
theorem ri_tys_at {cA : Nat → ClassId} {tyL : List FieldType} {t : Nat} {ty : FieldType} (h : tyL[t]? = some ty) : (ri_tys cA tyL)[t]? = some (cA t, ty) := by
  simp [ri_tys, h]
def ri_at1 (D : va_G) (cl : List vw_C) (ad : Nat → Nat) (cA : Nat → ClassId) (k : Nat) (x : ri_E) (H : Heap) : Prop := match x with
  | .inl a => H[ad k]? = some (arrV (cA a.1) a.2.length (ri_f ad a.2))
  | .inr o => ∃ r : vw_C, cl[o.1]? = some r ∧ t_OB (ad k) (D.1 o.1) r.2.2 (D.2 o.1) H (ri_f ad o.2)
/-- the heap holds the world -/
def ri_P (D : va_G) (cl : List vw_C) (ad : Nat → Nat) (cA : Nat → ClassId) (w : List ri_E) (H : Heap) : Prop := ∀ (k : Nat) (x : ri_E), w[k]? = some x → ri_at1 D cl ad cA k x H
def ri_inj (ad : Nat → Nat) : Prop := ∀ i j : Nat, i < 1000000 → j < 1000000 → ad i = ad j → i = j
theorem ri_at1.kept {D : va_G} {cl : List vw_C} {ad : Nat → Nat} {cA : Nat → ClassId} {k : Nat} {x : ri_E} {H H1 : Heap} (h : ri_at1 D cl ad cA k x H) (hq : H1[ad k]? = H[ad k]?) : ri_at1 D cl ad cA k x H1 := by
  cases x with
  | inl a => exact hq.trans h
  | inr o =>
    obtain ⟨r, h1, h2⟩ := h
    exact ⟨r, h1, h2.kept hq⟩
theorem ri_at1.lt {D : va_G} {cl : List vw_C} {ad : Nat → Nat} {cA : Nat → ClassId} {k : Nat} {x : ri_E} {H : Heap} (h : ri_at1 D cl ad cA k x H) : ad k < H.size := by
  cases x with
  | inl a => exact (Array.getElem?_eq_some_iff.mp h).1
  | inr o =>
    obtain ⟨r, h1, cell, h2, -⟩ := h
    exact (Array.getElem?_eq_some_iff.mp h2).1
theorem ri_P.set {D : va_G} {cl : List vw_C} {ad : Nat → Nat} {cA : Nat → ClassId} {w : List ri_E} {H H1 : Heap} (h : ri_P D cl ad cA w H) (hi : ri_inj ad) (hw9 : w.length ≤ 1000000) {q : Nat} (hq9 : q < 1000000) {x : ri_E} (he : ri_at1 D cl ad cA q x H1) (oq : ∀ z : Nat, z ≠ ad q → H1[z]? = H[z]?) : ri_P D cl ad cA (w.set q x) H1 := by
  intro k y hk
  by_cases hkq : q = k
  · subst hkq
    rw [List.getElem?_set] at hk
    split at hk
    · split at hk
      · cases hk; exact he
      · cases hk
    · rename_i hne
      exact absurd rfl hne
  · rw [List.getElem?_set_ne hkq] at hk
    exact (h k y hk).kept (oq _ (fun z => hkq (hi _ _ hq9 (Nat.lt_of_lt_of_le (List.getElem?_eq_some_iff.mp hk).1 hw9) z.symm)))
theorem ri_P.keep {D : va_G} {cl : List vw_C} {ad : Nat → Nat} {cA : Nat → ClassId} {w : List ri_E} {H H1 : Heap} (h : ri_P D cl ad cA w H) (oq : ∀ z : Nat, z < H.size → H1[z]? = H[z]?) : ri_P D cl ad cA w H1 := fun k x hk => (h k x hk).kept (oq _ (h k x hk).lt)
theorem ri_P.push {D : va_G} {cl : List vw_C} {ad : Nat → Nat} {cA : Nat → ClassId} {w : List ri_E} {H H1 : Heap} (h : ri_P D cl ad cA w H) {x : ri_E} (he : ri_at1 D cl ad cA w.length x H1) (oq : ∀ z : Nat, z < H.size → H1[z]? = H[z]?) : ri_P D cl ad cA (w ++ [x]) H1 := by
  intro k y hk
  by_cases hl : k < w.length
  · rw [List.getElem?_append_left hl] at hk
    exact (h k y hk).kept (oq _ (h k y hk).lt)
  · rw [List.getElem?_append_right (by omega)] at hk
    have hz : k - w.length < 1 := (List.getElem?_eq_some_iff.mp hk).1
    have e : k = w.length := by omega
    subst e
    rw [Nat.sub_self] at hk
    cases hk
    exact he
/-- which cells are the world's: all that have a number below a million (that one is the script's) -/
def ri_A (ad : Nat → Nat) : Nat → Prop := fun q => ∃ k : Nat, k < 1000000 ∧ ad k = q
/-- where the next cells come -/
def ri_nx (ad : Nat → Nat) (n sz : Nat) : Prop := ∀ j : Nat, n ≤ j → j < 1000000 → ad j = sz + (j - n)
theorem ri_nx.succ {ad : Nat → Nat} {n sz : Nat} (h : ri_nx ad n sz) : ri_nx ad (n + 1) (sz + 1) := fun j hj h9 => by rw [h j (by omega) h9]; omega
theorem ri_nx.here {ad : Nat → Nat} {n sz : Nat} (h : ri_nx ad n sz) (h9 : n < 1000000) : ad n = sz := by rw [h n (Nat.le_refl _) h9]; omega
/-- the kinds of objects: their words, types and names -/
def ri_clok (WG : List Jvm.Cond) (cl : List vw_C) (ty : Nat → Nat → FieldType) : Prop := ∀ (ci : Nat) (r : vw_C), cl[ci]? = some r → (∀ w ∈ u_ws r.1 r.2.1 r.2.2, w ∈ WG) ∧ (∀ k, k < r.2.2 → parseFieldDescriptor (r.2.1 k).2.2.1 = some (ty ci k)) ∧ (∀ a, a < r.2.2 → ∀ b, b < r.2.2 → a ≠ b → (r.2.1 a).2.1 ≠ (r.2.1 b).2.1) ∧ Jvm.Cond.instantiable r.1 r.2.2 ∈ WG ∧ Jvm.Cond.initialized r.1 ∈ WG
noncomputable def ri_getf (a b : Nat) (st : List Value) (w : List ri_E) : Option (List Value) := match st with
  | .ref q :: r => (match ri_nth w q with
    | some (.inr o) => ri_ok (Nat.beq o.1 a) (match ri_nth o.2 b with
      | some v => some (v :: r)
      | none => none)
    | _ => none)
  | _ => none
theorem ri_getf_eq {a b : Nat} {st st' : List Value} {w : List ri_E} (h : ri_getf a b st w = some st') : ∃ (q : Nat) (r fs : List Value) (v : Value), st = .ref q :: r ∧ w[q]? = some (.inr (a, fs)) ∧ fs[b]? = some v ∧ st' = v :: r := by
  unfold ri_getf at h
  split at h
  · rename_i q r
    split at h
    · rename_i o ho
      obtain ⟨hb, h2⟩ := ri_ok_eq h
      split at h2
      · rename_i v hv
        rw [ri_nth_eq] at ho hv
        obtain ⟨o1, o2⟩ := o
        have e1 : o1 = a := Nat.eq_of_beq_eq_true hb
        exact ⟨q, r, o2, v, rfl, by rw [ho, e1], hv, (Option.some.inj h2).symm⟩
      · cases h2
    · cases h
  · cases h
/-- a value that a field or array of this type takes as it is -/
def ri_fit (ty : FieldType) (v : Value) : Bool := match ty with
  | .int => (match v with | .int _ => true | .float _ => true | _ => false)
  | .long => (match v with | .long _ => true | _ => false)
  | .double => (match v with | .double _ => true | _ => false)
  | .boolean => (match v with | .int x => decide (x = 0) || decide (x = 1) | _ => false)
  | .object _ => (match v with | .ref _ => true | .null => true | _ => false)
  | .array _ => (match v with | .ref _ => true | .null => true | _ => false)
  | _ => false
theorem ri_fit_ok {ad : Nat → Nat} {ty : FieldType} {v : Value} (h : ri_fit ty v = true) : narrow ty (ri_v ad v) = ri_v ad v ∧ fits ty (ri_v ad v) = true := by
  cases ty with
  | boolean =>
    cases v with
    | int x =>
      have h2 : x = 0 ∨ x = 1 := by simpa [ri_fit] using h
      show narrow .boolean (.int x) = .int x ∧ fits .boolean (.int x) = true
      rcases h2 with rfl | rfl <;> exact ⟨by decide +kernel, by decide +kernel⟩
    | _ => cases h
  | int => cases v <;> first | exact ⟨rfl, rfl⟩ | cases h
  | long => cases v <;> first | exact ⟨rfl, rfl⟩ | cases h
  | double => cases v <;> first | exact ⟨rfl, rfl⟩ | cases h
  | object C => cases v <;> first | exact ⟨rfl, rfl⟩ | cases h
  | array C => cases v <;> first | exact ⟨rfl, rfl⟩ | cases h
  | _ => cases h
noncomputable def ri_putf (ty : FieldType) (a b : Nat) (st : List Value) (w : List ri_E) : Option (List Value × List ri_E) := match st with
  | v :: .ref q :: r => (match ri_nth w q with
    | some (.inr o) => ri_ok (Nat.beq o.1 a) (match ri_nth o.2 b with
      | some _ => ri_ok (ri_fit ty v) (some (r, ri_upd (.inr (o.1, ri_upd v o.2 b)) w q))
      | none => none)
    | _ => none)
  | _ => none
theorem ri_putf_eq {ty : FieldType} {a b : Nat} {st st' : List Value} {w w' : List ri_E} (h : ri_putf ty a b st w = some (st', w')) : ∃ (q : Nat) (fs : List Value) (v : Value), st = v :: .ref q :: st' ∧ w[q]? = some (.inr (a, fs)) ∧ b < fs.length ∧ ri_fit ty v = true ∧ w' = w.set q (.inr (a, fs.set b v)) := by
  unfold ri_putf at h
  split at h
  · rename_i v q r
    split at h
    · rename_i o ho
      obtain ⟨hb, h2⟩ := ri_ok_eq h
      split at h2
      · rename_i u hv
        obtain ⟨hf, h3⟩ := ri_ok_eq h2
        rw [ri_nth_eq] at ho hv
        obtain ⟨o1, o2⟩ := o
        have e1 : o1 = a := Nat.eq_of_beq_eq_true hb
        rw [ri_upd_eq, ri_upd_eq] at h3
        have e3 := Option.some.inj h3
        have e4 : r = st' := congrArg Prod.fst e3
        have e5 : w.set q (.inr (o1, o2.set b v)) = w' := congrArg Prod.snd e3
        exact ⟨q, o2, v, by rw [e4], by rw [ho, e1], (List.getElem?_eq_some_iff.mp hv).1, hf, by rw [← e5, e1]⟩
      · cases h2
    · cases h
  · cases h
/-- an element of an array: of which type it must be says g -/
noncomputable def ri_ald (tyL : List FieldType) (g : FieldType → Bool) (st : List Value) (w : List ri_E) : Option (List Value) := match st with
  | .int i :: .ref q :: r => (match ri_nth w q with
    | some (.inl a) => (match ri_nth tyL a.1 with
      | some ty => ri_ok (g ty && !decide (i < 0)) (match ri_nth a.2 i.toNatClampNeg with
        | some v => some (v :: r)
        | none => none)
      | none => none)
    | _ => none)
  | _ => none
theorem ri_ald_eq {tyL : List FieldType} {g : FieldType → Bool} {st st' : List Value} {w : List ri_E} (h : ri_ald tyL g st w = some st') : ∃ (i : Int32) (q t : Nat) (r vs : List Value) (v : Value) (ty : FieldType), st = .int i :: .ref q :: r ∧ w[q]? = some (.inl (t, vs)) ∧ tyL[t]? = some ty ∧ g ty = true ∧ ¬ i < 0 ∧ vs[i.toNatClampNeg]? = some v ∧ st' = v :: r := by
  unfold ri_ald at h
  split at h
  · rename_i i q r
    split at h
    · rename_i a ha
      split at h
      · rename_i ty hty
        obtain ⟨hb, h2⟩ := ri_ok_eq h
        split at h2
        · rename_i v hv
          rw [ri_nth_eq] at ha hv hty
          obtain ⟨b1, b2⟩ := (Bool.and_eq_true _ _ ▸ hb : g ty = true ∧ (!decide (i < 0)) = true)
          exact ⟨i, q, a.1, r, a.2, v, ty, rfl, ha, hty, b1, by simpa using b2, hv, (Option.some.inj h2).symm⟩
        · cases h2
      · cases h
    · cases h
  · cases h
/-- a store: g says whether the value fits and what is kept of it -/
noncomputable def ri_ast (tyL : List FieldType) (g : FieldType → Value → Option Value) (st : List Value) (w : List ri_E) : Option (List Value × List ri_E) := match st with
  | x :: .int i :: .ref q :: r => (match ri_nth w q with
    | some (.inl a) => (match ri_nth tyL a.1 with
      | some ty => (match g ty x with
        | some v => ri_ok (!decide (i < 0)) (match ri_nth a.2 i.toNatClampNeg with
          | some _ => some (r, ri_upd (.inl (a.1, ri_upd v a.2 i.toNatClampNeg)) w q)
          | none => none)
        | none => none)
      | none => none)
    | _ => none)
  | _ => none
theorem ri_ast_eq {tyL : List FieldType} {g : FieldType → Value → Option Value} {st st' : List Value} {w w' : List ri_E} (h : ri_ast tyL g st w = some (st', w')) : ∃ (i : Int32) (q t : Nat) (vs : List Value) (x v : Value) (ty : FieldType), st = x :: .int i :: .ref q :: st' ∧ w[q]? = some (.inl (t, vs)) ∧ tyL[t]? = some ty ∧ g ty x = some v ∧ ¬ i < 0 ∧ i.toNatClampNeg < vs.length ∧ w' = w.set q (.inl (t, vs.set i.toNatClampNeg v)) := by
  unfold ri_ast at h
  split at h
  · rename_i x i q r
    split at h
    · rename_i a ha
      split at h
      · rename_i ty hty
        split at h
        · rename_i v hg
          obtain ⟨hb, h2⟩ := ri_ok_eq h
          split at h2
          · rename_i u hu
            rw [ri_nth_eq] at ha hu hty
            rw [ri_upd_eq, ri_upd_eq] at h2
            have e3 := Option.some.inj h2
            have e4 : r = st' := congrArg Prod.fst e3
            have e5 : w.set q (.inl (a.1, a.2.set i.toNatClampNeg v)) = w' := congrArg Prod.snd e3
            exact ⟨i, q, a.1, a.2, x, v, ty, by rw [e4], ha, hty, hg, by simpa using hb, (List.getElem?_eq_some_iff.mp hu).1, e5.symm⟩
          · cases h2
        · cases h
      · cases h
    · cases h
  · cases h
section RIH
variable {p : Program} {l : Launch} {e : Env} {R : Room} {s : State} {m : MethodId} {args : Array Value} {below : List Frame} {meth : Method} {c : Code} {H : Heap} {locs : List Loc} {cells slots : Nat} {Q : State → Prop}
variable {cc : ByteArray} {pc : Nat} {ls : Array Slot} {ad : Nat → Nat} {cA : Nat → ClassId} {tyL : List FieldType} {D : va_G} {cl : List vw_C} {ty : Nat → Nat → FieldType} {WG : List Jvm.Cond} {own : String} {w : List ri_E} {H0 : Heap}
theorem ri_getf_ok {a b idx : Nat} {st st' : List Value} (hx : p.tables.exec = Jvm.exec) (hb : c.code = cc) (hown : s.vm.findClass own = some m.cls) (hts : ∀ x ∈ WG, x.before args s = true) (hK : va_K D cl (ri_tys cA tyL) s) (hC : ri_clok WG cl ty) (hP : ri_P D cl ad cA w H)
    {r : vw_C} (hr : cl[a]? = some r) (hk : b < r.2.2) (hw : Jvm.Cond.fieldLink own idx (r.2.1 b).1 (r.2.1 b).2.1 (r.2.1 b).2.2.1 ∈ WG) (hd : decode cc pc = .ok (.getfield idx, 3)) (h : ri_getf a b st w = some st')
    (k : W p l e R s m args below meth c H locs cells slots Q (F0 m (pc + 3) ls (st'.map (ri_v ad)))) : W p l e R s m args below meth c H locs cells slots Q (F0 m pc ls (st.map (ri_v ad))) := by
  obtain ⟨q, r9, fs, v, rfl, hq, hv, rfl⟩ := ri_getf_eq h
  obtain ⟨r2, g1, cell, g2, g3, g4, g5⟩ := hP q _ hq
  cases Option.some.inj (g1.symm.trans hr)
  obtain ⟨hS, hfc, kC, hkC, hkind⟩ := hK.1 a _ hr
  obtain ⟨cf, kf, fi, f, hi, hsl⟩ := hS b hk
  refine W.getf hx hb hown (hts _ hw) hi (u_facts hfc hkC (u_lays hts (hC a _ hr).1 hk) hi).1 g2 (by rw [g4]; exact fun h => by cases h) (v := ri_v ad v) ?_ rfl rfl hd k
  rw [hsl, g5 b hk, ri_f_at hv]
theorem ri_S_put {A : Nat → Prop} {H1 : Heap} {a k : Nat} (h : va_S A H0 H locs) (z : H1.size = H.size) (oq : ∀ q : Nat, q ≠ a → H1[q]? = H[q]?) (ha : A a) : va_S A H0 H1 (locs ++ [⟨a, k⟩]) := va_S.put h z oq ha
theorem ri_putf_ok {a b idx : Nat} {st st' : List Value} {w' : List ri_E} (hx : p.tables.exec = Jvm.exec) (hb : c.code = cc) (hown : s.vm.findClass own = some m.cls) (hts : ∀ x ∈ WG, x.before args s = true) (hK : va_K D cl (ri_tys cA tyL) s) (hC : ri_clok WG cl ty) (hP : ri_P D cl ad cA w H) (hw9 : w.length ≤ 1000000) (hi9 : ri_inj ad) (hS9 : va_S (ri_A ad) H0 H locs)
    {r : vw_C} (hr : cl[a]? = some r) (hk : b < r.2.2) (hw : Jvm.Cond.fieldLink own idx (r.2.1 b).1 (r.2.1 b).2.1 (r.2.1 b).2.2.1 ∈ WG) (hfin : (r.2.1 b).2.2.2 = false ∨ (meth.name = "<init>" ∧ (r.2.1 b).1 = own)) (hd : decode cc pc = .ok (.putfield idx, 3)) (h : ri_putf (ty a b) a b st w = some (st', w'))
    (k : ∀ (H1 : Heap) (locs1 : List Loc), ri_P D cl ad cA w' H1 → va_S (ri_A ad) H0 H1 locs1 → H1.size = H.size → W p l e R s m args below meth c H1 locs1 cells slots Q (F0 m (pc + 3) ls (st'.map (ri_v ad)))) : W p l e R s m args below meth c H locs cells slots Q (F0 m pc ls (st.map (ri_v ad))) := by
  obtain ⟨q, fs, v, rfl, hq, hl, hf, rfl⟩ := ri_putf_eq h
  obtain ⟨h1, h2, h3, -, -⟩ := hC a _ hr
  obtain ⟨f1, f2⟩ := ri_fit_ok (ad := ad) hf
  have hap := va_apart (own := own) hts h1 (ty a) h2 h3 hK hr
  obtain ⟨r2, g1, cell, g2, g3, g4, g5⟩ := hP q _ hq
  cases Option.some.inj (g1.symm.trans hr)
  obtain ⟨hS, hfc, kC, hkC, hkind⟩ := hK.1 a _ hr
  obtain ⟨cf, kf, fi, f, hi, hsl⟩ := hS b hk
  have hst := (u_facts hfc hkC (u_lays hts h1 hk) hi).1
  have done : ∀ (H' : Heap), H'[ad q]? = some (cell.setSlot f.slot (ri_v ad v)) → H'.size = H.size → (∀ z : Nat, z ≠ ad q → H'[z]? = H[z]?) → W p l e R s m args below meth c H' (locs ++ [⟨ad q, f.slot⟩]) cells slots Q (F0 m (pc + 3) ls (st'.map (ri_v ad))) := by
    intro H' e1 e2 e3
    rw [hsl] at e1 ⊢
    refine k H' _ (hP.set hi9 hw9 (Nat.lt_of_lt_of_le (List.getElem?_eq_some_iff.mp hq).1 hw9) ⟨_, hr, ?_⟩ e3) (ri_S_put hS9 e2 e3 ⟨q, Nat.lt_of_lt_of_le (List.getElem?_eq_some_iff.mp hq).1 hw9, rfl⟩) e2
    exact t_OB.to (V := updV (ri_f ad fs) b (ri_v ad v)) ⟨_, e1, g3, g4, t_set g5 hap hk (ri_v ad v)⟩ (fun j _ => congrFun (ri_f_set hl v) j)
  have hlay := hts _ (h1 _ (u_in_lay hk))
  unfold u_lay at hlay
  by_cases hfn : (r.2.1 b).2.2.2 = true
  · rw [if_pos hfn] at hlay
    obtain ⟨hin2, hdecl⟩ := hfin.resolve_left (by rw [hfn]; decide)
    have hcf : m.cls = cf := by
      obtain ⟨_, _, c', _, _, _, -, -, hf', -, -, -, hown2, -⟩ := Cond.laysFinal_spec hlay
      have e1 : c' = cf := by have := hi.symm.trans hf'; simp at this; exact this.1.symm
      rw [hdecl] at hown2
      rw [← e1]; exact Option.some.inj (hown.symm.trans hown2)
    have h6 := u_fits hfc hkC hkind (Or.inr hlay) hi (h2 b hk) f1 f2
    exact W.putFinK hx hb hown (hts _ hw) hi hst hcf hin2 (by rw [g3]; exact h6) g2 g4 (by rw [hsl]; exact k2_hasslot (g5 b hk)) rfl rfl hd done
  · rw [if_neg hfn] at hlay
    have h6 := u_store hfc hkC hkind hlay hi (h2 b hk) f1 f2
    exact W.putK hx hb (f := f) ⟨hown, hts _ hw, ⟨_, _, _, hi⟩, hst⟩ (by rw [g3]; exact h6) g2 g4 (by rw [hsl]; exact k2_hasslot (g5 b hk)) rfl rfl hd done
end RIH
end
section
/-! ===== the reckoner, part 3: arrays and new cells ===== -/
section RIA
variable {p : Program} {l : Launch} {e : Env} {R : Room} {s : State} {m : MethodId} {args : Array Value} {below : List Frame} {meth : Method} {c : Code} {H : Heap} {locs : List Loc} {cells slots : Nat} {Q : State → Prop}
variable {cc : ByteArray} {pc : Nat} {ls : Array Slot} {ad : Nat → Nat} {cA : Nat → ClassId} {tyL : List FieldType} {D : va_G} {cl : List vw_C} {ty : Nat → Nat → FieldType} {WG : List Jvm.Cond} {own : String} {w : List ri_E} {H0 : Heap}
def ri_tI (t : FieldType) : Bool := match t with | .int => true | _ => false
def ri_tB (t : FieldType) : Bool := match t with | .byte => true | .boolean => true | _ => false
def ri_tL (t : FieldType) : Bool := match t with | .long => true | _ => false
def ri_tD (t : FieldType) : Bool := match t with | .double => true | _ => false
def ri_tA (t : FieldType) : Bool := match t with | .object _ => true | .array _ => true | _ => false
theorem ri_arr_at (hK : va_K D cl (ri_tys cA tyL) s) (hP : ri_P D cl ad cA w H) {q t : Nat} {vs : List Value} {t9 : FieldType} (hq : w[q]? = some (.inl (t, vs))) (ht : tyL[t]? = some t9) :
    H[ad q]? = some (arrV (cA t) vs.length (ri_f ad vs)) ∧ s.isArrayOf (arrV (cA t) vs.length (ri_f ad vs)) t9 ∧ (arrV (cA t) vs.length (ri_f ad vs)).vm ≠ .unknown := ⟨hP q _ hq, (hK.2 t _ (ri_tys_at ht)).1 _ _, fun h => by cases h⟩
theorem ri_in {i : Int32} {vs : List Value} {t : Nat} {v : Value} (h0 : ¬ i < 0) (hv : vs[i.toNatClampNeg]? = some v) : ¬ (i < 0 ∨ (arrV (cA t) vs.length (ri_f ad vs)).slots.size ≤ i.toNatClampNeg) ∧ (arrV (cA t) vs.length (ri_f ad vs)).slots[i.toNatClampNeg]? = some (ri_v ad v) := by
  have hl := (List.getElem?_eq_some_iff.mp hv).1
  refine ⟨fun q => q.elim h0 (fun z => ?_), ?_⟩
  · rw [arrV_size] at z
    omega
  · rw [arrV_read _ _ hl, ri_f_at hv]
theorem ri_iald_ok {st st' : List Value} (hx : p.tables.exec = Jvm.exec) (hb : c.code = cc) (hK : va_K D cl (ri_tys cA tyL) s) (hP : ri_P D cl ad cA w H) (hd : decode cc pc = .ok (.iaload, 1)) (h : ri_ald tyL ri_tI st w = some st')
    (k : W p l e R s m args below meth c H locs cells slots Q (F0 m (pc + 1) ls (st'.map (ri_v ad)))) : W p l e R s m args below meth c H locs cells slots Q (F0 m pc ls (st.map (ri_v ad))) := by
  obtain ⟨i, q, t, r, vs, v, t9, rfl, hq, ht, hg, h0, hv, rfl⟩ := ri_ald_eq h
  obtain ⟨a1, a2, a3⟩ := ri_arr_at hK hP hq ht
  obtain ⟨b1, b2⟩ := ri_in (ad := ad) (cA := cA) (t := t) h0 hv
  cases t9 <;> first | exact W.iald hx hb a1 a2 a3 b1 b2 rfl rfl hd k | cases hg
theorem ri_bald_ok {st st' : List Value} (hx : p.tables.exec = Jvm.exec) (hb : c.code = cc) (hK : va_K D cl (ri_tys cA tyL) s) (hP : ri_P D cl ad cA w H) (hd : decode cc pc = .ok (.baload, 1)) (h : ri_ald tyL ri_tB st w = some st')
    (k : W p l e R s m args below meth c H locs cells slots Q (F0 m (pc + 1) ls (st'.map (ri_v ad)))) : W p l e R s m args below meth c H locs cells slots Q (F0 m pc ls (st.map (ri_v ad))) := by
  obtain ⟨i, q, t, r, vs, v, t9, rfl, hq, ht, hg, h0, hv, rfl⟩ := ri_ald_eq h
  obtain ⟨a1, a2, a3⟩ := ri_arr_at hK hP hq ht
  obtain ⟨b1, b2⟩ := ri_in (ad := ad) (cA := cA) (t := t) h0 hv
  cases t9 <;> first | exact W.bald hx hb a1 a2 a3 b1 b2 rfl rfl hd k | exact W.zald hx hb a1 a2 a3 b1 b2 rfl rfl hd k | cases hg
theorem ri_lald_ok {st st' : List Value} (hx : p.tables.exec = Jvm.exec) (hb : c.code = cc) (hK : va_K D cl (ri_tys cA tyL) s) (hP : ri_P D cl ad cA w H) (hd : decode cc pc = .ok (.laload, 1)) (h : ri_ald tyL ri_tL st w = some st')
    (k : W p l e R s m args below meth c H locs cells slots Q (F0 m (pc + 1) ls (st'.map (ri_v ad)))) : W p l e R s m args below meth c H locs cells slots Q (F0 m pc ls (st.map (ri_v ad))) := by
  obtain ⟨i, q, t, r, vs, v, t9, rfl, hq, ht, hg, h0, hv, rfl⟩ := ri_ald_eq h
  obtain ⟨a1, a2, a3⟩ := ri_arr_at hK hP hq ht
  obtain ⟨b1, b2⟩ := ri_in (ad := ad) (cA := cA) (t := t) h0 hv
  cases t9 <;> first | exact W.lald hx hb a1 a2 a3 b1 b2 rfl rfl hd k | cases hg
theorem ri_dald_ok {st st' : List Value} (hx : p.tables.exec = Jvm.exec) (hb : c.code = cc) (hK : va_K D cl (ri_tys cA tyL) s) (hP : ri_P D cl ad cA w H) (hd : decode cc pc = .ok (.daload, 1)) (h : ri_ald tyL ri_tD st w = some st')
    (k : W p l e R s m args below meth c H locs cells slots Q (F0 m (pc + 1) ls (st'.map (ri_v ad)))) : W p l e R s m args below meth c H locs cells slots Q (F0 m pc ls (st.map (ri_v ad))) := by
  obtain ⟨i, q, t, r, vs, v, t9, rfl, hq, ht, hg, h0, hv, rfl⟩ := ri_ald_eq h
  obtain ⟨a1, a2, a3⟩ := ri_arr_at hK hP hq ht
  obtain ⟨b1, b2⟩ := ri_in (ad := ad) (cA := cA) (t := t) h0 hv
  cases t9 <;> first | exact W.dald hx hb a1 a2 a3 b1 b2 rfl rfl hd k | cases hg
theorem ri_aald_ok {st st' : List Value} (hx : p.tables.exec = Jvm.exec) (hb : c.code = cc) (hK : va_K D cl (ri_tys cA tyL) s) (hP : ri_P D cl ad cA w H) (hd : decode cc pc = .ok (.aaload, 1)) (h : ri_ald tyL ri_tA st w = some st')
    (k : W p l e R s m args below meth c H locs cells slots Q (F0 m (pc + 1) ls (st'.map (ri_v ad)))) : W p l e R s m args below meth c H locs cells slots Q (F0 m pc ls (st.map (ri_v ad))) := by
  obtain ⟨i, q, t, r, vs, v, t9, rfl, hq, ht, hg, h0, hv, rfl⟩ := ri_ald_eq h
  obtain ⟨a1, a2, a3⟩ := ri_arr_at hK hP hq ht
  obtain ⟨b1, b2⟩ := ri_in (ad := ad) (cA := cA) (t := t) h0 hv
  cases t9 <;> first | exact W.aald hx hb a1 a2 rfl a3 b1 b2 rfl rfl hd k | cases hg
noncomputable def ri_alen2 (tyL : List FieldType) (st : List Value) (w : List ri_E) : Option (List Value) := match st with
  | .ref q :: r => (match ri_nth w q with
    | some (.inl a) => (match ri_nth tyL a.1 with
      | some _ => some (.int (Int32.ofNat a.2.length) :: r)
      | none => none)
    | _ => none)
  | _ => none
theorem ri_alen_ok {st st' : List Value} (hx : p.tables.exec = Jvm.exec) (hb : c.code = cc) (hK : va_K D cl (ri_tys cA tyL) s) (hP : ri_P D cl ad cA w H) (hd : decode cc pc = .ok (.arraylength, 1)) (h : ri_alen2 tyL st w = some st')
    (k : W p l e R s m args below meth c H locs cells slots Q (F0 m (pc + 1) ls (st'.map (ri_v ad)))) : W p l e R s m args below meth c H locs cells slots Q (F0 m pc ls (st.map (ri_v ad))) := by
  unfold ri_alen2 at h
  split at h
  · rename_i q r
    split at h
    · rename_i a ha
      split at h
      · rename_i t9 ht
        rw [ri_nth_eq] at ha ht
        obtain ⟨a1, a2, a3⟩ := ri_arr_at hK hP ha ht
        cases h
        exact W.alen (n := Int32.ofNat a.2.length) hx hb a1 a2 (by rw [arrV_size] <;> rfl) rfl rfl hd k
      · cases h
    · cases h
  · cases h
/-! stores -/
def ri_gI (t : FieldType) (x : Value) : Option Value := match t with
  | .int => (match x with | .int y => some (.int y) | .float y => some (.float y) | _ => none)
  | _ => none
def ri_gB (t : FieldType) (x : Value) : Option Value := match t with
  | .byte => (match x with | .int y => some (narrow .byte (.int y)) | _ => none)
  | .boolean => (match x with | .int y => some (narrow .boolean (.int y)) | _ => none)
  | _ => none
def ri_gL (t : FieldType) (x : Value) : Option Value := match t with
  | .long => (match x with | .long y => some (.long y) | _ => none)
  | _ => none
def ri_gD (t : FieldType) (x : Value) : Option Value := match t with
  | .double => (match x with | .double y => some (.double y) | _ => none)
  | _ => none
theorem ri_in2 {i : Int32} {vs : List Value} {t : Nat} (h0 : ¬ i < 0) (hl : i.toNatClampNeg < vs.length) : ¬ (i < 0 ∨ (arrV (cA t) vs.length (ri_f ad vs)).slots.size ≤ i.toNatClampNeg) := fun q => q.elim h0 (fun z => by rw [arrV_size] at z; omega)
theorem ri_stored (hP : ri_P D cl ad cA w H) (hi9 : ri_inj ad) (hS9 : va_S (ri_A ad) H0 H locs) {q t : Nat} {vs : List Value} {i : Nat} {v : Value} (hl : i < vs.length) (hw9 : w.length ≤ 1000000) (hq9 : q < 1000000) {pc' : Nat} {st' : List Value}
    (k : ∀ (H1 : Heap) (locs1 : List Loc), ri_P D cl ad cA (w.set q (.inl (t, vs.set i v))) H1 → va_S (ri_A ad) H0 H1 locs1 → H1.size = H.size → W p l e R s m args below meth c H1 locs1 cells slots Q (F0 m pc' ls st')) :
    ∀ H' : Heap, H'[ad q]? = some ((arrV (cA t) vs.length (ri_f ad vs)).setSlot i (ri_v ad v)) → H'.size = H.size → (∀ z : Nat, z ≠ ad q → H'[z]? = H[z]?) → W p l e R s m args below meth c H' (locs ++ [⟨ad q, i⟩]) cells slots Q (F0 m pc' ls st') := by
  intro H' e1 e2 e3
  refine k H' _ (hP.set hi9 hw9 hq9 ?_ e3) (ri_S_put hS9 e2 e3 ⟨q, hq9, rfl⟩) e2
  show H'[ad q]? = some (arrV (cA t) (vs.set i v).length (ri_f ad (vs.set i v)))
  rw [e1, arrV_store, ri_f_set hl, List.length_set]
theorem ri_iast_ok {st st' : List Value} {w' : List ri_E} (hx : p.tables.exec = Jvm.exec) (hb : c.code = cc) (hK : va_K D cl (ri_tys cA tyL) s) (hP : ri_P D cl ad cA w H) (hw9 : w.length ≤ 1000000) (hi9 : ri_inj ad) (hS9 : va_S (ri_A ad) H0 H locs) (hd : decode cc pc = .ok (.iastore, 1)) (h : ri_ast tyL ri_gI st w = some (st', w'))
    (k : ∀ (H1 : Heap) (locs1 : List Loc), ri_P D cl ad cA w' H1 → va_S (ri_A ad) H0 H1 locs1 → H1.size = H.size → W p l e R s m args below meth c H1 locs1 cells slots Q (F0 m (pc + 1) ls (st'.map (ri_v ad)))) : W p l e R s m args below meth c H locs cells slots Q (F0 m pc ls (st.map (ri_v ad))) := by
  obtain ⟨i, q, t, vs, x, v, t9, rfl, hq, ht, hg, h0, hl, rfl⟩ := ri_ast_eq h
  obtain ⟨a1, a2, a3⟩ := ri_arr_at hK hP hq ht
  cases t9 with
  | int => cases x with
    | float y => cases hg; exact W.iast hx hb a1 a2 a3 (ri_in2 h0 hl) rfl rfl hd (ri_stored (v := .float y) hP hi9 hS9 hl hw9 (Nat.lt_of_lt_of_le (List.getElem?_eq_some_iff.mp hq).1 hw9) k)
    | int y => cases hg; exact W.iast hx hb a1 a2 a3 (ri_in2 h0 hl) rfl rfl hd (ri_stored (v := .int y) hP hi9 hS9 hl hw9 (Nat.lt_of_lt_of_le (List.getElem?_eq_some_iff.mp hq).1 hw9) k)
    | _ => cases hg
  | _ => cases hg
theorem ri_last_ok {st st' : List Value} {w' : List ri_E} (hx : p.tables.exec = Jvm.exec) (hb : c.code = cc) (hK : va_K D cl (ri_tys cA tyL) s) (hP : ri_P D cl ad cA w H) (hw9 : w.length ≤ 1000000) (hi9 : ri_inj ad) (hS9 : va_S (ri_A ad) H0 H locs) (hd : decode cc pc = .ok (.lastore, 1)) (h : ri_ast tyL ri_gL st w = some (st', w'))
    (k : ∀ (H1 : Heap) (locs1 : List Loc), ri_P D cl ad cA w' H1 → va_S (ri_A ad) H0 H1 locs1 → H1.size = H.size → W p l e R s m args below meth c H1 locs1 cells slots Q (F0 m (pc + 1) ls (st'.map (ri_v ad)))) : W p l e R s m args below meth c H locs cells slots Q (F0 m pc ls (st.map (ri_v ad))) := by
  obtain ⟨i, q, t, vs, x, v, t9, rfl, hq, ht, hg, h0, hl, rfl⟩ := ri_ast_eq h
  obtain ⟨a1, a2, a3⟩ := ri_arr_at hK hP hq ht
  cases t9 with
  | long => cases x with
    | long y => cases hg; exact W.last hx hb a1 a2 a3 (ri_in2 h0 hl) rfl rfl hd (ri_stored (v := .long y) hP hi9 hS9 hl hw9 (Nat.lt_of_lt_of_le (List.getElem?_eq_some_iff.mp hq).1 hw9) k)
    | _ => cases hg
  | _ => cases hg
theorem ri_dast_ok {st st' : List Value} {w' : List ri_E} (hx : p.tables.exec = Jvm.exec) (hb : c.code = cc) (hK : va_K D cl (ri_tys cA tyL) s) (hP : ri_P D cl ad cA w H) (hw9 : w.length ≤ 1000000) (hi9 : ri_inj ad) (hS9 : va_S (ri_A ad) H0 H locs) (hd : decode cc pc = .ok (.dastore, 1)) (h : ri_ast tyL ri_gD st w = some (st', w'))
    (k : ∀ (H1 : Heap) (locs1 : List Loc), ri_P D cl ad cA w' H1 → va_S (ri_A ad) H0 H1 locs1 → H1.size = H.size → W p l e R s m args below meth c H1 locs1 cells slots Q (F0 m (pc + 1) ls (st'.map (ri_v ad)))) : W p l e R s m args below meth c H locs cells slots Q (F0 m pc ls (st.map (ri_v ad))) := by
  obtain ⟨i, q, t, vs, x, v, t9, rfl, hq, ht, hg, h0, hl, rfl⟩ := ri_ast_eq h
  obtain ⟨a1, a2, a3⟩ := ri_arr_at hK hP hq ht
  cases t9 with
  | double => cases x with
    | double y => cases hg; exact W.dast hx hb a1 a2 a3 (ri_in2 h0 hl) rfl rfl hd (ri_stored (v := .double y) hP hi9 hS9 hl hw9 (Nat.lt_of_lt_of_le (List.getElem?_eq_some_iff.mp hq).1 hw9) k)
    | _ => cases hg
  | _ => cases hg
theorem ri_nar_v {t : FieldType} (ht : t = .byte ∨ t = .boolean) (y : Int32) : ri_v ad (narrow t (.int y)) = narrow t (.int y) := by
  rcases ht with rfl | rfl <;> rfl
theorem ri_bast_ok {st st' : List Value} {w' : List ri_E} (hx : p.tables.exec = Jvm.exec) (hb : c.code = cc) (hK : va_K D cl (ri_tys cA tyL) s) (hP : ri_P D cl ad cA w H) (hw9 : w.length ≤ 1000000) (hi9 : ri_inj ad) (hS9 : va_S (ri_A ad) H0 H locs) (hd : decode cc pc = .ok (.bastore, 1)) (h : ri_ast tyL ri_gB st w = some (st', w'))
    (k : ∀ (H1 : Heap) (locs1 : List Loc), ri_P D cl ad cA w' H1 → va_S (ri_A ad) H0 H1 locs1 → H1.size = H.size → W p l e R s m args below meth c H1 locs1 cells slots Q (F0 m (pc + 1) ls (st'.map (ri_v ad)))) : W p l e R s m args below meth c H locs cells slots Q (F0 m pc ls (st.map (ri_v ad))) := by
  obtain ⟨i, q, t, vs, x, v, t9, rfl, hq, ht, hg, h0, hl, rfl⟩ := ri_ast_eq h
  obtain ⟨a1, a2, a3⟩ := ri_arr_at hK hP hq ht
  cases t9 with
  | byte => cases x with
    | int y =>
      cases hg
      refine W.bast hx hb a1 a2 a3 (ri_in2 h0 hl) rfl rfl hd ?_
      have h9 := ri_stored (t := t) (v := narrow .byte (.int y)) (p := p) (l := l) (e := e) (R := R) (s := s) (m := m) (args := args) (below := below) (meth := meth) (c := c) (cells := cells) (slots := slots) (Q := Q) (ls := ls) hP hi9 hS9 hl hw9 (Nat.lt_of_lt_of_le (List.getElem?_eq_some_iff.mp hq).1 hw9) k
      rw [ri_nar_v (Or.inl rfl)] at h9
      exact h9
    | _ => cases hg
  | boolean => cases x with
    | int y =>
      cases hg
      refine W.zast hx hb a1 a2 a3 (ri_in2 h0 hl) rfl rfl hd ?_
      have h9 := ri_stored (t := t) (v := narrow .boolean (.int y)) (p := p) (l := l) (e := e) (R := R) (s := s) (m := m) (args := args) (below := below) (meth := meth) (c := c) (cells := cells) (slots := slots) (Q := Q) (ls := ls) hP hi9 hS9 hl hw9 (Nat.lt_of_lt_of_le (List.getElem?_eq_some_iff.mp hq).1 hw9) k
      rw [ri_nar_v (Or.inr rfl)] at h9
      exact h9
    | _ => cases hg
  | _ => cases hg
end RIA
end
section
/-! ===== the reckoner, part 4: new cells, references in arrays, arraycopy ===== -/
section RIN
variable {p : Program} {l : Launch} {e : Env} {R : Room} {s : State} {m : MethodId} {args : Array Value} {below : List Frame} {meth : Method} {c : Code} {H : Heap} {locs : List Loc} {cells slots : Nat} {Q : State → Prop}
variable {cc : ByteArray} {pc : Nat} {ls : Array Slot} {ad : Nat → Nat} {cA : Nat → ClassId} {tyL : List FieldType} {D : va_G} {cl : List vw_C} {ty : Nat → Nat → FieldType} {WG : List Jvm.Cond} {own : String} {w : List ri_E} {H0 : Heap}
theorem ri_S_new {A : Nat → Prop} {H1 : Heap} (h : va_S A H0 H locs) (hz : H.size ≤ H1.size) (oq : ∀ z : Nat, z < H.size → H1[z]? = H[z]?) : va_S A H0 H1 locs := ⟨Nat.le_trans h.1 hz, fun q h1 h2 => (oq q (Nat.lt_of_lt_of_le h1 h.1)).trans (h.2.1 q h1 h2), h.2.2⟩
theorem ri_v_default (ad : Nat → Nat) {t : FieldType} (ht : t ≠ .float) : ri_v ad (defaultValue t) = defaultValue t := by cases t <;> first | rfl | exact absurd rfl ht
theorem ri_new_ok {a idx N : Nat} {st fs : List Value} (hx : p.tables.exec = Jvm.exec) (hb : c.code = cc) (hown : s.vm.findClass own = some m.cls) (hts : ∀ x ∈ WG, x.before args s = true) (hK : va_K D cl (ri_tys cA tyL) s) (hC : ri_clok WG cl ty) (hP : ri_P D cl ad cA w H) (hS9 : va_S (ri_A ad) H0 H locs) (hn : ri_nx ad w.length H.size) (hlt9 : w.length < 1000000)
    {r : vw_C} (hr : cl[a]? = some r) (hN : r.2.2 = N) (hw : Jvm.Cond.classLink own idx r.1 ∈ WG) (hfs : ∀ j, j < N → fs.getD j .null = defaultValue (ty a j) ∧ ty a j ≠ .float) (hcells : cells + 1 ≤ R.cells) (hslots : slots + N ≤ R.slots) (hd : decode cc pc = .ok (.new idx, 3))
    (k : ∀ H1 : Heap, ri_P D cl ad cA (w ++ [.inr (a, fs)]) H1 → va_S (ri_A ad) H0 H1 locs → ri_nx ad (w ++ [(Sum.inr (a, fs) : ri_E)]).length H1.size → W p l e R s m args below meth c H1 locs (cells + 1) (slots + N) Q (F0 m (pc + 3) ls ((.ref w.length :: st).map (ri_v ad)))) : W p l e R s m args below meth c H locs cells slots Q (F0 m pc ls (st.map (ri_v ad))) := by
  subst hN
  obtain ⟨h1, h2, h3, h4, h5⟩ := hC a _ hr
  have hKn := hK.1 a _ hr
  refine W.newcK hx hb hown (hts _ hw) (hts _ h4) (hts _ h5) rfl hd hcells hslots hKn.2.1 rfl fun H1 kC hkC e1 z1 o1 => ?_
  have hh : ad w.length = H.size := hn.here hlt9
  have e : (F0 m (pc + 3) ls ((.ref w.length :: st).map (ri_v ad))) = { F0 m pc ls (st.map (ri_v ad)) with pc := pc + 3, stack := .ref H.size :: (st.map (ri_v ad)) } := by
    rw [← hh]; rfl
  refine W.eq e.symm (k H1 (hP.push ⟨_, hr, ?_⟩ o1) (ri_S_new hS9 (by omega) o1) ?_)
  · rw [hh]
    exact (u_born (ty a) hts h1 hKn hkC e1 h2).to (fun j hj => by rw [ri_f, (hfs j hj).1, ri_v_default ad (hfs j hj).2])
  · rw [z1, List.length_append]
    exact hn.succ
noncomputable def ri_newa (t : Nat) (d : Value) (st : List Value) (w : List ri_E) : Option (Nat × List Value × List ri_E) := match st with
  | .int n :: r => ri_ok (!decide (n < 0) && Nat.ble n.toNatClampNeg 60000000) (some (n.toNatClampNeg, .ref w.length :: r, w ++ [.inl (t, List.replicate n.toNatClampNeg d)]))
  | _ => none
theorem ri_newa_eq {t N : Nat} {d : Value} {st st' : List Value} {w' : List ri_E} (h : ri_newa t d st w = some (N, st', w')) : ∃ (n : Int32) (r : List Value), st = .int n :: r ∧ ¬ n < 0 ∧ n.toNatClampNeg = N ∧ N ≤ 60000000 ∧ st' = .ref w.length :: r ∧ w' = w ++ [.inl (t, List.replicate N d)] := by
  unfold ri_newa at h
  split at h
  · rename_i n r
    obtain ⟨hb, h2⟩ := ri_ok_eq h
    obtain ⟨b1, b2⟩ := (Bool.and_eq_true _ _ ▸ hb : (!decide (n < 0)) = true ∧ Nat.ble n.toNatClampNeg 60000000 = true)
    have e := Option.some.inj h2
    have e1 : n.toNatClampNeg = N := congrArg Prod.fst e
    have e2 : (.ref w.length :: r : List Value) = st' := congrArg (fun x => x.2.1) e
    have e3 : w ++ [.inl (t, List.replicate n.toNatClampNeg d)] = w' := congrArg (fun x => x.2.2) e
    exact ⟨n, r, rfl, by simpa using b1, e1, by rw [← e1]; exact Nat.le_of_ble_eq_true b2, e2.symm, by rw [← e3, e1]⟩
  · cases h
theorem ri_f_rep {N : Nat} {d : Value} (hd : ri_v ad d = d) (cc9 : ClassId) : arrV cc9 N (fun _ => d) = arrV cc9 (List.replicate N d).length (ri_f ad (List.replicate N d)) := by
  rw [List.length_replicate]
  unfold arrV
  congr 1
  apply Array.ext
  · simp
  · intro i h1 h2
    have h3 : i < N := by simpa using h1
    simp [ri_f, h3, hd]
theorem ri_newa_ok {t N : Nat} {atype : ArrayType} {t9 : FieldType} {st st' : List Value} {w' : List ri_E} (hx : p.tables.exec = Jvm.exec) (hb : c.code = cc) (hts : ∀ x ∈ WG, x.before args s = true) (hK : va_K D cl (ri_tys cA tyL) s) (hP : ri_P D cl ad cA w H) (hS9 : va_S (ri_A ad) H0 H locs) (hn : ri_nx ad w.length H.size) (hlt9 : w.length < 1000000)
    (ht : tyL[t]? = some t9) (hty : newarray.typeOf atype = t9) (hnf : t9 ≠ .float) (hw : Jvm.Cond.arrayClass t9 ∈ WG) (hcells : cells + 1 ≤ R.cells) (hslots : slots + N ≤ R.slots) (hd : decode cc pc = .ok (.newarray atype, 2)) (h : ri_newa t (defaultValue t9) st w = some (N, st', w'))
    (k : ∀ H1 : Heap, ri_P D cl ad cA w' H1 → va_S (ri_A ad) H0 H1 locs → ri_nx ad w'.length H1.size → W p l e R s m args below meth c H1 locs (cells + 1) (slots + N) Q (F0 m (pc + 2) ls (st'.map (ri_v ad)))) : W p l e R s m args below meth c H locs cells slots Q (F0 m pc ls (st.map (ri_v ad))) := by
  obtain ⟨n, r, rfl, h0, hN, hle, rfl, rfl⟩ := ri_newa_eq h
  subst hty
  have hbytes : N * componentBytes (newarray.typeOf atype) ≤ 536870912 := by
    cases atype <;> simp [newarray.typeOf, componentBytes] <;> omega
  refine va_newaK hx hb (hts _ hw) rfl hd rfl h0 hN hbytes hcells hslots rfl fun H1 cA9 e1 z1 o1 hAr hNm => ?_
  have hcA : cA9 = cA t := by
    have h9 := (hK.2 t _ (ri_tys_at ht)).2
    have h8 : s.vm.findClass ("[" ++ (newarray.typeOf atype).toString) = some (cA t) := by cases atype <;> exact h9
    exact Option.some.inj (hNm.symm.trans h8)
  have hh : ad w.length = H.size := hn.here hlt9
  have e : (F0 m (pc + 2) ls ((.ref w.length :: r).map (ri_v ad))) = { F0 m pc ls ((.int n :: r).map (ri_v ad)) with pc := pc + 2, stack := .ref H.size :: (r.map (ri_v ad)) } := by
    rw [← hh]; rfl
  refine W.eq e.symm (k H1 (hP.push ?_ o1) (ri_S_new hS9 (by omega) o1) ?_)
  · show H1[ad w.length]? = some (arrV (cA t) (List.replicate N _).length (ri_f ad (List.replicate N _)))
    rw [hh, e1, hcA, ri_f_rep (ri_v_default ad hnf)]
  · rw [z1, List.length_append]
    exact hn.succ
theorem ri_newq_ok {t N idx : Nat} {C : String} {st st' : List Value} {w' : List ri_E} (hx : p.tables.exec = Jvm.exec) (hb : c.code = cc) (hown : s.vm.findClass own = some m.cls) (hts : ∀ x ∈ WG, x.before args s = true) (hover : va_AO C s) (hK : va_K D cl (ri_tys cA tyL) s) (hP : ri_P D cl ad cA w H) (hS9 : va_S (ri_A ad) H0 H locs) (hn : ri_nx ad w.length H.size) (hlt9 : w.length < 1000000)
    (ht : tyL[t]? = some (.object C)) (hw : Jvm.Cond.classLink own idx C ∈ WG) (hcells : cells + 1 ≤ R.cells) (hslots : slots + N ≤ R.slots) (hd : decode cc pc = .ok (.anewarray idx, 3)) (h : ri_newa t .null st w = some (N, st', w'))
    (k : ∀ H1 : Heap, ri_P D cl ad cA w' H1 → va_S (ri_A ad) H0 H1 locs → ri_nx ad w'.length H1.size → W p l e R s m args below meth c H1 locs (cells + 1) (slots + N) Q (F0 m (pc + 3) ls (st'.map (ri_v ad)))) : W p l e R s m args below meth c H locs cells slots Q (F0 m pc ls (st.map (ri_v ad))) := by
  obtain ⟨n, r, rfl, h0, hN, hle, rfl, rfl⟩ := ri_newa_eq h
  refine W.anew hx hb hown (hts _ hw) (va_AO.use hover) rfl hd rfl h0 (by rw [hN]; omega) hcells (by rw [hN]; exact hslots) fun cA9 kA comp g1 g2 g3 g4 => ?_
  have hcA : cA9 = cA t := by
    obtain ⟨kA2, comp2, q1, q2, q3, q4⟩ := (hK.2 t _ (ri_tys_at ht)).2
    exact Option.some.inj (g1.symm.trans q4)
  have hh : ad w.length = H.size := hn.here hlt9
  have e : (F0 m (pc + 3) ls ((.ref w.length :: r).map (ri_v ad))) = { F0 m pc ls ((.int n :: r).map (ri_v ad)) with pc := pc + 3, stack := .ref H.size :: (r.map (ri_v ad)) } := by
    rw [← hh]; rfl
  rw [hN]
  have o1 : ∀ z : Nat, z < H.size → (H.push { cls := cA9, slots := Array.replicate N .null, vm := .none } : Heap)[z]? = H[z]? := fun z hz => by rw [Array.getElem?_push, if_neg (Nat.ne_of_lt hz)]
  refine W.eq e.symm (k _ (hP.push ?_ o1) (ri_S_new hS9 (by simp) o1) ?_)
  · show (H.push { cls := cA9, slots := Array.replicate N .null, vm := .none } : Heap)[ad w.length]? = some (arrV (cA t) (List.replicate N _).length (ri_f ad (List.replicate N _)))
    rw [hh, ← ri_f_rep rfl, ← arrV_new, hcA]
    simp
  · rw [List.length_append, Array.size_push]
    exact hn.succ
/-- a reference into an array of references: a the object's kind, b the array's type -/
noncomputable def ri_aast (a b : Nat) (st : List Value) (w : List ri_E) : Option (List Value × List ri_E) := match st with
  | .ref v :: .int i :: .ref q :: r => (match ri_nth w q with
    | some (.inl x) => (match ri_nth w v with
      | some (.inr y) => ri_ok (Nat.beq x.1 b && (Nat.beq y.1 a && !decide (i < 0))) (match ri_nth x.2 i.toNatClampNeg with
        | some _ => some (r, ri_upd (.inl (x.1, ri_upd (.ref v) x.2 i.toNatClampNeg)) w q)
        | none => none)
      | _ => none)
    | _ => none)
  | _ => none
theorem ri_aast_eq {a b : Nat} {st st' : List Value} {w' : List ri_E} (h : ri_aast a b st w = some (st', w')) : ∃ (v q : Nat) (i : Int32) (vs fs : List Value), st = .ref v :: .int i :: .ref q :: st' ∧ w[q]? = some (.inl (b, vs)) ∧ w[v]? = some (.inr (a, fs)) ∧ ¬ i < 0 ∧ i.toNatClampNeg < vs.length ∧ w' = w.set q (.inl (b, vs.set i.toNatClampNeg (.ref v))) := by
  unfold ri_aast at h
  split at h
  · rename_i v i q r
    split at h
    · rename_i x hx
      split at h
      · rename_i y hy
        obtain ⟨hb, h2⟩ := ri_ok_eq h
        split at h2
        · rename_i u hu
          rw [ri_nth_eq] at hx hy hu
          simp only [Bool.and_eq_true] at hb
          obtain ⟨b1, b2, b3⟩ := hb
          obtain ⟨x1, x2⟩ := x
          obtain ⟨y1, y2⟩ := y
          have e1 : x1 = b := Nat.eq_of_beq_eq_true b1
          have e2 : y1 = a := Nat.eq_of_beq_eq_true b2
          rw [ri_upd_eq, ri_upd_eq] at h2
          have e3 := Option.some.inj h2
          have e4 : r = st' := congrArg Prod.fst e3
          have e5 : w.set q (.inl (x1, x2.set i.toNatClampNeg (.ref v))) = w' := congrArg Prod.snd e3
          exact ⟨v, q, i, x2, y2, by rw [e4], by rw [hx, e1], by rw [hy, e2], by simpa using b3, (List.getElem?_eq_some_iff.mp hu).1, by rw [← e5, e1]⟩
        · cases h2
      · cases h
    · cases h
  · cases h
theorem ri_aast_ok {a b : Nat} {st st' : List Value} {w' : List ri_E} (hx : p.tables.exec = Jvm.exec) (hb : c.code = cc) (hK : va_K D cl (ri_tys cA tyL) s) (hP : ri_P D cl ad cA w H) (hw9 : w.length ≤ 1000000) (hi9 : ri_inj ad) (hS9 : va_S (ri_A ad) H0 H locs) {r : vw_C} (hr : cl[a]? = some r) (ht : tyL[b]? = some (.object r.1)) (hd : decode cc pc = .ok (.aastore, 1)) (h : ri_aast a b st w = some (st', w'))
    (k : ∀ (H1 : Heap) (locs1 : List Loc), ri_P D cl ad cA w' H1 → va_S (ri_A ad) H0 H1 locs1 → H1.size = H.size → W p l e R s m args below meth c H1 locs1 cells slots Q (F0 m (pc + 1) ls (st'.map (ri_v ad)))) : W p l e R s m args below meth c H locs cells slots Q (F0 m pc ls (st.map (ri_v ad))) := by
  obtain ⟨v, q, i, vs, fs, rfl, hq, hv, h0, hl, rfl⟩ := ri_aast_eq h
  obtain ⟨r', hr', cellV, g1, g2, g3, -⟩ := hP v _ hv
  have hcls := (hK.1 a r hr).2
  obtain ⟨kA, comp, k1, k2, k3, -⟩ := (hK.2 b _ (ri_tys_at ht)).2
  have hcomp : comp = D.1 a := Option.some.inj (k3.symm.trans hcls.1)
  subst hcomp
  obtain ⟨kC, hkC, -⟩ := hcls.2
  exact W.aast hx hb (hP q _ hq) (fun q h => by cases h) (fun h => by cases h) k1 k2 rfl hkC ⟨h0, by rw [arrV_size]; exact hl⟩ g1 (fun q h => by rw [g3] at h; cases h) (by rw [g2]; exact hkC) (by rw [g2]; exact va_assign hcls) rfl rfl hd (ri_stored (v := .ref v) hP hi9 hS9 hl hw9 (Nat.lt_of_lt_of_le (List.getElem?_eq_some_iff.mp hq).1 hw9) k)
end RIN
end
section
/-! ===== the reckoner, part 4b: new double[n][m] ===== -/
/-- arrays over such a type are there -/
def ri_AO (t : FieldType) (U : State) : Prop := match t with
  | .object C => va_AO C U
  | .array t => (Cond.arrayOver (.array t)).before #[] U = true
  | _ => True
theorem ri_AO.moved {t : FieldType} {u U : State} (hvm : u.vm.Alike U.vm) (h : ri_AO t u) : ri_AO t U := by
  cases t with
  | object C => exact va_AO.moved hvm h
  | array t =>
    obtain ⟨comp, c, k, h1, h2, h3, h4, h5⟩ := arrayOver_specB (show (Cond.arrayOver (.array t)).before #[] u = true from h)
    obtain ⟨k', hk', he⟩ := hvm.2.2 _ _ h3
    have hi : (U.vm.classes.findIdx? fun (x : Class) => match x.kind with | .array component _ => component == comp | _ => false) = some c := by
      have hb9 : U.vm.bare = u.vm.bare := by first | exact hvm.bare_eq | exact hvm.bare_eq.symm
      refine (va_idx_bare U.vm comp).symm.trans ?_
      rw [hb9]
      exact (va_idx_bare u.vm comp).trans h2
    have hkind : k'.kind = .array comp (.array t) := by rw [he]; exact h4
    have f1 : U.vm.findClass (FieldType.array t).toString = some comp := by rw [hvm.findClass]; exact h1
    have f2 : U.vm.findClass ("[" ++ (FieldType.array t).toString) = some c := by rw [hvm.findClass]; exact h5
    show (Cond.arrayOver (.array t)).before #[] U = true
    unfold Cond.before Cond.holds
    simp only [Cond.value]
    rw [f1, Option.bind_some]
    refine (congrArg (fun o : Option Nat => (o.bind (fun c => (U.vm.classes[c]?).map fun (k : Class) => match k.kind with | .array _ ty => decide (ty = FieldType.array t) && decide (U.vm.findClass ("[" ++ (FieldType.array t).toString) = some c) | _ => false) == some true)) hi).trans ?_
    simp [hk', hkind, f2]
  | _ => trivial
theorem ri_inner (c : ClassId) (K : Nat) (d : Value) : Jvm.Free.Multi.innerC c K d = arrV c K (fun _ => d) := by
  unfold Jvm.Free.Multi.innerC arrV
  congr 1
  apply Array.ext
  · simp
  · intro i h1 h2
    simp
theorem ri_outer (c : ClassId) (N h0 : Nat) : ∀ i : Nat, Jvm.Free.Multi.outerC c N h0 i = arrV c N (fun j => if j < i then .ref (h0 + 1 + j) else .null)
  | 0 => by
    show ({ cls := c, slots := Array.replicate N .null, vm := .none } : Cell) = _
    rw [arrV_new]
    refine congrArg (arrV c N) (funext fun j => ?_)
    simp
  | i + 1 => by
    show (Jvm.Free.Multi.outerC c N h0 i).setSlot i (.ref (h0 + 1 + i)) = _
    rw [ri_outer c N h0 i, arrV_store]
    refine congrArg (arrV c N) (funext fun j => ?_)
    by_cases e : j = i
    · subst e
      simp [updV]
    · by_cases h : j < i
      · simp [updV, e, h, Nat.lt_succ_of_lt h]
      · simp [updV, e, h, show ¬ j < i + 1 by omega]
/-- references n, n + 1, .. -/
noncomputable def ri_refs (N : Nat) : Nat → List Value := Nat.rec (fun _ => []) (fun _ ih k => .ref k :: ih (k + 1)) N
theorem ri_refs_len : ∀ (N k : Nat), (ri_refs N k).length = N
  | 0, _ => rfl
  | N + 1, k => congrArg Nat.succ (ri_refs_len N (k + 1))
theorem ri_refs_at : ∀ (N k j : Nat), j < N → (ri_refs N k)[j]? = some (.ref (k + j))
  | 0, _, _, h => absurd h (Nat.not_lt_zero _)
  | N + 1, k, 0, _ => rfl
  | N + 1, k, j + 1, h => by
    show (ri_refs N (k + 1))[j]? = _
    rw [ri_refs_at N (k + 1) j (by omega), show k + 1 + j = k + (j + 1) by omega]
section RIM
variable {p : Program} {l : Launch} {e : Env} {R : Room} {s : State} {m : MethodId} {args : Array Value} {below : List Frame} {meth : Method} {c : Code} {H : Heap} {locs : List Loc} {cells slots : Nat} {Q : State → Prop}
variable {cc : ByteArray} {pc : Nat} {ls : Array Slot} {ad : Nat → Nat} {cA : Nat → ClassId} {tyL : List FieldType} {D : va_G} {cl : List vw_C} {WG : List Jvm.Cond} {own : String} {w : List ri_E} {H0 : Heap}
/-- a: the type of the elements, b: of the rows -/
noncomputable def ri_mna (a b : Nat) (st : List Value) (w : List ri_E) : Option (Nat × Nat × List Value × List ri_E) := match st with
  | .int k :: .int n :: r => ri_ok ((!decide (n < 0) && Nat.ble n.toNatClampNeg 100000) && (!decide (k < 0) && Nat.ble k.toNatClampNeg 100000)) (some (n.toNatClampNeg, k.toNatClampNeg, .ref w.length :: r, w ++ .inl (b, ri_refs n.toNatClampNeg (w.length + 1)) :: List.replicate n.toNatClampNeg (.inl (a, List.replicate k.toNatClampNeg (.double 0)))))
  | _ => none
theorem ri_mna_eq {a b N K : Nat} {st st' : List Value} {w' : List ri_E} (h : ri_mna a b st w = some (N, K, st', w')) : ∃ (n k : Int32) (r : List Value), st = .int k :: .int n :: r ∧ ¬ n < 0 ∧ ¬ k < 0 ∧ n.toNatClampNeg = N ∧ k.toNatClampNeg = K ∧ N ≤ 100000 ∧ K ≤ 100000 ∧ st' = .ref w.length :: r ∧ w' = w ++ .inl (b, ri_refs N (w.length + 1)) :: List.replicate N (.inl (a, List.replicate K (.double 0))) := by
  unfold ri_mna at h
  split at h
  · rename_i k n r
    obtain ⟨hb, h2⟩ := ri_ok_eq h
    simp only [Bool.and_eq_true] at hb
    obtain ⟨⟨b1, b2⟩, b3, b4⟩ := hb
    cases h2
    exact ⟨n, k, r, rfl, by simpa using b1, by simpa using b3, rfl, rfl, Nat.le_of_ble_eq_true b2, Nat.le_of_ble_eq_true b4, rfl, rfl⟩
  · cases h
theorem ri_mna_len {a b N K : Nat} {st st' : List Value} {w' : List ri_E} (h : ri_mna a b st w = some (N, K, st', w')) : w'.length = w.length + (1 + N) := by
  obtain ⟨n, k, r, -, -, -, -, -, -, -, -, e9⟩ := ri_mna_eq h
  rw [e9, List.length_append, List.length_cons, List.length_replicate, Nat.add_comm N 1]
theorem ri_mna_ok {a b N K idx : Nat} {st st' : List Value} {w' : List ri_E} (hx : p.tables.exec = Jvm.exec) (hb : c.code = cc) (hown : s.vm.findClass own = some m.cls) (hts : ∀ x ∈ WG, x.before args s = true) (hover : ri_AO (.array .double) s) (hK : va_K D cl (ri_tys cA tyL) s) (hP : ri_P D cl ad cA w H) (hS9 : va_S (ri_A ad) H0 H locs) (hn : ri_nx ad w.length H.size) (hlt9 : w'.length ≤ 1000000)
    (hta : tyL[a]? = some .double) (htb : tyL[b]? = some (.array .double)) (hw : Jvm.Cond.classLink own idx "[[D" ∈ WG) (hwa : Jvm.Cond.arrayClass .double ∈ WG) (hcells : cells + (1 + N) ≤ R.cells) (hslots : slots + (N + N * K) ≤ R.slots) (hd : decode cc pc = .ok (.multianewarray idx 2, 4)) (h : ri_mna a b st w = some (N, K, st', w'))
    (k : ∀ H1 : Heap, ri_P D cl ad cA w' H1 → va_S (ri_A ad) H0 H1 locs → ri_nx ad w'.length H1.size → W p l e R s m args below meth c H1 locs (cells + (1 + N)) (slots + (N + N * K)) Q (F0 m (pc + 4) ls (st'.map (ri_v ad)))) : W p l e R s m args below meth c H locs cells slots Q (F0 m pc ls (st.map (ri_v ad))) := by
  have hlen := ri_mna_len h
  rw [hlen] at hlt9
  obtain ⟨n, k9, r, rfl, h0, h1, hN, hK9, hle, hle2, rfl, rfl⟩ := ri_mna_eq h
  subst hN
  subst hK9
  intro T hT Xs
  obtain ⟨vm₁, cA9, comp, -, fA, fC, -, -, X', step⟩ := Xs.multianewarray2F (ty := .double) hx hown (hts _ hw) (show (Cond.arrayOver (.array .double)).before args s = true from hover) (hts _ hwa) (g := F0 m pc ls ((.int k9 :: .int n :: r).map (ri_v ad))) rfl (by rw [hb]; exact hd) (rest := r.map (ri_v ad)) rfl h0 h1 (by omega) (by simp [componentBytes]; omega) (by omega) rfl rfl hcells hslots
  have ea : cA9 = cA b := Option.some.inj (fA.symm.trans (hK.2 b _ (ri_tys_at htb)).2)
  have ec : comp = cA a := Option.some.inj (fC.symm.trans (hK.2 a _ (ri_tys_at hta)).2)
  subst ea
  subst ec
  generalize hF : Jvm.Free.Multi.fill (T.setVm vm₁) (cA b) (cA a) n.toNatClampNeg k9.toNatClampNeg (defaultValue .double) n.toNatClampNeg = F at X' step
  have hTh : (T.setVm vm₁).heap = H := hT
  obtain ⟨f1, f2, -, -⟩ := Jvm.Free.Multi.fill_facts (T.setVm vm₁) (cA b) (cA a) n.toNatClampNeg k9.toNatClampNeg (defaultValue .double) n.toNatClampNeg
  rw [hF, hTh] at f1 f2
  have hold : ∀ x : Nat, x < H.size → F.heap[x]? = H[x]? := fun x hx => by
    have := Jvm.Free.Multi.fill_old (T.setVm vm₁) (cA b) (cA a) n.toNatClampNeg k9.toNatClampNeg (defaultValue .double) (a := x) (by rw [hTh]; exact hx) n.toNatClampNeg
    rw [hF, hTh] at this
    exact this
  have hrow : ∀ j : Nat, j < n.toNatClampNeg → F.heap[H.size + 1 + j]? = some (arrV (cA a) k9.toNatClampNeg (fun _ => .double 0)) := fun j hj => by
    have := Jvm.Free.Multi.fill_inner (T.setVm vm₁) (cA b) (cA a) n.toNatClampNeg k9.toNatClampNeg (defaultValue .double) n.toNatClampNeg j hj
    rw [hF, hTh, ri_inner] at this
    exact this
  have hP1 : ri_P D cl ad cA (w ++ .inl (b, ri_refs n.toNatClampNeg (w.length + 1)) :: List.replicate n.toNatClampNeg (.inl (a, List.replicate k9.toNatClampNeg (.double 0)))) F.heap := by
    intro i y hi
    by_cases hl : i < w.length
    · rw [List.getElem?_append_left hl] at hi
      exact (hP i y hi).kept (hold _ (hP i y hi).lt)
    · rw [List.getElem?_append_right (by omega)] at hi
      have hi9 : i < 1000000 := by
        have q := (List.getElem?_eq_some_iff.mp hi).1
        simp only [List.length_cons, List.length_replicate] at q
        omega
      have had : ad i = H.size + (i - w.length) := hn i (by omega) hi9
      generalize hj : i - w.length = j at hi had
      cases j with
      | zero =>
        cases hi
        show F.heap[ad i]? = some (arrV (cA b) (ri_refs n.toNatClampNeg (w.length + 1)).length (ri_f ad (ri_refs n.toNatClampNeg (w.length + 1))))
        rw [had, Nat.add_zero, f2, ri_outer, ri_refs_len]
        congr 1
        unfold arrV
        congr 1
        apply Array.ext
        · simp
        · intro q q1 q2
          have q3 : q < n.toNatClampNeg := by simpa using q1
          have q4 : ad (w.length + 1 + q) = H.size + 1 + q := by rw [hn _ (by omega) (by omega)]; omega
          have q5 : ri_f ad (ri_refs n.toNatClampNeg (w.length + 1)) q = .ref (H.size + 1 + q) := by
            rw [ri_f_at (ri_refs_at _ _ _ q3), ← q4]; rfl
          simp [q3, q5]
      | succ j =>
        have hi2 : (List.replicate n.toNatClampNeg (.inl (a, List.replicate k9.toNatClampNeg (.double 0))) : List ri_E)[j]? = some y := hi
        have hj2 : j < n.toNatClampNeg := by have := (List.getElem?_eq_some_iff.mp hi2).1; rwa [List.length_replicate] at this
        rw [List.getElem?_replicate, if_pos hj2] at hi2
        cases hi2
        show F.heap[ad i]? = some (arrV (cA a) (List.replicate k9.toNatClampNeg (Value.double 0)).length (ri_f ad (List.replicate k9.toNatClampNeg (Value.double 0))))
        rw [had, show H.size + (j + 1) = H.size + 1 + j by omega, hrow j hj2, ri_f_rep rfl]
  obtain ⟨t, a1, b1⟩ := k F.heap hP1 ⟨by rw [f1]; have := hS9.1; omega, fun x h1 h2 => (hold x (Nat.lt_of_lt_of_le h1 hS9.1)).trans (hS9.2.1 x h1 h2), hS9.2.2⟩ (fun j hj hj9 => by rw [hlen] at hj ⊢; rw [hn j (by omega) hj9, f1]; omega) F rfl (by rw [← Nat.add_assoc, ← Nat.add_assoc]; exact X')
  refine ⟨t, step t ?_, b1⟩
  have e9 : (F0 m (pc + 4) ls ((.ref w.length :: r).map (ri_v ad))) = { F0 m pc ls ((.int k9 :: .int n :: r).map (ri_v ad)) with pc := pc + 4, stack := .ref T.heap.size :: (r.map (ri_v ad)) } := by
    rw [hT, ← hn.here (by omega)]; rfl
  rw [← e9]
  exact a1
end RIM
end
section
/-! ===== the reckoner, part 4c: an int that isn't known into an array of bytes ===== -/
def ri_gU (fr : Nat) (t : FieldType) (x : Value) : Option Value := match t with
  | .byte => (match x with | .float _ => some (.float (UInt32.ofNat fr)) | _ => none)
  | _ => none
def ri_top (st : List Value) : Value := match st with
  | x :: _ => x
  | [] => .null
section RIB
variable {p : Program} {l : Launch} {e : Env} {R : Room} {s : State} {m : MethodId} {args : Array Value} {below : List Frame} {meth : Method} {c : Code} {H : Heap} {locs : List Loc} {cells slots : Nat} {Q : State → Prop}
variable {cc : ByteArray} {pc : Nat} {ls : Array Slot} {ad : Nat → Nat} {cA : Nat → ClassId} {tyL : List FieldType} {D : va_G} {cl : List vw_C} {w : List ri_E} {H0 : Heap}
theorem ri_bsy_ok {fr : Nat} {st st' : List Value} {w' : List ri_E} (hx : p.tables.exec = Jvm.exec) (hb : c.code = cc) (hK : va_K D cl (ri_tys cA tyL) s) (hP : ri_P D cl ad cA w H) (hw9 : w.length ≤ 1000000) (hi9 : ri_inj ad) (hS9 : va_S (ri_A ad) H0 H locs) (hd : decode cc pc = .ok (.bastore, 1)) (h : ri_ast tyL (ri_gU fr) st w = some (st', w')) (hsem : ri_sem ad (.i2b, ri_top st, .int 0, fr, true))
    (k : ∀ (H1 : Heap) (locs1 : List Loc), ri_P D cl ad cA w' H1 → va_S (ri_A ad) H0 H1 locs1 → H1.size = H.size → W p l e R s m args below meth c H1 locs1 cells slots Q (F0 m (pc + 1) ls (st'.map (ri_v ad)))) : W p l e R s m args below meth c H locs cells slots Q (F0 m pc ls (st.map (ri_v ad))) := by
  obtain ⟨i, q, t, vs, x, v, t9, rfl, hq, ht, hg, h0, hl, rfl⟩ := ri_ast_eq h
  obtain ⟨a1, a2, a3⟩ := ri_arr_at hK hP hq ht
  cases t9 with
  | byte => cases x with
    | float y =>
      cases hg
      have e1 : ri_op1 .i2b (ri_I ad (.float y)) = some (ri_sy ad fr) := hsem
      have e2 : (ri_I ad (.float y)).toInt8.toInt32 = ri_I ad (.float (UInt32.ofNat fr)) := Option.some.inj e1
      refine W.bast (x := ri_I ad (.float y)) hx hb a1 a2 a3 (ri_in2 h0 hl) rfl rfl hd ?_
      have h9 := ri_stored (t := t) (v := .float (UInt32.ofNat fr)) (p := p) (l := l) (e := e) (R := R) (s := s) (m := m) (args := args) (below := below) (meth := meth) (c := c) (cells := cells) (slots := slots) (Q := Q) (ls := ls) hP hi9 hS9 hl hw9 (Nat.lt_of_lt_of_le (List.getElem?_eq_some_iff.mp hq).1 hw9) k
      have e3 : ri_v ad (.float (UInt32.ofNat fr)) = narrow .byte (.int (ri_I ad (.float y))) := by
        show Value.int (ri_I ad (.float (UInt32.ofNat fr))) = _
        rw [← e2]
        rfl
      rw [e3] at h9
      exact h9
    | _ => cases hg
  | _ => cases hg
end RIB
end
section
/-! ===== the reckoner, part 5: System.arraycopy, new T[n][m] ===== -/
/-- n elements of s from sp on, laid into d from dp on -/
def ri_cpy (s d : List Value) (sp dp n : Nat) : List Value := d.take dp ++ ((s.drop sp).take n ++ d.drop (dp + n))
theorem ri_cpy_len {s d : List Value} {sp dp n : Nat} (h1 : sp + n ≤ s.length) (h2 : dp + n ≤ d.length) : (ri_cpy s d sp dp n).length = d.length := by
  simp only [ri_cpy, List.length_append, List.length_take, List.length_drop]
  omega
theorem ri_cpy_at {s d : List Value} {sp dp n : Nat} (h1 : sp + n ≤ s.length) (h2 : dp + n ≤ d.length) (k : Nat) : (ri_cpy s d sp dp n)[k]? = if dp ≤ k ∧ k < dp + n then s[sp + (k - dp)]? else d[k]? := by
  unfold ri_cpy
  have l1 : (d.take dp).length = dp := by rw [List.length_take]; omega
  have l2 : ((s.drop sp).take n).length = n := by rw [List.length_take, List.length_drop]; omega
  by_cases ha : k < dp
  · rw [List.getElem?_append_left (by omega), if_neg (by omega), List.getElem?_take, if_pos ha]
  · rw [List.getElem?_append_right (by omega), l1]
    by_cases hb : k < dp + n
    · rw [List.getElem?_append_left (by omega), if_pos ⟨by omega, hb⟩, List.getElem?_take, if_pos (by omega), List.getElem?_drop]
    · rw [List.getElem?_append_right (by omega), if_neg (by omega), l2, List.getElem?_drop]
      congr 1
      omega
theorem ri_cpy_f {ad : Nat → Nat} {s d : List Value} {sp dp n : Nat} (h1 : sp + n ≤ s.length) (h2 : dp + n ≤ d.length) : va_cpy (ri_f ad s) (ri_f ad d) sp dp n = ri_f ad (ri_cpy s d sp dp n) := by
  funext k
  simp only [va_cpy, ri_f, List.getD_eq_getElem?_getD, ri_cpy_at h1 h2]
  by_cases h : dp ≤ k ∧ k < dp + n
  · rw [if_pos h, if_pos h]
  · rw [if_neg h, if_neg h]
/-- an element that an array of this type may hold -/
def ri_ft (t : FieldType) (v : Value) : Bool := match t with
  | .int => (match v with | .int _ => true | .float _ => true | _ => false)
  | .long => (match v with | .long _ => true | _ => false)
  | .double => (match v with | .double _ => true | _ => false)
  | .boolean => (match v with | .int x => fits .boolean (.int x) | _ => false)
  | .byte => (match v with | .int x => fits .byte (.int x) | _ => false)
  | _ => false
theorem ri_ft_ok {ad : Nat → Nat} {t : FieldType} {v : Value} (h : ri_ft t v = true) : fits t (ri_v ad v) = true ∧ ∀ z : Nat, v ≠ .ref z := by
  cases t <;> first | (cases h; done) | (cases v <;> first | (cases h; done) | exact ⟨h, fun z q => by cases q⟩ | exact ⟨rfl, fun z q => by cases q⟩)
noncomputable def ri_acopy (tyL : List FieldType) (bud : Nat) (st : List Value) (w : List ri_E) : Option (List Value × List ri_E) := match st with
  | .int n :: .int dp :: .ref q1 :: .int sp :: .ref q0 :: r => (match ri_nth w q0 with
    | some (.inl a0) => (match ri_nth w q1 with
      | some (.inl a1) => (match ri_nth tyL a0.1 with
        | some t => ri_ok (Nat.beq a0.1 a1.1 && (!refKind t && (!decide (sp < 0) && (!decide (dp < 0) && (!decide (n < 0) && (Nat.ble (sp.toNatClampNeg + n.toNatClampNeg) a0.2.length && (Nat.ble (dp.toNatClampNeg + n.toNatClampNeg) a1.2.length && (((a0.2.drop sp.toNatClampNeg).take n.toNatClampNeg).all (ri_ft t) && Nat.ble ((r.map fun v => v.category).sum + 18) bud))))))))
          (some (r, ri_upd (.inl (a1.1, ri_cpy a0.2 a1.2 sp.toNatClampNeg dp.toNatClampNeg n.toNatClampNeg)) w q1))
        | none => none)
      | _ => none)
    | _ => none)
  | _ => none
theorem ri_acopy_eq {tyL : List FieldType} {bud : Nat} {st st' : List Value} {w w' : List ri_E} (h : ri_acopy tyL bud st w = some (st', w')) : ∃ (n dp sp : Int32) (q1 q0 t0 : Nat) (v0 v1 : List Value) (t : FieldType), st = .int n :: .int dp :: .ref q1 :: .int sp :: .ref q0 :: st' ∧ w[q0]? = some (.inl (t0, v0)) ∧ w[q1]? = some (.inl (t0, v1)) ∧ tyL[t0]? = some t ∧ refKind t = false ∧ ¬ sp < 0 ∧ ¬ dp < 0 ∧ ¬ n < 0 ∧
    sp.toNatClampNeg + n.toNatClampNeg ≤ v0.length ∧ dp.toNatClampNeg + n.toNatClampNeg ≤ v1.length ∧ ((v0.drop sp.toNatClampNeg).take n.toNatClampNeg).all (ri_ft t) = true ∧ (st'.map fun v => v.category).sum + 18 ≤ bud ∧ w' = w.set q1 (.inl (t0, ri_cpy v0 v1 sp.toNatClampNeg dp.toNatClampNeg n.toNatClampNeg)) := by
  unfold ri_acopy at h
  split at h
  · rename_i n dp q1 sp q0 r
    split at h
    · rename_i a0 h0
      split at h
      · rename_i a1 h1
        split at h
        · rename_i t ht
          obtain ⟨hb, h2⟩ := ri_ok_eq h
          rw [ri_nth_eq] at h0 h1 ht
          simp only [Bool.and_eq_true] at hb
          obtain ⟨b1, b2, b3, b4, b5, b6, b7, b8, b9⟩ := hb
          obtain ⟨x1, x2⟩ := a0
          obtain ⟨y1, y2⟩ := a1
          have e1 : x1 = y1 := Nat.eq_of_beq_eq_true b1
          rw [ri_upd_eq] at h2
          have e3 := Option.some.inj h2
          have e4 : r = st' := congrArg Prod.fst e3
          have e5 : w.set q1 (.inl (y1, ri_cpy x2 y2 sp.toNatClampNeg dp.toNatClampNeg n.toNatClampNeg)) = w' := congrArg Prod.snd e3
          exact ⟨n, dp, sp, q1, q0, x1, x2, y2, t, by rw [e4], h0, by rw [h1, e1], ht, by simpa using b2, by simpa using b3, by simpa using b4, by simpa using b5, Nat.le_of_ble_eq_true b6, Nat.le_of_ble_eq_true b7, b8, by rw [← e4]; exact Nat.le_of_ble_eq_true b9, by rw [← e5, e1]⟩
        · cases h
      · cases h
    · cases h
  · cases h
section RIK
variable {p : Program} {l : Launch} {e : Env} {R : Room} {s : State} {m : MethodId} {args : Array Value} {below : List Frame} {meth : Method} {c : Code} {H : Heap} {locs : List Loc} {cells slots : Nat} {Q : State → Prop}
variable {cc : ByteArray} {pc : Nat} {ls : Array Slot} {ad : Nat → Nat} {cA : Nat → ClassId} {tyL : List FieldType} {D : va_G} {cl : List vw_C} {ty : Nat → Nat → FieldType} {WG : List Jvm.Cond} {own : String} {w : List ri_E} {H0 : Heap}
theorem ri_nn {z : Int32} (hz : ¬ z < 0) : z.toInt = (z.toNatClampNeg : Int) := by
  have hz0 : (0 : Int) ≤ z.toInt := by
    have := Int32.not_lt.mp hz
    simpa using Int32.le_iff_toInt_le.mp this
  show z.toInt = ((z.toInt.toNat : Nat) : Int)
  omega
theorem ri_acopy_ok {idx bud : Nat} {st st' : List Value} {w' : List ri_E} (hx : p.tables.exec = Jvm.exec) (hb : c.code = cc) (hml : c.maxLocals = ls.size) (hown : s.vm.findClass own = some m.cls) (hts : ∀ x ∈ WG, x.before args s = true) (hw : Jvm.Cond.methodLink own idx arraycopyName ∈ WG) (hw1 : Jvm.Cond.native arraycopyName ∈ WG) (hw2 : Jvm.Cond.static arraycopyName ∈ WG) (hw3 : Jvm.Cond.initialized "java/lang/System" ∈ WG)
    (hK : va_K D cl (ri_tys cA tyL) s) (hP : ri_P D cl ad cA w H) (hw9 : w.length ≤ 1000000) (hi9 : ri_inj ad) (hS9 : va_S (ri_A ad) H0 H locs) (hfr : 1 ≤ R.frames) (hbd : bud ≤ R.locals) (hd : decode cc pc = .ok (.invokestatic idx, 3)) (h : ri_acopy tyL bud st w = some (st', w'))
    (k : ∀ (H1 : Heap) (locs1 : List Loc), ri_P D cl ad cA w' H1 → va_S (ri_A ad) H0 H1 locs1 → H1.size = H.size → W p l e R s m args below meth c H1 locs1 cells slots Q (F0 m (pc + 3) ls (st'.map (ri_v ad)))) : W p l e R s m args below meth c H locs cells slots Q (F0 m pc ls (st.map (ri_v ad))) := by
  obtain ⟨n, dp, sp, q1, q0, t0, v0, v1, t, rfl, h0, h1, ht, hpr, s0, d0, n0, b0, b1, hfit, hcat, rfl⟩ := ri_acopy_eq h
  obtain ⟨a1, a2, a3⟩ := ri_arr_at hK hP h0 ht
  obtain ⟨c1, c2, c3⟩ := ri_arr_at hK hP h1 ht
  intro T hT X
  obtain ⟨-, k0, hk0, cm0, hkk0⟩ := a2
  obtain ⟨-, k1, hk1, cm1, hkk1⟩ := c2
  obtain ⟨vm', X', step⟩ := X.arraycopy hx hown (hts _ hw) (hts _ hw1) (hts _ hw2) (hts _ hw3) (src := ad q0) (dst := ad q1) (cs := arrV (cA t0) v0.length (ri_f ad v0)) (cd := arrV (cA t0) v1.length (ri_f ad v1)) (srcPos := sp) (destPos := dp) (n := n) (by rw [hT]; exact a1) (by rw [hT]; exact c1)
    (fun _ h => by cases h) (fun _ h => by cases h) (fun h => by cases h) (fun h => by cases h) hk0 hk1 hkk0 hkk1 (by simp [hpr]) s0 d0 n0
    (by rw [ri_nn s0, ri_nn n0, arrV_size]; omega)
    (by rw [ri_nn d0, ri_nn n0, arrV_size]; omega)
    (fun vm₁ _ i hi => by
      have hlt : sp.toNatClampNeg + i < v0.length := by omega
      have e9 : (arrV (cA t0) v0.length (ri_f ad v0)).slots.getD (sp.toNatClampNeg + i) .null = ri_v ad v0[sp.toNatClampNeg + i] := by
        rw [Array.getD_eq_getD_getElem?, arrV_read _ _ hlt]
        simp [ri_f, hlt]
      have hf := List.all_eq_true.mp hfit (v0[sp.toNatClampNeg + i]) (by
        refine List.mem_of_getElem? (i := i) ?_
        rw [List.getElem?_take, if_pos hi, List.getElem?_drop]
        exact List.getElem?_eq_getElem hlt)
      refine ⟨?_, ?_⟩
      · rw [e9]
        exact (ri_ft_ok hf).1
      · rw [e9]
        cases hv : v0[sp.toNatClampNeg + i] with
        | ref z => exact absurd hv ((ri_ft_ok (ad := ad) hf).2 z)
        | _ => exact trivial)
    (g := F0 m pc ls ((.int n :: .int dp :: .ref q1 :: .int sp :: .ref q0 :: st').map (ri_v ad))) rfl (by rw [hml]) (rest := st'.map (ri_v ad)) rfl (by rw [hb]; exact hd) hfr (by
      show 2 * 0 + ((st'.map (ri_v ad)).map fun v => v.category).sum + (nativeFrameWords "java/lang/System" "arraycopy" 5 + 11) ≤ R.locals
      have e8 : (st'.map (ri_v ad)).map (fun v => v.category) = st'.map (fun v => v.category) := by
        rw [List.map_map]
        exact List.map_congr_left (fun v _ => ri_v_cat ad v)
      have e7 : nativeFrameWords "java/lang/System" "arraycopy" 5 = 7 := by decide +kernel
      rw [e8, e7]
      omega)
  have e1 : copied (arrV (cA t0) v0.length (ri_f ad v0)) (arrV (cA t0) v1.length (ri_f ad v1)) sp dp n = arrV (cA t0) v1.length (va_cpy (ri_f ad v0) (ri_f ad v1) sp.toNatClampNeg dp.toNatClampNeg n.toNatClampNeg) := va_copied (fun z => z) (cA t0) (cA t0) (ri_f ad v0) (ri_f ad v1) b0
  rw [ri_cpy_f b0 b1] at e1
  rw [e1] at X' step
  have hl : ad q1 < H.size := (Array.getElem?_eq_some_iff.mp c1).1
  have hheap : ((T.setVm vm').setCell (ad q1) (arrV (cA t0) v1.length (ri_f ad (ri_cpy v0 v1 sp.toNatClampNeg dp.toNatClampNeg n.toNatClampNeg)))).heap = H.setIfInBounds (ad q1) (arrV (cA t0) v1.length (ri_f ad (ri_cpy v0 v1 sp.toNatClampNeg dp.toNatClampNeg n.toNatClampNeg))) := by rw [← hT]; rfl
  have oq : ∀ q : Nat, q ≠ ad q1 → (H.setIfInBounds (ad q1) (arrV (cA t0) v1.length (ri_f ad (ri_cpy v0 v1 sp.toNatClampNeg dp.toNatClampNeg n.toNatClampNeg))))[q]? = H[q]? := fun q hq => by simp [Array.getElem?_setIfInBounds, Ne.symm hq]
  obtain ⟨t', r1, r2⟩ := k _ _ (hP.set hi9 hw9 (q := q1) (Nat.lt_of_lt_of_le (List.getElem?_eq_some_iff.mp h1).1 hw9) (x := .inl (t0, ri_cpy v0 v1 sp.toNatClampNeg dp.toNatClampNeg n.toNatClampNeg)) (show (H.setIfInBounds (ad q1) _)[ad q1]? = some (arrV (cA t0) (ri_cpy v0 v1 sp.toNatClampNeg dp.toNatClampNeg n.toNatClampNeg).length _) by rw [ri_cpy_len b0 b1]; simp [Array.getElem?_setIfInBounds, hl]) oq) ⟨by simp; exact hS9.1, fun q g1 g2 => by
      rw [oq q (fun e => g2 ⟨q1, Nat.lt_of_lt_of_le (List.getElem?_eq_some_iff.mp h1).1 hw9, e.symm⟩)]
      exact hS9.2.1 q g1 g2, fun q hq => by
      rcases List.mem_append.mp hq with h | h
      · exact hS9.2.2 q h
      · obtain ⟨z, -, hz⟩ := List.mem_map.mp h
        rw [← hz]
        exact ⟨q1, Nat.lt_of_lt_of_le (List.getElem?_eq_some_iff.mp h1).1 hw9, rfl⟩⟩ (by simp) _ hheap X'
  exact ⟨t', step t' r1, r2⟩
end RIK
end
section
/-! ===== the reckoner, part 6: a run of a method ===== -/
/-- an instruction of a method: its pc, what kind of step it is, itself, two numbers, a value, numbers (targets ..) -/
abbrev ri_Op : Type := Nat × Nat × Instr × Nat × Nat × Value × List Nat
/-- an unknown int as a long against an element of an array of longs (the third of the one that field b of the object in place 0 tells) -/
noncomputable def ri_lc (tyL : List FieldType) (a b : Nat) (lv : ri_L) (st : List Value) (w : List ri_E) : Option (Value × Int64 × List Value) := match st with
  | x :: r => ri_ok (ri_isI x) (match ri_get 0 lv with
    | some (.ref q) => (match ri_getf a b (.ref q :: r) w with
      | some (.ref q2 :: _) => (match ri_ald tyL ri_tL (.int 3 :: .ref q2 :: r) w with
        | some (.long y :: _) => some (x, y, r)
        | _ => none)
      | _ => none)
    | _ => none)
  | [] => none
theorem ri_getf_any {a b q : Nat} {r st' : List Value} {w : List ri_E} (h : ri_getf a b (.ref q :: r) w = some st') : ∃ v : Value, st' = v :: r ∧ ∀ r2 : List Value, ri_getf a b (.ref q :: r2) w = some (v :: r2) := by
  unfold ri_getf at h
  dsimp only at h
  split at h
  · rename_i o ho
    obtain ⟨hb, h2⟩ := ri_ok_eq h
    split at h2
    · rename_i v hv
      refine ⟨v, (Option.some.inj h2).symm, fun r2 => ?_⟩
      unfold ri_getf
      dsimp only
      rw [ho]
      dsimp only
      rw [hb, hv]
      rfl
    · cases h2
  · cases h
theorem ri_ald_any {tyL : List FieldType} {g : FieldType → Bool} {i : Int32} {q : Nat} {r st' : List Value} {w : List ri_E} (h : ri_ald tyL g (.int i :: .ref q :: r) w = some st') : ∃ v : Value, st' = v :: r ∧ ∀ r2 : List Value, ri_ald tyL g (.int i :: .ref q :: r2) w = some (v :: r2) := by
  unfold ri_ald at h
  dsimp only at h
  split at h
  · rename_i a ha
    split at h
    · rename_i ty hty
      obtain ⟨hb, h2⟩ := ri_ok_eq h
      split at h2
      · rename_i v hv
        refine ⟨v, (Option.some.inj h2).symm, fun r2 => ?_⟩
        unfold ri_ald
        dsimp only
        rw [ha]
        dsimp only
        rw [hty]
        dsimp only
        rw [hb, hv]
        rfl
      · cases h2
    · cases h
  · cases h
theorem ri_lc_eq {tyL : List FieldType} {a b : Nat} {lv : ri_L} {st r : List Value} {w : List ri_E} {x : Value} {y : Int64} (h : ri_lc tyL a b lv st w = some (x, y, r)) : ∃ q q2 : Nat, st = x :: r ∧ ri_isI x = true ∧ ri_get 0 lv = some (.ref q) ∧ (∀ r2 : List Value, ri_getf a b (.ref q :: r2) w = some (.ref q2 :: r2)) ∧ (∀ r2 : List Value, ri_ald tyL ri_tL (.int 3 :: .ref q2 :: r2) w = some (.long y :: r2)) := by
  unfold ri_lc at h
  split at h
  · rename_i x9 r9
    obtain ⟨hb, h2⟩ := ri_ok_eq h
    split at h2
    · rename_i q hq
      split at h2
      · rename_i q2 l9 h3
        split at h2
        · rename_i y9 l8 h4
          cases h2
          obtain ⟨v1, e1, k1⟩ := ri_getf_any h3
          obtain ⟨v2, e2, k2⟩ := ri_ald_any h4
          cases e1
          cases e2
          exact ⟨q, q2, rfl, hb, hq, k1, k2⟩
        · cases h2
      · cases h2
    · cases h2
  · cases h
/-- a method: name, bytes, how many places its frame has, what it returns, how many parameters, its instructions -/
abbrev ri_M : Type := MethodName × ByteArray × Nat × Option FieldType × Nat × List ri_Op
/-- an end: a value (or none) or the number of an exception; the world; cells and slots made; what must hold for it; the next number of the unknown -/
abbrev ri_Out : Type := (Option Value ⊕ Nat) × List ri_E × Nat × Nat × List ri_Cd × Nat
abbrev ri_K : Type := Nat → Nat → ri_M → List ri_Op → Nat → ri_L → List Value → List ri_E → Nat → Nat → Nat → Option ri_Out
noncomputable def ri_drop {α : Type} (l : List α) : Nat → List α := List.rec (fun _ => []) (fun a t ih n => Nat.rec (a :: t) (fun m _ => ih m) n) l
theorem ri_drop_eq {α : Type} : ∀ (l : List α) (n : Nat), ri_drop l n = l.drop n
  | [], n => by simp [ri_drop]
  | _ :: _, 0 => rfl
  | _ :: t, n + 1 => ri_drop_eq t n
/-- the last n of a stack, in the order in which they were laid, and the rest -/
noncomputable def ri_split (n : Nat) : List Value → List Value → Option (List Value × List Value) := Nat.rec (fun acc st => some (acc, st)) (fun _ ih acc st => match st with
  | v :: r => ih (v :: acc) r
  | [] => none) n
theorem ri_split_eq : ∀ (n : Nat) (acc st As rest : List Value), ri_split n acc st = some (As, rest) → ∃ Bs : List Value, Bs.length = n ∧ st = Bs ++ rest ∧ As = Bs.reverse ++ acc
  | 0, acc, st, As, rest, h => by
    have e := Option.some.inj h
    have e1 : acc = As := congrArg Prod.fst e
    have e2 : st = rest := congrArg Prod.snd e
    exact ⟨[], rfl, by rw [e2]; rfl, by rw [e1]; rfl⟩
  | n + 1, acc, [], As, rest, h => by cases h
  | n + 1, acc, v :: r, As, rest, h => by
    obtain ⟨Bs, h1, h2, h3⟩ := ri_split_eq n (v :: acc) r As rest h
    exact ⟨v :: Bs, by rw [List.length_cons, h1], by rw [h2]; rfl, by rw [h3, List.reverse_cons, List.append_assoc]; rfl⟩
section RID
variable (Ms : List ri_M) (ty : Nat → Nat → FieldType) (df : Nat → List Value) (tyL : List FieldType) (exl : Nat → Nat) (xs : Nat → Value) (L : Nat) (al : Nat → Bool) (orc : List (Bool ⊕ Int32))
def ri_cat (st : List Value) : Nat := (st.map fun v => v.category).sum
/-- behind an instruction that touches no heap -/
noncomputable def ri_next (M : ri_M) (nxt : List ri_Op) (ts : List Nat) (j : Nat) : List ri_Op := Nat.rec nxt (fun k _ => match ri_nth ts k with
  | some t => ri_drop M.2.2.2.2.2 t
  | none => []) j
def ri_more (cs : List ri_Cd) (o : Option ri_Out) : Option ri_Out := match o with
  | some z => some (z.1, z.2.1, z.2.2.1, z.2.2.2.1, cs ++ z.2.2.2.2.1, z.2.2.2.2.2)
  | none => none
/-- a callee's run: the frames that are left, its places, the values that it begins with -/
noncomputable def ri_enter (ih : ri_K) (d bud : Nat) (M : ri_M) (vals rest : List Value) (w : List ri_E) (fr : Nat) : Option ri_Out :=
  ri_ok (Nat.ble 1 d && (Nat.ble (19 + M.2.2.1) bud && (Nat.ble (ri_cat rest) 8 && Nat.ble (lg_sl vals).length M.2.2.1))) (ih (d - 1) (bud - (19 + M.2.2.1)) M M.2.2.2.2.2 0 (lv_args 0 vals) [] w 0 0 fr)
noncomputable def ri_back (ih : ri_K) (d bud : Nat) (M : ri_M) (nxt : List ri_Op) (pc : Nat) (lv : ri_L) (rest : List Value) (nc ns : Nat) (o : Option ri_Out) : Option ri_Out := match o with
  | some (.inl r, w, nc2, ns2, cs, fr) => ri_more cs (ih d bud M nxt (pc + 3) lv (r.toList ++ rest) w (nc + nc2) (ns + ns2) fr)
  | some (.inr x, w, nc2, ns2, cs, fr) => some (.inr x, w, nc + nc2, ns + ns2, cs, fr)
  | none => none
/-- what a handler begins with: the exception laid aside -/
noncomputable def ri_caught (ih : ri_K) (d bud : Nat) (M : ri_M) (lv : ri_L) (w : List ri_E) (nc ns fr : Nat) (cs : List ri_Cd) (os : List ri_Op) : Option ri_Out := match os with
  | oh :: nx2 => (match oh.2.2.1 with
    | .astore_n k => ri_ok (Nat.blt k.val M.2.2.1) (ri_more cs (ih d bud M nx2 (oh.1 + 1) (lv.filter (ri_f1 k.val)) [] w nc ns fr))
    | .astore k => ri_ok (Nat.blt k M.2.2.1) (ri_more cs (ih d bud M nx2 (oh.1 + 2) (lv.filter (ri_f1 k)) [] w nc ns fr))
    | _ => none)
  | [] => none
noncomputable def ri_backH (ih : ri_K) (d bud : Nat) (M : ri_M) (nxt : List ri_Op) (pc : Nat) (lv : ri_L) (rest : List Value) (nc ns : Nat) (hs : List Nat) (o : Option ri_Out) : Option ri_Out := match o with
  | some (.inl r, w, nc2, ns2, cs, fr) => ri_more cs (ih d bud M nxt (pc + 3) lv (r.toList ++ rest) w (nc + nc2) (ns + ns2) fr)
  | some (.inr x, w, nc2, ns2, cs, fr) => ri_ok (!al w.length) (match ri_nth hs x with
    | some t => ri_caught ih d bud M lv w (nc + nc2) (ns + ns2) fr cs (ri_drop M.2.2.2.2.2 t)
    | none => none)
  | none => none
/-- a call: a the callee, b how it is called (0 by its receiver, 1 static, 2 constructor, 3 and 4 a nest mate's, 5 by its receiver where handlers stand, 6 static, of a method with handlers) -/
noncomputable def ri_call (ih : ri_K) (d bud : Nat) (M : ri_M) (nxt : List ri_Op) (pc : Nat) (lv : ri_L) (st : List Value) (w : List ri_E) (nc ns fr a b : Nat) (ts : List Nat) : Option ri_Out := match ri_nth Ms a with
  | some M2 => (match ri_split M2.2.2.2.2.1 [] st with
    | some (As, rest) => (match b with
      | 0 => (match rest with
        | .ref q :: rest => (match ri_nth w q with
          | some (.inr o) => ri_ok (match ts with | [t] => Nat.beq o.1 t | _ => false) (ri_back ih d bud M nxt pc lv rest nc ns (ri_enter ih d bud M2 (.ref q :: As) rest w fr))
          | _ => none)
        | _ => none)
      | 1 => ri_back ih d bud M nxt pc lv rest nc ns (ri_enter ih d bud M2 As rest w fr)
      | 2 => (match rest with
        | .ref q :: rest => ri_back ih d bud M nxt pc lv rest nc ns (ri_enter ih d bud M2 (.ref q :: As) rest w fr)
        | _ => none)
      | 3 => (match rest with
        | .ref q :: rest => ri_back ih d bud M nxt pc lv rest nc ns (ri_enter ih d bud M2 (.ref q :: As) rest w fr)
        | _ => none)
      | 4 => ri_back ih d bud M nxt pc lv rest nc ns (ri_enter ih d bud M2 As rest w fr)
      | 5 => (match rest with
        | .ref q :: rest => (match ri_nth w q with
          | some (.inr o) => (match ts with
            | t :: hs => ri_ok (Nat.beq o.1 t) (ri_backH al ih d bud M nxt pc lv rest nc ns hs (ri_enter ih d bud M2 (.ref q :: As) rest w fr))
            | [] => none)
          | _ => none)
        | _ => none)
      | 6 => ri_back ih d bud M nxt pc lv rest nc ns (ri_enter ih d bud M2 As rest w fr)
      | _ => none)
    | none => none)
  | none => none
def ri_fitR (t : Option FieldType) (v : Value) : Bool := match t with
  | some t => ri_fit t v
  | none => false
/-- the end of a method -/
noncomputable def ri_ret (M : ri_M) (i : Instr) (st : List Value) (w : List ri_E) (nc ns fr : Nat) : Option ri_Out := match i with
  | .return_ => (match st with
    | [] => ri_ok (match M.2.2.2.1 with | none => true | some _ => false) (some (.inl none, w, nc, ns, [], fr))
    | _ => none)
  | .ireturn => (match st with
    | [.int x] => ri_ok (ri_fitR M.2.2.2.1 (.int x)) (some (.inl (some (.int x)), w, nc, ns, [], fr))
    | [.float x] => ri_ok (match M.2.2.2.1 with | some .int => true | _ => false) (some (.inl (some (.float x)), w, nc, ns, [], fr))
    | _ => none)
  | .lreturn => (match st with
    | [.long x] => ri_ok (ri_fitR M.2.2.2.1 (.long x)) (some (.inl (some (.long x)), w, nc, ns, [], fr))
    | _ => none)
  | .dreturn => (match st with
    | [.double x] => ri_ok (ri_fitR M.2.2.2.1 (.double x)) (some (.inl (some (.double x)), w, nc, ns, [], fr))
    | _ => none)
  | .areturn => (match st with
    | [.ref x] => ri_ok (ri_fitR M.2.2.2.1 (.ref x)) (some (.inl (some (.ref x)), w, nc, ns, [], fr))
    | _ => none)
  | _ => none
noncomputable def ri_exec (ih : ri_K) (d bud : Nat) (M : ri_M) (nxt : List ri_Op) (lv : ri_L) (st : List Value) (w : List ri_E) (nc ns fr pc κ : Nat) (i : Instr) (a b : Nat) (v : Value) (ts : List Nat) : Option ri_Out := match κ with
  | 0 => (match ri_pure M.2.2.1 i pc lv st with
    | some z => ih d bud M (ri_next M nxt ts z.1) z.2.1 z.2.2.1 z.2.2.2 w nc ns fr
    | none => none)
  | 1 => (match ri_getf a b st w with
    | some st => ih d bud M nxt (pc + 3) lv st w nc ns fr
    | none => none)
  | 2 => (match ri_putf (ty a b) a b st w with
    | some z => ih d bud M nxt (pc + 3) lv z.1 z.2 nc ns fr
    | none => none)
  | 3 => ih d bud M nxt (pc + ri_len i) lv (v :: st) w nc ns fr
  | 4 => ri_call Ms al ih d bud M nxt pc lv st w nc ns fr a b ts
  | 5 => (match ri_ald tyL ri_tI st w with
    | some st => ih d bud M nxt (pc + 1) lv st w nc ns fr
    | none => none)
  | 6 => (match ri_ast tyL ri_gI st w with
    | some z => ih d bud M nxt (pc + 1) lv z.1 z.2 nc ns fr
    | none => none)
  | 7 => (match ri_ald tyL ri_tL st w with
    | some st => ih d bud M nxt (pc + 1) lv st w nc ns fr
    | none => none)
  | 8 => (match ri_ast tyL ri_gL st w with
    | some z => ih d bud M nxt (pc + 1) lv z.1 z.2 nc ns fr
    | none => none)
  | 9 => (match ri_ald tyL ri_tD st w with
    | some st => ih d bud M nxt (pc + 1) lv st w nc ns fr
    | none => none)
  | 10 => (match ri_ast tyL ri_gD st w with
    | some z => ih d bud M nxt (pc + 1) lv z.1 z.2 nc ns fr
    | none => none)
  | 11 => (match ri_ald tyL ri_tA st w with
    | some st => ih d bud M nxt (pc + 1) lv st w nc ns fr
    | none => none)
  | 12 => (match ri_ald tyL ri_tB st w with
    | some st => ih d bud M nxt (pc + 1) lv st w nc ns fr
    | none => none)
  | 13 => (match ri_ast tyL ri_gB st w with
    | some z => ih d bud M nxt (pc + 1) lv z.1 z.2 nc ns fr
    | none => none)
  | 14 => (match ri_aast a b st w with
    | some z => ih d bud M nxt (pc + 1) lv z.1 z.2 nc ns fr
    | none => none)
  | 15 => (match ri_alen2 tyL st w with
    | some st => ih d bud M nxt (pc + 1) lv st w nc ns fr
    | none => none)
  | 16 => ri_ret M i st w nc ns fr
  | 17 => bif ri_conc a st then (match ri_pure M.2.2.1 i pc lv st with
      | some z => ih d bud M (ri_next M nxt ts z.1) z.2.1 z.2.2.1 z.2.2.2 w nc ns fr
      | none => none)
    else (match ri_sym M.2.2.1 (ri_nth orc fr) fr i pc lv st with
      | some z => ri_more [z.2.2] (ih d bud M (ri_next M nxt ts z.1.1) z.1.2.1 z.1.2.2.1 z.1.2.2.2 w nc ns z.2.1)
      | none => none)
  | 18 => ri_ok (al w.length && Nat.blt w.length 1000000) (ih d bud M nxt (pc + 3) lv (.ref w.length :: st) (w ++ [.inr (a, df a)]) (nc + 1) (ns + b) fr)
  | 19 => ri_ok (al w.length && Nat.blt w.length 1000000) (match ri_newa a v st w with
    | some z => ih d bud M nxt (pc + 2) lv z.2.1 z.2.2 (nc + 1) (ns + z.1) fr
    | none => none)
  | 20 => ri_ok (al w.length && Nat.blt w.length 1000000) (match ri_newa a .null st w with
    | some z => ih d bud M nxt (pc + 3) lv z.2.1 z.2.2 (nc + 1) (ns + z.1) fr
    | none => none)
  | 21 => (match st with
    | .ref _ :: r => ri_ok (Nat.ble 1 d && Nat.ble (ri_cat r + 12) bud) (ih d bud M nxt (pc + 3) lv r w nc ns fr)
    | _ => none)
  | 22 => ri_ok (Nat.ble 1 d) (match ri_acopy tyL bud st w with
    | some z => ih d bud M nxt (pc + 3) lv z.1 z.2 nc ns fr
    | none => none)
  | 23 => ri_ok (Nat.ble (exl a + 4) d && Nat.ble (ri_cat st + (13 * (exl a + 1) + 42)) bud) (some (.inr a, w, nc + 1, ns + 6, [], fr))
  | 24 => (match st with
    | .int j :: .ref q :: r => ri_ok (Nat.beq q 1000000 && (!decide (j < 0) && Nat.blt j.toNatClampNeg L)) (ih d bud M nxt (pc + 1) lv (xs j.toNatClampNeg :: r) w nc ns fr)
    | _ => none)
  | 25 => (match st with
    | .ref q :: r => ri_ok (Nat.beq q 1000000) (ih d bud M nxt (pc + 1) lv (.int (Int32.ofNat L) :: r) w nc ns fr)
    | _ => none)
  | 26 => ri_ok (al w.length) (match ri_mna a b st w with
    | some z => ri_ok (Nat.ble z.2.2.2.length 1000000) (ih d bud M nxt (pc + 4) lv z.2.2.1 z.2.2.2 (nc + (1 + z.1)) (ns + (z.1 + z.1 * z.2.1)) fr)
    | none => none)
  | 27 => bif ri_conc 1 st then (match ri_ast tyL ri_gB st w with
      | some z => ih d bud M nxt (pc + 1) lv z.1 z.2 nc ns fr
      | none => none)
    else (match ri_ast tyL (ri_gU fr) st w with
      | some z => ri_more [(.i2b, ri_top st, .int 0, fr, true)] (ih d bud M nxt (pc + 1) lv z.1 z.2 nc ns (fr + 1))
      | none => none)
  | 28 => (match ri_lc tyL a b lv st w with
    | some z => (match ri_nth orc fr with
      | some (.inl g) => (match v with
        | .ref t => ri_more [(.lcmp, z.1, .long z.2.1, 0, g)] (ih d bud M (ri_next M nxt ts (bif g then 1 else 2)) (bif g then t else pc + 11) lv z.2.2 w nc ns (fr + 1))
        | _ => none)
      | _ => none)
    | none => none)
  | _ => none
noncomputable def ri_run (fuel : Nat) : ri_K := Nat.rec (fun _ _ _ _ _ _ _ _ _ _ _ => none) (fun _ ih d bud M cur pc lv st w nc ns fr => match cur with
  | o :: nxt => ri_ok (Nat.beq o.1 pc) (ri_exec Ms ty df tyL exl xs L al orc ih d bud M nxt lv st w nc ns fr pc o.2.1 o.2.2.1 o.2.2.2.1 o.2.2.2.2.1 o.2.2.2.2.2.1 o.2.2.2.2.2.2)
  | [] => none) fuel
end RID
end
section
/-! ===== the reckoner, part 7: what it reckons, the machine does ===== -/
theorem ri_args_v (ad : Nat → Nat) : ∀ (vs : List Value) (i : Nat), lv_args i (vs.map (ri_v ad)) = ri_lr ad (lv_args i vs)
  | [], _ => rfl
  | v :: vs, i => by
    show (i, ri_v ad v) :: lv_args (if (ri_v ad v).category = 2 then i + 2 else i + 1) (vs.map (ri_v ad)) = (i, ri_v ad v) :: ri_lr ad (lv_args (if v.category = 2 then i + 2 else i + 1) vs)
    rw [ri_v_cat, ri_args_v ad vs]
theorem ri_sl_v (ad : Nat → Nat) : ∀ vs : List Value, (lg_sl (vs.map (ri_v ad))).length = (lg_sl vs).length
  | [] => rfl
  | v :: vs => by
    have e1 : lg_sl ((v :: vs).map (ri_v ad)) = (if (ri_v ad v).category = 2 then [Slot.val (ri_v ad v), .second] else [.val (ri_v ad v)]) ++ lg_sl (vs.map (ri_v ad)) := rfl
    have e2 : lg_sl (v :: vs) = (if v.category = 2 then [Slot.val v, .second] else [.val v]) ++ lg_sl vs := rfl
    rw [e1, e2, List.length_append, List.length_append, ri_sl_v ad vs, ri_v_cat]
    by_cases h : v.category = 2 <;> simp [h]
theorem ri_cat_v (ad : Nat → Nat) (st : List Value) : ((st.map (ri_v ad)).map fun v => v.category).sum = ri_cat st := by
  unfold ri_cat
  rw [List.map_map]
  congr 1
  exact List.map_congr_left (fun v _ => ri_v_cat ad v)
/-- the words of a method -/
def ri_mok (WG : List Jvm.Cond) (hh : MethodName → List (Nat × Nat × Nat × Nat)) (M : ri_M) : Prop := hh M.1 = [] ∧ plainName M.1.cls = true ∧ Jvm.Cond.code M.1 M.2.1 M.2.2.1 M.2.2.2.1 ∈ WG ∧ Jvm.Cond.initialized M.1.cls ∈ WG ∧ (M.1.cls ≠ "java/lang/invoke/MethodHandle" ∧ M.1.cls ≠ "java/lang/invoke/VarHandle") ∧ (parseMethodDescriptor M.1.desc).map (fun d => d.parameters.length) = some M.2.2.2.2.1
/-- the words of a method with handlers -/
def ri_mokH (WG : List Jvm.Cond) (hh : MethodName → List (Nat × Nat × Nat × Nat)) (M : ri_M) : Prop := plainName M.1.cls = true ∧ Jvm.Cond.codeWith M.1 M.2.1 M.2.2.1 M.2.2.2.1 (hh M.1) ∈ WG ∧ Jvm.Cond.initialized M.1.cls ∈ WG ∧ (M.1.cls ≠ "java/lang/invoke/MethodHandle" ∧ M.1.cls ≠ "java/lang/invoke/VarHandle") ∧ (parseMethodDescriptor M.1.desc).map (fun d => d.parameters.length) = some M.2.2.2.2.1
abbrev ri_N : Type := String × Nat × MethodName × String
/-- words that stay, but that no callee's list may hold: a castable, a method that is declared -/
abbrev ri_C9 : Type := (String × String) ⊕ MethodName
def ri_cw (x : ri_C9) : Jvm.Cond := match x with
  | .inl a => .castable a.1 a.2
  | .inr y => .declares y
theorem ri_cw_on (x : ri_C9) : (ri_cw x).onTables = true := by cases x <;> rfl
theorem ri_cw_warm {x : ri_C9} {s U : State} (hW : s.WarmedH U.vm) (h : va_Nw (ri_cw x) s) : va_Nw (ri_cw x) U := by
  cases x with
  | inl a => exact va_Nw.warmC hW h
  | inr y => exact va_Nw.warmD hW h
section RIL
variable (WG : List Jvm.Cond) (hh : MethodName → List (Nat × Nat × Nat × Nat)) (NW : List ri_N) (CW : List ri_C9) (NC : List (String × String)) (AO : List FieldType) (cl : List vw_C) (Ms : List ri_M) (ty : Nat → Nat → FieldType) (df : Nat → List Value) (tyL : List FieldType) (exl : Nat → Nat) (exn : Nat → String) (xs : Nat → Value) (L : Nat) (al : Nat → Bool) (orc : List (Bool ⊕ Int32))
/-- a handler of the row x of the table takes this exception, the rows ahead don't -/
def ri_hlink (M : ri_M) (pc : Nat) (hs : List Nat) : Prop := ∀ (x t : Nat) (oh : ri_Op) (nx : List ri_Op), hs[x]? = some t → M.2.2.2.2.2.drop t = oh :: nx → ∃ (pre : List ExceptionTableEntry) (z : ExceptionTableEntry) (suf : List ExceptionTableEntry), tableOf (hh M.1) = pre ++ z :: suf ∧ z.handlerPc = oh.1 ∧ covers z pc = true ∧ z.catchType ≠ 0 ∧ (∃ nm : String, Jvm.Cond.classLink M.1.cls z.catchType nm ∈ WG ∧ (Sum.inl (exn x, nm) : ri_C9) ∈ CW) ∧
  ∀ y ∈ pre, covers y pc = false ∨ (y.catchType ≠ 0 ∧ ∃ nm : String, Jvm.Cond.classLink M.1.cls y.catchType nm ∈ WG ∧ (exn x, nm) ∈ NC)
/-- a call's words -/
def ri_clink (M : ri_M) (pc : Nat) (i : Instr) (a b : Nat) (ts : List Nat) : Prop := ∃ M2 : ri_M, Ms[a]? = some M2 ∧ (∀ o ∈ M2.2.2.2.2.2, o.2.1 ≠ 24 ∧ o.2.1 ≠ 25) ∧ (match b with
  | 0 => hh M.1 = [] ∧ ri_mok WG hh M2 ∧ ∃ (idx t : Nat) (r : vw_C), i = .invokevirtual idx ∧ ts = [t] ∧ cl[t]? = some r ∧ r.1 = M2.1.cls ∧ Jvm.Cond.methodLink M.1.cls idx M2.1 ∈ WG ∧ Jvm.Cond.instanceMethod M2.1 ∈ WG ∧ Jvm.Cond.selects M2.1.cls M2.1 M2.1 ∈ WG
  | 1 => hh M.1 = [] ∧ ri_mok WG hh M2 ∧ ∃ idx : Nat, i = .invokestatic idx ∧ Jvm.Cond.methodLink M.1.cls idx M2.1 ∈ WG ∧ Jvm.Cond.static M2.1 ∈ WG
  | 2 => hh M.1 = [] ∧ ri_mok WG hh M2 ∧ ∃ idx : Nat, i = .invokespecial idx ∧ Jvm.Cond.methodLink M.1.cls idx M2.1 ∈ WG ∧ M2.1.name = "<init>" ∧ Jvm.Cond.instanceMethod M2.1 ∈ WG ∧ M2.2.2.2.1 = none
  | 3 => hh M.1 = [] ∧ ri_mok WG hh M2 ∧ ∃ (idx : Nat) (host : String), i = .invokespecial idx ∧ (M.1.cls, idx, M2.1, host) ∈ NW ∧ M2.1.name = "<init>" ∧ Jvm.Cond.instanceMethod M2.1 ∈ WG ∧ M2.2.2.2.1 = none
  | 4 => hh M.1 = [] ∧ ri_mok WG hh M2 ∧ ∃ (idx : Nat) (host : String), i = .invokestatic idx ∧ (M.1.cls, idx, M2.1, host) ∈ NW ∧ Jvm.Cond.static M2.1 ∈ WG
  | 5 => ri_mok WG hh M2 ∧ ∃ (idx t : Nat) (hs : List Nat) (r : vw_C), i = .invokevirtual idx ∧ ts = t :: hs ∧ ri_hlink WG hh CW NC exn M pc hs ∧ cl[t]? = some r ∧ r.1 = M2.1.cls ∧ Jvm.Cond.methodLink M.1.cls idx M2.1 ∈ WG ∧ Jvm.Cond.instanceMethod M2.1 ∈ WG ∧ Jvm.Cond.selects M2.1.cls M2.1 M2.1 ∈ WG
  | 6 => hh M.1 = [] ∧ ri_mokH WG hh M2 ∧ ∃ idx : Nat, i = .invokestatic idx ∧ Jvm.Cond.methodLink M.1.cls idx M2.1 ∈ WG ∧ Jvm.Cond.static M2.1 ∈ WG
  | _ => False)
/-- an exception that is made and thrown -/
def ri_xlink (M : ri_M) (pc : Nat) (i : Instr) (a : Nat) : Prop := hh M.1 = [] ∧ ∃ (ik ic : Nat) (names : List String), i = .new ik ∧ decode M.2.1 (pc + 3) = .ok (.dup, 1) ∧ decode M.2.1 (pc + 4) = .ok (.invokespecial ic, 3) ∧ decode M.2.1 (pc + 7) = .ok (.athrow, 1) ∧ exl a = names.length ∧ Bundle.fit (exn a) = true ∧ (∀ n ∈ names, Bundle.fit n = true) ∧
  Jvm.Cond.classLink M.1.cls ik (exn a) ∈ WG ∧ Jvm.Cond.initialized (exn a) ∈ WG ∧ (∀ w ∈ vx_at0 M.1.cls ic (exn a) names, w ∈ WG ∨ ∃ x ∈ CW, w = ri_cw x) ∧ (∀ w ∈ Jvm.Cond.classLink M.1.cls ik (exn a) :: Jvm.Cond.initialized (exn a) :: vx_at0 M.1.cls ic (exn a) names, vx_ot w = true)
/-- what an instruction's step asks of the tables -/
def ri_link (M : ri_M) (pc κ : Nat) (i : Instr) (a b : Nat) (v : Value) (ts : List Nat) : Prop := match κ with
  | 0 => True
  | 1 => ∃ (idx : Nat) (r : vw_C), i = .getfield idx ∧ cl[a]? = some r ∧ b < r.2.2 ∧ Jvm.Cond.fieldLink M.1.cls idx (r.2.1 b).1 (r.2.1 b).2.1 (r.2.1 b).2.2.1 ∈ WG
  | 2 => ∃ (idx : Nat) (r : vw_C), i = .putfield idx ∧ cl[a]? = some r ∧ b < r.2.2 ∧ Jvm.Cond.fieldLink M.1.cls idx (r.2.1 b).1 (r.2.1 b).2.1 (r.2.1 b).2.2.1 ∈ WG ∧ ((r.2.1 b).2.2.2 = false ∨ (M.1.name = "<init>" ∧ (r.2.1 b).1 = M.1.cls))
  | 3 => (∃ (idx : Nat) (x : Int32), i = .ldc idx ∧ v = .int x ∧ Jvm.Cond.constant M.1.cls idx x ∈ WG) ∨ (∃ (idx : Nat) (x : Int32), i = .ldc_w idx ∧ v = .int x ∧ Jvm.Cond.constant M.1.cls idx x ∈ WG) ∨ (∃ (idx : Nat) (x : Int64), i = .ldc2_w idx ∧ v = .long x ∧ Jvm.Cond.constantLong M.1.cls idx x ∈ WG) ∨ (∃ (idx : Nat) (x : UInt64), i = .ldc2_w idx ∧ v = .double x ∧ Jvm.Cond.constantDouble M.1.cls idx x ∈ WG)
  | 4 => ri_clink WG hh NW CW NC cl Ms exn M pc i a b ts
  | 5 => i = .iaload
  | 6 => i = .iastore
  | 7 => i = .laload
  | 8 => i = .lastore
  | 9 => i = .daload
  | 10 => i = .dastore
  | 11 => i = .aaload
  | 12 => i = .baload
  | 13 => i = .bastore
  | 14 => ∃ r : vw_C, i = .aastore ∧ cl[a]? = some r ∧ tyL[b]? = some (.object r.1)
  | 15 => i = .arraylength
  | 16 => True
  | 17 => True
  | 18 => ∃ (idx : Nat) (r : vw_C), i = .new idx ∧ cl[a]? = some r ∧ r.2.2 = b ∧ Jvm.Cond.classLink M.1.cls idx r.1 ∈ WG
  | 19 => ∃ (atype : ArrayType) (t9 : FieldType), i = .newarray atype ∧ tyL[a]? = some t9 ∧ newarray.typeOf atype = t9 ∧ t9 ≠ .float ∧ Jvm.Cond.arrayClass t9 ∈ WG ∧ v = defaultValue t9
  | 20 => ∃ (idx : Nat) (C : String), i = .anewarray idx ∧ tyL[a]? = some (.object C) ∧ Jvm.Cond.classLink M.1.cls idx C ∈ WG ∧ FieldType.object C ∈ AO
  | 21 => ∃ idx : Nat, i = .invokespecial idx ∧ Jvm.Cond.methodLink M.1.cls idx Lib.objectInit ∈ WG ∧ Jvm.Cond.instanceMethod Lib.objectInit ∈ WG ∧ Jvm.Cond.code Lib.objectInit ⟨#[0xb1]⟩ 1 none ∈ WG
  | 22 => ∃ idx : Nat, i = .invokestatic idx ∧ Jvm.Cond.methodLink M.1.cls idx arraycopyName ∈ WG ∧ Jvm.Cond.native arraycopyName ∈ WG ∧ Jvm.Cond.static arraycopyName ∈ WG ∧ Jvm.Cond.initialized "java/lang/System" ∈ WG
  | 23 => ri_xlink WG hh CW exl exn M pc i a
  | 24 => i = .iaload
  | 25 => i = .arraylength
  | 26 => ∃ idx : Nat, i = .multianewarray idx 2 ∧ tyL[a]? = some .double ∧ tyL[b]? = some (.array .double) ∧ Jvm.Cond.classLink M.1.cls idx "[[D" ∈ WG ∧ Jvm.Cond.arrayClass .double ∈ WG ∧ FieldType.array .double ∈ AO
  | 27 => i = .bastore
  | 28 => i = .i2l ∧ decode M.2.1 (pc + 1) = .ok (.aload_n 0, 1) ∧ (∃ (idx : Nat) (r : vw_C), decode M.2.1 (pc + 2) = .ok (.getfield idx, 3) ∧ cl[a]? = some r ∧ b < r.2.2 ∧ Jvm.Cond.fieldLink M.1.cls idx (r.2.1 b).1 (r.2.1 b).2.1 (r.2.1 b).2.2.1 ∈ WG) ∧ decode M.2.1 (pc + 5) = .ok (.iconst 3, 1) ∧ decode M.2.1 (pc + 6) = .ok (.laload, 1) ∧ decode M.2.1 (pc + 7) = .ok (.lcmp, 1) ∧ ∃ (off : Int) (t : Nat), decode M.2.1 (pc + 8) = .ok (.ifCond .lt off, 3) ∧ v = .ref t ∧ ((pc + 8 : Nat) : Int) + off = (t : Int)
  | _ => True
def ri_opok (M : ri_M) (o : ri_Op) : Prop := (∃ len : Nat, decode M.2.1 o.1 = .ok (o.2.2.1, len) ∧ (ri_len o.2.2.1 = 0 ∨ ri_len o.2.2.1 = len)) ∧ ri_link WG hh NW CW NC AO cl Ms tyL exl exn M o.1 o.2.1 o.2.2.1 o.2.2.2.1 o.2.2.2.2.1 o.2.2.2.2.2.1 o.2.2.2.2.2.2
/-- what is the same for all runs: the kinds of objects, the methods' instructions, the words -/
def ri_all : Prop := ri_clok WG cl ty ∧ (∀ (ci : Nat) (r : vw_C), cl[ci]? = some r → ∀ j, j < r.2.2 → (df ci).getD j .null = defaultValue (ty ci j) ∧ ty ci j ≠ .float) ∧ (∀ w ∈ WG, goodWord w = true) ∧ ∀ (y : Nat) (M : ri_M), Ms[y]? = some M → ∀ o ∈ M.2.2.2.2.2, ri_opok WG hh NW CW NC AO cl Ms tyL exl exn M o
variable (D : va_G) (ad : Nat → Nat) (cA : Nat → ClassId)
/-- what a state's tables say -/
def ri_Kx (U : State) : Prop := va_K D cl (ri_tys cA tyL) U ∧ (∀ x ∈ NW, va_Nw (.methodLinkNest x.1 x.2.1 x.2.2.1 x.2.2.2) U) ∧ (∀ x ∈ CW, va_Nw (ri_cw x) U) ∧ (∀ x ∈ NC, va_Nc x.1 x.2 U) ∧ (∀ C ∈ AO, ri_AO C U) ∧ vx_Zq Bundle.tN "UNASSIGNED_STACK" Bundle.steD (ri_A ad) U U.heap ∧ vx_Zq Bundle.tN "SUPPRESSED_SENTINEL" Bundle.listD (ri_A ad) U U.heap
def ri_Pc (vals : List Value) (w : List ri_E) : Array Value → State → Prop := fun v U => v = (vals.map (ri_v ad)).toArray ∧ ri_P D cl ad cA w U.heap ∧ ri_Kx NW CW NC AO cl tyL D ad cA U ∧ (al w.length = true → ri_nx ad w.length U.heap.size)
def ri_Qc (out : ri_Out) : Array Value → State → Outcome → State → Prop := fun _ st o t => ∃ r : Option Value, out.1 = .inl r ∧ o = .returned (r.map (ri_v ad)) ∧ ri_P D cl ad cA out.2.1 t.heap ∧ (al out.2.1.length = true → ri_nx ad out.2.1.length t.heap.size) ∧ va_F (ri_A ad) st t
def ri_XC (out : ri_Out) : String → State → State → Prop := fun E st t => ∃ x : Nat, out.1 = .inr x ∧ E = exn x ∧ ri_P D cl ad cA out.2.1 t.heap ∧ va_F (ri_A ad) st t
/-- a frame of a method -/
def ri_Fr (M : ri_M) (p : Program) (s : State) (m : MethodId) (args : Array Value) (meth : Method) (c : Code) : Prop := p.tables.exec = Jvm.exec ∧ c.code = M.2.1 ∧ c.maxLocals = M.2.2.1 ∧ s.vm.findClass M.1.cls = some m.cls ∧ meth.name = M.1.name ∧ meth.sig.returnType = M.2.2.2.1 ∧ meth.locks = false ∧ c.exceptionTable.toList = tableOf (hh M.1) ∧ (∀ x ∈ WG, x.before args s = true) ∧ ri_Kx NW CW NC AO cl tyL D ad cA s ∧
  ((∃ o ∈ M.2.2.2.2.2, o.2.1 = 24 ∨ o.2.1 = 25) → (∃ xr : Nat → Int32, (∀ j, j < L → ri_v ad (xs j) = .int (xr j)) ∧ va_X (ad 1000000) L xr s s.heap) ∧ ad 1000000 < s.heap.size ∧ ¬ ri_A ad (ad 1000000))
/-- a return: which instruction, and what it asks of the value -/
def ri_isret (cc : ByteArray) (pc : Nat) (ret : Option FieldType) (v : Option Value) : Prop := (v = none ∧ ret = none ∧ decode cc pc = .ok (.return_, 1)) ∨ (∃ (x : Int32) (t : FieldType), v = some (.int x) ∧ ret = some t ∧ narrow t (.int x) = .int x ∧ decode cc pc = .ok (.ireturn, 1)) ∨ (∃ x : Int64, v = some (.long x) ∧ ret = some .long ∧ decode cc pc = .ok (.lreturn, 1)) ∨ (∃ x : UInt64, v = some (.double x) ∧ ret = some .double ∧ decode cc pc = .ok (.dreturn, 1)) ∨ (∃ (x : Nat) (t : FieldType), v = some (.ref x) ∧ ret = some t ∧ ((∃ n, t = .object n) ∨ ∃ t2, t = .array t2) ∧ decode cc pc = .ok (.areturn, 1)) ∨ (∃ x : UInt32, v = some (.float x) ∧ ret = some .int ∧ decode cc pc = .ok (.ireturn, 1))
/-- what a reckoning says of the machine -/
def ri_Snd (l : Launch) (f : ri_K) : Prop := ∀ (d bud : Nat) (M : ri_M) (cur : List ri_Op) (pc : Nat) (lv : ri_L) (st : List Value) (w : List ri_E) (nc ns fr : Nat) (out : ri_Out), f d bud M cur pc lv st w nc ns fr = some out →
  (nc ≤ out.2.2.1 ∧ ns ≤ out.2.2.2.1 ∧ (w.length ≤ 1000000 → out.2.1.length ≤ 1000000)) ∧ ((∀ x ∈ out.2.2.2.2.1, ri_sem ad x) → (∃ y : Nat, Ms[y]? = some M) → (∀ o ∈ cur, o ∈ M.2.2.2.2.2) → w.length ≤ 1000000 →
    ∀ (p : Program) (e : Env) (R : Room) (s : State) (m : MethodId) (args : Array Value) (below : List Frame) (meth : Method) (c : Code) (H : Heap) (locs : List Loc) (ls : Array Slot) (Q : State → Prop),
      ri_Fr WG hh NW CW NC AO cl tyL xs L D ad cA M p s m args meth c → ri_P D cl ad cA w H → va_S (ri_A ad) s.heap H locs → (al w.length = true → ri_nx ad w.length H.size) → d ≤ R.frames → bud ≤ R.locals → out.2.2.1 ≤ R.cells → out.2.2.2.1 ≤ R.slots → lv_has ls M.2.2.1 (ri_lr ad lv) →
      (∀ r : Option Value, out.1 = .inl r → ∀ (H1 : Heap) (locs1 : List Loc) (ls1 : Array Slot) (pc1 : Nat), ri_P D cl ad cA out.2.1 H1 → va_S (ri_A ad) s.heap H1 locs1 → (al out.2.1.length = true → ri_nx ad out.2.1.length H1.size) → ri_isret M.2.1 pc1 M.2.2.2.1 r → W p l e R s m args below meth c H1 locs1 out.2.2.1 out.2.2.2.1 Q (F0 m pc1 ls1 (r.toList.map (ri_v ad)))) →
      (∀ x : Nat, out.1 = .inr x → ∃ (Qc : Array Value → State → Outcome → State → Prop) (XC : String → State → State → Prop), Q = vx_MQ below Qc XC args s out.2.2.1 out.2.2.2.1 (ri_A ad) ∧ ∀ t : State, s.vm.Alike t.vm → ri_P D cl ad cA out.2.1 t.heap → va_F (ri_A ad) s t → XC (exn x) s t) →
      W p l e R s m args below meth c H locs nc ns Q (F0 m pc ls (st.map (ri_v ad))))
end RIL
end
section
/-! ===== the reckoner, part 8: its steps are the machine's ===== -/
section RIS
variable {WG : List Jvm.Cond} {hh : MethodName → List (Nat × Nat × Nat × Nat)} {NW : List ri_N} {CW : List ri_C9} {NC : List (String × String)} {AO : List FieldType} {cl : List vw_C} {Ms : List ri_M} {ty : Nat → Nat → FieldType} {df : Nat → List Value} {tyL : List FieldType} {exl : Nat → Nat} {exn : Nat → String} {xs : Nat → Value} {L : Nat} {al : Nat → Bool} {orc : List (Bool ⊕ Int32)} {D : va_G} {ad : Nat → Nat} {cA : Nat → ClassId}
theorem ri_Kx.go {s U : State} {H : Heap} {locs : List Loc} (h : ri_Kx NW CW NC AO cl tyL D ad cA s) (hS : va_S (ri_A ad) s.heap H locs) (hU : U.heap = H) (hW : s.WarmedH U.vm) : ri_Kx NW CW NC AO cl tyL D ad cA U := by
  obtain ⟨h1, h2, hc, hn, h3, h4, h5⟩ := h
  exact ⟨va_K.moved hW.alike h1, fun x hx => va_Nw.warmM hW (h2 x hx), fun x hx => ri_cw_warm hW (hc x hx), fun x hx => va_Nc.moved hW.alike (hn x hx), fun C hC => ri_AO.moved hW.alike (h3 C hC), by rw [hU]; exact vx_Zq.moved hW.alike (h4.kept hS.2.1), by rw [hU]; exact vx_Zq.moved hW.alike (h5.kept hS.2.1)⟩
theorem ri_blind (vals : List Value) (w : List ri_E) : FrameBlind (ri_Pc NW CW NC AO cl tyL al D ad cA vals w) := by
  intro a U g mk h
  obtain ⟨h1, h2, ⟨k1, k2, kc, kn, k3, k4, k5⟩, h3⟩ := h
  exact ⟨h1, h2, ⟨va_K.moved (u := U) (U := U.calling g mk a) (Vm.Alike.refl U.vm) k1, fun x hx => va_Nw.same (u := U) rfl rfl (k2 x hx), fun x hx => va_Nw.same (u := U) (ri_cw_on x) rfl (kc x hx), fun x hx => va_Nc.moved (u := U) (U := U.calling g mk a) (Vm.Alike.refl U.vm) (kn x hx), fun C hC => ri_AO.moved (u := U) (U := U.calling g mk a) (Vm.Alike.refl U.vm) (k3 C hC), vx_Zq.moved (u := U) (U := U.calling g mk a) (Vm.Alike.refl U.vm) k4, vx_Zq.moved (u := U) (U := U.calling g mk a) (Vm.Alike.refl U.vm) k5⟩, h3⟩
/-- the contract that a reckoning is -/
theorem ri_met {l : Launch} {f : ri_K} (hF : ri_Snd WG hh NW CW NC AO cl Ms tyL exn xs L al D ad cA l f) {y : Nat} {M2 : ri_M} (hM : Ms[y]? = some M2) (hok : ri_mok WG hh M2) (hns : ∀ o ∈ M2.2.2.2.2.2, o.2.1 ≠ 24 ∧ o.2.1 ≠ 25)
    {d bud : Nat} {vals : List Value} {w : List ri_E} {out : ri_Out} {fr : Nat} (hrun : f d bud M2 M2.2.2.2.2.2 0 (lv_args 0 vals) [] w 0 0 fr = some out) (hcs : ∀ x ∈ out.2.2.2.2.1, ri_sem ad x) (hlen : (lg_sl vals).length ≤ M2.2.2.1) (hw9 : w.length ≤ 1000000) :
    vx_Met l M2.1 (Jvm.Cond.code M2.1 M2.2.1 M2.2.2.1 M2.2.2.2.1 :: WG) ({ frames := d, cells := out.2.2.1, slots := out.2.2.2.1, locals := bud }) (ri_Pc NW CW NC AO cl tyL al D ad cA vals w) (ri_Qc cl al D ad cA out) (ri_XC cl exn D ad cA out) out.2.2.1 out.2.2.2.1 (ri_A ad) := by
  refine vx_ofW (cc := M2.2.1) (maxL := M2.2.2.1) (ret := M2.2.2.2.1) hok.2.1 rfl ?_
  intro p e s m args below meth c s₁ B hml hnt hv
  obtain ⟨rfl, hP, hK, hn⟩ := hv
  have hts := atoms_spec (ws := Jvm.Cond.code M2.1 M2.2.1 M2.2.2.1 M2.2.2.2.1 :: WG) B.pre
  have hl := lv_entry (vals.map (ri_v ad)) (n := M2.2.2.1) (by rw [ri_sl_v]; exact hlen)
  rw [ri_args_v] at hl
  rw [lg_entry_eq]
  generalize (lg_sl (vals.map (ri_v ad)) ++ List.replicate (M2.2.2.1 - (lg_sl (vals.map (ri_v ad))).length) Slot.unset).toArray = ls at hl ⊢
  have hlocks := B.notSynchronized
  have htb : c.exceptionTable.toList = tableOf (hh M2.1) := by
    rw [hok.1]
    exact List.eq_nil_iff_forall_not_mem.mpr hnt
  refine (hF _ _ _ _ _ _ _ _ _ _ _ _ hrun).2 hcs ⟨y, hM⟩ (fun o h => h) hw9 p e _ s m _ below meth c s.heap [] ls _ ⟨B.exec, B.bytes, hml, findClass_of_methodNamed B.named, (name_of_methodNamed B.named B.method).1, B.returns, hlocks, htb, fun x hx => hts x (List.mem_cons_of_mem _ hx), hK, fun ⟨o, ho, hq⟩ => by
      rcases hq with hq | hq
      · exact absurd hq (hns o ho).1
      · exact absurd hq (hns o ho).2⟩ hP va_S.rf hn (Nat.le_refl _) (Nat.le_refl _) (Nat.le_refl _) (Nat.le_refl _) hl ?_ ?_
  · intro r hr H1 locs1 ls1 pc1 hP1 hS1 hn1 hq
    refine vx_ret ?_
    have hQ : ∀ t : State, t.heap = H1 → s.WarmedH t.vm → ri_Qc cl al D ad cA out (vals.map (ri_v ad)).toArray s (.returned (r.map (ri_v ad))) t := fun t ht _ => ⟨r, hr, rfl, by rw [ht]; exact hP1, fun h => by rw [ht]; exact hn1 h, hS1.F ht⟩
    rcases hq with ⟨rfl, h2, h3⟩ | ⟨x, t, rfl, h2, h3, h4⟩ | ⟨x, rfl, h2, h3⟩ | ⟨x, rfl, h2, h3⟩ | ⟨x, t, rfl, h2, h3, h4⟩ | ⟨x, rfl, h2, h3⟩
    · exact W.vret B.exec B.bytes (by rw [B.returns, h2]) hQ hS1.2.2 h3
    · exact W.zret B.exec B.bytes (by rw [B.returns, h2]) h3 hQ hS1.2.2 h4
    · exact W.lret B.exec B.bytes (by rw [B.returns, h2]) hQ hS1.2.2 h3
    · exact W.dret B.exec B.bytes (by rw [B.returns, h2]) hQ hS1.2.2 h3
    · exact W.aret B.exec B.bytes (by rw [B.returns, h2]) h3 (Or.inr ⟨_, rfl⟩) hQ hS1.2.2 h4
    · exact W.zret B.exec B.bytes (by rw [B.returns, h2]) rfl hQ hS1.2.2 h3
  · intro x hx
    exact ⟨_, _, rfl, fun t ht h1 h2 => ⟨x, hx, rfl, h1, h2⟩⟩
/-- the contract that a reckoning of a method with handlers is -/
theorem ri_metH {l : Launch} {f : ri_K} (hF : ri_Snd WG hh NW CW NC AO cl Ms tyL exn xs L al D ad cA l f) {y : Nat} {M2 : ri_M} (hM : Ms[y]? = some M2) (hok : ri_mokH WG hh M2) (hns : ∀ o ∈ M2.2.2.2.2.2, o.2.1 ≠ 24 ∧ o.2.1 ≠ 25)
    {d bud : Nat} {vals : List Value} {w : List ri_E} {out : ri_Out} {fr : Nat} (hrun : f d bud M2 M2.2.2.2.2.2 0 (lv_args 0 vals) [] w 0 0 fr = some out) (hcs : ∀ x ∈ out.2.2.2.2.1, ri_sem ad x) (hlen : (lg_sl vals).length ≤ M2.2.2.1) (hw9 : w.length ≤ 1000000) :
    vx_Met l M2.1 (Jvm.Cond.codeWith M2.1 M2.2.1 M2.2.2.1 M2.2.2.2.1 (hh M2.1) :: WG) ({ frames := d, cells := out.2.2.1, slots := out.2.2.2.1, locals := bud }) (ri_Pc NW CW NC AO cl tyL al D ad cA vals w) (ri_Qc cl al D ad cA out) (ri_XC cl exn D ad cA out) out.2.2.1 out.2.2.2.1 (ri_A ad) := by
  refine vx_ofWH (cc := M2.2.1) (maxL := M2.2.2.1) (ret := M2.2.2.2.1) (hh := hh M2.1) hok.1 rfl ?_
  intro p e s m args below meth c s₁ B hml hv
  obtain ⟨rfl, hP, hK, hn⟩ := hv
  have hts := atoms_spec (ws := Jvm.Cond.codeWith M2.1 M2.2.1 M2.2.2.1 M2.2.2.2.1 (hh M2.1) :: WG) B.pre
  have hl := lv_entry (vals.map (ri_v ad)) (n := M2.2.2.1) (by rw [ri_sl_v]; exact hlen)
  rw [ri_args_v] at hl
  rw [lg_entry_eq]
  generalize (lg_sl (vals.map (ri_v ad)) ++ List.replicate (M2.2.2.1 - (lg_sl (vals.map (ri_v ad))).length) Slot.unset).toArray = ls at hl ⊢
  have hlocks := B.notSynchronized
  have htb : c.exceptionTable.toList = tableOf (hh M2.1) := vx_table (x := M2.1) B (hts _ List.mem_cons_self)
  refine (hF _ _ _ _ _ _ _ _ _ _ _ _ hrun).2 hcs ⟨y, hM⟩ (fun o h => h) hw9 p e _ s m _ below meth c s.heap [] ls _ ⟨B.exec, B.bytes, hml, findClass_of_methodNamed B.named, (name_of_methodNamed B.named B.method).1, B.returns, hlocks, htb, fun x hx => hts x (List.mem_cons_of_mem _ hx), hK, fun ⟨o, ho, hq⟩ => by
      rcases hq with hq | hq
      · exact absurd hq (hns o ho).1
      · exact absurd hq (hns o ho).2⟩ hP va_S.rf hn (Nat.le_refl _) (Nat.le_refl _) (Nat.le_refl _) (Nat.le_refl _) hl ?_ ?_
  · intro r hr H1 locs1 ls1 pc1 hP1 hS1 hn1 hq
    refine vx_ret ?_
    have hQ : ∀ t : State, t.heap = H1 → s.WarmedH t.vm → ri_Qc cl al D ad cA out (vals.map (ri_v ad)).toArray s (.returned (r.map (ri_v ad))) t := fun t ht _ => ⟨r, hr, rfl, by rw [ht]; exact hP1, fun h => by rw [ht]; exact hn1 h, hS1.F ht⟩
    rcases hq with ⟨rfl, h2, h3⟩ | ⟨x, t, rfl, h2, h3, h4⟩ | ⟨x, rfl, h2, h3⟩ | ⟨x, rfl, h2, h3⟩ | ⟨x, t, rfl, h2, h3, h4⟩ | ⟨x, rfl, h2, h3⟩
    · exact W.vret B.exec B.bytes (by rw [B.returns, h2]) hQ hS1.2.2 h3
    · exact W.zret B.exec B.bytes (by rw [B.returns, h2]) h3 hQ hS1.2.2 h4
    · exact W.lret B.exec B.bytes (by rw [B.returns, h2]) hQ hS1.2.2 h3
    · exact W.dret B.exec B.bytes (by rw [B.returns, h2]) hQ hS1.2.2 h3
    · exact W.aret B.exec B.bytes (by rw [B.returns, h2]) h3 (Or.inr ⟨_, rfl⟩) hQ hS1.2.2 h4
    · exact W.zret B.exec B.bytes (by rw [B.returns, h2]) rfl hQ hS1.2.2 h3
  · intro x hx
    exact ⟨_, _, rfl, fun t ht h1 h2 => ⟨x, hx, rfl, h1, h2⟩⟩
section
variable {p : Program} {l : Launch} {e : Env} {R : Room} {s : State} {m : MethodId} {args : Array Value} {below : List Frame} {meth : Method} {c : Code} {H : Heap} {locs : List Loc} {cells slots : Nat} {Q : State → Prop}
/-- behind a call -/
theorem ri_called {out : ri_Out} {mc ms pc : Nat} {ls : Array Slot} {st0 rest : List Value} {va : Array Value} (hr : vx_Run p l e R s m args below meth c H locs cells slots mc ms (F0 m pc ls st0) rest (ri_Qc cl al D ad cA out va) (ri_XC cl exn D ad cA out) (ri_A ad)) (hS : va_S (ri_A ad) s.heap H locs)
    (kk : ∀ (r : Option Value) (H1 : Heap) (locs1 : List Loc), out.1 = .inl r → ri_P D cl ad cA out.2.1 H1 → (al out.2.1.length = true → ri_nx ad out.2.1.length H1.size) → va_S (ri_A ad) s.heap H1 locs1 → W p l e R s m args below meth c H1 locs1 (cells + mc) (slots + ms) Q (F0 m (pc + 3) ls ((r.map (ri_v ad)).toList ++ rest)))
    (kx : ∀ (x : Nat) (q : Addr) (ce : Cell) (H1 : Heap) (locs1 : List Loc), out.1 = .inr x → ri_P D cl ad cA out.2.1 H1 → va_S (ri_A ad) s.heap H1 locs1 → H1[q]? = some ce → ce.vm = .none → s.vm.findClass (exn x) = some ce.cls → vx_W p l e R s m args below meth c H1 locs1 (cells + mc) (slots + ms) Q (F0 m pc ls rest) q) :
    W p l e R s m args below meth c H locs cells slots Q (F0 m pc ls st0) := by
  intro T hT X
  rcases hr T hT X with ⟨v, st₀, t, T', L, h0, X', hL, e1, e2, ⟨r, hr1, hr2, hr3, hr4, hr5⟩, st⟩ | ⟨q, st₀, t, T', L, E, ce, h0, X', hL, e1, e2, ⟨x, hx1, hx2, hx3, hx4⟩, hce, hcv, hcl, st⟩
  · obtain ⟨k1, k2, k3⟩ := vx_keep h0 e1 hS (fun _ _ h => h) (fun _ h => h) hL hr5
    cases hr2
    obtain ⟨t2, a1, b1⟩ := kk r T'.heap (locs ++ L) hr1 (by rw [e1]; exact hr3) (fun h => by rw [e1]; exact hr4 h) k3 T' rfl X'
    exact ⟨t2, st t2 a1, b1⟩
  · obtain ⟨k1, k2, k3⟩ := vx_keep h0 e1 hS (fun _ _ h => h) (fun _ h => h) hL hx4
    subst hx2
    obtain ⟨t2, a1, b1⟩ := kx x q ce T'.heap (locs ++ L) hx1 (by rw [e1]; exact hx3) k3 (by rw [e1]; exact hce) hcv hcl T' rfl X'
    exact ⟨t2, st.trans a1, b1⟩
end
end RIS
end
section
/-! ===== the reckoner, part 9: calls ===== -/
theorem ri_more_eq {cs : List ri_Cd} {o : Option ri_Out} {out : ri_Out} (h : ri_more cs o = some out) : ∃ z : ri_Out, o = some z ∧ out = (z.1, z.2.1, z.2.2.1, z.2.2.2.1, cs ++ z.2.2.2.2.1, z.2.2.2.2.2) := by
  cases o with
  | none => cases h
  | some z => exact ⟨z, rfl, (Option.some.inj h).symm⟩
theorem ri_back_eq {f : ri_K} {d bud : Nat} {M : ri_M} {nxt : List ri_Op} {pc : Nat} {lv : ri_L} {rest : List Value} {nc ns : Nat} {o : Option ri_Out} {out : ri_Out} (h : ri_back f d bud M nxt pc lv rest nc ns o = some out) :
    (∃ (r : Option Value) (w2 : List ri_E) (nc2 ns2 : Nat) (cs : List ri_Cd) (fr2 : Nat) (z : ri_Out), o = some (.inl r, w2, nc2, ns2, cs, fr2) ∧ f d bud M nxt (pc + 3) lv (r.toList ++ rest) w2 (nc + nc2) (ns + ns2) fr2 = some z ∧ out = (z.1, z.2.1, z.2.2.1, z.2.2.2.1, cs ++ z.2.2.2.2.1, z.2.2.2.2.2)) ∨
    (∃ (x : Nat) (w2 : List ri_E) (nc2 ns2 : Nat) (cs : List ri_Cd) (fr2 : Nat), o = some (.inr x, w2, nc2, ns2, cs, fr2) ∧ out = (.inr x, w2, nc + nc2, ns + ns2, cs, fr2)) := by
  unfold ri_back at h
  split at h
  · rename_i r w2 nc2 ns2 cs fr2
    obtain ⟨z, h1, h2⟩ := ri_more_eq h
    exact Or.inl ⟨r, w2, nc2, ns2, cs, fr2, z, rfl, h1, h2⟩
  · rename_i x w2 nc2 ns2 cs fr2
    exact Or.inr ⟨x, w2, nc2, ns2, cs, fr2, rfl, (Option.some.inj h).symm⟩
  · cases h
theorem ri_caught_eq {f : ri_K} {d bud : Nat} {M : ri_M} {lv : ri_L} {w : List ri_E} {nc ns fr : Nat} {cs : List ri_Cd} {os : List ri_Op} {out : ri_Out} (h : ri_caught f d bud M lv w nc ns fr cs os = some out) : ∃ (oh : ri_Op) (nx2 : List ri_Op) (k ln : Nat) (z : ri_Out), os = oh :: nx2 ∧ k < M.2.2.1 ∧ ((∃ k4 : Fin 4, oh.2.2.1 = .astore_n k4 ∧ k4.val = k ∧ ln = 1) ∨ (oh.2.2.1 = .astore k ∧ ln = 2)) ∧ f d bud M nx2 (oh.1 + ln) (lv.filter (ri_f1 k)) [] w nc ns fr = some z ∧ out = (z.1, z.2.1, z.2.2.1, z.2.2.2.1, cs ++ z.2.2.2.2.1, z.2.2.2.2.2) := by
  unfold ri_caught at h
  split at h
  · rename_i oh nx2
    split at h
    · rename_i k4 hk
      obtain ⟨h1, h2⟩ := ri_ok_eq h
      obtain ⟨z, h3, h4⟩ := ri_more_eq h2
      exact ⟨oh, nx2, k4.val, 1, z, rfl, Nat.le_of_ble_eq_true h1, Or.inl ⟨k4, hk, rfl, rfl⟩, h3, h4⟩
    · rename_i k hk
      obtain ⟨h1, h2⟩ := ri_ok_eq h
      obtain ⟨z, h3, h4⟩ := ri_more_eq h2
      exact ⟨oh, nx2, k, 2, z, rfl, Nat.le_of_ble_eq_true h1, Or.inr ⟨hk, rfl⟩, h3, h4⟩
    · cases h
  · cases h
theorem ri_backH_eq {al : Nat → Bool} {f : ri_K} {d bud : Nat} {M : ri_M} {nxt : List ri_Op} {pc : Nat} {lv : ri_L} {rest : List Value} {nc ns : Nat} {hs : List Nat} {o : Option ri_Out} {out : ri_Out} (h : ri_backH al f d bud M nxt pc lv rest nc ns hs o = some out) :
    (∃ (r : Option Value) (w2 : List ri_E) (nc2 ns2 : Nat) (cs : List ri_Cd) (fr2 : Nat) (z : ri_Out), o = some (.inl r, w2, nc2, ns2, cs, fr2) ∧ f d bud M nxt (pc + 3) lv (r.toList ++ rest) w2 (nc + nc2) (ns + ns2) fr2 = some z ∧ out = (z.1, z.2.1, z.2.2.1, z.2.2.2.1, cs ++ z.2.2.2.2.1, z.2.2.2.2.2)) ∨
    (∃ (x : Nat) (w2 : List ri_E) (nc2 ns2 : Nat) (cs : List ri_Cd) (fr2 t : Nat), al w2.length = false ∧ o = some (.inr x, w2, nc2, ns2, cs, fr2) ∧ hs[x]? = some t ∧ ri_caught f d bud M lv w2 (nc + nc2) (ns + ns2) fr2 cs (M.2.2.2.2.2.drop t) = some out) := by
  unfold ri_backH at h
  split at h
  · rename_i r w2 nc2 ns2 cs fr2
    obtain ⟨z, h1, h2⟩ := ri_more_eq h
    exact Or.inl ⟨r, w2, nc2, ns2, cs, fr2, z, rfl, h1, h2⟩
  · rename_i x w2 nc2 ns2 cs fr2
    obtain ⟨ha, h9⟩ := ri_ok_eq h
    split at h9
    · rename_i t ht
      rw [ri_nth_eq] at ht
      rw [ri_drop_eq] at h9
      exact Or.inr ⟨x, w2, nc2, ns2, cs, fr2, t, by simpa using ha, rfl, ht, h9⟩
    · cases h9
  · cases h
theorem ri_enter_eq {f : ri_K} {d bud : Nat} {M : ri_M} {vals rest : List Value} {w : List ri_E} {fr : Nat} {o : ri_Out} (h : ri_enter f d bud M vals rest w fr = some o) : 1 ≤ d ∧ 19 + M.2.2.1 ≤ bud ∧ ri_cat rest ≤ 8 ∧ (lg_sl vals).length ≤ M.2.2.1 ∧ f (d - 1) (bud - (19 + M.2.2.1)) M M.2.2.2.2.2 0 (lv_args 0 vals) [] w 0 0 fr = some o := by
  obtain ⟨hb, h2⟩ := ri_ok_eq h
  simp only [Bool.and_eq_true] at hb
  obtain ⟨b1, b2, b3, b4⟩ := hb
  exact ⟨Nat.le_of_ble_eq_true b1, Nat.le_of_ble_eq_true b2, Nat.le_of_ble_eq_true b3, Nat.le_of_ble_eq_true b4, h2⟩
section RIC
variable {WG : List Jvm.Cond} {hh : MethodName → List (Nat × Nat × Nat × Nat)} {NW : List ri_N} {CW : List ri_C9} {NC : List (String × String)} {AO : List FieldType} {cl : List vw_C} {Ms : List ri_M} {ty : Nat → Nat → FieldType} {df : Nat → List Value} {tyL : List FieldType} {exl : Nat → Nat} {exn : Nat → String} {xs : Nat → Value} {L : Nat} {al : Nat → Bool} {orc : List (Bool ⊕ Int32)} {D : va_G} {ad : Nat → Nat} {cA : Nat → ClassId}
theorem ri_good (hg : ∀ w ∈ WG, goodWord w = true) {x : Jvm.Cond} (hx : x ∈ WG) : GoodIn WG (x :: WG) := fun w hw => (List.mem_cons.mp hw).elim (fun e => by subst e; exact ⟨hx, good_of_word (hg _ hx)⟩) (fun h => ⟨h, good_of_word (hg w h)⟩)
theorem ri_back_mono {l : Launch} {f : ri_K} (hF : ri_Snd WG hh NW CW NC AO cl Ms tyL exn xs L al D ad cA l f) {d bud : Nat} {M M2 : ri_M} {nxt : List ri_Op} {pc : Nat} {lv : ri_L} {vals rest : List Value} {w : List ri_E} {nc ns fr : Nat} {out : ri_Out} (h : ri_back f d bud M nxt pc lv rest nc ns (ri_enter f d bud M2 vals rest w fr) = some out) : nc ≤ out.2.2.1 ∧ ns ≤ out.2.2.2.1 ∧ (w.length ≤ 1000000 → out.2.1.length ≤ 1000000) := by
  rcases ri_back_eq h with ⟨r, w2, nc2, ns2, cs, fr2, z, h0, h1, rfl⟩ | ⟨x, w2, nc2, ns2, cs, fr2, h0, rfl⟩
  · obtain ⟨g1, g2, g3, g4, g5⟩ := ri_enter_eq h0
    have k1 := (hF _ _ _ _ _ _ _ _ _ _ _ _ h1).1
    have k2 := (hF _ _ _ _ _ _ _ _ _ _ _ _ g5).1
    exact ⟨by have := k1.1; show nc ≤ z.2.2.1; omega, by have := k1.2.1; show ns ≤ z.2.2.2.1; omega, fun hw => k1.2.2 (k2.2.2 hw)⟩
  · obtain ⟨g1, g2, g3, g4, g5⟩ := ri_enter_eq h0
    exact ⟨Nat.le_add_right _ _, Nat.le_add_right _ _, (hF _ _ _ _ _ _ _ _ _ _ _ _ g5).1.2.2⟩
theorem ri_backH_mono {l : Launch} {f : ri_K} (hF : ri_Snd WG hh NW CW NC AO cl Ms tyL exn xs L al D ad cA l f) {d bud : Nat} {M M2 : ri_M} {nxt : List ri_Op} {pc : Nat} {lv : ri_L} {vals rest : List Value} {w : List ri_E} {nc ns fr : Nat} {hs : List Nat} {out : ri_Out} (h : ri_backH al f d bud M nxt pc lv rest nc ns hs (ri_enter f d bud M2 vals rest w fr) = some out) : nc ≤ out.2.2.1 ∧ ns ≤ out.2.2.2.1 ∧ (w.length ≤ 1000000 → out.2.1.length ≤ 1000000) := by
  rcases ri_backH_eq h with ⟨r, w2, nc2, ns2, cs, fr2, z, h0, h1, rfl⟩ | ⟨x, w2, nc2, ns2, cs, fr2, t, hal, h0, ht, h1⟩
  · obtain ⟨g1, g2, g3, g4, g5⟩ := ri_enter_eq h0
    have k1 := (hF _ _ _ _ _ _ _ _ _ _ _ _ h1).1
    have k2 := (hF _ _ _ _ _ _ _ _ _ _ _ _ g5).1
    exact ⟨by have := k1.1; show nc ≤ z.2.2.1; omega, by have := k1.2.1; show ns ≤ z.2.2.2.1; omega, fun hw => k1.2.2 (k2.2.2 hw)⟩
  · obtain ⟨g1, g2, g3, g4, g5⟩ := ri_enter_eq h0
    obtain ⟨oh, nx2, k, ln, z, -, -, -, h2, rfl⟩ := ri_caught_eq h1
    have k1 := (hF _ _ _ _ _ _ _ _ _ _ _ _ h2).1
    have k2 := (hF _ _ _ _ _ _ _ _ _ _ _ _ g5).1
    exact ⟨by have := k1.1; show nc ≤ z.2.2.1; omega, by have := k1.2.1; show ns ≤ z.2.2.2.1; omega, fun hw => k1.2.2 (k2.2.2 hw)⟩
section
variable {p : Program} {l : Launch} {e : Env} {R : Room} {s : State} {m : MethodId} {args : Array Value} {below : List Frame} {meth : Method} {c : Code} {H : Heap} {locs : List Loc} {Q : State → Prop}
/-- a call, with whatever row of the kit runs it -/
theorem ri_call_W {f : ri_K} (hF : ri_Snd WG hh NW CW NC AO cl Ms tyL exn xs L al D ad cA l f) {d bud : Nat} {M M2 : ri_M} {nxt : List ri_Op} {pc nc ns fr y : Nat} {lv : ri_L} {vals rest st0 : List Value} {w : List ri_E} {ls : Array Slot} {out : ri_Out}
    (h : ri_back f d bud M nxt pc lv rest nc ns (ri_enter f d bud M2 vals rest w fr) = some out) (hM2 : Ms[y]? = some M2) {cw9 : Jvm.Cond} (mk : ∀ o2 : ri_Out, f (d - 1) (bud - (19 + M2.2.2.1)) M2 M2.2.2.2.2.2 0 (lv_args 0 vals) [] w 0 0 fr = some o2 → (∀ x ∈ o2.2.2.2.2.1, ri_sem ad x) → (lg_sl vals).length ≤ M2.2.2.1 → vx_Met l M2.1 (cw9 :: WG) ({ frames := d - 1, cells := o2.2.2.1, slots := o2.2.2.2.1, locals := bud - (19 + M2.2.2.1) }) (ri_Pc NW CW NC AO cl tyL al D ad cA vals w) (ri_Qc cl al D ad cA o2) (ri_XC cl exn D ad cA o2) o2.2.2.1 o2.2.2.2.1 (ri_A ad)) (hM0 : hh M.1 = [])
    (hcs : ∀ x ∈ out.2.2.2.2.1, ri_sem ad x) (hM : ∃ y : Nat, Ms[y]? = some M) (hcur : ∀ o ∈ nxt, o ∈ M.2.2.2.2.2) (hw9 : w.length ≤ 1000000) (hfr : ri_Fr WG hh NW CW NC AO cl tyL xs L D ad cA M p s m args meth c) (hS : va_S (ri_A ad) s.heap H locs) (hdR : d ≤ R.frames) (hbR : bud ≤ R.locals) (hcR : out.2.2.1 ≤ R.cells) (hsR : out.2.2.2.1 ≤ R.slots) (hl : lv_has ls M.2.2.1 (ri_lr ad lv))
    (hret : ∀ r : Option Value, out.1 = .inl r → ∀ (H1 : Heap) (locs1 : List Loc) (ls1 : Array Slot) (pc1 : Nat), ri_P D cl ad cA out.2.1 H1 → va_S (ri_A ad) s.heap H1 locs1 → (al out.2.1.length = true → ri_nx ad out.2.1.length H1.size) → ri_isret M.2.1 pc1 M.2.2.2.1 r → W p l e R s m args below meth c H1 locs1 out.2.2.1 out.2.2.2.1 Q (F0 m pc1 ls1 (r.toList.map (ri_v ad))))
    (hthr : ∀ x : Nat, out.1 = .inr x → ∃ (Qc : Array Value → State → Outcome → State → Prop) (XC : String → State → State → Prop), Q = vx_MQ below Qc XC args s out.2.2.1 out.2.2.2.1 (ri_A ad) ∧ ∀ t : State, s.vm.Alike t.vm → ri_P D cl ad cA out.2.1 t.heap → va_F (ri_A ad) s t → XC (exn x) s t)
    (runner : ∀ (o2 : ri_Out) (rm : Room), vx_Met l M2.1 (cw9 :: WG) rm (ri_Pc NW CW NC AO cl tyL al D ad cA vals w) (ri_Qc cl al D ad cA o2) (ri_XC cl exn D ad cA o2) o2.2.2.1 o2.2.2.2.1 (ri_A ad) → rm.cells = o2.2.2.1 → rm.slots = o2.2.2.2.1 → rm.frames + 1 ≤ R.frames ∧ 8 + (M2.2.2.1 + 11) + rm.locals ≤ R.locals → ri_cat rest ≤ 8 → nc + o2.2.2.1 ≤ R.cells ∧ ns + o2.2.2.2.1 ≤ R.slots →
      vx_Run p l e R s m args below meth c H locs nc ns o2.2.2.1 o2.2.2.2.1 (F0 m pc ls st0) (rest.map (ri_v ad)) (ri_Qc cl al D ad cA o2 (vals.map (ri_v ad)).toArray) (ri_XC cl exn D ad cA o2) (ri_A ad)) :
    W p l e R s m args below meth c H locs nc ns Q (F0 m pc ls st0) := by
  obtain ⟨hx, hb, hml, hown, hname, hr, hlocks, hnt, hts, hK, hsc⟩ := id hfr
  rcases ri_back_eq h with ⟨r, w2, nc2, ns2, cs, fr2, z, h1, h2, rfl⟩ | ⟨x, w2, nc2, ns2, cs, fr2, h1, rfl⟩
  · obtain ⟨g1, g2, g3, g4, g5⟩ := ri_enter_eq h1
    have hmono := (hF _ _ _ _ _ _ _ _ _ _ _ _ h2).1
    have hcs2 : ∀ x ∈ cs, ri_sem ad x := fun x hx => hcs x (List.mem_append_left _ hx)
    have hMet := mk _ g5 hcs2 g4
    have hlen2 := (hF _ _ _ _ _ _ _ _ _ _ _ _ g5).1.2.2 hw9
    refine ri_called (runner _ _ hMet rfl rfl ⟨by show d - 1 + 1 ≤ R.frames; omega, by show 8 + (M2.2.2.1 + 11) + (bud - (19 + M2.2.2.1)) ≤ R.locals; omega⟩ g3 ⟨Nat.le_trans hmono.1 hcR, Nat.le_trans hmono.2.1 hsR⟩) hS (fun r9 H1 locs1 hr9 hP1 hn1 hS1 => ?_) (fun x9 q ce H1 locs1 hx9 => by cases hx9)
    cases hr9
    have k := (hF _ _ _ _ _ _ _ _ _ _ _ _ h2).2 (fun x hx => hcs x (List.mem_append_right _ hx)) hM hcur hlen2 p e R s m args below meth c H1 locs1 ls Q hfr hP1 hS1 hn1 hdR hbR hcR hsR hl hret hthr
    have e9 : (r.map (ri_v ad)).toList ++ rest.map (ri_v ad) = (r.toList ++ rest).map (ri_v ad) := by cases r <;> rfl
    rw [e9]
    exact k
  · obtain ⟨g1, g2, g3, g4, g5⟩ := ri_enter_eq h1
    have hMet := mk _ g5 hcs g4
    refine ri_called (runner _ _ hMet rfl rfl ⟨by show d - 1 + 1 ≤ R.frames; omega, by show 8 + (M2.2.2.1 + 11) + (bud - (19 + M2.2.2.1)) ≤ R.locals; omega⟩ g3 ⟨hcR, hsR⟩) hS (fun r9 H1 locs1 hr9 => by cases hr9) (fun x9 q ce H1 locs1 hx9 hP1 hS1 hce hcv hcl => ?_)
    cases hx9
    obtain ⟨Qc, XC, rfl, hXC⟩ := hthr x rfl
    exact vx_out (fun z hz => by rw [hnt, hM0] at hz; cases hz) hlocks hce hcv hcl (fun t ht hvm => hXC t hvm (by rw [ht]; exact hP1) (hS1.F ht)) hS1.2.2 (Nat.le_refl _) (Nat.le_refl _)
/-- a call where handlers stand -/
theorem ri_call_WH {f : ri_K} (hF : ri_Snd WG hh NW CW NC AO cl Ms tyL exn xs L al D ad cA l f) {d bud : Nat} {M M2 : ri_M} {nxt : List ri_Op} {pc nc ns fr y : Nat} {hs : List Nat} {lv : ri_L} {vals rest st0 : List Value} {w : List ri_E} {ls : Array Slot} {out : ri_Out}
    (h : ri_backH al f d bud M nxt pc lv rest nc ns hs (ri_enter f d bud M2 vals rest w fr) = some out) (hM2 : Ms[y]? = some M2) {cw9 : Jvm.Cond} (mk : ∀ o2 : ri_Out, f (d - 1) (bud - (19 + M2.2.2.1)) M2 M2.2.2.2.2.2 0 (lv_args 0 vals) [] w 0 0 fr = some o2 → (∀ x ∈ o2.2.2.2.2.1, ri_sem ad x) → (lg_sl vals).length ≤ M2.2.2.1 → vx_Met l M2.1 (cw9 :: WG) ({ frames := d - 1, cells := o2.2.2.1, slots := o2.2.2.2.1, locals := bud - (19 + M2.2.2.1) }) (ri_Pc NW CW NC AO cl tyL al D ad cA vals w) (ri_Qc cl al D ad cA o2) (ri_XC cl exn D ad cA o2) o2.2.2.1 o2.2.2.2.1 (ri_A ad)) (hhl : ri_hlink WG hh CW NC exn M pc hs) (hops : ∀ o ∈ M.2.2.2.2.2, ∃ len : Nat, decode M.2.1 o.1 = .ok (o.2.2.1, len) ∧ (ri_len o.2.2.1 = 0 ∨ ri_len o.2.2.1 = len))
    (hcs : ∀ x ∈ out.2.2.2.2.1, ri_sem ad x) (hM : ∃ y : Nat, Ms[y]? = some M) (hcur : ∀ o ∈ nxt, o ∈ M.2.2.2.2.2) (hw9 : w.length ≤ 1000000) (hfr : ri_Fr WG hh NW CW NC AO cl tyL xs L D ad cA M p s m args meth c) (hS : va_S (ri_A ad) s.heap H locs) (hdR : d ≤ R.frames) (hbR : bud ≤ R.locals) (hcR : out.2.2.1 ≤ R.cells) (hsR : out.2.2.2.1 ≤ R.slots) (hl : lv_has ls M.2.2.1 (ri_lr ad lv))
    (hret : ∀ r : Option Value, out.1 = .inl r → ∀ (H1 : Heap) (locs1 : List Loc) (ls1 : Array Slot) (pc1 : Nat), ri_P D cl ad cA out.2.1 H1 → va_S (ri_A ad) s.heap H1 locs1 → (al out.2.1.length = true → ri_nx ad out.2.1.length H1.size) → ri_isret M.2.1 pc1 M.2.2.2.1 r → W p l e R s m args below meth c H1 locs1 out.2.2.1 out.2.2.2.1 Q (F0 m pc1 ls1 (r.toList.map (ri_v ad))))
    (hthr : ∀ x : Nat, out.1 = .inr x → ∃ (Qc : Array Value → State → Outcome → State → Prop) (XC : String → State → State → Prop), Q = vx_MQ below Qc XC args s out.2.2.1 out.2.2.2.1 (ri_A ad) ∧ ∀ t : State, s.vm.Alike t.vm → ri_P D cl ad cA out.2.1 t.heap → va_F (ri_A ad) s t → XC (exn x) s t)
    (runner : ∀ (o2 : ri_Out) (rm : Room), vx_Met l M2.1 (cw9 :: WG) rm (ri_Pc NW CW NC AO cl tyL al D ad cA vals w) (ri_Qc cl al D ad cA o2) (ri_XC cl exn D ad cA o2) o2.2.2.1 o2.2.2.2.1 (ri_A ad) → rm.cells = o2.2.2.1 → rm.slots = o2.2.2.2.1 → rm.frames + 1 ≤ R.frames ∧ 8 + (M2.2.2.1 + 11) + rm.locals ≤ R.locals → ri_cat rest ≤ 8 → nc + o2.2.2.1 ≤ R.cells ∧ ns + o2.2.2.2.1 ≤ R.slots →
      vx_Run p l e R s m args below meth c H locs nc ns o2.2.2.1 o2.2.2.2.1 (F0 m pc ls st0) (rest.map (ri_v ad)) (ri_Qc cl al D ad cA o2 (vals.map (ri_v ad)).toArray) (ri_XC cl exn D ad cA o2) (ri_A ad)) :
    W p l e R s m args below meth c H locs nc ns Q (F0 m pc ls st0) := by
  obtain ⟨hx, hb, hml, hown, hname, hr, hlocks, hnt, hts, hK, hsc⟩ := id hfr
  rcases ri_backH_eq h with ⟨r, w2, nc2, ns2, cs, fr2, z, h1, h2, rfl⟩ | ⟨x, w2, nc2, ns2, cs, fr2, t, hal, h1, ht, h2⟩
  · obtain ⟨g1, g2, g3, g4, g5⟩ := ri_enter_eq h1
    have hmono := (hF _ _ _ _ _ _ _ _ _ _ _ _ h2).1
    have hcs2 : ∀ x ∈ cs, ri_sem ad x := fun x hx => hcs x (List.mem_append_left _ hx)
    have hMet := mk _ g5 hcs2 g4
    have hlen2 := (hF _ _ _ _ _ _ _ _ _ _ _ _ g5).1.2.2 hw9
    refine ri_called (runner _ _ hMet rfl rfl ⟨by show d - 1 + 1 ≤ R.frames; omega, by show 8 + (M2.2.2.1 + 11) + (bud - (19 + M2.2.2.1)) ≤ R.locals; omega⟩ g3 ⟨Nat.le_trans hmono.1 hcR, Nat.le_trans hmono.2.1 hsR⟩) hS (fun r9 H1 locs1 hr9 hP1 hn1 hS1 => ?_) (fun x9 q ce H1 locs1 hx9 => by cases hx9)
    cases hr9
    have k := (hF _ _ _ _ _ _ _ _ _ _ _ _ h2).2 (fun x hx => hcs x (List.mem_append_right _ hx)) hM hcur hlen2 p e R s m args below meth c H1 locs1 ls Q hfr hP1 hS1 hn1 hdR hbR hcR hsR hl hret hthr
    have e9 : (r.map (ri_v ad)).toList ++ rest.map (ri_v ad) = (r.toList ++ rest).map (ri_v ad) := by cases r <;> rfl
    rw [e9]
    exact k
  · obtain ⟨g1, g2, g3, g4, g5⟩ := ri_enter_eq h1
    obtain ⟨oh, nx2, k, ln, z, e1, hk, hins, h3, rfl⟩ := ri_caught_eq h2
    have hmono := (hF _ _ _ _ _ _ _ _ _ _ _ _ h3).1
    have hcs2 : ∀ x ∈ cs, ri_sem ad x := fun x hx => hcs x (List.mem_append_left _ hx)
    have hMet := mk _ g5 hcs2 g4
    have hlen2 := (hF _ _ _ _ _ _ _ _ _ _ _ _ g5).1.2.2 hw9
    have hmem : ∀ o ∈ oh :: nx2, o ∈ M.2.2.2.2.2 := fun o ho => List.mem_of_mem_drop (by rw [e1]; exact ho)
    refine ri_called (runner _ _ hMet rfl rfl ⟨by show d - 1 + 1 ≤ R.frames; omega, by show 8 + (M2.2.2.1 + 11) + (bud - (19 + M2.2.2.1)) ≤ R.locals; omega⟩ g3 ⟨Nat.le_trans hmono.1 hcR, Nat.le_trans hmono.2.1 hsR⟩) hS (fun r9 H1 locs1 hr9 => by cases hr9) (fun x9 q ce H1 locs1 hx9 hP1 hS1 hce hcv hcl => ?_)
    cases hx9
    obtain ⟨pre, z9, suf, t1, t2, t3, t4, ⟨nm, t5, t6⟩, t7⟩ := hhl x t oh nx2 ht e1
    refine vx_catch hown pre z9 suf (hnt.trans t1) (fun y hy => (t7 y hy).imp (fun q => q) (fun ⟨q1, nm2, q2, q3⟩ => ⟨q1, nm2, hts _ q2, hK.2.2.2.1 _ q3⟩)) t3 t4 (hts _ t5) (va_Nw.use (ri_cw_on (Sum.inl (exn x, nm))) (hK.2.2.1 _ t6)) hce hcv hcl ?_
    rw [t2]
    obtain ⟨len, hd, hlen⟩ := hops oh (hmem _ List.mem_cons_self)
    have kk : ∀ ls2 : Array Slot, lv_has ls2 M.2.2.1 ((k, .ref q) :: (ri_lr ad lv).filter (fun q => !(q.1 == k) && !(q.1 + 1 == k && q.2.category == 2))) → W p l e R s m args below meth c H1 locs1 (nc + nc2) (ns + ns2) Q (F0 m (oh.1 + ln) ls2 []) := fun ls2 hl2 => by
      have hl3 : lv_has ls2 M.2.2.1 (ri_lr ad (lv.filter (ri_f1 k))) := by
        rw [← ri_filter (ad := ad) (f := ri_f1 k) (fun q => by unfold ri_f1; rw [ri_v_cat]) lv]
        exact ⟨hl2.1, hl2.2.1, fun q hq => hl2.2.2 q (List.mem_cons_of_mem _ hq)⟩
      exact (hF _ _ _ _ _ _ _ _ _ _ _ _ h3).2 (fun x hx => hcs x (List.mem_append_right _ hx)) hM (fun o ho => hmem o (List.mem_cons_of_mem _ ho)) hlen2 p e R s m args below meth c H1 locs1 ls2 Q hfr hP1 hS1 (fun g => by rw [hal] at g; cases g) hdR hbR hcR hsR hl3 hret hthr
    rcases hins with ⟨k4, i1, i2, rfl⟩ | ⟨i1, rfl⟩
    · rw [i1] at hd hlen
      cases (hlen.resolve_left (fun q => by cases q) : 1 = len)
      exact lv_astore_n hx hb hd i2 hl hk rfl kk
    · rw [i1] at hd hlen
      cases (hlen.resolve_left (fun q => by cases q) : 2 = len)
      exact lv_astore hx hb hd hl hk rfl kk
end
end RIC
end
section
/-! ===== the reckoner, part 10: each kind of call ===== -/
section RIC2
variable {WG : List Jvm.Cond} {hh : MethodName → List (Nat × Nat × Nat × Nat)} {NW : List ri_N} {CW : List ri_C9} {NC : List (String × String)} {AO : List FieldType} {cl : List vw_C} {Ms : List ri_M} {ty : Nat → Nat → FieldType} {df : Nat → List Value} {tyL : List FieldType} {exl : Nat → Nat} {exn : Nat → String} {xs : Nat → Value} {L : Nat} {al : Nat → Bool} {orc : List (Bool ⊕ Int32)} {D : va_G} {ad : Nat → Nat} {cA : Nat → ClassId}
theorem ri_call_mono {l : Launch} {f : ri_K} (hF : ri_Snd WG hh NW CW NC AO cl Ms tyL exn xs L al D ad cA l f) {d bud : Nat} {M : ri_M} {nxt : List ri_Op} {pc : Nat} {lv : ri_L} {st : List Value} {w : List ri_E} {nc ns fr a b : Nat} {ts : List Nat} {out : ri_Out} (h : ri_call Ms al f d bud M nxt pc lv st w nc ns fr a b ts = some out) : nc ≤ out.2.2.1 ∧ ns ≤ out.2.2.2.1 ∧ (w.length ≤ 1000000 → out.2.1.length ≤ 1000000) := by
  unfold ri_call at h
  split at h
  · split at h
    · split at h
      · split at h
        · split at h
          · exact ri_back_mono hF (ri_ok_eq h).2
          · cases h
        · cases h
      · exact ri_back_mono hF h
      · split at h
        · exact ri_back_mono hF h
        · cases h
      · split at h
        · exact ri_back_mono hF h
        · cases h
      · exact ri_back_mono hF h
      · split at h
        · split at h
          · split at h
            · exact ri_backH_mono hF (ri_ok_eq h).2
            · cases h
          · cases h
        · cases h
      · exact ri_back_mono hF h
      · cases h
    · cases h
  · cases h
section
variable {p : Program} {l : Launch} {e : Env} {R : Room} {s : State} {m : MethodId} {args : Array Value} {below : List Frame} {meth : Method} {c : Code} {H : Heap} {locs : List Loc} {Q : State → Prop}
theorem ri_stack {n : Nat} {st As rest : List Value} (h : ri_split n [] st = some (As, rest)) : As.length = n ∧ st.map (ri_v ad) = (As.map (ri_v ad)).reverse ++ rest.map (ri_v ad) := by
  obtain ⟨Bs, h1, rfl, h3⟩ := ri_split_eq n [] st As rest h
  rw [List.append_nil] at h3
  subst h3
  exact ⟨by rw [List.length_reverse, h1], by rw [List.map_append, List.map_reverse, List.reverse_reverse]⟩
theorem ri_call_ok {f : ri_K} (hF : ri_Snd WG hh NW CW NC AO cl Ms tyL exn xs L al D ad cA l f) (hg : ∀ w ∈ WG, goodWord w = true) {d bud : Nat} {M : ri_M} {nxt : List ri_Op} {pc nc ns fr a b : Nat} {lv : ri_L} {st : List Value} {w : List ri_E} {ts : List Nat} {i : Instr} {ls : Array Slot} {out : ri_Out}
    (h : ri_call Ms al f d bud M nxt pc lv st w nc ns fr a b ts = some out) (hlk : ri_clink WG hh NW CW NC cl Ms exn M pc i a b ts) (hops : ∀ o ∈ M.2.2.2.2.2, ∃ len : Nat, decode M.2.1 o.1 = .ok (o.2.2.1, len) ∧ (ri_len o.2.2.1 = 0 ∨ ri_len o.2.2.1 = len)) (hd : decode M.2.1 pc = .ok (i, 3))
    (hcs : ∀ x ∈ out.2.2.2.2.1, ri_sem ad x) (hM : ∃ y : Nat, Ms[y]? = some M) (hcur : ∀ o ∈ nxt, o ∈ M.2.2.2.2.2) (hw9 : w.length ≤ 1000000) (hfr : ri_Fr WG hh NW CW NC AO cl tyL xs L D ad cA M p s m args meth c) (hP : ri_P D cl ad cA w H) (hS : va_S (ri_A ad) s.heap H locs) (hn : al w.length = true → ri_nx ad w.length H.size) (hdR : d ≤ R.frames) (hbR : bud ≤ R.locals) (hcR : out.2.2.1 ≤ R.cells) (hsR : out.2.2.2.1 ≤ R.slots) (hl : lv_has ls M.2.2.1 (ri_lr ad lv))
    (hret : ∀ r : Option Value, out.1 = .inl r → ∀ (H1 : Heap) (locs1 : List Loc) (ls1 : Array Slot) (pc1 : Nat), ri_P D cl ad cA out.2.1 H1 → va_S (ri_A ad) s.heap H1 locs1 → (al out.2.1.length = true → ri_nx ad out.2.1.length H1.size) → ri_isret M.2.1 pc1 M.2.2.2.1 r → W p l e R s m args below meth c H1 locs1 out.2.2.1 out.2.2.2.1 Q (F0 m pc1 ls1 (r.toList.map (ri_v ad))))
    (hthr : ∀ x : Nat, out.1 = .inr x → ∃ (Qc : Array Value → State → Outcome → State → Prop) (XC : String → State → State → Prop), Q = vx_MQ below Qc XC args s out.2.2.1 out.2.2.2.1 (ri_A ad) ∧ ∀ t : State, s.vm.Alike t.vm → ri_P D cl ad cA out.2.1 t.heap → va_F (ri_A ad) s t → XC (exn x) s t) :
    W p l e R s m args below meth c H locs nc ns Q (F0 m pc ls (st.map (ri_v ad))) := by
  obtain ⟨hx, hb, hml, hown, hname, hr, hlocks, hnt, hts, hK, hsc⟩ := id hfr
  obtain ⟨M2, hM2, hns, hkind⟩ := hlk
  have hlsz : ls.size = M.2.2.1 := hl.1
  unfold ri_call at h
  rw [ri_nth_eq, hM2] at h
  dsimp only at h
  split at h
  · rename_i As rest hsp
    obtain ⟨hAl, hst⟩ := ri_stack (ad := ad) hsp
    have hAl2 : (As.map (ri_v ad)).length = M2.2.2.2.2.1 := by rw [List.length_map]; exact hAl
    have hpre : ∀ (vals : List Value) (U : State), U.heap = H → s.WarmedH U.vm → ri_Pc NW CW NC AO cl tyL al D ad cA vals w (vals.map (ri_v ad)).toArray U := fun vals U hU hW => ⟨rfl, by rw [hU]; exact hP, hK.go hS hU hW, fun h9 => by rw [hU]; exact hn h9⟩
    split at h
    · obtain ⟨hM0, hok, idx, t, r, rfl, rfl, hr1, hr2, q1, q2, q3⟩ := hkind
      obtain ⟨ok0, ok1, ok2, ok3, ok4, ok5⟩ := id hok
      have hdd : M2.1.cls ≠ "java/lang/invoke/MethodHandle" ∧ M2.1.cls ≠ "java/lang/invoke/VarHandle" ∧ (parseMethodDescriptor M2.1.desc).map (fun d => d.parameters.length) = some M2.2.2.2.2.1 := ⟨ok4.1, ok4.2, ok5⟩
      split at h
      · rename_i q rest2
        split at h
        · rename_i o ho
          rw [ri_nth_eq] at ho
          obtain ⟨ht, h2⟩ := ri_ok_eq h
          have ht2 : o.1 = t := Nat.eq_of_beq_eq_true ht
          refine ri_call_W hF h2 hM2 (fun o2 g5 hc g4 => ri_met hF hM2 hok hns g5 hc g4 hw9) hM0 hcs hM hcur hw9 hfr hS hdR hbR hcR hsR hl hret hthr (fun o2 rm hMet e1 e2 hR hcat hf => ?_)
          refine vx_runV (As := As.map (ri_v ad)) (b := ad q) (C := M2.1.cls) ⟨hx, hb, hml, hown, hts⟩ hMet ⟨callB_of M2.2.2.2.2.1 hts (ri_good hg ok2) rfl e1 e2 (hts _ ok3) (hts _ q1) hdd hR, hts _ q2, hts _ q3⟩ ⟨ri_blind _ _, ?_, fun U hU hW => hpre (.ref q :: As) U hU hW⟩ rfl hAl2 hlsz hst (lv_room (by rw [ri_cat_v]; exact hcat)) hd hf
          obtain ⟨r9, g1, cell, g2, g3, g4, g5⟩ := hP q _ ho
          refine ⟨cell, g2, by rw [g4]; rfl, ?_⟩
          have hk := (hK.1.1 t r hr1).2.1
          rw [← hr2, hk, g3, ht2]
        · cases h
      · cases h
    · obtain ⟨hM0, hok, idx, rfl, q1, q2⟩ := hkind
      obtain ⟨ok0, ok1, ok2, ok3, ok4, ok5⟩ := id hok
      have hdd : M2.1.cls ≠ "java/lang/invoke/MethodHandle" ∧ M2.1.cls ≠ "java/lang/invoke/VarHandle" ∧ (parseMethodDescriptor M2.1.desc).map (fun d => d.parameters.length) = some M2.2.2.2.2.1 := ⟨ok4.1, ok4.2, ok5⟩
      refine ri_call_W hF h hM2 (fun o2 g5 hc g4 => ri_met hF hM2 hok hns g5 hc g4 hw9) hM0 hcs hM hcur hw9 hfr hS hdR hbR hcR hsR hl hret hthr (fun o2 rm hMet e1 e2 hR hcat hf => ?_)
      exact vx_runS (As := As.map (ri_v ad)) ⟨hx, hb, hml, hown, hts⟩ hMet ⟨callB_of M2.2.2.2.2.1 hts (ri_good hg ok2) rfl e1 e2 (hts _ ok3) (hts _ q1) hdd hR, hts _ q2⟩ ⟨ri_blind _ _, fun U hU hW => hpre As U hU hW⟩ rfl hAl2 hlsz hst (lv_room (by rw [ri_cat_v]; exact hcat)) hd hf
    · obtain ⟨hM0, hok, idx, rfl, q1, q2, q3, q4⟩ := hkind
      obtain ⟨ok0, ok1, ok2, ok3, ok4, ok5⟩ := id hok
      have hdd : M2.1.cls ≠ "java/lang/invoke/MethodHandle" ∧ M2.1.cls ≠ "java/lang/invoke/VarHandle" ∧ (parseMethodDescriptor M2.1.desc).map (fun d => d.parameters.length) = some M2.2.2.2.2.1 := ⟨ok4.1, ok4.2, ok5⟩
      split at h
      · rename_i q rest2
        refine ri_call_W hF h hM2 (fun o2 g5 hc g4 => ri_met hF hM2 hok hns g5 hc g4 hw9) hM0 hcs hM hcur hw9 hfr hS hdR hbR hcR hsR hl hret hthr (fun o2 rm hMet e1 e2 hR hcat hf => ?_)
        rw [q4] at hMet
        exact vx_runI (As := As.map (ri_v ad)) (b := ad q) ⟨hx, hb, hml, hown, hts⟩ hMet ⟨callB_of M2.2.2.2.2.1 hts (by rw [q4] at ok2; exact ri_good hg ok2) rfl e1 e2 (hts _ ok3) (hts _ q1) hdd hR, q2, hts _ q3⟩ ⟨ri_blind _ _, fun U hU hW => hpre (.ref q :: As) U hU hW⟩ rfl hAl2 hlsz hst (lv_room (by rw [ri_cat_v]; exact hcat)) hd hf
      · cases h
    · obtain ⟨hM0, hok, idx, host, rfl, q1, q2, q3, q4⟩ := hkind
      obtain ⟨ok0, ok1, ok2, ok3, ok4, ok5⟩ := id hok
      have hdd : M2.1.cls ≠ "java/lang/invoke/MethodHandle" ∧ M2.1.cls ≠ "java/lang/invoke/VarHandle" ∧ (parseMethodDescriptor M2.1.desc).map (fun d => d.parameters.length) = some M2.2.2.2.2.1 := ⟨ok4.1, ok4.2, ok5⟩
      split at h
      · rename_i q rest2
        refine ri_call_W hF h hM2 (fun o2 g5 hc g4 => ri_met hF hM2 hok hns g5 hc g4 hw9) hM0 hcs hM hcur hw9 hfr hS hdR hbR hcR hsR hl hret hthr (fun o2 rm hMet e1 e2 hR hcat hf => ?_)
        rw [q4] at hMet
        exact vx_runIN (As := As.map (ri_v ad)) (b := ad q) ⟨hx, hb, hml, hown, hts⟩ hMet ⟨va_cnB M2.2.2.2.2.1 hts (by rw [q4] at ok2; exact ri_good hg ok2) rfl e1 e2 (hK.2.1 _ q1) (hts _ ok3) hdd hR, q2, hts _ q3⟩ ⟨ri_blind _ _, fun U hU hW => hpre (.ref q :: As) U hU hW⟩ rfl hAl2 hlsz hst (lv_room (by rw [ri_cat_v]; exact hcat)) hd hf
      · cases h
    · obtain ⟨hM0, hok, idx, host, rfl, q1, q2⟩ := hkind
      obtain ⟨ok0, ok1, ok2, ok3, ok4, ok5⟩ := id hok
      have hdd : M2.1.cls ≠ "java/lang/invoke/MethodHandle" ∧ M2.1.cls ≠ "java/lang/invoke/VarHandle" ∧ (parseMethodDescriptor M2.1.desc).map (fun d => d.parameters.length) = some M2.2.2.2.2.1 := ⟨ok4.1, ok4.2, ok5⟩
      refine ri_call_W hF h hM2 (fun o2 g5 hc g4 => ri_met hF hM2 hok hns g5 hc g4 hw9) hM0 hcs hM hcur hw9 hfr hS hdR hbR hcR hsR hl hret hthr (fun o2 rm hMet e1 e2 hR hcat hf => ?_)
      exact vx_runSN (As := As.map (ri_v ad)) ⟨hx, hb, hml, hown, hts⟩ hMet ⟨va_cnB M2.2.2.2.2.1 hts (ri_good hg ok2) rfl e1 e2 (hK.2.1 _ q1) (hts _ ok3) hdd hR, hts _ q2, trivial⟩ ⟨ri_blind _ _, fun U hU hW => hpre As U hU hW⟩ rfl hAl2 hlsz hst (lv_room (by rw [ri_cat_v]; exact hcat)) hd hf
    · obtain ⟨hok, idx, t, hs, r, rfl, rfl, hhl, hr1, hr2, q1, q2, q3⟩ := hkind
      obtain ⟨ok0, ok1, ok2, ok3, ok4, ok5⟩ := id hok
      have hdd : M2.1.cls ≠ "java/lang/invoke/MethodHandle" ∧ M2.1.cls ≠ "java/lang/invoke/VarHandle" ∧ (parseMethodDescriptor M2.1.desc).map (fun d => d.parameters.length) = some M2.2.2.2.2.1 := ⟨ok4.1, ok4.2, ok5⟩
      split at h
      · rename_i q rest2
        split at h
        · rename_i o ho
          rw [ri_nth_eq] at ho
          obtain ⟨ht, h2⟩ := ri_ok_eq h
          have ht2 : o.1 = t := Nat.eq_of_beq_eq_true ht
          refine ri_call_WH hF h2 hM2 (fun o2 g5 hc g4 => ri_met hF hM2 hok hns g5 hc g4 hw9) hhl hops hcs hM hcur hw9 hfr hS hdR hbR hcR hsR hl hret hthr (fun o2 rm hMet e1 e2 hR hcat hf => ?_)
          refine vx_runV (As := As.map (ri_v ad)) (b := ad q) (C := M2.1.cls) ⟨hx, hb, hml, hown, hts⟩ hMet ⟨callB_of M2.2.2.2.2.1 hts (ri_good hg ok2) rfl e1 e2 (hts _ ok3) (hts _ q1) hdd hR, hts _ q2, hts _ q3⟩ ⟨ri_blind _ _, ?_, fun U hU hW => hpre (.ref q :: As) U hU hW⟩ rfl hAl2 hlsz hst (lv_room (by rw [ri_cat_v]; exact hcat)) hd hf
          obtain ⟨r9, g1, cell, g2, g3, g4, g5⟩ := hP q _ ho
          refine ⟨cell, g2, by rw [g4]; rfl, ?_⟩
          have hk := (hK.1.1 t r hr1).2.1
          rw [← hr2, hk, g3, ht2]
        · cases h
      · cases h
    · obtain ⟨hM0, hok, idx, rfl, q1, q2⟩ := hkind
      obtain ⟨ok1, ok2, ok3, ok4, ok5⟩ := id hok
      refine ri_call_W hF h hM2 (fun o2 g5 hc g4 => ri_metH hF hM2 hok hns g5 hc g4 hw9) hM0 hcs hM hcur hw9 hfr hS hdR hbR hcR hsR hl hret hthr (fun o2 rm hMet e1 e2 hR hcat hf => ?_)
      have hG := ri_good hg ok2
      have hcd : Jvm.Cond.codeWith M2.1 M2.2.1 M2.2.2.1 M2.2.2.2.1 (hh M2.1) ∈ (Jvm.Cond.codeWith M2.1 M2.2.1 M2.2.2.1 M2.2.2.2.1 (hh M2.1) :: WG) := List.mem_cons_self
      exact vx_runSX (As := As.map (ri_v ad)) (hh := hh M2.1) (bytes := M2.2.1) (maxL := M2.2.2.1) (ret := M2.2.2.2.1) ⟨hx, hb, hml, hown, hts⟩ hMet ⟨⟨e1, e2, hR.1, hR.2, pay_in hts hG, hcd⟩, hts _ ok2, hts _ ok3, ok4, fun sig hsig => by rw [hsig] at ok5; exact (Option.some.inj ok5).symm, hts _ q1, hts _ q2⟩ ⟨ri_blind _ _, fun U hU hW => hpre As U hU hW⟩ rfl hAl2 hlsz hst (lv_room (by rw [ri_cat_v]; exact hcat)) hd hf
    · cases h
  · cases h
end
end RIC2
end
section
/-! ===== the reckoner, part 11: all steps, all runs ===== -/
section RIZ
variable {WG : List Jvm.Cond} {hh : MethodName → List (Nat × Nat × Nat × Nat)} {NW : List ri_N} {CW : List ri_C9} {NC : List (String × String)} {AO : List FieldType} {cl : List vw_C} {Ms : List ri_M} {ty : Nat → Nat → FieldType} {df : Nat → List Value} {tyL : List FieldType} {exl : Nat → Nat} {exn : Nat → String} {xs : Nat → Value} {L : Nat} {al : Nat → Bool} {orc : List (Bool ⊕ Int32)} {D : va_G} {ad : Nat → Nat} {cA : Nat → ClassId}
theorem ri_next_in {M : ri_M} {nxt : List ri_Op} {ts : List Nat} {j : Nat} (h : ∀ o ∈ nxt, o ∈ M.2.2.2.2.2) : ∀ o ∈ ri_next M nxt ts j, o ∈ M.2.2.2.2.2 := by
  intro o ho
  cases j with
  | zero => exact h o ho
  | succ k =>
    have ho2 : o ∈ (match ri_nth ts k with | some t => ri_drop M.2.2.2.2.2 t | none => []) := ho
    cases hk : ri_nth ts k with
    | none => rw [hk] at ho2; cases ho2
    | some t =>
      rw [hk] at ho2
      have ho3 : o ∈ ri_drop M.2.2.2.2.2 t := ho2
      rw [ri_drop_eq] at ho3
      exact List.mem_of_mem_drop ho3
/-- the end of a method: by which instruction, and what it leaves -/
theorem ri_ret_eq {M : ri_M} {i : Instr} {st : List Value} {w : List ri_E} {nc ns fr : Nat} {out : ri_Out} (h : ri_ret M i st w nc ns fr = some out) : ∃ r : Option Value, out = (.inl r, w, nc, ns, [], fr) ∧ st = r.toList ∧ ri_len i = 1 ∧ ∀ (cc : ByteArray) (pc : Nat), decode cc pc = .ok (i, 1) → ri_isret cc pc M.2.2.2.1 r := by
  unfold ri_ret at h
  split at h
  · split at h
    · obtain ⟨hb, h2⟩ := ri_ok_eq h
      refine ⟨none, (Option.some.inj h2).symm, rfl, rfl, fun cc pc hd => Or.inl ⟨rfl, ?_, hd⟩⟩
      cases hr : M.2.2.2.1 with
      | none => rfl
      | some t => rw [hr] at hb; cases hb
    · cases h
  · split at h
    · rename_i x
      obtain ⟨hb, h2⟩ := ri_ok_eq h
      refine ⟨some (.int x), (Option.some.inj h2).symm, rfl, rfl, fun cc pc hd => Or.inr (Or.inl ?_)⟩
      cases hr : M.2.2.2.1 with
      | none => rw [hr] at hb; cases hb
      | some t =>
        rw [hr] at hb
        exact ⟨x, t, rfl, rfl, (ri_fit_ok (ad := fun k => k) (v := .int x) hb).1, hd⟩
    · rename_i x
      obtain ⟨hb, h2⟩ := ri_ok_eq h
      refine ⟨some (.float x), (Option.some.inj h2).symm, rfl, rfl, fun cc pc hd => Or.inr (Or.inr (Or.inr (Or.inr (Or.inr ⟨x, rfl, ?_, hd⟩))))⟩
      cases hr : M.2.2.2.1 with
      | none => rw [hr] at hb; cases hb
      | some t => rw [hr] at hb; cases t <;> first | rfl | cases hb
    · cases h
  · split at h
    · rename_i x
      obtain ⟨hb, h2⟩ := ri_ok_eq h
      refine ⟨some (.long x), (Option.some.inj h2).symm, rfl, rfl, fun cc pc hd => Or.inr (Or.inr (Or.inl ?_))⟩
      cases hr : M.2.2.2.1 with
      | none => rw [hr] at hb; cases hb
      | some t =>
        rw [hr] at hb
        cases t <;> first | exact ⟨x, rfl, rfl, hd⟩ | cases hb
    · cases h
  · split at h
    · rename_i x
      obtain ⟨hb, h2⟩ := ri_ok_eq h
      refine ⟨some (.double x), (Option.some.inj h2).symm, rfl, rfl, fun cc pc hd => Or.inr (Or.inr (Or.inr (Or.inl ?_)))⟩
      cases hr : M.2.2.2.1 with
      | none => rw [hr] at hb; cases hb
      | some t =>
        rw [hr] at hb
        cases t <;> first | exact ⟨x, rfl, rfl, hd⟩ | cases hb
    · cases h
  · split at h
    · rename_i x
      obtain ⟨hb, h2⟩ := ri_ok_eq h
      refine ⟨some (.ref x), (Option.some.inj h2).symm, rfl, rfl, fun cc pc hd => Or.inr (Or.inr (Or.inr (Or.inr (Or.inl ?_))))⟩
      cases hr : M.2.2.2.1 with
      | none => rw [hr] at hb; cases hb
      | some t =>
        rw [hr] at hb
        cases t <;> first | exact ⟨x, _, rfl, rfl, Or.inl ⟨_, rfl⟩, hd⟩ | exact ⟨x, _, rfl, rfl, Or.inr ⟨_, rfl⟩, hd⟩ | cases hb
    · cases h
  · cases h
set_option maxHeartbeats 4000000 in
theorem ri_step_ok (hall : ri_all WG hh NW CW NC AO cl Ms ty df tyL exl exn) (hi9 : ri_inj ad) {l : Launch} (htr : l.stackTraces = false) {f : ri_K} (hF : ri_Snd WG hh NW CW NC AO cl Ms tyL exn xs L al D ad cA l f) :
    ri_Snd WG hh NW CW NC AO cl Ms tyL exn xs L al D ad cA l (fun d bud M cur pc lv st w nc ns fr => match cur with
      | o :: nxt => ri_ok (Nat.beq o.1 pc) (ri_exec Ms ty df tyL exl xs L al orc f d bud M nxt lv st w nc ns fr pc o.2.1 o.2.2.1 o.2.2.2.1 o.2.2.2.2.1 o.2.2.2.2.2.1 o.2.2.2.2.2.2)
      | [] => none) := by
  obtain ⟨hC, hdf, hgw, hops⟩ := id hall
  intro d bud M cur pc lv st w nc ns fr out h
  cases cur with
  | nil => cases h
  | cons o nxt =>
    obtain ⟨hpc, h1⟩ := ri_ok_eq h
    obtain ⟨pc0, κ, i, a, b, v, ts⟩ := o
    have hpc2 : pc0 = pc := Nat.eq_of_beq_eq_true hpc
    subst hpc2
    clear h hpc
    dsimp only at h1
    -- what an instruction's step gives, once its own row is found
    have go : ∀ {nxt2 : List ri_Op} {pc2 : Nat} {lv2 : ri_L} {st2 : List Value} {w2 : List ri_E} {nc2 ns2 fr2 : Nat}, f d bud M nxt2 pc2 lv2 st2 w2 nc2 ns2 fr2 = some out → nc ≤ nc2 → ns ≤ ns2 → (w.length ≤ 1000000 → w2.length ≤ 1000000) → nc ≤ out.2.2.1 ∧ ns ≤ out.2.2.2.1 ∧ (w.length ≤ 1000000 → out.2.1.length ≤ 1000000) := fun h2 h3 h4 h5 => by
      have k := (hF _ _ _ _ _ _ _ _ _ _ _ _ h2).1
      exact ⟨Nat.le_trans h3 k.1, Nat.le_trans h4 k.2.1, fun q => k.2.2 (h5 q)⟩
    refine ⟨?_, ?_⟩
    · unfold ri_exec at h1
      split at h1
      · split at h1
        · exact go h1 (Nat.le_refl _) (Nat.le_refl _) (fun q => q)
        · cases h1
      · split at h1
        · exact go h1 (Nat.le_refl _) (Nat.le_refl _) (fun q => q)
        · cases h1
      · split at h1
        · rename_i z hz
          obtain ⟨q, fs, v9, -, -, -, -, e9⟩ := ri_putf_eq (st' := z.1) (w' := z.2) hz
          exact go h1 (Nat.le_refl _) (Nat.le_refl _) (fun q => by rw [e9, List.length_set]; exact q)
        · cases h1
      · exact go h1 (Nat.le_refl _) (Nat.le_refl _) (fun q => q)
      · exact ri_call_mono hF h1
      -- 5 .. 15
      · split at h1
        · exact go h1 (Nat.le_refl _) (Nat.le_refl _) (fun q => q)
        · cases h1
      · split at h1
        · rename_i z hz
          obtain ⟨i9, q, t, vs, x, v9, t9, -, -, -, -, -, -, e9⟩ := ri_ast_eq (st' := z.1) (w' := z.2) hz
          exact go h1 (Nat.le_refl _) (Nat.le_refl _) (fun q => by rw [e9, List.length_set]; exact q)
        · cases h1
      · split at h1
        · exact go h1 (Nat.le_refl _) (Nat.le_refl _) (fun q => q)
        · cases h1
      · split at h1
        · rename_i z hz
          obtain ⟨i9, q, t, vs, x, v9, t9, -, -, -, -, -, -, e9⟩ := ri_ast_eq (st' := z.1) (w' := z.2) hz
          exact go h1 (Nat.le_refl _) (Nat.le_refl _) (fun q => by rw [e9, List.length_set]; exact q)
        · cases h1
      · split at h1
        · exact go h1 (Nat.le_refl _) (Nat.le_refl _) (fun q => q)
        · cases h1
      · split at h1
        · rename_i z hz
          obtain ⟨i9, q, t, vs, x, v9, t9, -, -, -, -, -, -, e9⟩ := ri_ast_eq (st' := z.1) (w' := z.2) hz
          exact go h1 (Nat.le_refl _) (Nat.le_refl _) (fun q => by rw [e9, List.length_set]; exact q)
        · cases h1
      · split at h1
        · exact go h1 (Nat.le_refl _) (Nat.le_refl _) (fun q => q)
        · cases h1
      · split at h1
        · exact go h1 (Nat.le_refl _) (Nat.le_refl _) (fun q => q)
        · cases h1
      · split at h1
        · rename_i z hz
          obtain ⟨i9, q, t, vs, x, v9, t9, -, -, -, -, -, -, e9⟩ := ri_ast_eq (st' := z.1) (w' := z.2) hz
          exact go h1 (Nat.le_refl _) (Nat.le_refl _) (fun q => by rw [e9, List.length_set]; exact q)
        · cases h1
      · split at h1
        · rename_i z hz
          obtain ⟨v9, q, i9, vs, fs, -, -, -, -, -, e9⟩ := ri_aast_eq (st' := z.1) (w' := z.2) hz
          exact go h1 (Nat.le_refl _) (Nat.le_refl _) (fun q => by rw [e9, List.length_set]; exact q)
        · cases h1
      · split at h1
        · exact go h1 (Nat.le_refl _) (Nat.le_refl _) (fun q => q)
        · cases h1
      -- 16 .. 25
      · obtain ⟨r, rfl, -, -, -⟩ := ri_ret_eq h1
        exact ⟨Nat.le_refl _, Nat.le_refl _, fun q => q⟩
      · cases hcc : ri_conc a st with
        | true =>
          rw [hcc, cond_true] at h1
          split at h1
          · exact go h1 (Nat.le_refl _) (Nat.le_refl _) (fun q => q)
          · cases h1
        | false =>
          rw [hcc, cond_false] at h1
          split at h1
          · obtain ⟨z9, h2, rfl⟩ := ri_more_eq h1
            exact (hF _ _ _ _ _ _ _ _ _ _ _ _ h2).1
          · cases h1
      · obtain ⟨hb, h2⟩ := ri_ok_eq h1
        have hb2 : w.length + 1 ≤ 1000000 := Nat.le_of_ble_eq_true (Bool.and_eq_true _ _ ▸ hb : al w.length = true ∧ Nat.blt w.length 1000000 = true).2
        exact go h2 (Nat.le_add_right _ _) (Nat.le_add_right _ _) (fun _ => by rw [List.length_append]; exact hb2)
      · obtain ⟨hb, h2⟩ := ri_ok_eq h1
        have hb2 : w.length + 1 ≤ 1000000 := Nat.le_of_ble_eq_true (Bool.and_eq_true _ _ ▸ hb : al w.length = true ∧ Nat.blt w.length 1000000 = true).2
        split at h2
        · rename_i z hz
          obtain ⟨n9, r9, -, -, -, -, -, e9⟩ := ri_newa_eq (N := z.1) (st' := z.2.1) (w' := z.2.2) hz
          exact go h2 (Nat.le_add_right _ _) (Nat.le_add_right _ _) (fun _ => by rw [e9, List.length_append]; exact hb2)
        · cases h2
      · obtain ⟨hb, h2⟩ := ri_ok_eq h1
        have hb2 : w.length + 1 ≤ 1000000 := Nat.le_of_ble_eq_true (Bool.and_eq_true _ _ ▸ hb : al w.length = true ∧ Nat.blt w.length 1000000 = true).2
        split at h2
        · rename_i z hz
          obtain ⟨n9, r9, -, -, -, -, -, e9⟩ := ri_newa_eq (N := z.1) (st' := z.2.1) (w' := z.2.2) hz
          exact go h2 (Nat.le_add_right _ _) (Nat.le_add_right _ _) (fun _ => by rw [e9, List.length_append]; exact hb2)
        · cases h2
      · split at h1
        · exact go (ri_ok_eq h1).2 (Nat.le_refl _) (Nat.le_refl _) (fun q => q)
        · cases h1
      · obtain ⟨hb, h2⟩ := ri_ok_eq h1
        split at h2
        · rename_i z hz
          obtain ⟨n, dp, sp, q1, q0, t0, v0, v1, t, -, -, -, -, -, -, -, -, -, -, -, -, e9⟩ := ri_acopy_eq (st' := z.1) (w' := z.2) hz
          exact go h2 (Nat.le_refl _) (Nat.le_refl _) (fun q => by rw [e9, List.length_set]; exact q)
        · cases h2
      · have h2 := Option.some.inj (ri_ok_eq h1).2
        subst h2
        exact ⟨Nat.le_add_right _ _, Nat.le_add_right _ _, fun q => q⟩
      · split at h1
        · exact go (ri_ok_eq h1).2 (Nat.le_refl _) (Nat.le_refl _) (fun q => q)
        · cases h1
      · split at h1
        · exact go (ri_ok_eq h1).2 (Nat.le_refl _) (Nat.le_refl _) (fun q => q)
        · cases h1
      · obtain ⟨-, h2⟩ := ri_ok_eq h1
        split at h2
        · obtain ⟨b1, h3⟩ := ri_ok_eq h2
          exact go h3 (Nat.le_add_right _ _) (Nat.le_add_right _ _) (fun _ => Nat.le_of_ble_eq_true b1)
        · cases h2
      · cases hcc : ri_conc 1 st with
        | true =>
          rw [hcc, cond_true] at h1
          split at h1
          · rename_i z hz
            obtain ⟨i9, q, t, vs, x, v9, t9, -, -, -, -, -, -, e9⟩ := ri_ast_eq (st' := z.1) (w' := z.2) hz
            exact go h1 (Nat.le_refl _) (Nat.le_refl _) (fun q => by rw [e9, List.length_set]; exact q)
          · cases h1
        | false =>
          rw [hcc, cond_false] at h1
          split at h1
          · rename_i z hz
            obtain ⟨i9, q, t, vs, x, v9, t9, -, -, -, -, -, -, e9⟩ := ri_ast_eq (st' := z.1) (w' := z.2) hz
            obtain ⟨z9, h2, rfl⟩ := ri_more_eq h1
            have hm := (hF _ _ _ _ _ _ _ _ _ _ _ _ h2).1
            exact ⟨hm.1, hm.2.1, fun q => hm.2.2 (by rw [e9, List.length_set]; exact q)⟩
          · cases h1
      · split at h1
        · split at h1
          · split at h1
            · obtain ⟨z9, h2, rfl⟩ := ri_more_eq h1
              exact (hF _ _ _ _ _ _ _ _ _ _ _ _ h2).1
            · cases h1
          · cases h1
        · cases h1
      · cases h1
    · intro hcs hM hcur hw9 p e R s m args below meth c H locs ls Q hfr hP hS hn hdR hbR hcR hsR hl hret hthr
      obtain ⟨hx, hb, hml, hown, hname, hr, hlocks, hnt, hts, hK, hsc⟩ := id hfr
      obtain ⟨y9, hM9⟩ := id hM
      obtain ⟨⟨len, hd, hlen⟩, hlk⟩ := hops y9 M hM9 _ (hcur _ List.mem_cons_self)
      dsimp only at hd hlen hlk
      have hcur2 : ∀ o ∈ nxt, o ∈ M.2.2.2.2.2 := fun o ho => hcur o (List.mem_cons_of_mem _ ho)
      have go2 : ∀ {nxt2 : List ri_Op} {pc2 : Nat} {lv2 : ri_L} {st2 : List Value} {w2 : List ri_E} {nc2 ns2 fr2 : Nat}, f d bud M nxt2 pc2 lv2 st2 w2 nc2 ns2 fr2 = some out → (∀ o ∈ nxt2, o ∈ M.2.2.2.2.2) → w2.length ≤ 1000000 → ∀ (H1 : Heap) (locs1 : List Loc) (ls1 : Array Slot), ri_P D cl ad cA w2 H1 → va_S (ri_A ad) s.heap H1 locs1 → (al w2.length = true → ri_nx ad w2.length H1.size) → lv_has ls1 M.2.2.1 (ri_lr ad lv2) → W p l e R s m args below meth c H1 locs1 nc2 ns2 Q (F0 m pc2 ls1 (st2.map (ri_v ad))) := fun h2 h3 h4 H1 locs1 ls1 a1 a2 a3 a4 => (hF _ _ _ _ _ _ _ _ _ _ _ _ h2).2 hcs hM h3 h4 p e R s m args below meth c H1 locs1 ls1 Q hfr a1 a2 a3 hdR hbR hcR hsR a4 hret hthr
      unfold ri_exec at h1
      split at h1
      · split at h1
        · rename_i z hz
          exact ri_pure_ok (j := z.1) (p' := z.2.1) (lv' := z.2.2.1) (st' := z.2.2.2) hx hb hd hlen hl hz (fun ls2 hl2 => go2 h1 (ri_next_in hcur2) hw9 H locs ls2 hP hS hn hl2)
        · cases h1
      · obtain ⟨idx, r, rfl, q1, q2, q3⟩ := hlk
        have hd3 : decode M.2.1 pc0 = .ok (.getfield idx, 3) := by rw [hd]; exact congrArg (fun z => Except.ok (Instr.getfield idx, z)) (hlen.resolve_left (fun q => by cases q)).symm
        split at h1
        · rename_i st2 hz
          exact ri_getf_ok hx hb hown hts hK.1 hC hP q1 q2 q3 hd3 hz (go2 h1 hcur2 hw9 H locs ls hP hS hn hl)
        · cases h1
      · obtain ⟨idx, r, rfl, q1, q2, q3, q4⟩ := hlk
        have hd3 : decode M.2.1 pc0 = .ok (.putfield idx, 3) := by rw [hd]; exact congrArg (fun z => Except.ok (Instr.putfield idx, z)) (hlen.resolve_left (fun q => by cases q)).symm
        split at h1
        · rename_i z hz
          have hl9 : z.2.length = w.length := by
            obtain ⟨q, fs, v9, -, -, -, -, e9⟩ := ri_putf_eq (st' := z.1) (w' := z.2) hz
            rw [e9, List.length_set]
          exact ri_putf_ok hx hb hown hts hK.1 hC hP hw9 hi9 hS q1 q2 q3 (by rw [hname]; exact q4) hd3 (st' := z.1) (w' := z.2) hz (fun H1 locs1 a1 a2 a3 => go2 h1 hcur2 (by rw [hl9]; exact hw9) H1 locs1 ls a1 a2 (fun g => by rw [hl9] at g ⊢; rw [a3]; exact hn g) hl)
        · cases h1
      · rcases hlk with ⟨idx, x, rfl, rfl, q1⟩ | ⟨idx, x, rfl, rfl, q1⟩ | ⟨idx, x, rfl, rfl, q1⟩ | ⟨idx, x, rfl, rfl, q1⟩
        · have hd3 : decode M.2.1 pc0 = .ok (.ldc idx, 2) := by rw [hd]; exact congrArg (fun z => Except.ok (Instr.ldc idx, z)) (hlen.resolve_left (fun q => by cases q)).symm
          exact lv_ldc hx hb hown (hts _ q1) hd3 (go2 h1 hcur2 hw9 H locs ls hP hS hn hl)
        · have hd3 : decode M.2.1 pc0 = .ok (.ldc_w idx, 3) := by rw [hd]; exact congrArg (fun z => Except.ok (Instr.ldc_w idx, z)) (hlen.resolve_left (fun q => by cases q)).symm
          exact lv_ldcw hx hb hown (hts _ q1) hd3 (go2 h1 hcur2 hw9 H locs ls hP hS hn hl)
        · have hd3 : decode M.2.1 pc0 = .ok (.ldc2_w idx, 3) := by rw [hd]; exact congrArg (fun z => Except.ok (Instr.ldc2_w idx, z)) (hlen.resolve_left (fun q => by cases q)).symm
          exact lv_ldc2 hx hb hown (hts _ q1) hd3 (go2 h1 hcur2 hw9 H locs ls hP hS hn hl)
        · have hd3 : decode M.2.1 pc0 = .ok (.ldc2_w idx, 3) := by rw [hd]; exact congrArg (fun z => Except.ok (Instr.ldc2_w idx, z)) (hlen.resolve_left (fun q => by cases q)).symm
          exact lv_ldc2d hx hb hown (hts _ q1) hd3 (go2 h1 hcur2 hw9 H locs ls hP hS hn hl)
      · have hlk2 : ri_clink WG hh NW CW NC cl Ms exn M pc0 i a b ts := hlk
        have hd3 : decode M.2.1 pc0 = .ok (i, 3) := by
          obtain ⟨M2, -, -, hkind⟩ := hlk
          have h3 : ri_len i = 3 := by
            split at hkind
            · obtain ⟨-, -, idx, t, r, rfl, -⟩ := hkind; rfl
            · obtain ⟨-, -, idx, rfl, -⟩ := hkind; rfl
            · obtain ⟨-, -, idx, rfl, -⟩ := hkind; rfl
            · obtain ⟨-, -, idx, host, rfl, -⟩ := hkind; rfl
            · obtain ⟨-, -, idx, host, rfl, -⟩ := hkind; rfl
            · obtain ⟨-, idx, t, hs, r, rfl, -⟩ := hkind; rfl
            · obtain ⟨-, -, idx, rfl, -⟩ := hkind; rfl
            · exact hkind.elim
          have h4 : ri_len i = len := hlen.resolve_left (by rw [h3]; decide)
          rw [hd, ← h4, h3]
        exact ri_call_ok hF hgw h1 hlk2 (fun o ho => (hops y9 M hM9 o ho).1) hd3 hcs hM hcur2 hw9 hfr hP hS hn hdR hbR hcR hsR hl hret hthr
      · have e0 : i = .iaload := hlk
        subst e0
        have hd3 : decode M.2.1 pc0 = .ok (Instr.iaload, 1) := by rw [hd]; exact congrArg (fun z => Except.ok (Instr.iaload, z)) (hlen.resolve_left (fun q => by cases q)).symm
        split at h1
        · rename_i st2 hz
          exact ri_iald_ok hx hb hK.1 hP hd3 hz (go2 h1 hcur2 hw9 H locs ls hP hS hn hl)
        · cases h1
      · have e0 : i = .iastore := hlk
        subst e0
        have hd3 : decode M.2.1 pc0 = .ok (Instr.iastore, 1) := by rw [hd]; exact congrArg (fun z => Except.ok (Instr.iastore, z)) (hlen.resolve_left (fun q => by cases q)).symm
        split at h1
        · rename_i z hz
          have hl9 : z.2.length = w.length := by
            obtain ⟨i9, q, t, vs, x, v9, t9, -, -, -, -, -, -, e9⟩ := ri_ast_eq (st' := z.1) (w' := z.2) hz
            rw [e9, List.length_set]
          exact ri_iast_ok hx hb hK.1 hP hw9 hi9 hS hd3 (st' := z.1) (w' := z.2) hz (fun H1 locs1 a1 a2 a3 => go2 h1 hcur2 (by rw [hl9]; exact hw9) H1 locs1 ls a1 a2 (fun g => by rw [hl9] at g ⊢; rw [a3]; exact hn g) hl)
        · cases h1
      · have e0 : i = .laload := hlk
        subst e0
        have hd3 : decode M.2.1 pc0 = .ok (Instr.laload, 1) := by rw [hd]; exact congrArg (fun z => Except.ok (Instr.laload, z)) (hlen.resolve_left (fun q => by cases q)).symm
        split at h1
        · rename_i st2 hz
          exact ri_lald_ok hx hb hK.1 hP hd3 hz (go2 h1 hcur2 hw9 H locs ls hP hS hn hl)
        · cases h1
      · have e0 : i = .lastore := hlk
        subst e0
        have hd3 : decode M.2.1 pc0 = .ok (Instr.lastore, 1) := by rw [hd]; exact congrArg (fun z => Except.ok (Instr.lastore, z)) (hlen.resolve_left (fun q => by cases q)).symm
        split at h1
        · rename_i z hz
          have hl9 : z.2.length = w.length := by
            obtain ⟨i9, q, t, vs, x, v9, t9, -, -, -, -, -, -, e9⟩ := ri_ast_eq (st' := z.1) (w' := z.2) hz
            rw [e9, List.length_set]
          exact ri_last_ok hx hb hK.1 hP hw9 hi9 hS hd3 (st' := z.1) (w' := z.2) hz (fun H1 locs1 a1 a2 a3 => go2 h1 hcur2 (by rw [hl9]; exact hw9) H1 locs1 ls a1 a2 (fun g => by rw [hl9] at g ⊢; rw [a3]; exact hn g) hl)
        · cases h1
      · have e0 : i = .daload := hlk
        subst e0
        have hd3 : decode M.2.1 pc0 = .ok (Instr.daload, 1) := by rw [hd]; exact congrArg (fun z => Except.ok (Instr.daload, z)) (hlen.resolve_left (fun q => by cases q)).symm
        split at h1
        · rename_i st2 hz
          exact ri_dald_ok hx hb hK.1 hP hd3 hz (go2 h1 hcur2 hw9 H locs ls hP hS hn hl)
        · cases h1
      · have e0 : i = .dastore := hlk
        subst e0
        have hd3 : decode M.2.1 pc0 = .ok (Instr.dastore, 1) := by rw [hd]; exact congrArg (fun z => Except.ok (Instr.dastore, z)) (hlen.resolve_left (fun q => by cases q)).symm
        split at h1
        · rename_i z hz
          have hl9 : z.2.length = w.length := by
            obtain ⟨i9, q, t, vs, x, v9, t9, -, -, -, -, -, -, e9⟩ := ri_ast_eq (st' := z.1) (w' := z.2) hz
            rw [e9, List.length_set]
          exact ri_dast_ok hx hb hK.1 hP hw9 hi9 hS hd3 (st' := z.1) (w' := z.2) hz (fun H1 locs1 a1 a2 a3 => go2 h1 hcur2 (by rw [hl9]; exact hw9) H1 locs1 ls a1 a2 (fun g => by rw [hl9] at g ⊢; rw [a3]; exact hn g) hl)
        · cases h1
      · have e0 : i = .aaload := hlk
        subst e0
        have hd3 : decode M.2.1 pc0 = .ok (Instr.aaload, 1) := by rw [hd]; exact congrArg (fun z => Except.ok (Instr.aaload, z)) (hlen.resolve_left (fun q => by cases q)).symm
        split at h1
        · rename_i st2 hz
          exact ri_aald_ok hx hb hK.1 hP hd3 hz (go2 h1 hcur2 hw9 H locs ls hP hS hn hl)
        · cases h1
      · have e0 : i = .baload := hlk
        subst e0
        have hd3 : decode M.2.1 pc0 = .ok (Instr.baload, 1) := by rw [hd]; exact congrArg (fun z => Except.ok (Instr.baload, z)) (hlen.resolve_left (fun q => by cases q)).symm
        split at h1
        · rename_i st2 hz
          exact ri_bald_ok hx hb hK.1 hP hd3 hz (go2 h1 hcur2 hw9 H locs ls hP hS hn hl)
        · cases h1
      · have e0 : i = .bastore := hlk
        subst e0
        have hd3 : decode M.2.1 pc0 = .ok (Instr.bastore, 1) := by rw [hd]; exact congrArg (fun z => Except.ok (Instr.bastore, z)) (hlen.resolve_left (fun q => by cases q)).symm
        split at h1
        · rename_i z hz
          have hl9 : z.2.length = w.length := by
            obtain ⟨i9, q, t, vs, x, v9, t9, -, -, -, -, -, -, e9⟩ := ri_ast_eq (st' := z.1) (w' := z.2) hz
            rw [e9, List.length_set]
          exact ri_bast_ok hx hb hK.1 hP hw9 hi9 hS hd3 (st' := z.1) (w' := z.2) hz (fun H1 locs1 a1 a2 a3 => go2 h1 hcur2 (by rw [hl9]; exact hw9) H1 locs1 ls a1 a2 (fun g => by rw [hl9] at g ⊢; rw [a3]; exact hn g) hl)
        · cases h1
      · obtain ⟨r, rfl, q1, q2⟩ := hlk
        have hd3 : decode M.2.1 pc0 = .ok (Instr.aastore, 1) := by rw [hd]; exact congrArg (fun z => Except.ok (Instr.aastore, z)) (hlen.resolve_left (fun q => by cases q)).symm
        split at h1
        · rename_i z hz
          have hl9 : z.2.length = w.length := by
            obtain ⟨v9, q, i9, vs, fs, -, -, -, -, -, e9⟩ := ri_aast_eq (st' := z.1) (w' := z.2) hz
            rw [e9, List.length_set]
          exact ri_aast_ok hx hb hK.1 hP hw9 hi9 hS q1 q2 hd3 (st' := z.1) (w' := z.2) hz (fun H1 locs1 a1 a2 a3 => go2 h1 hcur2 (by rw [hl9]; exact hw9) H1 locs1 ls a1 a2 (fun g => by rw [hl9] at g ⊢; rw [a3]; exact hn g) hl)
        · cases h1
      · have e0 : i = .arraylength := hlk
        subst e0
        have hd3 : decode M.2.1 pc0 = .ok (Instr.arraylength, 1) := by rw [hd]; exact congrArg (fun z => Except.ok (Instr.arraylength, z)) (hlen.resolve_left (fun q => by cases q)).symm
        split at h1
        · rename_i st2 hz
          exact ri_alen_ok hx hb hK.1 hP hd3 hz (go2 h1 hcur2 hw9 H locs ls hP hS hn hl)
        · cases h1
      · obtain ⟨r, rfl, rfl, hl1, hq⟩ := ri_ret_eq h1
        have hd3 : decode M.2.1 pc0 = .ok (i, 1) := by
          have h4 : ri_len i = len := hlen.resolve_left (by rw [hl1]; decide)
          rw [hd, ← h4, hl1]
        exact hret r rfl H locs ls pc0 hP hS hn (hq M.2.1 pc0 hd3)
      · cases hcc : ri_conc a st with
        | true =>
          rw [hcc, cond_true] at h1
          split at h1
          · rename_i z hz
            exact ri_pure_ok (j := z.1) (p' := z.2.1) (lv' := z.2.2.1) (st' := z.2.2.2) hx hb hd hlen hl hz (fun ls2 hl2 => go2 h1 (ri_next_in hcur2) hw9 H locs ls2 hP hS hn hl2)
          · cases h1
        | false =>
          rw [hcc, cond_false] at h1
          split at h1
          · rename_i z hz
            obtain ⟨z9, h2, rfl⟩ := ri_more_eq h1
            exact ri_sym_ok hx hb hd hlen hl hz (hcs _ (List.mem_append_left _ List.mem_cons_self)) (fun ls2 hl2 => (hF _ _ _ _ _ _ _ _ _ _ _ _ h2).2 (fun x hx => hcs x (List.mem_append_right _ hx)) hM (ri_next_in hcur2) hw9 p e R s m args below meth c H locs ls2 Q hfr hP hS hn hdR hbR hcR hsR hl2 hret hthr)
          · cases h1
      · obtain ⟨hb9, h2⟩ := ri_ok_eq h1
        obtain ⟨hal, hlt⟩ := (Bool.and_eq_true _ _ ▸ hb9 : al w.length = true ∧ Nat.blt w.length 1000000 = true)
        obtain ⟨idx, r, rfl, q1, q2, q3⟩ := hlk
        have hd3 : decode M.2.1 pc0 = .ok (Instr.new idx, 3) := by rw [hd]; exact congrArg (fun z => Except.ok (Instr.new idx, z)) (hlen.resolve_left (fun q => by cases q)).symm
        have hm := (hF _ _ _ _ _ _ _ _ _ _ _ _ h2).1
        refine ri_new_ok hx hb hown hts hK.1 hC hP hS (hn hal) (Nat.le_of_ble_eq_true hlt) q1 q2 q3 (fs := df a) (fun j hj => hdf a r q1 j (by rw [q2]; exact hj)) (Nat.le_trans hm.1 hcR) (Nat.le_trans hm.2.1 hsR) hd3 (fun H1 a1 a2 a3 => go2 h2 hcur2 (by rw [List.length_append]; exact Nat.le_of_ble_eq_true hlt) H1 locs ls a1 a2 (fun _ => a3) hl)
      · obtain ⟨hb9, h2⟩ := ri_ok_eq h1
        obtain ⟨hal, hlt⟩ := (Bool.and_eq_true _ _ ▸ hb9 : al w.length = true ∧ Nat.blt w.length 1000000 = true)
        obtain ⟨atype, t9, rfl, q1, q2, qf, q3, rfl⟩ := hlk
        have hd3 : decode M.2.1 pc0 = .ok (Instr.newarray atype, 2) := by rw [hd]; exact congrArg (fun z => Except.ok (Instr.newarray atype, z)) (hlen.resolve_left (fun q => by cases q)).symm
        split at h2
        · rename_i z hz
          have hm := (hF _ _ _ _ _ _ _ _ _ _ _ _ h2).1
          have hl9 : z.2.2.length = w.length + 1 := by
            obtain ⟨n9, r9, -, -, -, -, -, e9⟩ := ri_newa_eq (N := z.1) (st' := z.2.1) (w' := z.2.2) hz
            rw [e9, List.length_append]; rfl
          exact ri_newa_ok (N := z.1) (st' := z.2.1) (w' := z.2.2) hx hb hts hK.1 hP hS (hn hal) (Nat.le_of_ble_eq_true hlt) q1 q2 qf q3 (Nat.le_trans hm.1 hcR) (Nat.le_trans hm.2.1 hsR) hd3 hz (fun H1 a1 a2 a3 => go2 h2 hcur2 (by rw [hl9]; exact Nat.le_of_ble_eq_true hlt) H1 locs ls a1 a2 (fun _ => a3) hl)
        · cases h2
      · obtain ⟨hb9, h2⟩ := ri_ok_eq h1
        obtain ⟨hal, hlt⟩ := (Bool.and_eq_true _ _ ▸ hb9 : al w.length = true ∧ Nat.blt w.length 1000000 = true)
        obtain ⟨idx, C, rfl, q1, q2, q3⟩ := hlk
        have hd3 : decode M.2.1 pc0 = .ok (Instr.anewarray idx, 3) := by rw [hd]; exact congrArg (fun z => Except.ok (Instr.anewarray idx, z)) (hlen.resolve_left (fun q => by cases q)).symm
        split at h2
        · rename_i z hz
          have hm := (hF _ _ _ _ _ _ _ _ _ _ _ _ h2).1
          have hl9 : z.2.2.length = w.length + 1 := by
            obtain ⟨n9, r9, -, -, -, -, -, e9⟩ := ri_newa_eq (N := z.1) (st' := z.2.1) (w' := z.2.2) hz
            rw [e9, List.length_append]; rfl
          exact ri_newq_ok (N := z.1) (st' := z.2.1) (w' := z.2.2) hx hb hown hts (hK.2.2.2.2.1 _ q3) hK.1 hP hS (hn hal) (Nat.le_of_ble_eq_true hlt) q1 q2 (Nat.le_trans hm.1 hcR) (Nat.le_trans hm.2.1 hsR) hd3 hz (fun H1 a1 a2 a3 => go2 h2 hcur2 (by rw [hl9]; exact Nat.le_of_ble_eq_true hlt) H1 locs ls a1 a2 (fun _ => a3) hl)
        · cases h2
      · split at h1
        · rename_i q r
          obtain ⟨hb9, h2⟩ := ri_ok_eq h1
          obtain ⟨b1, b2⟩ := (Bool.and_eq_true _ _ ▸ hb9 : Nat.ble 1 d = true ∧ Nat.ble (ri_cat r + 12) bud = true)
          obtain ⟨idx, rfl, q1, q2, q3⟩ := hlk
          have hd3 : decode M.2.1 pc0 = .ok (Instr.invokespecial idx, 3) := by rw [hd]; exact congrArg (fun z => Except.ok (Instr.invokespecial idx, z)) (hlen.resolve_left (fun q => by cases q)).symm
          refine W.objInit (rest := r.map (ri_v ad)) hx hb hown (hts _ q1) (hts _ q2) (hts _ q3) rfl (hl.1.trans hml.symm) rfl hd3 (Nat.le_trans (Nat.le_of_ble_eq_true b1) hdR) ?_ (go2 h2 hcur2 hw9 H locs ls hP hS hn hl)
          have b3 := Nat.le_of_ble_eq_true b2
          show 2 * 0 + ((r.map (ri_v ad)).map fun v => v.category).sum + 12 ≤ R.locals
          rw [ri_cat_v]
          omega
        · cases h1
      · obtain ⟨hb9, h2⟩ := ri_ok_eq h1
        obtain ⟨idx, rfl, q1, q2, q3, q4⟩ := hlk
        have hd3 : decode M.2.1 pc0 = .ok (Instr.invokestatic idx, 3) := by rw [hd]; exact congrArg (fun z => Except.ok (Instr.invokestatic idx, z)) (hlen.resolve_left (fun q => by cases q)).symm
        split at h2
        · rename_i z hz
          have hl9 : z.2.length = w.length := by
            obtain ⟨n, dp, sp, q1, q0, t0, v0, v1, t, -, -, -, -, -, -, -, -, -, -, -, -, e9⟩ := ri_acopy_eq (st' := z.1) (w' := z.2) hz
            rw [e9, List.length_set]
          exact ri_acopy_ok (st' := z.1) (w' := z.2) hx hb (hml.trans hl.1.symm) hown hts q1 q2 q3 q4 hK.1 hP hw9 hi9 hS (Nat.le_trans (Nat.le_of_ble_eq_true hb9) hdR) hbR hd3 hz (fun H1 locs1 a1 a2 a3 => go2 h2 hcur2 (by rw [hl9]; exact hw9) H1 locs1 ls a1 a2 (fun g => by rw [hl9] at g ⊢; rw [a3]; exact hn g) hl)
        · cases h2
      · obtain ⟨hb9, h2⟩ := ri_ok_eq h1
        obtain ⟨b1, b2⟩ := (Bool.and_eq_true _ _ ▸ hb9 : Nat.ble (exl a + 4) d = true ∧ Nat.ble (ri_cat st + (13 * (exl a + 1) + 42)) bud = true)
        have c1 := Nat.le_of_ble_eq_true b1
        have c2 := Nat.le_of_ble_eq_true b2
        have h3 := Option.some.inj h2
        subst h3
        obtain ⟨hM0, ik, ic, names, rfl, d3, d4, d7, hel, hfit, hfits, w1, w2, w3, w4⟩ := hlk
        have hd3 : decode M.2.1 pc0 = .ok (Instr.new ik, 3) := by rw [hd]; exact congrArg (fun z => Except.ok (Instr.new ik, z)) (hlen.resolve_left (fun q => by cases q)).symm
        obtain ⟨Qc, XC, rfl, hXC⟩ := hthr a rfl
        rw [hel] at c1 c2
        exact vx_throw0 hx hb htr hown hfit hfits (hts _ w1) (hts _ w2) (fun z hz => (w3 z hz).elim (fun q => hts _ q) (fun ⟨x, hx, q⟩ => by rw [q]; exact va_Nw.use (ri_cw_on x) (hK.2.2.1 x hx))) w4 hK.2.2.2.2.2.1 hK.2.2.2.2.2.2 hS (hl.1.trans hml.symm) hd3 d3 d4 d7 (fun z hz => by rw [hnt, hM0] at hz; cases hz) (by omega) (by rw [ri_cat_v]; omega) hcR hsR hlocks (fun t hvm hz hk => hXC t hvm (hP.keep hk) ⟨Nat.le_trans hS.1 hz, fun q g1 g2 => (hk q (Nat.lt_of_lt_of_le g1 hS.1)).trans (hS.2.1 q g1 g2)⟩) hS.2.2 (Nat.le_refl _) (Nat.le_refl _)
      · have e0 : i = .iaload := hlk
        subst e0
        have hd3 : decode M.2.1 pc0 = .ok (Instr.iaload, 1) := by rw [hd]; exact congrArg (fun z => Except.ok (Instr.iaload, z)) (hlen.resolve_left (fun q => by cases q)).symm
        obtain ⟨⟨xr, hxr, hX⟩, hbl, hbA⟩ := hsc ⟨_, hcur _ List.mem_cons_self, Or.inl rfl⟩
        split at h1
        · rename_i j q r
          obtain ⟨hb9, h2⟩ := ri_ok_eq h1
          simp only [Bool.and_eq_true] at hb9
          obtain ⟨b1, b2, b3⟩ := hb9
          have e1 : q = 1000000 := Nat.eq_of_beq_eq_true b1
          subst e1
          have c3 : j.toNatClampNeg + 1 ≤ L := Nat.le_of_ble_eq_true b3
          have c2 : ¬ j < 0 := by simpa using b2
          have e2 : F0 m (pc0 + 1) ls (.int (xr j.toNatClampNeg) :: r.map (ri_v ad)) = F0 m (pc0 + 1) ls ((xs j.toNatClampNeg :: r).map (ri_v ad)) := by
            rw [List.map_cons, hxr _ c3]
          exact va_sld hx hb hX hbl hbA hS (fun z => z.elim c2 (fun z => by omega)) hd3 (by have h9 := go2 h2 hcur2 hw9 H locs ls hP hS hn hl; rw [← e2] at h9; exact h9)
        · cases h1
      · have e0 : i = .arraylength := hlk
        subst e0
        have hd3 : decode M.2.1 pc0 = .ok (Instr.arraylength, 1) := by rw [hd]; exact congrArg (fun z => Except.ok (Instr.arraylength, z)) (hlen.resolve_left (fun q => by cases q)).symm
        obtain ⟨⟨xr, hxr, hX⟩, hbl, hbA⟩ := hsc ⟨_, hcur _ List.mem_cons_self, Or.inr rfl⟩
        split at h1
        · rename_i q r
          obtain ⟨hb9, h2⟩ := ri_ok_eq h1
          have e1 : q = 1000000 := Nat.eq_of_beq_eq_true hb9
          subst e1
          exact va_slen hx hb hX hbl hbA hS hd3 (go2 h2 hcur2 hw9 H locs ls hP hS hn hl)
        · cases h1
      · obtain ⟨hal, h2⟩ := ri_ok_eq h1
        obtain ⟨idx, rfl, q1, q2, q3, q4, q5⟩ := hlk
        have hd3 : decode M.2.1 pc0 = .ok (Instr.multianewarray idx 2, 4) := by rw [hd]; exact congrArg (fun z => Except.ok (Instr.multianewarray idx 2, z)) (hlen.resolve_left (fun q => by cases q)).symm
        split at h2
        · rename_i z hz
          obtain ⟨b1, h3⟩ := ri_ok_eq h2
          have hm := (hF _ _ _ _ _ _ _ _ _ _ _ _ h3).1
          exact ri_mna_ok (N := z.1) (K := z.2.1) (st' := z.2.2.1) (w' := z.2.2.2) hx hb hown hts (hK.2.2.2.2.1 _ q5) hK.1 hP hS (hn hal) (Nat.le_of_ble_eq_true b1) q1 q2 q3 q4 (Nat.le_trans hm.1 hcR) (Nat.le_trans hm.2.1 hsR) hd3 hz (fun H1 a1 a2 a3 => go2 h3 hcur2 (Nat.le_of_ble_eq_true b1) H1 locs ls a1 a2 (fun _ => a3) hl)
        · cases h2
      · have e0 : i = .bastore := hlk
        subst e0
        have hd3 : decode M.2.1 pc0 = .ok (Instr.bastore, 1) := by rw [hd]; exact congrArg (fun z => Except.ok (Instr.bastore, z)) (hlen.resolve_left (fun q => by cases q)).symm
        cases hcc : ri_conc 1 st with
        | true =>
          rw [hcc, cond_true] at h1
          split at h1
          · rename_i z hz
            have hl9 : z.2.length = w.length := by
              obtain ⟨i9, q, t, vs, x, v9, t9, -, -, -, -, -, -, e9⟩ := ri_ast_eq (st' := z.1) (w' := z.2) hz
              rw [e9, List.length_set]
            exact ri_bast_ok hx hb hK.1 hP hw9 hi9 hS hd3 (st' := z.1) (w' := z.2) hz (fun H1 locs1 a1 a2 a3 => go2 h1 hcur2 (by rw [hl9]; exact hw9) H1 locs1 ls a1 a2 (fun g => by rw [hl9] at g ⊢; rw [a3]; exact hn g) hl)
          · cases h1
        | false =>
          rw [hcc, cond_false] at h1
          split at h1
          · rename_i z hz
            have hl9 : z.2.length = w.length := by
              obtain ⟨i9, q, t, vs, x, v9, t9, -, -, -, -, -, -, e9⟩ := ri_ast_eq (st' := z.1) (w' := z.2) hz
              rw [e9, List.length_set]
            obtain ⟨z9, h2, rfl⟩ := ri_more_eq h1
            exact ri_bsy_ok hx hb hK.1 hP hw9 hi9 hS hd3 (st' := z.1) (w' := z.2) hz (hcs _ (List.mem_append_left _ List.mem_cons_self)) (fun H1 locs1 a1 a2 a3 => (hF _ _ _ _ _ _ _ _ _ _ _ _ h2).2 (fun x hx => hcs x (List.mem_append_right _ hx)) hM hcur2 (by rw [hl9]; exact hw9) p e R s m args below meth c H1 locs1 ls Q hfr a1 a2 (fun g => by rw [hl9] at g ⊢; rw [a3]; exact hn g) hdR hbR hcR hsR hl hret hthr)
          · cases h1
      · split at h1
        · rename_i z hz
          split at h1
          · rename_i g hg
            split at h1
            · rename_i t
              obtain ⟨z9, h2, rfl⟩ := ri_more_eq h1
              obtain ⟨x, y, r⟩ := z
              obtain ⟨q, q2, rfl, hxi, hq0, hgf, hal⟩ := ri_lc_eq hz
              obtain ⟨rfl, d1, ⟨idx, rr, d2, q1, q2', q3⟩, d5, d6, d7, off, t9, d8, ht, hoff⟩ := hlk
              cases ht
              have hsem := hcs _ (List.mem_append_left _ List.mem_cons_self)
              rw [List.map_cons, ri_isI_v hxi]
              refine ri_pure_ok (ad := ad) (j := 0) (p' := pc0 + 1) (lv' := lv) (st' := .long (ri_I ad x).toInt64 :: r) (st := .int (ri_I ad x) :: r) hx hb hd hlen hl rfl (fun ls1 hl1 => ?_)
              refine ri_pure_ok (ad := ad) (i := .aload_n 0) (len := 1) (j := 0) (p' := pc0 + 1 + 1) (lv' := lv) (st' := .ref q :: .long (ri_I ad x).toInt64 :: r) hx hb d1 (Or.inr rfl) hl1 (by show ri_gr (ri_get 0 lv) _ _ = _; rw [hq0]; rfl) (fun ls2 hl2 => ?_)
              refine ri_getf_ok (pc := pc0 + 2) hx hb hown hts hK.1 hC hP q1 q2' q3 d2 (hgf _) ?_
              refine ri_pure_ok (ad := ad) (i := .iconst 3) (len := 1) (pc := pc0 + 5) (j := 0) (p' := pc0 + 5 + 1) (lv' := lv) (st' := .int 3 :: .ref q2 :: .long (ri_I ad x).toInt64 :: r) hx hb d5 (Or.inr rfl) hl2 rfl (fun ls3 hl3 => ?_)
              refine ri_lald_ok (pc := pc0 + 6) hx hb hK.1 hP d6 (hal _) ?_
              refine ri_pure_ok (ad := ad) (i := .lcmp) (len := 1) (pc := pc0 + 7) (j := 0) (p' := pc0 + 7 + 1) (lv' := lv) (st' := .int (lg_cmp (ri_I ad x).toInt64 y) :: r) hx hb d7 (Or.inr rfl) hl3 rfl (fun ls4 hl4 => ?_)
              refine ri_if_ok (pc := pc0 + 8) (c9 := .lt) (off := off) (len := 3) (t := t) (b := g) hx hb d8 (Or.inr rfl) hoff hsem ?_
              exact (hF _ _ _ _ _ _ _ _ _ _ _ _ h2).2 (fun x hx => hcs x (List.mem_append_right _ hx)) hM (ri_next_in hcur2) hw9 p e R s m args below meth c H locs ls4 Q hfr hP hS hn hdR hbR hcR hsR hl4 hret hthr
            · cases h1
          · cases h1
        · cases h1
      · cases h1
/-- every reckoning holds of the machine -/
theorem ri_sound (hall : ri_all WG hh NW CW NC AO cl Ms ty df tyL exl exn) (hi9 : ri_inj ad) {l : Launch} (htr : l.stackTraces = false) : ∀ fuel : Nat, ri_Snd WG hh NW CW NC AO cl Ms tyL exn xs L al D ad cA l (ri_run Ms ty df tyL exl xs L al orc fuel)
  | 0 => fun d bud M cur pc lv st w nc ns fr out h => by cases h
  | n + 1 => ri_step_ok hall hi9 htr (ri_sound hall hi9 htr n)
end RIZ
end
section
/-! ===== the reckoner, part 12: a program that is right, by reckoning ===== -/
def ri_WG : List Jvm.Cond := lw_tbl.filter goodWord
/-- these words stand at these places of the tables, and are such as stay -/
def ri_has (ps : List Nat) (ws : List Jvm.Cond) : Bool := decide (ps.map (fun i => lw_tbl[i]?) = ws.map some) && ws.all goodWord
theorem ri_has_ok {ps : List Nat} {ws : List Jvm.Cond} (h : ri_has ps ws = true) : ∀ w ∈ ws, w ∈ ri_WG := by
  intro w hw
  obtain ⟨h1, h2⟩ := (Bool.and_eq_true _ _ ▸ h : decide (ps.map (fun i => lw_tbl[i]?) = ws.map some) = true ∧ ws.all goodWord = true)
  refine List.mem_filter.mpr ⟨?_, List.all_eq_true.mp h2 w hw⟩
  have h3 : some w ∈ ws.map some := List.mem_map.mpr ⟨w, hw, rfl⟩
  rw [← of_decide_eq_true h1] at h3
  obtain ⟨i, -, hi⟩ := List.mem_map.mp h3
  exact List.mem_of_getElem? hi
section RIV
variable (hh : MethodName → List (Nat × Nat × Nat × Nat)) (NW : List ri_N) (CW : List ri_C9) (NC : List (String × String)) (CN : List (String × Nat × String)) (AO : List FieldType) (cl : List vw_C) (Ms : List ri_M) (tyL : List FieldType) (exl : Nat → Nat) (exn : Nat → String)
def ri_mchkH (M2 : ri_M) : Bool := plainName M2.1.cls && (!decide (M2.1.cls = "java/lang/invoke/MethodHandle") && (!decide (M2.1.cls = "java/lang/invoke/VarHandle") && (decide ((parseMethodDescriptor M2.1.desc).map (fun d => d.parameters.length) = some M2.2.2.2.2.1) && M2.2.2.2.2.2.all (fun o => !Nat.beq o.2.1 24 && !Nat.beq o.2.1 25))))
def ri_mchk (M2 : ri_M) : Bool := decide (hh M2.1 = []) && ri_mchkH M2
theorem ri_mchkH_ok {M2 : ri_M} (h : ri_mchkH M2 = true) : plainName M2.1.cls = true ∧ (M2.1.cls ≠ "java/lang/invoke/MethodHandle" ∧ M2.1.cls ≠ "java/lang/invoke/VarHandle") ∧ (parseMethodDescriptor M2.1.desc).map (fun d => d.parameters.length) = some M2.2.2.2.2.1 ∧ ∀ o ∈ M2.2.2.2.2.2, o.2.1 ≠ 24 ∧ o.2.1 ≠ 25 := by
  unfold ri_mchkH at h
  simp only [Bool.and_eq_true] at h
  obtain ⟨a1, a2, a3, a4, a5⟩ := h
  refine ⟨a1, ⟨by simpa using a2, by simpa using a3⟩, of_decide_eq_true a4, fun o ho => ?_⟩
  have h5 := List.all_eq_true.mp a5 o ho
  simp only [Bool.and_eq_true, Bool.not_eq_true'] at h5
  exact ⟨fun q => by rw [q] at h5; exact absurd h5.1 (by decide), fun q => by rw [q] at h5; exact absurd h5.2 (by decide)⟩
theorem ri_mchk_ok {M2 : ri_M} (h : ri_mchk hh M2 = true) (h1 : Jvm.Cond.code M2.1 M2.2.1 M2.2.2.1 M2.2.2.2.1 ∈ ri_WG) (h2 : Jvm.Cond.initialized M2.1.cls ∈ ri_WG) : ri_mok ri_WG hh M2 ∧ ∀ o ∈ M2.2.2.2.2.2, o.2.1 ≠ 24 ∧ o.2.1 ≠ 25 := by
  obtain ⟨g1, g2⟩ := (Bool.and_eq_true _ _ ▸ h : decide (hh M2.1 = []) = true ∧ ri_mchkH M2 = true)
  obtain ⟨a1, a2, a3, a4⟩ := ri_mchkH_ok g2
  exact ⟨⟨of_decide_eq_true g1, a1, h1, h2, a2, a3⟩, a4⟩
/-- the row of a table that takes the exception E at pc to hp, and that the rows ahead don't -/
def ri_hrow (own : String) (E : String) (pc hp : Nat) : List ExceptionTableEntry → Bool
  | [] => false
  | z :: r => bif covers z pc && Nat.beq z.handlerPc hp then (!Nat.beq z.catchType 0 && decide ((own, z.catchType, E) ∈ CN))
    else (!covers z pc || (!Nat.beq z.catchType 0 && CN.any (fun c => decide (c.1 = own) && (decide (c.2.1 = z.catchType) && decide ((E, c.2.2) ∈ NC))))) && ri_hrow own E pc hp r
theorem ri_hrow_ok (hCN : ∀ c ∈ CN, Jvm.Cond.classLink c.1 c.2.1 c.2.2 ∈ ri_WG) {own E : String} {pc hp : Nat} : ∀ {rows : List ExceptionTableEntry}, ri_hrow NC CN own E pc hp rows = true → ∃ (pre : List ExceptionTableEntry) (z : ExceptionTableEntry) (suf : List ExceptionTableEntry), rows = pre ++ z :: suf ∧ z.handlerPc = hp ∧ covers z pc = true ∧ z.catchType ≠ 0 ∧ Jvm.Cond.classLink own z.catchType E ∈ ri_WG ∧ ∀ y ∈ pre, covers y pc = false ∨ (y.catchType ≠ 0 ∧ ∃ nm : String, Jvm.Cond.classLink own y.catchType nm ∈ ri_WG ∧ (E, nm) ∈ NC)
  | [], h => by cases h
  | z :: r, h => by
    have h0 : (bif covers z pc && Nat.beq z.handlerPc hp then (!Nat.beq z.catchType 0 && decide ((own, z.catchType, E) ∈ CN))
      else (!covers z pc || (!Nat.beq z.catchType 0 && CN.any (fun c => decide (c.1 = own) && (decide (c.2.1 = z.catchType) && decide ((E, c.2.2) ∈ NC))))) && ri_hrow NC CN own E pc hp r) = true := h
    have ne0 : ∀ {n : Nat}, (!Nat.beq n 0) = true → n ≠ 0 := fun q e => by rw [e] at q; cases q
    cases hc : (covers z pc && Nat.beq z.handlerPc hp) with
    | true =>
      rw [hc, cond_true, Bool.and_eq_true] at h0
      rw [Bool.and_eq_true] at hc
      exact ⟨[], z, r, rfl, Nat.eq_of_beq_eq_true hc.2, hc.1, ne0 h0.1, hCN _ (of_decide_eq_true h0.2), fun y hy => by cases hy⟩
    | false =>
      rw [hc, cond_false, Bool.and_eq_true] at h0
      obtain ⟨g1, g2⟩ := h0
      obtain ⟨pre, z9, suf, e1, e2, e3, e4, e5, e6⟩ := ri_hrow_ok hCN g2
      refine ⟨z :: pre, z9, suf, by rw [e1]; rfl, e2, e3, e4, e5, fun y hy => ?_⟩
      rcases List.mem_cons.mp hy with q | q
      · subst q
        rcases Bool.or_eq_true _ _ ▸ g1 with g3 | g3
        · refine Or.inl ?_
          cases hq : covers y pc with
          | false => rfl
          | true => rw [hq] at g3; cases g3
        · rw [Bool.and_eq_true] at g3
          obtain ⟨c, hc1, hc2⟩ := List.any_eq_true.mp g3.2
          simp only [Bool.and_eq_true, decide_eq_true_eq] at hc2
          exact Or.inr ⟨ne0 g3.1, c.2.2, by rw [← hc2.1, ← hc2.2.1]; exact hCN c hc1, hc2.2.2⟩
      · exact e6 y q
def ri_inC (E : String) : Bool := CW.any (fun c => match c with
  | .inl q => decide (q = (E, E))
  | .inr _ => false)
theorem ri_inC_ok {E : String} (h : ri_inC CW E = true) : (Sum.inl (E, E) : ri_C9) ∈ CW := by
  obtain ⟨c, h1, h2⟩ := List.any_eq_true.mp h
  cases c with
  | inl q =>
    have e : q = (E, E) := of_decide_eq_true h2
    rw [← e]
    exact h1
  | inr y => cases h2
/-- all that are listed are caught there -/
def ri_hchk (M : ri_M) (pc : Nat) : Nat → List Nat → Bool
  | _, [] => true
  | x, t :: hs => (match M.2.2.2.2.2.drop t with
    | oh :: _ => ri_inC CW (exn x) && ri_hrow NC CN M.1.cls (exn x) pc oh.1 (tableOf (hh M.1))
    | [] => true) && ri_hchk M pc (x + 1) hs
theorem ri_hchk_ok (hCN : ∀ c ∈ CN, Jvm.Cond.classLink c.1 c.2.1 c.2.2 ∈ ri_WG) {M : ri_M} {pc : Nat} : ∀ {hs : List Nat} {x0 : Nat}, ri_hchk hh CW NC CN exn M pc x0 hs = true → ∀ (x t : Nat) (oh : ri_Op) (nx : List ri_Op), hs[x]? = some t → M.2.2.2.2.2.drop t = oh :: nx → ∃ (pre : List ExceptionTableEntry) (z : ExceptionTableEntry) (suf : List ExceptionTableEntry), tableOf (hh M.1) = pre ++ z :: suf ∧ z.handlerPc = oh.1 ∧ covers z pc = true ∧ z.catchType ≠ 0 ∧ (∃ nm : String, Jvm.Cond.classLink M.1.cls z.catchType nm ∈ ri_WG ∧ (Sum.inl (exn (x0 + x), nm) : ri_C9) ∈ CW) ∧ ∀ y ∈ pre, covers y pc = false ∨ (y.catchType ≠ 0 ∧ ∃ nm : String, Jvm.Cond.classLink M.1.cls y.catchType nm ∈ ri_WG ∧ (exn (x0 + x), nm) ∈ NC)
  | [], _, _ => fun x t oh nx h => by cases h
  | t0 :: hs, x0, h => by
    have h0 : ((match M.2.2.2.2.2.drop t0 with
      | oh :: _ => ri_inC CW (exn x0) && ri_hrow NC CN M.1.cls (exn x0) pc oh.1 (tableOf (hh M.1))
      | [] => true) && ri_hchk hh CW NC CN exn M pc (x0 + 1) hs) = true := h
    rw [Bool.and_eq_true] at h0
    intro x t oh nx hx hd
    cases x with
    | zero =>
      cases hx
      have h1 := h0.1
      rw [hd] at h1
      rw [Bool.and_eq_true] at h1
      obtain ⟨pre, z, suf, e1, e2, e3, e4, e5, e6⟩ := ri_hrow_ok NC CN hCN h1.2
      exact ⟨pre, z, suf, e1, e2, e3, e4, ⟨_, e5, ri_inC_ok CW h1.1⟩, e6⟩
    | succ x =>
      have k := ri_hchk_ok hCN h0.2 x t oh nx hx hd
      rw [show x0 + 1 + x = x0 + (x + 1) by omega] at k
      exact k
/-- the words that an instruction's step asks for; none: it isn't such a step -/
noncomputable def ri_wd (M : ri_M) (pc κ : Nat) (i : Instr) (a b : Nat) (v : Value) (ts : List Nat) : Option (List Jvm.Cond) := match κ with
  | 0 => some []
  | 1 => (match i with
    | .getfield idx => (match cl[a]? with
      | some r => ri_ok (Nat.blt b r.2.2) (some [Jvm.Cond.fieldLink M.1.cls idx (r.2.1 b).1 (r.2.1 b).2.1 (r.2.1 b).2.2.1])
      | none => none)
    | _ => none)
  | 2 => (match i with
    | .putfield idx => (match cl[a]? with
      | some r => ri_ok (Nat.blt b r.2.2 && (!(r.2.1 b).2.2.2 || (decide (M.1.name = "<init>") && decide ((r.2.1 b).1 = M.1.cls)))) (some [Jvm.Cond.fieldLink M.1.cls idx (r.2.1 b).1 (r.2.1 b).2.1 (r.2.1 b).2.2.1])
      | none => none)
    | _ => none)
  | 3 => (match i with
    | .ldc idx => (match v with | .int x => some [Jvm.Cond.constant M.1.cls idx x] | _ => none)
    | .ldc_w idx => (match v with | .int x => some [Jvm.Cond.constant M.1.cls idx x] | _ => none)
    | .ldc2_w idx => (match v with | .long x => some [Jvm.Cond.constantLong M.1.cls idx x] | .double x => some [Jvm.Cond.constantDouble M.1.cls idx x] | _ => none)
    | _ => none)
  | 4 => (match Ms[a]? with
    | some M2 => (match b with
      | 0 => (match i with
        | .invokevirtual idx => (match ts with
          | [t] => (match cl[t]? with
            | some r => ri_ok (decide (hh M.1 = []) && (ri_mchk hh M2 && decide (r.1 = M2.1.cls))) (some [Jvm.Cond.code M2.1 M2.2.1 M2.2.2.1 M2.2.2.2.1, Jvm.Cond.initialized M2.1.cls, Jvm.Cond.methodLink M.1.cls idx M2.1, Jvm.Cond.instanceMethod M2.1, Jvm.Cond.selects M2.1.cls M2.1 M2.1])
            | none => none)
          | _ => none)
        | _ => none)
      | 1 => (match i with
        | .invokestatic idx => ri_ok (decide (hh M.1 = []) && ri_mchk hh M2) (some [Jvm.Cond.code M2.1 M2.2.1 M2.2.2.1 M2.2.2.2.1, Jvm.Cond.initialized M2.1.cls, Jvm.Cond.methodLink M.1.cls idx M2.1, Jvm.Cond.static M2.1])
        | _ => none)
      | 2 => (match i with
        | .invokespecial idx => ri_ok (decide (hh M.1 = []) && (ri_mchk hh M2 && (decide (M2.1.name = "<init>") && decide (M2.2.2.2.1 = none)))) (some [Jvm.Cond.code M2.1 M2.2.1 M2.2.2.1 M2.2.2.2.1, Jvm.Cond.initialized M2.1.cls, Jvm.Cond.methodLink M.1.cls idx M2.1, Jvm.Cond.instanceMethod M2.1])
        | _ => none)
      | 3 => (match i with
        | .invokespecial idx => ri_ok (decide (hh M.1 = []) && (ri_mchk hh M2 && (decide (M2.1.name = "<init>") && (decide (M2.2.2.2.1 = none) && NW.any (fun x => decide (x.1 = M.1.cls) && (decide (x.2.1 = idx) && decide (x.2.2.1 = M2.1))))))) (some [Jvm.Cond.code M2.1 M2.2.1 M2.2.2.1 M2.2.2.2.1, Jvm.Cond.initialized M2.1.cls, Jvm.Cond.instanceMethod M2.1])
        | _ => none)
      | 4 => (match i with
        | .invokestatic idx => ri_ok (decide (hh M.1 = []) && (ri_mchk hh M2 && NW.any (fun x => decide (x.1 = M.1.cls) && (decide (x.2.1 = idx) && decide (x.2.2.1 = M2.1))))) (some [Jvm.Cond.code M2.1 M2.2.1 M2.2.2.1 M2.2.2.2.1, Jvm.Cond.initialized M2.1.cls, Jvm.Cond.static M2.1])
        | _ => none)
      | 5 => (match i with
        | .invokevirtual idx => (match ts with
          | t :: hs => (match cl[t]? with
            | some r => ri_ok (ri_mchk hh M2 && (decide (r.1 = M2.1.cls) && ri_hchk hh CW NC CN exn M pc 0 hs)) (some [Jvm.Cond.code M2.1 M2.2.1 M2.2.2.1 M2.2.2.2.1, Jvm.Cond.initialized M2.1.cls, Jvm.Cond.methodLink M.1.cls idx M2.1, Jvm.Cond.instanceMethod M2.1, Jvm.Cond.selects M2.1.cls M2.1 M2.1])
            | none => none)
          | _ => none)
        | _ => none)
      | 6 => (match i with
        | .invokestatic idx => ri_ok (decide (hh M.1 = []) && ri_mchkH M2) (some [Jvm.Cond.codeWith M2.1 M2.2.1 M2.2.2.1 M2.2.2.2.1 (hh M2.1), Jvm.Cond.initialized M2.1.cls, Jvm.Cond.methodLink M.1.cls idx M2.1, Jvm.Cond.static M2.1])
        | _ => none)
      | _ => none)
    | none => none)
  | 5 => ri_ok (decide (i = .iaload)) (some [])
  | 6 => ri_ok (decide (i = .iastore)) (some [])
  | 7 => ri_ok (decide (i = .laload)) (some [])
  | 8 => ri_ok (decide (i = .lastore)) (some [])
  | 9 => ri_ok (decide (i = .daload)) (some [])
  | 10 => ri_ok (decide (i = .dastore)) (some [])
  | 11 => ri_ok (decide (i = .aaload)) (some [])
  | 12 => ri_ok (decide (i = .baload)) (some [])
  | 13 => ri_ok (decide (i = .bastore)) (some [])
  | 14 => (match cl[a]? with
    | some r => ri_ok (decide (i = .aastore) && decide (tyL[b]? = some (.object r.1))) (some [])
    | none => none)
  | 15 => ri_ok (decide (i = .arraylength)) (some [])
  | 16 => some []
  | 17 => some []
  | 18 => (match i with
    | .new idx => (match cl[a]? with
      | some r => ri_ok (Nat.beq r.2.2 b) (some [Jvm.Cond.classLink M.1.cls idx r.1])
      | none => none)
    | _ => none)
  | 19 => (match i with
    | .newarray t => (match tyL[a]? with
      | some t9 => ri_ok (decide (newarray.typeOf t = t9) && (!decide (t9 = .float) && decide (v = defaultValue t9))) (some [Jvm.Cond.arrayClass t9])
      | none => none)
    | _ => none)
  | 20 => (match i with
    | .anewarray idx => (match tyL[a]? with
      | some (.object C) => ri_ok (decide (FieldType.object C ∈ AO)) (some [Jvm.Cond.classLink M.1.cls idx C])
      | _ => none)
    | _ => none)
  | 21 => (match i with
    | .invokespecial idx => some [Jvm.Cond.methodLink M.1.cls idx Lib.objectInit, Jvm.Cond.instanceMethod Lib.objectInit, Jvm.Cond.code Lib.objectInit ⟨#[0xb1]⟩ 1 none]
    | _ => none)
  | 22 => (match i with
    | .invokestatic idx => some [Jvm.Cond.methodLink M.1.cls idx arraycopyName, Jvm.Cond.native arraycopyName, Jvm.Cond.static arraycopyName, Jvm.Cond.initialized "java/lang/System"]
    | _ => none)
  | 23 => none
  | 24 => ri_ok (decide (i = .iaload)) (some [])
  | 25 => ri_ok (decide (i = .arraylength)) (some [])
  | 26 => (match i with
    | .multianewarray idx 2 => ri_ok (decide (tyL[a]? = some .double) && (decide (tyL[b]? = some (.array .double)) && decide (FieldType.array .double ∈ AO))) (some [Jvm.Cond.classLink M.1.cls idx "[[D", Jvm.Cond.arrayClass .double])
    | _ => none)
  | 27 => ri_ok (decide (i = .bastore)) (some [])
  | 28 => (match decode M.2.1 (pc + 2) with
    | .ok (.getfield idx, 3) => (match cl[a]? with
      | some r => (match decode M.2.1 (pc + 8) with
        | .ok (.ifCond .lt off, 3) => (match v with
          | .ref t => ri_ok (decide (i = .i2l) && (decide (decode M.2.1 (pc + 1) = .ok (.aload_n 0, 1)) && (Nat.blt b r.2.2 && (decide (decode M.2.1 (pc + 5) = .ok (.iconst 3, 1)) && (decide (decode M.2.1 (pc + 6) = .ok (.laload, 1)) && (decide (decode M.2.1 (pc + 7) = .ok (.lcmp, 1)) && decide (((pc + 8 : Nat) : Int) + off = (t : Int)))))))) (some [Jvm.Cond.fieldLink M.1.cls idx (r.2.1 b).1 (r.2.1 b).2.1 (r.2.1 b).2.2.1])
          | _ => none)
        | _ => none)
      | none => none)
    | _ => none)
  | _ => some []
theorem ri_any_nw {M M2 : ri_M} {idx : Nat} (h : NW.any (fun x => decide (x.1 = M.1.cls) && (decide (x.2.1 = idx) && decide (x.2.2.1 = M2.1))) = true) : ∃ host : String, (M.1.cls, idx, M2.1, host) ∈ NW := by
  obtain ⟨x, hx, hq⟩ := List.any_eq_true.mp h
  simp only [Bool.and_eq_true, decide_eq_true_eq] at hq
  obtain ⟨x1, x2, x3, x4⟩ := x
  obtain ⟨e1, e2, e3⟩ := hq
  dsimp only at e1 e2 e3
  subst e1; subst e2; subst e3
  exact ⟨x4, hx⟩
end RIV
end
section
/-! ===== the reckoner, part 13: what the check gives ===== -/
section RIV2
variable {hh : MethodName → List (Nat × Nat × Nat × Nat)} {NW : List ri_N} {CW : List ri_C9} {NC : List (String × String)} {CN : List (String × Nat × String)} {AO : List FieldType} {cl : List vw_C} {Ms : List ri_M} {tyL : List FieldType} {exl : Nat → Nat} {exn : Nat → String}
theorem ri_wd_ok {M : ri_M} {pc κ : Nat} {i : Instr} {a b : Nat} {v : Value} {ts : List Nat} {ws : List Jvm.Cond} (hCN : ∀ c ∈ CN, Jvm.Cond.classLink c.1 c.2.1 c.2.2 ∈ ri_WG) (h : ri_wd hh NW CW NC CN AO cl Ms tyL exn M pc κ i a b v ts = some ws) (hw : ∀ w ∈ ws, w ∈ ri_WG) : ri_link ri_WG hh NW CW NC AO cl Ms tyL exl exn M pc κ i a b v ts := by
  unfold ri_wd at h
  split at h
  · trivial
  · split at h
    · rename_i idx
      split at h
      · rename_i r hr
        obtain ⟨h1, h2⟩ := ri_ok_eq h
        cases h2
        exact ⟨idx, r, rfl, hr, Nat.le_of_ble_eq_true h1, hw _ List.mem_cons_self⟩
      · cases h
    · cases h
  · split at h
    · rename_i idx
      split at h
      · rename_i r hr
        obtain ⟨h1, h2⟩ := ri_ok_eq h
        cases h2
        obtain ⟨g1, g2⟩ := (Bool.and_eq_true _ _ ▸ h1 : Nat.blt b r.2.2 = true ∧ (!(r.2.1 b).2.2.2 || (decide (M.1.name = "<init>") && decide ((r.2.1 b).1 = M.1.cls))) = true)
        refine ⟨idx, r, rfl, hr, Nat.le_of_ble_eq_true g1, hw _ List.mem_cons_self, ?_⟩
        rcases Bool.or_eq_true _ _ ▸ g2 with g3 | g3
        · exact Or.inl (by simpa using g3)
        · exact Or.inr (by simpa using g3)
      · cases h
    · cases h
  · split at h
    · rename_i idx
      split at h
      · rename_i x
        cases h
        exact Or.inl ⟨idx, x, rfl, rfl, hw _ List.mem_cons_self⟩
      · cases h
    · rename_i idx
      split at h
      · rename_i x
        cases h
        exact Or.inr (Or.inl ⟨idx, x, rfl, rfl, hw _ List.mem_cons_self⟩)
      · cases h
    · rename_i idx
      split at h
      · rename_i x
        cases h
        exact Or.inr (Or.inr (Or.inl ⟨idx, x, rfl, rfl, hw _ List.mem_cons_self⟩))
      · rename_i x
        cases h
        exact Or.inr (Or.inr (Or.inr ⟨idx, x, rfl, rfl, hw _ List.mem_cons_self⟩))
      · cases h
    · cases h
  · split at h
    · rename_i M2 hM2
      show ri_clink ri_WG hh NW CW NC cl Ms exn M pc i a b ts
      split at h
      · split at h
        · rename_i idx
          split at h
          · rename_i t
            split at h
            · rename_i r hr
              obtain ⟨h3, h4⟩ := ri_ok_eq h
              cases h4
              simp only [Bool.and_eq_true, decide_eq_true_eq] at h3
              obtain ⟨m1, m2⟩ := ri_mchk_ok hh h3.2.1 (hw _ (List.mem_of_getElem? (i := 0) rfl)) (hw _ (List.mem_of_getElem? (i := 1) rfl))
              exact ⟨M2, hM2, m2, h3.1, m1, idx, t, r, rfl, rfl, hr, h3.2.2, hw _ (List.mem_of_getElem? (i := 2) rfl), hw _ (List.mem_of_getElem? (i := 3) rfl), hw _ (List.mem_of_getElem? (i := 4) rfl)⟩
            · cases h
          · cases h
        · cases h
      · split at h
        · rename_i idx
          obtain ⟨h3, h4⟩ := ri_ok_eq h
          cases h4
          simp only [Bool.and_eq_true, decide_eq_true_eq] at h3
          obtain ⟨m1, m2⟩ := ri_mchk_ok hh h3.2 (hw _ (List.mem_of_getElem? (i := 0) rfl)) (hw _ (List.mem_of_getElem? (i := 1) rfl))
          exact ⟨M2, hM2, m2, h3.1, m1, idx, rfl, hw _ (List.mem_of_getElem? (i := 2) rfl), hw _ (List.mem_of_getElem? (i := 3) rfl)⟩
        · cases h
      · split at h
        · rename_i idx
          obtain ⟨h3, h4⟩ := ri_ok_eq h
          cases h4
          simp only [Bool.and_eq_true, decide_eq_true_eq] at h3
          obtain ⟨m1, m2⟩ := ri_mchk_ok hh h3.2.1 (hw _ (List.mem_of_getElem? (i := 0) rfl)) (hw _ (List.mem_of_getElem? (i := 1) rfl))
          exact ⟨M2, hM2, m2, h3.1, m1, idx, rfl, hw _ (List.mem_of_getElem? (i := 2) rfl), h3.2.2.1, hw _ (List.mem_of_getElem? (i := 3) rfl), h3.2.2.2⟩
        · cases h
      · split at h
        · rename_i idx
          obtain ⟨h3, h4⟩ := ri_ok_eq h
          cases h4
          rw [Bool.and_eq_true, Bool.and_eq_true, Bool.and_eq_true, Bool.and_eq_true] at h3
          obtain ⟨g0, g1, g2, g3, g4⟩ := h3
          obtain ⟨host, hh9⟩ := ri_any_nw NW g4
          obtain ⟨m1, m2⟩ := ri_mchk_ok hh g1 (hw _ (List.mem_of_getElem? (i := 0) rfl)) (hw _ (List.mem_of_getElem? (i := 1) rfl))
          exact ⟨M2, hM2, m2, of_decide_eq_true g0, m1, idx, host, rfl, hh9, of_decide_eq_true g2, hw _ (List.mem_of_getElem? (i := 2) rfl), of_decide_eq_true g3⟩
        · cases h
      · split at h
        · rename_i idx
          obtain ⟨h3, h4⟩ := ri_ok_eq h
          cases h4
          rw [Bool.and_eq_true, Bool.and_eq_true] at h3
          obtain ⟨g0, g1, g4⟩ := h3
          obtain ⟨host, hh9⟩ := ri_any_nw NW g4
          obtain ⟨m1, m2⟩ := ri_mchk_ok hh g1 (hw _ (List.mem_of_getElem? (i := 0) rfl)) (hw _ (List.mem_of_getElem? (i := 1) rfl))
          exact ⟨M2, hM2, m2, of_decide_eq_true g0, m1, idx, host, rfl, hh9, hw _ (List.mem_of_getElem? (i := 2) rfl)⟩
        · cases h
      · split at h
        · rename_i idx
          split at h
          · rename_i t hs
            split at h
            · rename_i r hr
              obtain ⟨h3, h4⟩ := ri_ok_eq h
              cases h4
              rw [Bool.and_eq_true, Bool.and_eq_true] at h3
              obtain ⟨g1, g2, g3⟩ := h3
              obtain ⟨m1, m2⟩ := ri_mchk_ok hh g1 (hw _ (List.mem_of_getElem? (i := 0) rfl)) (hw _ (List.mem_of_getElem? (i := 1) rfl))
              refine ⟨M2, hM2, m2, m1, idx, t, hs, r, rfl, rfl, fun x t9 oh nx k1 k2 => ?_, hr, of_decide_eq_true g2, hw _ (List.mem_of_getElem? (i := 2) rfl), hw _ (List.mem_of_getElem? (i := 3) rfl), hw _ (List.mem_of_getElem? (i := 4) rfl)⟩
              have k3 := ri_hchk_ok hh CW NC CN exn hCN g3 x t9 oh nx k1 k2
              rw [Nat.zero_add] at k3
              exact k3
            · cases h
          · cases h
        · cases h
      · split at h
        · rename_i idx
          obtain ⟨h3, h4⟩ := ri_ok_eq h
          cases h4
          rw [Bool.and_eq_true] at h3
          obtain ⟨a1, a2, a3, a4⟩ := ri_mchkH_ok h3.2
          exact ⟨M2, hM2, a4, of_decide_eq_true h3.1, ⟨a1, hw _ (List.mem_of_getElem? (i := 0) rfl), hw _ (List.mem_of_getElem? (i := 1) rfl), a2, a3⟩, idx, rfl, hw _ (List.mem_of_getElem? (i := 2) rfl), hw _ (List.mem_of_getElem? (i := 3) rfl)⟩
        · cases h
      · cases h
    · cases h
  · have h1 := of_decide_eq_true (ri_ok_eq h).1; exact h1
  · have h1 := of_decide_eq_true (ri_ok_eq h).1; exact h1
  · have h1 := of_decide_eq_true (ri_ok_eq h).1; exact h1
  · have h1 := of_decide_eq_true (ri_ok_eq h).1; exact h1
  · have h1 := of_decide_eq_true (ri_ok_eq h).1; exact h1
  · have h1 := of_decide_eq_true (ri_ok_eq h).1; exact h1
  · have h1 := of_decide_eq_true (ri_ok_eq h).1; exact h1
  · have h1 := of_decide_eq_true (ri_ok_eq h).1; exact h1
  · have h1 := of_decide_eq_true (ri_ok_eq h).1; exact h1
  · split at h
    · rename_i r hr
      have h1 := (ri_ok_eq h).1
      simp only [Bool.and_eq_true, decide_eq_true_eq] at h1
      exact ⟨r, h1.1, hr, h1.2⟩
    · cases h
  · have h1 := of_decide_eq_true (ri_ok_eq h).1; exact h1
  · trivial
  · trivial
  · split at h
    · rename_i idx
      split at h
      · rename_i r hr
        obtain ⟨h1, h2⟩ := ri_ok_eq h
        cases h2
        exact ⟨idx, r, rfl, hr, Nat.eq_of_beq_eq_true h1, hw _ List.mem_cons_self⟩
      · cases h
    · cases h
  · split at h
    · rename_i t
      split at h
      · rename_i t9 ht
        obtain ⟨h1, h2⟩ := ri_ok_eq h
        cases h2
        simp only [Bool.and_eq_true, decide_eq_true_eq] at h1
        exact ⟨t, t9, rfl, ht, h1.1, by simpa using h1.2.1, hw _ List.mem_cons_self, h1.2.2⟩
      · cases h
    · cases h
  · split at h
    · rename_i idx
      split at h
      · rename_i C hC
        obtain ⟨h1, h2⟩ := ri_ok_eq h
        cases h2
        exact ⟨idx, C, rfl, hC, hw _ List.mem_cons_self, of_decide_eq_true h1⟩
      · cases h
    · cases h
  · split at h
    · rename_i idx
      cases h
      exact ⟨idx, rfl, hw _ (List.mem_of_getElem? (i := 0) rfl), hw _ (List.mem_of_getElem? (i := 1) rfl), hw _ (List.mem_of_getElem? (i := 2) rfl)⟩
    · cases h
  · split at h
    · rename_i idx
      cases h
      exact ⟨idx, rfl, hw _ (List.mem_of_getElem? (i := 0) rfl), hw _ (List.mem_of_getElem? (i := 1) rfl), hw _ (List.mem_of_getElem? (i := 2) rfl), hw _ (List.mem_of_getElem? (i := 3) rfl)⟩
    · cases h
  · cases h
  · have h1 := of_decide_eq_true (ri_ok_eq h).1; exact h1
  · have h1 := of_decide_eq_true (ri_ok_eq h).1; exact h1
  · split at h
    · rename_i idx
      obtain ⟨h1, h2⟩ := ri_ok_eq h
      cases h2
      simp only [Bool.and_eq_true, decide_eq_true_eq] at h1
      exact ⟨idx, rfl, h1.1, h1.2.1, hw _ (List.mem_of_getElem? (i := 0) rfl), hw _ (List.mem_of_getElem? (i := 1) rfl), h1.2.2⟩
    · cases h
  · have h1 := of_decide_eq_true (ri_ok_eq h).1; exact h1
  · split at h
    · rename_i idx hg
      split at h
      · rename_i r hr
        split at h
        · rename_i off ho
          split at h
          · rename_i t
            obtain ⟨h1, h2⟩ := ri_ok_eq h
            cases h2
            simp only [Bool.and_eq_true, decide_eq_true_eq] at h1
            obtain ⟨a1, a2, a3, a4, a5, a6, a7⟩ := h1
            exact ⟨a1, a2, ⟨idx, r, hg, hr, Nat.le_of_ble_eq_true a3, hw _ List.mem_cons_self⟩, a4, a5, a6, off, t, ho, rfl, a7⟩
          · cases h
        · cases h
      · cases h
    · cases h
  · rename_i x1 x2 x3 x4 x5 x6 x7 x8 x9 x10 x11 x12 x13 x14 x15 x16 x17 x18 x19 x20 x21 x22 x23 x24 x25 x26 x27 x28 x29
    unfold ri_link
    split <;> first | trivial | (exfalso; first | exact x1 rfl | exact x2 rfl | exact x3 rfl | exact x4 rfl | exact x5 rfl | exact x6 rfl | exact x7 rfl | exact x8 rfl | exact x9 rfl | exact x10 rfl | exact x11 rfl | exact x12 rfl | exact x13 rfl | exact x14 rfl | exact x15 rfl | exact x16 rfl | exact x17 rfl | exact x18 rfl | exact x19 rfl | exact x20 rfl | exact x21 rfl | exact x22 rfl | exact x23 rfl | exact x24 rfl | exact x25 rfl | exact x26 rfl | exact x27 rfl | exact x28 rfl | exact x29 rfl)
/-- an instruction as the bytes have it -/
def ri_dk (cc : ByteArray) (o : ri_Op) : Bool := match decode cc o.1 with
  | .ok z => decide (z.1 = o.2.2.1) && (Nat.beq (ri_len z.1) 0 || Nat.beq (ri_len z.1) z.2)
  | .error _ => false
theorem ri_dk_ok {cc : ByteArray} {o : ri_Op} (h : ri_dk cc o = true) : ∃ len : Nat, decode cc o.1 = .ok (o.2.2.1, len) ∧ (ri_len o.2.2.1 = 0 ∨ ri_len o.2.2.1 = len) := by
  unfold ri_dk at h
  split at h
  · rename_i z hz
    obtain ⟨z1, z2⟩ := z
    simp only [Bool.and_eq_true, Bool.or_eq_true, decide_eq_true_eq] at h
    obtain ⟨h1, h2⟩ := h
    subst h1
    exact ⟨z2, hz, h2.elim (fun q => Or.inl (Nat.eq_of_beq_eq_true q)) (fun q => Or.inr (Nat.eq_of_beq_eq_true q))⟩
  · cases h
/-- the names between an exception and Throwable -/
def ri_xn : List String := ["java/lang/RuntimeException", "java/lang/Exception"]
/-- an exception that a class makes (ik, ic its places there): all its words stand in the tables, or are castables -/
def ri_xall (CW : List ri_C9) (own : String) (ik ic : Nat) (E : String) : Bool := Bundle.fit E && (ri_xn.all Bundle.fit && ((Jvm.Cond.classLink own ik E :: Jvm.Cond.initialized E :: vx_at0 own ic E ri_xn).all vx_ot && ((goodWord (.classLink own ik E) && decide (Jvm.Cond.classLink own ik E ∈ lw_tbl)) && ((goodWord (.initialized E) && decide (Jvm.Cond.initialized E ∈ lw_tbl)) && (vx_at0 own ic E ri_xn).all (fun w => (goodWord w && decide (w ∈ lw_tbl)) || CW.any (fun x => decide (w = ri_cw x)))))))
/-- such exceptions: the class, the two places, the number -/
abbrev ri_X : Type := String × Nat × Nat × Nat
def ri_xfact (CW : List ri_C9) (exl : Nat → Nat) (exn : Nat → String) (x : ri_X) : Prop := exl x.2.2.2 = 2 ∧ ri_xall CW x.1 x.2.1 x.2.2.1 (exn x.2.2.2) = true
/-- 'throw new E()': b the place of the constructor -/
def ri_x3 (hh : MethodName → List (Nat × Nat × Nat × Nat)) (XT : List ri_X) (M : ri_M) (o : ri_Op) : Bool := match o.2.2.1 with
  | .new ik => decide (hh M.1 = []) && (decide ((M.1.cls, ik, o.2.2.2.2.1, o.2.2.2.1) ∈ XT) && (decide (decode M.2.1 (o.1 + 3) = .ok (.dup, 1)) && (decide (decode M.2.1 (o.1 + 4) = .ok (.invokespecial o.2.2.2.2.1, 3)) && decide (decode M.2.1 (o.1 + 7) = .ok (.athrow, 1)))))
  | _ => false
theorem ri_in_WG {w : Jvm.Cond} (h : (goodWord w && decide (w ∈ lw_tbl)) = true) : w ∈ ri_WG := by
  simp only [Bool.and_eq_true, decide_eq_true_eq] at h
  exact List.mem_filter.mpr ⟨h.2, h.1⟩
theorem ri_x3_ok {XT : List ri_X} (hX : ∀ x ∈ XT, ri_xfact CW exl exn x) {M : ri_M} {o : ri_Op} (h : ri_x3 hh XT M o = true) : ri_xlink ri_WG hh CW exl exn M o.1 o.2.2.1 o.2.2.2.1 := by
  unfold ri_x3 at h
  split at h
  · rename_i ik hik
    simp only [Bool.and_eq_true, decide_eq_true_eq] at h
    obtain ⟨h0, h1, h2, h3, h4⟩ := h
    obtain ⟨e1, e2⟩ := hX _ h1
    unfold ri_xall at e2
    simp only [Bool.and_eq_true] at e2
    obtain ⟨a1, a2, a3, a4, a5, a6⟩ := e2
    refine ⟨h0, ik, o.2.2.2.2.1, ri_xn, hik, h2, h3, h4, e1, a1, fun n hn => List.all_eq_true.mp a2 n hn, ri_in_WG (by simpa using a4), ri_in_WG (by simpa using a5), fun w hw => ?_, fun w hw => List.all_eq_true.mp a3 w hw⟩
    have h9 := List.all_eq_true.mp a6 w hw
    rcases Bool.or_eq_true _ _ ▸ h9 with h9 | h9
    · exact Or.inl (ri_in_WG h9)
    · obtain ⟨x, hx, hq⟩ := List.any_eq_true.mp h9
      exact Or.inr ⟨x, hx, of_decide_eq_true hq⟩
  · cases h
/-- a method: each instruction is as the bytes have it, its words stand at these places -/
noncomputable def ri_chk (hh : MethodName → List (Nat × Nat × Nat × Nat)) (NW : List ri_N) (CW : List ri_C9) (NC : List (String × String)) (CN : List (String × Nat × String)) (AO : List FieldType) (cl : List vw_C) (Ms : List ri_M) (tyL : List FieldType) (exn : Nat → String) (XT : List ri_X) (M : ri_M) : List ri_Op → List (List Nat) → Bool
  | [], _ => true
  | o :: os, ps => ri_dk M.2.1 o && ((bif Nat.beq o.2.1 23 then ri_x3 hh XT M o else (match ri_wd hh NW CW NC CN AO cl Ms tyL exn M o.1 o.2.1 o.2.2.1 o.2.2.2.1 o.2.2.2.2.1 o.2.2.2.2.2.1 o.2.2.2.2.2.2 with
    | some ws => ri_has (ps.headD []) ws
    | none => false)) && ri_chk hh NW CW NC CN AO cl Ms tyL exn XT M os ps.tail)
theorem ri_chk_ok (hCN : ∀ c ∈ CN, Jvm.Cond.classLink c.1 c.2.1 c.2.2 ∈ ri_WG) {XT : List ri_X} (hX : ∀ x ∈ XT, ri_xfact CW exl exn x) {M : ri_M} : ∀ {os : List ri_Op} {ps : List (List Nat)}, ri_chk hh NW CW NC CN AO cl Ms tyL exn XT M os ps = true → ∀ o ∈ os, ri_opok ri_WG hh NW CW NC AO cl Ms tyL exl exn M o
  | [], _, _ => fun o ho => by cases ho
  | o :: os, ps, h => by
    have h0 : (ri_dk M.2.1 o && ((bif Nat.beq o.2.1 23 then ri_x3 hh XT M o else (match ri_wd hh NW CW NC CN AO cl Ms tyL exn M o.1 o.2.1 o.2.2.1 o.2.2.2.1 o.2.2.2.2.1 o.2.2.2.2.2.1 o.2.2.2.2.2.2 with
      | some ws => ri_has (ps.headD []) ws
      | none => false)) && ri_chk hh NW CW NC CN AO cl Ms tyL exn XT M os ps.tail)) = true := h
    rw [Bool.and_eq_true, Bool.and_eq_true] at h0
    obtain ⟨h1, h2, h3⟩ := h0
    intro o9 ho9
    rcases List.mem_cons.mp ho9 with e | e
    · subst e
      cases hk : Nat.beq o9.2.1 23 with
      | true =>
        rw [hk, cond_true] at h2
        have e3 : o9.2.1 = 23 := Nat.eq_of_beq_eq_true hk
        refine ⟨ri_dk_ok h1, ?_⟩
        rw [e3]
        exact ri_x3_ok hX h2
      | false =>
        rw [hk, cond_false] at h2
        split at h2
        · rename_i ws hws
          exact ⟨ri_dk_ok h1, ri_wd_ok hCN hws (ri_has_ok h2)⟩
        · cases h2
    · exact ri_chk_ok hCN hX h3 o9 e
end RIV2
end
section
/-! ===== the reckoner, part 14: the same over trees: perfect binary trees, arrays, worlds ===== -/
noncomputable def rf_T (α : Type) (n : Nat) : Type := Nat.rec (motive := fun _ => Type) α (fun _ T => T × T) n
section RF1
variable {α : Type}
noncomputable def rf_l {k : Nat} (t : rf_T α (k + 1)) : rf_T α k := Prod.fst (α := rf_T α k) (β := rf_T α k) t
noncomputable def rf_r {k : Nat} (t : rf_T α (k + 1)) : rf_T α k := Prod.snd (α := rf_T α k) (β := rf_T α k) t
noncomputable def rf_n {k : Nat} (a b : rf_T α k) : rf_T α (k + 1) := Prod.mk (α := rf_T α k) (β := rf_T α k) a b
noncomputable def rf_tg (n : Nat) : rf_T α n → Nat → α := Nat.rec (motive := fun n => rf_T α n → Nat → α) (fun t _ => t) (fun k ih t i => @Bool.rec (fun _ => α) (ih (Prod.snd (α := rf_T α k) (β := rf_T α k) t) (Nat.sub i (Nat.pow 2 k))) (ih (Prod.fst (α := rf_T α k) (β := rf_T α k) t) i) (Nat.ble (Nat.succ i) (Nat.pow 2 k))) n
noncomputable def rf_tu (v : α) (n : Nat) : rf_T α n → Nat → rf_T α n := Nat.rec (motive := fun n => rf_T α n → Nat → rf_T α n) (fun _ _ => v) (fun k ih t i => @Bool.rec (fun _ => rf_T α k × rf_T α k) (Prod.fst (α := rf_T α k) (β := rf_T α k) t, ih (Prod.snd (α := rf_T α k) (β := rf_T α k) t) (Nat.sub i (Nat.pow 2 k))) (ih (Prod.fst (α := rf_T α k) (β := rf_T α k) t) i, Prod.snd (α := rf_T α k) (β := rf_T α k) t) (Nat.ble (Nat.succ i) (Nat.pow 2 k))) n
noncomputable def rf_tr (v : α) (n : Nat) : rf_T α n := Nat.rec (motive := fun n => rf_T α n) v (fun k ih => (Prod.mk (α := rf_T α k) (β := rf_T α k) ih ih)) n
theorem rf_tg_s (k : Nat) (t : rf_T α (k + 1)) (i : Nat) : rf_tg (k + 1) t i = bif Nat.blt i (Nat.pow 2 k) then rf_tg k (rf_l t) i else rf_tg k (rf_r t) (Nat.sub i (Nat.pow 2 k)) := by
  show @Bool.rec (fun _ => α) (rf_tg k (rf_r t) (Nat.sub i (Nat.pow 2 k))) (rf_tg k (rf_l t) i) (Nat.blt i (Nat.pow 2 k)) = _
  cases Nat.blt i (Nat.pow 2 k) <;> rfl
theorem rf_tu_s (v : α) (k : Nat) (t : rf_T α (k + 1)) (i : Nat) : rf_tu v (k + 1) t i = bif Nat.blt i (Nat.pow 2 k) then rf_n (rf_tu v k (rf_l t) i) (rf_r t) else rf_n (rf_l t) (rf_tu v k (rf_r t) (Nat.sub i (Nat.pow 2 k))) := by
  show @Bool.rec (fun _ => rf_T α k × rf_T α k) (rf_n (rf_l t) (rf_tu v k (rf_r t) (Nat.sub i (Nat.pow 2 k)))) (rf_n (rf_tu v k (rf_l t) i) (rf_r t)) (Nat.blt i (Nat.pow 2 k)) = _
  cases Nat.blt i (Nat.pow 2 k) <;> rfl
theorem rf_blt_t {x y : Nat} (h : x < y) : Nat.blt x y = true := Nat.ble_eq_true_of_le h
theorem rf_blt_f {x y : Nat} (h : ¬ x < y) : Nat.blt x y = false := by
  cases hb : Nat.blt x y with
  | false => rfl
  | true => exact absurd (Nat.le_of_ble_eq_true hb) h
theorem rf_tg_tr (v : α) : ∀ (n i : Nat), rf_tg n (rf_tr v n) i = v
  | 0, _ => rfl
  | k + 1, i => by
    refine (rf_tg_s k (rf_tr v (k + 1)) i).trans ?_
    show (bif Nat.blt i (Nat.pow 2 k) then rf_tg k (rf_tr v k) i else rf_tg k (rf_tr v k) (Nat.sub i (Nat.pow 2 k))) = v
    rw [rf_tg_tr v k, rf_tg_tr v k]
    cases Nat.blt i (Nat.pow 2 k) <;> rfl
theorem rf_tg_tu (v : α) : ∀ (n : Nat) (t : rf_T α n) (i j : Nat), i < 2 ^ n → j < 2 ^ n → rf_tg n (rf_tu v n t i) j = if j = i then v else rf_tg n t j
  | 0, t, i, j, hi, hj => by
    have e : j = i := by simp at hi hj; omega
    rw [if_pos e]
    rfl
  | k + 1, t, i, j, hi, hj => by
    have hp : 2 ^ (k + 1) = 2 ^ k + 2 ^ k := by rw [Nat.pow_succ]; omega
    rw [hp] at hi hj
    rw [rf_tu_s, rf_tg_s, rf_tg_s]
    have hP : Nat.pow 2 k = 2 ^ k := rfl
    rw [hP]
    by_cases h1 : i < 2 ^ k
    · rw [rf_blt_t h1, cond_true]
      by_cases h2 : j < 2 ^ k
      · rw [rf_blt_t h2, cond_true, cond_true]
        exact rf_tg_tu v k (rf_l t) i j h1 h2
      · rw [rf_blt_f h2, cond_false, cond_false, if_neg (by omega)]
        rfl
    · rw [rf_blt_f h1, cond_false]
      by_cases h2 : j < 2 ^ k
      · rw [rf_blt_t h2, cond_true, cond_true, if_neg (by omega)]
        rfl
      · rw [rf_blt_f h2, cond_false, cond_false]
        have k9 := rf_tg_tu v k (rf_r t) (i - 2 ^ k) (j - 2 ^ k) (by omega) (by omega)
        have e9 : (j - 2 ^ k = i - 2 ^ k) = (j = i) := propext ⟨fun q => by omega, fun q => by omega⟩
        simp only [e9] at k9
        exact k9
noncomputable def rf_tl (n len : Nat) (t : rf_T α n) : List α := (List.range len).map (rf_tg n t)
theorem rf_tl_len {n len : Nat} {t : rf_T α n} : (rf_tl n len t).length = len := by
  unfold rf_tl
  rw [List.length_map, List.length_range]
theorem rf_tl_at {n len i : Nat} {t : rf_T α n} : (rf_tl n len t)[i]? = if i < len then some (rf_tg n t i) else none := by
  unfold rf_tl
  rw [List.getElem?_map]
  by_cases h : i < len
  · rw [List.getElem?_range h, if_pos h]
    rfl
  · rw [List.getElem?_eq_none (by rw [List.length_range]; omega), if_neg h]
    rfl
theorem rf_tl_set {n len i : Nat} {t : rf_T α n} {v : α} (hl : len ≤ 2 ^ n) (hi : i < len) : rf_tl n len (rf_tu v n t i) = (rf_tl n len t).set i v := by
  apply List.ext_getElem?
  intro j
  rw [rf_tl_at, List.getElem?_set, rf_tl_len, rf_tl_at]
  by_cases hj : j < len
  · rw [if_pos hj, rf_tg_tu v n t i j (by omega) (by omega)]
    by_cases e : j = i
    · subst e
      rw [if_pos rfl, if_pos rfl, if_pos hj]
    · rw [if_neg e, if_neg (fun q => e q.symm), if_pos hj]
  · rw [if_neg hj]
    by_cases e : i = j
    · omega
    · rw [if_neg e, if_neg hj]
theorem rf_tl_push {n len : Nat} {t : rf_T α n} {v : α} (hl : len < 2 ^ n) : rf_tl n (len + 1) (rf_tu v n t len) = rf_tl n len t ++ [v] := by
  unfold rf_tl
  rw [List.range_succ, List.map_append]
  congr 1
  · exact List.map_congr_left (fun i hi => by
      have h9 := List.mem_range.mp hi
      rw [rf_tg_tu v n t len i hl (by omega), if_neg (by omega)])
  · show [rf_tg n (rf_tu v n t len) len] = [v]
    rw [rf_tg_tu v n t len len hl hl, if_pos rfl]
theorem rf_tl_rep {n len : Nat} {v : α} : rf_tl n len (rf_tr v n) = List.replicate len v := by
  apply List.ext_getElem?
  intro j
  rw [rf_tl_at, List.getElem?_replicate, rf_tg_tr]
end RF1
/-! what an array holds: a list, or a tree of so many -/
abbrev rf_V : Type := List Value ⊕ ((n : Nat) × (Nat × rf_T Value n))
noncomputable def rf_va (V : rf_V) : List Value := match V with
  | .inl l => l
  | .inr ⟨n, l, t⟩ => rf_tl n l t
noncomputable def rf_vn (V : rf_V) (i : Nat) : Option Value := match V with
  | .inl l => ri_nth l i
  | .inr ⟨n, l, t⟩ => bif Nat.blt i l then some (rf_tg n t i) else none
theorem rf_vn_eq {V : rf_V} {i : Nat} : ri_nth (rf_va V) i = rf_vn V i := by
  match V with
  | .inl l => rfl
  | .inr ⟨n, l, t⟩ =>
    show ri_nth (rf_tl n l t) i = bif Nat.blt i l then some (rf_tg n t i) else none
    rw [ri_nth_eq, rf_tl_at]
    by_cases h : i < l
    · rw [if_pos h, rf_blt_t h, cond_true]
    · rw [if_neg h, rf_blt_f h, cond_false]
noncomputable def rf_vk (V : rf_V) : Bool := match V with
  | .inl _ => true
  | .inr ⟨n, l, _⟩ => Nat.ble l (Nat.pow 2 n)
noncomputable def rf_vu (v : Value) (V : rf_V) (i : Nat) : rf_V := match V with
  | .inl l => .inl (ri_upd v l i)
  | .inr ⟨n, l, t⟩ => .inr ⟨n, l, rf_tu v n t i⟩
theorem rf_vu_eq {v u : Value} {V : rf_V} {i : Nat} (hk : rf_vk V = true) (hi : rf_vn V i = some u) : rf_va (rf_vu v V i) = ri_upd v (rf_va V) i := by
  match V, hk, hi with
  | .inl l, _, _ => rfl
  | .inr ⟨n, l, t⟩, hk, hi =>
    show rf_tl n l (rf_tu v n t i) = ri_upd v (rf_tl n l t) i
    have h9 : i < l := by
      have hi2 : (bif Nat.blt i l then some (rf_tg n t i) else none) = some u := hi
      by_cases h : i < l
      · exact h
      · rw [rf_blt_f h, cond_false] at hi2
        cases hi2
    rw [ri_upd_eq]
    exact rf_tl_set (Nat.le_of_ble_eq_true hk) h9
noncomputable def rf_vl (V : rf_V) : Nat := match V with
  | .inl l => l.length
  | .inr ⟨_, l, _⟩ => l
theorem rf_vl_eq {V : rf_V} : (rf_va V).length = rf_vl V := by
  match V with
  | .inl l => rfl
  | .inr ⟨n, l, t⟩ => exact rf_tl_len
noncomputable def rf_nv (N : Nat) (d : Value) : rf_V := bif Nat.ble N 24 then .inl (List.replicate N d) else .inr ⟨Nat.succ (Nat.log2 N), N, rf_tr d (Nat.succ (Nat.log2 N))⟩
theorem rf_nv_eq {N : Nat} {d : Value} : rf_va (rf_nv N d) = List.replicate N d := by
  unfold rf_nv
  cases Nat.ble N 24 with
  | true => rfl
  | false => exact rf_tl_rep
/-! cells and worlds -/
abbrev rf_E : Type := (Nat × rf_V) ⊕ (Nat × List Value)
noncomputable def rf_ea (x : rf_E) : ri_E := match x with
  | .inl a => .inl (a.1, rf_va a.2)
  | .inr o => .inr o
/-- a world: how many cells, the tree of them, and one cell that is laid over it (the one that was written last) -/
abbrev rf_W : Type := Nat × rf_T rf_E 10 × Nat × rf_E
noncomputable def rf_wr (t : rf_T rf_E 10) (q0 : Nat) (e0 : rf_E) (q : Nat) : rf_E := @Bool.rec (fun _ => rf_E) (rf_tg 10 t q) e0 (Nat.beq q q0)
theorem rf_wr_at {t : rf_T rf_E 10} {q0 : Nat} {e0 : rf_E} : rf_wr t q0 e0 q0 = e0 := by
  unfold rf_wr
  rw [Nat.beq_refl]
theorem rf_wr_ne {t : rf_T rf_E 10} {q0 q : Nat} {e0 : rf_E} (h : q ≠ q0) : rf_wr t q0 e0 q = rf_tg 10 t q := by
  unfold rf_wr
  rw [show Nat.beq q q0 = false from Bool.eq_false_iff.mpr (fun e => h (Nat.eq_of_beq_eq_true e))]
noncomputable def rf_wa (w : rf_W) : List ri_E := (List.range w.1).map (fun q => rf_ea (rf_wr w.2.1 w.2.2.1 w.2.2.2 q))
theorem rf_wa_len {w : rf_W} : (rf_wa w).length = w.1 := by
  unfold rf_wa
  rw [List.length_map, List.length_range]
theorem rf_wa_at {w : rf_W} {q : Nat} : (rf_wa w)[q]? = if q < w.1 then some (rf_ea (rf_wr w.2.1 w.2.2.1 w.2.2.2 q)) else none := by
  unfold rf_wa
  rw [List.getElem?_map]
  by_cases h : q < w.1
  · rw [List.getElem?_range h, if_pos h]
    rfl
  · rw [List.getElem?_eq_none (by rw [List.length_range]; omega), if_neg h]
    rfl
noncomputable def rf_wn (w : rf_W) (q : Nat) : Option rf_E := match w with
  | (n, t, q0, e0) => @Bool.rec (fun _ => Option rf_E) none (some (rf_wr t q0 e0 q)) (Nat.ble (Nat.succ q) n)
theorem rf_wn_t {w : rf_W} {q : Nat} (h : q < w.1) : rf_wn w q = some (rf_wr w.2.1 w.2.2.1 w.2.2.2 q) := by
  obtain ⟨n, t, q0, e0⟩ := w
  show @Bool.rec (fun _ => Option rf_E) none (some (rf_wr t q0 e0 q)) (Nat.ble (Nat.succ q) n) = _
  rw [show Nat.ble (Nat.succ q) n = true from Nat.ble_eq_true_of_le h]
theorem rf_wn_f {w : rf_W} {q : Nat} (h : ¬ q < w.1) : rf_wn w q = none := by
  obtain ⟨n, t, q0, e0⟩ := w
  show @Bool.rec (fun _ => Option rf_E) none (some (rf_wr t q0 e0 q)) (Nat.ble (Nat.succ q) n) = _
  rw [show Nat.ble (Nat.succ q) n = false from Bool.eq_false_iff.mpr (fun e => h (Nat.le_of_ble_eq_true e))]
theorem rf_wn_eq {w : rf_W} {q : Nat} : ri_nth (rf_wa w) q = (rf_wn w q).map rf_ea := by
  rw [ri_nth_eq, rf_wa_at]
  by_cases h : q < w.1
  · rw [if_pos h, rf_wn_t h]
    rfl
  · rw [if_neg h, rf_wn_f h]
    rfl
noncomputable def rf_wu (x : rf_E) (w : rf_W) (q : Nat) : rf_W := match w with
  | (n, t, q0, e0) => @Bool.rec (fun _ => rf_W) (n, rf_tu e0 10 t q0, q, x) (n, t, q0, x) (Nat.beq q q0)
noncomputable def rf_wk (w : rf_W) : Bool := match w with
  | (n, _, q0, _) => Nat.ble n 1024 && Nat.ble (Nat.succ q0) 1024
theorem rf_wk_n {w : rf_W} (h : rf_wk w = true) : w.1 ≤ 1024 ∧ w.2.2.1 < 1024 := by
  obtain ⟨n, t, q0, e0⟩ := w
  obtain ⟨a, b⟩ := (Bool.and_eq_true _ _ ▸ (show (Nat.ble n 1024 && Nat.ble (Nat.succ q0) 1024) = true from h) : Nat.ble n 1024 = true ∧ Nat.ble (Nat.succ q0) 1024 = true)
  exact ⟨Nat.le_of_ble_eq_true a, Nat.le_of_ble_eq_true b⟩
theorem rf_wu_eq {x y : rf_E} {w : rf_W} {q : Nat} (hk : rf_wk w = true) (hq : rf_wn w q = some y) : rf_wa (rf_wu x w q) = ri_upd (rf_ea x) (rf_wa w) q := by
  have h9 : q < w.1 := by
    by_cases h : q < w.1
    · exact h
    · rw [rf_wn_f h] at hq
      cases hq
  obtain ⟨hn, h0⟩ := rf_wk_n hk
  obtain ⟨n, t, q0, e0⟩ := w
  have hn : n ≤ 1024 := hn
  have h0 : q0 < 1024 := h0
  have h9 : q < n := h9
  rw [ri_upd_eq]
  apply List.ext_getElem?
  intro j
  rw [List.getElem?_set, rf_wa_len, rf_wa_at (w := (n, t, q0, e0))]
  show (rf_wa (@Bool.rec (fun _ => rf_W) (n, rf_tu e0 10 t q0, q, x) (n, t, q0, x) (Nat.beq q q0)))[j]? = if q = j then if q < n then some (rf_ea x) else none else if j < n then some (rf_ea (rf_wr t q0 e0 j)) else none
  rw [if_pos h9]
  by_cases e : q = q0
  · subst e
    rw [Nat.beq_refl]
    show (rf_wa (n, t, q, x))[j]? = _
    rw [rf_wa_at]
    show (if j < n then some (rf_ea (rf_wr t q x j)) else none) = _
    by_cases ej : q = j
    · subst ej
      rw [if_pos h9, if_pos rfl, rf_wr_at]
    · rw [if_neg ej, rf_wr_ne (fun z => ej z.symm), rf_wr_ne (fun z => ej z.symm)]
  · rw [show Nat.beq q q0 = false from Bool.eq_false_iff.mpr (fun z => e (Nat.eq_of_beq_eq_true z))]
    show (rf_wa (n, rf_tu e0 10 t q0, q, x))[j]? = _
    rw [rf_wa_at]
    show (if j < n then some (rf_ea (rf_wr (rf_tu e0 10 t q0) q x j)) else none) = _
    by_cases ej : q = j
    · subst ej
      rw [if_pos h9, if_pos rfl, rf_wr_at]
    · rw [if_neg ej]
      by_cases hj : j < n
      · rw [if_pos hj, if_pos hj, rf_wr_ne (fun z => ej z.symm), rf_tg_tu e0 10 t q0 j h0 (show j < 1024 from Nat.lt_of_lt_of_le hj hn)]
        by_cases e0j : j = q0
        · subst e0j
          rw [if_pos rfl, rf_wr_at]
        · rw [if_neg e0j, rf_wr_ne e0j]
      · rw [if_neg hj, if_neg hj]
noncomputable def rf_wp (w : rf_W) (x : rf_E) : rf_W := match w with
  | (n, t, q0, e0) => @Bool.rec (fun _ => rf_W) (Nat.succ n, rf_tu x 10 t n, q0, e0) (Nat.succ n, rf_tu e0 10 t q0, n, x) (Nat.ble (Nat.succ q0) 1024)
theorem rf_wp_n {x : rf_E} {w : rf_W} : (rf_wp w x).1 = w.1 + 1 := by
  obtain ⟨n, t, q0, e0⟩ := w
  show (@Bool.rec (fun _ => rf_W) (Nat.succ n, rf_tu x 10 t n, q0, e0) (Nat.succ n, rf_tu e0 10 t q0, n, x) (Nat.ble (Nat.succ q0) 1024)).1 = n + 1
  cases Nat.ble (Nat.succ q0) 1024 <;> rfl
theorem rf_wp_eq {x : rf_E} {w : rf_W} (h : Nat.blt w.1 1024 = true) : rf_wa (rf_wp w x) = rf_wa w ++ [rf_ea x] := by
  have hl := rf_wp_n (x := x) (w := w)
  obtain ⟨n, t, q0, e0⟩ := w
  have hn : n < 1024 := Nat.le_of_ble_eq_true h
  have hl : (rf_wp (n, t, q0, e0) x).1 = n + 1 := hl
  apply List.ext_getElem?
  intro j
  rw [List.getElem?_append, rf_wa_len, rf_wa_at, rf_wa_at, hl]
  show (if j < n + 1 then some (rf_ea (rf_wr (rf_wp (n, t, q0, e0) x).2.1 (rf_wp (n, t, q0, e0) x).2.2.1 (rf_wp (n, t, q0, e0) x).2.2.2 j)) else none) = if j < n then if j < n then some (rf_ea (rf_wr t q0 e0 j)) else none else [rf_ea x][j - n]?
  have key : j < n + 1 → rf_wr (rf_wp (n, t, q0, e0) x).2.1 (rf_wp (n, t, q0, e0) x).2.2.1 (rf_wp (n, t, q0, e0) x).2.2.2 j = if j = n then x else rf_wr t q0 e0 j := by
    intro hj
    by_cases h0 : q0 < 1024
    · have e9 : rf_wp (n, t, q0, e0) x = (Nat.succ n, rf_tu e0 10 t q0, n, x) := by
        show @Bool.rec (fun _ => rf_W) (Nat.succ n, rf_tu x 10 t n, q0, e0) (Nat.succ n, rf_tu e0 10 t q0, n, x) (Nat.ble (Nat.succ q0) 1024) = _
        rw [show Nat.ble (Nat.succ q0) 1024 = true from Nat.ble_eq_true_of_le h0]
      rw [e9]
      show rf_wr (rf_tu e0 10 t q0) n x j = _
      by_cases ej : j = n
      · subst ej
        rw [rf_wr_at, if_pos rfl]
      · rw [rf_wr_ne ej, if_neg ej, rf_tg_tu e0 10 t q0 j h0 (show j < 1024 by omega)]
        by_cases e0j : j = q0
        · subst e0j
          rw [if_pos rfl, rf_wr_at]
        · rw [if_neg e0j, rf_wr_ne e0j]
    · have e9 : rf_wp (n, t, q0, e0) x = (Nat.succ n, rf_tu x 10 t n, q0, e0) := by
        show @Bool.rec (fun _ => rf_W) (Nat.succ n, rf_tu x 10 t n, q0, e0) (Nat.succ n, rf_tu e0 10 t q0, n, x) (Nat.ble (Nat.succ q0) 1024) = _
        rw [show Nat.ble (Nat.succ q0) 1024 = false from Bool.eq_false_iff.mpr (fun z => h0 (Nat.le_of_ble_eq_true z))]
      rw [e9]
      show rf_wr (rf_tu x 10 t n) q0 e0 j = _
      rw [rf_wr_ne (by omega), rf_wr_ne (by omega), rf_tg_tu x 10 t n j hn (show j < 1024 by omega)]
  by_cases hj : j < n
  · rw [if_pos (by omega), if_pos hj, if_pos hj, key (by omega), if_neg (by omega)]
  · rw [if_neg hj]
    by_cases hj2 : j = n
    · subst hj2
      rw [if_pos (by omega), key (by omega), if_pos rfl, Nat.sub_self]
      rfl
    · rw [if_neg (by omega), List.getElem?_eq_none (by simp; omega)]
noncomputable def rf_wps (xs : List rf_E) : rf_W → rf_W := List.rec (fun w => w) (fun x _ ih w => ih (rf_wp w x)) xs
theorem rf_wps_eq : ∀ (xs : List rf_E) (w : rf_W), w.1 + xs.length ≤ 1024 → rf_wa (rf_wps xs w) = rf_wa w ++ xs.map rf_ea
  | [], w, _ => by
    show rf_wa w = rf_wa w ++ []
    rw [List.append_nil]
  | x :: xs, w, h => by
    rw [List.length_cons] at h
    show rf_wa (rf_wps xs (rf_wp w x)) = rf_wa w ++ (rf_ea x :: xs.map rf_ea)
    rw [rf_wps_eq xs (rf_wp w x) (by rw [rf_wp_n]; omega), rf_wp_eq (rf_blt_t (by omega)), List.append_assoc]
    rfl
end
section
/-! ===== the reckoner, part 15: steps over trees, and that they are the same ===== -/
noncomputable def rf_getf (a b : Nat) (st : List Value) (w : rf_W) : Option (List Value) := match st with
  | .ref q :: r => (match rf_wn w q with
    | some (.inr o) => ri_ok (Nat.beq o.1 a) (match ri_nth o.2 b with
      | some v => some (v :: r)
      | none => none)
    | _ => none)
  | _ => none
theorem rf_getf_eq {a b : Nat} {st st' : List Value} {w : rf_W} (h : rf_getf a b st w = some st') : ri_getf a b st (rf_wa w) = some st' := by
  unfold rf_getf at h
  split at h
  · rename_i q r
    unfold ri_getf
    dsimp only
    rw [rf_wn_eq]
    cases hq : rf_wn w q with
    | none => rw [hq] at h; cases h
    | some x =>
      rw [hq] at h
      cases x with
      | inl a => cases h
      | inr o => exact h
  · cases h
noncomputable def rf_putf (ty : FieldType) (a b : Nat) (st : List Value) (w : rf_W) : Option (List Value × rf_W) := match st with
  | v :: .ref q :: r => (match rf_wn w q with
    | some (.inr o) => ri_ok (Nat.beq o.1 a) (match ri_nth o.2 b with
      | some _ => ri_ok (ri_fit ty v && rf_wk w) (some (r, rf_wu (.inr (o.1, ri_upd v o.2 b)) w q))
      | none => none)
    | _ => none)
  | _ => none
theorem rf_putf_eq {ty : FieldType} {a b : Nat} {st : List Value} {w : rf_W} {z : List Value × rf_W} (h : rf_putf ty a b st w = some z) : ri_putf ty a b st (rf_wa w) = some (z.1, rf_wa z.2) := by
  unfold rf_putf at h
  split at h
  · rename_i v q r
    unfold ri_putf
    dsimp only
    rw [rf_wn_eq]
    cases hq : rf_wn w q with
    | none => rw [hq] at h; cases h
    | some x =>
      rw [hq] at h
      cases x with
      | inl a => cases h
      | inr o =>
        obtain ⟨hb, h2⟩ := ri_ok_eq h
        show ri_ok (Nat.beq o.1 a) (match ri_nth o.2 b with
          | some _ => ri_ok (ri_fit ty v) (some (r, ri_upd (.inr (o.1, ri_upd v o.2 b)) (rf_wa w) q))
          | none => none) = some (z.1, rf_wa z.2)
        rw [hb]
        cases hv : ri_nth o.2 b with
        | none => rw [hv] at h2; cases h2
        | some u =>
          rw [hv] at h2
          obtain ⟨hc, h3⟩ := ri_ok_eq h2
          obtain ⟨c1, c2⟩ := (Bool.and_eq_true _ _ ▸ hc : ri_fit ty v = true ∧ rf_wk w = true)
          cases h3
          show ri_ok (ri_fit ty v) (some (r, ri_upd (.inr (o.1, ri_upd v o.2 b)) (rf_wa w) q)) = some (r, rf_wa (rf_wu (.inr (o.1, ri_upd v o.2 b)) w q))
          rw [c1, rf_wu_eq c2 hq]
          rfl
  · cases h
noncomputable def rf_ald (tyL : List FieldType) (g : FieldType → Bool) (st : List Value) (w : rf_W) : Option (List Value) := match st with
  | .int i :: .ref q :: r => (match rf_wn w q with
    | some (.inl a) => (match ri_nth tyL a.1 with
      | some ty => ri_ok (g ty && !decide (i < 0)) (match rf_vn a.2 i.toNatClampNeg with
        | some v => some (v :: r)
        | none => none)
      | none => none)
    | _ => none)
  | _ => none
theorem rf_ald_eq {tyL : List FieldType} {g : FieldType → Bool} {st st' : List Value} {w : rf_W} (h : rf_ald tyL g st w = some st') : ri_ald tyL g st (rf_wa w) = some st' := by
  unfold rf_ald at h
  split at h
  · rename_i i q r
    unfold ri_ald
    dsimp only
    rw [rf_wn_eq]
    cases hq : rf_wn w q with
    | none => rw [hq] at h; cases h
    | some x =>
      rw [hq] at h
      cases x with
      | inr o => cases h
      | inl a =>
        show (match ri_nth tyL a.1 with
          | some ty => ri_ok (g ty && !decide (i < 0)) (match ri_nth (rf_va a.2) i.toNatClampNeg with
            | some v => some (v :: r)
            | none => none)
          | none => none) = some st'
        rw [rf_vn_eq]
        exact h
  · cases h
noncomputable def rf_ast (tyL : List FieldType) (g : FieldType → Value → Option Value) (st : List Value) (w : rf_W) : Option (List Value × rf_W) := match st with
  | x :: .int i :: .ref q :: r => (match rf_wn w q with
    | some (.inl a) => (match ri_nth tyL a.1 with
      | some ty => (match g ty x with
        | some v => ri_ok (!decide (i < 0)) (match rf_vn a.2 i.toNatClampNeg with
          | some _ => ri_ok (rf_vk a.2 && rf_wk w) (some (r, rf_wu (.inl (a.1, rf_vu v a.2 i.toNatClampNeg)) w q))
          | none => none)
        | none => none)
      | none => none)
    | _ => none)
  | _ => none
theorem rf_ast_eq {tyL : List FieldType} {g : FieldType → Value → Option Value} {st : List Value} {w : rf_W} {z : List Value × rf_W} (h : rf_ast tyL g st w = some z) : ri_ast tyL g st (rf_wa w) = some (z.1, rf_wa z.2) := by
  unfold rf_ast at h
  split at h
  · rename_i x i q r
    unfold ri_ast
    dsimp only
    rw [rf_wn_eq]
    cases hq : rf_wn w q with
    | none => rw [hq] at h; cases h
    | some y =>
      rw [hq] at h
      cases y with
      | inr o => cases h
      | inl a =>
        show (match ri_nth tyL a.1 with
          | some ty => (match g ty x with
            | some v => ri_ok (!decide (i < 0)) (match ri_nth (rf_va a.2) i.toNatClampNeg with
              | some _ => some (r, ri_upd (.inl (a.1, ri_upd v (rf_va a.2) i.toNatClampNeg)) (rf_wa w) q)
              | none => none)
            | none => none)
          | none => none) = some (z.1, rf_wa z.2)
        rw [rf_vn_eq]
        dsimp only at h
        cases hty : ri_nth tyL a.1 with
        | none => rw [hty] at h; cases h
        | some ty =>
          rw [hty] at h
          dsimp only at h ⊢
          cases hg : g ty x with
          | none => rw [hg] at h; cases h
          | some v =>
            rw [hg] at h
            obtain ⟨hb, h2⟩ := ri_ok_eq h
            dsimp only
            rw [hb]
            cases hv : rf_vn a.2 i.toNatClampNeg with
            | none => rw [hv] at h2; cases h2
            | some u =>
              rw [hv] at h2
              obtain ⟨hc, h3⟩ := ri_ok_eq h2
              obtain ⟨c1, c2⟩ := (Bool.and_eq_true _ _ ▸ hc : rf_vk a.2 = true ∧ rf_wk w = true)
              cases h3
              show some (r, ri_upd (.inl (a.1, ri_upd v (rf_va a.2) i.toNatClampNeg)) (rf_wa w) q) = some (r, rf_wa (rf_wu (.inl (a.1, rf_vu v a.2 i.toNatClampNeg)) w q))
              rw [rf_wu_eq c2 hq, ← rf_vu_eq c1 hv]
              rfl
  · cases h
noncomputable def rf_aast (a b : Nat) (st : List Value) (w : rf_W) : Option (List Value × rf_W) := match st with
  | .ref v :: .int i :: .ref q :: r => (match rf_wn w q with
    | some (.inl x) => (match rf_wn w v with
      | some (.inr y) => ri_ok (Nat.beq x.1 b && (Nat.beq y.1 a && !decide (i < 0))) (match rf_vn x.2 i.toNatClampNeg with
        | some _ => ri_ok (rf_vk x.2 && rf_wk w) (some (r, rf_wu (.inl (x.1, rf_vu (.ref v) x.2 i.toNatClampNeg)) w q))
        | none => none)
      | _ => none)
    | _ => none)
  | _ => none
theorem rf_aast_eq {a b : Nat} {st : List Value} {w : rf_W} {z : List Value × rf_W} (h : rf_aast a b st w = some z) : ri_aast a b st (rf_wa w) = some (z.1, rf_wa z.2) := by
  unfold rf_aast at h
  split at h
  · rename_i v i q r
    unfold ri_aast
    dsimp only
    rw [rf_wn_eq, rf_wn_eq]
    cases hq : rf_wn w q with
    | none => rw [hq] at h; cases h
    | some x =>
      rw [hq] at h
      cases x with
      | inr o => cases h
      | inl x =>
        dsimp only at h
        cases hv : rf_wn w v with
        | none => rw [hv] at h; cases h
        | some y =>
          rw [hv] at h
          cases y with
          | inl o => cases h
          | inr y =>
            obtain ⟨hb, h2⟩ := ri_ok_eq h
            show ri_ok (Nat.beq x.1 b && (Nat.beq y.1 a && !decide (i < 0))) (match ri_nth (rf_va x.2) i.toNatClampNeg with
              | some _ => some (r, ri_upd (.inl (x.1, ri_upd (.ref v) (rf_va x.2) i.toNatClampNeg)) (rf_wa w) q)
              | none => none) = some (z.1, rf_wa z.2)
            rw [hb, rf_vn_eq]
            cases hu : rf_vn x.2 i.toNatClampNeg with
            | none => rw [hu] at h2; cases h2
            | some u =>
              rw [hu] at h2
              obtain ⟨hc, h3⟩ := ri_ok_eq h2
              obtain ⟨c1, c2⟩ := (Bool.and_eq_true _ _ ▸ hc : rf_vk x.2 = true ∧ rf_wk w = true)
              cases h3
              show some (r, ri_upd (.inl (x.1, ri_upd (.ref v) (rf_va x.2) i.toNatClampNeg)) (rf_wa w) q) = some (r, rf_wa (rf_wu (.inl (x.1, rf_vu (.ref v) x.2 i.toNatClampNeg)) w q))
              rw [rf_wu_eq c2 hq, ← rf_vu_eq c1 hu]
              rfl
  · cases h
noncomputable def rf_alen (tyL : List FieldType) (st : List Value) (w : rf_W) : Option (List Value) := match st with
  | .ref q :: r => (match rf_wn w q with
    | some (.inl a) => (match ri_nth tyL a.1 with
      | some _ => some (.int (Int32.ofNat (rf_vl a.2)) :: r)
      | none => none)
    | _ => none)
  | _ => none
theorem rf_alen_eq {tyL : List FieldType} {st st' : List Value} {w : rf_W} (h : rf_alen tyL st w = some st') : ri_alen2 tyL st (rf_wa w) = some st' := by
  unfold rf_alen at h
  split at h
  · rename_i q r
    unfold ri_alen2
    dsimp only
    rw [rf_wn_eq]
    cases hq : rf_wn w q with
    | none => rw [hq] at h; cases h
    | some x =>
      rw [hq] at h
      cases x with
      | inr o => cases h
      | inl a =>
        show (match ri_nth tyL a.1 with
          | some _ => some (.int (Int32.ofNat (rf_va a.2).length) :: r)
          | none => none) = some st'
        rw [rf_vl_eq]
        exact h
  · cases h
noncomputable def rf_newa (t : Nat) (d : Value) (st : List Value) (w : rf_W) : Option (Nat × List Value × rf_W) := match st with
  | .int n :: r => ri_ok ((!decide (n < 0) && Nat.ble n.toNatClampNeg 60000000) && Nat.blt w.1 1024) (some (n.toNatClampNeg, .ref w.1 :: r, rf_wp w (.inl (t, rf_nv n.toNatClampNeg d))))
  | _ => none
theorem rf_newa_eq {t : Nat} {d : Value} {st : List Value} {w : rf_W} {z : Nat × List Value × rf_W} (h : rf_newa t d st w = some z) : ri_newa t d st (rf_wa w) = some (z.1, z.2.1, rf_wa z.2.2) := by
  unfold rf_newa at h
  split at h
  · rename_i n r
    obtain ⟨hb, h2⟩ := ri_ok_eq h
    obtain ⟨b1, b2⟩ := (Bool.and_eq_true _ _ ▸ hb : (!decide (n < 0) && Nat.ble n.toNatClampNeg 60000000) = true ∧ Nat.blt w.1 1024 = true)
    cases h2
    unfold ri_newa
    dsimp only
    rw [b1, rf_wa_len, rf_wp_eq b2]
    show some (n.toNatClampNeg, .ref w.1 :: r, rf_wa w ++ [.inl (t, List.replicate n.toNatClampNeg d)]) = some (n.toNatClampNeg, .ref w.1 :: r, rf_wa w ++ [.inl (t, rf_va (rf_nv n.toNatClampNeg d))])
    rw [rf_nv_eq]
  · cases h
noncomputable def rf_mna (a b : Nat) (st : List Value) (w : rf_W) : Option (Nat × Nat × List Value × rf_W) := match st with
  | .int k :: .int n :: r => ri_ok (((!decide (n < 0) && Nat.ble n.toNatClampNeg 100000) && (!decide (k < 0) && Nat.ble k.toNatClampNeg 100000)) && Nat.ble (w.1 + (1 + n.toNatClampNeg)) 1024) (some (n.toNatClampNeg, k.toNatClampNeg, .ref w.1 :: r, rf_wps (.inl (b, .inl (ri_refs n.toNatClampNeg (w.1 + 1))) :: List.replicate n.toNatClampNeg (.inl (a, rf_nv k.toNatClampNeg (.double 0)))) w))
  | _ => none
theorem rf_mna_eq {a b : Nat} {st : List Value} {w : rf_W} {z : Nat × Nat × List Value × rf_W} (h : rf_mna a b st w = some z) : ri_mna a b st (rf_wa w) = some (z.1, z.2.1, z.2.2.1, rf_wa z.2.2.2) := by
  unfold rf_mna at h
  split at h
  · rename_i k n r
    obtain ⟨hb, h2⟩ := ri_ok_eq h
    obtain ⟨b1, b2⟩ := (Bool.and_eq_true _ _ ▸ hb : ((!decide (n < 0) && Nat.ble n.toNatClampNeg 100000) && (!decide (k < 0) && Nat.ble k.toNatClampNeg 100000)) = true ∧ Nat.ble (w.1 + (1 + n.toNatClampNeg)) 1024 = true)
    have b3 := Nat.le_of_ble_eq_true b2
    cases h2
    unfold ri_mna
    dsimp only
    rw [b1, rf_wa_len, rf_wps_eq _ _ (by rw [List.length_cons, List.length_replicate]; omega), List.map_cons, List.map_replicate]
    show some (n.toNatClampNeg, k.toNatClampNeg, .ref w.1 :: r, rf_wa w ++ .inl (b, ri_refs n.toNatClampNeg (w.1 + 1)) :: List.replicate n.toNatClampNeg (.inl (a, List.replicate k.toNatClampNeg (.double 0)))) = some (n.toNatClampNeg, k.toNatClampNeg, .ref w.1 :: r, rf_wa w ++ .inl (b, ri_refs n.toNatClampNeg (w.1 + 1)) :: List.replicate n.toNatClampNeg (.inl (a, rf_va (rf_nv k.toNatClampNeg (.double 0)))))
    rw [rf_nv_eq]
  · cases h
/-- a copy of nothing -/
noncomputable def rf_acopy (tyL : List FieldType) (bud : Nat) (st : List Value) (w : rf_W) : Option (List Value × rf_W) := match st with
  | .int n :: .int dp :: .ref q1 :: .int sp :: .ref q0 :: r => (match rf_wn w q0 with
    | some (.inl a0) => (match rf_wn w q1 with
      | some (.inl a1) => (match ri_nth tyL a0.1 with
        | some t => ri_ok (decide (n = 0) && (Nat.beq a0.1 a1.1 && (!refKind t && (!decide (sp < 0) && (!decide (dp < 0) && (Nat.ble sp.toNatClampNeg (rf_vl a0.2) && (Nat.ble dp.toNatClampNeg (rf_vl a1.2) && Nat.ble ((r.map fun v => v.category).sum + 18) bud)))))))
          (some (r, w))
        | none => none)
      | _ => none)
    | _ => none)
  | _ => none
theorem rf_set_id {α : Type} {l : List α} {q : Nat} {x : α} (h : l[q]? = some x) : l.set q x = l := by
  apply List.ext_getElem?
  intro j
  rw [List.getElem?_set]
  by_cases e : q = j
  · subst e
    have h9 := (List.getElem?_eq_some_iff.mp h).1
    rw [if_pos rfl, if_pos h9, h]
  · rw [if_neg e]
theorem rf_acopy_eq {tyL : List FieldType} {bud : Nat} {st : List Value} {w : rf_W} {z : List Value × rf_W} (h : rf_acopy tyL bud st w = some z) : ri_acopy tyL bud st (rf_wa w) = some (z.1, rf_wa z.2) := by
  unfold rf_acopy at h
  split at h
  · rename_i n dp q1 sp q0 r
    unfold ri_acopy
    dsimp only
    have hN : ri_nth (rf_wa w) q1 = (rf_wn w q1).map rf_ea := rf_wn_eq
    rw [rf_wn_eq, rf_wn_eq]
    cases h0 : rf_wn w q0 with
    | none => rw [h0] at h; cases h
    | some x0 =>
      rw [h0] at h
      cases x0 with
      | inr o => cases h
      | inl a0 =>
        dsimp only at h
        cases h1 : rf_wn w q1 with
        | none => rw [h1] at h; cases h
        | some x1 =>
          rw [h1] at h hN
          cases x1 with
          | inr o => cases h
          | inl a1 =>
            dsimp only at h
            show (match ri_nth tyL a0.1 with
              | some t => ri_ok (Nat.beq a0.1 a1.1 && (!refKind t && (!decide (sp < 0) && (!decide (dp < 0) && (!decide (n < 0) && (Nat.ble (sp.toNatClampNeg + n.toNatClampNeg) (rf_va a0.2).length && (Nat.ble (dp.toNatClampNeg + n.toNatClampNeg) (rf_va a1.2).length && ((((rf_va a0.2).drop sp.toNatClampNeg).take n.toNatClampNeg).all (ri_ft t) && Nat.ble ((r.map fun v => v.category).sum + 18) bud))))))))
                (some (r, ri_upd (.inl (a1.1, ri_cpy (rf_va a0.2) (rf_va a1.2) sp.toNatClampNeg dp.toNatClampNeg n.toNatClampNeg)) (rf_wa w) q1))
              | none => none) = some (z.1, rf_wa z.2)
            cases ht : ri_nth tyL a0.1 with
            | none => rw [ht] at h; cases h
            | some t =>
              rw [ht] at h
              obtain ⟨hb, h2⟩ := ri_ok_eq h
              simp only [Bool.and_eq_true] at hb
              obtain ⟨c1, c2, c3, c4, c5, c6, c7, c8⟩ := hb
              cases h2
              have e0 : n = 0 := of_decide_eq_true c1
              subst e0
              have ez : (0 : Int32).toNatClampNeg = 0 := by decide +kernel
              have en : (!decide ((0 : Int32) < 0)) = true := by decide +kernel
              dsimp only
              rw [ez, c2, c3, c4, c5, en, Nat.add_zero, Nat.add_zero, rf_vl_eq, rf_vl_eq, c6, c7, c8, List.take_zero]
              show some (r, ri_upd (.inl (a1.1, ri_cpy (rf_va a0.2) (rf_va a1.2) sp.toNatClampNeg dp.toNatClampNeg 0)) (rf_wa w) q1) = some (r, rf_wa w)
              have e5 : ri_cpy (rf_va a0.2) (rf_va a1.2) sp.toNatClampNeg dp.toNatClampNeg 0 = rf_va a1.2 := by
                unfold ri_cpy
                rw [List.take_zero, List.nil_append, Nat.add_zero, List.take_append_drop]
              rw [e5, ri_upd_eq]
              rw [ri_nth_eq] at hN
              rw [rf_set_id (x := (.inl (a1.1, rf_va a1.2) : ri_E)) hN]
  · cases h
noncomputable def rf_lc (tyL : List FieldType) (a b : Nat) (lv : ri_L) (st : List Value) (w : rf_W) : Option (Value × Int64 × List Value) := match st with
  | x :: r => ri_ok (ri_isI x) (match ri_get 0 lv with
    | some (.ref q) => (match rf_getf a b (.ref q :: r) w with
      | some (.ref q2 :: _) => (match rf_ald tyL ri_tL (.int 3 :: .ref q2 :: r) w with
        | some (.long y :: _) => some (x, y, r)
        | _ => none)
      | _ => none)
    | _ => none)
  | [] => none
theorem rf_lc_eq {tyL : List FieldType} {a b : Nat} {lv : ri_L} {st : List Value} {w : rf_W} {z : Value × Int64 × List Value} (h : rf_lc tyL a b lv st w = some z) : ri_lc tyL a b lv st (rf_wa w) = some z := by
  unfold rf_lc at h
  split at h
  · rename_i x r
    obtain ⟨hb, h2⟩ := ri_ok_eq h
    unfold ri_lc
    dsimp only
    rw [hb]
    show (match ri_get 0 lv with
      | some (.ref q) => (match ri_getf a b (.ref q :: r) (rf_wa w) with
        | some (.ref q2 :: _) => (match ri_ald tyL ri_tL (.int 3 :: .ref q2 :: r) (rf_wa w) with
          | some (.long y :: _) => some (x, y, r)
          | _ => none)
        | _ => none)
      | _ => none) = some z
    split at h2
    · rename_i q hq
      split at h2
      · rename_i q2 l9 h3
        rw [rf_getf_eq h3]
        dsimp only
        split at h2
        · rename_i y l8 h4
          rw [rf_ald_eq h4]
          exact h2
        · cases h2
      · cases h2
    · cases h2
  · cases h

abbrev rf_Out : Type := (Option Value ⊕ Nat) × rf_W × Nat × Nat × List ri_Cd × Nat
abbrev rf_K : Type := Nat → Nat → ri_M → List ri_Op → Nat → ri_L → List Value → rf_W → Nat → Nat → Nat → Option rf_Out
noncomputable def rf_oa (z : rf_Out) : ri_Out := (z.1, rf_wa z.2.1, z.2.2)
section RFD
variable (Ms : List ri_M) (ty : Nat → Nat → FieldType) (df : Nat → List Value) (tyL : List FieldType) (exl : Nat → Nat) (xs : Nat → Value) (L : Nat) (al : Nat → Bool) (orc : List (Bool ⊕ Int32))
noncomputable def rf_more (cs : List ri_Cd) (o : Option rf_Out) : Option rf_Out := match o with
  | some z => some (z.1, z.2.1, z.2.2.1, z.2.2.2.1, cs ++ z.2.2.2.2.1, z.2.2.2.2.2)
  | none => none
noncomputable def rf_enter (ih : rf_K) (d bud : Nat) (M : ri_M) (vals rest : List Value) (w : rf_W) (fr : Nat) : Option rf_Out :=
  ri_ok (Nat.ble 1 d && (Nat.ble (19 + M.2.2.1) bud && (Nat.ble (ri_cat rest) 8 && Nat.ble (lg_sl vals).length M.2.2.1))) (ih (d - 1) (bud - (19 + M.2.2.1)) M M.2.2.2.2.2 0 (lv_args 0 vals) [] w 0 0 fr)
noncomputable def rf_back (ih : rf_K) (d bud : Nat) (M : ri_M) (nxt : List ri_Op) (pc : Nat) (lv : ri_L) (rest : List Value) (nc ns : Nat) (o : Option rf_Out) : Option rf_Out := match o with
  | some (.inl r, w, nc2, ns2, cs, fr) => rf_more cs (ih d bud M nxt (pc + 3) lv (r.toList ++ rest) w (nc + nc2) (ns + ns2) fr)
  | some (.inr x, w, nc2, ns2, cs, fr) => some (.inr x, w, nc + nc2, ns + ns2, cs, fr)
  | none => none
noncomputable def rf_caught (ih : rf_K) (d bud : Nat) (M : ri_M) (lv : ri_L) (w : rf_W) (nc ns fr : Nat) (cs : List ri_Cd) (os : List ri_Op) : Option rf_Out := match os with
  | oh :: nx2 => (match oh.2.2.1 with
    | .astore_n k => ri_ok (Nat.blt k.val M.2.2.1) (rf_more cs (ih d bud M nx2 (oh.1 + 1) (lv.filter (ri_f1 k.val)) [] w nc ns fr))
    | .astore k => ri_ok (Nat.blt k M.2.2.1) (rf_more cs (ih d bud M nx2 (oh.1 + 2) (lv.filter (ri_f1 k)) [] w nc ns fr))
    | _ => none)
  | [] => none
noncomputable def rf_backH (ih : rf_K) (d bud : Nat) (M : ri_M) (nxt : List ri_Op) (pc : Nat) (lv : ri_L) (rest : List Value) (nc ns : Nat) (hs : List Nat) (o : Option rf_Out) : Option rf_Out := match o with
  | some (.inl r, w, nc2, ns2, cs, fr) => rf_more cs (ih d bud M nxt (pc + 3) lv (r.toList ++ rest) w (nc + nc2) (ns + ns2) fr)
  | some (.inr x, w, nc2, ns2, cs, fr) => ri_ok (!al w.1) (match ri_nth hs x with
    | some t => rf_caught ih d bud M lv w (nc + nc2) (ns + ns2) fr cs (ri_drop M.2.2.2.2.2 t)
    | none => none)
  | none => none
noncomputable def rf_call (ih : rf_K) (d bud : Nat) (M : ri_M) (nxt : List ri_Op) (pc : Nat) (lv : ri_L) (st : List Value) (w : rf_W) (nc ns fr a b : Nat) (ts : List Nat) : Option rf_Out := match ri_nth Ms a with
  | some M2 => (match ri_split M2.2.2.2.2.1 [] st with
    | some (As, rest) => (match b with
      | 0 => (match rest with
        | .ref q :: rest => (match rf_wn w q with
          | some (.inr o) => ri_ok (match ts with | [t] => Nat.beq o.1 t | _ => false) (rf_back ih d bud M nxt pc lv rest nc ns (rf_enter ih d bud M2 (.ref q :: As) rest w fr))
          | _ => none)
        | _ => none)
      | 1 => rf_back ih d bud M nxt pc lv rest nc ns (rf_enter ih d bud M2 As rest w fr)
      | 2 => (match rest with
        | .ref q :: rest => rf_back ih d bud M nxt pc lv rest nc ns (rf_enter ih d bud M2 (.ref q :: As) rest w fr)
        | _ => none)
      | 3 => (match rest with
        | .ref q :: rest => rf_back ih d bud M nxt pc lv rest nc ns (rf_enter ih d bud M2 (.ref q :: As) rest w fr)
        | _ => none)
      | 4 => rf_back ih d bud M nxt pc lv rest nc ns (rf_enter ih d bud M2 As rest w fr)
      | 5 => (match rest with
        | .ref q :: rest => (match rf_wn w q with
          | some (.inr o) => (match ts with
            | t :: hs => ri_ok (Nat.beq o.1 t) (rf_backH al ih d bud M nxt pc lv rest nc ns hs (rf_enter ih d bud M2 (.ref q :: As) rest w fr))
            | [] => none)
          | _ => none)
        | _ => none)
      | 6 => rf_back ih d bud M nxt pc lv rest nc ns (rf_enter ih d bud M2 As rest w fr)
      | _ => none)
    | none => none)
  | none => none
noncomputable def rf_ret (M : ri_M) (i : Instr) (st : List Value) (w : rf_W) (nc ns fr : Nat) : Option rf_Out := match ri_ret M i st [] nc ns fr with
  | some z => some (z.1, w, z.2.2)
  | none => none
noncomputable def rf_exec (ih : rf_K) (d bud : Nat) (M : ri_M) (nxt : List ri_Op) (lv : ri_L) (st : List Value) (w : rf_W) (nc ns fr pc κ : Nat) (i : Instr) (a b : Nat) (v : Value) (ts : List Nat) : Option rf_Out := match κ with
  | 0 => (match ri_pure M.2.2.1 i pc lv st with
    | some z => ih d bud M (ri_next M nxt ts z.1) z.2.1 z.2.2.1 z.2.2.2 w nc ns fr
    | none => none)
  | 1 => (match rf_getf a b st w with
    | some st => ih d bud M nxt (pc + 3) lv st w nc ns fr
    | none => none)
  | 2 => (match rf_putf (ty a b) a b st w with
    | some z => ih d bud M nxt (pc + 3) lv z.1 z.2 nc ns fr
    | none => none)
  | 3 => ih d bud M nxt (pc + ri_len i) lv (v :: st) w nc ns fr
  | 4 => rf_call Ms al ih d bud M nxt pc lv st w nc ns fr a b ts
  | 5 => (match rf_ald tyL ri_tI st w with
    | some st => ih d bud M nxt (pc + 1) lv st w nc ns fr
    | none => none)
  | 6 => (match rf_ast tyL ri_gI st w with
    | some z => ih d bud M nxt (pc + 1) lv z.1 z.2 nc ns fr
    | none => none)
  | 7 => (match rf_ald tyL ri_tL st w with
    | some st => ih d bud M nxt (pc + 1) lv st w nc ns fr
    | none => none)
  | 8 => (match rf_ast tyL ri_gL st w with
    | some z => ih d bud M nxt (pc + 1) lv z.1 z.2 nc ns fr
    | none => none)
  | 9 => (match rf_ald tyL ri_tD st w with
    | some st => ih d bud M nxt (pc + 1) lv st w nc ns fr
    | none => none)
  | 10 => (match rf_ast tyL ri_gD st w with
    | some z => ih d bud M nxt (pc + 1) lv z.1 z.2 nc ns fr
    | none => none)
  | 11 => (match rf_ald tyL ri_tA st w with
    | some st => ih d bud M nxt (pc + 1) lv st w nc ns fr
    | none => none)
  | 12 => (match rf_ald tyL ri_tB st w with
    | some st => ih d bud M nxt (pc + 1) lv st w nc ns fr
    | none => none)
  | 13 => (match rf_ast tyL ri_gB st w with
    | some z => ih d bud M nxt (pc + 1) lv z.1 z.2 nc ns fr
    | none => none)
  | 14 => (match rf_aast a b st w with
    | some z => ih d bud M nxt (pc + 1) lv z.1 z.2 nc ns fr
    | none => none)
  | 15 => (match rf_alen tyL st w with
    | some st => ih d bud M nxt (pc + 1) lv st w nc ns fr
    | none => none)
  | 16 => rf_ret M i st w nc ns fr
  | 17 => bif ri_conc a st then (match ri_pure M.2.2.1 i pc lv st with
      | some z => ih d bud M (ri_next M nxt ts z.1) z.2.1 z.2.2.1 z.2.2.2 w nc ns fr
      | none => none)
    else (match ri_sym M.2.2.1 (ri_nth orc fr) fr i pc lv st with
      | some z => rf_more [z.2.2] (ih d bud M (ri_next M nxt ts z.1.1) z.1.2.1 z.1.2.2.1 z.1.2.2.2 w nc ns z.2.1)
      | none => none)
  | 18 => ri_ok (al w.1 && Nat.blt w.1 1024) (ih d bud M nxt (pc + 3) lv (.ref w.1 :: st) (rf_wp w (.inr (a, df a))) (nc + 1) (ns + b) fr)
  | 19 => ri_ok (al w.1 && Nat.blt w.1 1024) (match rf_newa a v st w with
    | some z => ih d bud M nxt (pc + 2) lv z.2.1 z.2.2 (nc + 1) (ns + z.1) fr
    | none => none)
  | 20 => ri_ok (al w.1 && Nat.blt w.1 1024) (match rf_newa a .null st w with
    | some z => ih d bud M nxt (pc + 3) lv z.2.1 z.2.2 (nc + 1) (ns + z.1) fr
    | none => none)
  | 21 => (match st with
    | .ref _ :: r => ri_ok (Nat.ble 1 d && Nat.ble (ri_cat r + 12) bud) (ih d bud M nxt (pc + 3) lv r w nc ns fr)
    | _ => none)
  | 22 => ri_ok (Nat.ble 1 d) (match rf_acopy tyL bud st w with
    | some z => ih d bud M nxt (pc + 3) lv z.1 z.2 nc ns fr
    | none => none)
  | 23 => ri_ok (Nat.ble (exl a + 4) d && Nat.ble (ri_cat st + (13 * (exl a + 1) + 42)) bud) (some (.inr a, w, nc + 1, ns + 6, [], fr))
  | 24 => (match st with
    | .int j :: .ref q :: r => ri_ok (Nat.beq q 1000000 && (!decide (j < 0) && Nat.blt j.toNatClampNeg L)) (ih d bud M nxt (pc + 1) lv (xs j.toNatClampNeg :: r) w nc ns fr)
    | _ => none)
  | 25 => (match st with
    | .ref q :: r => ri_ok (Nat.beq q 1000000) (ih d bud M nxt (pc + 1) lv (.int (Int32.ofNat L) :: r) w nc ns fr)
    | _ => none)
  | 26 => ri_ok (al w.1) (match rf_mna a b st w with
    | some z => ri_ok (rf_wk z.2.2.2) (ih d bud M nxt (pc + 4) lv z.2.2.1 z.2.2.2 (nc + (1 + z.1)) (ns + (z.1 + z.1 * z.2.1)) fr)
    | none => none)
  | 27 => bif ri_conc 1 st then (match rf_ast tyL ri_gB st w with
      | some z => ih d bud M nxt (pc + 1) lv z.1 z.2 nc ns fr
      | none => none)
    else (match rf_ast tyL (ri_gU fr) st w with
      | some z => rf_more [(.i2b, ri_top st, .int 0, fr, true)] (ih d bud M nxt (pc + 1) lv z.1 z.2 nc ns (fr + 1))
      | none => none)
  | 28 => (match rf_lc tyL a b lv st w with
    | some z => (match ri_nth orc fr with
      | some (.inl g) => (match v with
        | .ref t => rf_more [(.lcmp, z.1, .long z.2.1, 0, g)] (ih d bud M (ri_next M nxt ts (bif g then 1 else 2)) (bif g then t else pc + 11) lv z.2.2 w nc ns (fr + 1))
        | _ => none)
      | _ => none)
    | none => none)
  | _ => none
noncomputable def rf_run (fuel : Nat) : rf_K := Nat.rec (fun _ _ _ _ _ _ _ _ _ _ _ => none) (fun _ ih d bud M cur pc lv st w nc ns fr => match cur with
  | o :: nxt => ri_ok (Nat.beq o.1 pc) (rf_exec Ms ty df tyL exl xs L al orc ih d bud M nxt lv st w nc ns fr pc o.2.1 o.2.2.1 o.2.2.2.1 o.2.2.2.2.1 o.2.2.2.2.2.1 o.2.2.2.2.2.2)
  | [] => none) fuel
end RFD
def rf_Ref (f : rf_K) (g : ri_K) : Prop := ∀ (d bud : Nat) (M : ri_M) (cur : List ri_Op) (pc : Nat) (lv : ri_L) (st : List Value) (w : rf_W) (nc ns fr : Nat) (out : rf_Out), f d bud M cur pc lv st w nc ns fr = some out → g d bud M cur pc lv st (rf_wa w) nc ns fr = some (rf_oa out)
section RFE
variable {Ms : List ri_M} {ty : Nat → Nat → FieldType} {df : Nat → List Value} {tyL : List FieldType} {exl : Nat → Nat} {xs : Nat → Value} {L : Nat} {al : Nat → Bool} {orc : List (Bool ⊕ Int32)} {f : rf_K} {g : ri_K}
theorem rf_more_eq {cs : List ri_Cd} {o : Option rf_Out} {o2 : Option ri_Out} {out : rf_Out} (h : rf_more cs o = some out) (h2 : ∀ z : rf_Out, o = some z → o2 = some (rf_oa z)) : ri_more cs o2 = some (rf_oa out) := by
  cases o with
  | none => cases h
  | some z =>
    rw [h2 z rfl]
    cases h
    rfl
theorem rf_enter_ok (hR : rf_Ref f g) {d bud : Nat} {M : ri_M} {vals rest : List Value} {w : rf_W} {fr : Nat} {o : rf_Out} (h : rf_enter f d bud M vals rest w fr = some o) : ri_enter g d bud M vals rest (rf_wa w) fr = some (rf_oa o) := by
  obtain ⟨hb, h2⟩ := ri_ok_eq h
  unfold ri_enter
  rw [hb]
  exact hR _ _ _ _ _ _ _ _ _ _ _ _ h2
theorem rf_back_ok (hR : rf_Ref f g) {d bud : Nat} {M : ri_M} {nxt : List ri_Op} {pc : Nat} {lv : ri_L} {rest : List Value} {nc ns : Nat} {o : Option rf_Out} {o2 : Option ri_Out} {out : rf_Out} (h : rf_back f d bud M nxt pc lv rest nc ns o = some out) (h2 : ∀ z : rf_Out, o = some z → o2 = some (rf_oa z)) : ri_back g d bud M nxt pc lv rest nc ns o2 = some (rf_oa out) := by
  unfold rf_back at h
  split at h
  · rw [h2 _ rfl]
    exact rf_more_eq h (fun z hz => hR _ _ _ _ _ _ _ _ _ _ _ _ hz)
  · rw [h2 _ rfl]
    cases h
    rfl
  · cases h
theorem rf_caught_ok (hR : rf_Ref f g) {d bud : Nat} {M : ri_M} {lv : ri_L} {w : rf_W} {nc ns fr : Nat} {cs : List ri_Cd} {os : List ri_Op} {out : rf_Out} (h : rf_caught f d bud M lv w nc ns fr cs os = some out) : ri_caught g d bud M lv (rf_wa w) nc ns fr cs os = some (rf_oa out) := by
  unfold rf_caught at h
  unfold ri_caught
  split at h
  · rename_i oh nx2
    dsimp only
    split at h
    · rename_i k hk
      rw [hk]
      dsimp only
      obtain ⟨hb, h2⟩ := ri_ok_eq h
      rw [hb]
      exact rf_more_eq h2 (fun z hz => hR _ _ _ _ _ _ _ _ _ _ _ _ hz)
    · rename_i k hk
      rw [hk]
      dsimp only
      obtain ⟨hb, h2⟩ := ri_ok_eq h
      rw [hb]
      exact rf_more_eq h2 (fun z hz => hR _ _ _ _ _ _ _ _ _ _ _ _ hz)
    · cases h
  · cases h
theorem rf_backH_ok (hR : rf_Ref f g) {d bud : Nat} {M : ri_M} {nxt : List ri_Op} {pc : Nat} {lv : ri_L} {rest : List Value} {nc ns : Nat} {hs : List Nat} {o : Option rf_Out} {o2 : Option ri_Out} {out : rf_Out} (h : rf_backH al f d bud M nxt pc lv rest nc ns hs o = some out) (h2 : ∀ z : rf_Out, o = some z → o2 = some (rf_oa z)) : ri_backH al g d bud M nxt pc lv rest nc ns hs o2 = some (rf_oa out) := by
  unfold rf_backH at h
  split at h
  · rw [h2 _ rfl]
    exact rf_more_eq h (fun z hz => hR _ _ _ _ _ _ _ _ _ _ _ _ hz)
  · rename_i x w2 nc2 ns2 cs fr2
    rw [h2 _ rfl]
    obtain ⟨hb, h3⟩ := ri_ok_eq h
    show ri_ok (!al (rf_wa w2).length) (match ri_nth hs x with
      | some t => ri_caught g d bud M lv (rf_wa w2) (nc + nc2) (ns + ns2) fr2 cs (ri_drop M.2.2.2.2.2 t)
      | none => none) = some (rf_oa out)
    rw [rf_wa_len, hb]
    cases hx : ri_nth hs x with
    | none => rw [hx] at h3; cases h3
    | some t =>
      rw [hx] at h3
      exact rf_caught_ok hR h3
  · cases h
theorem rf_call_ok (hR : rf_Ref f g) {d bud : Nat} {M : ri_M} {nxt : List ri_Op} {pc : Nat} {lv : ri_L} {st : List Value} {w : rf_W} {nc ns fr a b : Nat} {ts : List Nat} {out : rf_Out} (h : rf_call Ms al f d bud M nxt pc lv st w nc ns fr a b ts = some out) : ri_call Ms al g d bud M nxt pc lv st (rf_wa w) nc ns fr a b ts = some (rf_oa out) := by
  unfold rf_call at h
  unfold ri_call
  cases hM : ri_nth Ms a with
  | none => rw [hM] at h; cases h
  | some M2 =>
    rw [hM] at h
    dsimp only at h ⊢
    cases hs : ri_split M2.2.2.2.2.1 [] st with
    | none => rw [hs] at h; cases h
    | some As =>
      obtain ⟨As, rest⟩ := As
      rw [hs] at h
      dsimp only at h ⊢
      split at h
      · split at h
        · rename_i q rest2
          dsimp only
          rw [rf_wn_eq]
          cases hq : rf_wn w q with
          | none => rw [hq] at h; cases h
          | some x =>
            rw [hq] at h
            cases x with
            | inl o => cases h
            | inr o =>
              obtain ⟨hb, h2⟩ := ri_ok_eq h
              show ri_ok (match (generalizing := false) ts with | [t] => Nat.beq o.1 t | _ => false) (ri_back g d bud M nxt pc lv rest2 nc ns (ri_enter g d bud M2 (.ref q :: As) rest2 (rf_wa w) fr)) = some (rf_oa out)
              rw [hb]
              exact rf_back_ok hR h2 (fun z hz => rf_enter_ok hR hz)
        · cases h
      · exact rf_back_ok hR h (fun z hz => rf_enter_ok hR hz)
      · split at h
        · exact rf_back_ok hR h (fun z hz => rf_enter_ok hR hz)
        · cases h
      · split at h
        · exact rf_back_ok hR h (fun z hz => rf_enter_ok hR hz)
        · cases h
      · exact rf_back_ok hR h (fun z hz => rf_enter_ok hR hz)
      · split at h
        · rename_i q rest2
          dsimp only
          rw [rf_wn_eq]
          cases hq : rf_wn w q with
          | none => rw [hq] at h; cases h
          | some x =>
            rw [hq] at h
            cases x with
            | inl o => cases h
            | inr o =>
              dsimp only at h
              split at h
              · rename_i t hs9
                obtain ⟨hb, h2⟩ := ri_ok_eq h
                show ri_ok (Nat.beq o.1 t) (ri_backH al g d bud M nxt pc lv rest2 nc ns hs9 (ri_enter g d bud M2 (.ref q :: As) rest2 (rf_wa w) fr)) = some (rf_oa out)
                rw [hb]
                exact rf_backH_ok hR h2 (fun z hz => rf_enter_ok hR hz)
              · cases h
        · cases h
      · exact rf_back_ok hR h (fun z hz => rf_enter_ok hR hz)
      · cases h
theorem rf_okmap {α β : Type} (b : Bool) (x : α) (k : α → β) : ri_ok b (some (k x)) = (ri_ok b (some x)).map k := by cases b <;> rfl
theorem rf_ret_w (M : ri_M) (i : Instr) (st : List Value) (w : List ri_E) (nc ns fr : Nat) : ri_ret M i st w nc ns fr = (ri_ret M i st [] nc ns fr).map (fun z => (z.1, w, z.2.2)) := by
  unfold ri_ret
  split
  · split
    · exact rf_okmap _ ((.inl none, [], nc, ns, [], fr) : ri_Out) (fun z => (z.1, w, z.2.2))
    · rfl
  · split
    · rename_i x
      exact rf_okmap _ ((.inl (some (.int x)), [], nc, ns, [], fr) : ri_Out) (fun z => (z.1, w, z.2.2))
    · rename_i x
      exact rf_okmap _ ((.inl (some (.float x)), [], nc, ns, [], fr) : ri_Out) (fun z => (z.1, w, z.2.2))
    · rfl
  · split
    · rename_i x
      exact rf_okmap _ ((.inl (some (.long x)), [], nc, ns, [], fr) : ri_Out) (fun z => (z.1, w, z.2.2))
    · rfl
  · split
    · rename_i x
      exact rf_okmap _ ((.inl (some (.double x)), [], nc, ns, [], fr) : ri_Out) (fun z => (z.1, w, z.2.2))
    · rfl
  · split
    · rename_i x
      exact rf_okmap _ ((.inl (some (.ref x)), [], nc, ns, [], fr) : ri_Out) (fun z => (z.1, w, z.2.2))
    · rfl
  · rfl
theorem rf_ret_ok {M : ri_M} {i : Instr} {st : List Value} {w : rf_W} {nc ns fr : Nat} {out : rf_Out} (h : rf_ret M i st w nc ns fr = some out) : ri_ret M i st (rf_wa w) nc ns fr = some (rf_oa out) := by
  unfold rf_ret at h
  rw [rf_ret_w]
  cases hr : ri_ret M i st [] nc ns fr with
  | none => rw [hr] at h; cases h
  | some z =>
    rw [hr] at h
    cases h
    rfl
set_option maxHeartbeats 2000000 in
theorem rf_exec_ok (hR : rf_Ref f g) {d bud : Nat} {M : ri_M} {nxt : List ri_Op} {lv : ri_L} {st : List Value} {w : rf_W} {nc ns fr pc κ : Nat} {i : Instr} {a b : Nat} {v : Value} {ts : List Nat} {out : rf_Out} (h : rf_exec Ms ty df tyL exl xs L al orc f d bud M nxt lv st w nc ns fr pc κ i a b v ts = some out) : ri_exec Ms ty df tyL exl xs L al orc g d bud M nxt lv st (rf_wa w) nc ns fr pc κ i a b v ts = some (rf_oa out) := by
  have go : ∀ {d bud : Nat} {M : ri_M} {cur : List ri_Op} {pc : Nat} {lv : ri_L} {st : List Value} {w : rf_W} {nc ns fr : Nat} {out : rf_Out}, f d bud M cur pc lv st w nc ns fr = some out → g d bud M cur pc lv st (rf_wa w) nc ns fr = some (rf_oa out) := fun h => hR _ _ _ _ _ _ _ _ _ _ _ _ h
  have lt9 : ∀ {n : Nat}, Nat.blt n 1024 = true → Nat.blt n 1000000 = true := fun h => rf_blt_t (Nat.lt_of_lt_of_le (Nat.le_of_ble_eq_true h) (Nat.le_of_ble_eq_true rfl))
  unfold rf_exec at h
  split at h
  · split at h
    · rename_i z hz
      show (match ri_pure M.2.2.1 i pc lv st with
        | some z => g d bud M (ri_next M nxt ts z.1) z.2.1 z.2.2.1 z.2.2.2 (rf_wa w) nc ns fr
        | none => none) = some (rf_oa out)
      rw [hz]
      exact go h
    · cases h
  · split at h
    · rename_i st2 hz
      show (match ri_getf a b st (rf_wa w) with
        | some st => g d bud M nxt (pc + 3) lv st (rf_wa w) nc ns fr
        | none => none) = some (rf_oa out)
      rw [rf_getf_eq hz]
      exact go h
    · cases h
  · split at h
    · rename_i z hz
      show (match ri_putf (ty a b) a b st (rf_wa w) with
        | some z => g d bud M nxt (pc + 3) lv z.1 z.2 nc ns fr
        | none => none) = some (rf_oa out)
      rw [rf_putf_eq hz]
      exact go h
    · cases h
  · exact go h
  · exact rf_call_ok hR h
  · split at h
    · rename_i st2 hz
      show (match ri_ald tyL ri_tI st (rf_wa w) with
        | some st => g d bud M nxt (pc + 1) lv st (rf_wa w) nc ns fr
        | none => none) = some (rf_oa out)
      rw [rf_ald_eq hz]
      exact go h
    · cases h
  · split at h
    · rename_i z hz
      show (match ri_ast tyL ri_gI st (rf_wa w) with
        | some z => g d bud M nxt (pc + 1) lv z.1 z.2 nc ns fr
        | none => none) = some (rf_oa out)
      rw [rf_ast_eq hz]
      exact go h
    · cases h
  · split at h
    · rename_i st2 hz
      show (match ri_ald tyL ri_tL st (rf_wa w) with
        | some st => g d bud M nxt (pc + 1) lv st (rf_wa w) nc ns fr
        | none => none) = some (rf_oa out)
      rw [rf_ald_eq hz]
      exact go h
    · cases h
  · split at h
    · rename_i z hz
      show (match ri_ast tyL ri_gL st (rf_wa w) with
        | some z => g d bud M nxt (pc + 1) lv z.1 z.2 nc ns fr
        | none => none) = some (rf_oa out)
      rw [rf_ast_eq hz]
      exact go h
    · cases h
  · split at h
    · rename_i st2 hz
      show (match ri_ald tyL ri_tD st (rf_wa w) with
        | some st => g d bud M nxt (pc + 1) lv st (rf_wa w) nc ns fr
        | none => none) = some (rf_oa out)
      rw [rf_ald_eq hz]
      exact go h
    · cases h
  · split at h
    · rename_i z hz
      show (match ri_ast tyL ri_gD st (rf_wa w) with
        | some z => g d bud M nxt (pc + 1) lv z.1 z.2 nc ns fr
        | none => none) = some (rf_oa out)
      rw [rf_ast_eq hz]
      exact go h
    · cases h
  · split at h
    · rename_i st2 hz
      show (match ri_ald tyL ri_tA st (rf_wa w) with
        | some st => g d bud M nxt (pc + 1) lv st (rf_wa w) nc ns fr
        | none => none) = some (rf_oa out)
      rw [rf_ald_eq hz]
      exact go h
    · cases h
  · split at h
    · rename_i st2 hz
      show (match ri_ald tyL ri_tB st (rf_wa w) with
        | some st => g d bud M nxt (pc + 1) lv st (rf_wa w) nc ns fr
        | none => none) = some (rf_oa out)
      rw [rf_ald_eq hz]
      exact go h
    · cases h
  · split at h
    · rename_i z hz
      show (match ri_ast tyL ri_gB st (rf_wa w) with
        | some z => g d bud M nxt (pc + 1) lv z.1 z.2 nc ns fr
        | none => none) = some (rf_oa out)
      rw [rf_ast_eq hz]
      exact go h
    · cases h
  · split at h
    · rename_i z hz
      show (match ri_aast a b st (rf_wa w) with
        | some z => g d bud M nxt (pc + 1) lv z.1 z.2 nc ns fr
        | none => none) = some (rf_oa out)
      rw [rf_aast_eq hz]
      exact go h
    · cases h
  · split at h
    · rename_i st2 hz
      show (match ri_alen2 tyL st (rf_wa w) with
        | some st => g d bud M nxt (pc + 1) lv st (rf_wa w) nc ns fr
        | none => none) = some (rf_oa out)
      rw [rf_alen_eq hz]
      exact go h
    · cases h
  · exact rf_ret_ok h
  · show (bif ri_conc a st then (match ri_pure M.2.2.1 i pc lv st with
        | some z => g d bud M (ri_next M nxt ts z.1) z.2.1 z.2.2.1 z.2.2.2 (rf_wa w) nc ns fr
        | none => none)
      else (match ri_sym M.2.2.1 (ri_nth orc fr) fr i pc lv st with
        | some z => ri_more [z.2.2] (g d bud M (ri_next M nxt ts z.1.1) z.1.2.1 z.1.2.2.1 z.1.2.2.2 (rf_wa w) nc ns z.2.1)
        | none => none)) = some (rf_oa out)
    cases hc : ri_conc a st with
    | true =>
      rw [hc, cond_true] at h
      rw [cond_true]
      split at h
      · exact go h
      · cases h
    | false =>
      rw [hc, cond_false] at h
      rw [cond_false]
      split at h
      · rename_i z hz
        exact rf_more_eq h (fun z hz => go hz)
      · cases h
  · obtain ⟨hb, h2⟩ := ri_ok_eq h
    obtain ⟨b1, b2⟩ := (Bool.and_eq_true _ _ ▸ hb : al w.1 = true ∧ Nat.blt w.1 1024 = true)
    show ri_ok (al (rf_wa w).length && Nat.blt (rf_wa w).length 1000000) (g d bud M nxt (pc + 3) lv (.ref (rf_wa w).length :: st) (rf_wa w ++ [.inr (a, df a)]) (nc + 1) (ns + b) fr) = some (rf_oa out)
    have h3 := go h2
    rw [rf_wp_eq b2] at h3
    rw [rf_wa_len, b1, lt9 b2]
    exact h3
  · obtain ⟨hb, h2⟩ := ri_ok_eq h
    obtain ⟨b1, b2⟩ := (Bool.and_eq_true _ _ ▸ hb : al w.1 = true ∧ Nat.blt w.1 1024 = true)
    split at h2
    · rename_i z hz
      show ri_ok (al (rf_wa w).length && Nat.blt (rf_wa w).length 1000000) (match ri_newa a v st (rf_wa w) with
        | some z => g d bud M nxt (pc + 2) lv z.2.1 z.2.2 (nc + 1) (ns + z.1) fr
        | none => none) = some (rf_oa out)
      rw [rf_newa_eq hz, rf_wa_len, b1, lt9 b2]
      exact go h2
    · cases h2
  · obtain ⟨hb, h2⟩ := ri_ok_eq h
    obtain ⟨b1, b2⟩ := (Bool.and_eq_true _ _ ▸ hb : al w.1 = true ∧ Nat.blt w.1 1024 = true)
    split at h2
    · rename_i z hz
      show ri_ok (al (rf_wa w).length && Nat.blt (rf_wa w).length 1000000) (match ri_newa a .null st (rf_wa w) with
        | some z => g d bud M nxt (pc + 3) lv z.2.1 z.2.2 (nc + 1) (ns + z.1) fr
        | none => none) = some (rf_oa out)
      rw [rf_newa_eq hz, rf_wa_len, b1, lt9 b2]
      exact go h2
    · cases h2
  · split at h
    · rename_i q r
      obtain ⟨hb, h2⟩ := ri_ok_eq h
      show ri_ok (Nat.ble 1 d && Nat.ble (ri_cat r + 12) bud) (g d bud M nxt (pc + 3) lv r (rf_wa w) nc ns fr) = some (rf_oa out)
      rw [hb]
      exact go h2
    · cases h
  · obtain ⟨hb, h2⟩ := ri_ok_eq h
    split at h2
    · rename_i z hz
      show ri_ok (Nat.ble 1 d) (match ri_acopy tyL bud st (rf_wa w) with
        | some z => g d bud M nxt (pc + 3) lv z.1 z.2 nc ns fr
        | none => none) = some (rf_oa out)
      rw [rf_acopy_eq hz, hb]
      exact go h2
    · cases h2
  · obtain ⟨hb, h2⟩ := ri_ok_eq h
    cases h2
    show ri_ok (Nat.ble (exl a + 4) d && Nat.ble (ri_cat st + (13 * (exl a + 1) + 42)) bud) (some ((Sum.inr a, rf_wa w, nc + 1, ns + 6, [], fr) : ri_Out)) = some ((Sum.inr a, rf_wa w, nc + 1, ns + 6, [], fr) : ri_Out)
    rw [hb]
    rfl
  · split at h
    · rename_i j q r
      obtain ⟨hb, h2⟩ := ri_ok_eq h
      show ri_ok (Nat.beq q 1000000 && (!decide (j < 0) && Nat.blt j.toNatClampNeg L)) (g d bud M nxt (pc + 1) lv (xs j.toNatClampNeg :: r) (rf_wa w) nc ns fr) = some (rf_oa out)
      rw [hb]
      exact go h2
    · cases h
  · split at h
    · rename_i q r
      obtain ⟨hb, h2⟩ := ri_ok_eq h
      show ri_ok (Nat.beq q 1000000) (g d bud M nxt (pc + 1) lv (.int (Int32.ofNat L) :: r) (rf_wa w) nc ns fr) = some (rf_oa out)
      rw [hb]
      exact go h2
    · cases h
  · obtain ⟨hb, h2⟩ := ri_ok_eq h
    split at h2
    · rename_i z hz
      obtain ⟨hc, h3⟩ := ri_ok_eq h2
      show ri_ok (al (rf_wa w).length) (match ri_mna a b st (rf_wa w) with
        | some z => ri_ok (Nat.ble z.2.2.2.length 1000000) (g d bud M nxt (pc + 4) lv z.2.2.1 z.2.2.2 (nc + (1 + z.1)) (ns + (z.1 + z.1 * z.2.1)) fr)
        | none => none) = some (rf_oa out)
      rw [rf_mna_eq hz, rf_wa_len, hb]
      have h9 : Nat.ble (rf_wa z.2.2.2).length 1000000 = true := by
        rw [rf_wa_len]
        exact Nat.ble_eq_true_of_le (Nat.le_trans (rf_wk_n hc).1 (Nat.le_of_ble_eq_true rfl))
      show ri_ok (Nat.ble (rf_wa z.2.2.2).length 1000000) (g d bud M nxt (pc + 4) lv z.2.2.1 (rf_wa z.2.2.2) (nc + (1 + z.1)) (ns + (z.1 + z.1 * z.2.1)) fr) = some (rf_oa out)
      rw [h9]
      exact go h3
    · cases h2
  · show (bif ri_conc 1 st then (match ri_ast tyL ri_gB st (rf_wa w) with
        | some z => g d bud M nxt (pc + 1) lv z.1 z.2 nc ns fr
        | none => none)
      else (match ri_ast tyL (ri_gU fr) st (rf_wa w) with
        | some z => ri_more [(.i2b, ri_top st, .int 0, fr, true)] (g d bud M nxt (pc + 1) lv z.1 z.2 nc ns (fr + 1))
        | none => none)) = some (rf_oa out)
    cases hc : ri_conc 1 st with
    | true =>
      rw [hc, cond_true] at h
      rw [cond_true]
      split at h
      · rename_i z hz
        rw [rf_ast_eq hz]
        exact go h
      · cases h
    | false =>
      rw [hc, cond_false] at h
      rw [cond_false]
      split at h
      · rename_i z hz
        rw [rf_ast_eq hz]
        exact rf_more_eq h (fun z hz => go hz)
      · cases h
  · split at h
    · rename_i z hz
      show (match ri_lc tyL a b lv st (rf_wa w) with
        | some z => (match ri_nth orc fr with
          | some (.inl g9) => (match (generalizing := false) v with
            | .ref t => ri_more [(.lcmp, z.1, .long z.2.1, 0, g9)] (g d bud M (ri_next M nxt ts (bif g9 then 1 else 2)) (bif g9 then t else pc + 11) lv z.2.2 (rf_wa w) nc ns (fr + 1))
            | _ => none)
          | _ => none)
        | none => none) = some (rf_oa out)
      rw [rf_lc_eq hz]
      dsimp only
      split at h
      · rename_i g9 hg
        split at h
        · exact rf_more_eq h (fun z hz => go hz)
        · cases h
      · cases h
    · cases h
  · cases h
/-- what is reckoned over trees is what is reckoned over lists -/
theorem rf_run_ok : ∀ fuel : Nat, rf_Ref (rf_run Ms ty df tyL exl xs L al orc fuel) (ri_run Ms ty df tyL exl xs L al orc fuel)
  | 0 => fun d bud M cur pc lv st w nc ns fr out h => by cases h
  | n + 1 => fun d bud M cur pc lv st w nc ns fr out h => by
    cases cur with
    | nil => cases h
    | cons o nxt =>
      obtain ⟨hb, h2⟩ := ri_ok_eq (b := Nat.beq o.1 pc) h
      show ri_ok (Nat.beq o.1 pc) (ri_exec Ms ty df tyL exl xs L al orc (ri_run Ms ty df tyL exl xs L al orc n) d bud M nxt lv st (rf_wa w) nc ns fr pc o.2.1 o.2.2.1 o.2.2.2.1 o.2.2.2.2.1 o.2.2.2.2.2.1 o.2.2.2.2.2.2) = some (rf_oa out)
      rw [hb]
      exact rf_exec_ok (rf_run_ok n) h2
end RFE
end
section
/-! ===== the reckoner, part 15b: the same, each step a constant of its own ===== -/
abbrev rq_P : Type := Nat → Nat → ri_L → List Value → Option ri_R
noncomputable def rq_p_iconst (n : Int) (nL pc : Nat) (lv : ri_L) (st : List Value) : Option ri_R := some (0, pc + 1, lv, .int (Int32.ofInt n) :: st)
noncomputable def rq_p_bipush (n : Int) (nL pc : Nat) (lv : ri_L) (st : List Value) : Option ri_R := some (0, pc + 2, lv, .int (Int8.ofInt n).toInt32 :: st)
noncomputable def rq_p_sipush (n : Int) (nL pc : Nat) (lv : ri_L) (st : List Value) : Option ri_R := some (0, pc + 3, lv, .int (Int16.ofInt n).toInt32 :: st)
noncomputable def rq_p_lconst (n : Fin 2) (nL pc : Nat) (lv : ri_L) (st : List Value) : Option ri_R := some (0, pc + 1, lv, .long (Int64.ofNat (n : Nat)) :: st)
noncomputable def rq_p_aconst_null (nL pc : Nat) (lv : ri_L) (st : List Value) : Option ri_R := some (0, pc + 1, lv, .null :: st)
noncomputable def rq_p_dconst (n : Fin 2) (nL pc : Nat) (lv : ri_L) (st : List Value) : Option ri_R := ri_ok (Nat.beq n.val 0) (some (0, pc + 1, lv, .double FP.dconst0 :: st))
noncomputable def rq_p_iload (i : Nat) (nL pc : Nat) (lv : ri_L) (st : List Value) : Option ri_R := ri_gv (ri_get i lv) (fun v => some (0, pc + 2, lv, v :: st))
noncomputable def rq_p_iload_n (i : Fin 4) (nL pc : Nat) (lv : ri_L) (st : List Value) : Option ri_R := ri_gv (ri_get i.val lv) (fun v => some (0, pc + 1, lv, v :: st))
noncomputable def rq_p_istore (i : Nat) (nL pc : Nat) (lv : ri_L) (st : List Value) : Option ri_R := ri_v1 st (fun v r => ri_ok (Nat.blt (i) nL) (some (0, pc + 2, ri_s1 i v lv, r)))
noncomputable def rq_p_istore_n (i : Fin 4) (nL pc : Nat) (lv : ri_L) (st : List Value) : Option ri_R := ri_v1 st (fun v r => ri_ok (Nat.blt (i.val) nL) (some (0, pc + 1, ri_s1 i.val v lv, r)))
noncomputable def rq_p_lload (i : Nat) (nL pc : Nat) (lv : ri_L) (st : List Value) : Option ri_R := ri_gl (ri_get i lv) (fun x => some (0, pc + 2, lv, .long x :: st))
noncomputable def rq_p_lload_n (i : Fin 4) (nL pc : Nat) (lv : ri_L) (st : List Value) : Option ri_R := ri_gl (ri_get i.val lv) (fun x => some (0, pc + 1, lv, .long x :: st))
noncomputable def rq_p_dload (i : Nat) (nL pc : Nat) (lv : ri_L) (st : List Value) : Option ri_R := ri_gd (ri_get i lv) (fun x => some (0, pc + 2, lv, .double x :: st))
noncomputable def rq_p_dload_n (i : Fin 4) (nL pc : Nat) (lv : ri_L) (st : List Value) : Option ri_R := ri_gd (ri_get i.val lv) (fun x => some (0, pc + 1, lv, .double x :: st))
noncomputable def rq_p_aload (i : Nat) (nL pc : Nat) (lv : ri_L) (st : List Value) : Option ri_R := ri_gr (ri_get i lv) (fun x => some (0, pc + 2, lv, .ref x :: st)) (some (0, pc + 2, lv, .null :: st))
noncomputable def rq_p_aload_n (i : Fin 4) (nL pc : Nat) (lv : ri_L) (st : List Value) : Option ri_R := ri_gr (ri_get i.val lv) (fun x => some (0, pc + 1, lv, .ref x :: st)) (some (0, pc + 1, lv, .null :: st))
noncomputable def rq_p_lstore (i : Nat) (nL pc : Nat) (lv : ri_L) (st : List Value) : Option ri_R := ri_l1 st (fun x r => ri_ok (Nat.blt (i + 1) nL) (some (0, pc + 2, ri_s2 i (.long x) lv, r)))
noncomputable def rq_p_lstore_n (i : Fin 4) (nL pc : Nat) (lv : ri_L) (st : List Value) : Option ri_R := ri_l1 st (fun x r => ri_ok (Nat.blt (i.val + 1) nL) (some (0, pc + 1, ri_s2 i.val (.long x) lv, r)))
noncomputable def rq_p_dstore (i : Nat) (nL pc : Nat) (lv : ri_L) (st : List Value) : Option ri_R := ri_d1 st (fun x r => ri_ok (Nat.blt (i + 1) nL) (some (0, pc + 2, ri_s2 i (.double x) lv, r)))
noncomputable def rq_p_dstore_n (i : Fin 4) (nL pc : Nat) (lv : ri_L) (st : List Value) : Option ri_R := ri_d1 st (fun x r => ri_ok (Nat.blt (i.val + 1) nL) (some (0, pc + 1, ri_s2 i.val (.double x) lv, r)))
noncomputable def rq_p_astore (i : Nat) (nL pc : Nat) (lv : ri_L) (st : List Value) : Option ri_R := ri_r1 st (fun x r => ri_ok (Nat.blt i nL) (some (0, pc + 2, ri_s1 i (.ref x) lv, r))) (fun r => ri_ok (Nat.blt i nL) (some (0, pc + 2, ri_s1 i .null lv, r)))
noncomputable def rq_p_astore_n (i : Fin 4) (nL pc : Nat) (lv : ri_L) (st : List Value) : Option ri_R := ri_r1 st (fun x r => ri_ok (Nat.blt i.val nL) (some (0, pc + 1, ri_s1 i.val (.ref x) lv, r))) (fun r => ri_ok (Nat.blt i.val nL) (some (0, pc + 1, ri_s1 i.val .null lv, r)))
noncomputable def rq_p_iinc (i : Nat) (n : Int) (nL pc : Nat) (lv : ri_L) (st : List Value) : Option ri_R := ri_gi (ri_get i lv) (fun x => ri_ok (Nat.blt i nL) (some (0, pc + 3, ri_s1 i (.int (x + Int32.ofInt n)) lv, st)))
noncomputable def rq_p_iadd (nL pc : Nat) (lv : ri_L) (st : List Value) : Option ri_R := ri_i2 st (fun y x r => some (0, pc + 1, lv, .int (x + y) :: r))
noncomputable def rq_p_isub (nL pc : Nat) (lv : ri_L) (st : List Value) : Option ri_R := ri_i2 st (fun y x r => some (0, pc + 1, lv, .int (x - y) :: r))
noncomputable def rq_p_imul (nL pc : Nat) (lv : ri_L) (st : List Value) : Option ri_R := ri_i2 st (fun y x r => some (0, pc + 1, lv, .int (x * y) :: r))
noncomputable def rq_p_iand (nL pc : Nat) (lv : ri_L) (st : List Value) : Option ri_R := ri_i2 st (fun y x r => some (0, pc + 1, lv, .int (x &&& y) :: r))
noncomputable def rq_p_ior (nL pc : Nat) (lv : ri_L) (st : List Value) : Option ri_R := ri_i2 st (fun y x r => some (0, pc + 1, lv, .int (x ||| y) :: r))
noncomputable def rq_p_ixor (nL pc : Nat) (lv : ri_L) (st : List Value) : Option ri_R := ri_i2 st (fun y x r => some (0, pc + 1, lv, .int (x ^^^ y) :: r))
noncomputable def rq_p_ishl (nL pc : Nat) (lv : ri_L) (st : List Value) : Option ri_R := ri_i2 st (fun y x r => some (0, pc + 1, lv, .int (x <<< (y &&& 31)) :: r))
noncomputable def rq_p_ishr (nL pc : Nat) (lv : ri_L) (st : List Value) : Option ri_R := ri_i2 st (fun y x r => some (0, pc + 1, lv, .int (x >>> (y &&& 31)) :: r))
noncomputable def rq_p_iushr (nL pc : Nat) (lv : ri_L) (st : List Value) : Option ri_R := ri_i2 st (fun y x r => some (0, pc + 1, lv, .int ((x.toUInt32 >>> (y.toUInt32 &&& Int32.toUInt32 31)).toInt32) :: r))
noncomputable def rq_p_ladd (nL pc : Nat) (lv : ri_L) (st : List Value) : Option ri_R := ri_l2 st (fun y x r => some (0, pc + 1, lv, .long (x + y) :: r))
noncomputable def rq_p_lsub (nL pc : Nat) (lv : ri_L) (st : List Value) : Option ri_R := ri_l2 st (fun y x r => some (0, pc + 1, lv, .long (x - y) :: r))
noncomputable def rq_p_lmul (nL pc : Nat) (lv : ri_L) (st : List Value) : Option ri_R := ri_l2 st (fun y x r => some (0, pc + 1, lv, .long (x * y) :: r))
noncomputable def rq_p_land (nL pc : Nat) (lv : ri_L) (st : List Value) : Option ri_R := ri_l2 st (fun y x r => some (0, pc + 1, lv, .long (x &&& y) :: r))
noncomputable def rq_p_lor (nL pc : Nat) (lv : ri_L) (st : List Value) : Option ri_R := ri_l2 st (fun y x r => some (0, pc + 1, lv, .long (x ||| y) :: r))
noncomputable def rq_p_lxor (nL pc : Nat) (lv : ri_L) (st : List Value) : Option ri_R := ri_l2 st (fun y x r => some (0, pc + 1, lv, .long (x ^^^ y) :: r))
noncomputable def rq_p_lshl (nL pc : Nat) (lv : ri_L) (st : List Value) : Option ri_R := ri_il st (fun y x r => some (0, pc + 1, lv, .long (x <<< (y.toInt64 &&& 63)) :: r))
noncomputable def rq_p_lshr (nL pc : Nat) (lv : ri_L) (st : List Value) : Option ri_R := ri_il st (fun y x r => some (0, pc + 1, lv, .long (x >>> (y.toInt64 &&& 63)) :: r))
noncomputable def rq_p_lushr (nL pc : Nat) (lv : ri_L) (st : List Value) : Option ri_R := ri_il st (fun y x r => some (0, pc + 1, lv, .long ((x.toUInt64 >>> (y.toInt64.toUInt64 &&& Int64.toUInt64 63)).toInt64) :: r))
noncomputable def rq_p_idiv (nL pc : Nat) (lv : ri_L) (st : List Value) : Option ri_R := ri_i2 st (fun y x r => ri_ok (!decide (y = 0)) (some (0, pc + 1, lv, .int (x / y) :: r)))
noncomputable def rq_p_irem (nL pc : Nat) (lv : ri_L) (st : List Value) : Option ri_R := ri_i2 st (fun y x r => ri_ok (!decide (y = 0)) (some (0, pc + 1, lv, .int (x - x / y * y) :: r)))
noncomputable def rq_p_ldiv (nL pc : Nat) (lv : ri_L) (st : List Value) : Option ri_R := ri_l2 st (fun y x r => ri_ok (!decide (y = 0)) (some (0, pc + 1, lv, .long (x / y) :: r)))
noncomputable def rq_p_lrem (nL pc : Nat) (lv : ri_L) (st : List Value) : Option ri_R := ri_l2 st (fun y x r => ri_ok (!decide (y = 0)) (some (0, pc + 1, lv, .long (x - x / y * y) :: r)))
noncomputable def rq_p_ineg (nL pc : Nat) (lv : ri_L) (st : List Value) : Option ri_R := ri_i1 st (fun x r => some (0, pc + 1, lv, .int (-x) :: r))
noncomputable def rq_p_lneg (nL pc : Nat) (lv : ri_L) (st : List Value) : Option ri_R := ri_l1 st (fun x r => some (0, pc + 1, lv, .long (-x) :: r))
noncomputable def rq_p_i2l (nL pc : Nat) (lv : ri_L) (st : List Value) : Option ri_R := ri_i1 st (fun x r => some (0, pc + 1, lv, .long (x.toInt64) :: r))
noncomputable def rq_p_l2i (nL pc : Nat) (lv : ri_L) (st : List Value) : Option ri_R := ri_l1 st (fun x r => some (0, pc + 1, lv, .int (x.toInt32) :: r))
noncomputable def rq_p_i2b (nL pc : Nat) (lv : ri_L) (st : List Value) : Option ri_R := ri_i1 st (fun x r => some (0, pc + 1, lv, .int (x.toInt8.toInt32) :: r))
noncomputable def rq_p_i2s (nL pc : Nat) (lv : ri_L) (st : List Value) : Option ri_R := ri_i1 st (fun x r => some (0, pc + 1, lv, .int (x.toInt16.toInt32) :: r))
noncomputable def rq_p_i2c (nL pc : Nat) (lv : ri_L) (st : List Value) : Option ri_R := ri_i1 st (fun x r => some (0, pc + 1, lv, .int ((x.toUInt32 % 65536).toInt32) :: r))
noncomputable def rq_p_i2d (nL pc : Nat) (lv : ri_L) (st : List Value) : Option ri_R := ri_i1 st (fun x r => some (0, pc + 1, lv, .double (FP.i2d x) :: r))
noncomputable def rq_p_l2d (nL pc : Nat) (lv : ri_L) (st : List Value) : Option ri_R := ri_l1 st (fun x r => some (0, pc + 1, lv, .double (FP.l2d x) :: r))
noncomputable def rq_p_d2i (nL pc : Nat) (lv : ri_L) (st : List Value) : Option ri_R := ri_d1 st (fun x r => some (0, pc + 1, lv, .int (FP.d2i x) :: r))
noncomputable def rq_p_d2l (nL pc : Nat) (lv : ri_L) (st : List Value) : Option ri_R := ri_d1 st (fun x r => some (0, pc + 1, lv, .long (FP.d2l x) :: r))
noncomputable def rq_p_dneg (nL pc : Nat) (lv : ri_L) (st : List Value) : Option ri_R := ri_d1 st (fun x r => some (0, pc + 1, lv, .double (FP.dneg x) :: r))
noncomputable def rq_p_dadd (nL pc : Nat) (lv : ri_L) (st : List Value) : Option ri_R := ri_d2 st (fun y x r => ri_ok (ri_n64 (FP.dadd x y)) (some (0, pc + 1, lv, .double (FP.dadd x y) :: r)))
noncomputable def rq_p_dsub (nL pc : Nat) (lv : ri_L) (st : List Value) : Option ri_R := ri_d2 st (fun y x r => ri_ok (ri_n64 (FP.dsub x y)) (some (0, pc + 1, lv, .double (FP.dsub x y) :: r)))
noncomputable def rq_p_dmul (nL pc : Nat) (lv : ri_L) (st : List Value) : Option ri_R := ri_d2 st (fun y x r => ri_ok (ri_n64 (FP.dmul x y)) (some (0, pc + 1, lv, .double (FP.dmul x y) :: r)))
noncomputable def rq_p_ddiv (nL pc : Nat) (lv : ri_L) (st : List Value) : Option ri_R := ri_d2 st (fun y x r => ri_ok (ri_n64 (FP.ddiv x y)) (some (0, pc + 1, lv, .double (FP.ddiv x y) :: r)))
noncomputable def rq_p_dcmp (op : Jvm.ClassFile.CmpOp) (nL pc : Nat) (lv : ri_L) (st : List Value) : Option ri_R := ri_d2 st (fun y x r => some (0, pc + 1, lv, .int (Op.cmpValue (FP.dcmp x y) op) :: r))
noncomputable def rq_p_lcmp (nL pc : Nat) (lv : ri_L) (st : List Value) : Option ri_R := ri_l2 st (fun y x r => some (0, pc + 1, lv, .int (lg_cmp x y) :: r))
noncomputable def rq_p_dup (nL pc : Nat) (lv : ri_L) (st : List Value) : Option ri_R := ri_c1 st (fun v r => some (0, pc + 1, lv, v :: v :: r))
noncomputable def rq_p_pop (nL pc : Nat) (lv : ri_L) (st : List Value) : Option ri_R := ri_c1 st (fun v r => some (0, pc + 1, lv, r))
noncomputable def rq_p_dup_x1 (nL pc : Nat) (lv : ri_L) (st : List Value) : Option ri_R := ri_c1 st (fun v r => ri_c1 r (fun u r => some (0, pc + 1, lv, v :: u :: v :: r)))
noncomputable def rq_p_dup2 (nL pc : Nat) (lv : ri_L) (st : List Value) : Option ri_R := (match st with | v :: r => bif Nat.beq v.category 2 then some (0, pc + 1, lv, v :: v :: r) else ri_c1 (v :: r) (fun v r => ri_c1 r (fun u r => some (0, pc + 1, lv, v :: u :: v :: u :: r))) | [] => none)
noncomputable def rq_p_goto (off : Int) (nL pc : Nat) (lv : ri_L) (st : List Value) : Option ri_R := ri_tg pc off 1 lv st
noncomputable def rq_p_ifCond (c9 : Jvm.ClassFile.Cond) (off : Int) (nL pc : Nat) (lv : ri_L) (st : List Value) : Option ri_R := ri_i1 st (fun x r => ri_br (ri_cnd c9 x 0) pc off (pc + 3) lv r)
noncomputable def rq_p_if_icmp (c9 : Jvm.ClassFile.Cond) (off : Int) (nL pc : Nat) (lv : ri_L) (st : List Value) : Option ri_R := ri_i2 st (fun y x r => ri_br (ri_cnd c9 x y) pc off (pc + 3) lv r)
noncomputable def rq_p_ifnonnull (off : Int) (nL pc : Nat) (lv : ri_L) (st : List Value) : Option ri_R := ri_r1 st (fun _ r => ri_tg pc off 1 lv r) (fun r => some (0, pc + 3, lv, r))
noncomputable def rq_p_ifnull (off : Int) (nL pc : Nat) (lv : ri_L) (st : List Value) : Option ri_R := ri_r1 st (fun _ r => some (0, pc + 3, lv, r)) (fun r => ri_tg pc off 1 lv r)
noncomputable def rq_p_tableswitch (dflt : Int) (lo : Int) (hi : Int) (offs : Array Int) (nL pc : Nat) (lv : ri_L) (st : List Value) : Option ri_R := ri_i1 st (fun x r => bif decide (x.toInt < lo) || decide (hi < x.toInt) then ri_tg pc dflt 1 lv r else (match offs[(x.toInt - lo).toNat]? with | some off => ri_tg pc off ((x.toInt - lo).toNat + 2) lv r | none => none))
noncomputable def rq_of (i : Instr) : Option rq_P := match i with
  | .iconst n => some (rq_p_iconst n)
  | .bipush n => some (rq_p_bipush n)
  | .sipush n => some (rq_p_sipush n)
  | .lconst n => some (rq_p_lconst n)
  | .aconst_null => some (rq_p_aconst_null)
  | .dconst n => some (rq_p_dconst n)
  | .iload i => some (rq_p_iload i)
  | .iload_n i => some (rq_p_iload_n i)
  | .istore i => some (rq_p_istore i)
  | .istore_n i => some (rq_p_istore_n i)
  | .lload i => some (rq_p_lload i)
  | .lload_n i => some (rq_p_lload_n i)
  | .dload i => some (rq_p_dload i)
  | .dload_n i => some (rq_p_dload_n i)
  | .aload i => some (rq_p_aload i)
  | .aload_n i => some (rq_p_aload_n i)
  | .lstore i => some (rq_p_lstore i)
  | .lstore_n i => some (rq_p_lstore_n i)
  | .dstore i => some (rq_p_dstore i)
  | .dstore_n i => some (rq_p_dstore_n i)
  | .astore i => some (rq_p_astore i)
  | .astore_n i => some (rq_p_astore_n i)
  | .iinc i n => some (rq_p_iinc i n)
  | .iadd => some (rq_p_iadd)
  | .isub => some (rq_p_isub)
  | .imul => some (rq_p_imul)
  | .iand => some (rq_p_iand)
  | .ior => some (rq_p_ior)
  | .ixor => some (rq_p_ixor)
  | .ishl => some (rq_p_ishl)
  | .ishr => some (rq_p_ishr)
  | .iushr => some (rq_p_iushr)
  | .ladd => some (rq_p_ladd)
  | .lsub => some (rq_p_lsub)
  | .lmul => some (rq_p_lmul)
  | .land => some (rq_p_land)
  | .lor => some (rq_p_lor)
  | .lxor => some (rq_p_lxor)
  | .lshl => some (rq_p_lshl)
  | .lshr => some (rq_p_lshr)
  | .lushr => some (rq_p_lushr)
  | .idiv => some (rq_p_idiv)
  | .irem => some (rq_p_irem)
  | .ldiv => some (rq_p_ldiv)
  | .lrem => some (rq_p_lrem)
  | .ineg => some (rq_p_ineg)
  | .lneg => some (rq_p_lneg)
  | .i2l => some (rq_p_i2l)
  | .l2i => some (rq_p_l2i)
  | .i2b => some (rq_p_i2b)
  | .i2s => some (rq_p_i2s)
  | .i2c => some (rq_p_i2c)
  | .i2d => some (rq_p_i2d)
  | .l2d => some (rq_p_l2d)
  | .d2i => some (rq_p_d2i)
  | .d2l => some (rq_p_d2l)
  | .dneg => some (rq_p_dneg)
  | .dadd => some (rq_p_dadd)
  | .dsub => some (rq_p_dsub)
  | .dmul => some (rq_p_dmul)
  | .ddiv => some (rq_p_ddiv)
  | .dcmp op => some (rq_p_dcmp op)
  | .lcmp => some (rq_p_lcmp)
  | .dup => some (rq_p_dup)
  | .pop => some (rq_p_pop)
  | .dup_x1 => some (rq_p_dup_x1)
  | .dup2 => some (rq_p_dup2)
  | .goto off => some (rq_p_goto off)
  | .ifCond c9 off => some (rq_p_ifCond c9 off)
  | .if_icmp c9 off => some (rq_p_if_icmp c9 off)
  | .ifnonnull off => some (rq_p_ifnonnull off)
  | .ifnull off => some (rq_p_ifnull off)
  | .tableswitch dflt lo hi offs => some (rq_p_tableswitch dflt lo hi offs)
  | _ => none
theorem rq_of_eq (i : Instr) (nL pc : Nat) (lv : ri_L) (st : List Value) : (match rq_of i with | some P => P nL pc lv st | none => none) = ri_pure nL i pc lv st := by cases i <;> rfl
abbrev rq_S : Type := rf_K → Nat → Nat → ri_M → List ri_Op → ri_L → List Value → rf_W → Nat → Nat → Nat → Nat → Option rf_Out
noncomputable def rq_x0  (P : rq_P) (ts : List Nat) (ih : rf_K) (d bud : Nat) (M : ri_M) (nxt : List ri_Op) (lv : ri_L) (st : List Value) (w : rf_W) (nc ns fr pc : Nat) : Option rf_Out := (match P M.2.2.1 pc lv st with
    | some z => ih d bud M (ri_next M nxt ts z.1) z.2.1 z.2.2.1 z.2.2.2 w nc ns fr
    | none => none)
noncomputable def rq_x1  (a : Nat) (b : Nat) (ih : rf_K) (d bud : Nat) (M : ri_M) (nxt : List ri_Op) (lv : ri_L) (st : List Value) (w : rf_W) (nc ns fr pc : Nat) : Option rf_Out := (match rf_getf a b st w with
    | some st => ih d bud M nxt (pc + 3) lv st w nc ns fr
    | none => none)
noncomputable def rq_x2 (ty : Nat → Nat → FieldType) (a : Nat) (b : Nat) (ih : rf_K) (d bud : Nat) (M : ri_M) (nxt : List ri_Op) (lv : ri_L) (st : List Value) (w : rf_W) (nc ns fr pc : Nat) : Option rf_Out := (match rf_putf (ty a b) a b st w with
    | some z => ih d bud M nxt (pc + 3) lv z.1 z.2 nc ns fr
    | none => none)
noncomputable def rq_x3  (i : Instr) (v : Value) (ih : rf_K) (d bud : Nat) (M : ri_M) (nxt : List ri_Op) (lv : ri_L) (st : List Value) (w : rf_W) (nc ns fr pc : Nat) : Option rf_Out := ih d bud M nxt (pc + ri_len i) lv (v :: st) w nc ns fr
noncomputable def rq_x4 (Ms : List ri_M) (al : Nat → Bool) (a : Nat) (b : Nat) (ts : List Nat) (ih : rf_K) (d bud : Nat) (M : ri_M) (nxt : List ri_Op) (lv : ri_L) (st : List Value) (w : rf_W) (nc ns fr pc : Nat) : Option rf_Out := rf_call Ms al ih d bud M nxt pc lv st w nc ns fr a b ts
noncomputable def rq_x5 (tyL : List FieldType)  (ih : rf_K) (d bud : Nat) (M : ri_M) (nxt : List ri_Op) (lv : ri_L) (st : List Value) (w : rf_W) (nc ns fr pc : Nat) : Option rf_Out := (match rf_ald tyL ri_tI st w with
    | some st => ih d bud M nxt (pc + 1) lv st w nc ns fr
    | none => none)
noncomputable def rq_x6 (tyL : List FieldType)  (ih : rf_K) (d bud : Nat) (M : ri_M) (nxt : List ri_Op) (lv : ri_L) (st : List Value) (w : rf_W) (nc ns fr pc : Nat) : Option rf_Out := (match rf_ast tyL ri_gI st w with
    | some z => ih d bud M nxt (pc + 1) lv z.1 z.2 nc ns fr
    | none => none)
noncomputable def rq_x7 (tyL : List FieldType)  (ih : rf_K) (d bud : Nat) (M : ri_M) (nxt : List ri_Op) (lv : ri_L) (st : List Value) (w : rf_W) (nc ns fr pc : Nat) : Option rf_Out := (match rf_ald tyL ri_tL st w with
    | some st => ih d bud M nxt (pc + 1) lv st w nc ns fr
    | none => none)
noncomputable def rq_x8 (tyL : List FieldType)  (ih : rf_K) (d bud : Nat) (M : ri_M) (nxt : List ri_Op) (lv : ri_L) (st : List Value) (w : rf_W) (nc ns fr pc : Nat) : Option rf_Out := (match rf_ast tyL ri_gL st w with
    | some z => ih d bud M nxt (pc + 1) lv z.1 z.2 nc ns fr
    | none => none)
noncomputable def rq_x9 (tyL : List FieldType)  (ih : rf_K) (d bud : Nat) (M : ri_M) (nxt : List ri_Op) (lv : ri_L) (st : List Value) (w : rf_W) (nc ns fr pc : Nat) : Option rf_Out := (match rf_ald tyL ri_tD st w with
    | some st => ih d bud M nxt (pc + 1) lv st w nc ns fr
    | none => none)
noncomputable def rq_x10 (tyL : List FieldType)  (ih : rf_K) (d bud : Nat) (M : ri_M) (nxt : List ri_Op) (lv : ri_L) (st : List Value) (w : rf_W) (nc ns fr pc : Nat) : Option rf_Out := (match rf_ast tyL ri_gD st w with
    | some z => ih d bud M nxt (pc + 1) lv z.1 z.2 nc ns fr
    | none => none)
noncomputable def rq_x11 (tyL : List FieldType)  (ih : rf_K) (d bud : Nat) (M : ri_M) (nxt : List ri_Op) (lv : ri_L) (st : List Value) (w : rf_W) (nc ns fr pc : Nat) : Option rf_Out := (match rf_ald tyL ri_tA st w with
    | some st => ih d bud M nxt (pc + 1) lv st w nc ns fr
    | none => none)
noncomputable def rq_x12 (tyL : List FieldType)  (ih : rf_K) (d bud : Nat) (M : ri_M) (nxt : List ri_Op) (lv : ri_L) (st : List Value) (w : rf_W) (nc ns fr pc : Nat) : Option rf_Out := (match rf_ald tyL ri_tB st w with
    | some st => ih d bud M nxt (pc + 1) lv st w nc ns fr
    | none => none)
noncomputable def rq_x13 (tyL : List FieldType)  (ih : rf_K) (d bud : Nat) (M : ri_M) (nxt : List ri_Op) (lv : ri_L) (st : List Value) (w : rf_W) (nc ns fr pc : Nat) : Option rf_Out := (match rf_ast tyL ri_gB st w with
    | some z => ih d bud M nxt (pc + 1) lv z.1 z.2 nc ns fr
    | none => none)
noncomputable def rq_x14  (a : Nat) (b : Nat) (ih : rf_K) (d bud : Nat) (M : ri_M) (nxt : List ri_Op) (lv : ri_L) (st : List Value) (w : rf_W) (nc ns fr pc : Nat) : Option rf_Out := (match rf_aast a b st w with
    | some z => ih d bud M nxt (pc + 1) lv z.1 z.2 nc ns fr
    | none => none)
noncomputable def rq_x15 (tyL : List FieldType)  (ih : rf_K) (d bud : Nat) (M : ri_M) (nxt : List ri_Op) (lv : ri_L) (st : List Value) (w : rf_W) (nc ns fr pc : Nat) : Option rf_Out := (match rf_alen tyL st w with
    | some st => ih d bud M nxt (pc + 1) lv st w nc ns fr
    | none => none)
noncomputable def rq_x16  (i : Instr) (ih : rf_K) (d bud : Nat) (M : ri_M) (nxt : List ri_Op) (lv : ri_L) (st : List Value) (w : rf_W) (nc ns fr pc : Nat) : Option rf_Out := rf_ret M i st w nc ns fr
noncomputable def rq_x17 (orc : List (Bool ⊕ Int32)) (P : rq_P) (i : Instr) (a : Nat) (ts : List Nat) (ih : rf_K) (d bud : Nat) (M : ri_M) (nxt : List ri_Op) (lv : ri_L) (st : List Value) (w : rf_W) (nc ns fr pc : Nat) : Option rf_Out := bif ri_conc a st then (match P M.2.2.1 pc lv st with
      | some z => ih d bud M (ri_next M nxt ts z.1) z.2.1 z.2.2.1 z.2.2.2 w nc ns fr
      | none => none)
    else (match ri_sym M.2.2.1 (ri_nth orc fr) fr i pc lv st with
      | some z => rf_more [z.2.2] (ih d bud M (ri_next M nxt ts z.1.1) z.1.2.1 z.1.2.2.1 z.1.2.2.2 w nc ns z.2.1)
      | none => none)
noncomputable def rq_x18 (df : Nat → List Value) (al : Nat → Bool) (a : Nat) (b : Nat) (ih : rf_K) (d bud : Nat) (M : ri_M) (nxt : List ri_Op) (lv : ri_L) (st : List Value) (w : rf_W) (nc ns fr pc : Nat) : Option rf_Out := ri_ok (al w.1 && Nat.blt w.1 1024) (ih d bud M nxt (pc + 3) lv (.ref w.1 :: st) (rf_wp w (.inr (a, df a))) (nc + 1) (ns + b) fr)
noncomputable def rq_x19 (al : Nat → Bool) (a : Nat) (v : Value) (ih : rf_K) (d bud : Nat) (M : ri_M) (nxt : List ri_Op) (lv : ri_L) (st : List Value) (w : rf_W) (nc ns fr pc : Nat) : Option rf_Out := ri_ok (al w.1 && Nat.blt w.1 1024) (match rf_newa a v st w with
    | some z => ih d bud M nxt (pc + 2) lv z.2.1 z.2.2 (nc + 1) (ns + z.1) fr
    | none => none)
noncomputable def rq_x20 (al : Nat → Bool) (a : Nat) (ih : rf_K) (d bud : Nat) (M : ri_M) (nxt : List ri_Op) (lv : ri_L) (st : List Value) (w : rf_W) (nc ns fr pc : Nat) : Option rf_Out := ri_ok (al w.1 && Nat.blt w.1 1024) (match rf_newa a .null st w with
    | some z => ih d bud M nxt (pc + 3) lv z.2.1 z.2.2 (nc + 1) (ns + z.1) fr
    | none => none)
noncomputable def rq_x21   (ih : rf_K) (d bud : Nat) (M : ri_M) (nxt : List ri_Op) (lv : ri_L) (st : List Value) (w : rf_W) (nc ns fr pc : Nat) : Option rf_Out := (match st with
    | .ref _ :: r => ri_ok (Nat.ble 1 d && Nat.ble (ri_cat r + 12) bud) (ih d bud M nxt (pc + 3) lv r w nc ns fr)
    | _ => none)
noncomputable def rq_x22 (tyL : List FieldType)  (ih : rf_K) (d bud : Nat) (M : ri_M) (nxt : List ri_Op) (lv : ri_L) (st : List Value) (w : rf_W) (nc ns fr pc : Nat) : Option rf_Out := ri_ok (Nat.ble 1 d) (match rf_acopy tyL bud st w with
    | some z => ih d bud M nxt (pc + 3) lv z.1 z.2 nc ns fr
    | none => none)
noncomputable def rq_x23 (exl : Nat → Nat) (a : Nat) (ih : rf_K) (d bud : Nat) (M : ri_M) (nxt : List ri_Op) (lv : ri_L) (st : List Value) (w : rf_W) (nc ns fr pc : Nat) : Option rf_Out := ri_ok (Nat.ble (exl a + 4) d && Nat.ble (ri_cat st + (13 * (exl a + 1) + 42)) bud) (some (.inr a, w, nc + 1, ns + 6, [], fr))
noncomputable def rq_x24 (xs : Nat → Value) (L : Nat)  (ih : rf_K) (d bud : Nat) (M : ri_M) (nxt : List ri_Op) (lv : ri_L) (st : List Value) (w : rf_W) (nc ns fr pc : Nat) : Option rf_Out := (match st with
    | .int j :: .ref q :: r => ri_ok (Nat.beq q 1000000 && (!decide (j < 0) && Nat.blt j.toNatClampNeg L)) (ih d bud M nxt (pc + 1) lv (xs j.toNatClampNeg :: r) w nc ns fr)
    | _ => none)
noncomputable def rq_x25 (L : Nat)  (ih : rf_K) (d bud : Nat) (M : ri_M) (nxt : List ri_Op) (lv : ri_L) (st : List Value) (w : rf_W) (nc ns fr pc : Nat) : Option rf_Out := (match st with
    | .ref q :: r => ri_ok (Nat.beq q 1000000) (ih d bud M nxt (pc + 1) lv (.int (Int32.ofNat L) :: r) w nc ns fr)
    | _ => none)
noncomputable def rq_x26 (al : Nat → Bool) (a : Nat) (b : Nat) (ih : rf_K) (d bud : Nat) (M : ri_M) (nxt : List ri_Op) (lv : ri_L) (st : List Value) (w : rf_W) (nc ns fr pc : Nat) : Option rf_Out := ri_ok (al w.1) (match rf_mna a b st w with
    | some z => ri_ok (rf_wk z.2.2.2) (ih d bud M nxt (pc + 4) lv z.2.2.1 z.2.2.2 (nc + (1 + z.1)) (ns + (z.1 + z.1 * z.2.1)) fr)
    | none => none)
noncomputable def rq_x27 (tyL : List FieldType)  (ih : rf_K) (d bud : Nat) (M : ri_M) (nxt : List ri_Op) (lv : ri_L) (st : List Value) (w : rf_W) (nc ns fr pc : Nat) : Option rf_Out := bif ri_conc 1 st then (match rf_ast tyL ri_gB st w with
      | some z => ih d bud M nxt (pc + 1) lv z.1 z.2 nc ns fr
      | none => none)
    else (match rf_ast tyL (ri_gU fr) st w with
      | some z => rf_more [(.i2b, ri_top st, .int 0, fr, true)] (ih d bud M nxt (pc + 1) lv z.1 z.2 nc ns (fr + 1))
      | none => none)
noncomputable def rq_x28 (tyL : List FieldType) (orc : List (Bool ⊕ Int32)) (a : Nat) (b : Nat) (v : Value) (ts : List Nat) (ih : rf_K) (d bud : Nat) (M : ri_M) (nxt : List ri_Op) (lv : ri_L) (st : List Value) (w : rf_W) (nc ns fr pc : Nat) : Option rf_Out := (match rf_lc tyL a b lv st w with
    | some z => (match ri_nth orc fr with
      | some (.inl g) => (match v with
        | .ref t => rf_more [(.lcmp, z.1, .long z.2.1, 0, g)] (ih d bud M (ri_next M nxt ts (bif g then 1 else 2)) (bif g then t else pc + 11) lv z.2.2 w nc ns (fr + 1))
        | _ => none)
      | _ => none)
    | none => none)
section RQD
variable (Ms : List ri_M) (ty : Nat → Nat → FieldType) (df : Nat → List Value) (tyL : List FieldType) (exl : Nat → Nat) (xs : Nat → Value) (L : Nat) (al : Nat → Bool) (orc : List (Bool ⊕ Int32))
noncomputable def rq_op (κ : Nat) (i : Instr) (a b : Nat) (v : Value) (ts : List Nat) : Option rq_S := match κ with
  | 0 => (match rq_of i with | some P => some (rq_x0 P ts) | none => none)
  | 1 => some (rq_x1 a b)
  | 2 => some (rq_x2 ty a b)
  | 3 => some (rq_x3 i v)
  | 4 => some (rq_x4 Ms al a b ts)
  | 5 => some (rq_x5 tyL)
  | 6 => some (rq_x6 tyL)
  | 7 => some (rq_x7 tyL)
  | 8 => some (rq_x8 tyL)
  | 9 => some (rq_x9 tyL)
  | 10 => some (rq_x10 tyL)
  | 11 => some (rq_x11 tyL)
  | 12 => some (rq_x12 tyL)
  | 13 => some (rq_x13 tyL)
  | 14 => some (rq_x14 a b)
  | 15 => some (rq_x15 tyL)
  | 16 => some (rq_x16 i)
  | 17 => (match rq_of i with | some P => some (rq_x17 orc P i a ts) | none => some (rq_x17 orc (fun _ _ _ _ => none) i a ts))
  | 18 => some (rq_x18 df al a b)
  | 19 => some (rq_x19 al a v)
  | 20 => some (rq_x20 al a)
  | 21 => some (rq_x21)
  | 22 => some (rq_x22 tyL)
  | 23 => some (rq_x23 exl a)
  | 24 => some (rq_x24 xs L)
  | 25 => some (rq_x25 L)
  | 26 => some (rq_x26 al a b)
  | 27 => some (rq_x27 tyL)
  | 28 => some (rq_x28 tyL orc a b v ts)
  | _ => none
theorem rq_op_ok (ih : rf_K) (d bud : Nat) (M : ri_M) (nxt : List ri_Op) (lv : ri_L) (st : List Value) (w : rf_W) (nc ns fr pc : Nat) (i : Instr) (a b : Nat) (v : Value) (ts : List Nat) : ∀ κ : Nat, (match rq_op Ms ty df tyL exl xs L al orc κ i a b v ts with | some S => S ih d bud M nxt lv st w nc ns fr pc | none => none) = rf_exec Ms ty df tyL exl xs L al orc ih d bud M nxt lv st w nc ns fr pc κ i a b v ts
  | 0 => by
    show _ = (match ri_pure M.2.2.1 i pc lv st with
      | some z => ih d bud M (ri_next M nxt ts z.1) z.2.1 z.2.2.1 z.2.2.2 w nc ns fr
      | none => none)
    rw [← rq_of_eq]
    show (match (match rq_of i with | some P => some (rq_x0 P ts) | none => none) with | some S => S ih d bud M nxt lv st w nc ns fr pc | none => none) = _
    cases rq_of i <;> rfl
  | 1 => rfl
  | 2 => rfl
  | 3 => rfl
  | 4 => rfl
  | 5 => rfl
  | 6 => rfl
  | 7 => rfl
  | 8 => rfl
  | 9 => rfl
  | 10 => rfl
  | 11 => rfl
  | 12 => rfl
  | 13 => rfl
  | 14 => rfl
  | 15 => rfl
  | 16 => rfl
  | 17 => by
    show _ = (bif ri_conc a st then (match ri_pure M.2.2.1 i pc lv st with
      | some z => ih d bud M (ri_next M nxt ts z.1) z.2.1 z.2.2.1 z.2.2.2 w nc ns fr
      | none => none)
    else (match ri_sym M.2.2.1 (ri_nth orc fr) fr i pc lv st with
      | some z => rf_more [z.2.2] (ih d bud M (ri_next M nxt ts z.1.1) z.1.2.1 z.1.2.2.1 z.1.2.2.2 w nc ns z.2.1)
      | none => none))
    rw [← rq_of_eq]
    show (match (match rq_of i with | some P => some (rq_x17 orc P i a ts) | none => some (rq_x17 orc (fun _ _ _ _ => none) i a ts)) with | some S => S ih d bud M nxt lv st w nc ns fr pc | none => none) = _
    cases rq_of i <;> rfl
  | 18 => rfl
  | 19 => rfl
  | 20 => rfl
  | 21 => rfl
  | 22 => rfl
  | 23 => rfl
  | 24 => rfl
  | 25 => rfl
  | 26 => rfl
  | 27 => rfl
  | 28 => rfl
  | _ + 29 => rfl
noncomputable def rq_run (fuel : Nat) : rf_K := Nat.rec (fun _ _ _ _ _ _ _ _ _ _ _ => none) (fun _ ih d bud M cur pc lv st w nc ns fr => @List.rec ri_Op (fun _ => Option rf_Out) none (fun o nxt _ => @Bool.rec (fun _ => Option rf_Out) none (@Option.rec rq_S (fun _ => Option rf_Out) none (fun S => S ih d bud M nxt lv st w nc ns fr pc) (rq_op Ms ty df tyL exl xs L al orc o.2.1 o.2.2.1 o.2.2.2.1 o.2.2.2.2.1 o.2.2.2.2.2.1 o.2.2.2.2.2.2)) (Nat.beq o.1 pc)) cur) fuel
theorem rq_run_eq : ∀ fuel : Nat, rq_run Ms ty df tyL exl xs L al orc fuel = rf_run Ms ty df tyL exl xs L al orc fuel
  | 0 => rfl
  | n + 1 => by
    funext d bud M cur pc lv st w nc ns fr
    cases cur with
    | nil => rfl
    | cons o nxt =>
      show @Bool.rec (fun _ => Option rf_Out) none (@Option.rec rq_S (fun _ => Option rf_Out) none (fun S => S (rq_run Ms ty df tyL exl xs L al orc n) d bud M nxt lv st w nc ns fr pc) (rq_op Ms ty df tyL exl xs L al orc o.2.1 o.2.2.1 o.2.2.2.1 o.2.2.2.2.1 o.2.2.2.2.2.1 o.2.2.2.2.2.2)) (Nat.beq o.1 pc) = ri_ok (Nat.beq o.1 pc) (rf_exec Ms ty df tyL exl xs L al orc (rf_run Ms ty df tyL exl xs L al orc n) d bud M nxt lv st w nc ns fr pc o.2.1 o.2.2.1 o.2.2.2.1 o.2.2.2.2.1 o.2.2.2.2.2.1 o.2.2.2.2.2.2)
      rw [rq_run_eq n, ← rq_op_ok]
      generalize rq_op Ms ty df tyL exl xs L al orc o.2.1 o.2.2.1 o.2.2.2.1 o.2.2.2.2.1 o.2.2.2.2.2.1 o.2.2.2.2.2.2 = X
      cases X <;> rfl
end RQD
end
section
/-! ===== paths: what a run over some unknown ints must come to, by reckoning ===== -/
/-- what is known of an unknown int: between these two; and, if so said, not 0 -/
abbrev rg_I : Type := Int × Int × Bool
/-- a comparison with a number that is decided by what is known -/
def rg_lt (r : rg_I) (y : Int) : Option Bool := bif decide (r.2.1 < y) then some true else bif decide (y ≤ r.1) then some false else none
def rg_gt (r : rg_I) (y : Int) : Option Bool := bif decide (y < r.1) then some true else bif decide (r.2.1 ≤ y) then some false else none
def rg_eq (r : rg_I) (y : Int) : Option Bool := bif decide (r.2.1 < y) || decide (y < r.1) then some false else bif decide (r.1 = y) && decide (r.2.1 = y) then some true else bif r.2.2 && decide (y = 0) then some false else none
def rg_dec (c : Jvm.ClassFile.Cond) (r : rg_I) (y : Int) : Option Bool := match c with
  | .eq => rg_eq r y
  | .ne => (rg_eq r y).map not
  | .lt => rg_lt r y
  | .ge => (rg_lt r y).map not
  | .gt => rg_gt r y
  | .le => (rg_gt r y).map not
def rg_is (o : Option Bool) (b : Bool) : Bool := match o with
  | some x => x == b
  | none => false
/-- an unknown's number, if it is below fr -/
def rg_u (v : Value) (fr : Nat) : Bool := match v with
  | .int _ => true
  | .float k => Nat.blt k.toNat fr
  | _ => false
section RGD
variable (R : Nat → rg_I)
/-- a branch's condition is decided by what is known of the first seven unknown -/
def rg_br (c : Jvm.ClassFile.Cond) (x : Value) (y : Int) (b : Bool) : Bool := match x with
  | .float k => Nat.blt k.toNat 7 && rg_is (rg_dec c (R k.toNat) y) b
  | _ => false
def rg_c1 (fr : Nat) (q : ri_Cd) : Bool := match q.1 with
  | .if_icmp c _ => (match q.2.2.1 with
    | .int y => rg_br R c q.2.1 y.toInt q.2.2.2.2
    | _ => false)
  | .ifCond c _ => rg_br R c q.2.1 0 q.2.2.2.2
  | .lcmp => (match q.2.2.1 with
    | .long y => rg_br R .lt q.2.1 y.toInt q.2.2.2.2
    | _ => false)
  | i => Nat.beq q.2.2.2.1 fr && (rg_u q.2.1 fr && (match ri_ar i with
    | 2 => rg_u q.2.2.1 fr
    | 1 => true
    | _ => false))
def rg_cs : List ri_Cd → Nat → Bool
  | [], _ => true
  | q :: cs, fr => rg_c1 R fr q && rg_cs cs (fr + 1)
end RGD
/-- the end of a run of the law: it answers 1, its room, its conditions -/
def rg_end (R : Nat → rg_I) (o : Option rf_Out) : Bool := match o with
  | some (.inl (some (.int x)), _, nc, ns, cs, _) => decide (x = 1) && (Nat.ble nc 600002 && (Nat.ble ns 7302232 && (match cs with
    | (.iand, .float k, .int y, n, _) :: cs => Nat.beq k.toNat 0 && (decide (y = 63) && (Nat.beq n 6 && rg_cs R cs 7))
    | [] => true
    | _ => false)))
  | _ => false
/-- cells are made by the constructors alone -/
def rg_al (n : Nat) : Bool := Nat.blt n 266
noncomputable def rg_w0 : rf_W := (0, rf_tr (.inr (0, [])) 10, 0, .inr (0, []))
end
section
/-! ===== the program as data: names, kinds of objects, types ===== -/
def RX0 : String := "StillLoops$Bench"
def RX1 : String := "StillLoops$Law"
def RX2 : String := "StillLoops$Loop"
def RX3 : String := "StillLoops$Plant"
def RX4 : String := "StillLoops$Reade\x72"
def RX5 : String := "StillLoops$RelayTest"
def RX6 : String := "StillLoops$Rounds"
def RX7 : String := "StillLoops$Rows"
def RX8 : String := "StillLoops$Twin"
def RX9 : String := "StillLoops$Valve"
def RX10 : String := "StillLoops"
def RX11 : String := "StillLoopsModel"
def TX0 : u_T := fun k => match k with
  | 0 => ("StillLoops$Bench", "loops", "[LStillLoops$Loop;", true)
  | 1 => ("StillLoops$Bench", "size", "I", false)
  | 2 => ("StillLoops$Bench", "texts", "I", false)
  | 3 => ("StillLoops$Bench", "tick", "I", false)
  | 4 => ("StillLoops$Bench", "events", "LStillLoops$Rows;", true)
  | 5 => ("StillLoops$Bench", "log", "LStillLoops$Rows;", true)
  | 6 => ("StillLoops$Bench", "force", "[J", true)
  | _ => ("StillLoops$Bench", "tripping", "[Z", true)
def tyX0 : Nat → FieldType := fun k => match k with
  | 0 => .array (.object "StillLoops$Loop")
  | 1 => .int
  | 2 => .int
  | 3 => .int
  | 4 => .object "StillLoops$Rows"
  | 5 => .object "StillLoops$Rows"
  | 6 => .array .long
  | _ => .array .boolean
def TX1 : u_T := fun k => match k with
  | 0 => ("StillLoops$Law", "b", "I", false)
  | 1 => ("StillLoops$Law", "c", "I", false)
  | 2 => ("StillLoops$Law", "filte\x72", "I", false)
  | 3 => ("StillLoops$Law", "back", "I", false)
  | 4 => ("StillLoops$Law", "hyst", "I", false)
  | 5 => ("StillLoops$Law", "sets", "I", false)
  | 6 => ("StillLoops$Law", "from", "[I", true)
  | 7 => ("StillLoops$Law", "kp", "[I", true)
  | 8 => ("StillLoops$Law", "ki", "[I", true)
  | _ => ("StillLoops$Law", "kd", "[I", true)
def tyX1 : Nat → FieldType := fun k => match k with
  | 0 => .int
  | 1 => .int
  | 2 => .int
  | 3 => .int
  | 4 => .int
  | 5 => .int
  | 6 => .array .int
  | 7 => .array .int
  | 8 => .array .int
  | _ => .array .int
def TX2 : u_T := fun k => match k with
  | 0 => ("StillLoops$Loop", "plant", "LStillLoops$Plant;", true)
  | 1 => ("StillLoops$Loop", "valve", "LStillLoops$Valve;", true)
  | 2 => ("StillLoops$Loop", "law", "LStillLoops$Law;", true)
  | 3 => ("StillLoops$Loop", "test", "LStillLoops$RelayTest;", true)
  | 4 => ("StillLoops$Loop", "on", "I", false)
  | 5 => ("StillLoops$Loop", "mode", "I", false)
  | 6 => ("StillLoops$Loop", "sp", "I", false)
  | 7 => ("StillLoops$Loop", "out", "I", false)
  | 8 => ("StillLoops$Loop", "i", "J", false)
  | 9 => ("StillLoops$Loop", "f", "J", false)
  | 10 => ("StillLoops$Loop", "\x72", "J", false)
  | 11 => ("StillLoops$Loop", "set", "I", false)
  | 12 => ("StillLoops$Loop", "at", "I", false)
  | 13 => ("StillLoops$Loop", "stuck", "I", false)
  | 14 => ("StillLoops$Loop", "lost", "Z", false)
  | 15 => ("StillLoops$Loop", "trips", "[I", true)
  | 16 => ("StillLoops$Loop", "tripped", "I", false)
  | 17 => ("StillLoops$Loop", "ku", "I", false)
  | _ => ("StillLoops$Loop", "tu", "I", false)
def tyX2 : Nat → FieldType := fun k => match k with
  | 0 => .object "StillLoops$Plant"
  | 1 => .object "StillLoops$Valve"
  | 2 => .object "StillLoops$Law"
  | 3 => .object "StillLoops$RelayTest"
  | 4 => .int
  | 5 => .int
  | 6 => .int
  | 7 => .int
  | 8 => .long
  | 9 => .long
  | 10 => .long
  | 11 => .int
  | 12 => .int
  | 13 => .int
  | 14 => .boolean
  | 15 => .array .int
  | 16 => .int
  | 17 => .int
  | _ => .int
def TX3 : u_T := fun k => match k with
  | 0 => ("StillLoops$Plant", "kind", "I", false)
  | 1 => ("StillLoops$Plant", "gain", "I", false)
  | 2 => ("StillLoops$Plant", "tau", "I", false)
  | 3 => ("StillLoops$Plant", "late", "I", false)
  | 4 => ("StillLoops$Plant", "load", "I", false)
  | 5 => ("StillLoops$Plant", "y", "I", false)
  | 6 => ("StillLoops$Plant", "z", "I", false)
  | _ => ("StillLoops$Plant", "feeds", "[I", true)
def tyX3 : Nat → FieldType := fun k => match k with
  | 0 => .int
  | 1 => .int
  | 2 => .int
  | 3 => .int
  | 4 => .int
  | 5 => .int
  | 6 => .int
  | _ => .array .int
def TX4 : u_T := fun k => match k with
  | 0 => ("StillLoops$Reade\x72", "draft", "LStillLoops$Bench;", true)
  | 1 => ("StillLoops$Reade\x72", "taped", "I", false)
  | 2 => ("StillLoops$Reade\x72", "text", "[B", true)
  | 3 => ("StillLoops$Reade\x72", "length", "I", false)
  | 4 => ("StillLoops$Reade\x72", "at", "I", false)
  | 5 => ("StillLoops$Reade\x72", "begin", "I", false)
  | _ => ("StillLoops$Reade\x72", "wrong", "I", false)
def tyX4 : Nat → FieldType := fun k => match k with
  | 0 => .object "StillLoops$Bench"
  | 1 => .int
  | 2 => .array .byte
  | 3 => .int
  | 4 => .int
  | 5 => .int
  | _ => .int
def TX5 : u_T := fun k => match k with
  | 0 => ("StillLoops$RelayTest", "d", "I", false)
  | 1 => ("StillLoops$RelayTest", "h", "I", false)
  | 2 => ("StillLoops$RelayTest", "middle", "I", false)
  | 3 => ("StillLoops$RelayTest", "side", "I", false)
  | 4 => ("StillLoops$RelayTest", "ups", "I", false)
  | 5 => ("StillLoops$RelayTest", "age", "I", false)
  | 6 => ("StillLoops$RelayTest", "since", "I", false)
  | 7 => ("StillLoops$RelayTest", "top", "I", false)
  | _ => ("StillLoops$RelayTest", "bottom", "I", false)
def tyX5 : Nat → FieldType := fun k => match k with
  | 0 => .int
  | 1 => .int
  | 2 => .int
  | 3 => .int
  | 4 => .int
  | 5 => .int
  | 6 => .int
  | 7 => .int
  | _ => .int
def TX6 : u_T := fun k => match k with
  | 0 => ("StillLoops$Rounds", "begin", "I", false)
  | 1 => ("StillLoops$Rounds", "length", "I", false)
  | 2 => ("StillLoops$Rounds", "tally", "[I", true)
  | _ => ("StillLoops$Rounds", "rows", "[J", true)
def tyX6 : Nat → FieldType := fun k => match k with
  | 0 => .int
  | 1 => .int
  | 2 => .array .int
  | _ => .array .long
def TX7 : u_T := fun k => match k with
  | 0 => ("StillLoops$Rows", "cells", "[I", true)
  | 1 => ("StillLoops$Rows", "most", "I", true)
  | _ => ("StillLoops$Rows", "size", "I", false)
def tyX7 : Nat → FieldType := fun k => match k with
  | 0 => .array .int
  | 1 => .int
  | _ => .int
def TX8 : u_T := fun k => match k with
  | 0 => ("StillLoops$Twin", "y", "[D", true)
  | 1 => ("StillLoops$Twin", "z", "[D", true)
  | 2 => ("StillLoops$Twin", "i", "[D", true)
  | 3 => ("StillLoops$Twin", "f", "[D", true)
  | 4 => ("StillLoops$Twin", "\x72", "[D", true)
  | 5 => ("StillLoops$Twin", "sp", "[D", true)
  | 6 => ("StillLoops$Twin", "out", "[D", true)
  | 7 => ("StillLoops$Twin", "pos", "[D", true)
  | _ => ("StillLoops$Twin", "feeds", "[[D", true)
def tyX8 : Nat → FieldType := fun k => match k with
  | 0 => .array .double
  | 1 => .array .double
  | 2 => .array .double
  | 3 => .array .double
  | 4 => .array .double
  | 5 => .array .double
  | 6 => .array .double
  | 7 => .array .double
  | _ => .array (.array .double)
def TX9 : u_T := fun k => match k with
  | 0 => ("StillLoops$Valve", "low", "I", false)
  | 1 => ("StillLoops$Valve", "high", "I", false)
  | 2 => ("StillLoops$Valve", "stick", "I", false)
  | 3 => ("StillLoops$Valve", "pos", "I", false)
  | 4 => ("StillLoops$Valve", "points", "I", false)
  | _ => ("StillLoops$Valve", "curve", "[I", true)
def tyX9 : Nat → FieldType := fun k => match k with
  | 0 => .int
  | 1 => .int
  | 2 => .int
  | 3 => .int
  | 4 => .int
  | _ => .array .int
def TX10 : u_T := fun k => match k with
  | 0 => ("StillLoops", "reade\x72", "LStillLoops$Reader;", true)
  | 1 => ("StillLoops", "firstWrong", "I", false)
  | 2 => ("StillLoops", "now", "LStillLoops$Bench;", true)
  | 3 => ("StillLoops", "kept", "LStillLoops$Bench;", true)
  | 4 => ("StillLoops", "isKept", "Z", false)
  | 5 => ("StillLoops", "trial", "LStillLoops$Bench;", true)
  | 6 => ("StillLoops", "floating", "LStillLoops$Twin;", true)
  | _ => ("StillLoops", "rounds", "LStillLoops$Rounds;", true)
def tyX10 : Nat → FieldType := fun k => match k with
  | 0 => .object "StillLoops$Reader"
  | 1 => .int
  | 2 => .object "StillLoops$Bench"
  | 3 => .object "StillLoops$Bench"
  | 4 => .boolean
  | 5 => .object "StillLoops$Bench"
  | 6 => .object "StillLoops$Twin"
  | _ => .object "StillLoops$Rounds"
def TX11 : u_T := fun k => match k with
  | 0 => ("StillLoopsModel", "thrown", "I", false)
  | 1 => ("StillLoopsModel", "world", "[J", true)
  | 2 => ("StillLoopsModel", "image", "[J", true)
  | 3 => ("StillLoopsModel", "earlie\x72", "[J", true)
  | 4 => ("StillLoopsModel", "trial", "[J", true)
  | 5 => ("StillLoopsModel", "hasImage", "Z", false)
  | 6 => ("StillLoopsModel", "tape", "[B", true)
  | 7 => ("StillLoopsModel", "taped", "I", false)
  | 8 => ("StillLoopsModel", "point", "I", false)
  | 9 => ("StillLoopsModel", "end", "I", false)
  | 10 => ("StillLoopsModel", "begin", "I", false)
  | 11 => ("StillLoopsModel", "faultAt", "I", false)
  | 12 => ("StillLoopsModel", "five", "[I", true)
  | 13 => ("StillLoopsModel", "read", "I", false)
  | 14 => ("StillLoopsModel", "greatest", "[J", true)
  | 15 => ("StillLoopsModel", "times", "[J", true)
  | 16 => ("StillLoopsModel", "roundFrom", "I", false)
  | 17 => ("StillLoopsModel", "roundLong", "I", false)
  | 18 => ("StillLoopsModel", "unlike", "[J", true)
  | 19 => ("StillLoopsModel", "y", "[D", true)
  | 20 => ("StillLoopsModel", "z", "[D", true)
  | 21 => ("StillLoopsModel", "i", "[D", true)
  | 22 => ("StillLoopsModel", "f", "[D", true)
  | 23 => ("StillLoopsModel", "\x72", "[D", true)
  | 24 => ("StillLoopsModel", "sp", "[D", true)
  | 25 => ("StillLoopsModel", "out", "[D", true)
  | 26 => ("StillLoopsModel", "pos", "[D", true)
  | 27 => ("StillLoopsModel", "seen", "[D", true)
  | 28 => ("StillLoopsModel", "fed", "[D", true)
  | _ => ("StillLoopsModel", "follows", "[Z", true)
def tyX11 : Nat → FieldType := fun k => match k with
  | 0 => .int
  | 1 => .array .long
  | 2 => .array .long
  | 3 => .array .long
  | 4 => .array .long
  | 5 => .boolean
  | 6 => .array .byte
  | 7 => .int
  | 8 => .int
  | 9 => .int
  | 10 => .int
  | 11 => .int
  | 12 => .array .int
  | 13 => .int
  | 14 => .array .long
  | 15 => .array .long
  | 16 => .int
  | 17 => .int
  | 18 => .array .long
  | 19 => .array .double
  | 20 => .array .double
  | 21 => .array .double
  | 22 => .array .double
  | 23 => .array .double
  | 24 => .array .double
  | 25 => .array .double
  | 26 => .array .double
  | 27 => .array .double
  | 28 => .array .double
  | _ => .array .boolean
def ri_cl0 : List vw_C := [(RX0, TX0, 8), (RX1, TX1, 10), (RX2, TX2, 19), (RX3, TX3, 8), (RX4, TX4, 7), (RX5, TX5, 9), (RX6, TX6, 4), (RX7, TX7, 3), (RX8, TX8, 9), (RX9, TX9, 6), (RX10, TX10, 8), (RX11, TX11, 30)]
def ri_ty0 (ci k : Nat) : FieldType := match ci with
  | 0 => tyX0 k
  | 1 => tyX1 k
  | 2 => tyX2 k
  | 3 => tyX3 k
  | 4 => tyX4 k
  | 5 => tyX5 k
  | 6 => tyX6 k
  | 7 => tyX7 k
  | 8 => tyX8 k
  | 9 => tyX9 k
  | 10 => tyX10 k
  | _ => tyX11 k
def ri_df0 (ci : Nat) : List Value := match ci with
  | 0 => [.null, .int 0, .int 0, .int 0, .null, .null, .null, .null]
  | 1 => [.int 0, .int 0, .int 0, .int 0, .int 0, .int 0, .null, .null, .null, .null]
  | 2 => [.null, .null, .null, .null, .int 0, .int 0, .int 0, .int 0, .long 0, .long 0, .long 0, .int 0, .int 0, .int 0, .int 0, .null, .int 0, .int 0, .int 0]
  | 3 => [.int 0, .int 0, .int 0, .int 0, .int 0, .int 0, .int 0, .null]
  | 4 => [.null, .int 0, .null, .int 0, .int 0, .int 0, .int 0]
  | 5 => [.int 0, .int 0, .int 0, .int 0, .int 0, .int 0, .int 0, .int 0, .int 0]
  | 6 => [.int 0, .int 0, .null, .null]
  | 7 => [.null, .int 0, .int 0]
  | 8 => [.null, .null, .null, .null, .null, .null, .null, .null, .null]
  | 9 => [.int 0, .int 0, .int 0, .int 0, .int 0, .null]
  | 10 => [.null, .int 0, .null, .null, .int 0, .null, .null, .null]
  | _ => [.int 0, .null, .null, .null, .null, .int 0, .null, .int 0, .int 0, .int 0, .int 0, .int 0, .null, .int 0, .null, .null, .int 0, .int 0, .null, .null, .null, .null, .null, .null, .null, .null, .null, .null, .null, .null]
def ri_tyL0 : List FieldType := [.int, .long, .boolean, .byte, .double, .object RX2, .array .double]
def ri_exn0 (x : Nat) : String := match x with
  | 0 => "java/lang/IllegalArgumentException"
  | 1 => "java/lang/UnsupportedOperationException"
  | 2 => "java/lang/IndexOutOfBoundsException"
  | 3 => "java/util/NoSuchElementException"
  | _ => "java/lang/IllegalStateException"
def ri_NW0 : List ri_N := [("StillLoops", 9, ⟨"StillLoops$Reade\x72", "<init>", "()V"⟩, "StillLoops"), ("StillLoops$Bench", 47, ⟨"StillLoops$Loop", "<init>", "()V"⟩, "StillLoops"), ("StillLoops$Loop", 11, ⟨"StillLoops$Plant", "<init>", "()V"⟩, "StillLoops"), ("StillLoops$Loop", 20, ⟨"StillLoops$Valve", "<init>", "()V"⟩, "StillLoops"), ("StillLoops$Loop", 27, ⟨"StillLoops$Law", "<init>", "()V"⟩, "StillLoops"), ("StillLoops$Loop", 34, ⟨"StillLoops$RelayTest", "<init>", "()V"⟩, "StillLoops"), ("StillLoops", 39, ⟨"StillLoops$Twin", "<init>", "()V"⟩, "StillLoops"), ("StillLoops", 46, ⟨"StillLoops$Rounds", "<init>", "()V"⟩, "StillLoops"), ("StillLoops$Loop", 125, ⟨"StillLoops", "within", "(JJJ)J"⟩, "StillLoops"), ("StillLoops$Valve", 28, ⟨"StillLoops", "within", "(JJJ)J"⟩, "StillLoops"), ("StillLoops$Plant", 47, ⟨"StillLoops", "within", "(JJJ)J"⟩, "StillLoops"), ("StillLoops$Twin", 144, ⟨"StillLoops", "bounded", "(DDD)D"⟩, "StillLoops")]
def ri_AO0 : List FieldType := [.object RX2, .array .double]
def ri_exl0 (_ : Nat) : Nat := 2
def ri_CW0 : List ri_C9 := [.inl ("java/lang/IllegalArgumentException", "java/lang/IllegalArgumentException"), .inl ("java/lang/IllegalStateException", "java/lang/IllegalStateException"), .inl ("java/lang/IndexOutOfBoundsException", "java/lang/IndexOutOfBoundsException"), .inl ("java/lang/UnsupportedOperationException", "java/lang/UnsupportedOperationException"), .inl ("java/util/NoSuchElementException", "java/util/NoSuchElementException"), .inr ⟨"java/lang/RuntimeException", "<init>", "()V"⟩, .inr ⟨"java/lang/RuntimeException", "<init>", "(Ljava/lang/String;)V"⟩, .inr ⟨"java/lang/Exception", "<init>", "()V"⟩, .inr ⟨"java/lang/Exception", "<init>", "(Ljava/lang/String;)V"⟩, .inr ⟨"java/lang/Throwable", "<init>", "()V"⟩, .inr ⟨"java/lang/Throwable", "<init>", "(Ljava/lang/String;)V"⟩]
def ri_XT0 : List ri_X := [("StillLoops", 69, 71, 0), ("StillLoops", 75, 77, 1), ("StillLoops", 165, 167, 3), ("StillLoops", 188, 190, 2), ("StillLoops", 259, 261, 4)]
set_option maxRecDepth 100000 in
theorem ri_kx0 : ri_xall ri_CW0 "StillLoops" 69 71 "java/lang/IllegalArgumentException" = true := by decide +kernel
set_option maxRecDepth 100000 in
theorem ri_kx1 : ri_xall ri_CW0 "StillLoops" 75 77 "java/lang/UnsupportedOperationException" = true := by decide +kernel
set_option maxRecDepth 100000 in
theorem ri_kx2 : ri_xall ri_CW0 "StillLoops" 165 167 "java/util/NoSuchElementException" = true := by decide +kernel
set_option maxRecDepth 100000 in
theorem ri_kx3 : ri_xall ri_CW0 "StillLoops" 188 190 "java/lang/IndexOutOfBoundsException" = true := by decide +kernel
set_option maxRecDepth 100000 in
theorem ri_kx4 : ri_xall ri_CW0 "StillLoops" 259 261 "java/lang/IllegalStateException" = true := by decide +kernel
theorem ri_XTok0 : ∀ x ∈ ri_XT0, ri_xfact ri_CW0 ri_exl0 ri_exn0 x := List.forall_mem_cons.mpr ⟨⟨rfl, ri_kx0⟩, List.forall_mem_cons.mpr ⟨⟨rfl, ri_kx1⟩, List.forall_mem_cons.mpr ⟨⟨rfl, ri_kx2⟩, List.forall_mem_cons.mpr ⟨⟨rfl, ri_kx3⟩, List.forall_mem_cons.mpr ⟨⟨rfl, ri_kx4⟩, fun _ h => absurd h List.not_mem_nil⟩⟩⟩⟩⟩
def ri_HL0 : List (String × String × List (Nat × Nat × Nat × Nat)) := [("bench", "(LStillLoops;[J)I", [(0, 8, 11, 13), (0, 8, 14, 15)]), ("loop", "(LStillLoops;II[J)I", [(0, 10, 13, 21), (0, 10, 17, 23)]), ("inne\x72", "(LStillLoops;II[J)I", [(0, 9, 12, 21), (0, 9, 16, 23)]), ("gain", "(LStillLoops;III[J)I", [(0, 12, 15, 21), (0, 12, 19, 23)]), ("weight", "(LStillLoops;II[J)I", [(0, 10, 13, 21), (0, 10, 17, 23)]), ("trip", "(LStillLoops;II[J)I", [(0, 10, 13, 21)]), ("whose", "(LStillLoops;II[J)I", [(0, 10, 13, 21)]), ("flow", "(LStillLoops;II[J)I", [(0, 10, 13, 21), (0, 10, 17, 13)]), ("ticks", "(LStillLoops;I[J)I", [(0, 9, 12, 13)]), ("mode", "(LStillLoops;II[J)I", [(0, 10, 13, 21), (0, 10, 17, 13), (0, 10, 21, 52)]), ("set", "(LStillLoops;II[J)I", [(0, 10, 13, 21), (0, 10, 17, 13), (0, 10, 21, 52)]), ("out", "(LStillLoops;II[J)I", [(0, 10, 13, 21), (0, 10, 17, 13), (0, 10, 21, 52)]), ("gains", "(LStillLoops;IIII[J)I", [(0, 14, 17, 21), (0, 14, 21, 13)]), ("load", "(LStillLoops;II[J)I", [(0, 10, 13, 21), (0, 10, 17, 13)]), ("lose", "(LStillLoops;IZ[J)I", [(0, 17, 20, 21)]), ("relay", "(LStillLoops;III[J)I", [(0, 12, 15, 21), (0, 12, 19, 13), (0, 12, 23, 52)]), ("tune", "(LStillLoops;II[J)I", [(0, 10, 13, 21), (0, 10, 17, 13), (0, 10, 21, 52)]), ("bump", "(LStillLoops;II[J)I", [(0, 10, 13, 21), (0, 10, 17, 13), (0, 10, 21, 52)]), ("sweep", "(LStillLoops;I[J)I", [(0, 9, 12, 21)]), ("starts", "(LStillLoops;II[J)I", [(0, 10, 13, 21), (0, 10, 17, 23)]), ("step", "(LStillLoops;III[J)I", [(0, 12, 15, 21), (0, 12, 19, 23), (0, 12, 23, 13), (0, 12, 27, 52)]), ("twin", "(LStillLoops;I[J)I", [(0, 9, 12, 13), (0, 9, 15, 52)]), ("ahead", "(LStillLoops;IIZ[J)I", [(0, 12, 15, 21), (0, 12, 19, 13)]), ("peak", "(LStillLoops;II[J)I", [(0, 9, 12, 21), (0, 9, 16, 13)]), ("hunts", "(LStillLoops;II[J)I", [(0, 10, 13, 21), (0, 10, 17, 13)]), ("worst", "(LStillLoops;I[J)I", [(0, 9, 12, 13)]), ("which", "(LStillLoops;I[J)I", [(0, 9, 12, 23)]), ("event", "(LStillLoops;II[J)I", [(0, 10, 13, 21), (0, 10, 17, 23)]), ("log", "(LStillLoops;II[J)I", [(0, 10, 13, 23)])]
def ri_hfind (n d : String) : List (String × String × List (Nat × Nat × Nat × Nat)) → List (Nat × Nat × Nat × Nat)
  | [] => []
  | x :: r => bif decide (x.1 = n) && decide (x.2.1 = d) then x.2.2 else ri_hfind n d r
def ri_hh0 (y : MethodName) : List (Nat × Nat × Nat × Nat) := bif decide (y.cls = "StillLoopsLaw") then ri_hfind y.name y.desc ri_HL0 else []
def ri_NC0 : List (String × String) := [("java/lang/IllegalArgumentException", "java/lang/IllegalStateException"), ("java/lang/IllegalArgumentException", "java/lang/IndexOutOfBoundsException"), ("java/lang/IllegalArgumentException", "java/lang/UnsupportedOperationException"), ("java/lang/IllegalArgumentException", "java/util/NoSuchElementException"), ("java/lang/IllegalStateException", "java/lang/IllegalArgumentException"), ("java/lang/IllegalStateException", "java/lang/IndexOutOfBoundsException"), ("java/lang/IllegalStateException", "java/lang/UnsupportedOperationException"), ("java/lang/IllegalStateException", "java/util/NoSuchElementException"), ("java/lang/IndexOutOfBoundsException", "java/lang/IllegalArgumentException"), ("java/lang/IndexOutOfBoundsException", "java/lang/IllegalStateException"), ("java/lang/IndexOutOfBoundsException", "java/lang/UnsupportedOperationException"), ("java/lang/IndexOutOfBoundsException", "java/util/NoSuchElementException"), ("java/lang/UnsupportedOperationException", "java/lang/IllegalArgumentException"), ("java/lang/UnsupportedOperationException", "java/lang/IllegalStateException"), ("java/lang/UnsupportedOperationException", "java/lang/IndexOutOfBoundsException"), ("java/lang/UnsupportedOperationException", "java/util/NoSuchElementException"), ("java/util/NoSuchElementException", "java/lang/IllegalArgumentException"), ("java/util/NoSuchElementException", "java/lang/IllegalStateException"), ("java/util/NoSuchElementException", "java/lang/IndexOutOfBoundsException"), ("java/util/NoSuchElementException", "java/lang/UnsupportedOperationException")]
def ri_CN0 : List (String × Nat × String) := [("StillLoopsLaw", 13, "java/lang/IllegalArgumentException"), ("StillLoopsLaw", 15, "java/lang/UnsupportedOperationException"), ("StillLoopsLaw", 21, "java/lang/IndexOutOfBoundsException"), ("StillLoopsLaw", 23, "java/util/NoSuchElementException"), ("StillLoopsLaw", 52, "java/lang/IllegalStateException")]
set_option maxRecDepth 100000 in
theorem ri_kCN0 : ri_has [927, 928, 1211, 1212, 1342] (ri_CN0.map (fun c => Jvm.Cond.classLink c.1 c.2.1 c.2.2)) = true := by decide +kernel
theorem ri_CNok0 : ∀ c ∈ ri_CN0, Jvm.Cond.classLink c.1 c.2.1 c.2.2 ∈ ri_WG := fun c hc => ri_has_ok ri_kCN0 _ (List.mem_map.mpr ⟨c, hc, rfl⟩)
set_option maxRecDepth 100000 in
theorem ri_kc0 : ri_has [542, 544, 546, 548, 550, 552, 554, 556, 168, 126] (u_ws RX0 TX0 8 ++ [.instantiable RX0 8, .initialized RX0]) = true := by decide +kernel
theorem ri_kp0 : ∀ k, k < 8 → parseFieldDescriptor (TX0 k).2.2.1 = some (ri_ty0 0 k) := by decide +kernel
theorem ri_kn0 : ∀ a, a < 8 → ∀ b, b < 8 → a ≠ b → (TX0 a).2.1 ≠ (TX0 b).2.1 := by decide +kernel
theorem ri_kd0 : ∀ j, j < 8 → (ri_df0 0).getD j .null = defaultValue (ri_ty0 0 j) ∧ ri_ty0 0 j ≠ .float := by decide +kernel
set_option maxRecDepth 100000 in
theorem ri_kc1 : ri_has [348, 350, 352, 354, 356, 358, 360, 362, 364, 366, 302, 131] (u_ws RX1 TX1 10 ++ [.instantiable RX1 10, .initialized RX1]) = true := by decide +kernel
theorem ri_kp1 : ∀ k, k < 10 → parseFieldDescriptor (TX1 k).2.2.1 = some (ri_ty0 1 k) := by decide +kernel
theorem ri_kn1 : ∀ a, a < 10 → ∀ b, b < 10 → a ≠ b → (TX1 a).2.1 ≠ (TX1 b).2.1 := by decide +kernel
theorem ri_kd1 : ∀ j, j < 10 → (ri_df0 1).getD j .null = defaultValue (ri_ty0 1 j) ∧ ri_ty0 1 j ≠ .float := by decide +kernel
set_option maxRecDepth 100000 in
theorem ri_kc2 : ri_has [480, 482, 484, 486, 488, 490, 492, 494, 496, 498, 500, 502, 504, 506, 508, 510, 512, 514, 516, 195, 128] (u_ws RX2 TX2 19 ++ [.instantiable RX2 19, .initialized RX2]) = true := by decide +kernel
theorem ri_kp2 : ∀ k, k < 19 → parseFieldDescriptor (TX2 k).2.2.1 = some (ri_ty0 2 k) := by decide +kernel
theorem ri_kn2 : ∀ a, a < 19 → ∀ b, b < 19 → a ≠ b → (TX2 a).2.1 ≠ (TX2 b).2.1 := by decide +kernel
theorem ri_kd2 : ∀ j, j < 19 → (ri_df0 2).getD j .null = defaultValue (ri_ty0 2 j) ∧ ri_ty0 2 j ≠ .float := by decide +kernel
set_option maxRecDepth 100000 in
theorem ri_kc3 : ri_has [237, 239, 241, 243, 245, 247, 249, 251, 201, 129] (u_ws RX3 TX3 8 ++ [.instantiable RX3 8, .initialized RX3]) = true := by decide +kernel
theorem ri_kp3 : ∀ k, k < 8 → parseFieldDescriptor (TX3 k).2.2.1 = some (ri_ty0 3 k) := by decide +kernel
theorem ri_kn3 : ∀ a, a < 8 → ∀ b, b < 8 → a ≠ b → (TX3 a).2.1 ≠ (TX3 b).2.1 := by decide +kernel
theorem ri_kd3 : ∀ j, j < 8 → (ri_df0 3).getD j .null = defaultValue (ri_ty0 3 j) ∧ ri_ty0 3 j ≠ .float := by decide +kernel
set_option maxRecDepth 100000 in
theorem ri_kc4 : ri_has [568, 570, 572, 574, 576, 578, 580, 162, 125] (u_ws RX4 TX4 7 ++ [.instantiable RX4 7, .initialized RX4]) = true := by decide +kernel
theorem ri_kp4 : ∀ k, k < 7 → parseFieldDescriptor (TX4 k).2.2.1 = some (ri_ty0 4 k) := by decide +kernel
theorem ri_kn4 : ∀ a, a < 7 → ∀ b, b < 7 → a ≠ b → (TX4 a).2.1 ≠ (TX4 b).2.1 := by decide +kernel
theorem ri_kd4 : ∀ j, j < 7 → (ri_df0 4).getD j .null = defaultValue (ri_ty0 4 j) ∧ ri_ty0 4 j ≠ .float := by decide +kernel
set_option maxRecDepth 100000 in
theorem ri_kc5 : ri_has [392, 394, 396, 398, 400, 402, 404, 406, 408, 370, 132] (u_ws RX5 TX5 9 ++ [.instantiable RX5 9, .initialized RX5]) = true := by decide +kernel
theorem ri_kp5 : ∀ k, k < 9 → parseFieldDescriptor (TX5 k).2.2.1 = some (ri_ty0 5 k) := by decide +kernel
theorem ri_kn5 : ∀ a, a < 9 → ∀ b, b < 9 → a ≠ b → (TX5 a).2.1 ≠ (TX5 b).2.1 := by decide +kernel
theorem ri_kd5 : ∀ j, j < 9 → (ri_df0 5).getD j .null = defaultValue (ri_ty0 5 j) ∧ ri_ty0 5 j ≠ .float := by decide +kernel
set_option maxRecDepth 100000 in
theorem ri_kc6 : ri_has [636, 638, 640, 642, 624, 134] (u_ws RX6 TX6 4 ++ [.instantiable RX6 4, .initialized RX6]) = true := by decide +kernel
theorem ri_kp6 : ∀ k, k < 4 → parseFieldDescriptor (TX6 k).2.2.1 = some (ri_ty0 6 k) := by decide +kernel
theorem ri_kn6 : ∀ a, a < 4 → ∀ b, b < 4 → a ≠ b → (TX6 a).2.1 ≠ (TX6 b).2.1 := by decide +kernel
theorem ri_kd6 : ∀ j, j < 4 → (ri_df0 6).getD j .null = defaultValue (ri_ty0 6 j) ∧ ri_ty0 6 j ≠ .float := by decide +kernel
set_option maxRecDepth 100000 in
theorem ri_kc7 : ri_has [187, 189, 191, 176, 127] (u_ws RX7 TX7 3 ++ [.instantiable RX7 3, .initialized RX7]) = true := by decide +kernel
theorem ri_kp7 : ∀ k, k < 3 → parseFieldDescriptor (TX7 k).2.2.1 = some (ri_ty0 7 k) := by decide +kernel
theorem ri_kn7 : ∀ a, a < 3 → ∀ b, b < 3 → a ≠ b → (TX7 a).2.1 ≠ (TX7 b).2.1 := by decide +kernel
theorem ri_kd7 : ∀ j, j < 3 → (ri_df0 7).getD j .null = defaultValue (ri_ty0 7 j) ∧ ri_ty0 7 j ≠ .float := by decide +kernel
set_option maxRecDepth 100000 in
theorem ri_kc8 : ri_has [603, 605, 607, 609, 611, 613, 615, 617, 619, 587, 133] (u_ws RX8 TX8 9 ++ [.instantiable RX8 9, .initialized RX8]) = true := by decide +kernel
theorem ri_kp8 : ∀ k, k < 9 → parseFieldDescriptor (TX8 k).2.2.1 = some (ri_ty0 8 k) := by decide +kernel
theorem ri_kn8 : ∀ a, a < 9 → ∀ b, b < 9 → a ≠ b → (TX8 a).2.1 ≠ (TX8 b).2.1 := by decide +kernel
theorem ri_kd8 : ∀ j, j < 9 → (ri_df0 8).getD j .null = defaultValue (ri_ty0 8 j) ∧ ri_ty0 8 j ≠ .float := by decide +kernel
set_option maxRecDepth 100000 in
theorem ri_kc9 : ri_has [288, 290, 292, 294, 296, 298, 257, 130] (u_ws RX9 TX9 6 ++ [.instantiable RX9 6, .initialized RX9]) = true := by decide +kernel
theorem ri_kp9 : ∀ k, k < 6 → parseFieldDescriptor (TX9 k).2.2.1 = some (ri_ty0 9 k) := by decide +kernel
theorem ri_kn9 : ∀ a, a < 6 → ∀ b, b < 6 → a ≠ b → (TX9 a).2.1 ≠ (TX9 b).2.1 := by decide +kernel
theorem ri_kd9 : ∀ j, j < 6 → (ri_df0 9).getD j .null = defaultValue (ri_ty0 9 j) ∧ ri_ty0 9 j ≠ .float := by decide +kernel
set_option maxRecDepth 100000 in
theorem ri_kc10 : ri_has [653, 655, 657, 659, 661, 663, 665, 667, 154, 124] (u_ws RX10 TX10 8 ++ [.instantiable RX10 8, .initialized RX10]) = true := by decide +kernel
theorem ri_kp10 : ∀ k, k < 8 → parseFieldDescriptor (TX10 k).2.2.1 = some (ri_ty0 10 k) := by decide +kernel
theorem ri_kn10 : ∀ a, a < 8 → ∀ b, b < 8 → a ≠ b → (TX10 a).2.1 ≠ (TX10 b).2.1 := by decide +kernel
theorem ri_kd10 : ∀ j, j < 8 → (ri_df0 10).getD j .null = defaultValue (ri_ty0 10 j) ∧ ri_ty0 10 j ≠ .float := by decide +kernel
set_option maxRecDepth 100000 in
theorem ri_kc11 : ri_has [1632, 1634, 1636, 1638, 1640, 1642, 1644, 1646, 1648, 1650, 1652, 1654, 1656, 1658, 1660, 1662, 1664, 1666, 1668, 1670, 1672, 1674, 1676, 1678, 1680, 1682, 1684, 1686, 1688, 1690, 1596, 135] (u_ws RX11 TX11 30 ++ [.instantiable RX11 30, .initialized RX11]) = true := by decide +kernel
theorem ri_kp11 : ∀ k, k < 30 → parseFieldDescriptor (TX11 k).2.2.1 = some (ri_ty0 11 k) := by decide +kernel
theorem ri_kn11 : ∀ a, a < 30 → ∀ b, b < 30 → a ≠ b → (TX11 a).2.1 ≠ (TX11 b).2.1 := by decide +kernel
theorem ri_kd11 : ∀ j, j < 30 → (ri_df0 11).getD j .null = defaultValue (ri_ty0 11 j) ∧ ri_ty0 11 j ≠ .float := by decide +kernel
theorem ri_clok0 : ri_clok ri_WG ri_cl0 ri_ty0 := by
  intro ci r h
  match ci, h with
  | 0, h => cases h; exact ⟨fun w hw => ri_has_ok ri_kc0 w (List.mem_append_left _ hw), ri_kp0, ri_kn0, ri_has_ok ri_kc0 _ (List.mem_append_right _ List.mem_cons_self), ri_has_ok ri_kc0 _ (List.mem_append_right _ (List.mem_cons_of_mem _ List.mem_cons_self))⟩
  | 1, h => cases h; exact ⟨fun w hw => ri_has_ok ri_kc1 w (List.mem_append_left _ hw), ri_kp1, ri_kn1, ri_has_ok ri_kc1 _ (List.mem_append_right _ List.mem_cons_self), ri_has_ok ri_kc1 _ (List.mem_append_right _ (List.mem_cons_of_mem _ List.mem_cons_self))⟩
  | 2, h => cases h; exact ⟨fun w hw => ri_has_ok ri_kc2 w (List.mem_append_left _ hw), ri_kp2, ri_kn2, ri_has_ok ri_kc2 _ (List.mem_append_right _ List.mem_cons_self), ri_has_ok ri_kc2 _ (List.mem_append_right _ (List.mem_cons_of_mem _ List.mem_cons_self))⟩
  | 3, h => cases h; exact ⟨fun w hw => ri_has_ok ri_kc3 w (List.mem_append_left _ hw), ri_kp3, ri_kn3, ri_has_ok ri_kc3 _ (List.mem_append_right _ List.mem_cons_self), ri_has_ok ri_kc3 _ (List.mem_append_right _ (List.mem_cons_of_mem _ List.mem_cons_self))⟩
  | 4, h => cases h; exact ⟨fun w hw => ri_has_ok ri_kc4 w (List.mem_append_left _ hw), ri_kp4, ri_kn4, ri_has_ok ri_kc4 _ (List.mem_append_right _ List.mem_cons_self), ri_has_ok ri_kc4 _ (List.mem_append_right _ (List.mem_cons_of_mem _ List.mem_cons_self))⟩
  | 5, h => cases h; exact ⟨fun w hw => ri_has_ok ri_kc5 w (List.mem_append_left _ hw), ri_kp5, ri_kn5, ri_has_ok ri_kc5 _ (List.mem_append_right _ List.mem_cons_self), ri_has_ok ri_kc5 _ (List.mem_append_right _ (List.mem_cons_of_mem _ List.mem_cons_self))⟩
  | 6, h => cases h; exact ⟨fun w hw => ri_has_ok ri_kc6 w (List.mem_append_left _ hw), ri_kp6, ri_kn6, ri_has_ok ri_kc6 _ (List.mem_append_right _ List.mem_cons_self), ri_has_ok ri_kc6 _ (List.mem_append_right _ (List.mem_cons_of_mem _ List.mem_cons_self))⟩
  | 7, h => cases h; exact ⟨fun w hw => ri_has_ok ri_kc7 w (List.mem_append_left _ hw), ri_kp7, ri_kn7, ri_has_ok ri_kc7 _ (List.mem_append_right _ List.mem_cons_self), ri_has_ok ri_kc7 _ (List.mem_append_right _ (List.mem_cons_of_mem _ List.mem_cons_self))⟩
  | 8, h => cases h; exact ⟨fun w hw => ri_has_ok ri_kc8 w (List.mem_append_left _ hw), ri_kp8, ri_kn8, ri_has_ok ri_kc8 _ (List.mem_append_right _ List.mem_cons_self), ri_has_ok ri_kc8 _ (List.mem_append_right _ (List.mem_cons_of_mem _ List.mem_cons_self))⟩
  | 9, h => cases h; exact ⟨fun w hw => ri_has_ok ri_kc9 w (List.mem_append_left _ hw), ri_kp9, ri_kn9, ri_has_ok ri_kc9 _ (List.mem_append_right _ List.mem_cons_self), ri_has_ok ri_kc9 _ (List.mem_append_right _ (List.mem_cons_of_mem _ List.mem_cons_self))⟩
  | 10, h => cases h; exact ⟨fun w hw => ri_has_ok ri_kc10 w (List.mem_append_left _ hw), ri_kp10, ri_kn10, ri_has_ok ri_kc10 _ (List.mem_append_right _ List.mem_cons_self), ri_has_ok ri_kc10 _ (List.mem_append_right _ (List.mem_cons_of_mem _ List.mem_cons_self))⟩
  | 11, h => cases h; exact ⟨fun w hw => ri_has_ok ri_kc11 w (List.mem_append_left _ hw), ri_kp11, ri_kn11, ri_has_ok ri_kc11 _ (List.mem_append_right _ List.mem_cons_self), ri_has_ok ri_kc11 _ (List.mem_append_right _ (List.mem_cons_of_mem _ List.mem_cons_self))⟩
  | n + 12, h => cases h
theorem ri_dfok0 : ∀ (ci : Nat) (r : vw_C), ri_cl0[ci]? = some r → ∀ j, j < r.2.2 → (ri_df0 ci).getD j .null = defaultValue (ri_ty0 ci j) ∧ ri_ty0 ci j ≠ .float := by
  intro ci r h
  match ci, h with
  | 0, h => cases h; exact ri_kd0
  | 1, h => cases h; exact ri_kd1
  | 2, h => cases h; exact ri_kd2
  | 3, h => cases h; exact ri_kd3
  | 4, h => cases h; exact ri_kd4
  | 5, h => cases h; exact ri_kd5
  | 6, h => cases h; exact ri_kd6
  | 7, h => cases h; exact ri_kd7
  | 8, h => cases h; exact ri_kd8
  | 9, h => cases h; exact ri_kd9
  | 10, h => cases h; exact ri_kd10
  | 11, h => cases h; exact ri_kd11
  | n + 12, h => cases h
end
section
/-! ===== the program as data: methods ===== -/
set_option maxRecDepth 100000 in
noncomputable def ri_m_L_law : ri_M := (⟨"StillLoopsLaw", "law", "([I)Z"⟩, code, 8, some .boolean, 1, [
  (0, 18, .new 8, 10, 8, .null, []),
  (3, 0, .dup, 0, 0, .null, []),
  (4, 4, .invokespecial 114, 1, 2, .null, []),
  (7, 0, .astore_n 1, 0, 0, .null, []),
  (8, 18, .new 115, 11, 30, .null, []),
  (11, 0, .dup, 0, 0, .null, []),
  (12, 4, .invokespecial 117, 2, 2, .null, []),
  (15, 0, .astore_n 2, 0, 0, .null, []),
  (16, 0, .iconst 1, 0, 0, .null, []),
  (17, 19, .newarray .long, 1, 0, .long 0, []),
  (19, 0, .astore_n 3, 0, 0, .null, []),
  (20, 0, .iconst 0, 0, 0, .null, []),
  (21, 0, .istore 4, 0, 0, .null, []),
  (23, 0, .iload 4, 0, 0, .null, []),
  (25, 0, .aload_n 0, 0, 0, .null, []),
  (26, 25, .arraylength, 0, 0, .null, []),
  (27, 0, .bipush 6, 0, 0, .null, []),
  (29, 17, .isub, 2, 9999, .null, []),
  (30, 17, .if_icmp .gt 2374, 2, 9999, .null, [1474]),
  (33, 0, .aload_n 0, 0, 0, .null, []),
  (34, 0, .iload 4, 0, 0, .null, []),
  (36, 24, .iaload, 0, 0, .null, []),
  (37, 0, .bipush 63, 0, 0, .null, []),
  (39, 17, .iand, 2, 9999, .null, []),
  (40, 17, .tableswitch 2358 0 35 #[160, 233, 258, 302, 315, 383, 450, 530, 598, 666, 734, 802, 858, 926, 994, 1062, 1154, 1222, 1313, 1393, 1461, 1529, 1570, 1626, 1694, 1774, 1830, 1926, 1993, 2061, 2117, 2173, 2241, 2309, 2320, 2333], 1, 9999, .null, [1472, 25, 82, 99, 124, 131, 176, 220, 275, 320, 365, 410, 455, 490, 535, 580, 625, 690, 735, 791, 846, 891, 936, 961, 996, 1041, 1096, 1131, 1194, 1238, 1283, 1318, 1353, 1398, 1443, 1448, 1455]),
  (200, 0, .aload_n 1, 0, 0, .null, []),
  (201, 0, .aload_n 0, 0, 0, .null, []),
  (202, 0, .iload 4, 0, 0, .null, []),
  (204, 0, .iconst 1, 0, 0, .null, []),
  (205, 17, .iadd, 2, 9999, .null, []),
  (206, 24, .iaload, 0, 0, .null, []),
  (207, 0, .aload_n 0, 0, 0, .null, []),
  (208, 0, .iload 4, 0, 0, .null, []),
  (210, 0, .iconst 2, 0, 0, .null, []),
  (211, 17, .iadd, 2, 9999, .null, []),
  (212, 24, .iaload, 0, 0, .null, []),
  (213, 0, .aload_n 0, 0, 0, .null, []),
  (214, 0, .iload 4, 0, 0, .null, []),
  (216, 0, .iconst 3, 0, 0, .null, []),
  (217, 17, .iadd, 2, 9999, .null, []),
  (218, 24, .iaload, 0, 0, .null, []),
  (219, 0, .aload_n 0, 0, 0, .null, []),
  (220, 0, .iload 4, 0, 0, .null, []),
  (222, 0, .iconst 4, 0, 0, .null, []),
  (223, 17, .iadd, 2, 9999, .null, []),
  (224, 24, .iaload, 0, 0, .null, []),
  (225, 0, .aload_n 0, 0, 0, .null, []),
  (226, 0, .iload 4, 0, 0, .null, []),
  (228, 0, .iconst 5, 0, 0, .null, []),
  (229, 17, .iadd, 2, 9999, .null, []),
  (230, 24, .iaload, 0, 0, .null, []),
  (231, 4, .invokevirtual 118, 3, 0, .null, [10]),
  (234, 0, .aload_n 2, 0, 0, .null, []),
  (235, 0, .aload_n 0, 0, 0, .null, []),
  (236, 0, .iload 4, 0, 0, .null, []),
  (238, 0, .iconst 1, 0, 0, .null, []),
  (239, 17, .iadd, 2, 9999, .null, []),
  (240, 24, .iaload, 0, 0, .null, []),
  (241, 0, .aload_n 0, 0, 0, .null, []),
  (242, 0, .iload 4, 0, 0, .null, []),
  (244, 0, .iconst 2, 0, 0, .null, []),
  (245, 17, .iadd, 2, 9999, .null, []),
  (246, 24, .iaload, 0, 0, .null, []),
  (247, 0, .aload_n 0, 0, 0, .null, []),
  (248, 0, .iload 4, 0, 0, .null, []),
  (250, 0, .iconst 3, 0, 0, .null, []),
  (251, 17, .iadd, 2, 9999, .null, []),
  (252, 24, .iaload, 0, 0, .null, []),
  (253, 0, .aload_n 0, 0, 0, .null, []),
  (254, 0, .iload 4, 0, 0, .null, []),
  (256, 0, .iconst 4, 0, 0, .null, []),
  (257, 17, .iadd, 2, 9999, .null, []),
  (258, 24, .iaload, 0, 0, .null, []),
  (259, 0, .aload_n 0, 0, 0, .null, []),
  (260, 0, .iload 4, 0, 0, .null, []),
  (262, 0, .iconst 5, 0, 0, .null, []),
  (263, 17, .iadd, 2, 9999, .null, []),
  (264, 24, .iaload, 0, 0, .null, []),
  (265, 4, .invokevirtual 122, 4, 0, .null, [11]),
  (268, 17, .if_icmp .eq 2130, 2, 9999, .null, [1472]),
  (271, 0, .iconst 0, 0, 0, .null, []),
  (272, 16, .ireturn, 0, 0, .null, []),
  (273, 0, .aload_n 1, 0, 0, .null, []),
  (274, 0, .aload_n 0, 0, 0, .null, []),
  (275, 0, .iload 4, 0, 0, .null, []),
  (277, 0, .iconst 1, 0, 0, .null, []),
  (278, 17, .iadd, 2, 9999, .null, []),
  (279, 24, .iaload, 0, 0, .null, []),
  (280, 4, .invokevirtual 123, 5, 0, .null, [10]),
  (283, 0, .aload_n 2, 0, 0, .null, []),
  (284, 0, .aload_n 0, 0, 0, .null, []),
  (285, 0, .iload 4, 0, 0, .null, []),
  (287, 0, .iconst 1, 0, 0, .null, []),
  (288, 17, .iadd, 2, 9999, .null, []),
  (289, 24, .iaload, 0, 0, .null, []),
  (290, 4, .invokevirtual 127, 6, 0, .null, [11]),
  (293, 17, .if_icmp .eq 2105, 2, 9999, .null, [1472]),
  (296, 0, .iconst 0, 0, 0, .null, []),
  (297, 16, .ireturn, 0, 0, .null, []),
  (298, 0, .aload_n 1, 0, 0, .null, []),
  (299, 0, .aload_n 3, 0, 0, .null, []),
  (300, 4, .invokestatic 128, 7, 6, .null, []),
  (303, 0, .istore 5, 0, 0, .null, []),
  (305, 0, .aload_n 2, 0, 0, .null, []),
  (306, 4, .invokevirtual 133, 8, 0, .null, [11]),
  (309, 0, .istore 6, 0, 0, .null, []),
  (311, 0, .aload_n 2, 0, 0, .null, []),
  (312, 4, .invokevirtual 134, 9, 0, .null, [11]),
  (315, 0, .iload 5, 0, 0, .null, []),
  (317, 17, .if_icmp .eq 5, 2, 9999, .null, [112]),
  (320, 0, .iconst 0, 0, 0, .null, []),
  (321, 16, .ireturn, 0, 0, .null, []),
  (322, 0, .iload 5, 0, 0, .null, []),
  (324, 17, .ifCond .ne 15, 1, 9999, .null, [123]),
  (327, 0, .aload_n 3, 0, 0, .null, []),
  (328, 0, .iconst 0, 0, 0, .null, []),
  (329, 7, .laload, 0, 0, .null, []),
  (330, 0, .iload 6, 0, 0, .null, []),
  (332, 0, .i2l, 0, 0, .null, []),
  (333, 0, .lcmp, 0, 0, .null, []),
  (334, 17, .ifCond .eq 5, 1, 9999, .null, [123]),
  (337, 0, .iconst 0, 0, 0, .null, []),
  (338, 16, .ireturn, 0, 0, .null, []),
  (339, 0, .goto 2059, 0, 0, .null, [1472]),
  (342, 0, .aload_n 1, 0, 0, .null, []),
  (343, 4, .invokevirtual 137, 10, 0, .null, [10]),
  (346, 0, .aload_n 2, 0, 0, .null, []),
  (347, 4, .invokevirtual 140, 11, 0, .null, [11]),
  (350, 17, .if_icmp .eq 2048, 2, 9999, .null, [1472]),
  (353, 0, .iconst 0, 0, 0, .null, []),
  (354, 16, .ireturn, 0, 0, .null, []),
  (355, 0, .aload_n 1, 0, 0, .null, []),
  (356, 0, .aload_n 0, 0, 0, .null, []),
  (357, 0, .iload 4, 0, 0, .null, []),
  (359, 0, .iconst 1, 0, 0, .null, []),
  (360, 17, .iadd, 2, 9999, .null, []),
  (361, 24, .iaload, 0, 0, .null, []),
  (362, 0, .aload_n 0, 0, 0, .null, []),
  (363, 0, .iload 4, 0, 0, .null, []),
  (365, 0, .iconst 2, 0, 0, .null, []),
  (366, 17, .iadd, 2, 9999, .null, []),
  (367, 24, .iaload, 0, 0, .null, []),
  (368, 0, .aload_n 3, 0, 0, .null, []),
  (369, 4, .invokestatic 141, 12, 6, .null, []),
  (372, 0, .istore 5, 0, 0, .null, []),
  (374, 0, .aload_n 2, 0, 0, .null, []),
  (375, 0, .aload_n 0, 0, 0, .null, []),
  (376, 0, .iload 4, 0, 0, .null, []),
  (378, 0, .iconst 1, 0, 0, .null, []),
  (379, 17, .iadd, 2, 9999, .null, []),
  (380, 24, .iaload, 0, 0, .null, []),
  (381, 0, .aload_n 0, 0, 0, .null, []),
  (382, 0, .iload 4, 0, 0, .null, []),
  (384, 0, .iconst 2, 0, 0, .null, []),
  (385, 17, .iadd, 2, 9999, .null, []),
  (386, 24, .iaload, 0, 0, .null, []),
  (387, 4, .invokevirtual 144, 13, 0, .null, [11]),
  (390, 0, .istore 6, 0, 0, .null, []),
  (392, 0, .aload_n 2, 0, 0, .null, []),
  (393, 4, .invokevirtual 134, 9, 0, .null, [11]),
  (396, 0, .iload 5, 0, 0, .null, []),
  (398, 17, .if_icmp .eq 5, 2, 9999, .null, [164]),
  (401, 0, .iconst 0, 0, 0, .null, []),
  (402, 16, .ireturn, 0, 0, .null, []),
  (403, 0, .iload 5, 0, 0, .null, []),
  (405, 17, .ifCond .ne 15, 1, 9999, .null, [175]),
  (408, 0, .aload_n 3, 0, 0, .null, []),
  (409, 0, .iconst 0, 0, 0, .null, []),
  (410, 7, .laload, 0, 0, .null, []),
  (411, 0, .iload 6, 0, 0, .null, []),
  (413, 0, .i2l, 0, 0, .null, []),
  (414, 0, .lcmp, 0, 0, .null, []),
  (415, 17, .ifCond .eq 5, 1, 9999, .null, [175]),
  (418, 0, .iconst 0, 0, 0, .null, []),
  (419, 16, .ireturn, 0, 0, .null, []),
  (420, 0, .goto 1978, 0, 0, .null, [1472]),
  (423, 0, .aload_n 1, 0, 0, .null, []),
  (424, 0, .aload_n 0, 0, 0, .null, []),
  (425, 0, .iload 4, 0, 0, .null, []),
  (427, 0, .iconst 1, 0, 0, .null, []),
  (428, 17, .iadd, 2, 9999, .null, []),
  (429, 24, .iaload, 0, 0, .null, []),
  (430, 0, .aload_n 0, 0, 0, .null, []),
  (431, 0, .iload 4, 0, 0, .null, []),
  (433, 0, .iconst 2, 0, 0, .null, []),
  (434, 17, .iadd, 2, 9999, .null, []),
  (435, 24, .iaload, 0, 0, .null, []),
  (436, 0, .aload_n 3, 0, 0, .null, []),
  (437, 4, .invokestatic 145, 14, 6, .null, []),
  (440, 0, .istore 5, 0, 0, .null, []),
  (442, 0, .aload_n 2, 0, 0, .null, []),
  (443, 0, .aload_n 0, 0, 0, .null, []),
  (444, 0, .iload 4, 0, 0, .null, []),
  (446, 0, .iconst 1, 0, 0, .null, []),
  (447, 17, .iadd, 2, 9999, .null, []),
  (448, 24, .iaload, 0, 0, .null, []),
  (449, 0, .aload_n 0, 0, 0, .null, []),
  (450, 0, .iload 4, 0, 0, .null, []),
  (452, 0, .iconst 2, 0, 0, .null, []),
  (453, 17, .iadd, 2, 9999, .null, []),
  (454, 24, .iaload, 0, 0, .null, []),
  (455, 4, .invokevirtual 147, 15, 0, .null, [11]),
  (458, 0, .lstore 6, 0, 0, .null, []),
  (460, 0, .aload_n 2, 0, 0, .null, []),
  (461, 4, .invokevirtual 134, 9, 0, .null, [11]),
  (464, 0, .iload 5, 0, 0, .null, []),
  (466, 17, .if_icmp .eq 5, 2, 9999, .null, [209]),
  (469, 0, .iconst 0, 0, 0, .null, []),
  (470, 16, .ireturn, 0, 0, .null, []),
  (471, 0, .iload 5, 0, 0, .null, []),
  (473, 17, .ifCond .ne 14, 1, 9999, .null, [219]),
  (476, 0, .aload_n 3, 0, 0, .null, []),
  (477, 0, .iconst 0, 0, 0, .null, []),
  (478, 7, .laload, 0, 0, .null, []),
  (479, 0, .lload 6, 0, 0, .null, []),
  (481, 0, .lcmp, 0, 0, .null, []),
  (482, 17, .ifCond .eq 5, 1, 9999, .null, [219]),
  (485, 0, .iconst 0, 0, 0, .null, []),
  (486, 16, .ireturn, 0, 0, .null, []),
  (487, 0, .goto 1911, 0, 0, .null, [1472]),
  (490, 0, .aload_n 1, 0, 0, .null, []),
  (491, 0, .aload_n 0, 0, 0, .null, []),
  (492, 0, .iload 4, 0, 0, .null, []),
  (494, 0, .iconst 1, 0, 0, .null, []),
  (495, 17, .iadd, 2, 9999, .null, []),
  (496, 24, .iaload, 0, 0, .null, []),
  (497, 0, .aload_n 0, 0, 0, .null, []),
  (498, 0, .iload 4, 0, 0, .null, []),
  (500, 0, .iconst 2, 0, 0, .null, []),
  (501, 17, .iadd, 2, 9999, .null, []),
  (502, 24, .iaload, 0, 0, .null, []),
  (503, 0, .aload_n 0, 0, 0, .null, []),
  (504, 0, .iload 4, 0, 0, .null, []),
  (506, 0, .iconst 3, 0, 0, .null, []),
  (507, 17, .iadd, 2, 9999, .null, []),
  (508, 24, .iaload, 0, 0, .null, []),
  (509, 0, .aload_n 3, 0, 0, .null, []),
  (510, 4, .invokestatic 148, 16, 6, .null, []),
  (513, 0, .istore 5, 0, 0, .null, []),
  (515, 0, .aload_n 2, 0, 0, .null, []),
  (516, 0, .aload_n 0, 0, 0, .null, []),
  (517, 0, .iload 4, 0, 0, .null, []),
  (519, 0, .iconst 1, 0, 0, .null, []),
  (520, 17, .iadd, 2, 9999, .null, []),
  (521, 24, .iaload, 0, 0, .null, []),
  (522, 0, .aload_n 0, 0, 0, .null, []),
  (523, 0, .iload 4, 0, 0, .null, []),
  (525, 0, .iconst 2, 0, 0, .null, []),
  (526, 17, .iadd, 2, 9999, .null, []),
  (527, 24, .iaload, 0, 0, .null, []),
  (528, 0, .aload_n 0, 0, 0, .null, []),
  (529, 0, .iload 4, 0, 0, .null, []),
  (531, 0, .iconst 3, 0, 0, .null, []),
  (532, 17, .iadd, 2, 9999, .null, []),
  (533, 24, .iaload, 0, 0, .null, []),
  (534, 4, .invokevirtual 151, 17, 0, .null, [11]),
  (537, 0, .istore 6, 0, 0, .null, []),
  (539, 0, .aload_n 2, 0, 0, .null, []),
  (540, 4, .invokevirtual 134, 9, 0, .null, [11]),
  (543, 0, .iload 5, 0, 0, .null, []),
  (545, 17, .if_icmp .eq 5, 2, 9999, .null, [263]),
  (548, 0, .iconst 0, 0, 0, .null, []),
  (549, 16, .ireturn, 0, 0, .null, []),
  (550, 0, .iload 5, 0, 0, .null, []),
  (552, 17, .ifCond .ne 15, 1, 9999, .null, [274]),
  (555, 0, .aload_n 3, 0, 0, .null, []),
  (556, 0, .iconst 0, 0, 0, .null, []),
  (557, 7, .laload, 0, 0, .null, []),
  (558, 0, .iload 6, 0, 0, .null, []),
  (560, 0, .i2l, 0, 0, .null, []),
  (561, 0, .lcmp, 0, 0, .null, []),
  (562, 17, .ifCond .eq 5, 1, 9999, .null, [274]),
  (565, 0, .iconst 0, 0, 0, .null, []),
  (566, 16, .ireturn, 0, 0, .null, []),
  (567, 0, .goto 1831, 0, 0, .null, [1472]),
  (570, 0, .aload_n 1, 0, 0, .null, []),
  (571, 0, .aload_n 0, 0, 0, .null, []),
  (572, 0, .iload 4, 0, 0, .null, []),
  (574, 0, .iconst 1, 0, 0, .null, []),
  (575, 17, .iadd, 2, 9999, .null, []),
  (576, 24, .iaload, 0, 0, .null, []),
  (577, 0, .aload_n 0, 0, 0, .null, []),
  (578, 0, .iload 4, 0, 0, .null, []),
  (580, 0, .iconst 2, 0, 0, .null, []),
  (581, 17, .iadd, 2, 9999, .null, []),
  (582, 24, .iaload, 0, 0, .null, []),
  (583, 0, .aload_n 3, 0, 0, .null, []),
  (584, 4, .invokestatic 152, 18, 6, .null, []),
  (587, 0, .istore 5, 0, 0, .null, []),
  (589, 0, .aload_n 2, 0, 0, .null, []),
  (590, 0, .aload_n 0, 0, 0, .null, []),
  (591, 0, .iload 4, 0, 0, .null, []),
  (593, 0, .iconst 1, 0, 0, .null, []),
  (594, 17, .iadd, 2, 9999, .null, []),
  (595, 24, .iaload, 0, 0, .null, []),
  (596, 0, .aload_n 0, 0, 0, .null, []),
  (597, 0, .iload 4, 0, 0, .null, []),
  (599, 0, .iconst 2, 0, 0, .null, []),
  (600, 17, .iadd, 2, 9999, .null, []),
  (601, 24, .iaload, 0, 0, .null, []),
  (602, 4, .invokevirtual 154, 19, 0, .null, [11]),
  (605, 0, .istore 6, 0, 0, .null, []),
  (607, 0, .aload_n 2, 0, 0, .null, []),
  (608, 4, .invokevirtual 134, 9, 0, .null, [11]),
  (611, 0, .iload 5, 0, 0, .null, []),
  (613, 17, .if_icmp .eq 5, 2, 9999, .null, [308]),
  (616, 0, .iconst 0, 0, 0, .null, []),
  (617, 16, .ireturn, 0, 0, .null, []),
  (618, 0, .iload 5, 0, 0, .null, []),
  (620, 17, .ifCond .ne 15, 1, 9999, .null, [319]),
  (623, 0, .aload_n 3, 0, 0, .null, []),
  (624, 0, .iconst 0, 0, 0, .null, []),
  (625, 7, .laload, 0, 0, .null, []),
  (626, 0, .iload 6, 0, 0, .null, []),
  (628, 0, .i2l, 0, 0, .null, []),
  (629, 0, .lcmp, 0, 0, .null, []),
  (630, 17, .ifCond .eq 5, 1, 9999, .null, [319]),
  (633, 0, .iconst 0, 0, 0, .null, []),
  (634, 16, .ireturn, 0, 0, .null, []),
  (635, 0, .goto 1763, 0, 0, .null, [1472]),
  (638, 0, .aload_n 1, 0, 0, .null, []),
  (639, 0, .aload_n 0, 0, 0, .null, []),
  (640, 0, .iload 4, 0, 0, .null, []),
  (642, 0, .iconst 1, 0, 0, .null, []),
  (643, 17, .iadd, 2, 9999, .null, []),
  (644, 24, .iaload, 0, 0, .null, []),
  (645, 0, .aload_n 0, 0, 0, .null, []),
  (646, 0, .iload 4, 0, 0, .null, []),
  (648, 0, .iconst 2, 0, 0, .null, []),
  (649, 17, .iadd, 2, 9999, .null, []),
  (650, 24, .iaload, 0, 0, .null, []),
  (651, 0, .aload_n 3, 0, 0, .null, []),
  (652, 4, .invokestatic 155, 20, 6, .null, []),
  (655, 0, .istore 5, 0, 0, .null, []),
  (657, 0, .aload_n 2, 0, 0, .null, []),
  (658, 0, .aload_n 0, 0, 0, .null, []),
  (659, 0, .iload 4, 0, 0, .null, []),
  (661, 0, .iconst 1, 0, 0, .null, []),
  (662, 17, .iadd, 2, 9999, .null, []),
  (663, 24, .iaload, 0, 0, .null, []),
  (664, 0, .aload_n 0, 0, 0, .null, []),
  (665, 0, .iload 4, 0, 0, .null, []),
  (667, 0, .iconst 2, 0, 0, .null, []),
  (668, 17, .iadd, 2, 9999, .null, []),
  (669, 24, .iaload, 0, 0, .null, []),
  (670, 4, .invokevirtual 157, 21, 0, .null, [11]),
  (673, 0, .istore 6, 0, 0, .null, []),
  (675, 0, .aload_n 2, 0, 0, .null, []),
  (676, 4, .invokevirtual 134, 9, 0, .null, [11]),
  (679, 0, .iload 5, 0, 0, .null, []),
  (681, 17, .if_icmp .eq 5, 2, 9999, .null, [353]),
  (684, 0, .iconst 0, 0, 0, .null, []),
  (685, 16, .ireturn, 0, 0, .null, []),
  (686, 0, .iload 5, 0, 0, .null, []),
  (688, 17, .ifCond .ne 15, 1, 9999, .null, [364]),
  (691, 0, .aload_n 3, 0, 0, .null, []),
  (692, 0, .iconst 0, 0, 0, .null, []),
  (693, 7, .laload, 0, 0, .null, []),
  (694, 0, .iload 6, 0, 0, .null, []),
  (696, 0, .i2l, 0, 0, .null, []),
  (697, 0, .lcmp, 0, 0, .null, []),
  (698, 17, .ifCond .eq 5, 1, 9999, .null, [364]),
  (701, 0, .iconst 0, 0, 0, .null, []),
  (702, 16, .ireturn, 0, 0, .null, []),
  (703, 0, .goto 1695, 0, 0, .null, [1472]),
  (706, 0, .aload_n 1, 0, 0, .null, []),
  (707, 0, .aload_n 0, 0, 0, .null, []),
  (708, 0, .iload 4, 0, 0, .null, []),
  (710, 0, .iconst 1, 0, 0, .null, []),
  (711, 17, .iadd, 2, 9999, .null, []),
  (712, 24, .iaload, 0, 0, .null, []),
  (713, 0, .aload_n 0, 0, 0, .null, []),
  (714, 0, .iload 4, 0, 0, .null, []),
  (716, 0, .iconst 2, 0, 0, .null, []),
  (717, 17, .iadd, 2, 9999, .null, []),
  (718, 24, .iaload, 0, 0, .null, []),
  (719, 0, .aload_n 3, 0, 0, .null, []),
  (720, 4, .invokestatic 158, 22, 6, .null, []),
  (723, 0, .istore 5, 0, 0, .null, []),
  (725, 0, .aload_n 2, 0, 0, .null, []),
  (726, 0, .aload_n 0, 0, 0, .null, []),
  (727, 0, .iload 4, 0, 0, .null, []),
  (729, 0, .iconst 1, 0, 0, .null, []),
  (730, 17, .iadd, 2, 9999, .null, []),
  (731, 24, .iaload, 0, 0, .null, []),
  (732, 0, .aload_n 0, 0, 0, .null, []),
  (733, 0, .iload 4, 0, 0, .null, []),
  (735, 0, .iconst 2, 0, 0, .null, []),
  (736, 17, .iadd, 2, 9999, .null, []),
  (737, 24, .iaload, 0, 0, .null, []),
  (738, 4, .invokevirtual 160, 23, 0, .null, [11]),
  (741, 0, .istore 6, 0, 0, .null, []),
  (743, 0, .aload_n 2, 0, 0, .null, []),
  (744, 4, .invokevirtual 134, 9, 0, .null, [11]),
  (747, 0, .iload 5, 0, 0, .null, []),
  (749, 17, .if_icmp .eq 5, 2, 9999, .null, [398]),
  (752, 0, .iconst 0, 0, 0, .null, []),
  (753, 16, .ireturn, 0, 0, .null, []),
  (754, 0, .iload 5, 0, 0, .null, []),
  (756, 17, .ifCond .ne 15, 1, 9999, .null, [409]),
  (759, 0, .aload_n 3, 0, 0, .null, []),
  (760, 0, .iconst 0, 0, 0, .null, []),
  (761, 7, .laload, 0, 0, .null, []),
  (762, 0, .iload 6, 0, 0, .null, []),
  (764, 0, .i2l, 0, 0, .null, []),
  (765, 0, .lcmp, 0, 0, .null, []),
  (766, 17, .ifCond .eq 5, 1, 9999, .null, [409]),
  (769, 0, .iconst 0, 0, 0, .null, []),
  (770, 16, .ireturn, 0, 0, .null, []),
  (771, 0, .goto 1627, 0, 0, .null, [1472]),
  (774, 0, .aload_n 1, 0, 0, .null, []),
  (775, 0, .aload_n 0, 0, 0, .null, []),
  (776, 0, .iload 4, 0, 0, .null, []),
  (778, 0, .iconst 1, 0, 0, .null, []),
  (779, 17, .iadd, 2, 9999, .null, []),
  (780, 24, .iaload, 0, 0, .null, []),
  (781, 0, .aload_n 0, 0, 0, .null, []),
  (782, 0, .iload 4, 0, 0, .null, []),
  (784, 0, .iconst 2, 0, 0, .null, []),
  (785, 17, .iadd, 2, 9999, .null, []),
  (786, 24, .iaload, 0, 0, .null, []),
  (787, 0, .aload_n 3, 0, 0, .null, []),
  (788, 4, .invokestatic 161, 24, 6, .null, []),
  (791, 0, .istore 5, 0, 0, .null, []),
  (793, 0, .aload_n 2, 0, 0, .null, []),
  (794, 0, .aload_n 0, 0, 0, .null, []),
  (795, 0, .iload 4, 0, 0, .null, []),
  (797, 0, .iconst 1, 0, 0, .null, []),
  (798, 17, .iadd, 2, 9999, .null, []),
  (799, 24, .iaload, 0, 0, .null, []),
  (800, 0, .aload_n 0, 0, 0, .null, []),
  (801, 0, .iload 4, 0, 0, .null, []),
  (803, 0, .iconst 2, 0, 0, .null, []),
  (804, 17, .iadd, 2, 9999, .null, []),
  (805, 24, .iaload, 0, 0, .null, []),
  (806, 4, .invokevirtual 163, 25, 0, .null, [11]),
  (809, 0, .istore 6, 0, 0, .null, []),
  (811, 0, .aload_n 2, 0, 0, .null, []),
  (812, 4, .invokevirtual 134, 9, 0, .null, [11]),
  (815, 0, .iload 5, 0, 0, .null, []),
  (817, 17, .if_icmp .eq 5, 2, 9999, .null, [443]),
  (820, 0, .iconst 0, 0, 0, .null, []),
  (821, 16, .ireturn, 0, 0, .null, []),
  (822, 0, .iload 5, 0, 0, .null, []),
  (824, 17, .ifCond .ne 15, 1, 9999, .null, [454]),
  (827, 0, .aload_n 3, 0, 0, .null, []),
  (828, 0, .iconst 0, 0, 0, .null, []),
  (829, 7, .laload, 0, 0, .null, []),
  (830, 0, .iload 6, 0, 0, .null, []),
  (832, 0, .i2l, 0, 0, .null, []),
  (833, 0, .lcmp, 0, 0, .null, []),
  (834, 17, .ifCond .eq 5, 1, 9999, .null, [454]),
  (837, 0, .iconst 0, 0, 0, .null, []),
  (838, 16, .ireturn, 0, 0, .null, []),
  (839, 0, .goto 1559, 0, 0, .null, [1472]),
  (842, 0, .aload_n 1, 0, 0, .null, []),
  (843, 0, .aload_n 0, 0, 0, .null, []),
  (844, 0, .iload 4, 0, 0, .null, []),
  (846, 0, .iconst 1, 0, 0, .null, []),
  (847, 17, .iadd, 2, 9999, .null, []),
  (848, 24, .iaload, 0, 0, .null, []),
  (849, 0, .aload_n 3, 0, 0, .null, []),
  (850, 4, .invokestatic 164, 26, 6, .null, []),
  (853, 0, .istore 5, 0, 0, .null, []),
  (855, 0, .aload_n 2, 0, 0, .null, []),
  (856, 0, .aload_n 0, 0, 0, .null, []),
  (857, 0, .iload 4, 0, 0, .null, []),
  (859, 0, .iconst 1, 0, 0, .null, []),
  (860, 17, .iadd, 2, 9999, .null, []),
  (861, 24, .iaload, 0, 0, .null, []),
  (862, 4, .invokevirtual 167, 27, 0, .null, [11]),
  (865, 0, .istore 6, 0, 0, .null, []),
  (867, 0, .aload_n 2, 0, 0, .null, []),
  (868, 4, .invokevirtual 134, 9, 0, .null, [11]),
  (871, 0, .iload 5, 0, 0, .null, []),
  (873, 17, .if_icmp .eq 5, 2, 9999, .null, [478]),
  (876, 0, .iconst 0, 0, 0, .null, []),
  (877, 16, .ireturn, 0, 0, .null, []),
  (878, 0, .iload 5, 0, 0, .null, []),
  (880, 17, .ifCond .ne 15, 1, 9999, .null, [489]),
  (883, 0, .aload_n 3, 0, 0, .null, []),
  (884, 0, .iconst 0, 0, 0, .null, []),
  (885, 7, .laload, 0, 0, .null, []),
  (886, 0, .iload 6, 0, 0, .null, []),
  (888, 0, .i2l, 0, 0, .null, []),
  (889, 0, .lcmp, 0, 0, .null, []),
  (890, 17, .ifCond .eq 5, 1, 9999, .null, [489]),
  (893, 0, .iconst 0, 0, 0, .null, []),
  (894, 16, .ireturn, 0, 0, .null, []),
  (895, 0, .goto 1503, 0, 0, .null, [1472]),
  (898, 0, .aload_n 1, 0, 0, .null, []),
  (899, 0, .aload_n 0, 0, 0, .null, []),
  (900, 0, .iload 4, 0, 0, .null, []),
  (902, 0, .iconst 1, 0, 0, .null, []),
  (903, 17, .iadd, 2, 9999, .null, []),
  (904, 24, .iaload, 0, 0, .null, []),
  (905, 0, .aload_n 0, 0, 0, .null, []),
  (906, 0, .iload 4, 0, 0, .null, []),
  (908, 0, .iconst 2, 0, 0, .null, []),
  (909, 17, .iadd, 2, 9999, .null, []),
  (910, 24, .iaload, 0, 0, .null, []),
  (911, 0, .aload_n 3, 0, 0, .null, []),
  (912, 4, .invokestatic 168, 28, 6, .null, []),
  (915, 0, .istore 5, 0, 0, .null, []),
  (917, 0, .aload_n 2, 0, 0, .null, []),
  (918, 0, .aload_n 0, 0, 0, .null, []),
  (919, 0, .iload 4, 0, 0, .null, []),
  (921, 0, .iconst 1, 0, 0, .null, []),
  (922, 17, .iadd, 2, 9999, .null, []),
  (923, 24, .iaload, 0, 0, .null, []),
  (924, 0, .aload_n 0, 0, 0, .null, []),
  (925, 0, .iload 4, 0, 0, .null, []),
  (927, 0, .iconst 2, 0, 0, .null, []),
  (928, 17, .iadd, 2, 9999, .null, []),
  (929, 24, .iaload, 0, 0, .null, []),
  (930, 4, .invokevirtual 170, 29, 0, .null, [11]),
  (933, 0, .istore 6, 0, 0, .null, []),
  (935, 0, .aload_n 2, 0, 0, .null, []),
  (936, 4, .invokevirtual 134, 9, 0, .null, [11]),
  (939, 0, .iload 5, 0, 0, .null, []),
  (941, 17, .if_icmp .eq 5, 2, 9999, .null, [523]),
  (944, 0, .iconst 0, 0, 0, .null, []),
  (945, 16, .ireturn, 0, 0, .null, []),
  (946, 0, .iload 5, 0, 0, .null, []),
  (948, 17, .ifCond .ne 15, 1, 9999, .null, [534]),
  (951, 0, .aload_n 3, 0, 0, .null, []),
  (952, 0, .iconst 0, 0, 0, .null, []),
  (953, 7, .laload, 0, 0, .null, []),
  (954, 0, .iload 6, 0, 0, .null, []),
  (956, 0, .i2l, 0, 0, .null, []),
  (957, 0, .lcmp, 0, 0, .null, []),
  (958, 17, .ifCond .eq 5, 1, 9999, .null, [534]),
  (961, 0, .iconst 0, 0, 0, .null, []),
  (962, 16, .ireturn, 0, 0, .null, []),
  (963, 0, .goto 1435, 0, 0, .null, [1472]),
  (966, 0, .aload_n 1, 0, 0, .null, []),
  (967, 0, .aload_n 0, 0, 0, .null, []),
  (968, 0, .iload 4, 0, 0, .null, []),
  (970, 0, .iconst 1, 0, 0, .null, []),
  (971, 17, .iadd, 2, 9999, .null, []),
  (972, 24, .iaload, 0, 0, .null, []),
  (973, 0, .aload_n 0, 0, 0, .null, []),
  (974, 0, .iload 4, 0, 0, .null, []),
  (976, 0, .iconst 2, 0, 0, .null, []),
  (977, 17, .iadd, 2, 9999, .null, []),
  (978, 24, .iaload, 0, 0, .null, []),
  (979, 0, .aload_n 3, 0, 0, .null, []),
  (980, 4, .invokestatic 171, 30, 6, .null, []),
  (983, 0, .istore 5, 0, 0, .null, []),
  (985, 0, .aload_n 2, 0, 0, .null, []),
  (986, 0, .aload_n 0, 0, 0, .null, []),
  (987, 0, .iload 4, 0, 0, .null, []),
  (989, 0, .iconst 1, 0, 0, .null, []),
  (990, 17, .iadd, 2, 9999, .null, []),
  (991, 24, .iaload, 0, 0, .null, []),
  (992, 0, .aload_n 0, 0, 0, .null, []),
  (993, 0, .iload 4, 0, 0, .null, []),
  (995, 0, .iconst 2, 0, 0, .null, []),
  (996, 17, .iadd, 2, 9999, .null, []),
  (997, 24, .iaload, 0, 0, .null, []),
  (998, 4, .invokevirtual 173, 31, 0, .null, [11]),
  (1001, 0, .istore 6, 0, 0, .null, []),
  (1003, 0, .aload_n 2, 0, 0, .null, []),
  (1004, 4, .invokevirtual 134, 9, 0, .null, [11]),
  (1007, 0, .iload 5, 0, 0, .null, []),
  (1009, 17, .if_icmp .eq 5, 2, 9999, .null, [568]),
  (1012, 0, .iconst 0, 0, 0, .null, []),
  (1013, 16, .ireturn, 0, 0, .null, []),
  (1014, 0, .iload 5, 0, 0, .null, []),
  (1016, 17, .ifCond .ne 15, 1, 9999, .null, [579]),
  (1019, 0, .aload_n 3, 0, 0, .null, []),
  (1020, 0, .iconst 0, 0, 0, .null, []),
  (1021, 7, .laload, 0, 0, .null, []),
  (1022, 0, .iload 6, 0, 0, .null, []),
  (1024, 0, .i2l, 0, 0, .null, []),
  (1025, 0, .lcmp, 0, 0, .null, []),
  (1026, 17, .ifCond .eq 5, 1, 9999, .null, [579]),
  (1029, 0, .iconst 0, 0, 0, .null, []),
  (1030, 16, .ireturn, 0, 0, .null, []),
  (1031, 0, .goto 1367, 0, 0, .null, [1472]),
  (1034, 0, .aload_n 1, 0, 0, .null, []),
  (1035, 0, .aload_n 0, 0, 0, .null, []),
  (1036, 0, .iload 4, 0, 0, .null, []),
  (1038, 0, .iconst 1, 0, 0, .null, []),
  (1039, 17, .iadd, 2, 9999, .null, []),
  (1040, 24, .iaload, 0, 0, .null, []),
  (1041, 0, .aload_n 0, 0, 0, .null, []),
  (1042, 0, .iload 4, 0, 0, .null, []),
  (1044, 0, .iconst 2, 0, 0, .null, []),
  (1045, 17, .iadd, 2, 9999, .null, []),
  (1046, 24, .iaload, 0, 0, .null, []),
  (1047, 0, .aload_n 3, 0, 0, .null, []),
  (1048, 4, .invokestatic 174, 32, 6, .null, []),
  (1051, 0, .istore 5, 0, 0, .null, []),
  (1053, 0, .aload_n 2, 0, 0, .null, []),
  (1054, 0, .aload_n 0, 0, 0, .null, []),
  (1055, 0, .iload 4, 0, 0, .null, []),
  (1057, 0, .iconst 1, 0, 0, .null, []),
  (1058, 17, .iadd, 2, 9999, .null, []),
  (1059, 24, .iaload, 0, 0, .null, []),
  (1060, 0, .aload_n 0, 0, 0, .null, []),
  (1061, 0, .iload 4, 0, 0, .null, []),
  (1063, 0, .iconst 2, 0, 0, .null, []),
  (1064, 17, .iadd, 2, 9999, .null, []),
  (1065, 24, .iaload, 0, 0, .null, []),
  (1066, 4, .invokevirtual 176, 33, 0, .null, [11]),
  (1069, 0, .istore 6, 0, 0, .null, []),
  (1071, 0, .aload_n 2, 0, 0, .null, []),
  (1072, 4, .invokevirtual 134, 9, 0, .null, [11]),
  (1075, 0, .iload 5, 0, 0, .null, []),
  (1077, 17, .if_icmp .eq 5, 2, 9999, .null, [613]),
  (1080, 0, .iconst 0, 0, 0, .null, []),
  (1081, 16, .ireturn, 0, 0, .null, []),
  (1082, 0, .iload 5, 0, 0, .null, []),
  (1084, 17, .ifCond .ne 15, 1, 9999, .null, [624]),
  (1087, 0, .aload_n 3, 0, 0, .null, []),
  (1088, 0, .iconst 0, 0, 0, .null, []),
  (1089, 7, .laload, 0, 0, .null, []),
  (1090, 0, .iload 6, 0, 0, .null, []),
  (1092, 0, .i2l, 0, 0, .null, []),
  (1093, 0, .lcmp, 0, 0, .null, []),
  (1094, 17, .ifCond .eq 5, 1, 9999, .null, [624]),
  (1097, 0, .iconst 0, 0, 0, .null, []),
  (1098, 16, .ireturn, 0, 0, .null, []),
  (1099, 0, .goto 1299, 0, 0, .null, [1472]),
  (1102, 0, .aload_n 1, 0, 0, .null, []),
  (1103, 0, .aload_n 0, 0, 0, .null, []),
  (1104, 0, .iload 4, 0, 0, .null, []),
  (1106, 0, .iconst 1, 0, 0, .null, []),
  (1107, 17, .iadd, 2, 9999, .null, []),
  (1108, 24, .iaload, 0, 0, .null, []),
  (1109, 0, .aload_n 0, 0, 0, .null, []),
  (1110, 0, .iload 4, 0, 0, .null, []),
  (1112, 0, .iconst 2, 0, 0, .null, []),
  (1113, 17, .iadd, 2, 9999, .null, []),
  (1114, 24, .iaload, 0, 0, .null, []),
  (1115, 0, .aload_n 0, 0, 0, .null, []),
  (1116, 0, .iload 4, 0, 0, .null, []),
  (1118, 0, .iconst 3, 0, 0, .null, []),
  (1119, 17, .iadd, 2, 9999, .null, []),
  (1120, 24, .iaload, 0, 0, .null, []),
  (1121, 0, .aload_n 0, 0, 0, .null, []),
  (1122, 0, .iload 4, 0, 0, .null, []),
  (1124, 0, .iconst 4, 0, 0, .null, []),
  (1125, 17, .iadd, 2, 9999, .null, []),
  (1126, 24, .iaload, 0, 0, .null, []),
  (1127, 0, .aload_n 3, 0, 0, .null, []),
  (1128, 4, .invokestatic 177, 34, 6, .null, []),
  (1131, 0, .istore 5, 0, 0, .null, []),
  (1133, 0, .aload_n 2, 0, 0, .null, []),
  (1134, 0, .aload_n 0, 0, 0, .null, []),
  (1135, 0, .iload 4, 0, 0, .null, []),
  (1137, 0, .iconst 1, 0, 0, .null, []),
  (1138, 17, .iadd, 2, 9999, .null, []),
  (1139, 24, .iaload, 0, 0, .null, []),
  (1140, 0, .aload_n 0, 0, 0, .null, []),
  (1141, 0, .iload 4, 0, 0, .null, []),
  (1143, 0, .iconst 2, 0, 0, .null, []),
  (1144, 17, .iadd, 2, 9999, .null, []),
  (1145, 24, .iaload, 0, 0, .null, []),
  (1146, 0, .aload_n 0, 0, 0, .null, []),
  (1147, 0, .iload 4, 0, 0, .null, []),
  (1149, 0, .iconst 3, 0, 0, .null, []),
  (1150, 17, .iadd, 2, 9999, .null, []),
  (1151, 24, .iaload, 0, 0, .null, []),
  (1152, 0, .aload_n 0, 0, 0, .null, []),
  (1153, 0, .iload 4, 0, 0, .null, []),
  (1155, 0, .iconst 4, 0, 0, .null, []),
  (1156, 17, .iadd, 2, 9999, .null, []),
  (1157, 24, .iaload, 0, 0, .null, []),
  (1158, 4, .invokevirtual 180, 35, 0, .null, [11]),
  (1161, 0, .istore 6, 0, 0, .null, []),
  (1163, 0, .aload_n 2, 0, 0, .null, []),
  (1164, 4, .invokevirtual 134, 9, 0, .null, [11]),
  (1167, 0, .iload 5, 0, 0, .null, []),
  (1169, 17, .if_icmp .eq 5, 2, 9999, .null, [678]),
  (1172, 0, .iconst 0, 0, 0, .null, []),
  (1173, 16, .ireturn, 0, 0, .null, []),
  (1174, 0, .iload 5, 0, 0, .null, []),
  (1176, 17, .ifCond .ne 15, 1, 9999, .null, [689]),
  (1179, 0, .aload_n 3, 0, 0, .null, []),
  (1180, 0, .iconst 0, 0, 0, .null, []),
  (1181, 7, .laload, 0, 0, .null, []),
  (1182, 0, .iload 6, 0, 0, .null, []),
  (1184, 0, .i2l, 0, 0, .null, []),
  (1185, 0, .lcmp, 0, 0, .null, []),
  (1186, 17, .ifCond .eq 5, 1, 9999, .null, [689]),
  (1189, 0, .iconst 0, 0, 0, .null, []),
  (1190, 16, .ireturn, 0, 0, .null, []),
  (1191, 0, .goto 1207, 0, 0, .null, [1472]),
  (1194, 0, .aload_n 1, 0, 0, .null, []),
  (1195, 0, .aload_n 0, 0, 0, .null, []),
  (1196, 0, .iload 4, 0, 0, .null, []),
  (1198, 0, .iconst 1, 0, 0, .null, []),
  (1199, 17, .iadd, 2, 9999, .null, []),
  (1200, 24, .iaload, 0, 0, .null, []),
  (1201, 0, .aload_n 0, 0, 0, .null, []),
  (1202, 0, .iload 4, 0, 0, .null, []),
  (1204, 0, .iconst 2, 0, 0, .null, []),
  (1205, 17, .iadd, 2, 9999, .null, []),
  (1206, 24, .iaload, 0, 0, .null, []),
  (1207, 0, .aload_n 3, 0, 0, .null, []),
  (1208, 4, .invokestatic 181, 36, 6, .null, []),
  (1211, 0, .istore 5, 0, 0, .null, []),
  (1213, 0, .aload_n 2, 0, 0, .null, []),
  (1214, 0, .aload_n 0, 0, 0, .null, []),
  (1215, 0, .iload 4, 0, 0, .null, []),
  (1217, 0, .iconst 1, 0, 0, .null, []),
  (1218, 17, .iadd, 2, 9999, .null, []),
  (1219, 24, .iaload, 0, 0, .null, []),
  (1220, 0, .aload_n 0, 0, 0, .null, []),
  (1221, 0, .iload 4, 0, 0, .null, []),
  (1223, 0, .iconst 2, 0, 0, .null, []),
  (1224, 17, .iadd, 2, 9999, .null, []),
  (1225, 24, .iaload, 0, 0, .null, []),
  (1226, 4, .invokevirtual 183, 37, 0, .null, [11]),
  (1229, 0, .istore 6, 0, 0, .null, []),
  (1231, 0, .aload_n 2, 0, 0, .null, []),
  (1232, 4, .invokevirtual 134, 9, 0, .null, [11]),
  (1235, 0, .iload 5, 0, 0, .null, []),
  (1237, 17, .if_icmp .eq 5, 2, 9999, .null, [723]),
  (1240, 0, .iconst 0, 0, 0, .null, []),
  (1241, 16, .ireturn, 0, 0, .null, []),
  (1242, 0, .iload 5, 0, 0, .null, []),
  (1244, 17, .ifCond .ne 15, 1, 9999, .null, [734]),
  (1247, 0, .aload_n 3, 0, 0, .null, []),
  (1248, 0, .iconst 0, 0, 0, .null, []),
  (1249, 7, .laload, 0, 0, .null, []),
  (1250, 0, .iload 6, 0, 0, .null, []),
  (1252, 0, .i2l, 0, 0, .null, []),
  (1253, 0, .lcmp, 0, 0, .null, []),
  (1254, 17, .ifCond .eq 5, 1, 9999, .null, [734]),
  (1257, 0, .iconst 0, 0, 0, .null, []),
  (1258, 16, .ireturn, 0, 0, .null, []),
  (1259, 0, .goto 1139, 0, 0, .null, [1472]),
  (1262, 0, .aload_n 1, 0, 0, .null, []),
  (1263, 0, .aload_n 0, 0, 0, .null, []),
  (1264, 0, .iload 4, 0, 0, .null, []),
  (1266, 0, .iconst 1, 0, 0, .null, []),
  (1267, 17, .iadd, 2, 9999, .null, []),
  (1268, 24, .iaload, 0, 0, .null, []),
  (1269, 0, .aload_n 0, 0, 0, .null, []),
  (1270, 0, .iload 4, 0, 0, .null, []),
  (1272, 0, .iconst 2, 0, 0, .null, []),
  (1273, 17, .iadd, 2, 9999, .null, []),
  (1274, 24, .iaload, 0, 0, .null, []),
  (1275, 17, .ifCond .eq 7, 1, 9999, .null, [749]),
  (1278, 0, .iconst 1, 0, 0, .null, []),
  (1279, 0, .goto 4, 0, 0, .null, [750]),
  (1282, 0, .iconst 0, 0, 0, .null, []),
  (1283, 0, .aload_n 3, 0, 0, .null, []),
  (1284, 4, .invokestatic 184, 38, 6, .null, []),
  (1287, 0, .istore 5, 0, 0, .null, []),
  (1289, 0, .aload_n 2, 0, 0, .null, []),
  (1290, 0, .aload_n 0, 0, 0, .null, []),
  (1291, 0, .iload 4, 0, 0, .null, []),
  (1293, 0, .iconst 1, 0, 0, .null, []),
  (1294, 17, .iadd, 2, 9999, .null, []),
  (1295, 24, .iaload, 0, 0, .null, []),
  (1296, 0, .aload_n 0, 0, 0, .null, []),
  (1297, 0, .iload 4, 0, 0, .null, []),
  (1299, 0, .iconst 2, 0, 0, .null, []),
  (1300, 17, .iadd, 2, 9999, .null, []),
  (1301, 24, .iaload, 0, 0, .null, []),
  (1302, 17, .ifCond .eq 7, 1, 9999, .null, [767]),
  (1305, 0, .iconst 1, 0, 0, .null, []),
  (1306, 0, .goto 4, 0, 0, .null, [768]),
  (1309, 0, .iconst 0, 0, 0, .null, []),
  (1310, 4, .invokevirtual 187, 39, 0, .null, [11]),
  (1313, 0, .istore 6, 0, 0, .null, []),
  (1315, 0, .aload_n 2, 0, 0, .null, []),
  (1316, 4, .invokevirtual 134, 9, 0, .null, [11]),
  (1319, 0, .iload 5, 0, 0, .null, []),
  (1321, 17, .if_icmp .eq 5, 2, 9999, .null, [776]),
  (1324, 0, .iconst 0, 0, 0, .null, []),
  (1325, 16, .ireturn, 0, 0, .null, []),
  (1326, 0, .iload 5, 0, 0, .null, []),
  (1328, 17, .ifCond .ne 22, 1, 9999, .null, [790]),
  (1331, 0, .aload_n 3, 0, 0, .null, []),
  (1332, 0, .iconst 0, 0, 0, .null, []),
  (1333, 7, .laload, 0, 0, .null, []),
  (1334, 0, .iload 6, 0, 0, .null, []),
  (1336, 17, .ifCond .eq 7, 1, 9999, .null, [785]),
  (1339, 0, .lconst 1, 0, 0, .null, []),
  (1340, 0, .goto 4, 0, 0, .null, [786]),
  (1343, 0, .lconst 0, 0, 0, .null, []),
  (1344, 0, .lcmp, 0, 0, .null, []),
  (1345, 17, .ifCond .eq 5, 1, 9999, .null, [790]),
  (1348, 0, .iconst 0, 0, 0, .null, []),
  (1349, 16, .ireturn, 0, 0, .null, []),
  (1350, 0, .goto 1048, 0, 0, .null, [1472]),
  (1353, 0, .aload_n 1, 0, 0, .null, []),
  (1354, 0, .aload_n 0, 0, 0, .null, []),
  (1355, 0, .iload 4, 0, 0, .null, []),
  (1357, 0, .iconst 1, 0, 0, .null, []),
  (1358, 17, .iadd, 2, 9999, .null, []),
  (1359, 24, .iaload, 0, 0, .null, []),
  (1360, 0, .aload_n 0, 0, 0, .null, []),
  (1361, 0, .iload 4, 0, 0, .null, []),
  (1363, 0, .iconst 2, 0, 0, .null, []),
  (1364, 17, .iadd, 2, 9999, .null, []),
  (1365, 24, .iaload, 0, 0, .null, []),
  (1366, 0, .aload_n 0, 0, 0, .null, []),
  (1367, 0, .iload 4, 0, 0, .null, []),
  (1369, 0, .iconst 3, 0, 0, .null, []),
  (1370, 17, .iadd, 2, 9999, .null, []),
  (1371, 24, .iaload, 0, 0, .null, []),
  (1372, 0, .aload_n 3, 0, 0, .null, []),
  (1373, 4, .invokestatic 188, 40, 6, .null, []),
  (1376, 0, .istore 5, 0, 0, .null, []),
  (1378, 0, .aload_n 2, 0, 0, .null, []),
  (1379, 0, .aload_n 0, 0, 0, .null, []),
  (1380, 0, .iload 4, 0, 0, .null, []),
  (1382, 0, .iconst 1, 0, 0, .null, []),
  (1383, 17, .iadd, 2, 9999, .null, []),
  (1384, 24, .iaload, 0, 0, .null, []),
  (1385, 0, .aload_n 0, 0, 0, .null, []),
  (1386, 0, .iload 4, 0, 0, .null, []),
  (1388, 0, .iconst 2, 0, 0, .null, []),
  (1389, 17, .iadd, 2, 9999, .null, []),
  (1390, 24, .iaload, 0, 0, .null, []),
  (1391, 0, .aload_n 0, 0, 0, .null, []),
  (1392, 0, .iload 4, 0, 0, .null, []),
  (1394, 0, .iconst 3, 0, 0, .null, []),
  (1395, 17, .iadd, 2, 9999, .null, []),
  (1396, 24, .iaload, 0, 0, .null, []),
  (1397, 4, .invokevirtual 190, 41, 0, .null, [11]),
  (1400, 0, .istore 6, 0, 0, .null, []),
  (1402, 0, .aload_n 2, 0, 0, .null, []),
  (1403, 4, .invokevirtual 134, 9, 0, .null, [11]),
  (1406, 0, .iload 5, 0, 0, .null, []),
  (1408, 17, .if_icmp .eq 5, 2, 9999, .null, [834]),
  (1411, 0, .iconst 0, 0, 0, .null, []),
  (1412, 16, .ireturn, 0, 0, .null, []),
  (1413, 0, .iload 5, 0, 0, .null, []),
  (1415, 17, .ifCond .ne 15, 1, 9999, .null, [845]),
  (1418, 0, .aload_n 3, 0, 0, .null, []),
  (1419, 0, .iconst 0, 0, 0, .null, []),
  (1420, 7, .laload, 0, 0, .null, []),
  (1421, 0, .iload 6, 0, 0, .null, []),
  (1423, 0, .i2l, 0, 0, .null, []),
  (1424, 0, .lcmp, 0, 0, .null, []),
  (1425, 17, .ifCond .eq 5, 1, 9999, .null, [845]),
  (1428, 0, .iconst 0, 0, 0, .null, []),
  (1429, 16, .ireturn, 0, 0, .null, []),
  (1430, 0, .goto 968, 0, 0, .null, [1472]),
  (1433, 0, .aload_n 1, 0, 0, .null, []),
  (1434, 0, .aload_n 0, 0, 0, .null, []),
  (1435, 0, .iload 4, 0, 0, .null, []),
  (1437, 0, .iconst 1, 0, 0, .null, []),
  (1438, 17, .iadd, 2, 9999, .null, []),
  (1439, 24, .iaload, 0, 0, .null, []),
  (1440, 0, .aload_n 0, 0, 0, .null, []),
  (1441, 0, .iload 4, 0, 0, .null, []),
  (1443, 0, .iconst 2, 0, 0, .null, []),
  (1444, 17, .iadd, 2, 9999, .null, []),
  (1445, 24, .iaload, 0, 0, .null, []),
  (1446, 0, .aload_n 3, 0, 0, .null, []),
  (1447, 4, .invokestatic 191, 42, 6, .null, []),
  (1450, 0, .istore 5, 0, 0, .null, []),
  (1452, 0, .aload_n 2, 0, 0, .null, []),
  (1453, 0, .aload_n 0, 0, 0, .null, []),
  (1454, 0, .iload 4, 0, 0, .null, []),
  (1456, 0, .iconst 1, 0, 0, .null, []),
  (1457, 17, .iadd, 2, 9999, .null, []),
  (1458, 24, .iaload, 0, 0, .null, []),
  (1459, 0, .aload_n 0, 0, 0, .null, []),
  (1460, 0, .iload 4, 0, 0, .null, []),
  (1462, 0, .iconst 2, 0, 0, .null, []),
  (1463, 17, .iadd, 2, 9999, .null, []),
  (1464, 24, .iaload, 0, 0, .null, []),
  (1465, 4, .invokevirtual 193, 43, 0, .null, [11]),
  (1468, 0, .istore 6, 0, 0, .null, []),
  (1470, 0, .aload_n 2, 0, 0, .null, []),
  (1471, 4, .invokevirtual 134, 9, 0, .null, [11]),
  (1474, 0, .iload 5, 0, 0, .null, []),
  (1476, 17, .if_icmp .eq 5, 2, 9999, .null, [879]),
  (1479, 0, .iconst 0, 0, 0, .null, []),
  (1480, 16, .ireturn, 0, 0, .null, []),
  (1481, 0, .iload 5, 0, 0, .null, []),
  (1483, 17, .ifCond .ne 15, 1, 9999, .null, [890]),
  (1486, 0, .aload_n 3, 0, 0, .null, []),
  (1487, 0, .iconst 0, 0, 0, .null, []),
  (1488, 7, .laload, 0, 0, .null, []),
  (1489, 0, .iload 6, 0, 0, .null, []),
  (1491, 0, .i2l, 0, 0, .null, []),
  (1492, 0, .lcmp, 0, 0, .null, []),
  (1493, 17, .ifCond .eq 5, 1, 9999, .null, [890]),
  (1496, 0, .iconst 0, 0, 0, .null, []),
  (1497, 16, .ireturn, 0, 0, .null, []),
  (1498, 0, .goto 900, 0, 0, .null, [1472]),
  (1501, 0, .aload_n 1, 0, 0, .null, []),
  (1502, 0, .aload_n 0, 0, 0, .null, []),
  (1503, 0, .iload 4, 0, 0, .null, []),
  (1505, 0, .iconst 1, 0, 0, .null, []),
  (1506, 17, .iadd, 2, 9999, .null, []),
  (1507, 24, .iaload, 0, 0, .null, []),
  (1508, 0, .aload_n 0, 0, 0, .null, []),
  (1509, 0, .iload 4, 0, 0, .null, []),
  (1511, 0, .iconst 2, 0, 0, .null, []),
  (1512, 17, .iadd, 2, 9999, .null, []),
  (1513, 24, .iaload, 0, 0, .null, []),
  (1514, 0, .aload_n 3, 0, 0, .null, []),
  (1515, 4, .invokestatic 194, 44, 6, .null, []),
  (1518, 0, .istore 5, 0, 0, .null, []),
  (1520, 0, .aload_n 2, 0, 0, .null, []),
  (1521, 0, .aload_n 0, 0, 0, .null, []),
  (1522, 0, .iload 4, 0, 0, .null, []),
  (1524, 0, .iconst 1, 0, 0, .null, []),
  (1525, 17, .iadd, 2, 9999, .null, []),
  (1526, 24, .iaload, 0, 0, .null, []),
  (1527, 0, .aload_n 0, 0, 0, .null, []),
  (1528, 0, .iload 4, 0, 0, .null, []),
  (1530, 0, .iconst 2, 0, 0, .null, []),
  (1531, 17, .iadd, 2, 9999, .null, []),
  (1532, 24, .iaload, 0, 0, .null, []),
  (1533, 4, .invokevirtual 196, 45, 0, .null, [11]),
  (1536, 0, .istore 6, 0, 0, .null, []),
  (1538, 0, .aload_n 2, 0, 0, .null, []),
  (1539, 4, .invokevirtual 134, 9, 0, .null, [11]),
  (1542, 0, .iload 5, 0, 0, .null, []),
  (1544, 17, .if_icmp .eq 5, 2, 9999, .null, [924]),
  (1547, 0, .iconst 0, 0, 0, .null, []),
  (1548, 16, .ireturn, 0, 0, .null, []),
  (1549, 0, .iload 5, 0, 0, .null, []),
  (1551, 17, .ifCond .ne 15, 1, 9999, .null, [935]),
  (1554, 0, .aload_n 3, 0, 0, .null, []),
  (1555, 0, .iconst 0, 0, 0, .null, []),
  (1556, 7, .laload, 0, 0, .null, []),
  (1557, 0, .iload 6, 0, 0, .null, []),
  (1559, 0, .i2l, 0, 0, .null, []),
  (1560, 0, .lcmp, 0, 0, .null, []),
  (1561, 17, .ifCond .eq 5, 1, 9999, .null, [935]),
  (1564, 0, .iconst 0, 0, 0, .null, []),
  (1565, 16, .ireturn, 0, 0, .null, []),
  (1566, 0, .goto 832, 0, 0, .null, [1472]),
  (1569, 0, .aload_n 1, 0, 0, .null, []),
  (1570, 0, .aload_n 0, 0, 0, .null, []),
  (1571, 0, .iload 4, 0, 0, .null, []),
  (1573, 0, .iconst 1, 0, 0, .null, []),
  (1574, 17, .iadd, 2, 9999, .null, []),
  (1575, 24, .iaload, 0, 0, .null, []),
  (1576, 17, .ifCond .eq 7, 1, 9999, .null, [945]),
  (1579, 0, .iconst 1, 0, 0, .null, []),
  (1580, 0, .goto 4, 0, 0, .null, [946]),
  (1583, 0, .iconst 0, 0, 0, .null, []),
  (1584, 4, .invokevirtual 197, 46, 0, .null, [10]),
  (1587, 0, .aload_n 2, 0, 0, .null, []),
  (1588, 0, .aload_n 0, 0, 0, .null, []),
  (1589, 0, .iload 4, 0, 0, .null, []),
  (1591, 0, .iconst 1, 0, 0, .null, []),
  (1592, 17, .iadd, 2, 9999, .null, []),
  (1593, 24, .iaload, 0, 0, .null, []),
  (1594, 17, .ifCond .eq 7, 1, 9999, .null, [956]),
  (1597, 0, .iconst 1, 0, 0, .null, []),
  (1598, 0, .goto 4, 0, 0, .null, [957]),
  (1601, 0, .iconst 0, 0, 0, .null, []),
  (1602, 4, .invokevirtual 201, 47, 0, .null, [11]),
  (1605, 17, .if_icmp .eq 793, 2, 9999, .null, [1472]),
  (1608, 0, .iconst 0, 0, 0, .null, []),
  (1609, 16, .ireturn, 0, 0, .null, []),
  (1610, 0, .aload_n 1, 0, 0, .null, []),
  (1611, 0, .aload_n 0, 0, 0, .null, []),
  (1612, 0, .iload 4, 0, 0, .null, []),
  (1614, 0, .iconst 1, 0, 0, .null, []),
  (1615, 17, .iadd, 2, 9999, .null, []),
  (1616, 24, .iaload, 0, 0, .null, []),
  (1617, 0, .aload_n 3, 0, 0, .null, []),
  (1618, 4, .invokestatic 202, 48, 6, .null, []),
  (1621, 0, .istore 5, 0, 0, .null, []),
  (1623, 0, .aload_n 2, 0, 0, .null, []),
  (1624, 0, .aload_n 0, 0, 0, .null, []),
  (1625, 0, .iload 4, 0, 0, .null, []),
  (1627, 0, .iconst 1, 0, 0, .null, []),
  (1628, 17, .iadd, 2, 9999, .null, []),
  (1629, 24, .iaload, 0, 0, .null, []),
  (1630, 4, .invokevirtual 204, 49, 0, .null, [11]),
  (1633, 0, .istore 6, 0, 0, .null, []),
  (1635, 0, .aload_n 2, 0, 0, .null, []),
  (1636, 4, .invokevirtual 134, 9, 0, .null, [11]),
  (1639, 0, .iload 5, 0, 0, .null, []),
  (1641, 17, .if_icmp .eq 5, 2, 9999, .null, [984]),
  (1644, 0, .iconst 0, 0, 0, .null, []),
  (1645, 16, .ireturn, 0, 0, .null, []),
  (1646, 0, .iload 5, 0, 0, .null, []),
  (1648, 17, .ifCond .ne 15, 1, 9999, .null, [995]),
  (1651, 0, .aload_n 3, 0, 0, .null, []),
  (1652, 0, .iconst 0, 0, 0, .null, []),
  (1653, 7, .laload, 0, 0, .null, []),
  (1654, 0, .iload 6, 0, 0, .null, []),
  (1656, 0, .i2l, 0, 0, .null, []),
  (1657, 0, .lcmp, 0, 0, .null, []),
  (1658, 17, .ifCond .eq 5, 1, 9999, .null, [995]),
  (1661, 0, .iconst 0, 0, 0, .null, []),
  (1662, 16, .ireturn, 0, 0, .null, []),
  (1663, 0, .goto 735, 0, 0, .null, [1472]),
  (1666, 0, .aload_n 1, 0, 0, .null, []),
  (1667, 0, .aload_n 0, 0, 0, .null, []),
  (1668, 0, .iload 4, 0, 0, .null, []),
  (1670, 0, .iconst 1, 0, 0, .null, []),
  (1671, 17, .iadd, 2, 9999, .null, []),
  (1672, 24, .iaload, 0, 0, .null, []),
  (1673, 0, .aload_n 0, 0, 0, .null, []),
  (1674, 0, .iload 4, 0, 0, .null, []),
  (1676, 0, .iconst 2, 0, 0, .null, []),
  (1677, 17, .iadd, 2, 9999, .null, []),
  (1678, 24, .iaload, 0, 0, .null, []),
  (1679, 0, .aload_n 3, 0, 0, .null, []),
  (1680, 4, .invokestatic 205, 50, 6, .null, []),
  (1683, 0, .istore 5, 0, 0, .null, []),
  (1685, 0, .aload_n 2, 0, 0, .null, []),
  (1686, 0, .aload_n 0, 0, 0, .null, []),
  (1687, 0, .iload 4, 0, 0, .null, []),
  (1689, 0, .iconst 1, 0, 0, .null, []),
  (1690, 17, .iadd, 2, 9999, .null, []),
  (1691, 24, .iaload, 0, 0, .null, []),
  (1692, 0, .aload_n 0, 0, 0, .null, []),
  (1693, 0, .iload 4, 0, 0, .null, []),
  (1695, 0, .iconst 2, 0, 0, .null, []),
  (1696, 17, .iadd, 2, 9999, .null, []),
  (1697, 24, .iaload, 0, 0, .null, []),
  (1698, 4, .invokevirtual 207, 51, 0, .null, [11]),
  (1701, 0, .istore 6, 0, 0, .null, []),
  (1703, 0, .aload_n 2, 0, 0, .null, []),
  (1704, 4, .invokevirtual 134, 9, 0, .null, [11]),
  (1707, 0, .iload 5, 0, 0, .null, []),
  (1709, 17, .if_icmp .eq 5, 2, 9999, .null, [1029]),
  (1712, 0, .iconst 0, 0, 0, .null, []),
  (1713, 16, .ireturn, 0, 0, .null, []),
  (1714, 0, .iload 5, 0, 0, .null, []),
  (1716, 17, .ifCond .ne 15, 1, 9999, .null, [1040]),
  (1719, 0, .aload_n 3, 0, 0, .null, []),
  (1720, 0, .iconst 0, 0, 0, .null, []),
  (1721, 7, .laload, 0, 0, .null, []),
  (1722, 0, .iload 6, 0, 0, .null, []),
  (1724, 0, .i2l, 0, 0, .null, []),
  (1725, 0, .lcmp, 0, 0, .null, []),
  (1726, 17, .ifCond .eq 5, 1, 9999, .null, [1040]),
  (1729, 0, .iconst 0, 0, 0, .null, []),
  (1730, 16, .ireturn, 0, 0, .null, []),
  (1731, 0, .goto 667, 0, 0, .null, [1472]),
  (1734, 0, .aload_n 1, 0, 0, .null, []),
  (1735, 0, .aload_n 0, 0, 0, .null, []),
  (1736, 0, .iload 4, 0, 0, .null, []),
  (1738, 0, .iconst 1, 0, 0, .null, []),
  (1739, 17, .iadd, 2, 9999, .null, []),
  (1740, 24, .iaload, 0, 0, .null, []),
  (1741, 0, .aload_n 0, 0, 0, .null, []),
  (1742, 0, .iload 4, 0, 0, .null, []),
  (1744, 0, .iconst 2, 0, 0, .null, []),
  (1745, 17, .iadd, 2, 9999, .null, []),
  (1746, 24, .iaload, 0, 0, .null, []),
  (1747, 0, .aload_n 0, 0, 0, .null, []),
  (1748, 0, .iload 4, 0, 0, .null, []),
  (1750, 0, .iconst 3, 0, 0, .null, []),
  (1751, 17, .iadd, 2, 9999, .null, []),
  (1752, 24, .iaload, 0, 0, .null, []),
  (1753, 0, .aload_n 3, 0, 0, .null, []),
  (1754, 4, .invokestatic 208, 52, 6, .null, []),
  (1757, 0, .istore 5, 0, 0, .null, []),
  (1759, 0, .aload_n 2, 0, 0, .null, []),
  (1760, 0, .aload_n 0, 0, 0, .null, []),
  (1761, 0, .iload 4, 0, 0, .null, []),
  (1763, 0, .iconst 1, 0, 0, .null, []),
  (1764, 17, .iadd, 2, 9999, .null, []),
  (1765, 24, .iaload, 0, 0, .null, []),
  (1766, 0, .aload_n 0, 0, 0, .null, []),
  (1767, 0, .iload 4, 0, 0, .null, []),
  (1769, 0, .iconst 2, 0, 0, .null, []),
  (1770, 17, .iadd, 2, 9999, .null, []),
  (1771, 24, .iaload, 0, 0, .null, []),
  (1772, 0, .aload_n 0, 0, 0, .null, []),
  (1773, 0, .iload 4, 0, 0, .null, []),
  (1775, 0, .iconst 3, 0, 0, .null, []),
  (1776, 17, .iadd, 2, 9999, .null, []),
  (1777, 24, .iaload, 0, 0, .null, []),
  (1778, 4, .invokevirtual 210, 53, 0, .null, [11]),
  (1781, 0, .istore 6, 0, 0, .null, []),
  (1783, 0, .aload_n 2, 0, 0, .null, []),
  (1784, 4, .invokevirtual 134, 9, 0, .null, [11]),
  (1787, 0, .iload 5, 0, 0, .null, []),
  (1789, 17, .if_icmp .eq 5, 2, 9999, .null, [1084]),
  (1792, 0, .iconst 0, 0, 0, .null, []),
  (1793, 16, .ireturn, 0, 0, .null, []),
  (1794, 0, .iload 5, 0, 0, .null, []),
  (1796, 17, .ifCond .ne 15, 1, 9999, .null, [1095]),
  (1799, 0, .aload_n 3, 0, 0, .null, []),
  (1800, 0, .iconst 0, 0, 0, .null, []),
  (1801, 7, .laload, 0, 0, .null, []),
  (1802, 0, .iload 6, 0, 0, .null, []),
  (1804, 0, .i2l, 0, 0, .null, []),
  (1805, 0, .lcmp, 0, 0, .null, []),
  (1806, 17, .ifCond .eq 5, 1, 9999, .null, [1095]),
  (1809, 0, .iconst 0, 0, 0, .null, []),
  (1810, 16, .ireturn, 0, 0, .null, []),
  (1811, 0, .goto 587, 0, 0, .null, [1472]),
  (1814, 0, .aload_n 1, 0, 0, .null, []),
  (1815, 0, .aload_n 0, 0, 0, .null, []),
  (1816, 0, .iload 4, 0, 0, .null, []),
  (1818, 0, .iconst 1, 0, 0, .null, []),
  (1819, 17, .iadd, 2, 9999, .null, []),
  (1820, 24, .iaload, 0, 0, .null, []),
  (1821, 0, .aload_n 3, 0, 0, .null, []),
  (1822, 4, .invokestatic 211, 54, 6, .null, []),
  (1825, 0, .istore 5, 0, 0, .null, []),
  (1827, 0, .aload_n 2, 0, 0, .null, []),
  (1828, 0, .aload_n 0, 0, 0, .null, []),
  (1829, 0, .iload 4, 0, 0, .null, []),
  (1831, 0, .iconst 1, 0, 0, .null, []),
  (1832, 17, .iadd, 2, 9999, .null, []),
  (1833, 24, .iaload, 0, 0, .null, []),
  (1834, 4, .invokevirtual 213, 55, 0, .null, [11]),
  (1837, 0, .istore 6, 0, 0, .null, []),
  (1839, 0, .aload_n 2, 0, 0, .null, []),
  (1840, 4, .invokevirtual 134, 9, 0, .null, [11]),
  (1843, 0, .iload 5, 0, 0, .null, []),
  (1845, 17, .if_icmp .eq 5, 2, 9999, .null, [1119]),
  (1848, 0, .iconst 0, 0, 0, .null, []),
  (1849, 16, .ireturn, 0, 0, .null, []),
  (1850, 0, .iload 5, 0, 0, .null, []),
  (1852, 17, .ifCond .ne 15, 1, 9999, .null, [1130]),
  (1855, 0, .aload_n 3, 0, 0, .null, []),
  (1856, 0, .iconst 0, 0, 0, .null, []),
  (1857, 7, .laload, 0, 0, .null, []),
  (1858, 0, .iload 6, 0, 0, .null, []),
  (1860, 0, .i2l, 0, 0, .null, []),
  (1861, 0, .lcmp, 0, 0, .null, []),
  (1862, 17, .ifCond .eq 5, 1, 9999, .null, [1130]),
  (1865, 0, .iconst 0, 0, 0, .null, []),
  (1866, 16, .ireturn, 0, 0, .null, []),
  (1867, 0, .goto 531, 0, 0, .null, [1472]),
  (1870, 0, .aload_n 1, 0, 0, .null, []),
  (1871, 0, .aload_n 0, 0, 0, .null, []),
  (1872, 0, .iload 4, 0, 0, .null, []),
  (1874, 0, .iconst 1, 0, 0, .null, []),
  (1875, 17, .iadd, 2, 9999, .null, []),
  (1876, 24, .iaload, 0, 0, .null, []),
  (1877, 0, .aload_n 0, 0, 0, .null, []),
  (1878, 0, .iload 4, 0, 0, .null, []),
  (1880, 0, .iconst 2, 0, 0, .null, []),
  (1881, 17, .iadd, 2, 9999, .null, []),
  (1882, 24, .iaload, 0, 0, .null, []),
  (1883, 0, .aload_n 0, 0, 0, .null, []),
  (1884, 0, .iload 4, 0, 0, .null, []),
  (1886, 0, .iconst 3, 0, 0, .null, []),
  (1887, 17, .iadd, 2, 9999, .null, []),
  (1888, 24, .iaload, 0, 0, .null, []),
  (1889, 17, .ifCond .eq 7, 1, 9999, .null, [1150]),
  (1892, 0, .iconst 1, 0, 0, .null, []),
  (1893, 0, .goto 4, 0, 0, .null, [1151]),
  (1896, 0, .iconst 0, 0, 0, .null, []),
  (1897, 0, .aload_n 3, 0, 0, .null, []),
  (1898, 4, .invokestatic 214, 56, 6, .null, []),
  (1901, 0, .istore 5, 0, 0, .null, []),
  (1903, 0, .aload_n 2, 0, 0, .null, []),
  (1904, 0, .aload_n 0, 0, 0, .null, []),
  (1905, 0, .iload 4, 0, 0, .null, []),
  (1907, 0, .iconst 1, 0, 0, .null, []),
  (1908, 17, .iadd, 2, 9999, .null, []),
  (1909, 24, .iaload, 0, 0, .null, []),
  (1910, 0, .aload_n 0, 0, 0, .null, []),
  (1911, 0, .iload 4, 0, 0, .null, []),
  (1913, 0, .iconst 2, 0, 0, .null, []),
  (1914, 17, .iadd, 2, 9999, .null, []),
  (1915, 24, .iaload, 0, 0, .null, []),
  (1916, 0, .aload_n 0, 0, 0, .null, []),
  (1917, 0, .iload 4, 0, 0, .null, []),
  (1919, 0, .iconst 3, 0, 0, .null, []),
  (1920, 17, .iadd, 2, 9999, .null, []),
  (1921, 24, .iaload, 0, 0, .null, []),
  (1922, 17, .ifCond .eq 7, 1, 9999, .null, [1173]),
  (1925, 0, .iconst 1, 0, 0, .null, []),
  (1926, 0, .goto 4, 0, 0, .null, [1174]),
  (1929, 0, .iconst 0, 0, 0, .null, []),
  (1930, 4, .invokevirtual 217, 57, 0, .null, [11]),
  (1933, 0, .istore 6, 0, 0, .null, []),
  (1935, 0, .aload_n 2, 0, 0, .null, []),
  (1936, 4, .invokevirtual 134, 9, 0, .null, [11]),
  (1939, 0, .iload 5, 0, 0, .null, []),
  (1941, 17, .if_icmp .eq 5, 2, 9999, .null, [1182]),
  (1944, 0, .iconst 0, 0, 0, .null, []),
  (1945, 16, .ireturn, 0, 0, .null, []),
  (1946, 0, .iload 5, 0, 0, .null, []),
  (1948, 17, .ifCond .ne 15, 1, 9999, .null, [1193]),
  (1951, 0, .aload_n 3, 0, 0, .null, []),
  (1952, 0, .iconst 0, 0, 0, .null, []),
  (1953, 7, .laload, 0, 0, .null, []),
  (1954, 0, .iload 6, 0, 0, .null, []),
  (1956, 0, .i2l, 0, 0, .null, []),
  (1957, 0, .lcmp, 0, 0, .null, []),
  (1958, 17, .ifCond .eq 5, 1, 9999, .null, [1193]),
  (1961, 0, .iconst 0, 0, 0, .null, []),
  (1962, 16, .ireturn, 0, 0, .null, []),
  (1963, 0, .goto 435, 0, 0, .null, [1472]),
  (1966, 0, .aload_n 1, 0, 0, .null, []),
  (1967, 0, .aload_n 0, 0, 0, .null, []),
  (1968, 0, .iload 4, 0, 0, .null, []),
  (1970, 0, .iconst 1, 0, 0, .null, []),
  (1971, 17, .iadd, 2, 9999, .null, []),
  (1972, 24, .iaload, 0, 0, .null, []),
  (1973, 0, .aload_n 0, 0, 0, .null, []),
  (1974, 0, .iload 4, 0, 0, .null, []),
  (1976, 0, .iconst 2, 0, 0, .null, []),
  (1977, 17, .iadd, 2, 9999, .null, []),
  (1978, 24, .iaload, 0, 0, .null, []),
  (1979, 0, .aload_n 3, 0, 0, .null, []),
  (1980, 4, .invokestatic 218, 58, 6, .null, []),
  (1983, 0, .istore 5, 0, 0, .null, []),
  (1985, 0, .aload_n 2, 0, 0, .null, []),
  (1986, 0, .aload_n 0, 0, 0, .null, []),
  (1987, 0, .iload 4, 0, 0, .null, []),
  (1989, 0, .iconst 1, 0, 0, .null, []),
  (1990, 17, .iadd, 2, 9999, .null, []),
  (1991, 24, .iaload, 0, 0, .null, []),
  (1992, 0, .aload_n 0, 0, 0, .null, []),
  (1993, 0, .iload 4, 0, 0, .null, []),
  (1995, 0, .iconst 2, 0, 0, .null, []),
  (1996, 17, .iadd, 2, 9999, .null, []),
  (1997, 24, .iaload, 0, 0, .null, []),
  (1998, 4, .invokevirtual 220, 59, 0, .null, [11]),
  (2001, 0, .lstore 6, 0, 0, .null, []),
  (2003, 0, .aload_n 2, 0, 0, .null, []),
  (2004, 4, .invokevirtual 134, 9, 0, .null, [11]),
  (2007, 0, .iload 5, 0, 0, .null, []),
  (2009, 17, .if_icmp .eq 5, 2, 9999, .null, [1227]),
  (2012, 0, .iconst 0, 0, 0, .null, []),
  (2013, 16, .ireturn, 0, 0, .null, []),
  (2014, 0, .iload 5, 0, 0, .null, []),
  (2016, 17, .ifCond .ne 14, 1, 9999, .null, [1237]),
  (2019, 0, .aload_n 3, 0, 0, .null, []),
  (2020, 0, .iconst 0, 0, 0, .null, []),
  (2021, 7, .laload, 0, 0, .null, []),
  (2022, 0, .lload 6, 0, 0, .null, []),
  (2024, 0, .lcmp, 0, 0, .null, []),
  (2025, 17, .ifCond .eq 5, 1, 9999, .null, [1237]),
  (2028, 0, .iconst 0, 0, 0, .null, []),
  (2029, 16, .ireturn, 0, 0, .null, []),
  (2030, 0, .goto 368, 0, 0, .null, [1472]),
  (2033, 0, .aload_n 1, 0, 0, .null, []),
  (2034, 0, .aload_n 0, 0, 0, .null, []),
  (2035, 0, .iload 4, 0, 0, .null, []),
  (2037, 0, .iconst 1, 0, 0, .null, []),
  (2038, 17, .iadd, 2, 9999, .null, []),
  (2039, 24, .iaload, 0, 0, .null, []),
  (2040, 0, .aload_n 0, 0, 0, .null, []),
  (2041, 0, .iload 4, 0, 0, .null, []),
  (2043, 0, .iconst 2, 0, 0, .null, []),
  (2044, 17, .iadd, 2, 9999, .null, []),
  (2045, 24, .iaload, 0, 0, .null, []),
  (2046, 0, .aload_n 3, 0, 0, .null, []),
  (2047, 4, .invokestatic 221, 60, 6, .null, []),
  (2050, 0, .istore 5, 0, 0, .null, []),
  (2052, 0, .aload_n 2, 0, 0, .null, []),
  (2053, 0, .aload_n 0, 0, 0, .null, []),
  (2054, 0, .iload 4, 0, 0, .null, []),
  (2056, 0, .iconst 1, 0, 0, .null, []),
  (2057, 17, .iadd, 2, 9999, .null, []),
  (2058, 24, .iaload, 0, 0, .null, []),
  (2059, 0, .aload_n 0, 0, 0, .null, []),
  (2060, 0, .iload 4, 0, 0, .null, []),
  (2062, 0, .iconst 2, 0, 0, .null, []),
  (2063, 17, .iadd, 2, 9999, .null, []),
  (2064, 24, .iaload, 0, 0, .null, []),
  (2065, 4, .invokevirtual 223, 61, 0, .null, [11]),
  (2068, 0, .istore 6, 0, 0, .null, []),
  (2070, 0, .aload_n 2, 0, 0, .null, []),
  (2071, 4, .invokevirtual 134, 9, 0, .null, [11]),
  (2074, 0, .iload 5, 0, 0, .null, []),
  (2076, 17, .if_icmp .eq 5, 2, 9999, .null, [1271]),
  (2079, 0, .iconst 0, 0, 0, .null, []),
  (2080, 16, .ireturn, 0, 0, .null, []),
  (2081, 0, .iload 5, 0, 0, .null, []),
  (2083, 17, .ifCond .ne 15, 1, 9999, .null, [1282]),
  (2086, 0, .aload_n 3, 0, 0, .null, []),
  (2087, 0, .iconst 0, 0, 0, .null, []),
  (2088, 7, .laload, 0, 0, .null, []),
  (2089, 0, .iload 6, 0, 0, .null, []),
  (2091, 0, .i2l, 0, 0, .null, []),
  (2092, 0, .lcmp, 0, 0, .null, []),
  (2093, 17, .ifCond .eq 5, 1, 9999, .null, [1282]),
  (2096, 0, .iconst 0, 0, 0, .null, []),
  (2097, 16, .ireturn, 0, 0, .null, []),
  (2098, 0, .goto 300, 0, 0, .null, [1472]),
  (2101, 0, .aload_n 1, 0, 0, .null, []),
  (2102, 0, .aload_n 0, 0, 0, .null, []),
  (2103, 0, .iload 4, 0, 0, .null, []),
  (2105, 0, .iconst 1, 0, 0, .null, []),
  (2106, 17, .iadd, 2, 9999, .null, []),
  (2107, 24, .iaload, 0, 0, .null, []),
  (2108, 0, .aload_n 3, 0, 0, .null, []),
  (2109, 4, .invokestatic 224, 62, 6, .null, []),
  (2112, 0, .istore 5, 0, 0, .null, []),
  (2114, 0, .aload_n 2, 0, 0, .null, []),
  (2115, 0, .aload_n 0, 0, 0, .null, []),
  (2116, 0, .iload 4, 0, 0, .null, []),
  (2118, 0, .iconst 1, 0, 0, .null, []),
  (2119, 17, .iadd, 2, 9999, .null, []),
  (2120, 24, .iaload, 0, 0, .null, []),
  (2121, 4, .invokevirtual 226, 63, 0, .null, [11]),
  (2124, 0, .istore 6, 0, 0, .null, []),
  (2126, 0, .aload_n 2, 0, 0, .null, []),
  (2127, 4, .invokevirtual 134, 9, 0, .null, [11]),
  (2130, 0, .iload 5, 0, 0, .null, []),
  (2132, 17, .if_icmp .eq 5, 2, 9999, .null, [1306]),
  (2135, 0, .iconst 0, 0, 0, .null, []),
  (2136, 16, .ireturn, 0, 0, .null, []),
  (2137, 0, .iload 5, 0, 0, .null, []),
  (2139, 17, .ifCond .ne 15, 1, 9999, .null, [1317]),
  (2142, 0, .aload_n 3, 0, 0, .null, []),
  (2143, 0, .iconst 0, 0, 0, .null, []),
  (2144, 7, .laload, 0, 0, .null, []),
  (2145, 0, .iload 6, 0, 0, .null, []),
  (2147, 0, .i2l, 0, 0, .null, []),
  (2148, 0, .lcmp, 0, 0, .null, []),
  (2149, 17, .ifCond .eq 5, 1, 9999, .null, [1317]),
  (2152, 0, .iconst 0, 0, 0, .null, []),
  (2153, 16, .ireturn, 0, 0, .null, []),
  (2154, 0, .goto 244, 0, 0, .null, [1472]),
  (2157, 0, .aload_n 1, 0, 0, .null, []),
  (2158, 0, .aload_n 0, 0, 0, .null, []),
  (2159, 0, .iload 4, 0, 0, .null, []),
  (2161, 0, .iconst 1, 0, 0, .null, []),
  (2162, 17, .iadd, 2, 9999, .null, []),
  (2163, 24, .iaload, 0, 0, .null, []),
  (2164, 0, .aload_n 3, 0, 0, .null, []),
  (2165, 4, .invokestatic 227, 64, 6, .null, []),
  (2168, 0, .istore 5, 0, 0, .null, []),
  (2170, 0, .aload_n 2, 0, 0, .null, []),
  (2171, 0, .aload_n 0, 0, 0, .null, []),
  (2172, 0, .iload 4, 0, 0, .null, []),
  (2174, 0, .iconst 1, 0, 0, .null, []),
  (2175, 17, .iadd, 2, 9999, .null, []),
  (2176, 24, .iaload, 0, 0, .null, []),
  (2177, 4, .invokevirtual 229, 65, 0, .null, [11]),
  (2180, 0, .istore 6, 0, 0, .null, []),
  (2182, 0, .aload_n 2, 0, 0, .null, []),
  (2183, 4, .invokevirtual 134, 9, 0, .null, [11]),
  (2186, 0, .iload 5, 0, 0, .null, []),
  (2188, 17, .if_icmp .eq 5, 2, 9999, .null, [1341]),
  (2191, 0, .iconst 0, 0, 0, .null, []),
  (2192, 16, .ireturn, 0, 0, .null, []),
  (2193, 0, .iload 5, 0, 0, .null, []),
  (2195, 17, .ifCond .ne 15, 1, 9999, .null, [1352]),
  (2198, 0, .aload_n 3, 0, 0, .null, []),
  (2199, 0, .iconst 0, 0, 0, .null, []),
  (2200, 7, .laload, 0, 0, .null, []),
  (2201, 0, .iload 6, 0, 0, .null, []),
  (2203, 0, .i2l, 0, 0, .null, []),
  (2204, 0, .lcmp, 0, 0, .null, []),
  (2205, 17, .ifCond .eq 5, 1, 9999, .null, [1352]),
  (2208, 0, .iconst 0, 0, 0, .null, []),
  (2209, 16, .ireturn, 0, 0, .null, []),
  (2210, 0, .goto 188, 0, 0, .null, [1472]),
  (2213, 0, .aload_n 1, 0, 0, .null, []),
  (2214, 0, .aload_n 0, 0, 0, .null, []),
  (2215, 0, .iload 4, 0, 0, .null, []),
  (2217, 0, .iconst 1, 0, 0, .null, []),
  (2218, 17, .iadd, 2, 9999, .null, []),
  (2219, 24, .iaload, 0, 0, .null, []),
  (2220, 0, .aload_n 0, 0, 0, .null, []),
  (2221, 0, .iload 4, 0, 0, .null, []),
  (2223, 0, .iconst 2, 0, 0, .null, []),
  (2224, 17, .iadd, 2, 9999, .null, []),
  (2225, 24, .iaload, 0, 0, .null, []),
  (2226, 0, .aload_n 3, 0, 0, .null, []),
  (2227, 4, .invokestatic 230, 66, 6, .null, []),
  (2230, 0, .istore 5, 0, 0, .null, []),
  (2232, 0, .aload_n 2, 0, 0, .null, []),
  (2233, 0, .aload_n 0, 0, 0, .null, []),
  (2234, 0, .iload 4, 0, 0, .null, []),
  (2236, 0, .iconst 1, 0, 0, .null, []),
  (2237, 17, .iadd, 2, 9999, .null, []),
  (2238, 24, .iaload, 0, 0, .null, []),
  (2239, 0, .aload_n 0, 0, 0, .null, []),
  (2240, 0, .iload 4, 0, 0, .null, []),
  (2242, 0, .iconst 2, 0, 0, .null, []),
  (2243, 17, .iadd, 2, 9999, .null, []),
  (2244, 24, .iaload, 0, 0, .null, []),
  (2245, 4, .invokevirtual 232, 67, 0, .null, [11]),
  (2248, 0, .istore 6, 0, 0, .null, []),
  (2250, 0, .aload_n 2, 0, 0, .null, []),
  (2251, 4, .invokevirtual 134, 9, 0, .null, [11]),
  (2254, 0, .iload 5, 0, 0, .null, []),
  (2256, 17, .if_icmp .eq 5, 2, 9999, .null, [1386]),
  (2259, 0, .iconst 0, 0, 0, .null, []),
  (2260, 16, .ireturn, 0, 0, .null, []),
  (2261, 0, .iload 5, 0, 0, .null, []),
  (2263, 17, .ifCond .ne 15, 1, 9999, .null, [1397]),
  (2266, 0, .aload_n 3, 0, 0, .null, []),
  (2267, 0, .iconst 0, 0, 0, .null, []),
  (2268, 7, .laload, 0, 0, .null, []),
  (2269, 0, .iload 6, 0, 0, .null, []),
  (2271, 0, .i2l, 0, 0, .null, []),
  (2272, 0, .lcmp, 0, 0, .null, []),
  (2273, 17, .ifCond .eq 5, 1, 9999, .null, [1397]),
  (2276, 0, .iconst 0, 0, 0, .null, []),
  (2277, 16, .ireturn, 0, 0, .null, []),
  (2278, 0, .goto 120, 0, 0, .null, [1472]),
  (2281, 0, .aload_n 1, 0, 0, .null, []),
  (2282, 0, .aload_n 0, 0, 0, .null, []),
  (2283, 0, .iload 4, 0, 0, .null, []),
  (2285, 0, .iconst 1, 0, 0, .null, []),
  (2286, 17, .iadd, 2, 9999, .null, []),
  (2287, 24, .iaload, 0, 0, .null, []),
  (2288, 0, .aload_n 0, 0, 0, .null, []),
  (2289, 0, .iload 4, 0, 0, .null, []),
  (2291, 0, .iconst 2, 0, 0, .null, []),
  (2292, 17, .iadd, 2, 9999, .null, []),
  (2293, 24, .iaload, 0, 0, .null, []),
  (2294, 0, .aload_n 3, 0, 0, .null, []),
  (2295, 4, .invokestatic 233, 68, 6, .null, []),
  (2298, 0, .istore 5, 0, 0, .null, []),
  (2300, 0, .aload_n 2, 0, 0, .null, []),
  (2301, 0, .aload_n 0, 0, 0, .null, []),
  (2302, 0, .iload 4, 0, 0, .null, []),
  (2304, 0, .iconst 1, 0, 0, .null, []),
  (2305, 17, .iadd, 2, 9999, .null, []),
  (2306, 24, .iaload, 0, 0, .null, []),
  (2307, 0, .aload_n 0, 0, 0, .null, []),
  (2308, 0, .iload 4, 0, 0, .null, []),
  (2310, 0, .iconst 2, 0, 0, .null, []),
  (2311, 17, .iadd, 2, 9999, .null, []),
  (2312, 24, .iaload, 0, 0, .null, []),
  (2313, 4, .invokevirtual 235, 69, 0, .null, [11]),
  (2316, 0, .istore 6, 0, 0, .null, []),
  (2318, 0, .aload_n 2, 0, 0, .null, []),
  (2319, 4, .invokevirtual 134, 9, 0, .null, [11]),
  (2322, 0, .iload 5, 0, 0, .null, []),
  (2324, 17, .if_icmp .eq 5, 2, 9999, .null, [1431]),
  (2327, 0, .iconst 0, 0, 0, .null, []),
  (2328, 16, .ireturn, 0, 0, .null, []),
  (2329, 0, .iload 5, 0, 0, .null, []),
  (2331, 17, .ifCond .ne 15, 1, 9999, .null, [1442]),
  (2334, 0, .aload_n 3, 0, 0, .null, []),
  (2335, 0, .iconst 0, 0, 0, .null, []),
  (2336, 7, .laload, 0, 0, .null, []),
  (2337, 0, .iload 6, 0, 0, .null, []),
  (2339, 0, .i2l, 0, 0, .null, []),
  (2340, 0, .lcmp, 0, 0, .null, []),
  (2341, 17, .ifCond .eq 5, 1, 9999, .null, [1442]),
  (2344, 0, .iconst 0, 0, 0, .null, []),
  (2345, 16, .ireturn, 0, 0, .null, []),
  (2346, 0, .goto 52, 0, 0, .null, [1472]),
  (2349, 0, .aload_n 1, 0, 0, .null, []),
  (2350, 4, .invokevirtual 236, 70, 0, .null, [10]),
  (2353, 0, .aload_n 2, 0, 0, .null, []),
  (2354, 4, .invokevirtual 239, 71, 0, .null, [11]),
  (2357, 0, .goto 41, 0, 0, .null, [1472]),
  (2360, 0, .aload_n 1, 0, 0, .null, []),
  (2361, 4, .invokevirtual 240, 72, 0, .null, [10]),
  (2364, 0, .aload_n 2, 0, 0, .null, []),
  (2365, 4, .invokevirtual 244, 73, 0, .null, [11]),
  (2368, 17, .if_icmp .eq 30, 2, 9999, .null, [1472]),
  (2371, 0, .iconst 0, 0, 0, .null, []),
  (2372, 16, .ireturn, 0, 0, .null, []),
  (2373, 0, .aload_n 1, 0, 0, .null, []),
  (2374, 0, .aload_n 0, 0, 0, .null, []),
  (2375, 0, .iload 4, 0, 0, .null, []),
  (2377, 0, .iconst 1, 0, 0, .null, []),
  (2378, 17, .iadd, 2, 9999, .null, []),
  (2379, 24, .iaload, 0, 0, .null, []),
  (2380, 4, .invokevirtual 245, 74, 0, .null, [10]),
  (2383, 0, .aload_n 2, 0, 0, .null, []),
  (2384, 0, .aload_n 0, 0, 0, .null, []),
  (2385, 0, .iload 4, 0, 0, .null, []),
  (2387, 0, .iconst 1, 0, 0, .null, []),
  (2388, 17, .iadd, 2, 9999, .null, []),
  (2389, 24, .iaload, 0, 0, .null, []),
  (2390, 4, .invokevirtual 248, 75, 0, .null, [11]),
  (2393, 17, .if_icmp .eq 5, 2, 9999, .null, [1472]),
  (2396, 0, .iconst 0, 0, 0, .null, []),
  (2397, 16, .ireturn, 0, 0, .null, []),
  (2398, 0, .iinc 4 6, 0, 0, .null, []),
  (2401, 0, .goto (-2378), 0, 0, .null, [13]),
  (2404, 0, .iconst 1, 0, 0, .null, []),
  (2405, 16, .ireturn, 0, 0, .null, [])])
set_option maxRecDepth 100000 in
noncomputable def ri_m_X10_init : ri_M := (⟨"StillLoops", "<init>", "()V"⟩, prog_1_method_1_code, 1, none, 0, [
  (0, 0, .aload_n 0, 0, 0, .null, []),
  (1, 21, .invokespecial 1, 0, 0, .null, []),
  (4, 0, .aload_n 0, 0, 0, .null, []),
  (5, 18, .new 7, 4, 7, .null, []),
  (8, 0, .dup, 0, 0, .null, []),
  (9, 4, .invokespecial 9, 76, 3, .null, []),
  (12, 2, .putfield 10, 10, 0, .null, []),
  (15, 0, .aload_n 0, 0, 0, .null, []),
  (16, 0, .iconst (-1), 0, 0, .null, []),
  (17, 2, .putfield 16, 10, 1, .null, []),
  (20, 0, .aload_n 0, 0, 0, .null, []),
  (21, 18, .new 20, 0, 8, .null, []),
  (24, 0, .dup, 0, 0, .null, []),
  (25, 4, .invokespecial 22, 77, 2, .null, []),
  (28, 2, .putfield 23, 10, 2, .null, []),
  (31, 0, .aload_n 0, 0, 0, .null, []),
  (32, 18, .new 20, 0, 8, .null, []),
  (35, 0, .dup, 0, 0, .null, []),
  (36, 4, .invokespecial 22, 77, 2, .null, []),
  (39, 2, .putfield 27, 10, 3, .null, []),
  (42, 0, .aload_n 0, 0, 0, .null, []),
  (43, 0, .iconst 0, 0, 0, .null, []),
  (44, 2, .putfield 30, 10, 4, .null, []),
  (47, 0, .aload_n 0, 0, 0, .null, []),
  (48, 18, .new 20, 0, 8, .null, []),
  (51, 0, .dup, 0, 0, .null, []),
  (52, 4, .invokespecial 22, 77, 2, .null, []),
  (55, 2, .putfield 34, 10, 5, .null, []),
  (58, 0, .aload_n 0, 0, 0, .null, []),
  (59, 18, .new 37, 8, 9, .null, []),
  (62, 0, .dup, 0, 0, .null, []),
  (63, 4, .invokespecial 39, 78, 3, .null, []),
  (66, 2, .putfield 40, 10, 6, .null, []),
  (69, 0, .aload_n 0, 0, 0, .null, []),
  (70, 18, .new 44, 6, 4, .null, []),
  (73, 0, .dup, 0, 0, .null, []),
  (74, 4, .invokespecial 46, 79, 3, .null, []),
  (77, 2, .putfield 47, 10, 7, .null, []),
  (80, 16, .return_, 0, 0, .null, [])])
set_option maxRecDepth 100000 in
noncomputable def ri_m_X11_init : ri_M := (⟨"StillLoopsModel", "<init>", "()V"⟩, prog_13_method_1_code, 1, none, 0, [
  (0, 0, .aload_n 0, 0, 0, .null, []),
  (1, 21, .invokespecial 3, 0, 0, .null, []),
  (4, 0, .aload_n 0, 0, 0, .null, []),
  (5, 0, .sipush 585, 0, 0, .null, []),
  (8, 19, .newarray .long, 1, 0, .long 0, []),
  (10, 2, .putfield 9, 11, 1, .null, []),
  (13, 0, .aload_n 0, 0, 0, .null, []),
  (14, 0, .sipush 585, 0, 0, .null, []),
  (17, 19, .newarray .long, 1, 0, .long 0, []),
  (19, 2, .putfield 13, 11, 2, .null, []),
  (22, 0, .aload_n 0, 0, 0, .null, []),
  (23, 0, .sipush 585, 0, 0, .null, []),
  (26, 19, .newarray .long, 1, 0, .long 0, []),
  (28, 2, .putfield 16, 11, 3, .null, []),
  (31, 0, .aload_n 0, 0, 0, .null, []),
  (32, 0, .sipush 585, 0, 0, .null, []),
  (35, 19, .newarray .long, 1, 0, .long 0, []),
  (37, 2, .putfield 19, 11, 4, .null, []),
  (40, 0, .aload_n 0, 0, 0, .null, []),
  (41, 0, .sipush 400, 0, 0, .null, []),
  (44, 19, .newarray .byte, 3, 0, .int 0, []),
  (46, 2, .putfield 22, 11, 6, .null, []),
  (49, 0, .aload_n 0, 0, 0, .null, []),
  (50, 0, .iconst (-1), 0, 0, .null, []),
  (51, 2, .putfield 26, 11, 11, .null, []),
  (54, 0, .aload_n 0, 0, 0, .null, []),
  (55, 0, .iconst 5, 0, 0, .null, []),
  (56, 19, .newarray .int, 0, 0, .int 0, []),
  (58, 2, .putfield 30, 11, 12, .null, []),
  (61, 0, .aload_n 0, 0, 0, .null, []),
  (62, 0, .iconst 4, 0, 0, .null, []),
  (63, 19, .newarray .long, 1, 0, .long 0, []),
  (65, 2, .putfield 34, 11, 14, .null, []),
  (68, 0, .aload_n 0, 0, 0, .null, []),
  (69, 3, .ldc 37, 0, 0, .int 61908, []),
  (71, 19, .newarray .long, 1, 0, .long 0, []),
  (73, 2, .putfield 38, 11, 15, .null, []),
  (76, 0, .aload_n 0, 0, 0, .null, []),
  (77, 0, .sipush 2772, 0, 0, .null, []),
  (80, 19, .newarray .long, 1, 0, .long 0, []),
  (82, 2, .putfield 41, 11, 18, .null, []),
  (85, 0, .aload_n 0, 0, 0, .null, []),
  (86, 0, .iconst 4, 0, 0, .null, []),
  (87, 19, .newarray .double, 4, 0, .double 0, []),
  (89, 2, .putfield 44, 11, 19, .null, []),
  (92, 0, .aload_n 0, 0, 0, .null, []),
  (93, 0, .iconst 4, 0, 0, .null, []),
  (94, 19, .newarray .double, 4, 0, .double 0, []),
  (96, 2, .putfield 48, 11, 20, .null, []),
  (99, 0, .aload_n 0, 0, 0, .null, []),
  (100, 0, .iconst 4, 0, 0, .null, []),
  (101, 19, .newarray .double, 4, 0, .double 0, []),
  (103, 2, .putfield 51, 11, 21, .null, []),
  (106, 0, .aload_n 0, 0, 0, .null, []),
  (107, 0, .iconst 4, 0, 0, .null, []),
  (108, 19, .newarray .double, 4, 0, .double 0, []),
  (110, 2, .putfield 54, 11, 22, .null, []),
  (113, 0, .aload_n 0, 0, 0, .null, []),
  (114, 0, .iconst 4, 0, 0, .null, []),
  (115, 19, .newarray .double, 4, 0, .double 0, []),
  (117, 2, .putfield 57, 11, 23, .null, []),
  (120, 0, .aload_n 0, 0, 0, .null, []),
  (121, 0, .iconst 4, 0, 0, .null, []),
  (122, 19, .newarray .double, 4, 0, .double 0, []),
  (124, 2, .putfield 60, 11, 24, .null, []),
  (127, 0, .aload_n 0, 0, 0, .null, []),
  (128, 0, .iconst 4, 0, 0, .null, []),
  (129, 19, .newarray .double, 4, 0, .double 0, []),
  (131, 2, .putfield 63, 11, 25, .null, []),
  (134, 0, .aload_n 0, 0, 0, .null, []),
  (135, 0, .iconst 4, 0, 0, .null, []),
  (136, 19, .newarray .double, 4, 0, .double 0, []),
  (138, 2, .putfield 66, 11, 26, .null, []),
  (141, 0, .aload_n 0, 0, 0, .null, []),
  (142, 0, .iconst 4, 0, 0, .null, []),
  (143, 19, .newarray .double, 4, 0, .double 0, []),
  (145, 2, .putfield 69, 11, 27, .null, []),
  (148, 0, .aload_n 0, 0, 0, .null, []),
  (149, 0, .bipush 36, 0, 0, .null, []),
  (151, 19, .newarray .double, 4, 0, .double 0, []),
  (153, 2, .putfield 72, 11, 28, .null, []),
  (156, 0, .aload_n 0, 0, 0, .null, []),
  (157, 0, .iconst 4, 0, 0, .null, []),
  (158, 19, .newarray .boolean, 2, 0, .int 0, []),
  (160, 2, .putfield 75, 11, 29, .null, []),
  (163, 16, .return_, 0, 0, .null, [])])
set_option maxRecDepth 100000 in
noncomputable def ri_m_X10_feed : ri_M := (⟨"StillLoops", "feed", "(IIIII)I"⟩, prog_1_method_2_code, 6, some .int, 5, [
  (0, 0, .aload_n 0, 0, 0, .null, []),
  (1, 1, .getfield 10, 10, 0, .null, []),
  (4, 1, .getfield 51, 4, 1, .null, []),
  (7, 0, .bipush 20, 0, 0, .null, []),
  (9, 17, .iadd, 2, 9999, .null, []),
  (10, 0, .sipush 400, 0, 0, .null, []),
  (13, 17, .if_icmp .le 5, 2, 9999, .null, [9]),
  (16, 0, .iconst (-1), 0, 0, .null, []),
  (17, 16, .ireturn, 0, 0, .null, []),
  (18, 0, .aload_n 0, 0, 0, .null, []),
  (19, 1, .getfield 10, 10, 0, .null, []),
  (22, 0, .iload_n 1, 0, 0, .null, []),
  (23, 4, .invokevirtual 54, 80, 0, .null, [4]),
  (26, 0, .aload_n 0, 0, 0, .null, []),
  (27, 1, .getfield 10, 10, 0, .null, []),
  (30, 0, .iload_n 2, 0, 0, .null, []),
  (31, 4, .invokevirtual 54, 80, 0, .null, [4]),
  (34, 0, .aload_n 0, 0, 0, .null, []),
  (35, 1, .getfield 10, 10, 0, .null, []),
  (38, 0, .iload_n 3, 0, 0, .null, []),
  (39, 4, .invokevirtual 54, 80, 0, .null, [4]),
  (42, 0, .aload_n 0, 0, 0, .null, []),
  (43, 1, .getfield 10, 10, 0, .null, []),
  (46, 0, .iload 4, 0, 0, .null, []),
  (48, 4, .invokevirtual 54, 80, 0, .null, [4]),
  (51, 0, .aload_n 0, 0, 0, .null, []),
  (52, 1, .getfield 10, 10, 0, .null, []),
  (55, 0, .iload 5, 0, 0, .null, []),
  (57, 4, .invokevirtual 54, 80, 0, .null, [4]),
  (60, 0, .aload_n 0, 0, 0, .null, []),
  (61, 1, .getfield 10, 10, 0, .null, []),
  (64, 1, .getfield 51, 4, 1, .null, []),
  (67, 16, .ireturn, 0, 0, .null, [])])
set_option maxRecDepth 100000 in
noncomputable def ri_m_X11_feed : ri_M := (⟨"StillLoopsModel", "feed", "(IIIII)I"⟩, prog_13_method_21_code, 7, some .int, 5, [
  (0, 0, .aload_n 0, 0, 0, .null, []),
  (1, 0, .iconst 0, 0, 0, .null, []),
  (2, 2, .putfield 79, 11, 0, .null, []),
  (5, 0, .aload_n 0, 0, 0, .null, []),
  (6, 1, .getfield 123, 11, 7, .null, []),
  (9, 0, .bipush 20, 0, 0, .null, []),
  (11, 17, .iadd, 2, 9999, .null, []),
  (12, 0, .sipush 400, 0, 0, .null, []),
  (15, 17, .if_icmp .le 5, 2, 9999, .null, [11]),
  (18, 0, .iconst (-1), 0, 0, .null, []),
  (19, 16, .ireturn, 0, 0, .null, []),
  (20, 0, .aload_n 0, 0, 0, .null, []),
  (21, 1, .getfield 30, 11, 12, .null, []),
  (24, 0, .iconst 0, 0, 0, .null, []),
  (25, 0, .iload_n 1, 0, 0, .null, []),
  (26, 6, .iastore, 0, 0, .null, []),
  (27, 0, .aload_n 0, 0, 0, .null, []),
  (28, 1, .getfield 30, 11, 12, .null, []),
  (31, 0, .iconst 1, 0, 0, .null, []),
  (32, 0, .iload_n 2, 0, 0, .null, []),
  (33, 6, .iastore, 0, 0, .null, []),
  (34, 0, .aload_n 0, 0, 0, .null, []),
  (35, 1, .getfield 30, 11, 12, .null, []),
  (38, 0, .iconst 2, 0, 0, .null, []),
  (39, 0, .iload_n 3, 0, 0, .null, []),
  (40, 6, .iastore, 0, 0, .null, []),
  (41, 0, .aload_n 0, 0, 0, .null, []),
  (42, 1, .getfield 30, 11, 12, .null, []),
  (45, 0, .iconst 3, 0, 0, .null, []),
  (46, 0, .iload 4, 0, 0, .null, []),
  (48, 6, .iastore, 0, 0, .null, []),
  (49, 0, .aload_n 0, 0, 0, .null, []),
  (50, 1, .getfield 30, 11, 12, .null, []),
  (53, 0, .iconst 4, 0, 0, .null, []),
  (54, 0, .iload 5, 0, 0, .null, []),
  (56, 6, .iastore, 0, 0, .null, []),
  (57, 0, .iconst 0, 0, 0, .null, []),
  (58, 0, .istore 6, 0, 0, .null, []),
  (60, 0, .iload 6, 0, 0, .null, []),
  (62, 0, .bipush 20, 0, 0, .null, []),
  (64, 17, .if_icmp .ge 42, 2, 9999, .null, [65]),
  (67, 0, .aload_n 0, 0, 0, .null, []),
  (68, 1, .getfield 22, 11, 6, .null, []),
  (71, 0, .aload_n 0, 0, 0, .null, []),
  (72, 1, .getfield 123, 11, 7, .null, []),
  (75, 0, .iload 6, 0, 0, .null, []),
  (77, 17, .iadd, 2, 9999, .null, []),
  (78, 0, .aload_n 0, 0, 0, .null, []),
  (79, 1, .getfield 30, 11, 12, .null, []),
  (82, 0, .iload 6, 0, 0, .null, []),
  (84, 0, .iconst 4, 0, 0, .null, []),
  (85, 0, .idiv, 0, 0, .null, []),
  (86, 5, .iaload, 0, 0, .null, []),
  (87, 0, .bipush 24, 0, 0, .null, []),
  (89, 0, .bipush 8, 0, 0, .null, []),
  (91, 0, .iload 6, 0, 0, .null, []),
  (93, 0, .iconst 4, 0, 0, .null, []),
  (94, 0, .irem, 0, 0, .null, []),
  (95, 17, .imul, 2, 9999, .null, []),
  (96, 17, .isub, 2, 9999, .null, []),
  (97, 17, .ishr, 2, 9999, .null, []),
  (98, 17, .i2b, 1, 9999, .null, []),
  (99, 27, .bastore, 0, 0, .null, []),
  (100, 0, .iinc 6 1, 0, 0, .null, []),
  (103, 0, .goto (-43), 0, 0, .null, [38]),
  (106, 0, .aload_n 0, 0, 0, .null, []),
  (107, 0, .dup, 0, 0, .null, []),
  (108, 1, .getfield 123, 11, 7, .null, []),
  (111, 0, .bipush 20, 0, 0, .null, []),
  (113, 17, .iadd, 2, 9999, .null, []),
  (114, 2, .putfield 123, 11, 7, .null, []),
  (117, 0, .aload_n 0, 0, 0, .null, []),
  (118, 1, .getfield 123, 11, 7, .null, []),
  (121, 16, .ireturn, 0, 0, .null, [])])
set_option maxRecDepth 100000 in
noncomputable def ri_m_X10_end : ri_M := (⟨"StillLoops", "end", "(I)Z"⟩, prog_1_method_3_code, 2, some .boolean, 1, [
  (0, 0, .iload_n 1, 0, 0, .null, []),
  (1, 17, .ifCond .lt 14, 1, 9999, .null, [7]),
  (4, 0, .iload_n 1, 0, 0, .null, []),
  (5, 0, .aload_n 0, 0, 0, .null, []),
  (6, 1, .getfield 10, 10, 0, .null, []),
  (9, 1, .getfield 51, 4, 1, .null, []),
  (12, 17, .if_icmp .le 5, 2, 9999, .null, [9]),
  (15, 0, .iconst 0, 0, 0, .null, []),
  (16, 16, .ireturn, 0, 0, .null, []),
  (17, 0, .aload_n 0, 0, 0, .null, []),
  (18, 1, .getfield 10, 10, 0, .null, []),
  (21, 0, .iload_n 1, 0, 0, .null, []),
  (22, 2, .putfield 51, 4, 1, .null, []),
  (25, 0, .iconst 1, 0, 0, .null, []),
  (26, 16, .ireturn, 0, 0, .null, [])])
set_option maxRecDepth 100000 in
noncomputable def ri_m_X11_end : ri_M := (⟨"StillLoopsModel", "end", "(I)Z"⟩, prog_13_method_22_code, 2, some .boolean, 1, [
  (0, 0, .aload_n 0, 0, 0, .null, []),
  (1, 0, .iconst 0, 0, 0, .null, []),
  (2, 2, .putfield 79, 11, 0, .null, []),
  (5, 0, .iload_n 1, 0, 0, .null, []),
  (6, 17, .ifCond .lt 11, 1, 9999, .null, [9]),
  (9, 0, .iload_n 1, 0, 0, .null, []),
  (10, 0, .aload_n 0, 0, 0, .null, []),
  (11, 1, .getfield 123, 11, 7, .null, []),
  (14, 17, .if_icmp .le 5, 2, 9999, .null, [11]),
  (17, 0, .iconst 0, 0, 0, .null, []),
  (18, 16, .ireturn, 0, 0, .null, []),
  (19, 0, .aload_n 0, 0, 0, .null, []),
  (20, 0, .iload_n 1, 0, 0, .null, []),
  (21, 2, .putfield 123, 11, 7, .null, []),
  (24, 0, .iconst 1, 0, 0, .null, []),
  (25, 16, .ireturn, 0, 0, .null, [])])
set_option maxRecDepth 100000 in
noncomputable def ri_m_L_bench : ri_M := (⟨"StillLoopsLaw", "bench", "(LStillLoops;[J)I"⟩, method_3_code, 3, some .int, 2, [
  (0, 0, .aload_n 1, 0, 0, .null, []),
  (1, 0, .iconst 0, 0, 0, .null, []),
  (2, 0, .aload_n 0, 0, 0, .null, []),
  (3, 4, .invokevirtual 7, 81, 5, .null, [10, 7, 10, 9999, 9999, 9999]),
  (6, 0, .i2l, 0, 0, .null, []),
  (7, 8, .lastore, 0, 0, .null, []),
  (8, 0, .goto 9, 0, 0, .null, [13]),
  (11, 0, .astore_n 2, 0, 0, .null, []),
  (12, 0, .iconst 1, 0, 0, .null, []),
  (13, 16, .ireturn, 0, 0, .null, []),
  (14, 0, .astore_n 2, 0, 0, .null, []),
  (15, 0, .iconst 2, 0, 0, .null, []),
  (16, 16, .ireturn, 0, 0, .null, []),
  (17, 0, .iconst 0, 0, 0, .null, []),
  (18, 16, .ireturn, 0, 0, .null, [])])
set_option maxRecDepth 100000 in
noncomputable def ri_m_X11_bench : ri_M := (⟨"StillLoopsModel", "bench", "()I"⟩, prog_13_method_47_code, 3, some .int, 0, [
  (0, 0, .aload_n 0, 0, 0, .null, []),
  (1, 0, .iconst 0, 0, 0, .null, []),
  (2, 2, .putfield 79, 11, 0, .null, []),
  (5, 0, .aload_n 0, 0, 0, .null, []),
  (6, 0, .aload_n 0, 0, 0, .null, []),
  (7, 1, .getfield 123, 11, 7, .null, []),
  (10, 2, .putfield 129, 11, 9, .null, []),
  (13, 0, .aload_n 0, 0, 0, .null, []),
  (14, 0, .iconst 0, 0, 0, .null, []),
  (15, 2, .putfield 123, 11, 7, .null, []),
  (18, 0, .aload_n 0, 0, 0, .null, []),
  (19, 0, .iconst 0, 0, 0, .null, []),
  (20, 2, .putfield 126, 11, 8, .null, []),
  (23, 0, .iconst 0, 0, 0, .null, []),
  (24, 0, .istore_n 1, 0, 0, .null, []),
  (25, 0, .iload_n 1, 0, 0, .null, []),
  (26, 0, .sipush 585, 0, 0, .null, []),
  (29, 17, .if_icmp .ge 21, 2, 9999, .null, [28]),
  (32, 0, .aload_n 0, 0, 0, .null, []),
  (33, 1, .getfield 16, 11, 3, .null, []),
  (36, 0, .iload_n 1, 0, 0, .null, []),
  (37, 0, .aload_n 0, 0, 0, .null, []),
  (38, 1, .getfield 9, 11, 1, .null, []),
  (41, 0, .iload_n 1, 0, 0, .null, []),
  (42, 7, .laload, 0, 0, .null, []),
  (43, 8, .lastore, 0, 0, .null, []),
  (44, 0, .iinc 1 1, 0, 0, .null, []),
  (47, 0, .goto (-22), 0, 0, .null, [15]),
  (50, 0, .aload_n 0, 0, 0, .null, []),
  (51, 4, .invokevirtual 302, 82, 0, .null, [11]),
  (54, 0, .istore_n 1, 0, 0, .null, []),
  (55, 0, .aload_n 0, 0, 0, .null, []),
  (56, 0, .iload_n 1, 0, 0, .null, []),
  (57, 17, .ifCond .eq 7, 1, 9999, .null, [36]),
  (60, 0, .iconst (-1), 0, 0, .null, []),
  (61, 0, .goto 7, 0, 0, .null, [38]),
  (64, 0, .aload_n 0, 0, 0, .null, []),
  (65, 1, .getfield 136, 11, 10, .null, []),
  (68, 2, .putfield 26, 11, 11, .null, []),
  (71, 0, .aload_n 0, 0, 0, .null, []),
  (72, 0, .iload_n 1, 0, 0, .null, []),
  (73, 17, .ifCond .ne 7, 1, 9999, .null, [44]),
  (76, 0, .iconst 1, 0, 0, .null, []),
  (77, 0, .goto 4, 0, 0, .null, [45]),
  (80, 0, .iconst 0, 0, 0, .null, []),
  (81, 0, .iconst 1, 0, 0, .null, []),
  (82, 4, .invokevirtual 305, 83, 0, .null, [11]),
  (85, 17, .ifCond .ne 29, 1, 9999, .null, [62]),
  (88, 0, .aload_n 0, 0, 0, .null, []),
  (89, 0, .aload_n 0, 0, 0, .null, []),
  (90, 1, .getfield 9, 11, 1, .null, []),
  (93, 0, .iconst 1, 0, 0, .null, []),
  (94, 7, .laload, 0, 0, .null, []),
  (95, 3, .ldc2_w 309, 0, 0, .long 12, []),
  (98, 0, .lcmp, 0, 0, .null, []),
  (99, 17, .ifCond .ne 7, 1, 9999, .null, [58]),
  (102, 0, .iconst 1, 0, 0, .null, []),
  (103, 0, .goto 4, 0, 0, .null, [59]),
  (106, 0, .iconst 0, 0, 0, .null, []),
  (107, 0, .iconst 2, 0, 0, .null, []),
  (108, 4, .invokevirtual 305, 83, 0, .null, [11]),
  (111, 17, .ifCond .eq 32, 1, 9999, .null, [79]),
  (114, 0, .iconst 0, 0, 0, .null, []),
  (115, 0, .istore_n 2, 0, 0, .null, []),
  (116, 0, .iload_n 2, 0, 0, .null, []),
  (117, 0, .sipush 585, 0, 0, .null, []),
  (120, 17, .if_icmp .ge 21, 2, 9999, .null, [77]),
  (123, 0, .aload_n 0, 0, 0, .null, []),
  (124, 1, .getfield 9, 11, 1, .null, []),
  (127, 0, .iload_n 2, 0, 0, .null, []),
  (128, 0, .aload_n 0, 0, 0, .null, []),
  (129, 1, .getfield 16, 11, 3, .null, []),
  (132, 0, .iload_n 2, 0, 0, .null, []),
  (133, 7, .laload, 0, 0, .null, []),
  (134, 8, .lastore, 0, 0, .null, []),
  (135, 0, .iinc 2 1, 0, 0, .null, []),
  (138, 0, .goto (-22), 0, 0, .null, [64]),
  (141, 0, .iconst 0, 0, 0, .null, []),
  (142, 16, .ireturn, 0, 0, .null, []),
  (143, 0, .aload_n 0, 0, 0, .null, []),
  (144, 1, .getfield 9, 11, 1, .null, []),
  (147, 0, .iconst 1, 0, 0, .null, []),
  (148, 0, .dup2, 0, 0, .null, []),
  (149, 7, .laload, 0, 0, .null, []),
  (150, 0, .lconst 1, 0, 0, .null, []),
  (151, 0, .ladd, 0, 0, .null, []),
  (152, 8, .lastore, 0, 0, .null, []),
  (153, 0, .aload_n 0, 0, 0, .null, []),
  (154, 1, .getfield 9, 11, 1, .null, []),
  (157, 0, .iconst 1, 0, 0, .null, []),
  (158, 7, .laload, 0, 0, .null, []),
  (159, 0, .l2i, 0, 0, .null, []),
  (160, 16, .ireturn, 0, 0, .null, [])])
set_option maxRecDepth 100000 in
noncomputable def ri_m_X11_thrown : ri_M := (⟨"StillLoopsModel", "thrown", "()I"⟩, prog_13_method_2_code, 1, some .int, 0, [
  (0, 0, .aload_n 0, 0, 0, .null, []),
  (1, 1, .getfield 79, 11, 0, .null, []),
  (4, 16, .ireturn, 0, 0, .null, [])])
set_option maxRecDepth 100000 in
noncomputable def ri_m_X10_fault : ri_M := (⟨"StillLoops", "fault", "()I"⟩, prog_1_method_5_code, 1, some .int, 0, [
  (0, 0, .aload_n 0, 0, 0, .null, []),
  (1, 1, .getfield 16, 10, 1, .null, []),
  (4, 16, .ireturn, 0, 0, .null, [])])
set_option maxRecDepth 100000 in
noncomputable def ri_m_X11_fault : ri_M := (⟨"StillLoopsModel", "fault", "()I"⟩, prog_13_method_34_code, 1, some .int, 0, [
  (0, 0, .aload_n 0, 0, 0, .null, []),
  (1, 0, .iconst 0, 0, 0, .null, []),
  (2, 2, .putfield 79, 11, 0, .null, []),
  (5, 0, .aload_n 0, 0, 0, .null, []),
  (6, 1, .getfield 26, 11, 11, .null, []),
  (9, 16, .ireturn, 0, 0, .null, [])])
set_option maxRecDepth 100000 in
noncomputable def ri_m_L_loop : ri_M := (⟨"StillLoopsLaw", "loop", "(LStillLoops;II[J)I"⟩, method_4_code, 5, some .int, 4, [
  (0, 0, .aload_n 3, 0, 0, .null, []),
  (1, 0, .iconst 0, 0, 0, .null, []),
  (2, 0, .aload_n 0, 0, 0, .null, []),
  (3, 0, .iload_n 1, 0, 0, .null, []),
  (4, 0, .iload_n 2, 0, 0, .null, []),
  (5, 4, .invokevirtual 17, 84, 5, .null, [10, 9999, 9999, 9, 12, 9999]),
  (8, 0, .i2l, 0, 0, .null, []),
  (9, 8, .lastore, 0, 0, .null, []),
  (10, 0, .goto 11, 0, 0, .null, [15]),
  (13, 0, .astore 4, 0, 0, .null, []),
  (15, 0, .iconst 1, 0, 0, .null, []),
  (16, 16, .ireturn, 0, 0, .null, []),
  (17, 0, .astore 4, 0, 0, .null, []),
  (19, 0, .iconst 2, 0, 0, .null, []),
  (20, 16, .ireturn, 0, 0, .null, []),
  (21, 0, .iconst 0, 0, 0, .null, []),
  (22, 16, .ireturn, 0, 0, .null, [])])
set_option maxRecDepth 100000 in
noncomputable def ri_m_X11_loop : ri_M := (⟨"StillLoopsModel", "loop", "(II)I"⟩, prog_13_method_86_code, 3, some .int, 2, [
  (0, 0, .aload_n 0, 0, 0, .null, []),
  (1, 0, .iconst 0, 0, 0, .null, []),
  (2, 2, .putfield 79, 11, 0, .null, []),
  (5, 0, .aload_n 0, 0, 0, .null, []),
  (6, 0, .aload_n 0, 0, 0, .null, []),
  (7, 0, .iload_n 1, 0, 0, .null, []),
  (8, 4, .invokevirtual 439, 85, 0, .null, [11]),
  (11, 0, .iconst 1, 0, 0, .null, []),
  (12, 4, .invokevirtual 305, 83, 0, .null, [11]),
  (15, 17, .ifCond .ne 26, 1, 9999, .null, [22]),
  (18, 0, .aload_n 0, 0, 0, .null, []),
  (19, 0, .iload_n 2, 0, 0, .null, []),
  (20, 0, .iconst 0, 0, 0, .null, []),
  (21, 0, .bipush 20, 0, 0, .null, []),
  (23, 4, .invokestatic 94, 86, 1, .null, []),
  (26, 17, .ifCond .ne 7, 1, 9999, .null, [18]),
  (29, 0, .iconst 1, 0, 0, .null, []),
  (30, 0, .goto 4, 0, 0, .null, [19]),
  (33, 0, .iconst 0, 0, 0, .null, []),
  (34, 0, .iconst 2, 0, 0, .null, []),
  (35, 4, .invokevirtual 305, 83, 0, .null, [11]),
  (38, 17, .ifCond .eq 5, 1, 9999, .null, [24]),
  (41, 0, .iconst 0, 0, 0, .null, []),
  (42, 16, .ireturn, 0, 0, .null, []),
  (43, 0, .iload_n 2, 0, 0, .null, []),
  (44, 0, .bipush 10, 0, 0, .null, []),
  (46, 17, .if_icmp .ne 12, 2, 9999, .null, [32]),
  (49, 0, .aload_n 0, 0, 0, .null, []),
  (50, 0, .iload_n 1, 0, 0, .null, []),
  (51, 99, .invokevirtual 345, 0, 0, .null, []),
  (54, 0, .l2i, 0, 0, .null, []),
  (55, 0, .goto 9, 0, 0, .null, [36]),
  (58, 0, .aload_n 0, 0, 0, .null, []),
  (59, 0, .iload_n 1, 0, 0, .null, []),
  (60, 0, .iload_n 2, 0, 0, .null, []),
  (61, 99, .invokevirtual 116, 0, 0, .null, []),
  (64, 16, .ireturn, 0, 0, .null, [])])
set_option maxRecDepth 100000 in
noncomputable def ri_m_L_inner : ri_M := (⟨"StillLoopsLaw", "inne\x72", "(LStillLoops;II[J)I"⟩, method_5_code, 5, some .int, 4, [
  (0, 0, .aload_n 3, 0, 0, .null, []),
  (1, 0, .iconst 0, 0, 0, .null, []),
  (2, 0, .aload_n 0, 0, 0, .null, []),
  (3, 0, .iload_n 1, 0, 0, .null, []),
  (4, 0, .iload_n 2, 0, 0, .null, []),
  (5, 4, .invokevirtual 25, 87, 5, .null, [10, 9999, 9999, 8, 11, 9999]),
  (8, 8, .lastore, 0, 0, .null, []),
  (9, 0, .goto 11, 0, 0, .null, [14]),
  (12, 0, .astore 4, 0, 0, .null, []),
  (14, 0, .iconst 1, 0, 0, .null, []),
  (15, 16, .ireturn, 0, 0, .null, []),
  (16, 0, .astore 4, 0, 0, .null, []),
  (18, 0, .iconst 2, 0, 0, .null, []),
  (19, 16, .ireturn, 0, 0, .null, []),
  (20, 0, .iconst 0, 0, 0, .null, []),
  (21, 16, .ireturn, 0, 0, .null, [])])
set_option maxRecDepth 100000 in
noncomputable def ri_m_X11_inner : ri_M := (⟨"StillLoopsModel", "inne\x72", "(II)J"⟩, prog_13_method_87_code, 3, some .long, 2, [
  (0, 0, .aload_n 0, 0, 0, .null, []),
  (1, 0, .iconst 0, 0, 0, .null, []),
  (2, 2, .putfield 79, 11, 0, .null, []),
  (5, 0, .aload_n 0, 0, 0, .null, []),
  (6, 0, .aload_n 0, 0, 0, .null, []),
  (7, 0, .iload_n 1, 0, 0, .null, []),
  (8, 4, .invokevirtual 439, 85, 0, .null, [11]),
  (11, 0, .iconst 1, 0, 0, .null, []),
  (12, 4, .invokevirtual 305, 83, 0, .null, [11]),
  (15, 17, .ifCond .ne 25, 1, 9999, .null, [22]),
  (18, 0, .aload_n 0, 0, 0, .null, []),
  (19, 0, .iload_n 2, 0, 0, .null, []),
  (20, 0, .iconst 0, 0, 0, .null, []),
  (21, 0, .iconst 5, 0, 0, .null, []),
  (22, 4, .invokestatic 94, 86, 1, .null, []),
  (25, 17, .ifCond .ne 7, 1, 9999, .null, [18]),
  (28, 0, .iconst 1, 0, 0, .null, []),
  (29, 0, .goto 4, 0, 0, .null, [19]),
  (32, 0, .iconst 0, 0, 0, .null, []),
  (33, 0, .iconst 2, 0, 0, .null, []),
  (34, 4, .invokevirtual 305, 83, 0, .null, [11]),
  (37, 17, .ifCond .eq 5, 1, 9999, .null, [24]),
  (40, 0, .lconst 0, 0, 0, .null, []),
  (41, 16, .lreturn, 0, 0, .null, []),
  (42, 0, .iload_n 2, 0, 0, .null, []),
  (43, 0, .iconst 5, 0, 0, .null, []),
  (44, 17, .if_icmp .ne 11, 2, 9999, .null, [31]),
  (47, 0, .aload_n 0, 0, 0, .null, []),
  (48, 0, .iload_n 1, 0, 0, .null, []),
  (49, 99, .invokevirtual 462, 0, 0, .null, []),
  (52, 0, .goto 12, 0, 0, .null, [37]),
  (55, 0, .aload_n 0, 0, 0, .null, []),
  (56, 0, .iload_n 1, 0, 0, .null, []),
  (57, 0, .bipush 47, 0, 0, .null, []),
  (59, 0, .iload_n 2, 0, 0, .null, []),
  (60, 17, .iadd, 2, 9999, .null, []),
  (61, 99, .invokevirtual 98, 0, 0, .null, []),
  (64, 16, .lreturn, 0, 0, .null, [])])
set_option maxRecDepth 100000 in
noncomputable def ri_m_L_gain : ri_M := (⟨"StillLoopsLaw", "gain", "(LStillLoops;III[J)I"⟩, method_6_code, 6, some .int, 5, [
  (0, 0, .aload 4, 0, 0, .null, []),
  (2, 0, .iconst 0, 0, 0, .null, []),
  (3, 0, .aload_n 0, 0, 0, .null, []),
  (4, 0, .iload_n 1, 0, 0, .null, []),
  (5, 0, .iload_n 2, 0, 0, .null, []),
  (6, 0, .iload_n 3, 0, 0, .null, []),
  (7, 4, .invokevirtual 29, 88, 5, .null, [10, 9999, 9999, 10, 13, 9999]),
  (10, 0, .i2l, 0, 0, .null, []),
  (11, 8, .lastore, 0, 0, .null, []),
  (12, 0, .goto 11, 0, 0, .null, [16]),
  (15, 0, .astore 5, 0, 0, .null, []),
  (17, 0, .iconst 1, 0, 0, .null, []),
  (18, 16, .ireturn, 0, 0, .null, []),
  (19, 0, .astore 5, 0, 0, .null, []),
  (21, 0, .iconst 2, 0, 0, .null, []),
  (22, 16, .ireturn, 0, 0, .null, []),
  (23, 0, .iconst 0, 0, 0, .null, []),
  (24, 16, .ireturn, 0, 0, .null, [])])
set_option maxRecDepth 100000 in
noncomputable def ri_m_X11_gain : ri_M := (⟨"StillLoopsModel", "gain", "(III)I"⟩, prog_13_method_88_code, 4, some .int, 3, [
  (0, 0, .aload_n 0, 0, 0, .null, []),
  (1, 0, .iconst 0, 0, 0, .null, []),
  (2, 2, .putfield 79, 11, 0, .null, []),
  (5, 0, .aload_n 0, 0, 0, .null, []),
  (6, 0, .aload_n 0, 0, 0, .null, []),
  (7, 0, .iload_n 1, 0, 0, .null, []),
  (8, 4, .invokevirtual 439, 85, 0, .null, [11]),
  (11, 17, .ifCond .ne 20, 1, 9999, .null, [18]),
  (14, 0, .iload_n 2, 0, 0, .null, []),
  (15, 0, .iconst 0, 0, 0, .null, []),
  (16, 0, .aload_n 0, 0, 0, .null, []),
  (17, 0, .iload_n 1, 0, 0, .null, []),
  (18, 0, .bipush 14, 0, 0, .null, []),
  (20, 99, .invokevirtual 116, 0, 0, .null, []),
  (23, 0, .iconst 1, 0, 0, .null, []),
  (24, 17, .isub, 2, 9999, .null, []),
  (25, 4, .invokestatic 94, 86, 1, .null, []),
  (28, 17, .ifCond .ne 7, 1, 9999, .null, [20]),
  (31, 0, .iconst 1, 0, 0, .null, []),
  (32, 0, .goto 4, 0, 0, .null, [21]),
  (35, 0, .iconst 0, 0, 0, .null, []),
  (36, 0, .iconst 1, 0, 0, .null, []),
  (37, 4, .invokevirtual 305, 83, 0, .null, [11]),
  (40, 17, .ifCond .ne 25, 1, 9999, .null, [36]),
  (43, 0, .aload_n 0, 0, 0, .null, []),
  (44, 0, .iload_n 3, 0, 0, .null, []),
  (45, 0, .iconst 0, 0, 0, .null, []),
  (46, 0, .iconst 3, 0, 0, .null, []),
  (47, 4, .invokestatic 94, 86, 1, .null, []),
  (50, 17, .ifCond .ne 7, 1, 9999, .null, [32]),
  (53, 0, .iconst 1, 0, 0, .null, []),
  (54, 0, .goto 4, 0, 0, .null, [33]),
  (57, 0, .iconst 0, 0, 0, .null, []),
  (58, 0, .iconst 2, 0, 0, .null, []),
  (59, 4, .invokevirtual 305, 83, 0, .null, [11]),
  (62, 17, .ifCond .eq 5, 1, 9999, .null, [38]),
  (65, 0, .iconst 0, 0, 0, .null, []),
  (66, 16, .ireturn, 0, 0, .null, []),
  (67, 0, .aload_n 0, 0, 0, .null, []),
  (68, 1, .getfield 9, 11, 1, .null, []),
  (71, 0, .aload_n 0, 0, 0, .null, []),
  (72, 0, .iload_n 1, 0, 0, .null, []),
  (73, 0, .iload_n 2, 0, 0, .null, []),
  (74, 0, .iload_n 3, 0, 0, .null, []),
  (75, 99, .invokevirtual 119, 0, 0, .null, []),
  (78, 7, .laload, 0, 0, .null, []),
  (79, 0, .l2i, 0, 0, .null, []),
  (80, 16, .ireturn, 0, 0, .null, [])])
set_option maxRecDepth 100000 in
noncomputable def ri_m_L_weight : ri_M := (⟨"StillLoopsLaw", "weight", "(LStillLoops;II[J)I"⟩, method_7_code, 5, some .int, 4, [
  (0, 0, .aload_n 3, 0, 0, .null, []),
  (1, 0, .iconst 0, 0, 0, .null, []),
  (2, 0, .aload_n 0, 0, 0, .null, []),
  (3, 0, .iload_n 1, 0, 0, .null, []),
  (4, 0, .iload_n 2, 0, 0, .null, []),
  (5, 4, .invokevirtual 33, 89, 5, .null, [10, 9999, 9999, 9, 12, 9999]),
  (8, 0, .i2l, 0, 0, .null, []),
  (9, 8, .lastore, 0, 0, .null, []),
  (10, 0, .goto 11, 0, 0, .null, [15]),
  (13, 0, .astore 4, 0, 0, .null, []),
  (15, 0, .iconst 1, 0, 0, .null, []),
  (16, 16, .ireturn, 0, 0, .null, []),
  (17, 0, .astore 4, 0, 0, .null, []),
  (19, 0, .iconst 2, 0, 0, .null, []),
  (20, 16, .ireturn, 0, 0, .null, []),
  (21, 0, .iconst 0, 0, 0, .null, []),
  (22, 16, .ireturn, 0, 0, .null, [])])
set_option maxRecDepth 100000 in
noncomputable def ri_m_X11_weight : ri_M := (⟨"StillLoopsModel", "weight", "(II)I"⟩, prog_13_method_89_code, 3, some .int, 2, [
  (0, 0, .aload_n 0, 0, 0, .null, []),
  (1, 0, .iconst 0, 0, 0, .null, []),
  (2, 2, .putfield 79, 11, 0, .null, []),
  (5, 0, .aload_n 0, 0, 0, .null, []),
  (6, 0, .aload_n 0, 0, 0, .null, []),
  (7, 0, .iload_n 1, 0, 0, .null, []),
  (8, 4, .invokevirtual 439, 85, 0, .null, [11]),
  (11, 0, .iconst 1, 0, 0, .null, []),
  (12, 4, .invokevirtual 305, 83, 0, .null, [11]),
  (15, 17, .ifCond .ne 25, 1, 9999, .null, [22]),
  (18, 0, .aload_n 0, 0, 0, .null, []),
  (19, 0, .iload_n 2, 0, 0, .null, []),
  (20, 0, .iconst 0, 0, 0, .null, []),
  (21, 0, .iconst 5, 0, 0, .null, []),
  (22, 4, .invokestatic 94, 86, 1, .null, []),
  (25, 17, .ifCond .ne 7, 1, 9999, .null, [18]),
  (28, 0, .iconst 1, 0, 0, .null, []),
  (29, 0, .goto 4, 0, 0, .null, [19]),
  (32, 0, .iconst 0, 0, 0, .null, []),
  (33, 0, .iconst 2, 0, 0, .null, []),
  (34, 4, .invokevirtual 305, 83, 0, .null, [11]),
  (37, 17, .ifCond .eq 7, 1, 9999, .null, [24]),
  (40, 0, .iconst 0, 0, 0, .null, []),
  (41, 0, .goto 12, 0, 0, .null, [30]),
  (44, 0, .aload_n 0, 0, 0, .null, []),
  (45, 0, .iload_n 1, 0, 0, .null, []),
  (46, 0, .bipush 21, 0, 0, .null, []),
  (48, 0, .iload_n 2, 0, 0, .null, []),
  (49, 17, .iadd, 2, 9999, .null, []),
  (50, 99, .invokevirtual 116, 0, 0, .null, []),
  (53, 16, .ireturn, 0, 0, .null, [])])
set_option maxRecDepth 100000 in
noncomputable def ri_m_L_trip : ri_M := (⟨"StillLoopsLaw", "trip", "(LStillLoops;II[J)I"⟩, method_8_code, 5, some .int, 4, [
  (0, 0, .aload_n 3, 0, 0, .null, []),
  (1, 0, .iconst 0, 0, 0, .null, []),
  (2, 0, .aload_n 0, 0, 0, .null, []),
  (3, 0, .iload_n 1, 0, 0, .null, []),
  (4, 0, .iload_n 2, 0, 0, .null, []),
  (5, 4, .invokevirtual 36, 90, 5, .null, [10, 9999, 9999, 9, 9999, 9999]),
  (8, 0, .i2l, 0, 0, .null, []),
  (9, 8, .lastore, 0, 0, .null, []),
  (10, 0, .goto 7, 0, 0, .null, [12]),
  (13, 0, .astore 4, 0, 0, .null, []),
  (15, 0, .iconst 1, 0, 0, .null, []),
  (16, 16, .ireturn, 0, 0, .null, []),
  (17, 0, .iconst 0, 0, 0, .null, []),
  (18, 16, .ireturn, 0, 0, .null, [])])
set_option maxRecDepth 100000 in
noncomputable def ri_m_X11_trip : ri_M := (⟨"StillLoopsModel", "trip", "(II)I"⟩, prog_13_method_90_code, 3, some .int, 2, [
  (0, 0, .aload_n 0, 0, 0, .null, []),
  (1, 0, .iconst 0, 0, 0, .null, []),
  (2, 2, .putfield 79, 11, 0, .null, []),
  (5, 0, .aload_n 0, 0, 0, .null, []),
  (6, 0, .aload_n 0, 0, 0, .null, []),
  (7, 0, .iload_n 1, 0, 0, .null, []),
  (8, 4, .invokevirtual 439, 85, 0, .null, [11]),
  (11, 0, .iconst 1, 0, 0, .null, []),
  (12, 4, .invokevirtual 305, 83, 0, .null, [11]),
  (15, 17, .ifCond .eq 5, 1, 9999, .null, [12]),
  (18, 0, .iconst 0, 0, 0, .null, []),
  (19, 16, .ireturn, 0, 0, .null, []),
  (20, 0, .iload_n 2, 0, 0, .null, []),
  (21, 0, .iconst 0, 0, 0, .null, []),
  (22, 0, .aload_n 0, 0, 0, .null, []),
  (23, 0, .iload_n 1, 0, 0, .null, []),
  (24, 0, .bipush 61, 0, 0, .null, []),
  (26, 99, .invokevirtual 116, 0, 0, .null, []),
  (29, 0, .iconst 1, 0, 0, .null, []),
  (30, 17, .isub, 2, 9999, .null, []),
  (31, 4, .invokestatic 94, 86, 1, .null, []),
  (34, 17, .ifCond .eq 15, 1, 9999, .null, [29]),
  (37, 0, .aload_n 0, 0, 0, .null, []),
  (38, 0, .iload_n 1, 0, 0, .null, []),
  (39, 0, .bipush 62, 0, 0, .null, []),
  (41, 0, .iload_n 2, 0, 0, .null, []),
  (42, 17, .iadd, 2, 9999, .null, []),
  (43, 99, .invokevirtual 116, 0, 0, .null, []),
  (46, 0, .goto 4, 0, 0, .null, [30]),
  (49, 0, .iconst (-1), 0, 0, .null, []),
  (50, 16, .ireturn, 0, 0, .null, [])])
set_option maxRecDepth 100000 in
noncomputable def ri_m_L_whose : ri_M := (⟨"StillLoopsLaw", "whose", "(LStillLoops;II[J)I"⟩, method_9_code, 5, some .int, 4, [
  (0, 0, .aload_n 3, 0, 0, .null, []),
  (1, 0, .iconst 0, 0, 0, .null, []),
  (2, 0, .aload_n 0, 0, 0, .null, []),
  (3, 0, .iload_n 1, 0, 0, .null, []),
  (4, 0, .iload_n 2, 0, 0, .null, []),
  (5, 4, .invokevirtual 39, 91, 5, .null, [10, 9999, 9999, 9, 9999, 9999]),
  (8, 0, .i2l, 0, 0, .null, []),
  (9, 8, .lastore, 0, 0, .null, []),
  (10, 0, .goto 7, 0, 0, .null, [12]),
  (13, 0, .astore 4, 0, 0, .null, []),
  (15, 0, .iconst 1, 0, 0, .null, []),
  (16, 16, .ireturn, 0, 0, .null, []),
  (17, 0, .iconst 0, 0, 0, .null, []),
  (18, 16, .ireturn, 0, 0, .null, [])])
set_option maxRecDepth 100000 in
noncomputable def ri_m_X11_whose : ri_M := (⟨"StillLoopsModel", "whose", "(II)I"⟩, prog_13_method_91_code, 5, some .int, 2, [
  (0, 0, .aload_n 0, 0, 0, .null, []),
  (1, 0, .iconst 0, 0, 0, .null, []),
  (2, 2, .putfield 79, 11, 0, .null, []),
  (5, 0, .aload_n 0, 0, 0, .null, []),
  (6, 0, .aload_n 0, 0, 0, .null, []),
  (7, 0, .iload_n 1, 0, 0, .null, []),
  (8, 4, .invokevirtual 439, 85, 0, .null, [11]),
  (11, 0, .iconst 1, 0, 0, .null, []),
  (12, 4, .invokevirtual 305, 83, 0, .null, [11]),
  (15, 17, .ifCond .eq 5, 1, 9999, .null, [12]),
  (18, 0, .iconst 0, 0, 0, .null, []),
  (19, 16, .ireturn, 0, 0, .null, []),
  (20, 0, .iload_n 2, 0, 0, .null, []),
  (21, 0, .iconst 0, 0, 0, .null, []),
  (22, 0, .aload_n 0, 0, 0, .null, []),
  (23, 0, .iload_n 1, 0, 0, .null, []),
  (24, 0, .bipush 61, 0, 0, .null, []),
  (26, 99, .invokevirtual 116, 0, 0, .null, []),
  (29, 0, .iconst 1, 0, 0, .null, []),
  (30, 17, .isub, 2, 9999, .null, []),
  (31, 4, .invokestatic 94, 86, 1, .null, []),
  (34, 17, .ifCond .ne 5, 1, 9999, .null, [24]),
  (37, 0, .iconst (-1), 0, 0, .null, []),
  (38, 16, .ireturn, 0, 0, .null, []),
  (39, 0, .iload_n 1, 0, 0, .null, []),
  (40, 0, .istore_n 3, 0, 0, .null, []),
  (41, 0, .iconst 0, 0, 0, .null, []),
  (42, 0, .istore 4, 0, 0, .null, []),
  (44, 0, .iload 4, 0, 0, .null, []),
  (46, 0, .iload_n 2, 0, 0, .null, []),
  (47, 17, .if_icmp .ge 17, 2, 9999, .null, [38]),
  (50, 0, .aload_n 0, 0, 0, .null, []),
  (51, 0, .iload_n 3, 0, 0, .null, []),
  (52, 0, .bipush 7, 0, 0, .null, []),
  (54, 99, .invokevirtual 116, 0, 0, .null, []),
  (57, 0, .istore_n 3, 0, 0, .null, []),
  (58, 0, .iinc 4 1, 0, 0, .null, []),
  (61, 0, .goto (-17), 0, 0, .null, [28]),
  (64, 0, .iload_n 3, 0, 0, .null, []),
  (65, 16, .ireturn, 0, 0, .null, [])])
set_option maxRecDepth 100000 in
noncomputable def ri_m_L_flow : ri_M := (⟨"StillLoopsLaw", "flow", "(LStillLoops;II[J)I"⟩, method_10_code, 5, some .int, 4, [
  (0, 0, .aload_n 3, 0, 0, .null, []),
  (1, 0, .iconst 0, 0, 0, .null, []),
  (2, 0, .aload_n 0, 0, 0, .null, []),
  (3, 0, .iload_n 1, 0, 0, .null, []),
  (4, 0, .iload_n 2, 0, 0, .null, []),
  (5, 4, .invokevirtual 42, 92, 5, .null, [10, 12, 9999, 9, 9999, 9999]),
  (8, 0, .i2l, 0, 0, .null, []),
  (9, 8, .lastore, 0, 0, .null, []),
  (10, 0, .goto 11, 0, 0, .null, [15]),
  (13, 0, .astore 4, 0, 0, .null, []),
  (15, 0, .iconst 1, 0, 0, .null, []),
  (16, 16, .ireturn, 0, 0, .null, []),
  (17, 0, .astore 4, 0, 0, .null, []),
  (19, 0, .iconst 2, 0, 0, .null, []),
  (20, 16, .ireturn, 0, 0, .null, []),
  (21, 0, .iconst 0, 0, 0, .null, []),
  (22, 16, .ireturn, 0, 0, .null, [])])
set_option maxRecDepth 100000 in
noncomputable def ri_m_X11_flow : ri_M := (⟨"StillLoopsModel", "flow", "(II)I"⟩, prog_13_method_92_code, 3, some .int, 2, [
  (0, 0, .aload_n 0, 0, 0, .null, []),
  (1, 0, .iconst 0, 0, 0, .null, []),
  (2, 2, .putfield 79, 11, 0, .null, []),
  (5, 0, .aload_n 0, 0, 0, .null, []),
  (6, 0, .aload_n 0, 0, 0, .null, []),
  (7, 0, .iload_n 1, 0, 0, .null, []),
  (8, 4, .invokevirtual 439, 85, 0, .null, [11]),
  (11, 0, .iconst 1, 0, 0, .null, []),
  (12, 4, .invokevirtual 305, 83, 0, .null, [11]),
  (15, 17, .ifCond .ne 36, 1, 9999, .null, [28]),
  (18, 0, .aload_n 0, 0, 0, .null, []),
  (19, 0, .iload_n 2, 0, 0, .null, []),
  (20, 0, .aload_n 0, 0, 0, .null, []),
  (21, 0, .iload_n 1, 0, 0, .null, []),
  (22, 0, .iconst 5, 0, 0, .null, []),
  (23, 99, .invokevirtual 116, 0, 0, .null, []),
  (26, 0, .aload_n 0, 0, 0, .null, []),
  (27, 0, .iload_n 1, 0, 0, .null, []),
  (28, 0, .bipush 6, 0, 0, .null, []),
  (30, 99, .invokevirtual 116, 0, 0, .null, []),
  (33, 4, .invokestatic 94, 86, 1, .null, []),
  (36, 17, .ifCond .ne 7, 1, 9999, .null, [24]),
  (39, 0, .iconst 1, 0, 0, .null, []),
  (40, 0, .goto 4, 0, 0, .null, [25]),
  (43, 0, .iconst 0, 0, 0, .null, []),
  (44, 0, .iconst 2, 0, 0, .null, []),
  (45, 4, .invokevirtual 305, 83, 0, .null, [11]),
  (48, 17, .ifCond .eq 7, 1, 9999, .null, [30]),
  (51, 0, .iconst 0, 0, 0, .null, []),
  (52, 0, .goto 11, 0, 0, .null, [36]),
  (55, 0, .aload_n 0, 0, 0, .null, []),
  (56, 0, .iload_n 1, 0, 0, .null, []),
  (57, 0, .iload_n 2, 0, 0, .null, []),
  (58, 0, .i2l, 0, 0, .null, []),
  (59, 99, .invokevirtual 416, 0, 0, .null, []),
  (62, 0, .l2i, 0, 0, .null, []),
  (63, 16, .ireturn, 0, 0, .null, [])])
set_option maxRecDepth 100000 in
noncomputable def ri_m_L_ticks : ri_M := (⟨"StillLoopsLaw", "ticks", "(LStillLoops;I[J)I"⟩, method_11_code, 4, some .int, 3, [
  (0, 0, .aload_n 2, 0, 0, .null, []),
  (1, 0, .iconst 0, 0, 0, .null, []),
  (2, 0, .aload_n 0, 0, 0, .null, []),
  (3, 0, .iload_n 1, 0, 0, .null, []),
  (4, 4, .invokevirtual 45, 93, 5, .null, [10, 8, 9999, 9999, 9999, 9999]),
  (7, 0, .i2l, 0, 0, .null, []),
  (8, 8, .lastore, 0, 0, .null, []),
  (9, 0, .goto 6, 0, 0, .null, [11]),
  (12, 0, .astore_n 3, 0, 0, .null, []),
  (13, 0, .iconst 1, 0, 0, .null, []),
  (14, 16, .ireturn, 0, 0, .null, []),
  (15, 0, .iconst 0, 0, 0, .null, []),
  (16, 16, .ireturn, 0, 0, .null, [])])
set_option maxRecDepth 100000 in
noncomputable def ri_m_X11_ticks : ri_M := (⟨"StillLoopsModel", "ticks", "(I)I"⟩, prog_13_method_74_code, 4, some .int, 1, [
  (0, 0, .aload_n 0, 0, 0, .null, []),
  (1, 0, .iconst 0, 0, 0, .null, []),
  (2, 2, .putfield 79, 11, 0, .null, []),
  (5, 0, .aload_n 0, 0, 0, .null, []),
  (6, 0, .iload_n 1, 0, 0, .null, []),
  (7, 0, .iconst 1, 0, 0, .null, []),
  (8, 0, .bipush 60, 0, 0, .null, []),
  (10, 4, .invokestatic 94, 86, 1, .null, []),
  (13, 17, .ifCond .ne 7, 1, 9999, .null, [11]),
  (16, 0, .iconst 1, 0, 0, .null, []),
  (17, 0, .goto 4, 0, 0, .null, [12]),
  (20, 0, .iconst 0, 0, 0, .null, []),
  (21, 0, .iconst 1, 0, 0, .null, []),
  (22, 4, .invokevirtual 305, 83, 0, .null, [11]),
  (25, 17, .ifCond .eq 5, 1, 9999, .null, [17]),
  (28, 0, .iconst 0, 0, 0, .null, []),
  (29, 16, .ireturn, 0, 0, .null, []),
  (30, 0, .iconst 0, 0, 0, .null, []),
  (31, 0, .istore_n 2, 0, 0, .null, []),
  (32, 0, .iconst 0, 0, 0, .null, []),
  (33, 0, .istore_n 3, 0, 0, .null, []),
  (34, 0, .iload_n 3, 0, 0, .null, []),
  (35, 0, .iload_n 1, 0, 0, .null, []),
  (36, 17, .if_icmp .ge 17, 2, 9999, .null, [32]),
  (39, 0, .iload_n 2, 0, 0, .null, []),
  (40, 0, .aload_n 0, 0, 0, .null, []),
  (41, 0, .iconst 1, 0, 0, .null, []),
  (42, 4, .invokevirtual 435, 94, 0, .null, [11]),
  (45, 17, .iadd, 2, 9999, .null, []),
  (46, 0, .istore_n 2, 0, 0, .null, []),
  (47, 0, .iinc 3 1, 0, 0, .null, []),
  (50, 0, .goto (-16), 0, 0, .null, [21]),
  (53, 0, .iload_n 2, 0, 0, .null, []),
  (54, 16, .ireturn, 0, 0, .null, [])])
set_option maxRecDepth 100000 in
noncomputable def ri_m_L_mode : ri_M := (⟨"StillLoopsLaw", "mode", "(LStillLoops;II[J)I"⟩, method_12_code, 5, some .int, 4, [
  (0, 0, .aload_n 3, 0, 0, .null, []),
  (1, 0, .iconst 0, 0, 0, .null, []),
  (2, 0, .aload_n 0, 0, 0, .null, []),
  (3, 0, .iload_n 1, 0, 0, .null, []),
  (4, 0, .iload_n 2, 0, 0, .null, []),
  (5, 4, .invokevirtual 49, 95, 5, .null, [10, 12, 9999, 9, 9999, 15]),
  (8, 0, .i2l, 0, 0, .null, []),
  (9, 8, .lastore, 0, 0, .null, []),
  (10, 0, .goto 15, 0, 0, .null, [18]),
  (13, 0, .astore 4, 0, 0, .null, []),
  (15, 0, .iconst 1, 0, 0, .null, []),
  (16, 16, .ireturn, 0, 0, .null, []),
  (17, 0, .astore 4, 0, 0, .null, []),
  (19, 0, .iconst 2, 0, 0, .null, []),
  (20, 16, .ireturn, 0, 0, .null, []),
  (21, 0, .astore 4, 0, 0, .null, []),
  (23, 0, .iconst 3, 0, 0, .null, []),
  (24, 16, .ireturn, 0, 0, .null, []),
  (25, 0, .iconst 0, 0, 0, .null, []),
  (26, 16, .ireturn, 0, 0, .null, [])])
set_option maxRecDepth 100000 in
noncomputable def ri_m_X11_mode : ri_M := (⟨"StillLoopsModel", "mode", "(II)I"⟩, prog_13_method_76_code, 4, some .int, 2, [
  (0, 0, .aload_n 0, 0, 0, .null, []),
  (1, 0, .iconst 0, 0, 0, .null, []),
  (2, 2, .putfield 79, 11, 0, .null, []),
  (5, 0, .aload_n 0, 0, 0, .null, []),
  (6, 0, .iload_n 1, 0, 0, .null, []),
  (7, 0, .iload_n 2, 0, 0, .null, []),
  (8, 0, .iconst 2, 0, 0, .null, []),
  (9, 0, .iconst 3, 0, 0, .null, []),
  (10, 4, .invokevirtual 442, 96, 0, .null, [11]),
  (13, 17, .ifCond .eq 5, 1, 9999, .null, [12]),
  (16, 0, .iconst 0, 0, 0, .null, []),
  (17, 16, .ireturn, 0, 0, .null, []),
  (18, 0, .aload_n 0, 0, 0, .null, []),
  (19, 0, .iload_n 1, 0, 0, .null, []),
  (20, 0, .bipush 8, 0, 0, .null, []),
  (22, 99, .invokevirtual 116, 0, 0, .null, []),
  (25, 0, .istore_n 3, 0, 0, .null, []),
  (26, 0, .aload_n 0, 0, 0, .null, []),
  (27, 0, .iload_n 1, 0, 0, .null, []),
  (28, 0, .iload_n 2, 0, 0, .null, []),
  (29, 99, .invokevirtual 358, 0, 0, .null, []),
  (32, 0, .iload_n 3, 0, 0, .null, []),
  (33, 16, .ireturn, 0, 0, .null, [])])
set_option maxRecDepth 100000 in
noncomputable def ri_m_L_set : ri_M := (⟨"StillLoopsLaw", "set", "(LStillLoops;II[J)I"⟩, method_13_code, 5, some .int, 4, [
  (0, 0, .aload_n 3, 0, 0, .null, []),
  (1, 0, .iconst 0, 0, 0, .null, []),
  (2, 0, .aload_n 0, 0, 0, .null, []),
  (3, 0, .iload_n 1, 0, 0, .null, []),
  (4, 0, .iload_n 2, 0, 0, .null, []),
  (5, 4, .invokevirtual 54, 97, 5, .null, [10, 12, 9999, 9, 9999, 15]),
  (8, 0, .i2l, 0, 0, .null, []),
  (9, 8, .lastore, 0, 0, .null, []),
  (10, 0, .goto 15, 0, 0, .null, [18]),
  (13, 0, .astore 4, 0, 0, .null, []),
  (15, 0, .iconst 1, 0, 0, .null, []),
  (16, 16, .ireturn, 0, 0, .null, []),
  (17, 0, .astore 4, 0, 0, .null, []),
  (19, 0, .iconst 2, 0, 0, .null, []),
  (20, 16, .ireturn, 0, 0, .null, []),
  (21, 0, .astore 4, 0, 0, .null, []),
  (23, 0, .iconst 3, 0, 0, .null, []),
  (24, 16, .ireturn, 0, 0, .null, []),
  (25, 0, .iconst 0, 0, 0, .null, []),
  (26, 16, .ireturn, 0, 0, .null, [])])
set_option maxRecDepth 100000 in
noncomputable def ri_m_X11_set : ri_M := (⟨"StillLoopsModel", "set", "(II)I"⟩, prog_13_method_77_code, 4, some .int, 2, [
  (0, 0, .aload_n 0, 0, 0, .null, []),
  (1, 0, .iconst 0, 0, 0, .null, []),
  (2, 2, .putfield 79, 11, 0, .null, []),
  (5, 0, .aload_n 0, 0, 0, .null, []),
  (6, 0, .aload_n 0, 0, 0, .null, []),
  (7, 0, .iload_n 1, 0, 0, .null, []),
  (8, 4, .invokevirtual 439, 85, 0, .null, [11]),
  (11, 0, .iconst 1, 0, 0, .null, []),
  (12, 4, .invokevirtual 305, 83, 0, .null, [11]),
  (15, 17, .ifCond .ne 43, 1, 9999, .null, [30]),
  (18, 0, .aload_n 0, 0, 0, .null, []),
  (19, 0, .iload_n 2, 0, 0, .null, []),
  (20, 0, .sipush (-9999), 0, 0, .null, []),
  (23, 0, .sipush 9999, 0, 0, .null, []),
  (26, 4, .invokestatic 94, 86, 1, .null, []),
  (29, 17, .ifCond .ne 7, 1, 9999, .null, [18]),
  (32, 0, .iconst 1, 0, 0, .null, []),
  (33, 0, .goto 4, 0, 0, .null, [19]),
  (36, 0, .iconst 0, 0, 0, .null, []),
  (37, 0, .iconst 2, 0, 0, .null, []),
  (38, 4, .invokevirtual 305, 83, 0, .null, [11]),
  (41, 17, .ifCond .ne 17, 1, 9999, .null, [30]),
  (44, 0, .aload_n 0, 0, 0, .null, []),
  (45, 0, .aload_n 0, 0, 0, .null, []),
  (46, 0, .iload_n 1, 0, 0, .null, []),
  (47, 0, .iconst 2, 0, 0, .null, []),
  (48, 99, .invokevirtual 336, 0, 0, .null, []),
  (51, 0, .iconst 3, 0, 0, .null, []),
  (52, 4, .invokevirtual 305, 83, 0, .null, [11]),
  (55, 17, .ifCond .eq 5, 1, 9999, .null, [32]),
  (58, 0, .iconst 0, 0, 0, .null, []),
  (59, 16, .ireturn, 0, 0, .null, []),
  (60, 0, .aload_n 0, 0, 0, .null, []),
  (61, 0, .iload_n 1, 0, 0, .null, []),
  (62, 0, .bipush 9, 0, 0, .null, []),
  (64, 99, .invokevirtual 116, 0, 0, .null, []),
  (67, 0, .istore_n 3, 0, 0, .null, []),
  (68, 0, .aload_n 0, 0, 0, .null, []),
  (69, 0, .iload_n 1, 0, 0, .null, []),
  (70, 0, .bipush 9, 0, 0, .null, []),
  (72, 0, .iload_n 2, 0, 0, .null, []),
  (73, 0, .i2l, 0, 0, .null, []),
  (74, 99, .invokevirtual 173, 0, 0, .null, []),
  (77, 0, .iload_n 3, 0, 0, .null, []),
  (78, 16, .ireturn, 0, 0, .null, [])])
set_option maxRecDepth 100000 in
noncomputable def ri_m_L_out : ri_M := (⟨"StillLoopsLaw", "out", "(LStillLoops;II[J)I"⟩, method_14_code, 5, some .int, 4, [
  (0, 0, .aload_n 3, 0, 0, .null, []),
  (1, 0, .iconst 0, 0, 0, .null, []),
  (2, 0, .aload_n 0, 0, 0, .null, []),
  (3, 0, .iload_n 1, 0, 0, .null, []),
  (4, 0, .iload_n 2, 0, 0, .null, []),
  (5, 4, .invokevirtual 57, 98, 5, .null, [10, 12, 9999, 9, 9999, 15]),
  (8, 0, .i2l, 0, 0, .null, []),
  (9, 8, .lastore, 0, 0, .null, []),
  (10, 0, .goto 15, 0, 0, .null, [18]),
  (13, 0, .astore 4, 0, 0, .null, []),
  (15, 0, .iconst 1, 0, 0, .null, []),
  (16, 16, .ireturn, 0, 0, .null, []),
  (17, 0, .astore 4, 0, 0, .null, []),
  (19, 0, .iconst 2, 0, 0, .null, []),
  (20, 16, .ireturn, 0, 0, .null, []),
  (21, 0, .astore 4, 0, 0, .null, []),
  (23, 0, .iconst 3, 0, 0, .null, []),
  (24, 16, .ireturn, 0, 0, .null, []),
  (25, 0, .iconst 0, 0, 0, .null, []),
  (26, 16, .ireturn, 0, 0, .null, [])])
set_option maxRecDepth 100000 in
noncomputable def ri_m_X11_out : ri_M := (⟨"StillLoopsModel", "out", "(II)I"⟩, prog_13_method_78_code, 4, some .int, 2, [
  (0, 0, .aload_n 0, 0, 0, .null, []),
  (1, 0, .iconst 0, 0, 0, .null, []),
  (2, 2, .putfield 79, 11, 0, .null, []),
  (5, 0, .aload_n 0, 0, 0, .null, []),
  (6, 0, .aload_n 0, 0, 0, .null, []),
  (7, 0, .iload_n 1, 0, 0, .null, []),
  (8, 4, .invokevirtual 439, 85, 0, .null, [11]),
  (11, 0, .iconst 1, 0, 0, .null, []),
  (12, 4, .invokevirtual 305, 83, 0, .null, [11]),
  (15, 17, .ifCond .ne 58, 1, 9999, .null, [40]),
  (18, 0, .aload_n 0, 0, 0, .null, []),
  (19, 0, .iload_n 2, 0, 0, .null, []),
  (20, 0, .aload_n 0, 0, 0, .null, []),
  (21, 0, .iload_n 1, 0, 0, .null, []),
  (22, 0, .iconst 5, 0, 0, .null, []),
  (23, 99, .invokevirtual 116, 0, 0, .null, []),
  (26, 0, .aload_n 0, 0, 0, .null, []),
  (27, 0, .iload_n 1, 0, 0, .null, []),
  (28, 0, .bipush 6, 0, 0, .null, []),
  (30, 99, .invokevirtual 116, 0, 0, .null, []),
  (33, 4, .invokestatic 94, 86, 1, .null, []),
  (36, 17, .ifCond .ne 7, 1, 9999, .null, [24]),
  (39, 0, .iconst 1, 0, 0, .null, []),
  (40, 0, .goto 4, 0, 0, .null, [25]),
  (43, 0, .iconst 0, 0, 0, .null, []),
  (44, 0, .iconst 2, 0, 0, .null, []),
  (45, 4, .invokevirtual 305, 83, 0, .null, [11]),
  (48, 17, .ifCond .ne 25, 1, 9999, .null, [40]),
  (51, 0, .aload_n 0, 0, 0, .null, []),
  (52, 0, .aload_n 0, 0, 0, .null, []),
  (53, 0, .iload_n 1, 0, 0, .null, []),
  (54, 0, .iconst 0, 0, 0, .null, []),
  (55, 99, .invokevirtual 336, 0, 0, .null, []),
  (58, 17, .ifCond .ne 7, 1, 9999, .null, [36]),
  (61, 0, .iconst 1, 0, 0, .null, []),
  (62, 0, .goto 4, 0, 0, .null, [37]),
  (65, 0, .iconst 0, 0, 0, .null, []),
  (66, 0, .iconst 3, 0, 0, .null, []),
  (67, 4, .invokevirtual 305, 83, 0, .null, [11]),
  (70, 17, .ifCond .eq 5, 1, 9999, .null, [42]),
  (73, 0, .iconst 0, 0, 0, .null, []),
  (74, 16, .ireturn, 0, 0, .null, []),
  (75, 0, .aload_n 0, 0, 0, .null, []),
  (76, 0, .iload_n 1, 0, 0, .null, []),
  (77, 0, .bipush 11, 0, 0, .null, []),
  (79, 99, .invokevirtual 116, 0, 0, .null, []),
  (82, 0, .istore_n 3, 0, 0, .null, []),
  (83, 0, .aload_n 0, 0, 0, .null, []),
  (84, 0, .iload_n 1, 0, 0, .null, []),
  (85, 0, .bipush 11, 0, 0, .null, []),
  (87, 0, .iload_n 2, 0, 0, .null, []),
  (88, 0, .i2l, 0, 0, .null, []),
  (89, 99, .invokevirtual 173, 0, 0, .null, []),
  (92, 0, .aload_n 0, 0, 0, .null, []),
  (93, 0, .iload_n 1, 0, 0, .null, []),
  (94, 0, .aload_n 0, 0, 0, .null, []),
  (95, 0, .iload_n 1, 0, 0, .null, []),
  (96, 99, .invokevirtual 345, 0, 0, .null, []),
  (99, 99, .invokevirtual 348, 0, 0, .null, []),
  (102, 0, .iload_n 3, 0, 0, .null, []),
  (103, 16, .ireturn, 0, 0, .null, [])])
set_option maxRecDepth 100000 in
noncomputable def ri_m_L_gains : ri_M := (⟨"StillLoopsLaw", "gains", "(LStillLoops;IIII[J)I"⟩, method_15_code, 7, some .int, 6, [
  (0, 0, .aload 5, 0, 0, .null, []),
  (2, 0, .iconst 0, 0, 0, .null, []),
  (3, 0, .aload_n 0, 0, 0, .null, []),
  (4, 0, .iload_n 1, 0, 0, .null, []),
  (5, 0, .iload_n 2, 0, 0, .null, []),
  (6, 0, .iload_n 3, 0, 0, .null, []),
  (7, 0, .iload 4, 0, 0, .null, []),
  (9, 4, .invokevirtual 60, 99, 5, .null, [10, 14, 9999, 11, 9999, 9999]),
  (12, 0, .i2l, 0, 0, .null, []),
  (13, 8, .lastore, 0, 0, .null, []),
  (14, 0, .goto 11, 0, 0, .null, [17]),
  (17, 0, .astore 6, 0, 0, .null, []),
  (19, 0, .iconst 1, 0, 0, .null, []),
  (20, 16, .ireturn, 0, 0, .null, []),
  (21, 0, .astore 6, 0, 0, .null, []),
  (23, 0, .iconst 2, 0, 0, .null, []),
  (24, 16, .ireturn, 0, 0, .null, []),
  (25, 0, .iconst 0, 0, 0, .null, []),
  (26, 16, .ireturn, 0, 0, .null, [])])
set_option maxRecDepth 100000 in
noncomputable def ri_m_X11_gains : ri_M := (⟨"StillLoopsModel", "gains", "(IIII)I"⟩, prog_13_method_80_code, 5, some .int, 4, [
  (0, 0, .aload_n 0, 0, 0, .null, []),
  (1, 0, .iconst 0, 0, 0, .null, []),
  (2, 2, .putfield 79, 11, 0, .null, []),
  (5, 0, .aload_n 0, 0, 0, .null, []),
  (6, 0, .aload_n 0, 0, 0, .null, []),
  (7, 0, .iload_n 1, 0, 0, .null, []),
  (8, 4, .invokevirtual 439, 85, 0, .null, [11]),
  (11, 0, .iconst 1, 0, 0, .null, []),
  (12, 4, .invokevirtual 305, 83, 0, .null, [11]),
  (15, 17, .ifCond .ne 50, 1, 9999, .null, [32]),
  (18, 0, .aload_n 0, 0, 0, .null, []),
  (19, 0, .iload_n 2, 0, 0, .null, []),
  (20, 0, .iconst 0, 0, 0, .null, []),
  (21, 0, .sipush 9999, 0, 0, .null, []),
  (24, 4, .invokestatic 94, 86, 1, .null, []),
  (27, 17, .ifCond .eq 26, 1, 9999, .null, [26]),
  (30, 0, .iload_n 3, 0, 0, .null, []),
  (31, 0, .iconst 0, 0, 0, .null, []),
  (32, 0, .sipush 9999, 0, 0, .null, []),
  (35, 4, .invokestatic 94, 86, 1, .null, []),
  (38, 17, .ifCond .eq 15, 1, 9999, .null, [26]),
  (41, 0, .iload 4, 0, 0, .null, []),
  (43, 0, .iconst 0, 0, 0, .null, []),
  (44, 0, .sipush 9999, 0, 0, .null, []),
  (47, 4, .invokestatic 94, 86, 1, .null, []),
  (50, 17, .ifCond .ne 7, 1, 9999, .null, [28]),
  (53, 0, .iconst 1, 0, 0, .null, []),
  (54, 0, .goto 4, 0, 0, .null, [29]),
  (57, 0, .iconst 0, 0, 0, .null, []),
  (58, 0, .iconst 2, 0, 0, .null, []),
  (59, 4, .invokevirtual 305, 83, 0, .null, [11]),
  (62, 17, .ifCond .eq 5, 1, 9999, .null, [34]),
  (65, 0, .iconst 0, 0, 0, .null, []),
  (66, 16, .ireturn, 0, 0, .null, []),
  (67, 0, .aload_n 0, 0, 0, .null, []),
  (68, 0, .iload_n 1, 0, 0, .null, []),
  (69, 0, .iload_n 2, 0, 0, .null, []),
  (70, 0, .i2l, 0, 0, .null, []),
  (71, 0, .iload_n 3, 0, 0, .null, []),
  (72, 0, .i2l, 0, 0, .null, []),
  (73, 0, .iload 4, 0, 0, .null, []),
  (75, 0, .i2l, 0, 0, .null, []),
  (76, 99, .invokevirtual 446, 0, 0, .null, []),
  (79, 0, .aload_n 0, 0, 0, .null, []),
  (80, 0, .iload_n 1, 0, 0, .null, []),
  (81, 0, .bipush 13, 0, 0, .null, []),
  (83, 99, .invokevirtual 116, 0, 0, .null, []),
  (86, 16, .ireturn, 0, 0, .null, [])])
set_option maxRecDepth 100000 in
noncomputable def ri_m_L_load : ri_M := (⟨"StillLoopsLaw", "load", "(LStillLoops;II[J)I"⟩, method_16_code, 5, some .int, 4, [
  (0, 0, .aload_n 3, 0, 0, .null, []),
  (1, 0, .iconst 0, 0, 0, .null, []),
  (2, 0, .aload_n 0, 0, 0, .null, []),
  (3, 0, .iload_n 1, 0, 0, .null, []),
  (4, 0, .iload_n 2, 0, 0, .null, []),
  (5, 4, .invokevirtual 64, 100, 5, .null, [10, 12, 9999, 9, 9999, 9999]),
  (8, 0, .i2l, 0, 0, .null, []),
  (9, 8, .lastore, 0, 0, .null, []),
  (10, 0, .goto 11, 0, 0, .null, [15]),
  (13, 0, .astore 4, 0, 0, .null, []),
  (15, 0, .iconst 1, 0, 0, .null, []),
  (16, 16, .ireturn, 0, 0, .null, []),
  (17, 0, .astore 4, 0, 0, .null, []),
  (19, 0, .iconst 2, 0, 0, .null, []),
  (20, 16, .ireturn, 0, 0, .null, []),
  (21, 0, .iconst 0, 0, 0, .null, []),
  (22, 16, .ireturn, 0, 0, .null, [])])
set_option maxRecDepth 100000 in
noncomputable def ri_m_X11_load : ri_M := (⟨"StillLoopsModel", "load", "(II)I"⟩, prog_13_method_81_code, 4, some .int, 2, [
  (0, 0, .aload_n 0, 0, 0, .null, []),
  (1, 0, .iconst 0, 0, 0, .null, []),
  (2, 2, .putfield 79, 11, 0, .null, []),
  (5, 0, .aload_n 0, 0, 0, .null, []),
  (6, 0, .aload_n 0, 0, 0, .null, []),
  (7, 0, .iload_n 1, 0, 0, .null, []),
  (8, 4, .invokevirtual 439, 85, 0, .null, [11]),
  (11, 0, .iconst 1, 0, 0, .null, []),
  (12, 4, .invokevirtual 305, 83, 0, .null, [11]),
  (15, 17, .ifCond .ne 29, 1, 9999, .null, [22]),
  (18, 0, .aload_n 0, 0, 0, .null, []),
  (19, 0, .iload_n 2, 0, 0, .null, []),
  (20, 0, .sipush (-999), 0, 0, .null, []),
  (23, 0, .sipush 999, 0, 0, .null, []),
  (26, 4, .invokestatic 94, 86, 1, .null, []),
  (29, 17, .ifCond .ne 7, 1, 9999, .null, [18]),
  (32, 0, .iconst 1, 0, 0, .null, []),
  (33, 0, .goto 4, 0, 0, .null, [19]),
  (36, 0, .iconst 0, 0, 0, .null, []),
  (37, 0, .iconst 2, 0, 0, .null, []),
  (38, 4, .invokevirtual 305, 83, 0, .null, [11]),
  (41, 17, .ifCond .eq 5, 1, 9999, .null, [24]),
  (44, 0, .iconst 0, 0, 0, .null, []),
  (45, 16, .ireturn, 0, 0, .null, []),
  (46, 0, .aload_n 0, 0, 0, .null, []),
  (47, 0, .iload_n 1, 0, 0, .null, []),
  (48, 0, .iconst 4, 0, 0, .null, []),
  (49, 99, .invokevirtual 116, 0, 0, .null, []),
  (52, 0, .istore_n 3, 0, 0, .null, []),
  (53, 0, .aload_n 0, 0, 0, .null, []),
  (54, 0, .iload_n 1, 0, 0, .null, []),
  (55, 0, .iconst 4, 0, 0, .null, []),
  (56, 0, .iload_n 2, 0, 0, .null, []),
  (57, 0, .i2l, 0, 0, .null, []),
  (58, 99, .invokevirtual 173, 0, 0, .null, []),
  (61, 0, .iload_n 3, 0, 0, .null, []),
  (62, 16, .ireturn, 0, 0, .null, [])])
set_option maxRecDepth 100000 in
noncomputable def ri_m_L_lose : ri_M := (⟨"StillLoopsLaw", "lose", "(LStillLoops;IZ[J)I"⟩, method_17_code, 5, some .int, 4, [
  (0, 0, .aload_n 3, 0, 0, .null, []),
  (1, 0, .iconst 0, 0, 0, .null, []),
  (2, 0, .aload_n 0, 0, 0, .null, []),
  (3, 0, .iload_n 1, 0, 0, .null, []),
  (4, 0, .iload_n 2, 0, 0, .null, []),
  (5, 4, .invokevirtual 67, 101, 5, .null, [10, 9999, 9999, 12, 9999, 9999]),
  (8, 17, .ifCond .eq 7, 1, 9999, .null, [9]),
  (11, 0, .lconst 1, 0, 0, .null, []),
  (12, 0, .goto 4, 0, 0, .null, [10]),
  (15, 0, .lconst 0, 0, 0, .null, []),
  (16, 8, .lastore, 0, 0, .null, []),
  (17, 0, .goto 7, 0, 0, .null, [15]),
  (20, 0, .astore 4, 0, 0, .null, []),
  (22, 0, .iconst 1, 0, 0, .null, []),
  (23, 16, .ireturn, 0, 0, .null, []),
  (24, 0, .iconst 0, 0, 0, .null, []),
  (25, 16, .ireturn, 0, 0, .null, [])])
set_option maxRecDepth 100000 in
noncomputable def ri_m_X11_lose : ri_M := (⟨"StillLoopsModel", "lose", "(IZ)Z"⟩, prog_13_method_82_code, 4, some .boolean, 2, [
  (0, 0, .aload_n 0, 0, 0, .null, []),
  (1, 0, .iconst 0, 0, 0, .null, []),
  (2, 2, .putfield 79, 11, 0, .null, []),
  (5, 0, .aload_n 0, 0, 0, .null, []),
  (6, 0, .aload_n 0, 0, 0, .null, []),
  (7, 0, .iload_n 1, 0, 0, .null, []),
  (8, 4, .invokevirtual 439, 85, 0, .null, [11]),
  (11, 0, .iconst 1, 0, 0, .null, []),
  (12, 4, .invokevirtual 305, 83, 0, .null, [11]),
  (15, 17, .ifCond .eq 5, 1, 9999, .null, [12]),
  (18, 0, .iconst 0, 0, 0, .null, []),
  (19, 16, .ireturn, 0, 0, .null, []),
  (20, 0, .aload_n 0, 0, 0, .null, []),
  (21, 0, .iload_n 1, 0, 0, .null, []),
  (22, 0, .bipush 17, 0, 0, .null, []),
  (24, 99, .invokevirtual 98, 0, 0, .null, []),
  (27, 0, .lconst 1, 0, 0, .null, []),
  (28, 0, .lcmp, 0, 0, .null, []),
  (29, 17, .ifCond .ne 7, 1, 9999, .null, [21]),
  (32, 0, .iconst 1, 0, 0, .null, []),
  (33, 0, .goto 4, 0, 0, .null, [22]),
  (36, 0, .iconst 0, 0, 0, .null, []),
  (37, 0, .istore_n 3, 0, 0, .null, []),
  (38, 0, .aload_n 0, 0, 0, .null, []),
  (39, 0, .iload_n 1, 0, 0, .null, []),
  (40, 0, .bipush 17, 0, 0, .null, []),
  (42, 0, .iload_n 2, 0, 0, .null, []),
  (43, 17, .ifCond .eq 7, 1, 9999, .null, [30]),
  (46, 0, .lconst 1, 0, 0, .null, []),
  (47, 0, .goto 4, 0, 0, .null, [31]),
  (50, 0, .lconst 0, 0, 0, .null, []),
  (51, 99, .invokevirtual 173, 0, 0, .null, []),
  (54, 0, .iload_n 3, 0, 0, .null, []),
  (55, 0, .iload_n 2, 0, 0, .null, []),
  (56, 17, .if_icmp .eq 7, 2, 9999, .null, [37]),
  (59, 0, .iconst 1, 0, 0, .null, []),
  (60, 0, .goto 4, 0, 0, .null, [38]),
  (63, 0, .iconst 0, 0, 0, .null, []),
  (64, 16, .ireturn, 0, 0, .null, [])])
set_option maxRecDepth 100000 in
noncomputable def ri_m_L_relay : ri_M := (⟨"StillLoopsLaw", "relay", "(LStillLoops;III[J)I"⟩, method_18_code, 6, some .int, 5, [
  (0, 0, .aload 4, 0, 0, .null, []),
  (2, 0, .iconst 0, 0, 0, .null, []),
  (3, 0, .aload_n 0, 0, 0, .null, []),
  (4, 0, .iload_n 1, 0, 0, .null, []),
  (5, 0, .iload_n 2, 0, 0, .null, []),
  (6, 0, .iload_n 3, 0, 0, .null, []),
  (7, 4, .invokevirtual 71, 102, 5, .null, [10, 13, 9999, 10, 9999, 16]),
  (10, 0, .i2l, 0, 0, .null, []),
  (11, 8, .lastore, 0, 0, .null, []),
  (12, 0, .goto 15, 0, 0, .null, [19]),
  (15, 0, .astore 5, 0, 0, .null, []),
  (17, 0, .iconst 1, 0, 0, .null, []),
  (18, 16, .ireturn, 0, 0, .null, []),
  (19, 0, .astore 5, 0, 0, .null, []),
  (21, 0, .iconst 2, 0, 0, .null, []),
  (22, 16, .ireturn, 0, 0, .null, []),
  (23, 0, .astore 5, 0, 0, .null, []),
  (25, 0, .iconst 3, 0, 0, .null, []),
  (26, 16, .ireturn, 0, 0, .null, []),
  (27, 0, .iconst 0, 0, 0, .null, []),
  (28, 16, .ireturn, 0, 0, .null, [])])
set_option maxRecDepth 100000 in
noncomputable def ri_m_X11_relay : ri_M := (⟨"StillLoopsModel", "relay", "(III)I"⟩, prog_13_method_83_code, 6, some .int, 3, [
  (0, 0, .aload_n 0, 0, 0, .null, []),
  (1, 0, .iconst 0, 0, 0, .null, []),
  (2, 2, .putfield 79, 11, 0, .null, []),
  (5, 0, .aload_n 0, 0, 0, .null, []),
  (6, 0, .aload_n 0, 0, 0, .null, []),
  (7, 0, .iload_n 1, 0, 0, .null, []),
  (8, 4, .invokevirtual 439, 85, 0, .null, [11]),
  (11, 0, .iconst 1, 0, 0, .null, []),
  (12, 4, .invokevirtual 305, 83, 0, .null, [11]),
  (15, 17, .ifCond .ne 37, 1, 9999, .null, [27]),
  (18, 0, .aload_n 0, 0, 0, .null, []),
  (19, 0, .iload_n 2, 0, 0, .null, []),
  (20, 0, .iconst 1, 0, 0, .null, []),
  (21, 0, .sipush 999, 0, 0, .null, []),
  (24, 4, .invokestatic 94, 86, 1, .null, []),
  (27, 17, .ifCond .eq 13, 1, 9999, .null, [21]),
  (30, 0, .iload_n 3, 0, 0, .null, []),
  (31, 0, .iconst 0, 0, 0, .null, []),
  (32, 0, .bipush 99, 0, 0, .null, []),
  (34, 4, .invokestatic 94, 86, 1, .null, []),
  (37, 17, .ifCond .ne 7, 1, 9999, .null, [23]),
  (40, 0, .iconst 1, 0, 0, .null, []),
  (41, 0, .goto 4, 0, 0, .null, [24]),
  (44, 0, .iconst 0, 0, 0, .null, []),
  (45, 0, .iconst 2, 0, 0, .null, []),
  (46, 4, .invokevirtual 305, 83, 0, .null, [11]),
  (49, 17, .ifCond .eq 5, 1, 9999, .null, [29]),
  (52, 0, .iconst 0, 0, 0, .null, []),
  (53, 16, .ireturn, 0, 0, .null, []),
  (54, 0, .aload_n 0, 0, 0, .null, []),
  (55, 0, .iload_n 1, 0, 0, .null, []),
  (56, 0, .bipush 11, 0, 0, .null, []),
  (58, 99, .invokevirtual 98, 0, 0, .null, []),
  (61, 0, .lstore 4, 0, 0, .null, []),
  (63, 0, .aload_n 0, 0, 0, .null, []),
  (64, 0, .aload_n 0, 0, 0, .null, []),
  (65, 0, .iload_n 1, 0, 0, .null, []),
  (66, 0, .iconst 0, 0, 0, .null, []),
  (67, 99, .invokevirtual 336, 0, 0, .null, []),
  (70, 17, .ifCond .eq 34, 1, 9999, .null, [60]),
  (73, 0, .lload 4, 0, 0, .null, []),
  (75, 0, .iload_n 2, 0, 0, .null, []),
  (76, 0, .i2l, 0, 0, .null, []),
  (77, 0, .lsub, 0, 0, .null, []),
  (78, 0, .aload_n 0, 0, 0, .null, []),
  (79, 0, .iload_n 1, 0, 0, .null, []),
  (80, 0, .iconst 5, 0, 0, .null, []),
  (81, 99, .invokevirtual 98, 0, 0, .null, []),
  (84, 0, .lcmp, 0, 0, .null, []),
  (85, 17, .ifCond .lt 19, 1, 9999, .null, [60]),
  (88, 0, .lload 4, 0, 0, .null, []),
  (90, 0, .iload_n 2, 0, 0, .null, []),
  (91, 0, .i2l, 0, 0, .null, []),
  (92, 0, .ladd, 0, 0, .null, []),
  (93, 0, .aload_n 0, 0, 0, .null, []),
  (94, 0, .iload_n 1, 0, 0, .null, []),
  (95, 0, .bipush 6, 0, 0, .null, []),
  (97, 99, .invokevirtual 98, 0, 0, .null, []),
  (100, 0, .lcmp, 0, 0, .null, []),
  (101, 17, .ifCond .le 7, 1, 9999, .null, [62]),
  (104, 0, .iconst 1, 0, 0, .null, []),
  (105, 0, .goto 4, 0, 0, .null, [63]),
  (108, 0, .iconst 0, 0, 0, .null, []),
  (109, 0, .iconst 3, 0, 0, .null, []),
  (110, 4, .invokevirtual 305, 83, 0, .null, [11]),
  (113, 17, .ifCond .eq 5, 1, 9999, .null, [68]),
  (116, 0, .iconst 0, 0, 0, .null, []),
  (117, 16, .ireturn, 0, 0, .null, []),
  (118, 0, .aload_n 0, 0, 0, .null, []),
  (119, 0, .iload_n 1, 0, 0, .null, []),
  (120, 0, .bipush 8, 0, 0, .null, []),
  (122, 3, .ldc2_w 450, 0, 0, .long 3, []),
  (125, 99, .invokevirtual 173, 0, 0, .null, []),
  (128, 0, .aload_n 0, 0, 0, .null, []),
  (129, 0, .iload_n 1, 0, 0, .null, []),
  (130, 0, .bipush 18, 0, 0, .null, []),
  (132, 3, .ldc2_w 208, 0, 0, .long (-1), []),
  (135, 99, .invokevirtual 173, 0, 0, .null, []),
  (138, 0, .aload_n 0, 0, 0, .null, []),
  (139, 0, .iload_n 1, 0, 0, .null, []),
  (140, 0, .bipush 19, 0, 0, .null, []),
  (142, 3, .ldc2_w 208, 0, 0, .long (-1), []),
  (145, 99, .invokevirtual 173, 0, 0, .null, []),
  (148, 0, .aload_n 0, 0, 0, .null, []),
  (149, 0, .iload_n 1, 0, 0, .null, []),
  (150, 0, .bipush 66, 0, 0, .null, []),
  (152, 0, .lload 4, 0, 0, .null, []),
  (154, 99, .invokevirtual 173, 0, 0, .null, []),
  (157, 0, .aload_n 0, 0, 0, .null, []),
  (158, 0, .iload_n 1, 0, 0, .null, []),
  (159, 0, .bipush 73, 0, 0, .null, []),
  (161, 0, .iload_n 2, 0, 0, .null, []),
  (162, 0, .i2l, 0, 0, .null, []),
  (163, 99, .invokevirtual 173, 0, 0, .null, []),
  (166, 0, .aload_n 0, 0, 0, .null, []),
  (167, 0, .iload_n 1, 0, 0, .null, []),
  (168, 0, .bipush 74, 0, 0, .null, []),
  (170, 0, .iload_n 3, 0, 0, .null, []),
  (171, 0, .i2l, 0, 0, .null, []),
  (172, 99, .invokevirtual 173, 0, 0, .null, []),
  (175, 0, .aload_n 0, 0, 0, .null, []),
  (176, 0, .iload_n 1, 0, 0, .null, []),
  (177, 0, .bipush 67, 0, 0, .null, []),
  (179, 0, .aload_n 0, 0, 0, .null, []),
  (180, 0, .iload_n 1, 0, 0, .null, []),
  (181, 0, .bipush 9, 0, 0, .null, []),
  (183, 99, .invokevirtual 98, 0, 0, .null, []),
  (186, 0, .aload_n 0, 0, 0, .null, []),
  (187, 0, .iload_n 1, 0, 0, .null, []),
  (188, 99, .invokevirtual 345, 0, 0, .null, []),
  (191, 0, .lcmp, 0, 0, .null, []),
  (192, 17, .ifCond .lt 7, 1, 9999, .null, [114]),
  (195, 0, .lconst 1, 0, 0, .null, []),
  (196, 0, .goto 6, 0, 0, .null, [115]),
  (199, 3, .ldc2_w 208, 0, 0, .long (-1), []),
  (202, 99, .invokevirtual 173, 0, 0, .null, []),
  (205, 0, .aload_n 0, 0, 0, .null, []),
  (206, 0, .iload_n 1, 0, 0, .null, []),
  (207, 0, .bipush 68, 0, 0, .null, []),
  (209, 0, .lconst 0, 0, 0, .null, []),
  (210, 99, .invokevirtual 173, 0, 0, .null, []),
  (213, 0, .aload_n 0, 0, 0, .null, []),
  (214, 0, .iload_n 1, 0, 0, .null, []),
  (215, 0, .bipush 69, 0, 0, .null, []),
  (217, 0, .lconst 0, 0, 0, .null, []),
  (218, 99, .invokevirtual 173, 0, 0, .null, []),
  (221, 0, .aload_n 0, 0, 0, .null, []),
  (222, 0, .iload_n 1, 0, 0, .null, []),
  (223, 0, .bipush 70, 0, 0, .null, []),
  (225, 0, .lconst 0, 0, 0, .null, []),
  (226, 99, .invokevirtual 173, 0, 0, .null, []),
  (229, 0, .aload_n 0, 0, 0, .null, []),
  (230, 0, .iload_n 1, 0, 0, .null, []),
  (231, 0, .bipush 71, 0, 0, .null, []),
  (233, 0, .aload_n 0, 0, 0, .null, []),
  (234, 0, .iload_n 1, 0, 0, .null, []),
  (235, 0, .bipush 47, 0, 0, .null, []),
  (237, 99, .invokevirtual 98, 0, 0, .null, []),
  (240, 99, .invokevirtual 173, 0, 0, .null, []),
  (243, 0, .aload_n 0, 0, 0, .null, []),
  (244, 0, .iload_n 1, 0, 0, .null, []),
  (245, 0, .bipush 72, 0, 0, .null, []),
  (247, 0, .aload_n 0, 0, 0, .null, []),
  (248, 0, .iload_n 1, 0, 0, .null, []),
  (249, 0, .bipush 47, 0, 0, .null, []),
  (251, 99, .invokevirtual 98, 0, 0, .null, []),
  (254, 99, .invokevirtual 173, 0, 0, .null, []),
  (257, 0, .aload_n 0, 0, 0, .null, []),
  (258, 0, .iload_n 1, 0, 0, .null, []),
  (259, 0, .bipush 67, 0, 0, .null, []),
  (261, 99, .invokevirtual 116, 0, 0, .null, []),
  (264, 16, .ireturn, 0, 0, .null, [])])
set_option maxRecDepth 100000 in
noncomputable def ri_m_L_tune : ri_M := (⟨"StillLoopsLaw", "tune", "(LStillLoops;II[J)I"⟩, method_19_code, 5, some .int, 4, [
  (0, 0, .aload_n 3, 0, 0, .null, []),
  (1, 0, .iconst 0, 0, 0, .null, []),
  (2, 0, .aload_n 0, 0, 0, .null, []),
  (3, 0, .iload_n 1, 0, 0, .null, []),
  (4, 0, .iload_n 2, 0, 0, .null, []),
  (5, 4, .invokevirtual 74, 103, 5, .null, [10, 12, 9999, 9, 9999, 15]),
  (8, 0, .i2l, 0, 0, .null, []),
  (9, 8, .lastore, 0, 0, .null, []),
  (10, 0, .goto 15, 0, 0, .null, [18]),
  (13, 0, .astore 4, 0, 0, .null, []),
  (15, 0, .iconst 1, 0, 0, .null, []),
  (16, 16, .ireturn, 0, 0, .null, []),
  (17, 0, .astore 4, 0, 0, .null, []),
  (19, 0, .iconst 2, 0, 0, .null, []),
  (20, 16, .ireturn, 0, 0, .null, []),
  (21, 0, .astore 4, 0, 0, .null, []),
  (23, 0, .iconst 3, 0, 0, .null, []),
  (24, 16, .ireturn, 0, 0, .null, []),
  (25, 0, .iconst 0, 0, 0, .null, []),
  (26, 16, .ireturn, 0, 0, .null, [])])
set_option maxRecDepth 100000 in
noncomputable def ri_m_X11_tune : ri_M := (⟨"StillLoopsModel", "tune", "(II)I"⟩, prog_13_method_84_code, 13, some .int, 2, [
  (0, 0, .aload_n 0, 0, 0, .null, []),
  (1, 0, .iconst 0, 0, 0, .null, []),
  (2, 2, .putfield 79, 11, 0, .null, []),
  (5, 0, .aload_n 0, 0, 0, .null, []),
  (6, 0, .aload_n 0, 0, 0, .null, []),
  (7, 0, .iload_n 1, 0, 0, .null, []),
  (8, 4, .invokevirtual 439, 85, 0, .null, [11]),
  (11, 0, .iconst 1, 0, 0, .null, []),
  (12, 4, .invokevirtual 305, 83, 0, .null, [11]),
  (15, 17, .ifCond .ne 52, 1, 9999, .null, [36]),
  (18, 0, .aload_n 0, 0, 0, .null, []),
  (19, 0, .iload_n 2, 0, 0, .null, []),
  (20, 0, .iconst 0, 0, 0, .null, []),
  (21, 0, .iconst 2, 0, 0, .null, []),
  (22, 4, .invokestatic 94, 86, 1, .null, []),
  (25, 17, .ifCond .ne 7, 1, 9999, .null, [18]),
  (28, 0, .iconst 1, 0, 0, .null, []),
  (29, 0, .goto 4, 0, 0, .null, [19]),
  (32, 0, .iconst 0, 0, 0, .null, []),
  (33, 0, .iconst 2, 0, 0, .null, []),
  (34, 4, .invokevirtual 305, 83, 0, .null, [11]),
  (37, 17, .ifCond .ne 30, 1, 9999, .null, [36]),
  (40, 0, .aload_n 0, 0, 0, .null, []),
  (41, 0, .aload_n 0, 0, 0, .null, []),
  (42, 0, .iload_n 1, 0, 0, .null, []),
  (43, 0, .bipush 18, 0, 0, .null, []),
  (45, 99, .invokevirtual 98, 0, 0, .null, []),
  (48, 3, .ldc2_w 208, 0, 0, .long (-1), []),
  (51, 0, .lcmp, 0, 0, .null, []),
  (52, 17, .ifCond .ne 7, 1, 9999, .null, [32]),
  (55, 0, .iconst 1, 0, 0, .null, []),
  (56, 0, .goto 4, 0, 0, .null, [33]),
  (59, 0, .iconst 0, 0, 0, .null, []),
  (60, 0, .iconst 3, 0, 0, .null, []),
  (61, 4, .invokevirtual 305, 83, 0, .null, [11]),
  (64, 17, .ifCond .eq 5, 1, 9999, .null, [38]),
  (67, 0, .iconst 0, 0, 0, .null, []),
  (68, 16, .ireturn, 0, 0, .null, []),
  (69, 0, .aload_n 0, 0, 0, .null, []),
  (70, 0, .iload_n 1, 0, 0, .null, []),
  (71, 0, .bipush 18, 0, 0, .null, []),
  (73, 99, .invokevirtual 98, 0, 0, .null, []),
  (76, 0, .lstore_n 3, 0, 0, .null, []),
  (77, 0, .aload_n 0, 0, 0, .null, []),
  (78, 0, .iload_n 1, 0, 0, .null, []),
  (79, 0, .bipush 19, 0, 0, .null, []),
  (81, 99, .invokevirtual 98, 0, 0, .null, []),
  (84, 0, .lstore 5, 0, 0, .null, []),
  (86, 0, .iload_n 2, 0, 0, .null, []),
  (87, 17, .ifCond .ne 15, 1, 9999, .null, [56]),
  (90, 3, .ldc2_w 450, 0, 0, .long 3, []),
  (93, 0, .lload_n 3, 0, 0, .null, []),
  (94, 0, .lmul, 0, 0, .null, []),
  (95, 3, .ldc2_w 452, 0, 0, .long 5, []),
  (98, 0, .ldiv, 0, 0, .null, []),
  (99, 0, .goto 25, 0, 0, .null, [68]),
  (102, 0, .iload_n 2, 0, 0, .null, []),
  (103, 0, .iconst 1, 0, 0, .null, []),
  (104, 17, .if_icmp .ne 15, 2, 9999, .null, [65]),
  (107, 3, .ldc2_w 454, 0, 0, .long 9, []),
  (110, 0, .lload_n 3, 0, 0, .null, []),
  (111, 0, .lmul, 0, 0, .null, []),
  (112, 3, .ldc2_w 456, 0, 0, .long 20, []),
  (115, 0, .ldiv, 0, 0, .null, []),
  (116, 0, .goto 8, 0, 0, .null, [68]),
  (119, 0, .lload_n 3, 0, 0, .null, []),
  (120, 3, .ldc2_w 450, 0, 0, .long 3, []),
  (123, 0, .ldiv, 0, 0, .null, []),
  (124, 0, .lstore 7, 0, 0, .null, []),
  (126, 0, .iload_n 2, 0, 0, .null, []),
  (127, 0, .iconst 1, 0, 0, .null, []),
  (128, 17, .if_icmp .ne 19, 2, 9999, .null, [80]),
  (131, 3, .ldc2_w 458, 0, 0, .long 1536, []),
  (134, 0, .lload 7, 0, 0, .null, []),
  (136, 0, .lmul, 0, 0, .null, []),
  (137, 3, .ldc2_w 452, 0, 0, .long 5, []),
  (140, 0, .lload 5, 0, 0, .null, []),
  (142, 0, .lmul, 0, 0, .null, []),
  (143, 0, .ldiv, 0, 0, .null, []),
  (144, 0, .goto 12, 0, 0, .null, [85]),
  (147, 3, .ldc2_w 460, 0, 0, .long 512, []),
  (150, 0, .lload 7, 0, 0, .null, []),
  (152, 0, .lmul, 0, 0, .null, []),
  (153, 0, .lload 5, 0, 0, .null, []),
  (155, 0, .ldiv, 0, 0, .null, []),
  (156, 0, .lstore 9, 0, 0, .null, []),
  (158, 0, .iload_n 2, 0, 0, .null, []),
  (159, 17, .ifCond .ne 15, 1, 9999, .null, [94]),
  (162, 0, .lload 7, 0, 0, .null, []),
  (164, 0, .lload 5, 0, 0, .null, []),
  (166, 0, .lmul, 0, 0, .null, []),
  (167, 3, .ldc2_w 111, 0, 0, .long 8, []),
  (170, 0, .ldiv, 0, 0, .null, []),
  (171, 0, .goto 21, 0, 0, .null, [104]),
  (174, 0, .iload_n 2, 0, 0, .null, []),
  (175, 0, .iconst 1, 0, 0, .null, []),
  (176, 17, .if_icmp .ne 7, 2, 9999, .null, [99]),
  (179, 0, .lconst 0, 0, 0, .null, []),
  (180, 0, .goto 12, 0, 0, .null, [104]),
  (183, 0, .lload 7, 0, 0, .null, []),
  (185, 0, .lload 5, 0, 0, .null, []),
  (187, 0, .lmul, 0, 0, .null, []),
  (188, 3, .ldc2_w 450, 0, 0, .long 3, []),
  (191, 0, .ldiv, 0, 0, .null, []),
  (192, 0, .lstore 11, 0, 0, .null, []),
  (194, 0, .aload_n 0, 0, 0, .null, []),
  (195, 0, .iload_n 1, 0, 0, .null, []),
  (196, 3, .ldc2_w 377, 0, 0, .long 9999, []),
  (199, 0, .lload 7, 0, 0, .null, []),
  (201, 99, .invokestatic 102, 0, 0, .null, []),
  (204, 3, .ldc2_w 377, 0, 0, .long 9999, []),
  (207, 0, .lload 9, 0, 0, .null, []),
  (209, 99, .invokestatic 102, 0, 0, .null, []),
  (212, 3, .ldc2_w 377, 0, 0, .long 9999, []),
  (215, 0, .lload 11, 0, 0, .null, []),
  (217, 99, .invokestatic 102, 0, 0, .null, []),
  (220, 99, .invokevirtual 446, 0, 0, .null, []),
  (223, 3, .ldc2_w 377, 0, 0, .long 9999, []),
  (226, 0, .lload 7, 0, 0, .null, []),
  (228, 99, .invokestatic 102, 0, 0, .null, []),
  (231, 0, .l2i, 0, 0, .null, []),
  (232, 16, .ireturn, 0, 0, .null, [])])
set_option maxRecDepth 100000 in
noncomputable def ri_m_L_bump : ri_M := (⟨"StillLoopsLaw", "bump", "(LStillLoops;II[J)I"⟩, method_20_code, 5, some .int, 4, [
  (0, 0, .aload_n 3, 0, 0, .null, []),
  (1, 0, .iconst 0, 0, 0, .null, []),
  (2, 0, .aload_n 0, 0, 0, .null, []),
  (3, 0, .iload_n 1, 0, 0, .null, []),
  (4, 0, .iload_n 2, 0, 0, .null, []),
  (5, 4, .invokevirtual 77, 104, 5, .null, [10, 12, 9999, 9, 9999, 15]),
  (8, 0, .i2l, 0, 0, .null, []),
  (9, 8, .lastore, 0, 0, .null, []),
  (10, 0, .goto 15, 0, 0, .null, [18]),
  (13, 0, .astore 4, 0, 0, .null, []),
  (15, 0, .iconst 1, 0, 0, .null, []),
  (16, 16, .ireturn, 0, 0, .null, []),
  (17, 0, .astore 4, 0, 0, .null, []),
  (19, 0, .iconst 2, 0, 0, .null, []),
  (20, 16, .ireturn, 0, 0, .null, []),
  (21, 0, .astore 4, 0, 0, .null, []),
  (23, 0, .iconst 3, 0, 0, .null, []),
  (24, 16, .ireturn, 0, 0, .null, []),
  (25, 0, .iconst 0, 0, 0, .null, []),
  (26, 16, .ireturn, 0, 0, .null, [])])
set_option maxRecDepth 100000 in
noncomputable def ri_m_X11_bump : ri_M := (⟨"StillLoopsModel", "bump", "(II)I"⟩, prog_13_method_93_code, 6, some .int, 2, [
  (0, 0, .aload_n 0, 0, 0, .null, []),
  (1, 0, .iconst 0, 0, 0, .null, []),
  (2, 2, .putfield 79, 11, 0, .null, []),
  (5, 0, .aload_n 0, 0, 0, .null, []),
  (6, 0, .iload_n 1, 0, 0, .null, []),
  (7, 0, .iload_n 2, 0, 0, .null, []),
  (8, 0, .iconst 2, 0, 0, .null, []),
  (9, 0, .iconst 3, 0, 0, .null, []),
  (10, 4, .invokevirtual 442, 96, 0, .null, [11]),
  (13, 17, .ifCond .eq 5, 1, 9999, .null, [12]),
  (16, 0, .iconst 0, 0, 0, .null, []),
  (17, 16, .ireturn, 0, 0, .null, []),
  (18, 0, .aload_n 0, 0, 0, .null, []),
  (19, 0, .iload_n 1, 0, 0, .null, []),
  (20, 0, .bipush 11, 0, 0, .null, []),
  (22, 99, .invokevirtual 98, 0, 0, .null, []),
  (25, 0, .lstore_n 3, 0, 0, .null, []),
  (26, 0, .aload_n 0, 0, 0, .null, []),
  (27, 4, .invokevirtual 465, 105, 0, .null, [11]),
  (30, 0, .aload_n 0, 0, 0, .null, []),
  (31, 0, .iload_n 1, 0, 0, .null, []),
  (32, 0, .iload_n 2, 0, 0, .null, []),
  (33, 99, .invokevirtual 358, 0, 0, .null, []),
  (36, 0, .aload_n 0, 0, 0, .null, []),
  (37, 0, .iconst 1, 0, 0, .null, []),
  (38, 4, .invokevirtual 468, 106, 0, .null, [11]),
  (41, 0, .aload_n 0, 0, 0, .null, []),
  (42, 0, .iload_n 1, 0, 0, .null, []),
  (43, 0, .bipush 11, 0, 0, .null, []),
  (45, 99, .invokevirtual 98, 0, 0, .null, []),
  (48, 0, .lload_n 3, 0, 0, .null, []),
  (49, 0, .lsub, 0, 0, .null, []),
  (50, 99, .invokestatic 388, 0, 0, .null, []),
  (53, 0, .l2i, 0, 0, .null, []),
  (54, 0, .istore 5, 0, 0, .null, []),
  (56, 0, .aload_n 0, 0, 0, .null, []),
  (57, 4, .invokevirtual 471, 107, 0, .null, [11]),
  (60, 0, .iload 5, 0, 0, .null, []),
  (62, 16, .ireturn, 0, 0, .null, [])])
set_option maxRecDepth 100000 in
noncomputable def ri_m_X10_round : ri_M := (⟨"StillLoops", "round", "(Z)I"⟩, prog_1_method_23_code, 2, some .int, 1, [
  (0, 0, .aload_n 0, 0, 0, .null, []),
  (1, 0, .iconst 0, 0, 0, .null, []),
  (2, 0, .iconst 0, 0, 0, .null, []),
  (3, 4, .invokevirtual 291, 108, 0, .null, [10]),
  (6, 0, .aload_n 0, 0, 0, .null, []),
  (7, 1, .getfield 47, 10, 7, .null, []),
  (10, 0, .aload_n 0, 0, 0, .null, []),
  (11, 1, .getfield 34, 10, 5, .null, []),
  (14, 0, .aload_n 0, 0, 0, .null, []),
  (15, 1, .getfield 10, 10, 0, .null, []),
  (18, 1, .getfield 58, 4, 0, .null, []),
  (21, 4, .invokevirtual 294, 109, 0, .null, [6]),
  (24, 0, .iload_n 1, 0, 0, .null, []),
  (25, 17, .ifCond .eq 13, 1, 9999, .null, [18]),
  (28, 0, .aload_n 0, 0, 0, .null, []),
  (29, 1, .getfield 47, 10, 7, .null, []),
  (32, 1, .getfield 298, 6, 1, .null, []),
  (35, 0, .goto 10, 0, 0, .null, [21]),
  (38, 0, .aload_n 0, 0, 0, .null, []),
  (39, 1, .getfield 47, 10, 7, .null, []),
  (42, 1, .getfield 301, 6, 0, .null, []),
  (45, 16, .ireturn, 0, 0, .null, [])])
set_option maxRecDepth 100000 in
noncomputable def ri_m_X11_round : ri_M := (⟨"StillLoopsModel", "round", "(Z)I"⟩, prog_13_method_108_code, 2, some .int, 1, [
  (0, 0, .aload_n 0, 0, 0, .null, []),
  (1, 0, .iconst 0, 0, 0, .null, []),
  (2, 2, .putfield 79, 11, 0, .null, []),
  (5, 0, .aload_n 0, 0, 0, .null, []),
  (6, 4, .invokevirtual 497, 110, 0, .null, [11]),
  (9, 0, .aload_n 0, 0, 0, .null, []),
  (10, 1, .getfield 483, 11, 16, .null, []),
  (13, 0, .iconst (-1), 0, 0, .null, []),
  (14, 17, .if_icmp .ne 7, 2, 9999, .null, [11]),
  (17, 0, .iconst (-1), 0, 0, .null, []),
  (18, 0, .goto 18, 0, 0, .null, [18]),
  (21, 0, .iload_n 1, 0, 0, .null, []),
  (22, 17, .ifCond .eq 10, 1, 9999, .null, [16]),
  (25, 0, .aload_n 0, 0, 0, .null, []),
  (26, 1, .getfield 494, 11, 17, .null, []),
  (29, 0, .goto 7, 0, 0, .null, [18]),
  (32, 0, .aload_n 0, 0, 0, .null, []),
  (33, 1, .getfield 483, 11, 16, .null, []),
  (36, 16, .ireturn, 0, 0, .null, [])])
set_option maxRecDepth 100000 in
noncomputable def ri_m_L_sweep : ri_M := (⟨"StillLoopsLaw", "sweep", "(LStillLoops;I[J)I"⟩, method_21_code, 4, some .int, 3, [
  (0, 0, .aload_n 2, 0, 0, .null, []),
  (1, 0, .iconst 0, 0, 0, .null, []),
  (2, 0, .aload_n 0, 0, 0, .null, []),
  (3, 0, .iload_n 1, 0, 0, .null, []),
  (4, 4, .invokevirtual 80, 111, 5, .null, [10, 9999, 9999, 8, 9999, 9999]),
  (7, 0, .i2l, 0, 0, .null, []),
  (8, 8, .lastore, 0, 0, .null, []),
  (9, 0, .goto 6, 0, 0, .null, [11]),
  (12, 0, .astore_n 3, 0, 0, .null, []),
  (13, 0, .iconst 1, 0, 0, .null, []),
  (14, 16, .ireturn, 0, 0, .null, []),
  (15, 0, .iconst 0, 0, 0, .null, []),
  (16, 16, .ireturn, 0, 0, .null, [])])
set_option maxRecDepth 100000 in
noncomputable def ri_m_X11_sweep : ri_M := (⟨"StillLoopsModel", "sweep", "(I)I"⟩, prog_13_method_109_code, 9, some .int, 1, [
  (0, 0, .aload_n 0, 0, 0, .null, []),
  (1, 0, .iconst 0, 0, 0, .null, []),
  (2, 2, .putfield 79, 11, 0, .null, []),
  (5, 0, .aload_n 0, 0, 0, .null, []),
  (6, 0, .aload_n 0, 0, 0, .null, []),
  (7, 0, .iload_n 1, 0, 0, .null, []),
  (8, 4, .invokevirtual 439, 85, 0, .null, [11]),
  (11, 0, .iconst 1, 0, 0, .null, []),
  (12, 4, .invokevirtual 305, 83, 0, .null, [11]),
  (15, 17, .ifCond .eq 5, 1, 9999, .null, [12]),
  (18, 0, .iconst 0, 0, 0, .null, []),
  (19, 16, .ireturn, 0, 0, .null, []),
  (20, 0, .aload_n 0, 0, 0, .null, []),
  (21, 4, .invokevirtual 497, 110, 0, .null, [11]),
  (24, 0, .aload_n 0, 0, 0, .null, []),
  (25, 1, .getfield 483, 11, 16, .null, []),
  (28, 0, .iconst (-1), 0, 0, .null, []),
  (29, 17, .if_icmp .ne 5, 2, 9999, .null, [20]),
  (32, 0, .iconst (-1), 0, 0, .null, []),
  (33, 16, .ireturn, 0, 0, .null, []),
  (34, 3, .ldc2_w 424, 0, 0, .long 2559744, []),
  (37, 0, .lstore_n 2, 0, 0, .null, []),
  (38, 3, .ldc2_w 422, 0, 0, .long (-2559744), []),
  (41, 0, .lstore 4, 0, 0, .null, []),
  (43, 0, .aload_n 0, 0, 0, .null, []),
  (44, 1, .getfield 483, 11, 16, .null, []),
  (47, 0, .istore 6, 0, 0, .null, []),
  (49, 0, .iload 6, 0, 0, .null, []),
  (51, 0, .aload_n 0, 0, 0, .null, []),
  (52, 1, .getfield 483, 11, 16, .null, []),
  (55, 0, .aload_n 0, 0, 0, .null, []),
  (56, 1, .getfield 494, 11, 17, .null, []),
  (59, 17, .iadd, 2, 9999, .null, []),
  (60, 17, .if_icmp .gt 52, 2, 9999, .null, [59]),
  (63, 0, .aload_n 0, 0, 0, .null, []),
  (64, 1, .getfield 38, 11, 15, .null, []),
  (67, 0, .sipush 308, 0, 0, .null, []),
  (70, 0, .iload 6, 0, 0, .null, []),
  (72, 17, .imul, 2, 9999, .null, []),
  (73, 0, .bipush 77, 0, 0, .null, []),
  (75, 0, .iload_n 1, 0, 0, .null, []),
  (76, 17, .imul, 2, 9999, .null, []),
  (77, 17, .iadd, 2, 9999, .null, []),
  (78, 0, .bipush 47, 0, 0, .null, []),
  (80, 17, .iadd, 2, 9999, .null, []),
  (81, 7, .laload, 0, 0, .null, []),
  (82, 3, .ldc2_w 111, 0, 0, .long 8, []),
  (85, 99, .invokestatic 113, 0, 0, .null, []),
  (88, 0, .lstore 7, 0, 0, .null, []),
  (90, 0, .lload_n 2, 0, 0, .null, []),
  (91, 0, .lload 7, 0, 0, .null, []),
  (93, 99, .invokestatic 102, 0, 0, .null, []),
  (96, 0, .lstore_n 2, 0, 0, .null, []),
  (97, 0, .lload 4, 0, 0, .null, []),
  (99, 0, .lload 7, 0, 0, .null, []),
  (101, 99, .invokestatic 108, 0, 0, .null, []),
  (104, 0, .lstore 4, 0, 0, .null, []),
  (106, 0, .iinc 6 1, 0, 0, .null, []),
  (109, 0, .goto (-60), 0, 0, .null, [27]),
  (112, 0, .lload 4, 0, 0, .null, []),
  (114, 0, .lload_n 2, 0, 0, .null, []),
  (115, 0, .lsub, 0, 0, .null, []),
  (116, 0, .l2i, 0, 0, .null, []),
  (117, 16, .ireturn, 0, 0, .null, [])])
set_option maxRecDepth 100000 in
noncomputable def ri_m_L_starts : ri_M := (⟨"StillLoopsLaw", "starts", "(LStillLoops;II[J)I"⟩, method_22_code, 5, some .int, 4, [
  (0, 0, .aload_n 3, 0, 0, .null, []),
  (1, 0, .iconst 0, 0, 0, .null, []),
  (2, 0, .aload_n 0, 0, 0, .null, []),
  (3, 0, .iload_n 1, 0, 0, .null, []),
  (4, 0, .iload_n 2, 0, 0, .null, []),
  (5, 4, .invokevirtual 83, 112, 5, .null, [10, 9999, 9999, 9, 12, 9999]),
  (8, 0, .i2l, 0, 0, .null, []),
  (9, 8, .lastore, 0, 0, .null, []),
  (10, 0, .goto 11, 0, 0, .null, [15]),
  (13, 0, .astore 4, 0, 0, .null, []),
  (15, 0, .iconst 1, 0, 0, .null, []),
  (16, 16, .ireturn, 0, 0, .null, []),
  (17, 0, .astore 4, 0, 0, .null, []),
  (19, 0, .iconst 2, 0, 0, .null, []),
  (20, 16, .ireturn, 0, 0, .null, []),
  (21, 0, .iconst 0, 0, 0, .null, []),
  (22, 16, .ireturn, 0, 0, .null, [])])
set_option maxRecDepth 100000 in
noncomputable def ri_m_X11_starts : ri_M := (⟨"StillLoopsModel", "starts", "(II)I"⟩, prog_13_method_111_code, 13, some .int, 2, [
  (0, 0, .aload_n 0, 0, 0, .null, []),
  (1, 0, .iconst 0, 0, 0, .null, []),
  (2, 2, .putfield 79, 11, 0, .null, []),
  (5, 0, .aload_n 0, 0, 0, .null, []),
  (6, 0, .aload_n 0, 0, 0, .null, []),
  (7, 0, .iload_n 1, 0, 0, .null, []),
  (8, 4, .invokevirtual 439, 85, 0, .null, [11]),
  (11, 0, .iconst 1, 0, 0, .null, []),
  (12, 4, .invokevirtual 305, 83, 0, .null, [11]),
  (15, 17, .ifCond .ne 25, 1, 9999, .null, [22]),
  (18, 0, .aload_n 0, 0, 0, .null, []),
  (19, 0, .iload_n 2, 0, 0, .null, []),
  (20, 0, .iconst 0, 0, 0, .null, []),
  (21, 0, .iconst 4, 0, 0, .null, []),
  (22, 4, .invokestatic 94, 86, 1, .null, []),
  (25, 17, .ifCond .ne 7, 1, 9999, .null, [18]),
  (28, 0, .iconst 1, 0, 0, .null, []),
  (29, 0, .goto 4, 0, 0, .null, [19]),
  (32, 0, .iconst 0, 0, 0, .null, []),
  (33, 0, .iconst 2, 0, 0, .null, []),
  (34, 4, .invokevirtual 305, 83, 0, .null, [11]),
  (37, 17, .ifCond .eq 5, 1, 9999, .null, [24]),
  (40, 0, .iconst 0, 0, 0, .null, []),
  (41, 16, .ireturn, 0, 0, .null, []),
  (42, 0, .iconst 0, 0, 0, .null, []),
  (43, 0, .istore_n 3, 0, 0, .null, []),
  (44, 0, .iconst 0, 0, 0, .null, []),
  (45, 0, .istore 4, 0, 0, .null, []),
  (47, 0, .iconst 0, 0, 0, .null, []),
  (48, 0, .istore 5, 0, 0, .null, []),
  (50, 0, .iconst 0, 0, 0, .null, []),
  (51, 0, .istore 6, 0, 0, .null, []),
  (53, 0, .iconst 0, 0, 0, .null, []),
  (54, 0, .istore 7, 0, 0, .null, []),
  (56, 0, .aload_n 0, 0, 0, .null, []),
  (57, 0, .iload_n 1, 0, 0, .null, []),
  (58, 0, .bipush 47, 0, 0, .null, []),
  (60, 99, .invokevirtual 98, 0, 0, .null, []),
  (63, 0, .lstore 8, 0, 0, .null, []),
  (65, 0, .iconst 0, 0, 0, .null, []),
  (66, 0, .istore 10, 0, 0, .null, []),
  (68, 0, .iload 10, 0, 0, .null, []),
  (70, 0, .bipush 9, 0, 0, .null, []),
  (72, 17, .if_icmp .ge 173, 2, 9999, .null, [124]),
  (75, 0, .aload_n 0, 0, 0, .null, []),
  (76, 0, .iload_n 1, 0, 0, .null, []),
  (77, 0, .bipush 47, 0, 0, .null, []),
  (79, 0, .lload 8, 0, 0, .null, []),
  (81, 3, .ldc2_w 212, 0, 0, .long 256, []),
  (84, 0, .iload 10, 0, 0, .null, []),
  (86, 0, .iconst 4, 0, 0, .null, []),
  (87, 17, .isub, 2, 9999, .null, []),
  (88, 0, .i2l, 0, 0, .null, []),
  (89, 0, .lmul, 0, 0, .null, []),
  (90, 0, .ladd, 0, 0, .null, []),
  (91, 3, .ldc2_w 422, 0, 0, .long (-2559744), []),
  (94, 3, .ldc2_w 424, 0, 0, .long 2559744, []),
  (97, 99, .invokestatic 220, 0, 0, .null, []),
  (100, 99, .invokevirtual 173, 0, 0, .null, []),
  (103, 0, .aload_n 0, 0, 0, .null, []),
  (104, 4, .invokevirtual 497, 110, 0, .null, [11]),
  (107, 0, .aload_n 0, 0, 0, .null, []),
  (108, 1, .getfield 483, 11, 16, .null, []),
  (111, 0, .iconst (-1), 0, 0, .null, []),
  (112, 17, .if_icmp .ne 9, 2, 9999, .null, [67]),
  (115, 0, .iinc 5 1, 0, 0, .null, []),
  (118, 0, .goto 121, 0, 0, .null, [122]),
  (121, 0, .iload 7, 0, 0, .null, []),
  (123, 0, .aload_n 0, 0, 0, .null, []),
  (124, 1, .getfield 494, 11, 17, .null, []),
  (127, 99, .invokestatic 500, 0, 0, .null, []),
  (130, 0, .istore 7, 0, 0, .null, []),
  (132, 0, .aload_n 0, 0, 0, .null, []),
  (133, 1, .getfield 494, 11, 17, .null, []),
  (136, 0, .iconst 1, 0, 0, .null, []),
  (137, 17, .if_icmp .ne 9, 2, 9999, .null, [78]),
  (140, 0, .iinc 3 1, 0, 0, .null, []),
  (143, 0, .goto 96, 0, 0, .null, [122]),
  (146, 0, .iinc 4 1, 0, 0, .null, []),
  (149, 0, .iconst 0, 0, 0, .null, []),
  (150, 0, .istore 11, 0, 0, .null, []),
  (152, 0, .iconst 0, 0, 0, .null, []),
  (153, 0, .istore 12, 0, 0, .null, []),
  (155, 0, .iload 12, 0, 0, .null, []),
  (157, 0, .iload 6, 0, 0, .null, []),
  (159, 17, .if_icmp .ge 22, 2, 9999, .null, [94]),
  (162, 0, .iload 11, 0, 0, .null, []),
  (164, 17, .ifCond .ne 17, 1, 9999, .null, [94]),
  (167, 0, .aload_n 0, 0, 0, .null, []),
  (168, 0, .iload 12, 0, 0, .null, []),
  (170, 99, .invokevirtual 502, 0, 0, .null, []),
  (173, 0, .istore 11, 0, 0, .null, []),
  (175, 0, .iinc 12 1, 0, 0, .null, []),
  (178, 0, .goto (-23), 0, 0, .null, [83]),
  (181, 0, .iload 11, 0, 0, .null, []),
  (183, 17, .ifCond .eq 6, 1, 9999, .null, [97]),
  (186, 0, .goto 53, 0, 0, .null, [122]),
  (189, 0, .iconst 0, 0, 0, .null, []),
  (190, 0, .istore 12, 0, 0, .null, []),
  (192, 0, .iload 12, 0, 0, .null, []),
  (194, 0, .sipush 308, 0, 0, .null, []),
  (197, 17, .if_icmp .ge 39, 2, 9999, .null, [121]),
  (200, 0, .aload_n 0, 0, 0, .null, []),
  (201, 1, .getfield 41, 11, 18, .null, []),
  (204, 0, .sipush 308, 0, 0, .null, []),
  (207, 0, .iload 6, 0, 0, .null, []),
  (209, 17, .imul, 2, 9999, .null, []),
  (210, 0, .iload 12, 0, 0, .null, []),
  (212, 17, .iadd, 2, 9999, .null, []),
  (213, 0, .aload_n 0, 0, 0, .null, []),
  (214, 1, .getfield 38, 11, 15, .null, []),
  (217, 0, .sipush 308, 0, 0, .null, []),
  (220, 0, .aload_n 0, 0, 0, .null, []),
  (221, 1, .getfield 483, 11, 16, .null, []),
  (224, 17, .imul, 2, 9999, .null, []),
  (225, 0, .iload 12, 0, 0, .null, []),
  (227, 17, .iadd, 2, 9999, .null, []),
  (228, 7, .laload, 0, 0, .null, []),
  (229, 8, .lastore, 0, 0, .null, []),
  (230, 0, .iinc 12 1, 0, 0, .null, []),
  (233, 0, .goto (-41), 0, 0, .null, [99]),
  (236, 0, .iinc 6 1, 0, 0, .null, []),
  (239, 0, .iinc 10 1, 0, 0, .null, []),
  (242, 0, .goto (-174), 0, 0, .null, [41]),
  (245, 0, .aload_n 0, 0, 0, .null, []),
  (246, 0, .iload_n 1, 0, 0, .null, []),
  (247, 0, .bipush 47, 0, 0, .null, []),
  (249, 0, .lload 8, 0, 0, .null, []),
  (251, 99, .invokevirtual 173, 0, 0, .null, []),
  (254, 0, .iload_n 2, 0, 0, .null, []),
  (255, 17, .ifCond .ne 7, 1, 9999, .null, [133]),
  (258, 0, .iload_n 3, 0, 0, .null, []),
  (259, 0, .goto 35, 0, 0, .null, [149]),
  (262, 0, .iload_n 2, 0, 0, .null, []),
  (263, 0, .iconst 1, 0, 0, .null, []),
  (264, 17, .if_icmp .ne 8, 2, 9999, .null, [138]),
  (267, 0, .iload 4, 0, 0, .null, []),
  (269, 0, .goto 25, 0, 0, .null, [149]),
  (272, 0, .iload_n 2, 0, 0, .null, []),
  (273, 0, .iconst 2, 0, 0, .null, []),
  (274, 17, .if_icmp .ne 8, 2, 9999, .null, [143]),
  (277, 0, .iload 5, 0, 0, .null, []),
  (279, 0, .goto 15, 0, 0, .null, [149]),
  (282, 0, .iload_n 2, 0, 0, .null, []),
  (283, 0, .iconst 3, 0, 0, .null, []),
  (284, 17, .if_icmp .ne 8, 2, 9999, .null, [148]),
  (287, 0, .iload 6, 0, 0, .null, []),
  (289, 0, .goto 5, 0, 0, .null, [149]),
  (292, 0, .iload 7, 0, 0, .null, []),
  (294, 16, .ireturn, 0, 0, .null, [])])
set_option maxRecDepth 100000 in
noncomputable def ri_m_L_step : ri_M := (⟨"StillLoopsLaw", "step", "(LStillLoops;III[J)I"⟩, method_23_code, 6, some .int, 5, [
  (0, 0, .aload 4, 0, 0, .null, []),
  (2, 0, .iconst 0, 0, 0, .null, []),
  (3, 0, .aload_n 0, 0, 0, .null, []),
  (4, 0, .iload_n 1, 0, 0, .null, []),
  (5, 0, .iload_n 2, 0, 0, .null, []),
  (6, 0, .iload_n 3, 0, 0, .null, []),
  (7, 4, .invokevirtual 86, 113, 5, .null, [10, 16, 9999, 10, 13, 19]),
  (10, 0, .i2l, 0, 0, .null, []),
  (11, 8, .lastore, 0, 0, .null, []),
  (12, 0, .goto 19, 0, 0, .null, [22]),
  (15, 0, .astore 5, 0, 0, .null, []),
  (17, 0, .iconst 1, 0, 0, .null, []),
  (18, 16, .ireturn, 0, 0, .null, []),
  (19, 0, .astore 5, 0, 0, .null, []),
  (21, 0, .iconst 2, 0, 0, .null, []),
  (22, 16, .ireturn, 0, 0, .null, []),
  (23, 0, .astore 5, 0, 0, .null, []),
  (25, 0, .iconst 3, 0, 0, .null, []),
  (26, 16, .ireturn, 0, 0, .null, []),
  (27, 0, .astore 5, 0, 0, .null, []),
  (29, 0, .iconst 4, 0, 0, .null, []),
  (30, 16, .ireturn, 0, 0, .null, []),
  (31, 0, .iconst 0, 0, 0, .null, []),
  (32, 16, .ireturn, 0, 0, .null, [])])
set_option maxRecDepth 100000 in
noncomputable def ri_m_X11_step : ri_M := (⟨"StillLoopsModel", "step", "(III)I"⟩, prog_13_method_113_code, 5, some .int, 3, [
  (0, 0, .aload_n 0, 0, 0, .null, []),
  (1, 0, .iconst 0, 0, 0, .null, []),
  (2, 2, .putfield 79, 11, 0, .null, []),
  (5, 0, .aload_n 0, 0, 0, .null, []),
  (6, 0, .aload_n 0, 0, 0, .null, []),
  (7, 0, .iload_n 1, 0, 0, .null, []),
  (8, 4, .invokevirtual 439, 85, 0, .null, [11]),
  (11, 0, .iconst 1, 0, 0, .null, []),
  (12, 4, .invokevirtual 305, 83, 0, .null, [11]),
  (15, 17, .ifCond .ne 77, 1, 9999, .null, [48]),
  (18, 0, .aload_n 0, 0, 0, .null, []),
  (19, 0, .iload_n 3, 0, 0, .null, []),
  (20, 0, .iconst 0, 0, 0, .null, []),
  (21, 0, .iconst 3, 0, 0, .null, []),
  (22, 4, .invokestatic 94, 86, 1, .null, []),
  (25, 17, .ifCond .ne 7, 1, 9999, .null, [18]),
  (28, 0, .iconst 1, 0, 0, .null, []),
  (29, 0, .goto 4, 0, 0, .null, [19]),
  (32, 0, .iconst 0, 0, 0, .null, []),
  (33, 0, .iconst 2, 0, 0, .null, []),
  (34, 4, .invokevirtual 305, 83, 0, .null, [11]),
  (37, 17, .ifCond .ne 55, 1, 9999, .null, [48]),
  (40, 0, .aload_n 0, 0, 0, .null, []),
  (41, 0, .iload_n 2, 0, 0, .null, []),
  (42, 0, .sipush (-999), 0, 0, .null, []),
  (45, 0, .sipush 999, 0, 0, .null, []),
  (48, 4, .invokestatic 94, 86, 1, .null, []),
  (51, 17, .ifCond .eq 7, 1, 9999, .null, [30]),
  (54, 0, .iload_n 2, 0, 0, .null, []),
  (55, 17, .ifCond .ne 7, 1, 9999, .null, [32]),
  (58, 0, .iconst 1, 0, 0, .null, []),
  (59, 0, .goto 4, 0, 0, .null, [33]),
  (62, 0, .iconst 0, 0, 0, .null, []),
  (63, 0, .iconst 3, 0, 0, .null, []),
  (64, 4, .invokevirtual 305, 83, 0, .null, [11]),
  (67, 17, .ifCond .ne 25, 1, 9999, .null, [48]),
  (70, 0, .aload_n 0, 0, 0, .null, []),
  (71, 0, .aload_n 0, 0, 0, .null, []),
  (72, 0, .iload_n 1, 0, 0, .null, []),
  (73, 0, .iconst 1, 0, 0, .null, []),
  (74, 99, .invokevirtual 336, 0, 0, .null, []),
  (77, 17, .ifCond .ne 7, 1, 9999, .null, [44]),
  (80, 0, .iconst 1, 0, 0, .null, []),
  (81, 0, .goto 4, 0, 0, .null, [45]),
  (84, 0, .iconst 0, 0, 0, .null, []),
  (85, 0, .iconst 4, 0, 0, .null, []),
  (86, 4, .invokevirtual 305, 83, 0, .null, [11]),
  (89, 17, .ifCond .eq 5, 1, 9999, .null, [50]),
  (92, 0, .iconst 0, 0, 0, .null, []),
  (93, 16, .ireturn, 0, 0, .null, []),
  (94, 0, .aload_n 0, 0, 0, .null, []),
  (95, 4, .invokevirtual 465, 105, 0, .null, [11]),
  (98, 0, .aload_n 0, 0, 0, .null, []),
  (99, 0, .iload_n 1, 0, 0, .null, []),
  (100, 0, .bipush 9, 0, 0, .null, []),
  (102, 0, .aload_n 0, 0, 0, .null, []),
  (103, 0, .iload_n 1, 0, 0, .null, []),
  (104, 0, .bipush 9, 0, 0, .null, []),
  (106, 99, .invokevirtual 98, 0, 0, .null, []),
  (109, 0, .iload_n 2, 0, 0, .null, []),
  (110, 0, .i2l, 0, 0, .null, []),
  (111, 0, .ladd, 0, 0, .null, []),
  (112, 3, .ldc2_w 218, 0, 0, .long (-9999), []),
  (115, 3, .ldc2_w 377, 0, 0, .long 9999, []),
  (118, 99, .invokestatic 220, 0, 0, .null, []),
  (121, 99, .invokevirtual 173, 0, 0, .null, []),
  (124, 0, .aload_n 0, 0, 0, .null, []),
  (125, 0, .iload_n 1, 0, 0, .null, []),
  (126, 0, .iload_n 2, 0, 0, .null, []),
  (127, 0, .iload_n 3, 0, 0, .null, []),
  (128, 99, .invokevirtual 507, 0, 0, .null, []),
  (131, 0, .istore 4, 0, 0, .null, []),
  (133, 0, .aload_n 0, 0, 0, .null, []),
  (134, 4, .invokevirtual 471, 107, 0, .null, [11]),
  (137, 0, .iload 4, 0, 0, .null, []),
  (139, 16, .ireturn, 0, 0, .null, [])])
set_option maxRecDepth 100000 in
noncomputable def ri_m_L_twin : ri_M := (⟨"StillLoopsLaw", "twin", "(LStillLoops;I[J)I"⟩, method_24_code, 4, some .int, 3, [
  (0, 0, .aload_n 2, 0, 0, .null, []),
  (1, 0, .iconst 0, 0, 0, .null, []),
  (2, 0, .aload_n 0, 0, 0, .null, []),
  (3, 0, .iload_n 1, 0, 0, .null, []),
  (4, 4, .invokevirtual 89, 114, 5, .null, [10, 8, 9999, 9999, 9999, 11]),
  (7, 0, .i2l, 0, 0, .null, []),
  (8, 8, .lastore, 0, 0, .null, []),
  (9, 0, .goto 9, 0, 0, .null, [14]),
  (12, 0, .astore_n 3, 0, 0, .null, []),
  (13, 0, .iconst 1, 0, 0, .null, []),
  (14, 16, .ireturn, 0, 0, .null, []),
  (15, 0, .astore_n 3, 0, 0, .null, []),
  (16, 0, .iconst 2, 0, 0, .null, []),
  (17, 16, .ireturn, 0, 0, .null, []),
  (18, 0, .iconst 0, 0, 0, .null, []),
  (19, 16, .ireturn, 0, 0, .null, [])])
set_option maxRecDepth 100000 in
noncomputable def ri_m_X11_twin : ri_M := (⟨"StillLoopsModel", "twin", "(I)I"⟩, prog_13_method_123_code, 4, some .int, 1, [
  (0, 0, .aload_n 0, 0, 0, .null, []),
  (1, 0, .iconst 0, 0, 0, .null, []),
  (2, 2, .putfield 79, 11, 0, .null, []),
  (5, 0, .aload_n 0, 0, 0, .null, []),
  (6, 0, .iload_n 1, 0, 0, .null, []),
  (7, 0, .iconst 0, 0, 0, .null, []),
  (8, 0, .bipush 60, 0, 0, .null, []),
  (10, 4, .invokestatic 94, 86, 1, .null, []),
  (13, 17, .ifCond .ne 7, 1, 9999, .null, [11]),
  (16, 0, .iconst 1, 0, 0, .null, []),
  (17, 0, .goto 4, 0, 0, .null, [12]),
  (20, 0, .iconst 0, 0, 0, .null, []),
  (21, 0, .iconst 1, 0, 0, .null, []),
  (22, 4, .invokevirtual 305, 83, 0, .null, [11]),
  (25, 17, .ifCond .ne 24, 1, 9999, .null, [26]),
  (28, 0, .aload_n 0, 0, 0, .null, []),
  (29, 0, .aload_n 0, 0, 0, .null, []),
  (30, 0, .iconst 3, 0, 0, .null, []),
  (31, 4, .invokevirtual 555, 65, 0, .null, [11]),
  (34, 17, .ifCond .eq 7, 1, 9999, .null, [22]),
  (37, 0, .iconst 1, 0, 0, .null, []),
  (38, 0, .goto 4, 0, 0, .null, [23]),
  (41, 0, .iconst 0, 0, 0, .null, []),
  (42, 0, .iconst 2, 0, 0, .null, []),
  (43, 4, .invokevirtual 305, 83, 0, .null, [11]),
  (46, 17, .ifCond .eq 5, 1, 9999, .null, [28]),
  (49, 0, .iconst 0, 0, 0, .null, []),
  (50, 16, .ireturn, 0, 0, .null, []),
  (51, 0, .aload_n 0, 0, 0, .null, []),
  (52, 4, .invokevirtual 465, 105, 0, .null, [11]),
  (55, 0, .aload_n 0, 0, 0, .null, []),
  (56, 4, .invokevirtual 558, 115, 0, .null, [11]),
  (59, 0, .aload_n 0, 0, 0, .null, []),
  (60, 0, .iload_n 1, 0, 0, .null, []),
  (61, 4, .invokevirtual 561, 116, 0, .null, [11]),
  (64, 3, .ldc2_w 564, 0, 0, .double 4652007308841189376, []),
  (67, 0, .dmul, 0, 0, .null, []),
  (68, 0, .dstore_n 2, 0, 0, .null, []),
  (69, 0, .aload_n 0, 0, 0, .null, []),
  (70, 4, .invokevirtual 471, 107, 0, .null, [11]),
  (73, 0, .dload_n 2, 0, 0, .null, []),
  (74, 3, .ldc2_w 566, 0, 0, .double 4726483295817170944, []),
  (77, 0, .dcmp .l, 0, 0, .null, []),
  (78, 17, .ifCond .lt 9, 1, 9999, .null, [46]),
  (81, 3, .ldc_w 568, 0, 0, .int 99999999, []),
  (84, 0, .goto 5, 0, 0, .null, [48]),
  (87, 0, .dload_n 2, 0, 0, .null, []),
  (88, 0, .d2i, 0, 0, .null, []),
  (89, 16, .ireturn, 0, 0, .null, [])])
set_option maxRecDepth 100000 in
noncomputable def ri_m_L_ahead : ri_M := (⟨"StillLoopsLaw", "ahead", "(LStillLoops;IIZ[J)I"⟩, method_25_code, 6, some .int, 5, [
  (0, 0, .aload 4, 0, 0, .null, []),
  (2, 0, .iconst 0, 0, 0, .null, []),
  (3, 0, .aload_n 0, 0, 0, .null, []),
  (4, 0, .iload_n 1, 0, 0, .null, []),
  (5, 0, .iload_n 2, 0, 0, .null, []),
  (6, 0, .iload_n 3, 0, 0, .null, []),
  (7, 4, .invokevirtual 92, 117, 5, .null, [10, 13, 9999, 10, 9999, 9999]),
  (10, 0, .i2l, 0, 0, .null, []),
  (11, 8, .lastore, 0, 0, .null, []),
  (12, 0, .goto 11, 0, 0, .null, [16]),
  (15, 0, .astore 5, 0, 0, .null, []),
  (17, 0, .iconst 1, 0, 0, .null, []),
  (18, 16, .ireturn, 0, 0, .null, []),
  (19, 0, .astore 5, 0, 0, .null, []),
  (21, 0, .iconst 2, 0, 0, .null, []),
  (22, 16, .ireturn, 0, 0, .null, []),
  (23, 0, .iconst 0, 0, 0, .null, []),
  (24, 16, .ireturn, 0, 0, .null, [])])
set_option maxRecDepth 100000 in
noncomputable def ri_m_X11_ahead : ri_M := (⟨"StillLoopsModel", "ahead", "(IIZ)I"⟩, prog_13_method_94_code, 5, some .int, 3, [
  (0, 0, .aload_n 0, 0, 0, .null, []),
  (1, 0, .iconst 0, 0, 0, .null, []),
  (2, 2, .putfield 79, 11, 0, .null, []),
  (5, 0, .aload_n 0, 0, 0, .null, []),
  (6, 0, .aload_n 0, 0, 0, .null, []),
  (7, 0, .iload_n 1, 0, 0, .null, []),
  (8, 4, .invokevirtual 439, 85, 0, .null, [11]),
  (11, 0, .iconst 1, 0, 0, .null, []),
  (12, 4, .invokevirtual 305, 83, 0, .null, [11]),
  (15, 17, .ifCond .ne 26, 1, 9999, .null, [22]),
  (18, 0, .aload_n 0, 0, 0, .null, []),
  (19, 0, .iload_n 2, 0, 0, .null, []),
  (20, 0, .iconst 0, 0, 0, .null, []),
  (21, 0, .bipush 60, 0, 0, .null, []),
  (23, 4, .invokestatic 94, 86, 1, .null, []),
  (26, 17, .ifCond .ne 7, 1, 9999, .null, [18]),
  (29, 0, .iconst 1, 0, 0, .null, []),
  (30, 0, .goto 4, 0, 0, .null, [19]),
  (33, 0, .iconst 0, 0, 0, .null, []),
  (34, 0, .iconst 2, 0, 0, .null, []),
  (35, 4, .invokevirtual 305, 83, 0, .null, [11]),
  (38, 17, .ifCond .eq 5, 1, 9999, .null, [24]),
  (41, 0, .iconst 0, 0, 0, .null, []),
  (42, 16, .ireturn, 0, 0, .null, []),
  (43, 0, .aload_n 0, 0, 0, .null, []),
  (44, 4, .invokevirtual 465, 105, 0, .null, [11]),
  (47, 0, .aload_n 0, 0, 0, .null, []),
  (48, 0, .iload_n 2, 0, 0, .null, []),
  (49, 4, .invokevirtual 468, 106, 0, .null, [11]),
  (52, 0, .iload_n 3, 0, 0, .null, []),
  (53, 17, .ifCond .eq 13, 1, 9999, .null, [36]),
  (56, 0, .aload_n 0, 0, 0, .null, []),
  (57, 0, .iload_n 1, 0, 0, .null, []),
  (58, 0, .bipush 11, 0, 0, .null, []),
  (60, 99, .invokevirtual 116, 0, 0, .null, []),
  (63, 0, .goto 9, 0, 0, .null, [40]),
  (66, 0, .aload_n 0, 0, 0, .null, []),
  (67, 0, .iload_n 1, 0, 0, .null, []),
  (68, 99, .invokevirtual 345, 0, 0, .null, []),
  (71, 0, .l2i, 0, 0, .null, []),
  (72, 0, .istore 4, 0, 0, .null, []),
  (74, 0, .aload_n 0, 0, 0, .null, []),
  (75, 4, .invokevirtual 471, 107, 0, .null, [11]),
  (78, 0, .iload 4, 0, 0, .null, []),
  (80, 16, .ireturn, 0, 0, .null, [])])
set_option maxRecDepth 100000 in
noncomputable def ri_m_L_peak : ri_M := (⟨"StillLoopsLaw", "peak", "(LStillLoops;II[J)I"⟩, method_26_code, 5, some .int, 4, [
  (0, 0, .aload_n 3, 0, 0, .null, []),
  (1, 0, .iconst 0, 0, 0, .null, []),
  (2, 0, .aload_n 0, 0, 0, .null, []),
  (3, 0, .iload_n 1, 0, 0, .null, []),
  (4, 0, .iload_n 2, 0, 0, .null, []),
  (5, 4, .invokevirtual 96, 118, 5, .null, [10, 11, 9999, 8, 9999, 9999]),
  (8, 8, .lastore, 0, 0, .null, []),
  (9, 0, .goto 11, 0, 0, .null, [14]),
  (12, 0, .astore 4, 0, 0, .null, []),
  (14, 0, .iconst 1, 0, 0, .null, []),
  (15, 16, .ireturn, 0, 0, .null, []),
  (16, 0, .astore 4, 0, 0, .null, []),
  (18, 0, .iconst 2, 0, 0, .null, []),
  (19, 16, .ireturn, 0, 0, .null, []),
  (20, 0, .iconst 0, 0, 0, .null, []),
  (21, 16, .ireturn, 0, 0, .null, [])])
set_option maxRecDepth 100000 in
noncomputable def ri_m_X11_peak : ri_M := (⟨"StillLoopsModel", "peak", "(II)J"⟩, prog_13_method_96_code, 4, some .long, 2, [
  (0, 0, .aload_n 0, 0, 0, .null, []),
  (1, 0, .iload_n 1, 0, 0, .null, []),
  (2, 0, .iload_n 2, 0, 0, .null, []),
  (3, 4, .invokevirtual 474, 119, 0, .null, [11]),
  (6, 17, .ifCond .eq 5, 1, 9999, .null, [7]),
  (9, 0, .lconst 0, 0, 0, .null, []),
  (10, 16, .lreturn, 0, 0, .null, []),
  (11, 0, .iconst 0, 0, 0, .null, []),
  (12, 0, .istore_n 3, 0, 0, .null, []),
  (13, 0, .iload_n 3, 0, 0, .null, []),
  (14, 0, .iconst 4, 0, 0, .null, []),
  (15, 17, .if_icmp .ge 16, 2, 9999, .null, [19]),
  (18, 0, .aload_n 0, 0, 0, .null, []),
  (19, 1, .getfield 34, 11, 14, .null, []),
  (22, 0, .iload_n 3, 0, 0, .null, []),
  (23, 0, .lconst 0, 0, 0, .null, []),
  (24, 8, .lastore, 0, 0, .null, []),
  (25, 0, .iinc 3 1, 0, 0, .null, []),
  (28, 0, .goto (-15), 0, 0, .null, [9]),
  (31, 0, .aload_n 0, 0, 0, .null, []),
  (32, 4, .invokevirtual 465, 105, 0, .null, [11]),
  (35, 0, .aload_n 0, 0, 0, .null, []),
  (36, 0, .iload_n 2, 0, 0, .null, []),
  (37, 4, .invokevirtual 468, 106, 0, .null, [11]),
  (40, 0, .aload_n 0, 0, 0, .null, []),
  (41, 4, .invokevirtual 471, 107, 0, .null, [11]),
  (44, 0, .aload_n 0, 0, 0, .null, []),
  (45, 1, .getfield 34, 11, 14, .null, []),
  (48, 0, .iload_n 1, 0, 0, .null, []),
  (49, 7, .laload, 0, 0, .null, []),
  (50, 16, .lreturn, 0, 0, .null, [])])
set_option maxRecDepth 100000 in
noncomputable def ri_m_L_hunts : ri_M := (⟨"StillLoopsLaw", "hunts", "(LStillLoops;II[J)I"⟩, method_27_code, 5, some .int, 4, [
  (0, 0, .aload_n 3, 0, 0, .null, []),
  (1, 0, .iconst 0, 0, 0, .null, []),
  (2, 0, .aload_n 0, 0, 0, .null, []),
  (3, 0, .iload_n 1, 0, 0, .null, []),
  (4, 0, .iload_n 2, 0, 0, .null, []),
  (5, 4, .invokevirtual 99, 120, 5, .null, [10, 12, 9999, 9, 9999, 9999]),
  (8, 0, .i2l, 0, 0, .null, []),
  (9, 8, .lastore, 0, 0, .null, []),
  (10, 0, .goto 11, 0, 0, .null, [15]),
  (13, 0, .astore 4, 0, 0, .null, []),
  (15, 0, .iconst 1, 0, 0, .null, []),
  (16, 16, .ireturn, 0, 0, .null, []),
  (17, 0, .astore 4, 0, 0, .null, []),
  (19, 0, .iconst 2, 0, 0, .null, []),
  (20, 16, .ireturn, 0, 0, .null, []),
  (21, 0, .iconst 0, 0, 0, .null, []),
  (22, 16, .ireturn, 0, 0, .null, [])])
set_option maxRecDepth 100000 in
noncomputable def ri_m_X11_hunts : ri_M := (⟨"StillLoopsModel", "hunts", "(II)I"⟩, prog_13_method_98_code, 7, some .int, 2, [
  (0, 0, .aload_n 0, 0, 0, .null, []),
  (1, 0, .iload_n 1, 0, 0, .null, []),
  (2, 0, .iload_n 2, 0, 0, .null, []),
  (3, 4, .invokevirtual 474, 119, 0, .null, [11]),
  (6, 17, .ifCond .eq 5, 1, 9999, .null, [7]),
  (9, 0, .iconst 0, 0, 0, .null, []),
  (10, 16, .ireturn, 0, 0, .null, []),
  (11, 0, .aload_n 0, 0, 0, .null, []),
  (12, 4, .invokevirtual 465, 105, 0, .null, [11]),
  (15, 0, .iconst 0, 0, 0, .null, []),
  (16, 0, .istore_n 3, 0, 0, .null, []),
  (17, 0, .aload_n 0, 0, 0, .null, []),
  (18, 0, .iload_n 1, 0, 0, .null, []),
  (19, 99, .invokevirtual 477, 0, 0, .null, []),
  (22, 0, .istore 4, 0, 0, .null, []),
  (24, 0, .iconst 0, 0, 0, .null, []),
  (25, 0, .istore 5, 0, 0, .null, []),
  (27, 0, .iload 5, 0, 0, .null, []),
  (29, 0, .iload_n 2, 0, 0, .null, []),
  (30, 17, .if_icmp .ge 41, 2, 9999, .null, [41]),
  (33, 0, .aload_n 0, 0, 0, .null, []),
  (34, 0, .iconst 0, 0, 0, .null, []),
  (35, 4, .invokevirtual 435, 94, 0, .null, [11]),
  (38, 0, .pop, 0, 0, .null, []),
  (39, 0, .aload_n 0, 0, 0, .null, []),
  (40, 0, .iload_n 1, 0, 0, .null, []),
  (41, 99, .invokevirtual 477, 0, 0, .null, []),
  (44, 0, .istore 6, 0, 0, .null, []),
  (46, 0, .iload_n 3, 0, 0, .null, []),
  (47, 0, .iload 6, 0, 0, .null, []),
  (49, 0, .iload 4, 0, 0, .null, []),
  (51, 17, .if_icmp .ne 7, 2, 9999, .null, [34]),
  (54, 0, .iconst 0, 0, 0, .null, []),
  (55, 0, .goto 4, 0, 0, .null, [35]),
  (58, 0, .iconst 1, 0, 0, .null, []),
  (59, 17, .iadd, 2, 9999, .null, []),
  (60, 0, .istore_n 3, 0, 0, .null, []),
  (61, 0, .iload 6, 0, 0, .null, []),
  (63, 0, .istore 4, 0, 0, .null, []),
  (65, 0, .iinc 5 1, 0, 0, .null, []),
  (68, 0, .goto (-41), 0, 0, .null, [17]),
  (71, 0, .aload_n 0, 0, 0, .null, []),
  (72, 4, .invokevirtual 471, 107, 0, .null, [11]),
  (75, 0, .iload_n 3, 0, 0, .null, []),
  (76, 16, .ireturn, 0, 0, .null, [])])
set_option maxRecDepth 100000 in
noncomputable def ri_m_L_worst : ri_M := (⟨"StillLoopsLaw", "worst", "(LStillLoops;I[J)I"⟩, method_28_code, 4, some .int, 3, [
  (0, 0, .aload_n 2, 0, 0, .null, []),
  (1, 0, .iconst 0, 0, 0, .null, []),
  (2, 0, .aload_n 0, 0, 0, .null, []),
  (3, 0, .iload_n 1, 0, 0, .null, []),
  (4, 4, .invokevirtual 102, 121, 5, .null, [10, 8, 9999, 9999, 9999, 9999]),
  (7, 0, .i2l, 0, 0, .null, []),
  (8, 8, .lastore, 0, 0, .null, []),
  (9, 0, .goto 6, 0, 0, .null, [11]),
  (12, 0, .astore_n 3, 0, 0, .null, []),
  (13, 0, .iconst 1, 0, 0, .null, []),
  (14, 16, .ireturn, 0, 0, .null, []),
  (15, 0, .iconst 0, 0, 0, .null, []),
  (16, 16, .ireturn, 0, 0, .null, [])])
set_option maxRecDepth 100000 in
noncomputable def ri_m_X11_worst : ri_M := (⟨"StillLoopsModel", "worst", "(I)I"⟩, prog_13_method_100_code, 4, some .int, 1, [
  (0, 0, .aload_n 0, 0, 0, .null, []),
  (1, 0, .iconst 0, 0, 0, .null, []),
  (2, 2, .putfield 79, 11, 0, .null, []),
  (5, 0, .aload_n 0, 0, 0, .null, []),
  (6, 0, .iload_n 1, 0, 0, .null, []),
  (7, 0, .iconst 0, 0, 0, .null, []),
  (8, 0, .bipush 60, 0, 0, .null, []),
  (10, 4, .invokestatic 94, 86, 1, .null, []),
  (13, 17, .ifCond .ne 7, 1, 9999, .null, [11]),
  (16, 0, .iconst 1, 0, 0, .null, []),
  (17, 0, .goto 4, 0, 0, .null, [12]),
  (20, 0, .iconst 0, 0, 0, .null, []),
  (21, 0, .iconst 1, 0, 0, .null, []),
  (22, 4, .invokevirtual 305, 83, 0, .null, [11]),
  (25, 17, .ifCond .eq 5, 1, 9999, .null, [17]),
  (28, 0, .iconst 0, 0, 0, .null, []),
  (29, 16, .ireturn, 0, 0, .null, []),
  (30, 0, .aload_n 0, 0, 0, .null, []),
  (31, 4, .invokevirtual 465, 105, 0, .null, [11]),
  (34, 0, .aload_n 0, 0, 0, .null, []),
  (35, 0, .iload_n 1, 0, 0, .null, []),
  (36, 4, .invokevirtual 468, 106, 0, .null, [11]),
  (39, 0, .iconst (-1), 0, 0, .null, []),
  (40, 0, .istore_n 2, 0, 0, .null, []),
  (41, 0, .iconst 0, 0, 0, .null, []),
  (42, 0, .istore_n 3, 0, 0, .null, []),
  (43, 0, .iload_n 3, 0, 0, .null, []),
  (44, 0, .aload_n 0, 0, 0, .null, []),
  (45, 4, .invokevirtual 90, 122, 0, .null, [11]),
  (48, 17, .if_icmp .ge 30, 2, 9999, .null, [45]),
  (51, 0, .iload_n 2, 0, 0, .null, []),
  (52, 0, .iconst (-1), 0, 0, .null, []),
  (53, 17, .if_icmp .eq 17, 2, 9999, .null, [41]),
  (56, 0, .aload_n 0, 0, 0, .null, []),
  (57, 0, .iload_n 3, 0, 0, .null, []),
  (58, 99, .invokevirtual 480, 0, 0, .null, []),
  (61, 0, .aload_n 0, 0, 0, .null, []),
  (62, 0, .iload_n 2, 0, 0, .null, []),
  (63, 99, .invokevirtual 480, 0, 0, .null, []),
  (66, 0, .lcmp, 0, 0, .null, []),
  (67, 17, .ifCond .le 5, 1, 9999, .null, [43]),
  (70, 0, .iload_n 3, 0, 0, .null, []),
  (71, 0, .istore_n 2, 0, 0, .null, []),
  (72, 0, .iinc 3 1, 0, 0, .null, []),
  (75, 0, .goto (-32), 0, 0, .null, [26]),
  (78, 0, .aload_n 0, 0, 0, .null, []),
  (79, 4, .invokevirtual 471, 107, 0, .null, [11]),
  (82, 0, .iload_n 2, 0, 0, .null, []),
  (83, 16, .ireturn, 0, 0, .null, [])])
set_option maxRecDepth 100000 in
noncomputable def ri_m_L_which : ri_M := (⟨"StillLoopsLaw", "which", "(LStillLoops;I[J)I"⟩, method_29_code, 4, some .int, 3, [
  (0, 0, .aload_n 2, 0, 0, .null, []),
  (1, 0, .iconst 0, 0, 0, .null, []),
  (2, 0, .aload_n 0, 0, 0, .null, []),
  (3, 0, .iload_n 1, 0, 0, .null, []),
  (4, 4, .invokevirtual 105, 123, 5, .null, [10, 9999, 9999, 9999, 8, 9999]),
  (7, 0, .i2l, 0, 0, .null, []),
  (8, 8, .lastore, 0, 0, .null, []),
  (9, 0, .goto 6, 0, 0, .null, [11]),
  (12, 0, .astore_n 3, 0, 0, .null, []),
  (13, 0, .iconst 1, 0, 0, .null, []),
  (14, 16, .ireturn, 0, 0, .null, []),
  (15, 0, .iconst 0, 0, 0, .null, []),
  (16, 16, .ireturn, 0, 0, .null, [])])
set_option maxRecDepth 100000 in
noncomputable def ri_m_X11_which : ri_M := (⟨"StillLoopsModel", "which", "(I)I"⟩, prog_13_method_101_code, 5, some .int, 1, [
  (0, 0, .aload_n 0, 0, 0, .null, []),
  (1, 0, .iconst 0, 0, 0, .null, []),
  (2, 2, .putfield 79, 11, 0, .null, []),
  (5, 0, .aload_n 0, 0, 0, .null, []),
  (6, 0, .iload_n 1, 0, 0, .null, []),
  (7, 0, .iconst 0, 0, 0, .null, []),
  (8, 0, .bipush 8, 0, 0, .null, []),
  (10, 4, .invokestatic 94, 86, 1, .null, []),
  (13, 17, .ifCond .ne 7, 1, 9999, .null, [11]),
  (16, 0, .iconst 1, 0, 0, .null, []),
  (17, 0, .goto 4, 0, 0, .null, [12]),
  (20, 0, .iconst 0, 0, 0, .null, []),
  (21, 0, .iconst 1, 0, 0, .null, []),
  (22, 4, .invokevirtual 305, 83, 0, .null, [11]),
  (25, 17, .ifCond .eq 5, 1, 9999, .null, [17]),
  (28, 0, .iconst 0, 0, 0, .null, []),
  (29, 16, .ireturn, 0, 0, .null, []),
  (30, 0, .iconst 0, 0, 0, .null, []),
  (31, 0, .istore_n 2, 0, 0, .null, []),
  (32, 0, .iconst 0, 0, 0, .null, []),
  (33, 0, .istore_n 3, 0, 0, .null, []),
  (34, 0, .iload_n 3, 0, 0, .null, []),
  (35, 0, .aload_n 0, 0, 0, .null, []),
  (36, 4, .invokevirtual 90, 122, 0, .null, [11]),
  (39, 17, .if_icmp .ge 149, 2, 9999, .null, [105]),
  (42, 0, .iload_n 1, 0, 0, .null, []),
  (43, 0, .iconst 3, 0, 0, .null, []),
  (44, 17, .if_icmp .gt 12, 2, 9999, .null, [33]),
  (47, 0, .aload_n 0, 0, 0, .null, []),
  (48, 0, .iload_n 3, 0, 0, .null, []),
  (49, 0, .iload_n 1, 0, 0, .null, []),
  (50, 99, .invokevirtual 336, 0, 0, .null, []),
  (53, 0, .goto 112, 0, 0, .null, [92]),
  (56, 0, .iload_n 1, 0, 0, .null, []),
  (57, 0, .iconst 4, 0, 0, .null, []),
  (58, 17, .if_icmp .ne 23, 2, 9999, .null, [47]),
  (61, 0, .aload_n 0, 0, 0, .null, []),
  (62, 0, .iload_n 3, 0, 0, .null, []),
  (63, 0, .bipush 17, 0, 0, .null, []),
  (65, 99, .invokevirtual 98, 0, 0, .null, []),
  (68, 0, .lconst 1, 0, 0, .null, []),
  (69, 0, .lcmp, 0, 0, .null, []),
  (70, 17, .ifCond .ne 7, 1, 9999, .null, [45]),
  (73, 0, .iconst 1, 0, 0, .null, []),
  (74, 0, .goto 91, 0, 0, .null, [92]),
  (77, 0, .iconst 0, 0, 0, .null, []),
  (78, 0, .goto 87, 0, 0, .null, [92]),
  (81, 0, .iload_n 1, 0, 0, .null, []),
  (82, 0, .iconst 5, 0, 0, .null, []),
  (83, 17, .if_icmp .ne 23, 2, 9999, .null, [61]),
  (86, 0, .aload_n 0, 0, 0, .null, []),
  (87, 0, .iload_n 3, 0, 0, .null, []),
  (88, 0, .bipush 15, 0, 0, .null, []),
  (90, 99, .invokevirtual 98, 0, 0, .null, []),
  (93, 0, .lconst 1, 0, 0, .null, []),
  (94, 0, .lcmp, 0, 0, .null, []),
  (95, 17, .ifCond .ne 7, 1, 9999, .null, [59]),
  (98, 0, .iconst 1, 0, 0, .null, []),
  (99, 0, .goto 66, 0, 0, .null, [92]),
  (102, 0, .iconst 0, 0, 0, .null, []),
  (103, 0, .goto 62, 0, 0, .null, [92]),
  (106, 0, .iload_n 1, 0, 0, .null, []),
  (107, 0, .bipush 6, 0, 0, .null, []),
  (109, 17, .if_icmp .ne 25, 2, 9999, .null, [75]),
  (112, 0, .aload_n 0, 0, 0, .null, []),
  (113, 0, .iload_n 3, 0, 0, .null, []),
  (114, 0, .bipush 15, 0, 0, .null, []),
  (116, 99, .invokevirtual 98, 0, 0, .null, []),
  (119, 3, .ldc2_w 208, 0, 0, .long (-1), []),
  (122, 0, .lcmp, 0, 0, .null, []),
  (123, 17, .ifCond .ne 7, 1, 9999, .null, [73]),
  (126, 0, .iconst 1, 0, 0, .null, []),
  (127, 0, .goto 38, 0, 0, .null, [92]),
  (130, 0, .iconst 0, 0, 0, .null, []),
  (131, 0, .goto 34, 0, 0, .null, [92]),
  (134, 0, .iload_n 1, 0, 0, .null, []),
  (135, 0, .bipush 7, 0, 0, .null, []),
  (137, 17, .if_icmp .ne 23, 2, 9999, .null, [89]),
  (140, 0, .aload_n 0, 0, 0, .null, []),
  (141, 0, .iload_n 3, 0, 0, .null, []),
  (142, 0, .bipush 61, 0, 0, .null, []),
  (144, 99, .invokevirtual 98, 0, 0, .null, []),
  (147, 0, .lconst 0, 0, 0, .null, []),
  (148, 0, .lcmp, 0, 0, .null, []),
  (149, 17, .ifCond .le 7, 1, 9999, .null, [87]),
  (152, 0, .iconst 1, 0, 0, .null, []),
  (153, 0, .goto 12, 0, 0, .null, [92]),
  (156, 0, .iconst 0, 0, 0, .null, []),
  (157, 0, .goto 8, 0, 0, .null, [92]),
  (160, 0, .aload_n 0, 0, 0, .null, []),
  (161, 0, .iload_n 3, 0, 0, .null, []),
  (162, 99, .invokevirtual 404, 0, 0, .null, []),
  (165, 0, .istore 4, 0, 0, .null, []),
  (167, 0, .iload_n 2, 0, 0, .null, []),
  (168, 0, .iload 4, 0, 0, .null, []),
  (170, 17, .ifCond .eq 9, 1, 9999, .null, [100]),
  (173, 0, .iconst 1, 0, 0, .null, []),
  (174, 0, .iload_n 3, 0, 0, .null, []),
  (175, 17, .ishl, 2, 9999, .null, []),
  (176, 0, .goto 4, 0, 0, .null, [101]),
  (179, 0, .iconst 0, 0, 0, .null, []),
  (180, 17, .ior, 2, 9999, .null, []),
  (181, 0, .istore_n 2, 0, 0, .null, []),
  (182, 0, .iinc 3 1, 0, 0, .null, []),
  (185, 0, .goto (-151), 0, 0, .null, [21]),
  (188, 0, .iload_n 2, 0, 0, .null, []),
  (189, 16, .ireturn, 0, 0, .null, [])])
set_option maxRecDepth 100000 in
noncomputable def ri_m_L_event : ri_M := (⟨"StillLoopsLaw", "event", "(LStillLoops;II[J)I"⟩, method_30_code, 5, some .int, 4, [
  (0, 0, .aload_n 3, 0, 0, .null, []),
  (1, 0, .iconst 0, 0, 0, .null, []),
  (2, 0, .aload_n 0, 0, 0, .null, []),
  (3, 0, .iload_n 1, 0, 0, .null, []),
  (4, 0, .iload_n 2, 0, 0, .null, []),
  (5, 4, .invokevirtual 108, 124, 5, .null, [10, 9999, 9999, 9, 12, 9999]),
  (8, 0, .i2l, 0, 0, .null, []),
  (9, 8, .lastore, 0, 0, .null, []),
  (10, 0, .goto 11, 0, 0, .null, [15]),
  (13, 0, .astore 4, 0, 0, .null, []),
  (15, 0, .iconst 1, 0, 0, .null, []),
  (16, 16, .ireturn, 0, 0, .null, []),
  (17, 0, .astore 4, 0, 0, .null, []),
  (19, 0, .iconst 2, 0, 0, .null, []),
  (20, 16, .ireturn, 0, 0, .null, []),
  (21, 0, .iconst 0, 0, 0, .null, []),
  (22, 16, .ireturn, 0, 0, .null, [])])
set_option maxRecDepth 100000 in
noncomputable def ri_m_X11_event : ri_M := (⟨"StillLoopsModel", "event", "(II)I"⟩, prog_13_method_102_code, 3, some .int, 2, [
  (0, 0, .aload_n 0, 0, 0, .null, []),
  (1, 0, .iconst 0, 0, 0, .null, []),
  (2, 2, .putfield 79, 11, 0, .null, []),
  (5, 0, .aload_n 0, 0, 0, .null, []),
  (6, 0, .iload_n 1, 0, 0, .null, []),
  (7, 17, .ifCond .lt 15, 1, 9999, .null, [14]),
  (10, 0, .iload_n 1, 0, 0, .null, []),
  (11, 28, .i2l, 11, 1, .ref 26, [16, 14]),
  (12, 0, .aload_n 0, 0, 0, .null, []),
  (13, 1, .getfield 9, 11, 1, .null, []),
  (16, 0, .iconst 3, 0, 0, .null, []),
  (17, 7, .laload, 0, 0, .null, []),
  (18, 0, .lcmp, 0, 0, .null, []),
  (19, 17, .ifCond .lt 7, 1, 9999, .null, [16]),
  (22, 0, .iconst 1, 0, 0, .null, []),
  (23, 0, .goto 4, 0, 0, .null, [17]),
  (26, 0, .iconst 0, 0, 0, .null, []),
  (27, 0, .iconst 1, 0, 0, .null, []),
  (28, 4, .invokevirtual 305, 83, 0, .null, [11]),
  (31, 17, .ifCond .ne 25, 1, 9999, .null, [32]),
  (34, 0, .aload_n 0, 0, 0, .null, []),
  (35, 0, .iload_n 2, 0, 0, .null, []),
  (36, 0, .iconst 0, 0, 0, .null, []),
  (37, 0, .iconst 3, 0, 0, .null, []),
  (38, 4, .invokestatic 94, 86, 1, .null, []),
  (41, 17, .ifCond .ne 7, 1, 9999, .null, [28]),
  (44, 0, .iconst 1, 0, 0, .null, []),
  (45, 0, .goto 4, 0, 0, .null, [29]),
  (48, 0, .iconst 0, 0, 0, .null, []),
  (49, 0, .iconst 2, 0, 0, .null, []),
  (50, 4, .invokevirtual 305, 83, 0, .null, [11]),
  (53, 17, .ifCond .eq 5, 1, 9999, .null, [34]),
  (56, 0, .iconst 0, 0, 0, .null, []),
  (57, 16, .ireturn, 0, 0, .null, []),
  (58, 0, .aload_n 0, 0, 0, .null, []),
  (59, 1, .getfield 9, 11, 1, .null, []),
  (62, 0, .sipush 313, 0, 0, .null, []),
  (65, 0, .iconst 4, 0, 0, .null, []),
  (66, 0, .iload_n 1, 0, 0, .null, []),
  (67, 17, .imul, 2, 9999, .null, []),
  (68, 17, .iadd, 2, 9999, .null, []),
  (69, 0, .iload_n 2, 0, 0, .null, []),
  (70, 17, .iadd, 2, 9999, .null, []),
  (71, 7, .laload, 0, 0, .null, []),
  (72, 0, .l2i, 0, 0, .null, []),
  (73, 16, .ireturn, 0, 0, .null, [])])
set_option maxRecDepth 100000 in
noncomputable def ri_m_L_log : ri_M := (⟨"StillLoopsLaw", "log", "(LStillLoops;II[J)I"⟩, method_31_code, 5, some .int, 4, [
  (0, 0, .aload_n 3, 0, 0, .null, []),
  (1, 0, .iconst 0, 0, 0, .null, []),
  (2, 0, .aload_n 0, 0, 0, .null, []),
  (3, 0, .iload_n 1, 0, 0, .null, []),
  (4, 0, .iload_n 2, 0, 0, .null, []),
  (5, 4, .invokevirtual 111, 125, 5, .null, [10, 9999, 9999, 9999, 9, 9999]),
  (8, 0, .i2l, 0, 0, .null, []),
  (9, 8, .lastore, 0, 0, .null, []),
  (10, 0, .goto 7, 0, 0, .null, [12]),
  (13, 0, .astore 4, 0, 0, .null, []),
  (15, 0, .iconst 1, 0, 0, .null, []),
  (16, 16, .ireturn, 0, 0, .null, []),
  (17, 0, .iconst 0, 0, 0, .null, []),
  (18, 16, .ireturn, 0, 0, .null, [])])
set_option maxRecDepth 100000 in
noncomputable def ri_m_X11_log : ri_M := (⟨"StillLoopsModel", "log", "(II)I"⟩, prog_13_method_103_code, 3, some .int, 2, [
  (0, 0, .aload_n 0, 0, 0, .null, []),
  (1, 0, .iconst 0, 0, 0, .null, []),
  (2, 2, .putfield 79, 11, 0, .null, []),
  (5, 0, .aload_n 0, 0, 0, .null, []),
  (6, 0, .iload_n 2, 0, 0, .null, []),
  (7, 0, .iconst 0, 0, 0, .null, []),
  (8, 0, .iconst 3, 0, 0, .null, []),
  (9, 4, .invokestatic 94, 86, 1, .null, []),
  (12, 17, .ifCond .ne 7, 1, 9999, .null, [11]),
  (15, 0, .iconst 1, 0, 0, .null, []),
  (16, 0, .goto 4, 0, 0, .null, [12]),
  (19, 0, .iconst 0, 0, 0, .null, []),
  (20, 0, .iconst 1, 0, 0, .null, []),
  (21, 4, .invokevirtual 305, 83, 0, .null, [11]),
  (24, 17, .ifCond .eq 5, 1, 9999, .null, [17]),
  (27, 0, .iconst 0, 0, 0, .null, []),
  (28, 16, .ireturn, 0, 0, .null, []),
  (29, 0, .iload_n 1, 0, 0, .null, []),
  (30, 0, .iconst 0, 0, 0, .null, []),
  (31, 0, .aload_n 0, 0, 0, .null, []),
  (32, 1, .getfield 9, 11, 1, .null, []),
  (35, 0, .iconst 4, 0, 0, .null, []),
  (36, 7, .laload, 0, 0, .null, []),
  (37, 0, .l2i, 0, 0, .null, []),
  (38, 0, .iconst 1, 0, 0, .null, []),
  (39, 17, .isub, 2, 9999, .null, []),
  (40, 4, .invokestatic 94, 86, 1, .null, []),
  (43, 17, .ifCond .eq 21, 1, 9999, .null, [40]),
  (46, 0, .aload_n 0, 0, 0, .null, []),
  (47, 1, .getfield 9, 11, 1, .null, []),
  (50, 0, .sipush 345, 0, 0, .null, []),
  (53, 0, .iconst 4, 0, 0, .null, []),
  (54, 0, .iload_n 1, 0, 0, .null, []),
  (55, 17, .imul, 2, 9999, .null, []),
  (56, 17, .iadd, 2, 9999, .null, []),
  (57, 0, .iload_n 2, 0, 0, .null, []),
  (58, 17, .iadd, 2, 9999, .null, []),
  (59, 7, .laload, 0, 0, .null, []),
  (60, 0, .l2i, 0, 0, .null, []),
  (61, 0, .goto 4, 0, 0, .null, [41]),
  (64, 0, .iconst (-1), 0, 0, .null, []),
  (65, 16, .ireturn, 0, 0, .null, [])])
set_option maxRecDepth 100000 in
noncomputable def ri_m_X10_image : ri_M := (⟨"StillLoops", "image", "()V"⟩, prog_1_method_36_code, 1, none, 0, [
  (0, 0, .aload_n 0, 0, 0, .null, []),
  (1, 1, .getfield 27, 10, 3, .null, []),
  (4, 0, .aload_n 0, 0, 0, .null, []),
  (5, 1, .getfield 23, 10, 2, .null, []),
  (8, 4, .invokevirtual 61, 126, 0, .null, [0]),
  (11, 0, .aload_n 0, 0, 0, .null, []),
  (12, 0, .iconst 1, 0, 0, .null, []),
  (13, 2, .putfield 30, 10, 4, .null, []),
  (16, 16, .return_, 0, 0, .null, [])])
set_option maxRecDepth 100000 in
noncomputable def ri_m_X11_image : ri_M := (⟨"StillLoopsModel", "image", "()V"⟩, prog_13_method_5_code, 2, none, 0, [
  (0, 0, .aload_n 0, 0, 0, .null, []),
  (1, 0, .iconst 0, 0, 0, .null, []),
  (2, 2, .putfield 79, 11, 0, .null, []),
  (5, 0, .iconst 0, 0, 0, .null, []),
  (6, 0, .istore_n 1, 0, 0, .null, []),
  (7, 0, .iload_n 1, 0, 0, .null, []),
  (8, 0, .sipush 585, 0, 0, .null, []),
  (11, 17, .if_icmp .ge 21, 2, 9999, .null, [18]),
  (14, 0, .aload_n 0, 0, 0, .null, []),
  (15, 1, .getfield 13, 11, 2, .null, []),
  (18, 0, .iload_n 1, 0, 0, .null, []),
  (19, 0, .aload_n 0, 0, 0, .null, []),
  (20, 1, .getfield 9, 11, 1, .null, []),
  (23, 0, .iload_n 1, 0, 0, .null, []),
  (24, 7, .laload, 0, 0, .null, []),
  (25, 8, .lastore, 0, 0, .null, []),
  (26, 0, .iinc 1 1, 0, 0, .null, []),
  (29, 0, .goto (-22), 0, 0, .null, [5]),
  (32, 0, .aload_n 0, 0, 0, .null, []),
  (33, 0, .iconst 1, 0, 0, .null, []),
  (34, 2, .putfield 82, 11, 5, .null, []),
  (37, 16, .return_, 0, 0, .null, [])])
set_option maxRecDepth 100000 in
noncomputable def ri_m_X10_back : ri_M := (⟨"StillLoops", "back", "()Z"⟩, prog_1_method_37_code, 1, some .boolean, 0, [
  (0, 0, .aload_n 0, 0, 0, .null, []),
  (1, 1, .getfield 30, 10, 4, .null, []),
  (4, 17, .ifCond .eq 14, 1, 9999, .null, [8]),
  (7, 0, .aload_n 0, 0, 0, .null, []),
  (8, 1, .getfield 23, 10, 2, .null, []),
  (11, 0, .aload_n 0, 0, 0, .null, []),
  (12, 1, .getfield 27, 10, 3, .null, []),
  (15, 4, .invokevirtual 61, 126, 0, .null, [0]),
  (18, 0, .aload_n 0, 0, 0, .null, []),
  (19, 1, .getfield 30, 10, 4, .null, []),
  (22, 16, .ireturn, 0, 0, .null, [])])
set_option maxRecDepth 100000 in
noncomputable def ri_m_X11_back : ri_M := (⟨"StillLoopsModel", "back", "()Z"⟩, prog_13_method_6_code, 2, some .boolean, 0, [
  (0, 0, .aload_n 0, 0, 0, .null, []),
  (1, 0, .iconst 0, 0, 0, .null, []),
  (2, 2, .putfield 79, 11, 0, .null, []),
  (5, 0, .aload_n 0, 0, 0, .null, []),
  (6, 1, .getfield 82, 11, 5, .null, []),
  (9, 17, .ifCond .ne 5, 1, 9999, .null, [8]),
  (12, 0, .iconst 0, 0, 0, .null, []),
  (13, 16, .ireturn, 0, 0, .null, []),
  (14, 0, .iconst 0, 0, 0, .null, []),
  (15, 0, .istore_n 1, 0, 0, .null, []),
  (16, 0, .iload_n 1, 0, 0, .null, []),
  (17, 0, .sipush 585, 0, 0, .null, []),
  (20, 17, .if_icmp .ge 21, 2, 9999, .null, [23]),
  (23, 0, .aload_n 0, 0, 0, .null, []),
  (24, 1, .getfield 9, 11, 1, .null, []),
  (27, 0, .iload_n 1, 0, 0, .null, []),
  (28, 0, .aload_n 0, 0, 0, .null, []),
  (29, 1, .getfield 13, 11, 2, .null, []),
  (32, 0, .iload_n 1, 0, 0, .null, []),
  (33, 7, .laload, 0, 0, .null, []),
  (34, 8, .lastore, 0, 0, .null, []),
  (35, 0, .iinc 1 1, 0, 0, .null, []),
  (38, 0, .goto (-22), 0, 0, .null, [10]),
  (41, 0, .iconst 1, 0, 0, .null, []),
  (42, 16, .ireturn, 0, 0, .null, [])])
set_option maxRecDepth 100000 in
noncomputable def ri_m_X10_count : ri_M := (⟨"StillLoops", "count", "(I)I"⟩, prog_1_method_38_code, 2, some .int, 1, [
  (0, 0, .iload_n 1, 0, 0, .null, []),
  (1, 17, .tableswitch 81 0 4 #[35, 43, 51, 59, 70], 1, 9999, .null, [24, 2, 6, 10, 14, 19]),
  (36, 0, .aload_n 0, 0, 0, .null, []),
  (37, 1, .getfield 23, 10, 2, .null, []),
  (40, 1, .getfield 333, 0, 1, .null, []),
  (43, 16, .ireturn, 0, 0, .null, []),
  (44, 0, .aload_n 0, 0, 0, .null, []),
  (45, 1, .getfield 23, 10, 2, .null, []),
  (48, 1, .getfield 72, 0, 2, .null, []),
  (51, 16, .ireturn, 0, 0, .null, []),
  (52, 0, .aload_n 0, 0, 0, .null, []),
  (53, 1, .getfield 23, 10, 2, .null, []),
  (56, 1, .getfield 376, 0, 3, .null, []),
  (59, 16, .ireturn, 0, 0, .null, []),
  (60, 0, .aload_n 0, 0, 0, .null, []),
  (61, 1, .getfield 23, 10, 2, .null, []),
  (64, 1, .getfield 363, 0, 4, .null, []),
  (67, 1, .getfield 367, 7, 2, .null, []),
  (70, 16, .ireturn, 0, 0, .null, []),
  (71, 0, .aload_n 0, 0, 0, .null, []),
  (72, 1, .getfield 23, 10, 2, .null, []),
  (75, 1, .getfield 373, 0, 5, .null, []),
  (78, 1, .getfield 367, 7, 2, .null, []),
  (81, 16, .ireturn, 0, 0, .null, []),
  (82, 0, .iconst (-1), 0, 0, .null, []),
  (83, 16, .ireturn, 0, 0, .null, [])])
set_option maxRecDepth 100000 in
noncomputable def ri_m_X11_count : ri_M := (⟨"StillLoopsModel", "count", "(I)I"⟩, prog_13_method_104_code, 2, some .int, 1, [
  (0, 0, .aload_n 0, 0, 0, .null, []),
  (1, 0, .iconst 0, 0, 0, .null, []),
  (2, 2, .putfield 79, 11, 0, .null, []),
  (5, 0, .iload_n 1, 0, 0, .null, []),
  (6, 0, .iconst 0, 0, 0, .null, []),
  (7, 0, .iconst 4, 0, 0, .null, []),
  (8, 4, .invokestatic 94, 86, 1, .null, []),
  (11, 17, .ifCond .eq 13, 1, 9999, .null, [14]),
  (14, 0, .aload_n 0, 0, 0, .null, []),
  (15, 1, .getfield 9, 11, 1, .null, []),
  (18, 0, .iload_n 1, 0, 0, .null, []),
  (19, 7, .laload, 0, 0, .null, []),
  (20, 0, .l2i, 0, 0, .null, []),
  (21, 0, .goto 4, 0, 0, .null, [15]),
  (24, 0, .iconst (-1), 0, 0, .null, []),
  (25, 16, .ireturn, 0, 0, .null, [])])
set_option maxRecDepth 100000 in
noncomputable def ri_m_X4_init : ri_M := (⟨"StillLoops$Reade\x72", "<init>", "()V"⟩, prog_6_method_1_code, 1, none, 0, [
  (0, 0, .aload_n 0, 0, 0, .null, []),
  (1, 21, .invokespecial 3, 0, 0, .null, []),
  (4, 0, .aload_n 0, 0, 0, .null, []),
  (5, 18, .new 9, 0, 8, .null, []),
  (8, 0, .dup, 0, 0, .null, []),
  (9, 4, .invokespecial 11, 77, 2, .null, []),
  (12, 2, .putfield 12, 4, 0, .null, []),
  (15, 0, .aload_n 0, 0, 0, .null, []),
  (16, 0, .iconst 0, 0, 0, .null, []),
  (17, 2, .putfield 18, 4, 1, .null, []),
  (20, 0, .aload_n 0, 0, 0, .null, []),
  (21, 0, .sipush 400, 0, 0, .null, []),
  (24, 19, .newarray .byte, 3, 0, .int 0, []),
  (26, 2, .putfield 22, 4, 2, .null, []),
  (29, 0, .aload_n 0, 0, 0, .null, []),
  (30, 0, .iconst 0, 0, 0, .null, []),
  (31, 2, .putfield 26, 4, 3, .null, []),
  (34, 0, .aload_n 0, 0, 0, .null, []),
  (35, 0, .iconst 0, 0, 0, .null, []),
  (36, 2, .putfield 29, 4, 4, .null, []),
  (39, 0, .aload_n 0, 0, 0, .null, []),
  (40, 0, .iconst 0, 0, 0, .null, []),
  (41, 2, .putfield 32, 4, 5, .null, []),
  (44, 0, .aload_n 0, 0, 0, .null, []),
  (45, 0, .iconst (-1), 0, 0, .null, []),
  (46, 2, .putfield 35, 4, 6, .null, []),
  (49, 16, .return_, 0, 0, .null, [])])
set_option maxRecDepth 100000 in
noncomputable def ri_m_X0_init : ri_M := (⟨"StillLoops$Bench", "<init>", "()V"⟩, prog_2_method_1_code, 2, none, 0, [
  (0, 0, .aload_n 0, 0, 0, .null, []),
  (1, 21, .invokespecial 3, 0, 0, .null, []),
  (4, 0, .aload_n 0, 0, 0, .null, []),
  (5, 0, .iconst 4, 0, 0, .null, []),
  (6, 20, .anewarray 9, 5, 0, .null, []),
  (9, 2, .putfield 11, 0, 0, .null, []),
  (12, 0, .aload_n 0, 0, 0, .null, []),
  (13, 0, .iconst 0, 0, 0, .null, []),
  (14, 2, .putfield 17, 0, 1, .null, []),
  (17, 0, .aload_n 0, 0, 0, .null, []),
  (18, 0, .iconst 0, 0, 0, .null, []),
  (19, 2, .putfield 21, 0, 2, .null, []),
  (22, 0, .aload_n 0, 0, 0, .null, []),
  (23, 0, .iconst 0, 0, 0, .null, []),
  (24, 2, .putfield 24, 0, 3, .null, []),
  (27, 0, .aload_n 0, 0, 0, .null, []),
  (28, 18, .new 27, 7, 3, .null, []),
  (31, 0, .dup, 0, 0, .null, []),
  (32, 0, .bipush 8, 0, 0, .null, []),
  (34, 4, .invokespecial 29, 127, 2, .null, []),
  (37, 2, .putfield 32, 0, 4, .null, []),
  (40, 0, .aload_n 0, 0, 0, .null, []),
  (41, 18, .new 27, 7, 3, .null, []),
  (44, 0, .dup, 0, 0, .null, []),
  (45, 0, .bipush 60, 0, 0, .null, []),
  (47, 4, .invokespecial 29, 127, 2, .null, []),
  (50, 2, .putfield 36, 0, 5, .null, []),
  (53, 0, .aload_n 0, 0, 0, .null, []),
  (54, 0, .iconst 4, 0, 0, .null, []),
  (55, 19, .newarray .long, 1, 0, .long 0, []),
  (57, 2, .putfield 39, 0, 6, .null, []),
  (60, 0, .aload_n 0, 0, 0, .null, []),
  (61, 0, .iconst 4, 0, 0, .null, []),
  (62, 19, .newarray .boolean, 2, 0, .int 0, []),
  (64, 2, .putfield 43, 0, 7, .null, []),
  (67, 0, .iconst 0, 0, 0, .null, []),
  (68, 0, .istore_n 1, 0, 0, .null, []),
  (69, 0, .iload_n 1, 0, 0, .null, []),
  (70, 0, .iconst 4, 0, 0, .null, []),
  (71, 17, .if_icmp .ge 22, 2, 9999, .null, [49]),
  (74, 0, .aload_n 0, 0, 0, .null, []),
  (75, 1, .getfield 11, 0, 0, .null, []),
  (78, 0, .iload_n 1, 0, 0, .null, []),
  (79, 18, .new 9, 2, 19, .null, []),
  (82, 0, .dup, 0, 0, .null, []),
  (83, 4, .invokespecial 47, 128, 3, .null, []),
  (86, 14, .aastore, 2, 5, .null, []),
  (87, 0, .iinc 1 1, 0, 0, .null, []),
  (90, 0, .goto (-21), 0, 0, .null, [37]),
  (93, 16, .return_, 0, 0, .null, [])])
set_option maxRecDepth 100000 in
noncomputable def ri_m_X8_init : ri_M := (⟨"StillLoops$Twin", "<init>", "()V"⟩, prog_10_method_1_code, 1, none, 0, [
  (0, 0, .aload_n 0, 0, 0, .null, []),
  (1, 21, .invokespecial 3, 0, 0, .null, []),
  (4, 0, .aload_n 0, 0, 0, .null, []),
  (5, 0, .iconst 4, 0, 0, .null, []),
  (6, 19, .newarray .double, 4, 0, .double 0, []),
  (8, 2, .putfield 9, 8, 0, .null, []),
  (11, 0, .aload_n 0, 0, 0, .null, []),
  (12, 0, .iconst 4, 0, 0, .null, []),
  (13, 19, .newarray .double, 4, 0, .double 0, []),
  (15, 2, .putfield 15, 8, 1, .null, []),
  (18, 0, .aload_n 0, 0, 0, .null, []),
  (19, 0, .iconst 4, 0, 0, .null, []),
  (20, 19, .newarray .double, 4, 0, .double 0, []),
  (22, 2, .putfield 18, 8, 2, .null, []),
  (25, 0, .aload_n 0, 0, 0, .null, []),
  (26, 0, .iconst 4, 0, 0, .null, []),
  (27, 19, .newarray .double, 4, 0, .double 0, []),
  (29, 2, .putfield 21, 8, 3, .null, []),
  (32, 0, .aload_n 0, 0, 0, .null, []),
  (33, 0, .iconst 4, 0, 0, .null, []),
  (34, 19, .newarray .double, 4, 0, .double 0, []),
  (36, 2, .putfield 24, 8, 4, .null, []),
  (39, 0, .aload_n 0, 0, 0, .null, []),
  (40, 0, .iconst 4, 0, 0, .null, []),
  (41, 19, .newarray .double, 4, 0, .double 0, []),
  (43, 2, .putfield 27, 8, 5, .null, []),
  (46, 0, .aload_n 0, 0, 0, .null, []),
  (47, 0, .iconst 4, 0, 0, .null, []),
  (48, 19, .newarray .double, 4, 0, .double 0, []),
  (50, 2, .putfield 30, 8, 6, .null, []),
  (53, 0, .aload_n 0, 0, 0, .null, []),
  (54, 0, .iconst 4, 0, 0, .null, []),
  (55, 19, .newarray .double, 4, 0, .double 0, []),
  (57, 2, .putfield 33, 8, 7, .null, []),
  (60, 0, .aload_n 0, 0, 0, .null, []),
  (61, 0, .iconst 4, 0, 0, .null, []),
  (62, 0, .bipush 9, 0, 0, .null, []),
  (64, 26, .multianewarray 36 2, 4, 6, .null, []),
  (68, 2, .putfield 38, 8, 8, .null, []),
  (71, 16, .return_, 0, 0, .null, [])])
set_option maxRecDepth 100000 in
noncomputable def ri_m_X6_init : ri_M := (⟨"StillLoops$Rounds", "<init>", "()V"⟩, prog_8_method_1_code, 1, none, 0, [
  (0, 0, .aload_n 0, 0, 0, .null, []),
  (1, 21, .invokespecial 7, 0, 0, .null, []),
  (4, 0, .aload_n 0, 0, 0, .null, []),
  (5, 0, .iconst (-1), 0, 0, .null, []),
  (6, 2, .putfield 13, 6, 0, .null, []),
  (9, 0, .aload_n 0, 0, 0, .null, []),
  (10, 0, .iconst (-1), 0, 0, .null, []),
  (11, 2, .putfield 17, 6, 1, .null, []),
  (14, 0, .aload_n 0, 0, 0, .null, []),
  (15, 0, .iconst 5, 0, 0, .null, []),
  (16, 19, .newarray .int, 0, 0, .int 0, []),
  (18, 2, .putfield 20, 6, 2, .null, []),
  (21, 0, .aload_n 0, 0, 0, .null, []),
  (22, 0, .sipush 1000, 0, 0, .null, []),
  (25, 19, .newarray .long, 1, 0, .long 0, []),
  (27, 2, .putfield 24, 6, 3, .null, []),
  (30, 16, .return_, 0, 0, .null, [])])
set_option maxRecDepth 100000 in
noncomputable def ri_m_X4_append : ri_M := (⟨"StillLoops$Reade\x72", "append", "(I)V"⟩, prog_6_method_2_code, 3, none, 1, [
  (0, 0, .bipush 24, 0, 0, .null, []),
  (2, 0, .istore_n 2, 0, 0, .null, []),
  (3, 0, .iload_n 2, 0, 0, .null, []),
  (4, 17, .ifCond .lt 42, 1, 9999, .null, [25]),
  (7, 0, .aload_n 0, 0, 0, .null, []),
  (8, 1, .getfield 18, 4, 1, .null, []),
  (11, 0, .sipush 400, 0, 0, .null, []),
  (14, 17, .if_icmp .ge 32, 2, 9999, .null, [25]),
  (17, 0, .aload_n 0, 0, 0, .null, []),
  (18, 1, .getfield 22, 4, 2, .null, []),
  (21, 0, .aload_n 0, 0, 0, .null, []),
  (22, 1, .getfield 18, 4, 1, .null, []),
  (25, 0, .iload_n 1, 0, 0, .null, []),
  (26, 0, .iload_n 2, 0, 0, .null, []),
  (27, 17, .ishr, 2, 9999, .null, []),
  (28, 17, .i2b, 1, 9999, .null, []),
  (29, 27, .bastore, 0, 0, .null, []),
  (30, 0, .aload_n 0, 0, 0, .null, []),
  (31, 0, .dup, 0, 0, .null, []),
  (32, 1, .getfield 18, 4, 1, .null, []),
  (35, 0, .iconst 1, 0, 0, .null, []),
  (36, 17, .iadd, 2, 9999, .null, []),
  (37, 2, .putfield 18, 4, 1, .null, []),
  (40, 0, .iinc 2 (-8), 0, 0, .null, []),
  (43, 0, .goto (-40), 0, 0, .null, [2]),
  (46, 16, .return_, 0, 0, .null, [])])
set_option maxRecDepth 100000 in
noncomputable def ri_m_X10_bench : ri_M := (⟨"StillLoops", "bench", "()I"⟩, prog_1_method_4_code, 1, some .int, 0, [
  (0, 0, .aload_n 0, 0, 0, .null, []),
  (1, 1, .getfield 10, 10, 0, .null, []),
  (4, 1, .getfield 58, 4, 0, .null, []),
  (7, 0, .aload_n 0, 0, 0, .null, []),
  (8, 1, .getfield 23, 10, 2, .null, []),
  (11, 4, .invokevirtual 61, 126, 0, .null, [0]),
  (14, 0, .aload_n 0, 0, 0, .null, []),
  (15, 0, .aload_n 0, 0, 0, .null, []),
  (16, 1, .getfield 10, 10, 0, .null, []),
  (19, 4, .invokevirtual 65, 129, 0, .null, [4]),
  (22, 2, .putfield 16, 10, 1, .null, []),
  (25, 0, .aload_n 0, 0, 0, .null, []),
  (26, 1, .getfield 16, 10, 1, .null, []),
  (29, 0, .iconst (-1), 0, 0, .null, []),
  (30, 17, .if_icmp .eq 11, 2, 9999, .null, [19]),
  (33, 23, .new 69, 0, 71, .null, []),
  (36, 0, .dup, 0, 0, .null, []),
  (37, 99, .invokespecial 71, 0, 0, .null, []),
  (40, 99, .athrow, 0, 0, .null, []),
  (41, 0, .aload_n 0, 0, 0, .null, []),
  (42, 1, .getfield 23, 10, 2, .null, []),
  (45, 1, .getfield 72, 0, 2, .null, []),
  (48, 0, .bipush 12, 0, 0, .null, []),
  (50, 17, .if_icmp .lt 11, 2, 9999, .null, [28]),
  (53, 23, .new 75, 1, 77, .null, []),
  (56, 0, .dup, 0, 0, .null, []),
  (57, 99, .invokespecial 77, 0, 0, .null, []),
  (60, 99, .athrow, 0, 0, .null, []),
  (61, 0, .aload_n 0, 0, 0, .null, []),
  (62, 1, .getfield 23, 10, 2, .null, []),
  (65, 0, .aload_n 0, 0, 0, .null, []),
  (66, 1, .getfield 10, 10, 0, .null, []),
  (69, 1, .getfield 58, 4, 0, .null, []),
  (72, 4, .invokevirtual 61, 126, 0, .null, [0]),
  (75, 0, .aload_n 0, 0, 0, .null, []),
  (76, 1, .getfield 23, 10, 2, .null, []),
  (79, 0, .dup, 0, 0, .null, []),
  (80, 1, .getfield 72, 0, 2, .null, []),
  (83, 0, .iconst 1, 0, 0, .null, []),
  (84, 17, .iadd, 2, 9999, .null, []),
  (85, 2, .putfield 72, 0, 2, .null, []),
  (88, 0, .aload_n 0, 0, 0, .null, []),
  (89, 1, .getfield 23, 10, 2, .null, []),
  (92, 1, .getfield 72, 0, 2, .null, []),
  (95, 16, .ireturn, 0, 0, .null, [])])
set_option maxRecDepth 100000 in
noncomputable def ri_m_X11_readBench : ri_M := (⟨"StillLoopsModel", "readBench", "()Z"⟩, prog_13_method_46_code, 2, some .boolean, 0, [
  (0, 0, .aload_n 0, 0, 0, .null, []),
  (1, 4, .invokevirtual 139, 130, 0, .null, [11]),
  (4, 0, .aload_n 0, 0, 0, .null, []),
  (5, 1, .getfield 126, 11, 8, .null, []),
  (8, 0, .aload_n 0, 0, 0, .null, []),
  (9, 1, .getfield 129, 11, 9, .null, []),
  (12, 17, .if_icmp .ne 5, 2, 9999, .null, [9]),
  (15, 0, .iconst 1, 0, 0, .null, []),
  (16, 16, .ireturn, 0, 0, .null, []),
  (17, 0, .iconst 0, 0, 0, .null, []),
  (18, 0, .istore_n 1, 0, 0, .null, []),
  (19, 0, .aload_n 0, 0, 0, .null, []),
  (20, 99, .invokevirtual 151, 0, 0, .null, []),
  (23, 0, .iload_n 1, 0, 0, .null, []),
  (24, 0, .bipush 14, 0, 0, .null, []),
  (26, 17, .if_icmp .eq 10, 2, 9999, .null, [19]),
  (29, 0, .aload_n 0, 0, 0, .null, []),
  (30, 99, .invokevirtual 299, 0, 0, .null, []),
  (33, 17, .ifCond .ne 5, 1, 9999, .null, [21]),
  (36, 0, .iconst 0, 0, 0, .null, []),
  (37, 16, .ireturn, 0, 0, .null, []),
  (38, 0, .aload_n 0, 0, 0, .null, []),
  (39, 4, .invokevirtual 139, 130, 0, .null, [11]),
  (42, 0, .aload_n 0, 0, 0, .null, []),
  (43, 1, .getfield 126, 11, 8, .null, []),
  (46, 0, .aload_n 0, 0, 0, .null, []),
  (47, 1, .getfield 129, 11, 9, .null, []),
  (50, 17, .if_icmp .ne 5, 2, 9999, .null, [30]),
  (53, 0, .iconst 1, 0, 0, .null, []),
  (54, 16, .ireturn, 0, 0, .null, []),
  (55, 0, .aload_n 0, 0, 0, .null, []),
  (56, 0, .bipush 59, 0, 0, .null, []),
  (58, 0, .bipush 59, 0, 0, .null, []),
  (60, 4, .invokevirtual 132, 131, 0, .null, [11]),
  (63, 17, .ifCond .ne 5, 1, 9999, .null, [37]),
  (66, 0, .iconst 0, 0, 0, .null, []),
  (67, 16, .ireturn, 0, 0, .null, []),
  (68, 0, .aload_n 0, 0, 0, .null, []),
  (69, 0, .dup, 0, 0, .null, []),
  (70, 1, .getfield 126, 11, 8, .null, []),
  (73, 0, .iconst 1, 0, 0, .null, []),
  (74, 17, .iadd, 2, 9999, .null, []),
  (75, 2, .putfield 126, 11, 8, .null, []),
  (78, 0, .iinc 1 1, 0, 0, .null, []),
  (81, 0, .goto (-62), 0, 0, .null, [11])])
set_option maxRecDepth 100000 in
noncomputable def ri_m_X11_throwsIf : ri_M := (⟨"StillLoopsModel", "throwsIf", "(ZI)Z"⟩, prog_13_method_3_code, 3, some .boolean, 2, [
  (0, 0, .iload_n 1, 0, 0, .null, []),
  (1, 17, .ifCond .eq 8, 1, 9999, .null, [5]),
  (4, 0, .aload_n 0, 0, 0, .null, []),
  (5, 0, .iload_n 2, 0, 0, .null, []),
  (6, 2, .putfield 79, 11, 0, .null, []),
  (9, 0, .iload_n 1, 0, 0, .null, []),
  (10, 16, .ireturn, 0, 0, .null, [])])
set_option maxRecDepth 100000 in
noncomputable def ri_m_X10_loop : ri_M := (⟨"StillLoops", "loop", "(II)I"⟩, prog_1_method_6_code, 4, some .int, 2, [
  (0, 0, .aload_n 0, 0, 0, .null, []),
  (1, 0, .iload_n 1, 0, 0, .null, []),
  (2, 4, .invokevirtual 78, 132, 0, .null, [10]),
  (5, 0, .astore_n 3, 0, 0, .null, []),
  (6, 0, .iload_n 2, 0, 0, .null, []),
  (7, 17, .tableswitch 243 0 20 #[97, 105, 113, 121, 129, 137, 145, 153, 158, 163, 168, 176, 181, 189, 194, 202, 207, 212, 225, 230, 235], 1, 9999, .null, [84, 6, 10, 14, 18, 22, 26, 30, 34, 37, 40, 43, 47, 50, 54, 57, 61, 64, 67, 74, 77, 80]),
  (104, 0, .aload_n 3, 0, 0, .null, []),
  (105, 1, .getfield 82, 2, 0, .null, []),
  (108, 1, .getfield 88, 3, 0, .null, []),
  (111, 16, .ireturn, 0, 0, .null, []),
  (112, 0, .aload_n 3, 0, 0, .null, []),
  (113, 1, .getfield 82, 2, 0, .null, []),
  (116, 1, .getfield 93, 3, 1, .null, []),
  (119, 16, .ireturn, 0, 0, .null, []),
  (120, 0, .aload_n 3, 0, 0, .null, []),
  (121, 1, .getfield 82, 2, 0, .null, []),
  (124, 1, .getfield 96, 3, 2, .null, []),
  (127, 16, .ireturn, 0, 0, .null, []),
  (128, 0, .aload_n 3, 0, 0, .null, []),
  (129, 1, .getfield 82, 2, 0, .null, []),
  (132, 1, .getfield 99, 3, 3, .null, []),
  (135, 16, .ireturn, 0, 0, .null, []),
  (136, 0, .aload_n 3, 0, 0, .null, []),
  (137, 1, .getfield 82, 2, 0, .null, []),
  (140, 1, .getfield 102, 3, 4, .null, []),
  (143, 16, .ireturn, 0, 0, .null, []),
  (144, 0, .aload_n 3, 0, 0, .null, []),
  (145, 1, .getfield 105, 2, 1, .null, []),
  (148, 1, .getfield 109, 9, 0, .null, []),
  (151, 16, .ireturn, 0, 0, .null, []),
  (152, 0, .aload_n 3, 0, 0, .null, []),
  (153, 1, .getfield 105, 2, 1, .null, []),
  (156, 1, .getfield 114, 9, 1, .null, []),
  (159, 16, .ireturn, 0, 0, .null, []),
  (160, 0, .aload_n 3, 0, 0, .null, []),
  (161, 1, .getfield 117, 2, 4, .null, []),
  (164, 16, .ireturn, 0, 0, .null, []),
  (165, 0, .aload_n 3, 0, 0, .null, []),
  (166, 1, .getfield 120, 2, 5, .null, []),
  (169, 16, .ireturn, 0, 0, .null, []),
  (170, 0, .aload_n 3, 0, 0, .null, []),
  (171, 1, .getfield 123, 2, 6, .null, []),
  (174, 16, .ireturn, 0, 0, .null, []),
  (175, 0, .aload_n 3, 0, 0, .null, []),
  (176, 1, .getfield 82, 2, 0, .null, []),
  (179, 99, .invokevirtual 126, 0, 0, .null, []),
  (182, 16, .ireturn, 0, 0, .null, []),
  (183, 0, .aload_n 3, 0, 0, .null, []),
  (184, 1, .getfield 129, 2, 7, .null, []),
  (187, 16, .ireturn, 0, 0, .null, []),
  (188, 0, .aload_n 3, 0, 0, .null, []),
  (189, 1, .getfield 105, 2, 1, .null, []),
  (192, 1, .getfield 132, 9, 3, .null, []),
  (195, 16, .ireturn, 0, 0, .null, []),
  (196, 0, .aload_n 3, 0, 0, .null, []),
  (197, 1, .getfield 135, 2, 11, .null, []),
  (200, 16, .ireturn, 0, 0, .null, []),
  (201, 0, .aload_n 3, 0, 0, .null, []),
  (202, 1, .getfield 138, 2, 2, .null, []),
  (205, 1, .getfield 142, 1, 5, .null, []),
  (208, 16, .ireturn, 0, 0, .null, []),
  (209, 0, .aload_n 3, 0, 0, .null, []),
  (210, 1, .getfield 147, 2, 12, .null, []),
  (213, 16, .ireturn, 0, 0, .null, []),
  (214, 0, .aload_n 3, 0, 0, .null, []),
  (215, 1, .getfield 150, 2, 13, .null, []),
  (218, 16, .ireturn, 0, 0, .null, []),
  (219, 0, .aload_n 3, 0, 0, .null, []),
  (220, 1, .getfield 153, 2, 14, .null, []),
  (223, 17, .ifCond .eq 7, 1, 9999, .null, [72]),
  (226, 0, .iconst 1, 0, 0, .null, []),
  (227, 0, .goto 4, 0, 0, .null, [73]),
  (230, 0, .iconst 0, 0, 0, .null, []),
  (231, 16, .ireturn, 0, 0, .null, []),
  (232, 0, .aload_n 3, 0, 0, .null, []),
  (233, 1, .getfield 156, 2, 17, .null, []),
  (236, 16, .ireturn, 0, 0, .null, []),
  (237, 0, .aload_n 3, 0, 0, .null, []),
  (238, 1, .getfield 159, 2, 18, .null, []),
  (241, 16, .ireturn, 0, 0, .null, []),
  (242, 0, .aload_n 3, 0, 0, .null, []),
  (243, 1, .getfield 105, 2, 1, .null, []),
  (246, 1, .getfield 162, 9, 4, .null, []),
  (249, 16, .ireturn, 0, 0, .null, []),
  (250, 23, .new 165, 3, 167, .null, []),
  (253, 0, .dup, 0, 0, .null, []),
  (254, 99, .invokespecial 167, 0, 0, .null, []),
  (257, 99, .athrow, 0, 0, .null, [])])
set_option maxRecDepth 100000 in
noncomputable def ri_m_X11_noLoop : ri_M := (⟨"StillLoopsModel", "noLoop", "(I)Z"⟩, prog_13_method_14_code, 2, some .boolean, 1, [
  (0, 0, .iload_n 1, 0, 0, .null, []),
  (1, 0, .iconst 0, 0, 0, .null, []),
  (2, 0, .aload_n 0, 0, 0, .null, []),
  (3, 4, .invokevirtual 90, 122, 0, .null, [11]),
  (6, 0, .iconst 1, 0, 0, .null, []),
  (7, 17, .isub, 2, 9999, .null, []),
  (8, 4, .invokestatic 94, 86, 1, .null, []),
  (11, 17, .ifCond .ne 7, 1, 9999, .null, [10]),
  (14, 0, .iconst 1, 0, 0, .null, []),
  (15, 0, .goto 4, 0, 0, .null, [11]),
  (18, 0, .iconst 0, 0, 0, .null, []),
  (19, 16, .ireturn, 0, 0, .null, [])])
set_option maxRecDepth 100000 in
noncomputable def ri_m_X11_in : ri_M := (⟨"StillLoopsModel", "in", "(III)Z"⟩, prog_13_method_4_code, 3, some .boolean, 3, [
  (0, 0, .iload_n 0, 0, 0, .null, []),
  (1, 0, .iload_n 1, 0, 0, .null, []),
  (2, 17, .if_icmp .lt 12, 2, 9999, .null, [8]),
  (5, 0, .iload_n 0, 0, 0, .null, []),
  (6, 0, .iload_n 2, 0, 0, .null, []),
  (7, 17, .if_icmp .gt 7, 2, 9999, .null, [8]),
  (10, 0, .iconst 1, 0, 0, .null, []),
  (11, 0, .goto 4, 0, 0, .null, [9]),
  (14, 0, .iconst 0, 0, 0, .null, []),
  (15, 16, .ireturn, 0, 0, .null, [])])
set_option maxRecDepth 100000 in
noncomputable def ri_m_X10_inner : ri_M := (⟨"StillLoops", "inne\x72", "(II)J"⟩, prog_1_method_7_code, 4, some .long, 2, [
  (0, 0, .aload_n 0, 0, 0, .null, []),
  (1, 0, .iload_n 1, 0, 0, .null, []),
  (2, 4, .invokevirtual 78, 132, 0, .null, [10]),
  (5, 0, .astore_n 3, 0, 0, .null, []),
  (6, 0, .iload_n 2, 0, 0, .null, []),
  (7, 17, .tableswitch 78 0 5 #[37, 46, 55, 60, 65, 70], 1, 9999, .null, [29, 6, 11, 16, 19, 22, 25]),
  (44, 0, .aload_n 3, 0, 0, .null, []),
  (45, 1, .getfield 82, 2, 0, .null, []),
  (48, 1, .getfield 168, 3, 5, .null, []),
  (51, 0, .i2l, 0, 0, .null, []),
  (52, 16, .lreturn, 0, 0, .null, []),
  (53, 0, .aload_n 3, 0, 0, .null, []),
  (54, 1, .getfield 82, 2, 0, .null, []),
  (57, 1, .getfield 171, 3, 6, .null, []),
  (60, 0, .i2l, 0, 0, .null, []),
  (61, 16, .lreturn, 0, 0, .null, []),
  (62, 0, .aload_n 3, 0, 0, .null, []),
  (63, 1, .getfield 174, 2, 8, .null, []),
  (66, 16, .lreturn, 0, 0, .null, []),
  (67, 0, .aload_n 3, 0, 0, .null, []),
  (68, 1, .getfield 178, 2, 9, .null, []),
  (71, 16, .lreturn, 0, 0, .null, []),
  (72, 0, .aload_n 3, 0, 0, .null, []),
  (73, 1, .getfield 181, 2, 10, .null, []),
  (76, 16, .lreturn, 0, 0, .null, []),
  (77, 0, .aload_n 3, 0, 0, .null, []),
  (78, 1, .getfield 138, 2, 2, .null, []),
  (81, 99, .invokevirtual 184, 0, 0, .null, []),
  (84, 16, .lreturn, 0, 0, .null, []),
  (85, 23, .new 165, 3, 167, .null, []),
  (88, 0, .dup, 0, 0, .null, []),
  (89, 99, .invokespecial 167, 0, 0, .null, []),
  (92, 99, .athrow, 0, 0, .null, [])])
set_option maxRecDepth 100000 in
noncomputable def ri_m_X10_gain : ri_M := (⟨"StillLoops", "gain", "(III)I"⟩, prog_1_method_8_code, 5, some .int, 3, [
  (0, 0, .aload_n 0, 0, 0, .null, []),
  (1, 0, .iload_n 1, 0, 0, .null, []),
  (2, 4, .invokevirtual 78, 132, 0, .null, [10]),
  (5, 1, .getfield 138, 2, 2, .null, []),
  (8, 0, .astore 4, 0, 0, .null, []),
  (10, 0, .iload_n 2, 0, 0, .null, []),
  (11, 17, .ifCond .lt 12, 1, 9999, .null, [11]),
  (14, 0, .iload_n 2, 0, 0, .null, []),
  (15, 0, .aload 4, 0, 0, .null, []),
  (17, 1, .getfield 142, 1, 5, .null, []),
  (20, 17, .if_icmp .lt 11, 2, 9999, .null, [15]),
  (23, 23, .new 188, 2, 190, .null, []),
  (26, 0, .dup, 0, 0, .null, []),
  (27, 99, .invokespecial 190, 0, 0, .null, []),
  (30, 99, .athrow, 0, 0, .null, []),
  (31, 0, .iload_n 3, 0, 0, .null, []),
  (32, 17, .tableswitch 64 0 3 #[32, 40, 48, 56], 1, 9999, .null, [37, 17, 22, 27, 32]),
  (64, 0, .aload 4, 0, 0, .null, []),
  (66, 1, .getfield 191, 1, 6, .null, []),
  (69, 0, .iload_n 2, 0, 0, .null, []),
  (70, 5, .iaload, 0, 0, .null, []),
  (71, 16, .ireturn, 0, 0, .null, []),
  (72, 0, .aload 4, 0, 0, .null, []),
  (74, 1, .getfield 195, 1, 7, .null, []),
  (77, 0, .iload_n 2, 0, 0, .null, []),
  (78, 5, .iaload, 0, 0, .null, []),
  (79, 16, .ireturn, 0, 0, .null, []),
  (80, 0, .aload 4, 0, 0, .null, []),
  (82, 1, .getfield 198, 1, 8, .null, []),
  (85, 0, .iload_n 2, 0, 0, .null, []),
  (86, 5, .iaload, 0, 0, .null, []),
  (87, 16, .ireturn, 0, 0, .null, []),
  (88, 0, .aload 4, 0, 0, .null, []),
  (90, 1, .getfield 201, 1, 9, .null, []),
  (93, 0, .iload_n 2, 0, 0, .null, []),
  (94, 5, .iaload, 0, 0, .null, []),
  (95, 16, .ireturn, 0, 0, .null, []),
  (96, 23, .new 165, 3, 167, .null, []),
  (99, 0, .dup, 0, 0, .null, []),
  (100, 99, .invokespecial 167, 0, 0, .null, []),
  (103, 99, .athrow, 0, 0, .null, [])])
set_option maxRecDepth 100000 in
noncomputable def ri_m_X10_weight : ri_M := (⟨"StillLoops", "weight", "(II)I"⟩, prog_1_method_9_code, 4, some .int, 2, [
  (0, 0, .aload_n 0, 0, 0, .null, []),
  (1, 0, .iload_n 1, 0, 0, .null, []),
  (2, 4, .invokevirtual 78, 132, 0, .null, [10]),
  (5, 0, .astore_n 3, 0, 0, .null, []),
  (6, 0, .iload_n 2, 0, 0, .null, []),
  (7, 17, .tableswitch 85 0 5 #[37, 45, 53, 61, 69, 77], 1, 9999, .null, [30, 6, 10, 14, 18, 22, 26]),
  (44, 0, .aload_n 3, 0, 0, .null, []),
  (45, 1, .getfield 138, 2, 2, .null, []),
  (48, 1, .getfield 204, 1, 0, .null, []),
  (51, 16, .ireturn, 0, 0, .null, []),
  (52, 0, .aload_n 3, 0, 0, .null, []),
  (53, 1, .getfield 138, 2, 2, .null, []),
  (56, 1, .getfield 207, 1, 1, .null, []),
  (59, 16, .ireturn, 0, 0, .null, []),
  (60, 0, .aload_n 3, 0, 0, .null, []),
  (61, 1, .getfield 138, 2, 2, .null, []),
  (64, 1, .getfield 210, 1, 2, .null, []),
  (67, 16, .ireturn, 0, 0, .null, []),
  (68, 0, .aload_n 3, 0, 0, .null, []),
  (69, 1, .getfield 138, 2, 2, .null, []),
  (72, 1, .getfield 213, 1, 3, .null, []),
  (75, 16, .ireturn, 0, 0, .null, []),
  (76, 0, .aload_n 3, 0, 0, .null, []),
  (77, 1, .getfield 105, 2, 1, .null, []),
  (80, 1, .getfield 216, 9, 2, .null, []),
  (83, 16, .ireturn, 0, 0, .null, []),
  (84, 0, .aload_n 3, 0, 0, .null, []),
  (85, 1, .getfield 138, 2, 2, .null, []),
  (88, 1, .getfield 219, 1, 4, .null, []),
  (91, 16, .ireturn, 0, 0, .null, []),
  (92, 23, .new 165, 3, 167, .null, []),
  (95, 0, .dup, 0, 0, .null, []),
  (96, 99, .invokespecial 167, 0, 0, .null, []),
  (99, 99, .athrow, 0, 0, .null, [])])
set_option maxRecDepth 100000 in
noncomputable def ri_m_X10_trip : ri_M := (⟨"StillLoops", "trip", "(II)I"⟩, prog_1_method_10_code, 4, some .int, 2, [
  (0, 0, .aload_n 0, 0, 0, .null, []),
  (1, 0, .iload_n 1, 0, 0, .null, []),
  (2, 4, .invokevirtual 78, 132, 0, .null, [10]),
  (5, 0, .astore_n 3, 0, 0, .null, []),
  (6, 0, .iload_n 2, 0, 0, .null, []),
  (7, 17, .ifCond .lt 11, 1, 9999, .null, [10]),
  (10, 0, .iload_n 2, 0, 0, .null, []),
  (11, 0, .aload_n 3, 0, 0, .null, []),
  (12, 1, .getfield 222, 2, 16, .null, []),
  (15, 17, .if_icmp .lt 7, 2, 9999, .null, [12]),
  (18, 0, .iconst (-1), 0, 0, .null, []),
  (19, 0, .goto 9, 0, 0, .null, [16]),
  (22, 0, .aload_n 3, 0, 0, .null, []),
  (23, 1, .getfield 225, 2, 15, .null, []),
  (26, 0, .iload_n 2, 0, 0, .null, []),
  (27, 5, .iaload, 0, 0, .null, []),
  (28, 16, .ireturn, 0, 0, .null, [])])
set_option maxRecDepth 100000 in
noncomputable def ri_m_X10_whose : ri_M := (⟨"StillLoops", "whose", "(II)I"⟩, prog_1_method_11_code, 6, some .int, 2, [
  (0, 0, .aload_n 0, 0, 0, .null, []),
  (1, 0, .iload_n 1, 0, 0, .null, []),
  (2, 4, .invokevirtual 78, 132, 0, .null, [10]),
  (5, 0, .astore_n 3, 0, 0, .null, []),
  (6, 0, .iload_n 2, 0, 0, .null, []),
  (7, 17, .ifCond .lt 11, 1, 9999, .null, [10]),
  (10, 0, .iload_n 2, 0, 0, .null, []),
  (11, 0, .aload_n 3, 0, 0, .null, []),
  (12, 1, .getfield 222, 2, 16, .null, []),
  (15, 17, .if_icmp .lt 5, 2, 9999, .null, [12]),
  (18, 0, .iconst (-1), 0, 0, .null, []),
  (19, 16, .ireturn, 0, 0, .null, []),
  (20, 0, .iload_n 1, 0, 0, .null, []),
  (21, 0, .istore 4, 0, 0, .null, []),
  (23, 0, .iconst 0, 0, 0, .null, []),
  (24, 0, .istore 5, 0, 0, .null, []),
  (26, 0, .iload 5, 0, 0, .null, []),
  (28, 0, .iload_n 2, 0, 0, .null, []),
  (29, 17, .if_icmp .ge 30, 2, 9999, .null, [31]),
  (32, 0, .iload 4, 0, 0, .null, []),
  (34, 0, .iconst (-1), 0, 0, .null, []),
  (35, 17, .if_icmp .eq 24, 2, 9999, .null, [31]),
  (38, 0, .aload_n 0, 0, 0, .null, []),
  (39, 1, .getfield 23, 10, 2, .null, []),
  (42, 1, .getfield 228, 0, 0, .null, []),
  (45, 0, .iload 4, 0, 0, .null, []),
  (47, 11, .aaload, 0, 0, .null, []),
  (48, 1, .getfield 117, 2, 4, .null, []),
  (51, 0, .istore 4, 0, 0, .null, []),
  (53, 0, .iinc 5 1, 0, 0, .null, []),
  (56, 0, .goto (-30), 0, 0, .null, [16]),
  (59, 0, .iload 4, 0, 0, .null, []),
  (61, 16, .ireturn, 0, 0, .null, [])])
set_option maxRecDepth 100000 in
noncomputable def ri_m_X10_flow : ri_M := (⟨"StillLoops", "flow", "(II)I"⟩, prog_1_method_12_code, 4, some .int, 2, [
  (0, 0, .aload_n 0, 0, 0, .null, []),
  (1, 0, .iload_n 1, 0, 0, .null, []),
  (2, 4, .invokevirtual 78, 132, 0, .null, [10]),
  (5, 1, .getfield 105, 2, 1, .null, []),
  (8, 0, .astore_n 3, 0, 0, .null, []),
  (9, 0, .iload_n 2, 0, 0, .null, []),
  (10, 0, .aload_n 3, 0, 0, .null, []),
  (11, 1, .getfield 109, 9, 0, .null, []),
  (14, 0, .aload_n 3, 0, 0, .null, []),
  (15, 1, .getfield 114, 9, 1, .null, []),
  (18, 4, .invokestatic 232, 133, 1, .null, []),
  (21, 0, .aload_n 3, 0, 0, .null, []),
  (22, 0, .iload_n 2, 0, 0, .null, []),
  (23, 99, .invokevirtual 236, 0, 0, .null, []),
  (26, 16, .ireturn, 0, 0, .null, [])])
set_option maxRecDepth 100000 in
noncomputable def ri_m_X10_ticks : ri_M := (⟨"StillLoops", "ticks", "(I)I"⟩, prog_1_method_13_code, 4, some .int, 1, [
  (0, 0, .iload_n 1, 0, 0, .null, []),
  (1, 0, .iconst 1, 0, 0, .null, []),
  (2, 0, .bipush 60, 0, 0, .null, []),
  (4, 4, .invokestatic 232, 133, 1, .null, []),
  (7, 0, .iconst 0, 0, 0, .null, []),
  (8, 0, .istore_n 2, 0, 0, .null, []),
  (9, 0, .iconst 0, 0, 0, .null, []),
  (10, 0, .istore_n 3, 0, 0, .null, []),
  (11, 0, .iload_n 3, 0, 0, .null, []),
  (12, 0, .iload_n 1, 0, 0, .null, []),
  (13, 17, .if_icmp .ge 26, 2, 9999, .null, [22]),
  (16, 0, .aload_n 0, 0, 0, .null, []),
  (17, 1, .getfield 23, 10, 2, .null, []),
  (20, 4, .invokevirtual 240, 134, 0, .null, [0]),
  (23, 0, .iload_n 2, 0, 0, .null, []),
  (24, 0, .aload_n 0, 0, 0, .null, []),
  (25, 1, .getfield 23, 10, 2, .null, []),
  (28, 4, .invokevirtual 243, 135, 0, .null, [0]),
  (31, 17, .ior, 2, 9999, .null, []),
  (32, 0, .istore_n 2, 0, 0, .null, []),
  (33, 0, .iinc 3 1, 0, 0, .null, []),
  (36, 0, .goto (-25), 0, 0, .null, [8]),
  (39, 0, .iload_n 2, 0, 0, .null, []),
  (40, 4, .invokestatic 246, 136, 1, .null, []),
  (43, 16, .ireturn, 0, 0, .null, [])])
set_option maxRecDepth 100000 in
noncomputable def ri_m_X11_oneTick : ri_M := (⟨"StillLoopsModel", "oneTick", "(Z)I"⟩, prog_13_method_72_code, 4, some .int, 1, [
  (0, 0, .iload_n 1, 0, 0, .null, []),
  (1, 17, .ifCond .eq 7, 1, 9999, .null, [4]),
  (4, 0, .aload_n 0, 0, 0, .null, []),
  (5, 4, .invokevirtual 426, 137, 0, .null, [11]),
  (8, 0, .iconst 0, 0, 0, .null, []),
  (9, 0, .istore_n 2, 0, 0, .null, []),
  (10, 0, .iload_n 2, 0, 0, .null, []),
  (11, 0, .aload_n 0, 0, 0, .null, []),
  (12, 4, .invokevirtual 90, 122, 0, .null, [11]),
  (15, 17, .if_icmp .ge 17, 2, 9999, .null, [17]),
  (18, 0, .aload_n 0, 0, 0, .null, []),
  (19, 0, .iload_n 2, 0, 0, .null, []),
  (20, 0, .bipush 75, 0, 0, .null, []),
  (22, 0, .lconst 0, 0, 0, .null, []),
  (23, 99, .invokevirtual 173, 0, 0, .null, []),
  (26, 0, .iinc 2 1, 0, 0, .null, []),
  (29, 0, .goto (-19), 0, 0, .null, [6]),
  (32, 0, .iconst 0, 0, 0, .null, []),
  (33, 0, .istore_n 2, 0, 0, .null, []),
  (34, 0, .iconst 0, 0, 0, .null, []),
  (35, 0, .istore_n 3, 0, 0, .null, []),
  (36, 0, .iload_n 3, 0, 0, .null, []),
  (37, 0, .aload_n 0, 0, 0, .null, []),
  (38, 4, .invokevirtual 90, 122, 0, .null, [11]),
  (41, 17, .if_icmp .ge 24, 2, 9999, .null, [37]),
  (44, 0, .aload_n 0, 0, 0, .null, []),
  (45, 0, .iload_n 3, 0, 0, .null, []),
  (46, 99, .invokevirtual 429, 0, 0, .null, []),
  (49, 0, .iload_n 2, 0, 0, .null, []),
  (50, 0, .aload_n 0, 0, 0, .null, []),
  (51, 0, .iload_n 3, 0, 0, .null, []),
  (52, 0, .bipush 75, 0, 0, .null, []),
  (54, 99, .invokevirtual 116, 0, 0, .null, []),
  (57, 17, .iadd, 2, 9999, .null, []),
  (58, 0, .istore_n 2, 0, 0, .null, []),
  (59, 0, .iinc 3 1, 0, 0, .null, []),
  (62, 0, .goto (-26), 0, 0, .null, [21]),
  (65, 0, .iconst 0, 0, 0, .null, []),
  (66, 0, .istore_n 3, 0, 0, .null, []),
  (67, 0, .iload_n 3, 0, 0, .null, []),
  (68, 0, .aload_n 0, 0, 0, .null, []),
  (69, 4, .invokevirtual 90, 122, 0, .null, [11]),
  (72, 17, .if_icmp .ge 14, 2, 9999, .null, [48]),
  (75, 0, .aload_n 0, 0, 0, .null, []),
  (76, 0, .iload_n 3, 0, 0, .null, []),
  (77, 99, .invokevirtual 432, 0, 0, .null, []),
  (80, 0, .iinc 3 1, 0, 0, .null, []),
  (83, 0, .goto (-16), 0, 0, .null, [39]),
  (86, 0, .aload_n 0, 0, 0, .null, []),
  (87, 1, .getfield 9, 11, 1, .null, []),
  (90, 0, .iconst 2, 0, 0, .null, []),
  (91, 0, .dup2, 0, 0, .null, []),
  (92, 7, .laload, 0, 0, .null, []),
  (93, 0, .lconst 1, 0, 0, .null, []),
  (94, 0, .ladd, 0, 0, .null, []),
  (95, 8, .lastore, 0, 0, .null, []),
  (96, 0, .iload_n 2, 0, 0, .null, []),
  (97, 16, .ireturn, 0, 0, .null, [])])
set_option maxRecDepth 100000 in
noncomputable def ri_m_X10_mode : ri_M := (⟨"StillLoops", "mode", "(II)I"⟩, prog_1_method_14_code, 5, some .int, 2, [
  (0, 0, .aload_n 0, 0, 0, .null, []),
  (1, 0, .iload_n 1, 0, 0, .null, []),
  (2, 4, .invokevirtual 78, 132, 0, .null, [10]),
  (5, 0, .astore_n 3, 0, 0, .null, []),
  (6, 0, .aload_n 3, 0, 0, .null, []),
  (7, 0, .iload_n 2, 0, 0, .null, []),
  (8, 99, .invokestatic 251, 0, 0, .null, []),
  (11, 0, .aload_n 3, 0, 0, .null, []),
  (12, 1, .getfield 120, 2, 5, .null, []),
  (15, 0, .istore 4, 0, 0, .null, []),
  (17, 0, .aload_n 0, 0, 0, .null, []),
  (18, 1, .getfield 23, 10, 2, .null, []),
  (21, 0, .iload_n 1, 0, 0, .null, []),
  (22, 0, .iload_n 2, 0, 0, .null, []),
  (23, 99, .invokevirtual 255, 0, 0, .null, []),
  (26, 0, .iload 4, 0, 0, .null, []),
  (28, 16, .ireturn, 0, 0, .null, [])])
set_option maxRecDepth 100000 in
noncomputable def ri_m_X11_noMode : ri_M := (⟨"StillLoopsModel", "noMode", "(IIII)Z"⟩, prog_13_method_75_code, 5, some .boolean, 4, [
  (0, 0, .aload_n 0, 0, 0, .null, []),
  (1, 0, .aload_n 0, 0, 0, .null, []),
  (2, 0, .iload_n 1, 0, 0, .null, []),
  (3, 4, .invokevirtual 439, 85, 0, .null, [11]),
  (6, 0, .iconst 1, 0, 0, .null, []),
  (7, 4, .invokevirtual 305, 83, 0, .null, [11]),
  (10, 17, .ifCond .ne 58, 1, 9999, .null, [36]),
  (13, 0, .aload_n 0, 0, 0, .null, []),
  (14, 0, .iload_n 2, 0, 0, .null, []),
  (15, 0, .iconst 0, 0, 0, .null, []),
  (16, 0, .iconst 2, 0, 0, .null, []),
  (17, 4, .invokestatic 94, 86, 1, .null, []),
  (20, 17, .ifCond .ne 7, 1, 9999, .null, [15]),
  (23, 0, .iconst 1, 0, 0, .null, []),
  (24, 0, .goto 4, 0, 0, .null, [16]),
  (27, 0, .iconst 0, 0, 0, .null, []),
  (28, 0, .iload_n 3, 0, 0, .null, []),
  (29, 4, .invokevirtual 305, 83, 0, .null, [11]),
  (32, 17, .ifCond .ne 36, 1, 9999, .null, [36]),
  (35, 0, .aload_n 0, 0, 0, .null, []),
  (36, 0, .iload_n 2, 0, 0, .null, []),
  (37, 0, .iconst 2, 0, 0, .null, []),
  (38, 17, .if_icmp .ne 21, 2, 9999, .null, [32]),
  (41, 0, .aload_n 0, 0, 0, .null, []),
  (42, 0, .iload_n 1, 0, 0, .null, []),
  (43, 0, .bipush 7, 0, 0, .null, []),
  (45, 99, .invokevirtual 98, 0, 0, .null, []),
  (48, 3, .ldc2_w 208, 0, 0, .long (-1), []),
  (51, 0, .lcmp, 0, 0, .null, []),
  (52, 17, .ifCond .ne 7, 1, 9999, .null, [32]),
  (55, 0, .iconst 1, 0, 0, .null, []),
  (56, 0, .goto 4, 0, 0, .null, [33]),
  (59, 0, .iconst 0, 0, 0, .null, []),
  (60, 0, .iload 4, 0, 0, .null, []),
  (62, 4, .invokevirtual 305, 83, 0, .null, [11]),
  (65, 17, .ifCond .eq 7, 1, 9999, .null, [38]),
  (68, 0, .iconst 1, 0, 0, .null, []),
  (69, 0, .goto 4, 0, 0, .null, [39]),
  (72, 0, .iconst 0, 0, 0, .null, []),
  (73, 16, .ireturn, 0, 0, .null, [])])
set_option maxRecDepth 100000 in
noncomputable def ri_m_X10_set : ri_M := (⟨"StillLoops", "set", "(II)I"⟩, prog_1_method_15_code, 5, some .int, 2, [
  (0, 0, .aload_n 0, 0, 0, .null, []),
  (1, 0, .iload_n 1, 0, 0, .null, []),
  (2, 4, .invokevirtual 78, 132, 0, .null, [10]),
  (5, 0, .astore_n 3, 0, 0, .null, []),
  (6, 0, .iload_n 2, 0, 0, .null, []),
  (7, 0, .sipush (-9999), 0, 0, .null, []),
  (10, 0, .sipush 9999, 0, 0, .null, []),
  (13, 4, .invokestatic 232, 133, 1, .null, []),
  (16, 0, .aload_n 3, 0, 0, .null, []),
  (17, 1, .getfield 120, 2, 5, .null, []),
  (20, 0, .iconst 2, 0, 0, .null, []),
  (21, 17, .if_icmp .ne 11, 2, 9999, .null, [16]),
  (24, 23, .new 259, 4, 261, .null, []),
  (27, 0, .dup, 0, 0, .null, []),
  (28, 99, .invokespecial 261, 0, 0, .null, []),
  (31, 99, .athrow, 0, 0, .null, []),
  (32, 0, .aload_n 3, 0, 0, .null, []),
  (33, 1, .getfield 123, 2, 6, .null, []),
  (36, 0, .istore 4, 0, 0, .null, []),
  (38, 0, .aload_n 3, 0, 0, .null, []),
  (39, 0, .iload_n 2, 0, 0, .null, []),
  (40, 2, .putfield 123, 2, 6, .null, []),
  (43, 0, .iload 4, 0, 0, .null, []),
  (45, 16, .ireturn, 0, 0, .null, [])])
set_option maxRecDepth 100000 in
noncomputable def ri_m_X10_out : ri_M := (⟨"StillLoops", "out", "(II)I"⟩, prog_1_method_16_code, 5, some .int, 2, [
  (0, 0, .aload_n 0, 0, 0, .null, []),
  (1, 0, .iload_n 1, 0, 0, .null, []),
  (2, 4, .invokevirtual 78, 132, 0, .null, [10]),
  (5, 0, .astore_n 3, 0, 0, .null, []),
  (6, 0, .iload_n 2, 0, 0, .null, []),
  (7, 0, .aload_n 3, 0, 0, .null, []),
  (8, 1, .getfield 105, 2, 1, .null, []),
  (11, 1, .getfield 109, 9, 0, .null, []),
  (14, 0, .aload_n 3, 0, 0, .null, []),
  (15, 1, .getfield 105, 2, 1, .null, []),
  (18, 1, .getfield 114, 9, 1, .null, []),
  (21, 4, .invokestatic 232, 133, 1, .null, []),
  (24, 0, .aload_n 3, 0, 0, .null, []),
  (25, 0, .iconst 0, 0, 0, .null, []),
  (26, 99, .invokestatic 262, 0, 0, .null, []),
  (29, 0, .aload_n 3, 0, 0, .null, []),
  (30, 1, .getfield 129, 2, 7, .null, []),
  (33, 0, .istore 4, 0, 0, .null, []),
  (35, 0, .aload_n 3, 0, 0, .null, []),
  (36, 0, .iload_n 2, 0, 0, .null, []),
  (37, 2, .putfield 129, 2, 7, .null, []),
  (40, 0, .aload_n 3, 0, 0, .null, []),
  (41, 99, .invokevirtual 265, 0, 0, .null, []),
  (44, 0, .iload 4, 0, 0, .null, []),
  (46, 16, .ireturn, 0, 0, .null, [])])
set_option maxRecDepth 100000 in
noncomputable def ri_m_X10_gains : ri_M := (⟨"StillLoops", "gains", "(IIII)I"⟩, prog_1_method_17_code, 6, some .int, 4, [
  (0, 0, .aload_n 0, 0, 0, .null, []),
  (1, 0, .iload_n 1, 0, 0, .null, []),
  (2, 4, .invokevirtual 78, 132, 0, .null, [10]),
  (5, 0, .astore 5, 0, 0, .null, []),
  (7, 0, .iload_n 2, 0, 0, .null, []),
  (8, 0, .iconst 0, 0, 0, .null, []),
  (9, 0, .sipush 9999, 0, 0, .null, []),
  (12, 4, .invokestatic 232, 133, 1, .null, []),
  (15, 0, .iload_n 3, 0, 0, .null, []),
  (16, 0, .iconst 0, 0, 0, .null, []),
  (17, 0, .sipush 9999, 0, 0, .null, []),
  (20, 4, .invokestatic 232, 133, 1, .null, []),
  (23, 0, .iload 4, 0, 0, .null, []),
  (25, 0, .iconst 0, 0, 0, .null, []),
  (26, 0, .sipush 9999, 0, 0, .null, []),
  (29, 4, .invokestatic 232, 133, 1, .null, []),
  (32, 0, .aload 5, 0, 0, .null, []),
  (34, 0, .iload_n 2, 0, 0, .null, []),
  (35, 0, .iload_n 3, 0, 0, .null, []),
  (36, 0, .iload 4, 0, 0, .null, []),
  (38, 99, .invokevirtual 268, 0, 0, .null, []),
  (41, 0, .aload 5, 0, 0, .null, []),
  (43, 1, .getfield 135, 2, 11, .null, []),
  (46, 16, .ireturn, 0, 0, .null, [])])
set_option maxRecDepth 100000 in
noncomputable def ri_m_X10_load : ri_M := (⟨"StillLoops", "load", "(II)I"⟩, prog_1_method_18_code, 5, some .int, 2, [
  (0, 0, .aload_n 0, 0, 0, .null, []),
  (1, 0, .iload_n 1, 0, 0, .null, []),
  (2, 4, .invokevirtual 78, 132, 0, .null, [10]),
  (5, 1, .getfield 82, 2, 0, .null, []),
  (8, 0, .astore_n 3, 0, 0, .null, []),
  (9, 0, .iload_n 2, 0, 0, .null, []),
  (10, 0, .sipush (-999), 0, 0, .null, []),
  (13, 0, .sipush 999, 0, 0, .null, []),
  (16, 4, .invokestatic 232, 133, 1, .null, []),
  (19, 0, .aload_n 3, 0, 0, .null, []),
  (20, 1, .getfield 102, 3, 4, .null, []),
  (23, 0, .istore 4, 0, 0, .null, []),
  (25, 0, .aload_n 3, 0, 0, .null, []),
  (26, 0, .iload_n 2, 0, 0, .null, []),
  (27, 2, .putfield 102, 3, 4, .null, []),
  (30, 0, .iload 4, 0, 0, .null, []),
  (32, 16, .ireturn, 0, 0, .null, [])])
set_option maxRecDepth 100000 in
noncomputable def ri_m_X10_lose : ri_M := (⟨"StillLoops", "lose", "(IZ)Z"⟩, prog_1_method_19_code, 5, some .boolean, 2, [
  (0, 0, .aload_n 0, 0, 0, .null, []),
  (1, 0, .iload_n 1, 0, 0, .null, []),
  (2, 4, .invokevirtual 78, 132, 0, .null, [10]),
  (5, 0, .astore_n 3, 0, 0, .null, []),
  (6, 0, .aload_n 3, 0, 0, .null, []),
  (7, 1, .getfield 153, 2, 14, .null, []),
  (10, 0, .iload_n 2, 0, 0, .null, []),
  (11, 17, .if_icmp .eq 7, 2, 9999, .null, [10]),
  (14, 0, .iconst 1, 0, 0, .null, []),
  (15, 0, .goto 4, 0, 0, .null, [11]),
  (18, 0, .iconst 0, 0, 0, .null, []),
  (19, 0, .istore 4, 0, 0, .null, []),
  (21, 0, .aload_n 3, 0, 0, .null, []),
  (22, 0, .iload_n 2, 0, 0, .null, []),
  (23, 2, .putfield 153, 2, 14, .null, []),
  (26, 0, .iload 4, 0, 0, .null, []),
  (28, 16, .ireturn, 0, 0, .null, [])])
set_option maxRecDepth 100000 in
noncomputable def ri_m_X10_relay : ri_M := (⟨"StillLoops", "relay", "(III)I"⟩, prog_1_method_20_code, 5, some .int, 3, [
  (0, 0, .aload_n 0, 0, 0, .null, []),
  (1, 0, .iload_n 1, 0, 0, .null, []),
  (2, 4, .invokevirtual 78, 132, 0, .null, [10]),
  (5, 0, .astore 4, 0, 0, .null, []),
  (7, 0, .iload_n 2, 0, 0, .null, []),
  (8, 0, .iconst 1, 0, 0, .null, []),
  (9, 0, .sipush 999, 0, 0, .null, []),
  (12, 4, .invokestatic 232, 133, 1, .null, []),
  (15, 0, .iload_n 3, 0, 0, .null, []),
  (16, 0, .iconst 0, 0, 0, .null, []),
  (17, 0, .bipush 99, 0, 0, .null, []),
  (19, 4, .invokestatic 232, 133, 1, .null, []),
  (22, 0, .aload 4, 0, 0, .null, []),
  (24, 0, .iconst 0, 0, 0, .null, []),
  (25, 99, .invokestatic 262, 0, 0, .null, []),
  (28, 0, .aload 4, 0, 0, .null, []),
  (30, 1, .getfield 129, 2, 7, .null, []),
  (33, 0, .iload_n 2, 0, 0, .null, []),
  (34, 17, .isub, 2, 9999, .null, []),
  (35, 0, .aload 4, 0, 0, .null, []),
  (37, 1, .getfield 105, 2, 1, .null, []),
  (40, 1, .getfield 109, 9, 0, .null, []),
  (43, 17, .if_icmp .lt 21, 2, 9999, .null, [31]),
  (46, 0, .aload 4, 0, 0, .null, []),
  (48, 1, .getfield 129, 2, 7, .null, []),
  (51, 0, .iload_n 2, 0, 0, .null, []),
  (52, 17, .iadd, 2, 9999, .null, []),
  (53, 0, .aload 4, 0, 0, .null, []),
  (55, 1, .getfield 105, 2, 1, .null, []),
  (58, 1, .getfield 114, 9, 1, .null, []),
  (61, 17, .if_icmp .le 11, 2, 9999, .null, [35]),
  (64, 23, .new 259, 4, 261, .null, []),
  (67, 0, .dup, 0, 0, .null, []),
  (68, 99, .invokespecial 261, 0, 0, .null, []),
  (71, 99, .athrow, 0, 0, .null, []),
  (72, 0, .aload 4, 0, 0, .null, []),
  (74, 0, .iload_n 2, 0, 0, .null, []),
  (75, 0, .iload_n 3, 0, 0, .null, []),
  (76, 99, .invokevirtual 271, 0, 0, .null, []),
  (79, 0, .aload 4, 0, 0, .null, []),
  (81, 1, .getfield 274, 2, 3, .null, []),
  (84, 1, .getfield 278, 5, 3, .null, []),
  (87, 16, .ireturn, 0, 0, .null, [])])
set_option maxRecDepth 100000 in
noncomputable def ri_m_X10_tune : ri_M := (⟨"StillLoops", "tune", "(II)I"⟩, prog_1_method_21_code, 4, some .int, 2, [
  (0, 0, .aload_n 0, 0, 0, .null, []),
  (1, 0, .iload_n 1, 0, 0, .null, []),
  (2, 4, .invokevirtual 78, 132, 0, .null, [10]),
  (5, 0, .astore_n 3, 0, 0, .null, []),
  (6, 0, .iload_n 2, 0, 0, .null, []),
  (7, 0, .iconst 0, 0, 0, .null, []),
  (8, 0, .iconst 2, 0, 0, .null, []),
  (9, 4, .invokestatic 232, 133, 1, .null, []),
  (12, 0, .aload_n 3, 0, 0, .null, []),
  (13, 1, .getfield 156, 2, 17, .null, []),
  (16, 0, .iconst (-1), 0, 0, .null, []),
  (17, 17, .if_icmp .ne 11, 2, 9999, .null, [16]),
  (20, 23, .new 259, 4, 261, .null, []),
  (23, 0, .dup, 0, 0, .null, []),
  (24, 99, .invokespecial 261, 0, 0, .null, []),
  (27, 99, .athrow, 0, 0, .null, []),
  (28, 0, .aload_n 3, 0, 0, .null, []),
  (29, 0, .iload_n 2, 0, 0, .null, []),
  (30, 99, .invokevirtual 283, 0, 0, .null, []),
  (33, 16, .ireturn, 0, 0, .null, [])])
set_option maxRecDepth 100000 in
noncomputable def ri_m_X10_bump : ri_M := (⟨"StillLoops", "bump", "(II)I"⟩, prog_1_method_22_code, 4, some .int, 2, [
  (0, 0, .aload_n 0, 0, 0, .null, []),
  (1, 0, .iload_n 1, 0, 0, .null, []),
  (2, 4, .invokevirtual 78, 132, 0, .null, [10]),
  (5, 0, .astore_n 3, 0, 0, .null, []),
  (6, 0, .aload_n 3, 0, 0, .null, []),
  (7, 0, .iload_n 2, 0, 0, .null, []),
  (8, 99, .invokestatic 251, 0, 0, .null, []),
  (11, 0, .aload_n 0, 0, 0, .null, []),
  (12, 1, .getfield 34, 10, 5, .null, []),
  (15, 0, .aload_n 0, 0, 0, .null, []),
  (16, 1, .getfield 23, 10, 2, .null, []),
  (19, 4, .invokevirtual 61, 126, 0, .null, [0]),
  (22, 0, .aload_n 0, 0, 0, .null, []),
  (23, 1, .getfield 34, 10, 5, .null, []),
  (26, 0, .iload_n 1, 0, 0, .null, []),
  (27, 0, .iload_n 2, 0, 0, .null, []),
  (28, 99, .invokevirtual 255, 0, 0, .null, []),
  (31, 0, .aload_n 0, 0, 0, .null, []),
  (32, 1, .getfield 34, 10, 5, .null, []),
  (35, 4, .invokevirtual 243, 135, 0, .null, [0]),
  (38, 0, .pop, 0, 0, .null, []),
  (39, 0, .aload_n 0, 0, 0, .null, []),
  (40, 1, .getfield 34, 10, 5, .null, []),
  (43, 1, .getfield 228, 0, 0, .null, []),
  (46, 0, .iload_n 1, 0, 0, .null, []),
  (47, 11, .aaload, 0, 0, .null, []),
  (48, 1, .getfield 129, 2, 7, .null, []),
  (51, 0, .aload_n 3, 0, 0, .null, []),
  (52, 1, .getfield 129, 2, 7, .null, []),
  (55, 17, .isub, 2, 9999, .null, []),
  (56, 99, .invokestatic 286, 0, 0, .null, []),
  (59, 16, .ireturn, 0, 0, .null, [])])
set_option maxRecDepth 100000 in
noncomputable def ri_m_X11_keepsAll : ri_M := (⟨"StillLoopsModel", "keepsAll", "()V"⟩, prog_13_method_7_code, 2, none, 0, [
  (0, 0, .iconst 0, 0, 0, .null, []),
  (1, 0, .istore_n 1, 0, 0, .null, []),
  (2, 0, .iload_n 1, 0, 0, .null, []),
  (3, 0, .sipush 585, 0, 0, .null, []),
  (6, 17, .if_icmp .ge 21, 2, 9999, .null, [15]),
  (9, 0, .aload_n 0, 0, 0, .null, []),
  (10, 1, .getfield 19, 11, 4, .null, []),
  (13, 0, .iload_n 1, 0, 0, .null, []),
  (14, 0, .aload_n 0, 0, 0, .null, []),
  (15, 1, .getfield 9, 11, 1, .null, []),
  (18, 0, .iload_n 1, 0, 0, .null, []),
  (19, 7, .laload, 0, 0, .null, []),
  (20, 8, .lastore, 0, 0, .null, []),
  (21, 0, .iinc 1 1, 0, 0, .null, []),
  (24, 0, .goto (-22), 0, 0, .null, [2]),
  (27, 16, .return_, 0, 0, .null, [])])
set_option maxRecDepth 100000 in
noncomputable def ri_m_X11_goesOn : ri_M := (⟨"StillLoopsModel", "goesOn", "(I)V"⟩, prog_13_method_73_code, 3, none, 1, [
  (0, 0, .iconst 0, 0, 0, .null, []),
  (1, 0, .istore_n 2, 0, 0, .null, []),
  (2, 0, .iload_n 2, 0, 0, .null, []),
  (3, 0, .iload_n 1, 0, 0, .null, []),
  (4, 17, .if_icmp .ge 15, 2, 9999, .null, [11]),
  (7, 0, .aload_n 0, 0, 0, .null, []),
  (8, 0, .iconst 0, 0, 0, .null, []),
  (9, 4, .invokevirtual 435, 94, 0, .null, [11]),
  (12, 0, .pop, 0, 0, .null, []),
  (13, 0, .iinc 2 1, 0, 0, .null, []),
  (16, 0, .goto (-14), 0, 0, .null, [2]),
  (19, 16, .return_, 0, 0, .null, [])])
set_option maxRecDepth 100000 in
noncomputable def ri_m_X11_bringsBack : ri_M := (⟨"StillLoopsModel", "bringsBack", "()V"⟩, prog_13_method_8_code, 2, none, 0, [
  (0, 0, .iconst 0, 0, 0, .null, []),
  (1, 0, .istore_n 1, 0, 0, .null, []),
  (2, 0, .iload_n 1, 0, 0, .null, []),
  (3, 0, .sipush 585, 0, 0, .null, []),
  (6, 17, .if_icmp .ge 21, 2, 9999, .null, [15]),
  (9, 0, .aload_n 0, 0, 0, .null, []),
  (10, 1, .getfield 9, 11, 1, .null, []),
  (13, 0, .iload_n 1, 0, 0, .null, []),
  (14, 0, .aload_n 0, 0, 0, .null, []),
  (15, 1, .getfield 19, 11, 4, .null, []),
  (18, 0, .iload_n 1, 0, 0, .null, []),
  (19, 7, .laload, 0, 0, .null, []),
  (20, 8, .lastore, 0, 0, .null, []),
  (21, 0, .iinc 1 1, 0, 0, .null, []),
  (24, 0, .goto (-22), 0, 0, .null, [2]),
  (27, 16, .return_, 0, 0, .null, [])])
set_option maxRecDepth 100000 in
noncomputable def ri_m_X10_startAt : ri_M := (⟨"StillLoops", "startAt", "(II)V"⟩, prog_1_method_44_code, 4, none, 2, [
  (0, 0, .aload_n 0, 0, 0, .null, []),
  (1, 1, .getfield 34, 10, 5, .null, []),
  (4, 0, .aload_n 0, 0, 0, .null, []),
  (5, 1, .getfield 23, 10, 2, .null, []),
  (8, 4, .invokevirtual 61, 126, 0, .null, [0]),
  (11, 0, .aload_n 0, 0, 0, .null, []),
  (12, 1, .getfield 34, 10, 5, .null, []),
  (15, 1, .getfield 228, 0, 0, .null, []),
  (18, 0, .iload_n 1, 0, 0, .null, []),
  (19, 11, .aaload, 0, 0, .null, []),
  (20, 1, .getfield 82, 2, 0, .null, []),
  (23, 0, .astore_n 3, 0, 0, .null, []),
  (24, 0, .aload_n 3, 0, 0, .null, []),
  (25, 0, .aload_n 3, 0, 0, .null, []),
  (26, 1, .getfield 168, 3, 5, .null, []),
  (29, 0, .i2l, 0, 0, .null, []),
  (30, 0, .iload_n 2, 0, 0, .null, []),
  (31, 0, .i2l, 0, 0, .null, []),
  (32, 0, .ladd, 0, 0, .null, []),
  (33, 3, .ldc2_w 379, 0, 0, .long (-2559744), []),
  (36, 3, .ldc2_w 381, 0, 0, .long 2559744, []),
  (39, 4, .invokestatic 325, 138, 1, .null, []),
  (42, 0, .l2i, 0, 0, .null, []),
  (43, 2, .putfield 168, 3, 5, .null, []),
  (46, 0, .aload_n 0, 0, 0, .null, []),
  (47, 1, .getfield 10, 10, 0, .null, []),
  (50, 1, .getfield 58, 4, 0, .null, []),
  (53, 0, .aload_n 0, 0, 0, .null, []),
  (54, 1, .getfield 34, 10, 5, .null, []),
  (57, 4, .invokevirtual 61, 126, 0, .null, [0]),
  (60, 16, .return_, 0, 0, .null, [])])
set_option maxRecDepth 100000 in
noncomputable def ri_m_X6_find : ri_M := (⟨"StillLoops$Rounds", "find", "(LStillLoops$Bench;LStillLoops$Bench;)V"⟩, prog_8_method_2_code, 3, none, 2, [
  (0, 0, .aload_n 0, 0, 0, .null, []),
  (1, 0, .iconst (-1), 0, 0, .null, []),
  (2, 2, .putfield 13, 6, 0, .null, []),
  (5, 0, .aload_n 0, 0, 0, .null, []),
  (6, 0, .aload_n 0, 0, 0, .null, []),
  (7, 0, .aload_n 1, 0, 0, .null, []),
  (8, 4, .invokevirtual 28, 139, 0, .null, [6]),
  (11, 2, .putfield 17, 6, 1, .null, []),
  (14, 0, .aload_n 0, 0, 0, .null, []),
  (15, 1, .getfield 17, 6, 1, .null, []),
  (18, 0, .iconst (-1), 0, 0, .null, []),
  (19, 17, .if_icmp .ne 4, 2, 9999, .null, [13]),
  (22, 16, .return_, 0, 0, .null, []),
  (23, 0, .aload_n 1, 0, 0, .null, []),
  (24, 0, .aload_n 2, 0, 0, .null, []),
  (25, 4, .invokevirtual 32, 126, 0, .null, [0]),
  (28, 0, .aload_n 0, 0, 0, .null, []),
  (29, 0, .aload_n 0, 0, 0, .null, []),
  (30, 0, .aload_n 1, 0, 0, .null, []),
  (31, 0, .aload_n 2, 0, 0, .null, []),
  (32, 4, .invokevirtual 38, 140, 0, .null, [6]),
  (35, 2, .putfield 13, 6, 0, .null, []),
  (38, 0, .aload_n 0, 0, 0, .null, []),
  (39, 1, .getfield 13, 6, 0, .null, []),
  (42, 0, .iconst (-1), 0, 0, .null, []),
  (43, 17, .if_icmp .ne 8, 2, 9999, .null, [29]),
  (46, 0, .aload_n 0, 0, 0, .null, []),
  (47, 0, .iconst (-1), 0, 0, .null, []),
  (48, 2, .putfield 17, 6, 1, .null, []),
  (51, 16, .return_, 0, 0, .null, [])])
set_option maxRecDepth 100000 in
noncomputable def ri_m_X11_laysRound : ri_M := (⟨"StillLoopsModel", "laysRound", "()V"⟩, prog_13_method_107_code, 3, none, 0, [
  (0, 0, .aload_n 0, 0, 0, .null, []),
  (1, 4, .invokevirtual 465, 105, 0, .null, [11]),
  (4, 0, .aload_n 0, 0, 0, .null, []),
  (5, 0, .iconst (-1), 0, 0, .null, []),
  (6, 2, .putfield 483, 11, 16, .null, []),
  (9, 0, .aload_n 0, 0, 0, .null, []),
  (10, 0, .aload_n 0, 0, 0, .null, []),
  (11, 1, .getfield 38, 11, 15, .null, []),
  (14, 0, .iconst 0, 0, 0, .null, []),
  (15, 4, .invokevirtual 486, 141, 0, .null, [11]),
  (18, 0, .iconst 1, 0, 0, .null, []),
  (19, 0, .istore_n 1, 0, 0, .null, []),
  (20, 0, .iload_n 1, 0, 0, .null, []),
  (21, 0, .sipush 200, 0, 0, .null, []),
  (24, 17, .if_icmp .gt 97, 2, 9999, .null, [65]),
  (27, 0, .aload_n 0, 0, 0, .null, []),
  (28, 1, .getfield 483, 11, 16, .null, []),
  (31, 0, .iconst (-1), 0, 0, .null, []),
  (32, 17, .if_icmp .ne 89, 2, 9999, .null, [65]),
  (35, 0, .aload_n 0, 0, 0, .null, []),
  (36, 0, .iconst 0, 0, 0, .null, []),
  (37, 4, .invokevirtual 435, 94, 0, .null, [11]),
  (40, 0, .pop, 0, 0, .null, []),
  (41, 0, .aload_n 0, 0, 0, .null, []),
  (42, 0, .aload_n 0, 0, 0, .null, []),
  (43, 1, .getfield 38, 11, 15, .null, []),
  (46, 0, .sipush 308, 0, 0, .null, []),
  (49, 0, .iload_n 1, 0, 0, .null, []),
  (50, 17, .imul, 2, 9999, .null, []),
  (51, 4, .invokevirtual 486, 141, 0, .null, [11]),
  (54, 0, .iconst 0, 0, 0, .null, []),
  (55, 0, .istore_n 2, 0, 0, .null, []),
  (56, 0, .iload_n 2, 0, 0, .null, []),
  (57, 0, .iload_n 1, 0, 0, .null, []),
  (58, 17, .if_icmp .ge 47, 2, 9999, .null, [57]),
  (61, 0, .aload_n 0, 0, 0, .null, []),
  (62, 1, .getfield 483, 11, 16, .null, []),
  (65, 0, .iconst (-1), 0, 0, .null, []),
  (66, 17, .if_icmp .ne 39, 2, 9999, .null, [57]),
  (69, 0, .aload_n 0, 0, 0, .null, []),
  (70, 0, .aload_n 0, 0, 0, .null, []),
  (71, 1, .getfield 38, 11, 15, .null, []),
  (74, 0, .sipush 308, 0, 0, .null, []),
  (77, 0, .iload_n 2, 0, 0, .null, []),
  (78, 17, .imul, 2, 9999, .null, []),
  (79, 0, .aload_n 0, 0, 0, .null, []),
  (80, 1, .getfield 38, 11, 15, .null, []),
  (83, 0, .sipush 308, 0, 0, .null, []),
  (86, 0, .iload_n 1, 0, 0, .null, []),
  (87, 17, .imul, 2, 9999, .null, []),
  (88, 4, .invokevirtual 490, 142, 0, .null, [11]),
  (91, 17, .ifCond .eq 8, 1, 9999, .null, [55]),
  (94, 0, .aload_n 0, 0, 0, .null, []),
  (95, 0, .iload_n 2, 0, 0, .null, []),
  (96, 2, .putfield 483, 11, 16, .null, []),
  (99, 0, .iinc 2 1, 0, 0, .null, []),
  (102, 0, .goto (-46), 0, 0, .null, [32]),
  (105, 0, .aload_n 0, 0, 0, .null, []),
  (106, 0, .iload_n 1, 0, 0, .null, []),
  (107, 0, .aload_n 0, 0, 0, .null, []),
  (108, 1, .getfield 483, 11, 16, .null, []),
  (111, 17, .isub, 2, 9999, .null, []),
  (112, 2, .putfield 494, 11, 17, .null, []),
  (115, 0, .iinc 1 1, 0, 0, .null, []),
  (118, 0, .goto (-98), 0, 0, .null, [12]),
  (121, 0, .aload_n 0, 0, 0, .null, []),
  (122, 4, .invokevirtual 471, 107, 0, .null, [11]),
  (125, 16, .return_, 0, 0, .null, [])])
set_option maxRecDepth 100000 in
noncomputable def ri_m_X10_sweep : ri_M := (⟨"StillLoops", "sweep", "(I)I"⟩, prog_1_method_24_code, 2, some .int, 1, [
  (0, 0, .aload_n 0, 0, 0, .null, []),
  (1, 0, .iload_n 1, 0, 0, .null, []),
  (2, 4, .invokevirtual 78, 132, 0, .null, [10]),
  (5, 0, .pop, 0, 0, .null, []),
  (6, 0, .aload_n 0, 0, 0, .null, []),
  (7, 0, .iconst 0, 0, 0, .null, []),
  (8, 0, .iconst 0, 0, 0, .null, []),
  (9, 4, .invokevirtual 291, 108, 0, .null, [10]),
  (12, 0, .aload_n 0, 0, 0, .null, []),
  (13, 1, .getfield 47, 10, 7, .null, []),
  (16, 0, .aload_n 0, 0, 0, .null, []),
  (17, 1, .getfield 34, 10, 5, .null, []),
  (20, 0, .aload_n 0, 0, 0, .null, []),
  (21, 1, .getfield 10, 10, 0, .null, []),
  (24, 1, .getfield 58, 4, 0, .null, []),
  (27, 4, .invokevirtual 294, 109, 0, .null, [6]),
  (30, 0, .aload_n 0, 0, 0, .null, []),
  (31, 1, .getfield 47, 10, 7, .null, []),
  (34, 0, .aload_n 0, 0, 0, .null, []),
  (35, 1, .getfield 34, 10, 5, .null, []),
  (38, 0, .iload_n 1, 0, 0, .null, []),
  (39, 99, .invokevirtual 304, 0, 0, .null, []),
  (42, 16, .ireturn, 0, 0, .null, [])])
set_option maxRecDepth 100000 in
noncomputable def ri_m_X10_starts : ri_M := (⟨"StillLoops", "starts", "(II)I"⟩, prog_1_method_25_code, 4, some .int, 2, [
  (0, 0, .aload_n 0, 0, 0, .null, []),
  (1, 0, .iload_n 1, 0, 0, .null, []),
  (2, 4, .invokevirtual 78, 132, 0, .null, [10]),
  (5, 0, .pop, 0, 0, .null, []),
  (6, 0, .iload_n 2, 0, 0, .null, []),
  (7, 17, .ifCond .lt 8, 1, 9999, .null, [9]),
  (10, 0, .iload_n 2, 0, 0, .null, []),
  (11, 0, .iconst 4, 0, 0, .null, []),
  (12, 17, .if_icmp .le 11, 2, 9999, .null, [13]),
  (15, 23, .new 165, 3, 167, .null, []),
  (18, 0, .dup, 0, 0, .null, []),
  (19, 99, .invokespecial 167, 0, 0, .null, []),
  (22, 99, .athrow, 0, 0, .null, []),
  (23, 0, .aload_n 0, 0, 0, .null, []),
  (24, 1, .getfield 47, 10, 7, .null, []),
  (27, 99, .invokevirtual 308, 0, 0, .null, []),
  (30, 0, .iconst 0, 0, 0, .null, []),
  (31, 0, .istore_n 3, 0, 0, .null, []),
  (32, 0, .iload_n 3, 0, 0, .null, []),
  (33, 0, .bipush 9, 0, 0, .null, []),
  (35, 17, .if_icmp .ge 50, 2, 9999, .null, [44]),
  (38, 0, .aload_n 0, 0, 0, .null, []),
  (39, 0, .iload_n 1, 0, 0, .null, []),
  (40, 0, .sipush 256, 0, 0, .null, []),
  (43, 0, .iload_n 3, 0, 0, .null, []),
  (44, 0, .iconst 4, 0, 0, .null, []),
  (45, 17, .isub, 2, 9999, .null, []),
  (46, 17, .imul, 2, 9999, .null, []),
  (47, 4, .invokevirtual 291, 108, 0, .null, [10]),
  (50, 0, .aload_n 0, 0, 0, .null, []),
  (51, 1, .getfield 47, 10, 7, .null, []),
  (54, 0, .aload_n 0, 0, 0, .null, []),
  (55, 1, .getfield 34, 10, 5, .null, []),
  (58, 0, .aload_n 0, 0, 0, .null, []),
  (59, 1, .getfield 10, 10, 0, .null, []),
  (62, 1, .getfield 58, 4, 0, .null, []),
  (65, 4, .invokevirtual 294, 109, 0, .null, [6]),
  (68, 0, .aload_n 0, 0, 0, .null, []),
  (69, 1, .getfield 47, 10, 7, .null, []),
  (72, 0, .aload_n 0, 0, 0, .null, []),
  (73, 1, .getfield 34, 10, 5, .null, []),
  (76, 99, .invokevirtual 311, 0, 0, .null, []),
  (79, 0, .iinc 3 1, 0, 0, .null, []),
  (82, 0, .goto (-50), 0, 0, .null, [18]),
  (85, 0, .aload_n 0, 0, 0, .null, []),
  (86, 1, .getfield 47, 10, 7, .null, []),
  (89, 1, .getfield 314, 6, 2, .null, []),
  (92, 0, .iload_n 2, 0, 0, .null, []),
  (93, 5, .iaload, 0, 0, .null, []),
  (94, 16, .ireturn, 0, 0, .null, [])])
set_option maxRecDepth 100000 in
noncomputable def ri_m_X10_step : ri_M := (⟨"StillLoops", "step", "(III)I"⟩, prog_1_method_26_code, 5, some .int, 3, [
  (0, 0, .aload_n 0, 0, 0, .null, []),
  (1, 0, .iload_n 1, 0, 0, .null, []),
  (2, 4, .invokevirtual 78, 132, 0, .null, [10]),
  (5, 0, .astore 4, 0, 0, .null, []),
  (7, 0, .iload_n 3, 0, 0, .null, []),
  (8, 17, .ifCond .lt 8, 1, 9999, .null, [9]),
  (11, 0, .iload_n 3, 0, 0, .null, []),
  (12, 0, .iconst 3, 0, 0, .null, []),
  (13, 17, .if_icmp .le 11, 2, 9999, .null, [13]),
  (16, 23, .new 165, 3, 167, .null, []),
  (19, 0, .dup, 0, 0, .null, []),
  (20, 99, .invokespecial 167, 0, 0, .null, []),
  (23, 99, .athrow, 0, 0, .null, []),
  (24, 0, .iload_n 2, 0, 0, .null, []),
  (25, 0, .sipush (-999), 0, 0, .null, []),
  (28, 0, .sipush 999, 0, 0, .null, []),
  (31, 4, .invokestatic 232, 133, 1, .null, []),
  (34, 0, .iload_n 2, 0, 0, .null, []),
  (35, 17, .ifCond .ne 11, 1, 9999, .null, [23]),
  (38, 23, .new 69, 0, 71, .null, []),
  (41, 0, .dup, 0, 0, .null, []),
  (42, 99, .invokespecial 71, 0, 0, .null, []),
  (45, 99, .athrow, 0, 0, .null, []),
  (46, 0, .aload 4, 0, 0, .null, []),
  (48, 0, .iconst 1, 0, 0, .null, []),
  (49, 99, .invokestatic 262, 0, 0, .null, []),
  (52, 0, .aload_n 0, 0, 0, .null, []),
  (53, 0, .iload_n 1, 0, 0, .null, []),
  (54, 0, .iload_n 2, 0, 0, .null, []),
  (55, 0, .iload_n 3, 0, 0, .null, []),
  (56, 99, .invokevirtual 317, 0, 0, .null, []),
  (59, 16, .ireturn, 0, 0, .null, [])])
set_option maxRecDepth 100000 in
noncomputable def ri_m_X10_twin : ri_M := (⟨"StillLoops", "twin", "(I)I"⟩, prog_1_method_28_code, 7, some .int, 1, [
  (0, 0, .iload_n 1, 0, 0, .null, []),
  (1, 0, .iconst 0, 0, 0, .null, []),
  (2, 0, .bipush 60, 0, 0, .null, []),
  (4, 4, .invokestatic 232, 133, 1, .null, []),
  (7, 0, .iconst 0, 0, 0, .null, []),
  (8, 0, .istore_n 2, 0, 0, .null, []),
  (9, 0, .iload_n 2, 0, 0, .null, []),
  (10, 0, .aload_n 0, 0, 0, .null, []),
  (11, 1, .getfield 23, 10, 2, .null, []),
  (14, 1, .getfield 333, 0, 1, .null, []),
  (17, 17, .if_icmp .ge 33, 2, 9999, .null, [25]),
  (20, 0, .aload_n 0, 0, 0, .null, []),
  (21, 1, .getfield 23, 10, 2, .null, []),
  (24, 1, .getfield 228, 0, 0, .null, []),
  (27, 0, .iload_n 2, 0, 0, .null, []),
  (28, 11, .aaload, 0, 0, .null, []),
  (29, 1, .getfield 120, 2, 5, .null, []),
  (32, 0, .iconst 3, 0, 0, .null, []),
  (33, 17, .if_icmp .ne 11, 2, 9999, .null, [23]),
  (36, 23, .new 259, 4, 261, .null, []),
  (39, 0, .dup, 0, 0, .null, []),
  (40, 99, .invokespecial 261, 0, 0, .null, []),
  (43, 99, .athrow, 0, 0, .null, []),
  (44, 0, .iinc 2 1, 0, 0, .null, []),
  (47, 0, .goto (-38), 0, 0, .null, [6]),
  (50, 0, .aload_n 0, 0, 0, .null, []),
  (51, 1, .getfield 34, 10, 5, .null, []),
  (54, 0, .aload_n 0, 0, 0, .null, []),
  (55, 1, .getfield 23, 10, 2, .null, []),
  (58, 4, .invokevirtual 61, 126, 0, .null, [0]),
  (61, 0, .aload_n 0, 0, 0, .null, []),
  (62, 1, .getfield 40, 10, 6, .null, []),
  (65, 0, .aload_n 0, 0, 0, .null, []),
  (66, 1, .getfield 23, 10, 2, .null, []),
  (69, 4, .invokevirtual 336, 143, 0, .null, [8]),
  (72, 0, .dconst 0, 0, 0, .null, []),
  (73, 0, .dstore_n 2, 0, 0, .null, []),
  (74, 0, .iconst 0, 0, 0, .null, []),
  (75, 0, .istore 4, 0, 0, .null, []),
  (77, 0, .iload 4, 0, 0, .null, []),
  (79, 0, .iload_n 1, 0, 0, .null, []),
  (80, 17, .if_icmp .ge 55, 2, 9999, .null, [67]),
  (83, 0, .aload_n 0, 0, 0, .null, []),
  (84, 1, .getfield 34, 10, 5, .null, []),
  (87, 4, .invokevirtual 243, 135, 0, .null, [0]),
  (90, 0, .pop, 0, 0, .null, []),
  (91, 0, .aload_n 0, 0, 0, .null, []),
  (92, 1, .getfield 40, 10, 6, .null, []),
  (95, 0, .aload_n 0, 0, 0, .null, []),
  (96, 1, .getfield 23, 10, 2, .null, []),
  (99, 4, .invokevirtual 338, 144, 0, .null, [8]),
  (102, 0, .aload_n 0, 0, 0, .null, []),
  (103, 1, .getfield 40, 10, 6, .null, []),
  (106, 0, .aload_n 0, 0, 0, .null, []),
  (107, 1, .getfield 34, 10, 5, .null, []),
  (110, 4, .invokevirtual 340, 145, 0, .null, [8]),
  (113, 0, .dstore 5, 0, 0, .null, []),
  (115, 0, .dload 5, 0, 0, .null, []),
  (117, 0, .dload_n 2, 0, 0, .null, []),
  (118, 0, .dcmp .l, 0, 0, .null, []),
  (119, 17, .ifCond .le 8, 1, 9999, .null, [63]),
  (122, 0, .dload 5, 0, 0, .null, []),
  (124, 0, .goto 4, 0, 0, .null, [64]),
  (127, 0, .dload_n 2, 0, 0, .null, []),
  (128, 0, .dstore_n 2, 0, 0, .null, []),
  (129, 0, .iinc 4 1, 0, 0, .null, []),
  (132, 0, .goto (-55), 0, 0, .null, [39]),
  (135, 0, .dload_n 2, 0, 0, .null, []),
  (136, 3, .ldc2_w 344, 0, 0, .double 4652007308841189376, []),
  (139, 0, .dmul, 0, 0, .null, []),
  (140, 0, .dstore 4, 0, 0, .null, []),
  (142, 0, .dload 4, 0, 0, .null, []),
  (144, 3, .ldc2_w 346, 0, 0, .double 4726483295817170944, []),
  (147, 0, .dcmp .l, 0, 0, .null, []),
  (148, 17, .ifCond .lt 9, 1, 9999, .null, [77]),
  (151, 3, .ldc_w 348, 0, 0, .int 99999999, []),
  (154, 0, .goto 6, 0, 0, .null, [79]),
  (157, 0, .dload 4, 0, 0, .null, []),
  (159, 0, .d2i, 0, 0, .null, []),
  (160, 16, .ireturn, 0, 0, .null, [])])
set_option maxRecDepth 100000 in
noncomputable def ri_m_X11_beginsTwin : ri_M := (⟨"StillLoopsModel", "beginsTwin", "()V"⟩, prog_13_method_115_code, 3, none, 0, [
  (0, 0, .iconst 0, 0, 0, .null, []),
  (1, 0, .istore_n 1, 0, 0, .null, []),
  (2, 0, .iload_n 1, 0, 0, .null, []),
  (3, 0, .aload_n 0, 0, 0, .null, []),
  (4, 4, .invokevirtual 90, 122, 0, .null, [11]),
  (7, 17, .if_icmp .ge 167, 2, 9999, .null, [109]),
  (10, 0, .aload_n 0, 0, 0, .null, []),
  (11, 1, .getfield 44, 11, 19, .null, []),
  (14, 0, .iload_n 1, 0, 0, .null, []),
  (15, 0, .aload_n 0, 0, 0, .null, []),
  (16, 0, .iload_n 1, 0, 0, .null, []),
  (17, 0, .bipush 47, 0, 0, .null, []),
  (19, 99, .invokevirtual 98, 0, 0, .null, []),
  (22, 0, .l2d, 0, 0, .null, []),
  (23, 10, .dastore, 0, 0, .null, []),
  (24, 0, .aload_n 0, 0, 0, .null, []),
  (25, 1, .getfield 48, 11, 20, .null, []),
  (28, 0, .iload_n 1, 0, 0, .null, []),
  (29, 0, .aload_n 0, 0, 0, .null, []),
  (30, 0, .iload_n 1, 0, 0, .null, []),
  (31, 0, .bipush 48, 0, 0, .null, []),
  (33, 99, .invokevirtual 98, 0, 0, .null, []),
  (36, 0, .l2d, 0, 0, .null, []),
  (37, 10, .dastore, 0, 0, .null, []),
  (38, 0, .aload_n 0, 0, 0, .null, []),
  (39, 1, .getfield 51, 11, 21, .null, []),
  (42, 0, .iload_n 1, 0, 0, .null, []),
  (43, 0, .aload_n 0, 0, 0, .null, []),
  (44, 0, .iload_n 1, 0, 0, .null, []),
  (45, 0, .bipush 49, 0, 0, .null, []),
  (47, 99, .invokevirtual 98, 0, 0, .null, []),
  (50, 0, .l2d, 0, 0, .null, []),
  (51, 10, .dastore, 0, 0, .null, []),
  (52, 0, .aload_n 0, 0, 0, .null, []),
  (53, 1, .getfield 54, 11, 22, .null, []),
  (56, 0, .iload_n 1, 0, 0, .null, []),
  (57, 0, .aload_n 0, 0, 0, .null, []),
  (58, 0, .iload_n 1, 0, 0, .null, []),
  (59, 0, .bipush 50, 0, 0, .null, []),
  (61, 99, .invokevirtual 98, 0, 0, .null, []),
  (64, 0, .l2d, 0, 0, .null, []),
  (65, 10, .dastore, 0, 0, .null, []),
  (66, 0, .aload_n 0, 0, 0, .null, []),
  (67, 1, .getfield 57, 11, 23, .null, []),
  (70, 0, .iload_n 1, 0, 0, .null, []),
  (71, 0, .aload_n 0, 0, 0, .null, []),
  (72, 0, .iload_n 1, 0, 0, .null, []),
  (73, 0, .bipush 51, 0, 0, .null, []),
  (75, 99, .invokevirtual 98, 0, 0, .null, []),
  (78, 0, .l2d, 0, 0, .null, []),
  (79, 10, .dastore, 0, 0, .null, []),
  (80, 0, .aload_n 0, 0, 0, .null, []),
  (81, 1, .getfield 60, 11, 24, .null, []),
  (84, 0, .iload_n 1, 0, 0, .null, []),
  (85, 0, .aload_n 0, 0, 0, .null, []),
  (86, 0, .iload_n 1, 0, 0, .null, []),
  (87, 0, .bipush 9, 0, 0, .null, []),
  (89, 99, .invokevirtual 98, 0, 0, .null, []),
  (92, 0, .l2d, 0, 0, .null, []),
  (93, 10, .dastore, 0, 0, .null, []),
  (94, 0, .aload_n 0, 0, 0, .null, []),
  (95, 1, .getfield 63, 11, 25, .null, []),
  (98, 0, .iload_n 1, 0, 0, .null, []),
  (99, 0, .aload_n 0, 0, 0, .null, []),
  (100, 0, .iload_n 1, 0, 0, .null, []),
  (101, 0, .bipush 11, 0, 0, .null, []),
  (103, 99, .invokevirtual 98, 0, 0, .null, []),
  (106, 0, .l2d, 0, 0, .null, []),
  (107, 10, .dastore, 0, 0, .null, []),
  (108, 0, .aload_n 0, 0, 0, .null, []),
  (109, 1, .getfield 66, 11, 26, .null, []),
  (112, 0, .iload_n 1, 0, 0, .null, []),
  (113, 0, .aload_n 0, 0, 0, .null, []),
  (114, 0, .iload_n 1, 0, 0, .null, []),
  (115, 0, .bipush 12, 0, 0, .null, []),
  (117, 99, .invokevirtual 98, 0, 0, .null, []),
  (120, 0, .l2d, 0, 0, .null, []),
  (121, 10, .dastore, 0, 0, .null, []),
  (122, 0, .aload_n 0, 0, 0, .null, []),
  (123, 1, .getfield 75, 11, 29, .null, []),
  (126, 0, .iload_n 1, 0, 0, .null, []),
  (127, 0, .aload_n 0, 0, 0, .null, []),
  (128, 0, .iload_n 1, 0, 0, .null, []),
  (129, 99, .invokevirtual 404, 0, 0, .null, []),
  (132, 27, .bastore, 0, 0, .null, []),
  (133, 0, .iconst 0, 0, 0, .null, []),
  (134, 0, .istore_n 2, 0, 0, .null, []),
  (135, 0, .iload_n 2, 0, 0, .null, []),
  (136, 0, .bipush 9, 0, 0, .null, []),
  (138, 17, .if_icmp .ge 30, 2, 9999, .null, [107]),
  (141, 0, .aload_n 0, 0, 0, .null, []),
  (142, 1, .getfield 72, 11, 28, .null, []),
  (145, 0, .bipush 9, 0, 0, .null, []),
  (147, 0, .iload_n 1, 0, 0, .null, []),
  (148, 17, .imul, 2, 9999, .null, []),
  (149, 0, .iload_n 2, 0, 0, .null, []),
  (150, 17, .iadd, 2, 9999, .null, []),
  (151, 0, .aload_n 0, 0, 0, .null, []),
  (152, 0, .iload_n 1, 0, 0, .null, []),
  (153, 0, .bipush 52, 0, 0, .null, []),
  (155, 0, .iload_n 2, 0, 0, .null, []),
  (156, 17, .iadd, 2, 9999, .null, []),
  (157, 99, .invokevirtual 98, 0, 0, .null, []),
  (160, 0, .l2d, 0, 0, .null, []),
  (161, 10, .dastore, 0, 0, .null, []),
  (162, 0, .iinc 2 1, 0, 0, .null, []),
  (165, 0, .goto (-30), 0, 0, .null, [87]),
  (168, 0, .iinc 1 1, 0, 0, .null, []),
  (171, 0, .goto (-169), 0, 0, .null, [2]),
  (174, 16, .return_, 0, 0, .null, [])])
set_option maxRecDepth 100000 in
noncomputable def ri_m_X11_twinOff : ri_M := (⟨"StillLoopsModel", "twinOff", "(I)D"⟩, prog_13_method_122_code, 6, some .double, 1, [
  (0, 0, .dconst 0, 0, 0, .null, []),
  (1, 0, .dstore_n 2, 0, 0, .null, []),
  (2, 0, .iconst 0, 0, 0, .null, []),
  (3, 0, .istore 4, 0, 0, .null, []),
  (5, 0, .iload 4, 0, 0, .null, []),
  (7, 0, .iload_n 1, 0, 0, .null, []),
  (8, 17, .if_icmp .ge 114, 2, 9999, .null, [61]),
  (11, 0, .iconst 0, 0, 0, .null, []),
  (12, 0, .istore 5, 0, 0, .null, []),
  (14, 0, .iload 5, 0, 0, .null, []),
  (16, 0, .aload_n 0, 0, 0, .null, []),
  (17, 4, .invokevirtual 90, 122, 0, .null, [11]),
  (20, 17, .if_icmp .ge 15, 2, 9999, .null, [18]),
  (23, 0, .aload_n 0, 0, 0, .null, []),
  (24, 0, .iload 5, 0, 0, .null, []),
  (26, 99, .invokevirtual 546, 0, 0, .null, []),
  (29, 0, .iinc 5 1, 0, 0, .null, []),
  (32, 0, .goto (-18), 0, 0, .null, [9]),
  (35, 0, .iconst 0, 0, 0, .null, []),
  (36, 0, .istore 5, 0, 0, .null, []),
  (38, 0, .iload 5, 0, 0, .null, []),
  (40, 0, .aload_n 0, 0, 0, .null, []),
  (41, 4, .invokevirtual 90, 122, 0, .null, [11]),
  (44, 17, .if_icmp .ge 15, 2, 9999, .null, [29]),
  (47, 0, .aload_n 0, 0, 0, .null, []),
  (48, 0, .iload 5, 0, 0, .null, []),
  (50, 99, .invokevirtual 549, 0, 0, .null, []),
  (53, 0, .iinc 5 1, 0, 0, .null, []),
  (56, 0, .goto (-18), 0, 0, .null, [20]),
  (59, 0, .aload_n 0, 0, 0, .null, []),
  (60, 0, .iconst 0, 0, 0, .null, []),
  (61, 4, .invokevirtual 435, 94, 0, .null, [11]),
  (64, 0, .pop, 0, 0, .null, []),
  (65, 0, .iconst 0, 0, 0, .null, []),
  (66, 0, .istore 5, 0, 0, .null, []),
  (68, 0, .iload 5, 0, 0, .null, []),
  (70, 0, .aload_n 0, 0, 0, .null, []),
  (71, 4, .invokevirtual 90, 122, 0, .null, [11]),
  (74, 17, .if_icmp .ge 42, 2, 9999, .null, [59]),
  (77, 0, .dload_n 2, 0, 0, .null, []),
  (78, 0, .aload_n 0, 0, 0, .null, []),
  (79, 1, .getfield 44, 11, 19, .null, []),
  (82, 0, .iload 5, 0, 0, .null, []),
  (84, 9, .daload, 0, 0, .null, []),
  (85, 3, .ldc2_w 513, 0, 0, .double 4643211215818981376, []),
  (88, 0, .ddiv, 0, 0, .null, []),
  (89, 0, .aload_n 0, 0, 0, .null, []),
  (90, 0, .iload 5, 0, 0, .null, []),
  (92, 0, .bipush 47, 0, 0, .null, []),
  (94, 99, .invokevirtual 98, 0, 0, .null, []),
  (97, 0, .l2d, 0, 0, .null, []),
  (98, 3, .ldc2_w 513, 0, 0, .double 4643211215818981376, []),
  (101, 0, .ddiv, 0, 0, .null, []),
  (102, 0, .dsub, 0, 0, .null, []),
  (103, 99, .invokestatic 533, 0, 0, .null, []),
  (106, 99, .invokestatic 552, 0, 0, .null, []),
  (109, 0, .dstore_n 2, 0, 0, .null, []),
  (110, 0, .iinc 5 1, 0, 0, .null, []),
  (113, 0, .goto (-45), 0, 0, .null, [35]),
  (116, 0, .iinc 4 1, 0, 0, .null, []),
  (119, 0, .goto (-114), 0, 0, .null, [4]),
  (122, 0, .dload_n 2, 0, 0, .null, []),
  (123, 16, .dreturn, 0, 0, .null, [])])
set_option maxRecDepth 100000 in
noncomputable def ri_m_X10_ahead : ri_M := (⟨"StillLoops", "ahead", "(IIZ)I"⟩, prog_1_method_29_code, 5, some .int, 3, [
  (0, 0, .aload_n 0, 0, 0, .null, []),
  (1, 0, .iload_n 1, 0, 0, .null, []),
  (2, 4, .invokevirtual 78, 132, 0, .null, [10]),
  (5, 0, .pop, 0, 0, .null, []),
  (6, 0, .aload_n 0, 0, 0, .null, []),
  (7, 0, .iload_n 2, 0, 0, .null, []),
  (8, 4, .invokevirtual 349, 146, 0, .null, [10]),
  (11, 0, .aload_n 0, 0, 0, .null, []),
  (12, 1, .getfield 34, 10, 5, .null, []),
  (15, 1, .getfield 228, 0, 0, .null, []),
  (18, 0, .iload_n 1, 0, 0, .null, []),
  (19, 11, .aaload, 0, 0, .null, []),
  (20, 0, .astore 4, 0, 0, .null, []),
  (22, 0, .iload_n 3, 0, 0, .null, []),
  (23, 17, .ifCond .eq 11, 1, 9999, .null, [18]),
  (26, 0, .aload 4, 0, 0, .null, []),
  (28, 1, .getfield 129, 2, 7, .null, []),
  (31, 0, .goto 11, 0, 0, .null, [21]),
  (34, 0, .aload 4, 0, 0, .null, []),
  (36, 1, .getfield 82, 2, 0, .null, []),
  (39, 99, .invokevirtual 126, 0, 0, .null, []),
  (42, 16, .ireturn, 0, 0, .null, [])])
set_option maxRecDepth 100000 in
noncomputable def ri_m_X10_peak : ri_M := (⟨"StillLoops", "peak", "(II)J"⟩, prog_1_method_30_code, 6, some .long, 2, [
  (0, 0, .aload_n 0, 0, 0, .null, []),
  (1, 0, .iload_n 1, 0, 0, .null, []),
  (2, 4, .invokevirtual 78, 132, 0, .null, [10]),
  (5, 0, .pop, 0, 0, .null, []),
  (6, 0, .iload_n 2, 0, 0, .null, []),
  (7, 0, .iconst 0, 0, 0, .null, []),
  (8, 0, .bipush 60, 0, 0, .null, []),
  (10, 4, .invokestatic 232, 133, 1, .null, []),
  (13, 0, .aload_n 0, 0, 0, .null, []),
  (14, 1, .getfield 34, 10, 5, .null, []),
  (17, 0, .aload_n 0, 0, 0, .null, []),
  (18, 1, .getfield 23, 10, 2, .null, []),
  (21, 4, .invokevirtual 61, 126, 0, .null, [0]),
  (24, 0, .lconst 0, 0, 0, .null, []),
  (25, 0, .lstore_n 3, 0, 0, .null, []),
  (26, 0, .iconst 0, 0, 0, .null, []),
  (27, 0, .istore 5, 0, 0, .null, []),
  (29, 0, .iload 5, 0, 0, .null, []),
  (31, 0, .iload_n 2, 0, 0, .null, []),
  (32, 17, .if_icmp .ge 31, 2, 9999, .null, [34]),
  (35, 0, .aload_n 0, 0, 0, .null, []),
  (36, 1, .getfield 34, 10, 5, .null, []),
  (39, 4, .invokevirtual 243, 135, 0, .null, [0]),
  (42, 0, .pop, 0, 0, .null, []),
  (43, 0, .lload_n 3, 0, 0, .null, []),
  (44, 0, .aload_n 0, 0, 0, .null, []),
  (45, 1, .getfield 34, 10, 5, .null, []),
  (48, 1, .getfield 352, 0, 6, .null, []),
  (51, 0, .iload_n 1, 0, 0, .null, []),
  (52, 7, .laload, 0, 0, .null, []),
  (53, 99, .invokestatic 356, 0, 0, .null, []),
  (56, 0, .lstore_n 3, 0, 0, .null, []),
  (57, 0, .iinc 5 1, 0, 0, .null, []),
  (60, 0, .goto (-31), 0, 0, .null, [17]),
  (63, 0, .lload_n 3, 0, 0, .null, []),
  (64, 16, .lreturn, 0, 0, .null, [])])
set_option maxRecDepth 100000 in
noncomputable def ri_m_X11_noTicks : ri_M := (⟨"StillLoopsModel", "noTicks", "(II)Z"⟩, prog_13_method_95_code, 3, some .boolean, 2, [
  (0, 0, .aload_n 0, 0, 0, .null, []),
  (1, 0, .iconst 0, 0, 0, .null, []),
  (2, 2, .putfield 79, 11, 0, .null, []),
  (5, 0, .aload_n 0, 0, 0, .null, []),
  (6, 0, .aload_n 0, 0, 0, .null, []),
  (7, 0, .iload_n 1, 0, 0, .null, []),
  (8, 4, .invokevirtual 439, 85, 0, .null, [11]),
  (11, 0, .iconst 1, 0, 0, .null, []),
  (12, 4, .invokevirtual 305, 83, 0, .null, [11]),
  (15, 17, .ifCond .ne 26, 1, 9999, .null, [22]),
  (18, 0, .aload_n 0, 0, 0, .null, []),
  (19, 0, .iload_n 2, 0, 0, .null, []),
  (20, 0, .iconst 0, 0, 0, .null, []),
  (21, 0, .bipush 60, 0, 0, .null, []),
  (23, 4, .invokestatic 94, 86, 1, .null, []),
  (26, 17, .ifCond .ne 7, 1, 9999, .null, [18]),
  (29, 0, .iconst 1, 0, 0, .null, []),
  (30, 0, .goto 4, 0, 0, .null, [19]),
  (33, 0, .iconst 0, 0, 0, .null, []),
  (34, 0, .iconst 2, 0, 0, .null, []),
  (35, 4, .invokevirtual 305, 83, 0, .null, [11]),
  (38, 17, .ifCond .eq 7, 1, 9999, .null, [24]),
  (41, 0, .iconst 1, 0, 0, .null, []),
  (42, 0, .goto 4, 0, 0, .null, [25]),
  (45, 0, .iconst 0, 0, 0, .null, []),
  (46, 16, .ireturn, 0, 0, .null, [])])
set_option maxRecDepth 100000 in
noncomputable def ri_m_X10_hunts : ri_M := (⟨"StillLoops", "hunts", "(II)I"⟩, prog_1_method_31_code, 8, some .int, 2, [
  (0, 0, .aload_n 0, 0, 0, .null, []),
  (1, 0, .iload_n 1, 0, 0, .null, []),
  (2, 4, .invokevirtual 78, 132, 0, .null, [10]),
  (5, 0, .pop, 0, 0, .null, []),
  (6, 0, .iload_n 2, 0, 0, .null, []),
  (7, 0, .iconst 0, 0, 0, .null, []),
  (8, 0, .bipush 60, 0, 0, .null, []),
  (10, 4, .invokestatic 232, 133, 1, .null, []),
  (13, 0, .aload_n 0, 0, 0, .null, []),
  (14, 1, .getfield 34, 10, 5, .null, []),
  (17, 0, .aload_n 0, 0, 0, .null, []),
  (18, 1, .getfield 23, 10, 2, .null, []),
  (21, 4, .invokevirtual 61, 126, 0, .null, [0]),
  (24, 0, .aload_n 0, 0, 0, .null, []),
  (25, 1, .getfield 34, 10, 5, .null, []),
  (28, 1, .getfield 228, 0, 0, .null, []),
  (31, 0, .iload_n 1, 0, 0, .null, []),
  (32, 11, .aaload, 0, 0, .null, []),
  (33, 0, .astore_n 3, 0, 0, .null, []),
  (34, 0, .iconst 0, 0, 0, .null, []),
  (35, 0, .istore 4, 0, 0, .null, []),
  (37, 0, .aload_n 3, 0, 0, .null, []),
  (38, 1, .getfield 82, 2, 0, .null, []),
  (41, 99, .invokevirtual 126, 0, 0, .null, []),
  (44, 0, .aload_n 3, 0, 0, .null, []),
  (45, 1, .getfield 123, 2, 6, .null, []),
  (48, 17, .if_icmp .ge 7, 2, 9999, .null, [29]),
  (51, 0, .iconst 1, 0, 0, .null, []),
  (52, 0, .goto 4, 0, 0, .null, [30]),
  (55, 0, .iconst 0, 0, 0, .null, []),
  (56, 0, .istore 5, 0, 0, .null, []),
  (58, 0, .iconst 0, 0, 0, .null, []),
  (59, 0, .istore 6, 0, 0, .null, []),
  (61, 0, .iload 6, 0, 0, .null, []),
  (63, 0, .iload_n 2, 0, 0, .null, []),
  (64, 17, .if_icmp .ge 52, 2, 9999, .null, [58]),
  (67, 0, .aload_n 0, 0, 0, .null, []),
  (68, 1, .getfield 34, 10, 5, .null, []),
  (71, 4, .invokevirtual 243, 135, 0, .null, [0]),
  (74, 0, .pop, 0, 0, .null, []),
  (75, 0, .aload_n 3, 0, 0, .null, []),
  (76, 1, .getfield 82, 2, 0, .null, []),
  (79, 99, .invokevirtual 126, 0, 0, .null, []),
  (82, 0, .aload_n 3, 0, 0, .null, []),
  (83, 1, .getfield 123, 2, 6, .null, []),
  (86, 17, .if_icmp .ge 7, 2, 9999, .null, [48]),
  (89, 0, .iconst 1, 0, 0, .null, []),
  (90, 0, .goto 4, 0, 0, .null, [49]),
  (93, 0, .iconst 0, 0, 0, .null, []),
  (94, 0, .istore 7, 0, 0, .null, []),
  (96, 0, .iload 7, 0, 0, .null, []),
  (98, 0, .iload 5, 0, 0, .null, []),
  (100, 17, .if_icmp .eq 6, 2, 9999, .null, [54]),
  (103, 0, .iinc 4 1, 0, 0, .null, []),
  (106, 0, .iload 7, 0, 0, .null, []),
  (108, 0, .istore 5, 0, 0, .null, []),
  (110, 0, .iinc 6 1, 0, 0, .null, []),
  (113, 0, .goto (-52), 0, 0, .null, [33]),
  (116, 0, .iload 4, 0, 0, .null, []),
  (118, 16, .ireturn, 0, 0, .null, [])])
set_option maxRecDepth 100000 in
noncomputable def ri_m_X10_worst : ri_M := (⟨"StillLoops", "worst", "(I)I"⟩, prog_1_method_32_code, 6, some .int, 1, [
  (0, 0, .aload_n 0, 0, 0, .null, []),
  (1, 0, .iload_n 1, 0, 0, .null, []),
  (2, 4, .invokevirtual 349, 146, 0, .null, [10]),
  (5, 0, .iconst (-1), 0, 0, .null, []),
  (6, 0, .istore_n 2, 0, 0, .null, []),
  (7, 0, .iconst (-1), 0, 0, .null, []),
  (8, 0, .istore_n 3, 0, 0, .null, []),
  (9, 0, .iconst 0, 0, 0, .null, []),
  (10, 0, .istore 4, 0, 0, .null, []),
  (12, 0, .iload 4, 0, 0, .null, []),
  (14, 0, .aload_n 0, 0, 0, .null, []),
  (15, 1, .getfield 34, 10, 5, .null, []),
  (18, 1, .getfield 333, 0, 1, .null, []),
  (21, 17, .if_icmp .ge 56, 2, 9999, .null, [39]),
  (24, 0, .aload_n 0, 0, 0, .null, []),
  (25, 1, .getfield 34, 10, 5, .null, []),
  (28, 1, .getfield 228, 0, 0, .null, []),
  (31, 0, .iload 4, 0, 0, .null, []),
  (33, 11, .aaload, 0, 0, .null, []),
  (34, 1, .getfield 82, 2, 0, .null, []),
  (37, 99, .invokevirtual 126, 0, 0, .null, []),
  (40, 0, .aload_n 0, 0, 0, .null, []),
  (41, 1, .getfield 34, 10, 5, .null, []),
  (44, 1, .getfield 228, 0, 0, .null, []),
  (47, 0, .iload 4, 0, 0, .null, []),
  (49, 11, .aaload, 0, 0, .null, []),
  (50, 1, .getfield 123, 2, 6, .null, []),
  (53, 17, .isub, 2, 9999, .null, []),
  (54, 99, .invokestatic 286, 0, 0, .null, []),
  (57, 0, .istore 5, 0, 0, .null, []),
  (59, 0, .iload 5, 0, 0, .null, []),
  (61, 0, .iload_n 3, 0, 0, .null, []),
  (62, 17, .if_icmp .le 9, 2, 9999, .null, [37]),
  (65, 0, .iload 5, 0, 0, .null, []),
  (67, 0, .istore_n 3, 0, 0, .null, []),
  (68, 0, .iload 4, 0, 0, .null, []),
  (70, 0, .istore_n 2, 0, 0, .null, []),
  (71, 0, .iinc 4 1, 0, 0, .null, []),
  (74, 0, .goto (-62), 0, 0, .null, [9]),
  (77, 0, .iload_n 2, 0, 0, .null, []),
  (78, 16, .ireturn, 0, 0, .null, [])])
set_option maxRecDepth 100000 in
noncomputable def ri_m_X11_loops : ri_M := (⟨"StillLoopsModel", "loops", "()I"⟩, prog_13_method_9_code, 1, some .int, 0, [
  (0, 0, .aload_n 0, 0, 0, .null, []),
  (1, 1, .getfield 9, 11, 1, .null, []),
  (4, 0, .iconst 0, 0, 0, .null, []),
  (5, 7, .laload, 0, 0, .null, []),
  (6, 0, .l2i, 0, 0, .null, []),
  (7, 16, .ireturn, 0, 0, .null, [])])
set_option maxRecDepth 100000 in
noncomputable def ri_m_X10_which : ri_M := (⟨"StillLoops", "which", "(I)I"⟩, prog_1_method_33_code, 4, some .int, 1, [
  (0, 0, .iload_n 1, 0, 0, .null, []),
  (1, 17, .ifCond .lt 9, 1, 9999, .null, [5]),
  (4, 0, .iload_n 1, 0, 0, .null, []),
  (5, 0, .bipush 8, 0, 0, .null, []),
  (7, 17, .if_icmp .le 11, 2, 9999, .null, [9]),
  (10, 23, .new 165, 3, 167, .null, []),
  (13, 0, .dup, 0, 0, .null, []),
  (14, 99, .invokespecial 167, 0, 0, .null, []),
  (17, 99, .athrow, 0, 0, .null, []),
  (18, 0, .iconst 0, 0, 0, .null, []),
  (19, 0, .istore_n 2, 0, 0, .null, []),
  (20, 0, .iconst 0, 0, 0, .null, []),
  (21, 0, .istore_n 3, 0, 0, .null, []),
  (22, 0, .iload_n 3, 0, 0, .null, []),
  (23, 0, .aload_n 0, 0, 0, .null, []),
  (24, 1, .getfield 23, 10, 2, .null, []),
  (27, 1, .getfield 333, 0, 1, .null, []),
  (30, 17, .if_icmp .ge 27, 2, 9999, .null, [32]),
  (33, 0, .aload_n 0, 0, 0, .null, []),
  (34, 1, .getfield 23, 10, 2, .null, []),
  (37, 0, .iload_n 3, 0, 0, .null, []),
  (38, 0, .iload_n 1, 0, 0, .null, []),
  (39, 99, .invokevirtual 359, 0, 0, .null, []),
  (42, 17, .ifCond .eq 9, 1, 9999, .null, [30]),
  (45, 0, .iload_n 2, 0, 0, .null, []),
  (46, 0, .iconst 1, 0, 0, .null, []),
  (47, 0, .iload_n 3, 0, 0, .null, []),
  (48, 17, .ishl, 2, 9999, .null, []),
  (49, 17, .ior, 2, 9999, .null, []),
  (50, 0, .istore_n 2, 0, 0, .null, []),
  (51, 0, .iinc 3 1, 0, 0, .null, []),
  (54, 0, .goto (-32), 0, 0, .null, [13]),
  (57, 0, .iload_n 2, 0, 0, .null, []),
  (58, 16, .ireturn, 0, 0, .null, [])])
set_option maxRecDepth 100000 in
noncomputable def ri_m_X10_event : ri_M := (⟨"StillLoops", "event", "(II)I"⟩, prog_1_method_34_code, 3, some .int, 2, [
  (0, 0, .iload_n 1, 0, 0, .null, []),
  (1, 17, .ifCond .lt 17, 1, 9999, .null, [8]),
  (4, 0, .iload_n 1, 0, 0, .null, []),
  (5, 0, .aload_n 0, 0, 0, .null, []),
  (6, 1, .getfield 23, 10, 2, .null, []),
  (9, 1, .getfield 363, 0, 4, .null, []),
  (12, 1, .getfield 367, 7, 2, .null, []),
  (15, 17, .if_icmp .lt 11, 2, 9999, .null, [12]),
  (18, 23, .new 188, 2, 190, .null, []),
  (21, 0, .dup, 0, 0, .null, []),
  (22, 99, .invokespecial 190, 0, 0, .null, []),
  (25, 99, .athrow, 0, 0, .null, []),
  (26, 0, .iload_n 2, 0, 0, .null, []),
  (27, 17, .ifCond .lt 8, 1, 9999, .null, [17]),
  (30, 0, .iload_n 2, 0, 0, .null, []),
  (31, 0, .iconst 3, 0, 0, .null, []),
  (32, 17, .if_icmp .le 11, 2, 9999, .null, [21]),
  (35, 23, .new 165, 3, 167, .null, []),
  (38, 0, .dup, 0, 0, .null, []),
  (39, 99, .invokespecial 167, 0, 0, .null, []),
  (42, 99, .athrow, 0, 0, .null, []),
  (43, 0, .aload_n 0, 0, 0, .null, []),
  (44, 1, .getfield 23, 10, 2, .null, []),
  (47, 1, .getfield 363, 0, 4, .null, []),
  (50, 0, .iload_n 1, 0, 0, .null, []),
  (51, 0, .iload_n 2, 0, 0, .null, []),
  (52, 99, .invokevirtual 370, 0, 0, .null, []),
  (55, 16, .ireturn, 0, 0, .null, [])])
set_option maxRecDepth 100000 in
noncomputable def ri_m_X10_log : ri_M := (⟨"StillLoops", "log", "(II)I"⟩, prog_1_method_35_code, 3, some .int, 2, [
  (0, 0, .iload_n 2, 0, 0, .null, []),
  (1, 17, .ifCond .lt 8, 1, 9999, .null, [5]),
  (4, 0, .iload_n 2, 0, 0, .null, []),
  (5, 0, .iconst 3, 0, 0, .null, []),
  (6, 17, .if_icmp .le 11, 2, 9999, .null, [9]),
  (9, 23, .new 165, 3, 167, .null, []),
  (12, 0, .dup, 0, 0, .null, []),
  (13, 99, .invokespecial 167, 0, 0, .null, []),
  (16, 99, .athrow, 0, 0, .null, []),
  (17, 0, .iload_n 1, 0, 0, .null, []),
  (18, 17, .ifCond .lt 17, 1, 9999, .null, [17]),
  (21, 0, .iload_n 1, 0, 0, .null, []),
  (22, 0, .aload_n 0, 0, 0, .null, []),
  (23, 1, .getfield 23, 10, 2, .null, []),
  (26, 1, .getfield 373, 0, 5, .null, []),
  (29, 1, .getfield 367, 7, 2, .null, []),
  (32, 17, .if_icmp .lt 5, 2, 9999, .null, [19]),
  (35, 0, .iconst (-1), 0, 0, .null, []),
  (36, 16, .ireturn, 0, 0, .null, []),
  (37, 0, .aload_n 0, 0, 0, .null, []),
  (38, 1, .getfield 23, 10, 2, .null, []),
  (41, 1, .getfield 373, 0, 5, .null, []),
  (44, 0, .aload_n 0, 0, 0, .null, []),
  (45, 1, .getfield 23, 10, 2, .null, []),
  (48, 1, .getfield 373, 0, 5, .null, []),
  (51, 1, .getfield 367, 7, 2, .null, []),
  (54, 0, .iconst 1, 0, 0, .null, []),
  (55, 17, .isub, 2, 9999, .null, []),
  (56, 0, .iload_n 1, 0, 0, .null, []),
  (57, 17, .isub, 2, 9999, .null, []),
  (58, 0, .iload_n 2, 0, 0, .null, []),
  (59, 99, .invokevirtual 370, 0, 0, .null, []),
  (62, 16, .ireturn, 0, 0, .null, [])])
set_option maxRecDepth 100000 in
noncomputable def ri_m_X0_copyFrom : ri_M := (⟨"StillLoops$Bench", "copyFrom", "(LStillLoops$Bench;)V"⟩, prog_2_method_2_code, 3, none, 1, [
  (0, 0, .aload_n 0, 0, 0, .null, []),
  (1, 0, .aload_n 1, 0, 0, .null, []),
  (2, 1, .getfield 17, 0, 1, .null, []),
  (5, 2, .putfield 17, 0, 1, .null, []),
  (8, 0, .aload_n 0, 0, 0, .null, []),
  (9, 0, .aload_n 1, 0, 0, .null, []),
  (10, 1, .getfield 21, 0, 2, .null, []),
  (13, 2, .putfield 21, 0, 2, .null, []),
  (16, 0, .aload_n 0, 0, 0, .null, []),
  (17, 0, .aload_n 1, 0, 0, .null, []),
  (18, 1, .getfield 24, 0, 3, .null, []),
  (21, 2, .putfield 24, 0, 3, .null, []),
  (24, 0, .iconst 0, 0, 0, .null, []),
  (25, 0, .istore_n 2, 0, 0, .null, []),
  (26, 0, .iload_n 2, 0, 0, .null, []),
  (27, 0, .aload_n 0, 0, 0, .null, []),
  (28, 1, .getfield 17, 0, 1, .null, []),
  (31, 17, .if_icmp .ge 24, 2, 9999, .null, [29]),
  (34, 0, .aload_n 0, 0, 0, .null, []),
  (35, 1, .getfield 11, 0, 0, .null, []),
  (38, 0, .iload_n 2, 0, 0, .null, []),
  (39, 11, .aaload, 0, 0, .null, []),
  (40, 0, .aload_n 1, 0, 0, .null, []),
  (41, 1, .getfield 11, 0, 0, .null, []),
  (44, 0, .iload_n 2, 0, 0, .null, []),
  (45, 11, .aaload, 0, 0, .null, []),
  (46, 99, .invokevirtual 48, 0, 0, .null, []),
  (49, 0, .iinc 2 1, 0, 0, .null, []),
  (52, 0, .goto (-26), 0, 0, .null, [14]),
  (55, 0, .aload_n 0, 0, 0, .null, []),
  (56, 1, .getfield 32, 0, 4, .null, []),
  (59, 0, .aload_n 1, 0, 0, .null, []),
  (60, 1, .getfield 32, 0, 4, .null, []),
  (63, 4, .invokevirtual 52, 147, 0, .null, [7]),
  (66, 0, .aload_n 0, 0, 0, .null, []),
  (67, 1, .getfield 36, 0, 5, .null, []),
  (70, 0, .aload_n 1, 0, 0, .null, []),
  (71, 1, .getfield 36, 0, 5, .null, []),
  (74, 4, .invokevirtual 52, 147, 0, .null, [7]),
  (77, 16, .return_, 0, 0, .null, [])])
set_option maxRecDepth 100000 in
noncomputable def ri_m_X7_init : ri_M := (⟨"StillLoops$Rows", "<init>", "(I)V"⟩, prog_9_method_1_code, 2, none, 1, [
  (0, 0, .aload_n 0, 0, 0, .null, []),
  (1, 21, .invokespecial 1, 0, 0, .null, []),
  (4, 0, .aload_n 0, 0, 0, .null, []),
  (5, 0, .iconst 0, 0, 0, .null, []),
  (6, 2, .putfield 7, 7, 2, .null, []),
  (9, 0, .aload_n 0, 0, 0, .null, []),
  (10, 0, .iload_n 1, 0, 0, .null, []),
  (11, 2, .putfield 13, 7, 1, .null, []),
  (14, 0, .aload_n 0, 0, 0, .null, []),
  (15, 0, .iconst 4, 0, 0, .null, []),
  (16, 0, .iload_n 1, 0, 0, .null, []),
  (17, 17, .imul, 2, 9999, .null, []),
  (18, 19, .newarray .int, 0, 0, .int 0, []),
  (20, 2, .putfield 16, 7, 0, .null, []),
  (23, 16, .return_, 0, 0, .null, [])])
set_option maxRecDepth 100000 in
noncomputable def ri_m_X2_init : ri_M := (⟨"StillLoops$Loop", "<init>", "()V"⟩, prog_4_method_1_code, 1, none, 0, [
  (0, 0, .aload_n 0, 0, 0, .null, []),
  (1, 21, .invokespecial 3, 0, 0, .null, []),
  (4, 0, .aload_n 0, 0, 0, .null, []),
  (5, 18, .new 9, 3, 8, .null, []),
  (8, 0, .dup, 0, 0, .null, []),
  (9, 4, .invokespecial 11, 148, 3, .null, []),
  (12, 2, .putfield 12, 2, 0, .null, []),
  (15, 0, .aload_n 0, 0, 0, .null, []),
  (16, 18, .new 18, 9, 6, .null, []),
  (19, 0, .dup, 0, 0, .null, []),
  (20, 4, .invokespecial 20, 149, 3, .null, []),
  (23, 2, .putfield 21, 2, 1, .null, []),
  (26, 0, .aload_n 0, 0, 0, .null, []),
  (27, 18, .new 25, 1, 10, .null, []),
  (30, 0, .dup, 0, 0, .null, []),
  (31, 4, .invokespecial 27, 150, 3, .null, []),
  (34, 2, .putfield 28, 2, 2, .null, []),
  (37, 0, .aload_n 0, 0, 0, .null, []),
  (38, 18, .new 32, 5, 9, .null, []),
  (41, 0, .dup, 0, 0, .null, []),
  (42, 4, .invokespecial 34, 151, 3, .null, []),
  (45, 2, .putfield 35, 2, 3, .null, []),
  (48, 0, .aload_n 0, 0, 0, .null, []),
  (49, 0, .iconst 4, 0, 0, .null, []),
  (50, 19, .newarray .int, 0, 0, .int 0, []),
  (52, 2, .putfield 39, 2, 15, .null, []),
  (55, 16, .return_, 0, 0, .null, [])])
set_option maxRecDepth 100000 in
noncomputable def ri_m_X4_read : ri_M := (⟨"StillLoops$Reade\x72", "read", "()I"⟩, prog_6_method_3_code, 3, some .int, 0, [
  (0, 0, .aload_n 0, 0, 0, .null, []),
  (1, 0, .aload_n 0, 0, 0, .null, []),
  (2, 1, .getfield 18, 4, 1, .null, []),
  (5, 2, .putfield 26, 4, 3, .null, []),
  (8, 0, .aload_n 0, 0, 0, .null, []),
  (9, 0, .iconst 0, 0, 0, .null, []),
  (10, 2, .putfield 18, 4, 1, .null, []),
  (13, 0, .aload_n 0, 0, 0, .null, []),
  (14, 0, .iconst 0, 0, 0, .null, []),
  (15, 2, .putfield 29, 4, 4, .null, []),
  (18, 0, .aload_n 0, 0, 0, .null, []),
  (19, 0, .iconst (-1), 0, 0, .null, []),
  (20, 2, .putfield 35, 4, 6, .null, []),
  (23, 0, .aload_n 0, 0, 0, .null, []),
  (24, 4, .invokevirtual 38, 152, 0, .null, [4]),
  (27, 0, .aload_n 0, 0, 0, .null, []),
  (28, 1, .getfield 29, 4, 4, .null, []),
  (31, 0, .aload_n 0, 0, 0, .null, []),
  (32, 1, .getfield 26, 4, 3, .null, []),
  (35, 17, .if_icmp .ge 7, 2, 9999, .null, [22]),
  (38, 0, .iconst 1, 0, 0, .null, []),
  (39, 0, .goto 4, 0, 0, .null, [23]),
  (42, 0, .iconst 0, 0, 0, .null, []),
  (43, 0, .istore_n 1, 0, 0, .null, []),
  (44, 0, .iconst 0, 0, 0, .null, []),
  (45, 0, .istore_n 2, 0, 0, .null, []),
  (46, 0, .iload_n 1, 0, 0, .null, []),
  (47, 17, .ifCond .eq 107, 1, 9999, .null, [81]),
  (50, 0, .iload_n 2, 0, 0, .null, []),
  (51, 0, .bipush 14, 0, 0, .null, []),
  (53, 17, .if_icmp .gt 101, 2, 9999, .null, [81]),
  (56, 0, .aload_n 0, 0, 0, .null, []),
  (57, 4, .invokevirtual 38, 152, 0, .null, [4]),
  (60, 0, .iload_n 2, 0, 0, .null, []),
  (61, 0, .bipush 14, 0, 0, .null, []),
  (63, 17, .if_icmp .lt 14, 2, 9999, .null, [41]),
  (66, 0, .aload_n 0, 0, 0, .null, []),
  (67, 0, .aload_n 0, 0, 0, .null, []),
  (68, 1, .getfield 29, 4, 4, .null, []),
  (71, 99, .invokevirtual 41, 0, 0, .null, []),
  (74, 0, .goto 7, 0, 0, .null, [43]),
  (77, 0, .aload_n 0, 0, 0, .null, []),
  (78, 99, .invokevirtual 45, 0, 0, .null, []),
  (81, 0, .aload_n 0, 0, 0, .null, []),
  (82, 4, .invokevirtual 38, 152, 0, .null, [4]),
  (85, 0, .aload_n 0, 0, 0, .null, []),
  (86, 1, .getfield 35, 4, 6, .null, []),
  (89, 0, .iconst (-1), 0, 0, .null, []),
  (90, 17, .if_icmp .ne 18, 2, 9999, .null, [56]),
  (93, 0, .aload_n 0, 0, 0, .null, []),
  (94, 1, .getfield 29, 4, 4, .null, []),
  (97, 0, .aload_n 0, 0, 0, .null, []),
  (98, 1, .getfield 26, 4, 3, .null, []),
  (101, 17, .if_icmp .ge 7, 2, 9999, .null, [56]),
  (104, 0, .iconst 1, 0, 0, .null, []),
  (105, 0, .goto 4, 0, 0, .null, [57]),
  (108, 0, .iconst 0, 0, 0, .null, []),
  (109, 0, .istore_n 1, 0, 0, .null, []),
  (110, 0, .iload_n 1, 0, 0, .null, []),
  (111, 17, .ifCond .eq 27, 1, 9999, .null, [73]),
  (114, 0, .aload_n 0, 0, 0, .null, []),
  (115, 1, .getfield 22, 4, 2, .null, []),
  (118, 0, .aload_n 0, 0, 0, .null, []),
  (119, 1, .getfield 29, 4, 4, .null, []),
  (122, 12, .baload, 0, 0, .null, []),
  (123, 0, .bipush 59, 0, 0, .null, []),
  (125, 17, .if_icmp .eq 13, 2, 9999, .null, [73]),
  (128, 0, .aload_n 0, 0, 0, .null, []),
  (129, 0, .aload_n 0, 0, 0, .null, []),
  (130, 1, .getfield 29, 4, 4, .null, []),
  (133, 99, .invokevirtual 41, 0, 0, .null, []),
  (136, 0, .iconst 0, 0, 0, .null, []),
  (137, 0, .istore_n 1, 0, 0, .null, []),
  (138, 0, .aload_n 0, 0, 0, .null, []),
  (139, 0, .dup, 0, 0, .null, []),
  (140, 1, .getfield 29, 4, 4, .null, []),
  (143, 0, .iconst 1, 0, 0, .null, []),
  (144, 17, .iadd, 2, 9999, .null, []),
  (145, 2, .putfield 29, 4, 4, .null, []),
  (148, 0, .iinc 2 1, 0, 0, .null, []),
  (151, 0, .goto (-105), 0, 0, .null, [26]),
  (154, 0, .aload_n 0, 0, 0, .null, []),
  (155, 1, .getfield 35, 4, 6, .null, []),
  (158, 16, .ireturn, 0, 0, .null, [])])
set_option maxRecDepth 100000 in
noncomputable def ri_m_X11_blanks : ri_M := (⟨"StillLoopsModel", "blanks", "()V"⟩, prog_13_method_24_code, 1, none, 0, [
  (0, 0, .aload_n 0, 0, 0, .null, []),
  (1, 0, .bipush 32, 0, 0, .null, []),
  (3, 0, .bipush 32, 0, 0, .null, []),
  (5, 4, .invokevirtual 132, 131, 0, .null, [11]),
  (8, 17, .ifCond .eq 16, 1, 9999, .null, [12]),
  (11, 0, .aload_n 0, 0, 0, .null, []),
  (12, 0, .dup, 0, 0, .null, []),
  (13, 1, .getfield 126, 11, 8, .null, []),
  (16, 0, .iconst 1, 0, 0, .null, []),
  (17, 17, .iadd, 2, 9999, .null, []),
  (18, 2, .putfield 126, 11, 8, .null, []),
  (21, 0, .goto (-21), 0, 0, .null, [0]),
  (24, 0, .aload_n 0, 0, 0, .null, []),
  (25, 0, .aload_n 0, 0, 0, .null, []),
  (26, 1, .getfield 126, 11, 8, .null, []),
  (29, 2, .putfield 136, 11, 10, .null, []),
  (32, 16, .return_, 0, 0, .null, [])])
set_option maxRecDepth 100000 in
noncomputable def ri_m_X11_isAt : ri_M := (⟨"StillLoopsModel", "isAt", "(II)Z"⟩, prog_13_method_23_code, 3, some .boolean, 2, [
  (0, 0, .aload_n 0, 0, 0, .null, []),
  (1, 1, .getfield 126, 11, 8, .null, []),
  (4, 0, .aload_n 0, 0, 0, .null, []),
  (5, 1, .getfield 129, 11, 9, .null, []),
  (8, 17, .if_icmp .ge 33, 2, 9999, .null, [21]),
  (11, 0, .aload_n 0, 0, 0, .null, []),
  (12, 1, .getfield 22, 11, 6, .null, []),
  (15, 0, .aload_n 0, 0, 0, .null, []),
  (16, 1, .getfield 126, 11, 8, .null, []),
  (19, 12, .baload, 0, 0, .null, []),
  (20, 0, .iload_n 1, 0, 0, .null, []),
  (21, 17, .if_icmp .lt 20, 2, 9999, .null, [21]),
  (24, 0, .aload_n 0, 0, 0, .null, []),
  (25, 1, .getfield 22, 11, 6, .null, []),
  (28, 0, .aload_n 0, 0, 0, .null, []),
  (29, 1, .getfield 126, 11, 8, .null, []),
  (32, 12, .baload, 0, 0, .null, []),
  (33, 0, .iload_n 2, 0, 0, .null, []),
  (34, 17, .if_icmp .gt 7, 2, 9999, .null, [21]),
  (37, 0, .iconst 1, 0, 0, .null, []),
  (38, 0, .goto 4, 0, 0, .null, [22]),
  (41, 0, .iconst 0, 0, 0, .null, []),
  (42, 16, .ireturn, 0, 0, .null, [])])
set_option maxRecDepth 100000 in
noncomputable def ri_m_X10_knownLoop : ri_M := (⟨"StillLoops", "knownLoop", "(I)LStillLoops$Loop;"⟩, prog_1_method_39_code, 2, some (.object "StillLoops$Loop"), 1, [
  (0, 0, .iload_n 1, 0, 0, .null, []),
  (1, 17, .ifCond .lt 14, 1, 9999, .null, [7]),
  (4, 0, .iload_n 1, 0, 0, .null, []),
  (5, 0, .aload_n 0, 0, 0, .null, []),
  (6, 1, .getfield 23, 10, 2, .null, []),
  (9, 1, .getfield 333, 0, 1, .null, []),
  (12, 17, .if_icmp .lt 11, 2, 9999, .null, [11]),
  (15, 23, .new 188, 2, 190, .null, []),
  (18, 0, .dup, 0, 0, .null, []),
  (19, 99, .invokespecial 190, 0, 0, .null, []),
  (22, 99, .athrow, 0, 0, .null, []),
  (23, 0, .aload_n 0, 0, 0, .null, []),
  (24, 1, .getfield 23, 10, 2, .null, []),
  (27, 1, .getfield 228, 0, 0, .null, []),
  (30, 0, .iload_n 1, 0, 0, .null, []),
  (31, 11, .aaload, 0, 0, .null, []),
  (32, 16, .areturn, 0, 0, .null, [])])
set_option maxRecDepth 100000 in
noncomputable def ri_m_X10_checkBetween : ri_M := (⟨"StillLoops", "checkBetween", "(III)V"⟩, prog_1_method_40_code, 3, none, 3, [
  (0, 0, .iload_n 0, 0, 0, .null, []),
  (1, 0, .iload_n 1, 0, 0, .null, []),
  (2, 17, .if_icmp .lt 8, 2, 9999, .null, [6]),
  (5, 0, .iload_n 0, 0, 0, .null, []),
  (6, 0, .iload_n 2, 0, 0, .null, []),
  (7, 17, .if_icmp .le 11, 2, 9999, .null, [10]),
  (10, 23, .new 69, 0, 71, .null, []),
  (13, 0, .dup, 0, 0, .null, []),
  (14, 99, .invokespecial 71, 0, 0, .null, []),
  (17, 99, .athrow, 0, 0, .null, []),
  (18, 16, .return_, 0, 0, .null, [])])
set_option maxRecDepth 100000 in
noncomputable def ri_m_X0_happen : ri_M := (⟨"StillLoops$Bench", "happen", "()V"⟩, prog_2_method_10_code, 3, none, 0, [
  (0, 0, .iconst 0, 0, 0, .null, []),
  (1, 0, .istore_n 1, 0, 0, .null, []),
  (2, 0, .aload_n 0, 0, 0, .null, []),
  (3, 1, .getfield 32, 0, 4, .null, []),
  (6, 1, .getfield 101, 7, 2, .null, []),
  (9, 0, .istore_n 2, 0, 0, .null, []),
  (10, 0, .iload_n 2, 0, 0, .null, []),
  (11, 17, .ifCond .le 70, 1, 9999, .null, [41]),
  (14, 0, .aload_n 0, 0, 0, .null, []),
  (15, 1, .getfield 32, 0, 4, .null, []),
  (18, 0, .iload_n 1, 0, 0, .null, []),
  (19, 0, .iconst 0, 0, 0, .null, []),
  (20, 99, .invokevirtual 102, 0, 0, .null, []),
  (23, 0, .aload_n 0, 0, 0, .null, []),
  (24, 1, .getfield 24, 0, 3, .null, []),
  (27, 17, .if_icmp .le 9, 2, 9999, .null, [18]),
  (30, 0, .iinc 1 1, 0, 0, .null, []),
  (33, 0, .goto 42, 0, 0, .null, [39]),
  (36, 0, .aload_n 0, 0, 0, .null, []),
  (37, 0, .aload_n 0, 0, 0, .null, []),
  (38, 1, .getfield 32, 0, 4, .null, []),
  (41, 0, .iload_n 1, 0, 0, .null, []),
  (42, 0, .iconst 1, 0, 0, .null, []),
  (43, 99, .invokevirtual 102, 0, 0, .null, []),
  (46, 0, .aload_n 0, 0, 0, .null, []),
  (47, 1, .getfield 32, 0, 4, .null, []),
  (50, 0, .iload_n 1, 0, 0, .null, []),
  (51, 0, .iconst 2, 0, 0, .null, []),
  (52, 99, .invokevirtual 102, 0, 0, .null, []),
  (55, 0, .aload_n 0, 0, 0, .null, []),
  (56, 1, .getfield 32, 0, 4, .null, []),
  (59, 0, .iload_n 1, 0, 0, .null, []),
  (60, 0, .iconst 3, 0, 0, .null, []),
  (61, 99, .invokevirtual 102, 0, 0, .null, []),
  (64, 99, .invokevirtual 106, 0, 0, .null, []),
  (67, 0, .aload_n 0, 0, 0, .null, []),
  (68, 1, .getfield 32, 0, 4, .null, []),
  (71, 0, .iload_n 1, 0, 0, .null, []),
  (72, 99, .invokevirtual 110, 0, 0, .null, []),
  (75, 0, .iinc 2 (-1), 0, 0, .null, []),
  (78, 0, .goto (-68), 0, 0, .null, [6]),
  (81, 16, .return_, 0, 0, .null, [])])
set_option maxRecDepth 100000 in
noncomputable def ri_m_X0_advance : ri_M := (⟨"StillLoops$Bench", "advance", "()I"⟩, prog_2_method_12_code, 5, some .int, 0, [
  (0, 0, .iconst 0, 0, 0, .null, []),
  (1, 0, .istore_n 1, 0, 0, .null, []),
  (2, 0, .iconst 0, 0, 0, .null, []),
  (3, 0, .istore_n 2, 0, 0, .null, []),
  (4, 0, .iload_n 2, 0, 0, .null, []),
  (5, 0, .aload_n 0, 0, 0, .null, []),
  (6, 1, .getfield 17, 0, 1, .null, []),
  (9, 17, .if_icmp .ge 63, 2, 9999, .null, [46]),
  (12, 0, .aload_n 0, 0, 0, .null, []),
  (13, 0, .aload_n 0, 0, 0, .null, []),
  (14, 1, .getfield 11, 0, 0, .null, []),
  (17, 0, .iload_n 2, 0, 0, .null, []),
  (18, 11, .aaload, 0, 0, .null, []),
  (19, 99, .invokevirtual 126, 0, 0, .null, []),
  (22, 0, .istore_n 3, 0, 0, .null, []),
  (23, 0, .aload_n 0, 0, 0, .null, []),
  (24, 1, .getfield 43, 0, 7, .null, []),
  (27, 0, .iload_n 2, 0, 0, .null, []),
  (28, 0, .iload_n 3, 0, 0, .null, []),
  (29, 0, .iconst (-1), 0, 0, .null, []),
  (30, 17, .if_icmp .eq 7, 2, 9999, .null, [23]),
  (33, 0, .iconst 1, 0, 0, .null, []),
  (34, 0, .goto 4, 0, 0, .null, [24]),
  (37, 0, .iconst 0, 0, 0, .null, []),
  (38, 27, .bastore, 0, 0, .null, []),
  (39, 0, .iload_n 3, 0, 0, .null, []),
  (40, 0, .iconst (-1), 0, 0, .null, []),
  (41, 17, .if_icmp .eq 15, 2, 9999, .null, [38]),
  (44, 0, .aload_n 0, 0, 0, .null, []),
  (45, 0, .iload_n 2, 0, 0, .null, []),
  (46, 0, .iload_n 3, 0, 0, .null, []),
  (47, 99, .invokevirtual 130, 0, 0, .null, []),
  (50, 0, .iload_n 1, 0, 0, .null, []),
  (51, 0, .iconst 1, 0, 0, .null, []),
  (52, 0, .iload_n 2, 0, 0, .null, []),
  (53, 17, .ishl, 2, 9999, .null, []),
  (54, 17, .ior, 2, 9999, .null, []),
  (55, 0, .istore_n 1, 0, 0, .null, []),
  (56, 0, .aload_n 0, 0, 0, .null, []),
  (57, 0, .iload_n 2, 0, 0, .null, []),
  (58, 99, .invokevirtual 133, 0, 0, .null, []),
  (61, 0, .aload_n 0, 0, 0, .null, []),
  (62, 0, .iload_n 2, 0, 0, .null, []),
  (63, 99, .invokevirtual 136, 0, 0, .null, []),
  (66, 0, .iinc 2 1, 0, 0, .null, []),
  (69, 0, .goto (-65), 0, 0, .null, [4]),
  (72, 0, .iconst 0, 0, 0, .null, []),
  (73, 0, .istore_n 2, 0, 0, .null, []),
  (74, 0, .iload_n 2, 0, 0, .null, []),
  (75, 0, .aload_n 0, 0, 0, .null, []),
  (76, 1, .getfield 17, 0, 1, .null, []),
  (79, 17, .if_icmp .ge 68, 2, 9999, .null, [84]),
  (82, 0, .aload_n 0, 0, 0, .null, []),
  (83, 0, .iload_n 2, 0, 0, .null, []),
  (84, 99, .invokevirtual 65, 0, 0, .null, []),
  (87, 0, .istore_n 3, 0, 0, .null, []),
  (88, 0, .aload_n 0, 0, 0, .null, []),
  (89, 1, .getfield 11, 0, 0, .null, []),
  (92, 0, .iload_n 2, 0, 0, .null, []),
  (93, 11, .aaload, 0, 0, .null, []),
  (94, 1, .getfield 139, 2, 1, .null, []),
  (97, 0, .astore 4, 0, 0, .null, []),
  (99, 0, .aload_n 0, 0, 0, .null, []),
  (100, 1, .getfield 11, 0, 0, .null, []),
  (103, 0, .iload_n 2, 0, 0, .null, []),
  (104, 11, .aaload, 0, 0, .null, []),
  (105, 1, .getfield 117, 2, 0, .null, []),
  (108, 0, .iload_n 3, 0, 0, .null, []),
  (109, 0, .iconst (-1), 0, 0, .null, []),
  (110, 17, .if_icmp .ne 16, 2, 9999, .null, [75]),
  (113, 0, .aload 4, 0, 0, .null, []),
  (115, 0, .aload 4, 0, 0, .null, []),
  (117, 1, .getfield 143, 9, 3, .null, []),
  (120, 99, .invokevirtual 148, 0, 0, .null, []),
  (123, 0, .goto 15, 0, 0, .null, [81]),
  (126, 0, .aload_n 0, 0, 0, .null, []),
  (127, 1, .getfield 11, 0, 0, .null, []),
  (130, 0, .iload_n 3, 0, 0, .null, []),
  (131, 11, .aaload, 0, 0, .null, []),
  (132, 1, .getfield 117, 2, 0, .null, []),
  (135, 99, .invokevirtual 151, 0, 0, .null, []),
  (138, 99, .invokevirtual 155, 0, 0, .null, []),
  (141, 0, .iinc 2 1, 0, 0, .null, []),
  (144, 0, .goto (-70), 0, 0, .null, [48]),
  (147, 0, .aload_n 0, 0, 0, .null, []),
  (148, 0, .dup, 0, 0, .null, []),
  (149, 1, .getfield 24, 0, 3, .null, []),
  (152, 0, .iconst 1, 0, 0, .null, []),
  (153, 17, .iadd, 2, 9999, .null, []),
  (154, 2, .putfield 24, 0, 3, .null, []),
  (157, 0, .iload_n 1, 0, 0, .null, []),
  (158, 16, .ireturn, 0, 0, .null, [])])
set_option maxRecDepth 100000 in
noncomputable def ri_m_J6_bitCount_0f7a4 : ri_M := (⟨"java/lang/Intege\x72", "bitCount", "(I)I"⟩, prog_22_method_49_code, 1, some .int, 1, [
  (0, 0, .iload_n 0, 0, 0, .null, []),
  (1, 0, .iload_n 0, 0, 0, .null, []),
  (2, 0, .iconst 1, 0, 0, .null, []),
  (3, 17, .iushr, 2, 9999, .null, []),
  (4, 3, .ldc_w 265, 0, 0, .int 1431655765, []),
  (7, 17, .iand, 2, 9999, .null, []),
  (8, 17, .isub, 2, 9999, .null, []),
  (9, 0, .istore_n 0, 0, 0, .null, []),
  (10, 0, .iload_n 0, 0, 0, .null, []),
  (11, 3, .ldc_w 266, 0, 0, .int 858993459, []),
  (14, 17, .iand, 2, 9999, .null, []),
  (15, 0, .iload_n 0, 0, 0, .null, []),
  (16, 0, .iconst 2, 0, 0, .null, []),
  (17, 17, .iushr, 2, 9999, .null, []),
  (18, 3, .ldc_w 266, 0, 0, .int 858993459, []),
  (21, 17, .iand, 2, 9999, .null, []),
  (22, 17, .iadd, 2, 9999, .null, []),
  (23, 0, .istore_n 0, 0, 0, .null, []),
  (24, 0, .iload_n 0, 0, 0, .null, []),
  (25, 0, .iload_n 0, 0, 0, .null, []),
  (26, 0, .iconst 4, 0, 0, .null, []),
  (27, 17, .iushr, 2, 9999, .null, []),
  (28, 17, .iadd, 2, 9999, .null, []),
  (29, 3, .ldc_w 267, 0, 0, .int 252645135, []),
  (32, 17, .iand, 2, 9999, .null, []),
  (33, 0, .istore_n 0, 0, 0, .null, []),
  (34, 0, .iload_n 0, 0, 0, .null, []),
  (35, 0, .iload_n 0, 0, 0, .null, []),
  (36, 0, .bipush 8, 0, 0, .null, []),
  (38, 17, .iushr, 2, 9999, .null, []),
  (39, 17, .iadd, 2, 9999, .null, []),
  (40, 0, .istore_n 0, 0, 0, .null, []),
  (41, 0, .iload_n 0, 0, 0, .null, []),
  (42, 0, .iload_n 0, 0, 0, .null, []),
  (43, 0, .bipush 16, 0, 0, .null, []),
  (45, 17, .iushr, 2, 9999, .null, []),
  (46, 17, .iadd, 2, 9999, .null, []),
  (47, 0, .istore_n 0, 0, 0, .null, []),
  (48, 0, .iload_n 0, 0, 0, .null, []),
  (49, 0, .bipush 63, 0, 0, .null, []),
  (51, 17, .iand, 2, 9999, .null, []),
  (52, 16, .ireturn, 0, 0, .null, [])])
set_option maxRecDepth 100000 in
noncomputable def ri_m_X11_allHappen : ri_M := (⟨"StillLoopsModel", "allHappen", "()V"⟩, prog_13_method_57_code, 6, none, 0, [
  (0, 0, .iconst 0, 0, 0, .null, []),
  (1, 0, .istore_n 1, 0, 0, .null, []),
  (2, 0, .aload_n 0, 0, 0, .null, []),
  (3, 1, .getfield 9, 11, 1, .null, []),
  (6, 0, .iconst 3, 0, 0, .null, []),
  (7, 7, .laload, 0, 0, .null, []),
  (8, 0, .l2i, 0, 0, .null, []),
  (9, 0, .istore_n 2, 0, 0, .null, []),
  (10, 0, .iconst 0, 0, 0, .null, []),
  (11, 0, .istore_n 3, 0, 0, .null, []),
  (12, 0, .iload_n 3, 0, 0, .null, []),
  (13, 0, .iload_n 2, 0, 0, .null, []),
  (14, 17, .if_icmp .ge 117, 2, 9999, .null, [81]),
  (17, 0, .sipush 313, 0, 0, .null, []),
  (20, 0, .iconst 4, 0, 0, .null, []),
  (21, 0, .iload_n 3, 0, 0, .null, []),
  (22, 17, .imul, 2, 9999, .null, []),
  (23, 17, .iadd, 2, 9999, .null, []),
  (24, 0, .istore 4, 0, 0, .null, []),
  (26, 0, .aload_n 0, 0, 0, .null, []),
  (27, 1, .getfield 9, 11, 1, .null, []),
  (30, 0, .iload 4, 0, 0, .null, []),
  (32, 0, .iconst 0, 0, 0, .null, []),
  (33, 17, .iadd, 2, 9999, .null, []),
  (34, 7, .laload, 0, 0, .null, []),
  (35, 0, .aload_n 0, 0, 0, .null, []),
  (36, 1, .getfield 9, 11, 1, .null, []),
  (39, 0, .iconst 2, 0, 0, .null, []),
  (40, 7, .laload, 0, 0, .null, []),
  (41, 0, .lcmp, 0, 0, .null, []),
  (42, 17, .ifCond .gt 40, 1, 9999, .null, [55]),
  (45, 0, .aload_n 0, 0, 0, .null, []),
  (46, 0, .aload_n 0, 0, 0, .null, []),
  (47, 1, .getfield 9, 11, 1, .null, []),
  (50, 0, .iload 4, 0, 0, .null, []),
  (52, 0, .iconst 1, 0, 0, .null, []),
  (53, 17, .iadd, 2, 9999, .null, []),
  (54, 7, .laload, 0, 0, .null, []),
  (55, 0, .l2i, 0, 0, .null, []),
  (56, 0, .aload_n 0, 0, 0, .null, []),
  (57, 1, .getfield 9, 11, 1, .null, []),
  (60, 0, .iload 4, 0, 0, .null, []),
  (62, 0, .iconst 2, 0, 0, .null, []),
  (63, 17, .iadd, 2, 9999, .null, []),
  (64, 7, .laload, 0, 0, .null, []),
  (65, 0, .l2i, 0, 0, .null, []),
  (66, 0, .aload_n 0, 0, 0, .null, []),
  (67, 1, .getfield 9, 11, 1, .null, []),
  (70, 0, .iload 4, 0, 0, .null, []),
  (72, 0, .iconst 3, 0, 0, .null, []),
  (73, 17, .iadd, 2, 9999, .null, []),
  (74, 7, .laload, 0, 0, .null, []),
  (75, 0, .l2i, 0, 0, .null, []),
  (76, 99, .invokevirtual 354, 0, 0, .null, []),
  (79, 0, .goto 46, 0, 0, .null, [79]),
  (82, 0, .iconst 0, 0, 0, .null, []),
  (83, 0, .istore 5, 0, 0, .null, []),
  (85, 0, .iload 5, 0, 0, .null, []),
  (87, 0, .iconst 4, 0, 0, .null, []),
  (88, 17, .if_icmp .ge 34, 2, 9999, .null, [78]),
  (91, 0, .aload_n 0, 0, 0, .null, []),
  (92, 1, .getfield 9, 11, 1, .null, []),
  (95, 0, .sipush 313, 0, 0, .null, []),
  (98, 0, .iconst 4, 0, 0, .null, []),
  (99, 0, .iload_n 1, 0, 0, .null, []),
  (100, 17, .imul, 2, 9999, .null, []),
  (101, 17, .iadd, 2, 9999, .null, []),
  (102, 0, .iload 5, 0, 0, .null, []),
  (104, 17, .iadd, 2, 9999, .null, []),
  (105, 0, .aload_n 0, 0, 0, .null, []),
  (106, 1, .getfield 9, 11, 1, .null, []),
  (109, 0, .iload 4, 0, 0, .null, []),
  (111, 0, .iload 5, 0, 0, .null, []),
  (113, 17, .iadd, 2, 9999, .null, []),
  (114, 7, .laload, 0, 0, .null, []),
  (115, 8, .lastore, 0, 0, .null, []),
  (116, 0, .iinc 5 1, 0, 0, .null, []),
  (119, 0, .goto (-34), 0, 0, .null, [57]),
  (122, 0, .iinc 1 1, 0, 0, .null, []),
  (125, 0, .iinc 3 1, 0, 0, .null, []),
  (128, 0, .goto (-116), 0, 0, .null, [10]),
  (131, 0, .aload_n 0, 0, 0, .null, []),
  (132, 1, .getfield 9, 11, 1, .null, []),
  (135, 0, .iconst 3, 0, 0, .null, []),
  (136, 0, .iload_n 1, 0, 0, .null, []),
  (137, 0, .i2l, 0, 0, .null, []),
  (138, 8, .lastore, 0, 0, .null, []),
  (139, 16, .return_, 0, 0, .null, [])])
set_option maxRecDepth 100000 in
noncomputable def ri_m_X10_within : ri_M := (⟨"StillLoops", "within", "(JJJ)J"⟩, prog_1_method_45_code, 6, some .long, 3, [
  (0, 0, .lload_n 0, 0, 0, .null, []),
  (1, 0, .lload_n 2, 0, 0, .null, []),
  (2, 0, .lcmp, 0, 0, .null, []),
  (3, 17, .ifCond .ge 7, 1, 9999, .null, [6]),
  (6, 0, .lload_n 2, 0, 0, .null, []),
  (7, 0, .goto 16, 0, 0, .null, [13]),
  (10, 0, .lload_n 0, 0, 0, .null, []),
  (11, 0, .lload 4, 0, 0, .null, []),
  (13, 0, .lcmp, 0, 0, .null, []),
  (14, 17, .ifCond .le 8, 1, 9999, .null, [12]),
  (17, 0, .lload 4, 0, 0, .null, []),
  (19, 0, .goto 4, 0, 0, .null, [13]),
  (22, 0, .lload_n 0, 0, 0, .null, []),
  (23, 16, .lreturn, 0, 0, .null, [])])
set_option maxRecDepth 100000 in
noncomputable def ri_m_X6_lengthOf : ri_M := (⟨"StillLoops$Rounds", "lengthOf", "(LStillLoops$Bench;)I"⟩, prog_8_method_3_code, 5, some .int, 1, [
  (0, 0, .iconst 0, 0, 0, .null, []),
  (1, 0, .istore_n 2, 0, 0, .null, []),
  (2, 0, .iconst 1, 0, 0, .null, []),
  (3, 0, .istore_n 3, 0, 0, .null, []),
  (4, 0, .aload_n 0, 0, 0, .null, []),
  (5, 0, .aload_n 1, 0, 0, .null, []),
  (6, 0, .bipush 9, 0, 0, .null, []),
  (8, 4, .invokevirtual 42, 153, 0, .null, [6]),
  (11, 0, .iconst 1, 0, 0, .null, []),
  (12, 0, .istore 4, 0, 0, .null, []),
  (14, 0, .iload 4, 0, 0, .null, []),
  (16, 0, .sipush 400, 0, 0, .null, []),
  (19, 17, .if_icmp .gt 56, 2, 9999, .null, [42]),
  (22, 0, .aload_n 1, 0, 0, .null, []),
  (23, 4, .invokevirtual 46, 135, 0, .null, [0]),
  (26, 0, .pop, 0, 0, .null, []),
  (27, 0, .aload_n 0, 0, 0, .null, []),
  (28, 0, .aload_n 1, 0, 0, .null, []),
  (29, 0, .bipush 9, 0, 0, .null, []),
  (31, 4, .invokevirtual 50, 154, 0, .null, [6]),
  (34, 17, .ifCond .eq 8, 1, 9999, .null, [25]),
  (37, 0, .iload 4, 0, 0, .null, []),
  (39, 0, .iload_n 2, 0, 0, .null, []),
  (40, 17, .isub, 2, 9999, .null, []),
  (41, 16, .ireturn, 0, 0, .null, []),
  (42, 0, .iload 4, 0, 0, .null, []),
  (44, 0, .iload_n 3, 0, 0, .null, []),
  (45, 17, .if_icmp .ne 24, 2, 9999, .null, [40]),
  (48, 0, .aload_n 0, 0, 0, .null, []),
  (49, 0, .aload_n 1, 0, 0, .null, []),
  (50, 0, .bipush 9, 0, 0, .null, []),
  (52, 4, .invokevirtual 42, 153, 0, .null, [6]),
  (55, 0, .iload 4, 0, 0, .null, []),
  (57, 0, .istore_n 2, 0, 0, .null, []),
  (58, 0, .iconst 2, 0, 0, .null, []),
  (59, 0, .iload 4, 0, 0, .null, []),
  (61, 17, .imul, 2, 9999, .null, []),
  (62, 0, .sipush 200, 0, 0, .null, []),
  (65, 99, .invokestatic 54, 0, 0, .null, []),
  (68, 0, .istore_n 3, 0, 0, .null, []),
  (69, 0, .iinc 4 1, 0, 0, .null, []),
  (72, 0, .goto (-58), 0, 0, .null, [10]),
  (75, 0, .iconst (-1), 0, 0, .null, []),
  (76, 16, .ireturn, 0, 0, .null, [])])
set_option maxRecDepth 100000 in
noncomputable def ri_m_X6_beginOf : ri_M := (⟨"StillLoops$Rounds", "beginOf", "(LStillLoops$Bench;LStillLoops$Bench;)I"⟩, prog_8_method_4_code, 4, some .int, 2, [
  (0, 0, .iconst 0, 0, 0, .null, []),
  (1, 0, .istore_n 3, 0, 0, .null, []),
  (2, 0, .iload_n 3, 0, 0, .null, []),
  (3, 0, .aload_n 0, 0, 0, .null, []),
  (4, 1, .getfield 17, 6, 1, .null, []),
  (7, 17, .if_icmp .ge 14, 2, 9999, .null, [11]),
  (10, 0, .aload_n 1, 0, 0, .null, []),
  (11, 4, .invokevirtual 46, 135, 0, .null, [0]),
  (14, 0, .pop, 0, 0, .null, []),
  (15, 0, .iinc 3 1, 0, 0, .null, []),
  (18, 0, .goto (-16), 0, 0, .null, [2]),
  (21, 0, .iconst 0, 0, 0, .null, []),
  (22, 0, .istore_n 3, 0, 0, .null, []),
  (23, 0, .iload_n 3, 0, 0, .null, []),
  (24, 0, .aload_n 0, 0, 0, .null, []),
  (25, 1, .getfield 17, 6, 1, .null, []),
  (28, 17, .iadd, 2, 9999, .null, []),
  (29, 0, .sipush 200, 0, 0, .null, []),
  (32, 17, .if_icmp .gt 38, 2, 9999, .null, [38]),
  (35, 0, .aload_n 0, 0, 0, .null, []),
  (36, 0, .aload_n 2, 0, 0, .null, []),
  (37, 0, .bipush 9, 0, 0, .null, []),
  (39, 4, .invokevirtual 42, 153, 0, .null, [6]),
  (42, 0, .aload_n 0, 0, 0, .null, []),
  (43, 0, .aload_n 1, 0, 0, .null, []),
  (44, 0, .bipush 9, 0, 0, .null, []),
  (46, 4, .invokevirtual 50, 154, 0, .null, [6]),
  (49, 17, .ifCond .eq 5, 1, 9999, .null, [30]),
  (52, 0, .iload_n 3, 0, 0, .null, []),
  (53, 16, .ireturn, 0, 0, .null, []),
  (54, 0, .aload_n 1, 0, 0, .null, []),
  (55, 4, .invokevirtual 46, 135, 0, .null, [0]),
  (58, 0, .pop, 0, 0, .null, []),
  (59, 0, .aload_n 2, 0, 0, .null, []),
  (60, 4, .invokevirtual 46, 135, 0, .null, [0]),
  (63, 0, .pop, 0, 0, .null, []),
  (64, 0, .iinc 3 1, 0, 0, .null, []),
  (67, 0, .goto (-44), 0, 0, .null, [13]),
  (70, 0, .iconst (-1), 0, 0, .null, []),
  (71, 16, .ireturn, 0, 0, .null, [])])
set_option maxRecDepth 100000 in
noncomputable def ri_m_X11_keepsTime : ri_M := (⟨"StillLoopsModel", "keepsTime", "([JI)V"⟩, prog_13_method_105_code, 4, none, 2, [
  (0, 0, .iconst 0, 0, 0, .null, []),
  (1, 0, .istore_n 3, 0, 0, .null, []),
  (2, 0, .iload_n 3, 0, 0, .null, []),
  (3, 0, .sipush 308, 0, 0, .null, []),
  (6, 17, .if_icmp .ge 22, 2, 9999, .null, [18]),
  (9, 0, .aload_n 1, 0, 0, .null, []),
  (10, 0, .iload_n 2, 0, 0, .null, []),
  (11, 0, .iload_n 3, 0, 0, .null, []),
  (12, 17, .iadd, 2, 9999, .null, []),
  (13, 0, .aload_n 0, 0, 0, .null, []),
  (14, 1, .getfield 9, 11, 1, .null, []),
  (17, 0, .iconst 5, 0, 0, .null, []),
  (18, 0, .iload_n 3, 0, 0, .null, []),
  (19, 17, .iadd, 2, 9999, .null, []),
  (20, 7, .laload, 0, 0, .null, []),
  (21, 8, .lastore, 0, 0, .null, []),
  (22, 0, .iinc 3 1, 0, 0, .null, []),
  (25, 0, .goto (-23), 0, 0, .null, [2]),
  (28, 16, .return_, 0, 0, .null, [])])
set_option maxRecDepth 100000 in
noncomputable def ri_m_X11_areAlike : ri_M := (⟨"StillLoopsModel", "areAlike", "([JI[JI)Z"⟩, prog_13_method_106_code, 10, some .boolean, 4, [
  (0, 0, .iconst 1, 0, 0, .null, []),
  (1, 0, .istore 5, 0, 0, .null, []),
  (3, 0, .iconst 0, 0, 0, .null, []),
  (4, 0, .istore 6, 0, 0, .null, []),
  (6, 0, .iload 6, 0, 0, .null, []),
  (8, 0, .aload_n 0, 0, 0, .null, []),
  (9, 4, .invokevirtual 90, 122, 0, .null, [11]),
  (12, 17, .if_icmp .ge 97, 2, 9999, .null, [59]),
  (15, 0, .iload 5, 0, 0, .null, []),
  (17, 17, .ifCond .eq 92, 1, 9999, .null, [59]),
  (20, 0, .bipush 77, 0, 0, .null, []),
  (22, 0, .iload 6, 0, 0, .null, []),
  (24, 17, .imul, 2, 9999, .null, []),
  (25, 0, .istore 7, 0, 0, .null, []),
  (27, 0, .aload_n 1, 0, 0, .null, []),
  (28, 0, .iload_n 2, 0, 0, .null, []),
  (29, 0, .iload 7, 0, 0, .null, []),
  (31, 17, .iadd, 2, 9999, .null, []),
  (32, 0, .bipush 8, 0, 0, .null, []),
  (34, 17, .iadd, 2, 9999, .null, []),
  (35, 7, .laload, 0, 0, .null, []),
  (36, 3, .ldc2_w 450, 0, 0, .long 3, []),
  (39, 0, .lcmp, 0, 0, .null, []),
  (40, 17, .ifCond .ne 8, 1, 9999, .null, [26]),
  (43, 0, .bipush 75, 0, 0, .null, []),
  (45, 0, .goto 5, 0, 0, .null, [27]),
  (48, 0, .bipush 66, 0, 0, .null, []),
  (50, 0, .istore 8, 0, 0, .null, []),
  (52, 0, .iconst 0, 0, 0, .null, []),
  (53, 0, .istore 9, 0, 0, .null, []),
  (55, 0, .iload 9, 0, 0, .null, []),
  (57, 0, .iload 8, 0, 0, .null, []),
  (59, 17, .if_icmp .ge 44, 2, 9999, .null, [57]),
  (62, 0, .iload 5, 0, 0, .null, []),
  (64, 17, .ifCond .eq 39, 1, 9999, .null, [57]),
  (67, 0, .aload_n 1, 0, 0, .null, []),
  (68, 0, .iload_n 2, 0, 0, .null, []),
  (69, 0, .iload 7, 0, 0, .null, []),
  (71, 17, .iadd, 2, 9999, .null, []),
  (72, 0, .iload 9, 0, 0, .null, []),
  (74, 17, .iadd, 2, 9999, .null, []),
  (75, 7, .laload, 0, 0, .null, []),
  (76, 0, .aload_n 3, 0, 0, .null, []),
  (77, 0, .iload 4, 0, 0, .null, []),
  (79, 0, .iload 7, 0, 0, .null, []),
  (81, 17, .iadd, 2, 9999, .null, []),
  (82, 0, .iload 9, 0, 0, .null, []),
  (84, 17, .iadd, 2, 9999, .null, []),
  (85, 7, .laload, 0, 0, .null, []),
  (86, 0, .lcmp, 0, 0, .null, []),
  (87, 17, .ifCond .ne 7, 1, 9999, .null, [53]),
  (90, 0, .iconst 1, 0, 0, .null, []),
  (91, 0, .goto 4, 0, 0, .null, [54]),
  (94, 0, .iconst 0, 0, 0, .null, []),
  (95, 0, .istore 5, 0, 0, .null, []),
  (97, 0, .iinc 9 1, 0, 0, .null, []),
  (100, 0, .goto (-45), 0, 0, .null, [30]),
  (103, 0, .iinc 6 1, 0, 0, .null, []),
  (106, 0, .goto (-100), 0, 0, .null, [4]),
  (109, 0, .iload 5, 0, 0, .null, []),
  (111, 16, .ireturn, 0, 0, .null, [])])
set_option maxRecDepth 100000 in
noncomputable def ri_m_X8_begin : ri_M := (⟨"StillLoops$Twin", "begin", "(LStillLoops$Bench;)V"⟩, prog_10_method_2_code, 5, none, 1, [
  (0, 0, .iconst 0, 0, 0, .null, []),
  (1, 0, .istore_n 2, 0, 0, .null, []),
  (2, 0, .iload_n 2, 0, 0, .null, []),
  (3, 0, .aload_n 1, 0, 0, .null, []),
  (4, 1, .getfield 41, 0, 1, .null, []),
  (7, 17, .if_icmp .ge 149, 2, 9999, .null, [91]),
  (10, 0, .aload_n 1, 0, 0, .null, []),
  (11, 1, .getfield 47, 0, 0, .null, []),
  (14, 0, .iload_n 2, 0, 0, .null, []),
  (15, 11, .aaload, 0, 0, .null, []),
  (16, 0, .astore_n 3, 0, 0, .null, []),
  (17, 0, .aload_n 0, 0, 0, .null, []),
  (18, 1, .getfield 9, 8, 0, .null, []),
  (21, 0, .iload_n 2, 0, 0, .null, []),
  (22, 0, .aload_n 3, 0, 0, .null, []),
  (23, 1, .getfield 51, 2, 0, .null, []),
  (26, 1, .getfield 57, 3, 5, .null, []),
  (29, 0, .i2d, 0, 0, .null, []),
  (30, 10, .dastore, 0, 0, .null, []),
  (31, 0, .aload_n 0, 0, 0, .null, []),
  (32, 1, .getfield 15, 8, 1, .null, []),
  (35, 0, .iload_n 2, 0, 0, .null, []),
  (36, 0, .aload_n 3, 0, 0, .null, []),
  (37, 1, .getfield 51, 2, 0, .null, []),
  (40, 1, .getfield 61, 3, 6, .null, []),
  (43, 0, .i2d, 0, 0, .null, []),
  (44, 10, .dastore, 0, 0, .null, []),
  (45, 0, .aload_n 0, 0, 0, .null, []),
  (46, 1, .getfield 18, 8, 2, .null, []),
  (49, 0, .iload_n 2, 0, 0, .null, []),
  (50, 0, .aload_n 3, 0, 0, .null, []),
  (51, 1, .getfield 63, 2, 8, .null, []),
  (54, 0, .l2d, 0, 0, .null, []),
  (55, 10, .dastore, 0, 0, .null, []),
  (56, 0, .aload_n 0, 0, 0, .null, []),
  (57, 1, .getfield 21, 8, 3, .null, []),
  (60, 0, .iload_n 2, 0, 0, .null, []),
  (61, 0, .aload_n 3, 0, 0, .null, []),
  (62, 1, .getfield 66, 2, 9, .null, []),
  (65, 0, .l2d, 0, 0, .null, []),
  (66, 10, .dastore, 0, 0, .null, []),
  (67, 0, .aload_n 0, 0, 0, .null, []),
  (68, 1, .getfield 24, 8, 4, .null, []),
  (71, 0, .iload_n 2, 0, 0, .null, []),
  (72, 0, .aload_n 3, 0, 0, .null, []),
  (73, 1, .getfield 68, 2, 10, .null, []),
  (76, 0, .l2d, 0, 0, .null, []),
  (77, 10, .dastore, 0, 0, .null, []),
  (78, 0, .aload_n 0, 0, 0, .null, []),
  (79, 1, .getfield 27, 8, 5, .null, []),
  (82, 0, .iload_n 2, 0, 0, .null, []),
  (83, 0, .aload_n 3, 0, 0, .null, []),
  (84, 1, .getfield 70, 2, 6, .null, []),
  (87, 0, .i2d, 0, 0, .null, []),
  (88, 10, .dastore, 0, 0, .null, []),
  (89, 0, .aload_n 0, 0, 0, .null, []),
  (90, 1, .getfield 30, 8, 6, .null, []),
  (93, 0, .iload_n 2, 0, 0, .null, []),
  (94, 0, .aload_n 3, 0, 0, .null, []),
  (95, 1, .getfield 72, 2, 7, .null, []),
  (98, 0, .i2d, 0, 0, .null, []),
  (99, 10, .dastore, 0, 0, .null, []),
  (100, 0, .aload_n 0, 0, 0, .null, []),
  (101, 1, .getfield 33, 8, 7, .null, []),
  (104, 0, .iload_n 2, 0, 0, .null, []),
  (105, 0, .aload_n 3, 0, 0, .null, []),
  (106, 1, .getfield 74, 2, 1, .null, []),
  (109, 1, .getfield 78, 9, 3, .null, []),
  (112, 0, .i2d, 0, 0, .null, []),
  (113, 10, .dastore, 0, 0, .null, []),
  (114, 0, .iconst 0, 0, 0, .null, []),
  (115, 0, .istore 4, 0, 0, .null, []),
  (117, 0, .iload 4, 0, 0, .null, []),
  (119, 0, .bipush 9, 0, 0, .null, []),
  (121, 17, .if_icmp .ge 29, 2, 9999, .null, [89]),
  (124, 0, .aload_n 0, 0, 0, .null, []),
  (125, 1, .getfield 38, 8, 8, .null, []),
  (128, 0, .iload_n 2, 0, 0, .null, []),
  (129, 11, .aaload, 0, 0, .null, []),
  (130, 0, .iload 4, 0, 0, .null, []),
  (132, 0, .aload_n 3, 0, 0, .null, []),
  (133, 1, .getfield 51, 2, 0, .null, []),
  (136, 1, .getfield 82, 3, 7, .null, []),
  (139, 0, .iload 4, 0, 0, .null, []),
  (141, 5, .iaload, 0, 0, .null, []),
  (142, 0, .i2d, 0, 0, .null, []),
  (143, 10, .dastore, 0, 0, .null, []),
  (144, 0, .iinc 4 1, 0, 0, .null, []),
  (147, 0, .goto (-30), 0, 0, .null, [72]),
  (150, 0, .iinc 2 1, 0, 0, .null, []),
  (153, 0, .goto (-151), 0, 0, .null, [2]),
  (156, 16, .return_, 0, 0, .null, [])])
set_option maxRecDepth 100000 in
noncomputable def ri_m_X8_advance : ri_M := (⟨"StillLoops$Twin", "advance", "(LStillLoops$Bench;)V"⟩, prog_10_method_3_code, 4, none, 1, [
  (0, 0, .iconst 0, 0, 0, .null, []),
  (1, 0, .istore_n 2, 0, 0, .null, []),
  (2, 0, .iload_n 2, 0, 0, .null, []),
  (3, 0, .aload_n 1, 0, 0, .null, []),
  (4, 1, .getfield 41, 0, 1, .null, []),
  (7, 17, .if_icmp .ge 15, 2, 9999, .null, [12]),
  (10, 0, .aload_n 0, 0, 0, .null, []),
  (11, 0, .aload_n 1, 0, 0, .null, []),
  (12, 0, .iload_n 2, 0, 0, .null, []),
  (13, 99, .invokevirtual 85, 0, 0, .null, []),
  (16, 0, .iinc 2 1, 0, 0, .null, []),
  (19, 0, .goto (-17), 0, 0, .null, [2]),
  (22, 0, .iconst 0, 0, 0, .null, []),
  (23, 0, .istore_n 2, 0, 0, .null, []),
  (24, 0, .iload_n 2, 0, 0, .null, []),
  (25, 0, .aload_n 1, 0, 0, .null, []),
  (26, 1, .getfield 41, 0, 1, .null, []),
  (29, 17, .if_icmp .ge 61, 2, 9999, .null, [50]),
  (32, 0, .aload_n 1, 0, 0, .null, []),
  (33, 0, .iload_n 2, 0, 0, .null, []),
  (34, 99, .invokevirtual 89, 0, 0, .null, []),
  (37, 0, .istore_n 3, 0, 0, .null, []),
  (38, 0, .aload_n 0, 0, 0, .null, []),
  (39, 0, .aload_n 1, 0, 0, .null, []),
  (40, 1, .getfield 47, 0, 0, .null, []),
  (43, 0, .iload_n 2, 0, 0, .null, []),
  (44, 11, .aaload, 0, 0, .null, []),
  (45, 1, .getfield 51, 2, 0, .null, []),
  (48, 0, .iload_n 2, 0, 0, .null, []),
  (49, 0, .iload_n 3, 0, 0, .null, []),
  (50, 0, .iconst (-1), 0, 0, .null, []),
  (51, 17, .if_icmp .ne 20, 2, 9999, .null, [41]),
  (54, 0, .aload_n 0, 0, 0, .null, []),
  (55, 0, .aload_n 1, 0, 0, .null, []),
  (56, 1, .getfield 47, 0, 0, .null, []),
  (59, 0, .iload_n 2, 0, 0, .null, []),
  (60, 11, .aaload, 0, 0, .null, []),
  (61, 1, .getfield 74, 2, 1, .null, []),
  (64, 0, .iload_n 2, 0, 0, .null, []),
  (65, 99, .invokevirtual 93, 0, 0, .null, []),
  (68, 0, .goto 13, 0, 0, .null, [47]),
  (71, 0, .aload_n 0, 0, 0, .null, []),
  (72, 1, .getfield 9, 8, 0, .null, []),
  (75, 0, .iload_n 3, 0, 0, .null, []),
  (76, 9, .daload, 0, 0, .null, []),
  (77, 3, .ldc2_w 97, 0, 0, .double 4643211215818981376, []),
  (80, 0, .ddiv, 0, 0, .null, []),
  (81, 99, .invokevirtual 99, 0, 0, .null, []),
  (84, 0, .iinc 2 1, 0, 0, .null, []),
  (87, 0, .goto (-63), 0, 0, .null, [14]),
  (90, 16, .return_, 0, 0, .null, [])])
set_option maxRecDepth 100000 in
noncomputable def ri_m_X8_farthestFrom : ri_M := (⟨"StillLoops$Twin", "farthestFrom", "(LStillLoops$Bench;)D"⟩, prog_10_method_7_code, 7, some .double, 1, [
  (0, 0, .dconst 0, 0, 0, .null, []),
  (1, 0, .dstore_n 2, 0, 0, .null, []),
  (2, 0, .iconst 0, 0, 0, .null, []),
  (3, 0, .istore 4, 0, 0, .null, []),
  (5, 0, .iload 4, 0, 0, .null, []),
  (7, 0, .aload_n 1, 0, 0, .null, []),
  (8, 1, .getfield 41, 0, 1, .null, []),
  (11, 17, .if_icmp .ge 72, 2, 9999, .null, [44]),
  (14, 0, .aload_n 0, 0, 0, .null, []),
  (15, 1, .getfield 9, 8, 0, .null, []),
  (18, 0, .iload 4, 0, 0, .null, []),
  (20, 9, .daload, 0, 0, .null, []),
  (21, 3, .ldc2_w 97, 0, 0, .double 4643211215818981376, []),
  (24, 0, .ddiv, 0, 0, .null, []),
  (25, 0, .aload_n 1, 0, 0, .null, []),
  (26, 1, .getfield 47, 0, 0, .null, []),
  (29, 0, .iload 4, 0, 0, .null, []),
  (31, 11, .aaload, 0, 0, .null, []),
  (32, 1, .getfield 51, 2, 0, .null, []),
  (35, 1, .getfield 57, 3, 5, .null, []),
  (38, 0, .i2d, 0, 0, .null, []),
  (39, 3, .ldc2_w 97, 0, 0, .double 4643211215818981376, []),
  (42, 0, .ddiv, 0, 0, .null, []),
  (43, 0, .dsub, 0, 0, .null, []),
  (44, 0, .dstore 5, 0, 0, .null, []),
  (46, 0, .dload 5, 0, 0, .null, []),
  (48, 0, .dconst 0, 0, 0, .null, []),
  (49, 0, .dcmp .g, 0, 0, .null, []),
  (50, 17, .ifCond .ge 9, 1, 9999, .null, [32]),
  (53, 0, .dload 5, 0, 0, .null, []),
  (55, 0, .dneg, 0, 0, .null, []),
  (56, 0, .goto 5, 0, 0, .null, [33]),
  (59, 0, .dload 5, 0, 0, .null, []),
  (61, 0, .dstore 5, 0, 0, .null, []),
  (63, 0, .dload 5, 0, 0, .null, []),
  (65, 0, .dload_n 2, 0, 0, .null, []),
  (66, 0, .dcmp .l, 0, 0, .null, []),
  (67, 17, .ifCond .le 8, 1, 9999, .null, [40]),
  (70, 0, .dload 5, 0, 0, .null, []),
  (72, 0, .goto 4, 0, 0, .null, [41]),
  (75, 0, .dload_n 2, 0, 0, .null, []),
  (76, 0, .dstore_n 2, 0, 0, .null, []),
  (77, 0, .iinc 4 1, 0, 0, .null, []),
  (80, 0, .goto (-75), 0, 0, .null, [4]),
  (83, 0, .dload_n 2, 0, 0, .null, []),
  (84, 16, .dreturn, 0, 0, .null, [])])
set_option maxRecDepth 100000 in
noncomputable def ri_m_X10_goAhead : ri_M := (⟨"StillLoops", "goAhead", "(I)V"⟩, prog_1_method_43_code, 3, none, 1, [
  (0, 0, .iload_n 1, 0, 0, .null, []),
  (1, 0, .iconst 0, 0, 0, .null, []),
  (2, 0, .bipush 60, 0, 0, .null, []),
  (4, 4, .invokestatic 232, 133, 1, .null, []),
  (7, 0, .aload_n 0, 0, 0, .null, []),
  (8, 1, .getfield 34, 10, 5, .null, []),
  (11, 0, .aload_n 0, 0, 0, .null, []),
  (12, 1, .getfield 23, 10, 2, .null, []),
  (15, 4, .invokevirtual 61, 126, 0, .null, [0]),
  (18, 0, .iconst 0, 0, 0, .null, []),
  (19, 0, .istore_n 2, 0, 0, .null, []),
  (20, 0, .iload_n 2, 0, 0, .null, []),
  (21, 0, .iload_n 1, 0, 0, .null, []),
  (22, 17, .if_icmp .ge 17, 2, 9999, .null, [20]),
  (25, 0, .aload_n 0, 0, 0, .null, []),
  (26, 1, .getfield 34, 10, 5, .null, []),
  (29, 4, .invokevirtual 243, 135, 0, .null, [0]),
  (32, 0, .pop, 0, 0, .null, []),
  (33, 0, .iinc 2 1, 0, 0, .null, []),
  (36, 0, .goto (-16), 0, 0, .null, [11]),
  (39, 16, .return_, 0, 0, .null, [])])
set_option maxRecDepth 100000 in
noncomputable def ri_m_X7_copyFrom : ri_M := (⟨"StillLoops$Rows", "copyFrom", "(LStillLoops$Rows;)V"⟩, prog_9_method_5_code, 2, none, 1, [
  (0, 0, .aload_n 1, 0, 0, .null, []),
  (1, 1, .getfield 16, 7, 0, .null, []),
  (4, 0, .iconst 0, 0, 0, .null, []),
  (5, 0, .aload_n 0, 0, 0, .null, []),
  (6, 1, .getfield 16, 7, 0, .null, []),
  (9, 0, .iconst 0, 0, 0, .null, []),
  (10, 0, .iconst 4, 0, 0, .null, []),
  (11, 0, .aload_n 1, 0, 0, .null, []),
  (12, 1, .getfield 7, 7, 2, .null, []),
  (15, 17, .imul, 2, 9999, .null, []),
  (16, 22, .invokestatic 24, 0, 0, .null, []),
  (19, 0, .aload_n 0, 0, 0, .null, []),
  (20, 0, .aload_n 1, 0, 0, .null, []),
  (21, 1, .getfield 7, 7, 2, .null, []),
  (24, 2, .putfield 7, 7, 2, .null, []),
  (27, 16, .return_, 0, 0, .null, [])])
set_option maxRecDepth 100000 in
noncomputable def ri_m_X3_init : ri_M := (⟨"StillLoops$Plant", "<init>", "()V"⟩, prog_5_method_1_code, 1, none, 0, [
  (0, 0, .aload_n 0, 0, 0, .null, []),
  (1, 21, .invokespecial 3, 0, 0, .null, []),
  (4, 0, .aload_n 0, 0, 0, .null, []),
  (5, 0, .bipush 9, 0, 0, .null, []),
  (7, 19, .newarray .int, 0, 0, .int 0, []),
  (9, 2, .putfield 9, 3, 7, .null, []),
  (12, 16, .return_, 0, 0, .null, [])])
set_option maxRecDepth 100000 in
noncomputable def ri_m_X9_init : ri_M := (⟨"StillLoops$Valve", "<init>", "()V"⟩, prog_11_method_1_code, 1, none, 0, [
  (0, 0, .aload_n 0, 0, 0, .null, []),
  (1, 21, .invokespecial 3, 0, 0, .null, []),
  (4, 0, .aload_n 0, 0, 0, .null, []),
  (5, 0, .bipush 8, 0, 0, .null, []),
  (7, 19, .newarray .int, 0, 0, .int 0, []),
  (9, 2, .putfield 9, 9, 5, .null, []),
  (12, 16, .return_, 0, 0, .null, [])])
set_option maxRecDepth 100000 in
noncomputable def ri_m_X1_init : ri_M := (⟨"StillLoops$Law", "<init>", "()V"⟩, prog_3_method_1_code, 1, none, 0, [
  (0, 0, .aload_n 0, 0, 0, .null, []),
  (1, 21, .invokespecial 3, 0, 0, .null, []),
  (4, 0, .aload_n 0, 0, 0, .null, []),
  (5, 0, .iconst 3, 0, 0, .null, []),
  (6, 19, .newarray .int, 0, 0, .int 0, []),
  (8, 2, .putfield 9, 1, 6, .null, []),
  (11, 0, .aload_n 0, 0, 0, .null, []),
  (12, 0, .iconst 3, 0, 0, .null, []),
  (13, 19, .newarray .int, 0, 0, .int 0, []),
  (15, 2, .putfield 15, 1, 7, .null, []),
  (18, 0, .aload_n 0, 0, 0, .null, []),
  (19, 0, .iconst 3, 0, 0, .null, []),
  (20, 19, .newarray .int, 0, 0, .int 0, []),
  (22, 2, .putfield 18, 1, 8, .null, []),
  (25, 0, .aload_n 0, 0, 0, .null, []),
  (26, 0, .iconst 3, 0, 0, .null, []),
  (27, 19, .newarray .int, 0, 0, .int 0, []),
  (29, 2, .putfield 21, 1, 9, .null, []),
  (32, 16, .return_, 0, 0, .null, [])])
set_option maxRecDepth 100000 in
noncomputable def ri_m_X5_init : ri_M := (⟨"StillLoops$RelayTest", "<init>", "()V"⟩, prog_7_method_1_code, 1, none, 0, [
  (0, 0, .aload_n 0, 0, 0, .null, []),
  (1, 21, .invokespecial 3, 0, 0, .null, []),
  (4, 16, .return_, 0, 0, .null, [])])
set_option maxRecDepth 100000 in
noncomputable def ri_m_X4_skipBlanks : ri_M := (⟨"StillLoops$Reade\x72", "skipBlanks", "()V"⟩, prog_6_method_15_code, 1, none, 0, [
  (0, 0, .aload_n 0, 0, 0, .null, []),
  (1, 1, .getfield 29, 4, 4, .null, []),
  (4, 0, .aload_n 0, 0, 0, .null, []),
  (5, 1, .getfield 26, 4, 3, .null, []),
  (8, 17, .if_icmp .ge 30, 2, 9999, .null, [19]),
  (11, 0, .aload_n 0, 0, 0, .null, []),
  (12, 1, .getfield 22, 4, 2, .null, []),
  (15, 0, .aload_n 0, 0, 0, .null, []),
  (16, 1, .getfield 29, 4, 4, .null, []),
  (19, 12, .baload, 0, 0, .null, []),
  (20, 0, .bipush 32, 0, 0, .null, []),
  (22, 17, .if_icmp .ne 16, 2, 9999, .null, [19]),
  (25, 0, .aload_n 0, 0, 0, .null, []),
  (26, 0, .dup, 0, 0, .null, []),
  (27, 1, .getfield 29, 4, 4, .null, []),
  (30, 0, .iconst 1, 0, 0, .null, []),
  (31, 17, .iadd, 2, 9999, .null, []),
  (32, 2, .putfield 29, 4, 4, .null, []),
  (35, 0, .goto (-35), 0, 0, .null, [0]),
  (38, 16, .return_, 0, 0, .null, [])])
set_option maxRecDepth 100000 in
noncomputable def ri_m_X6_keep : ri_M := (⟨"StillLoops$Rounds", "keep", "(LStillLoops$Bench;I)V"⟩, prog_8_method_5_code, 6, none, 2, [
  (0, 0, .iconst 0, 0, 0, .null, []),
  (1, 0, .istore_n 3, 0, 0, .null, []),
  (2, 0, .iload_n 3, 0, 0, .null, []),
  (3, 0, .aload_n 1, 0, 0, .null, []),
  (4, 1, .getfield 60, 0, 1, .null, []),
  (7, 17, .if_icmp .ge 57, 2, 9999, .null, [35]),
  (10, 0, .iload_n 2, 0, 0, .null, []),
  (11, 0, .bipush 100, 0, 0, .null, []),
  (13, 17, .imul, 2, 9999, .null, []),
  (14, 0, .iload_n 3, 0, 0, .null, []),
  (15, 0, .bipush 25, 0, 0, .null, []),
  (17, 17, .imul, 2, 9999, .null, []),
  (18, 17, .iadd, 2, 9999, .null, []),
  (19, 0, .istore 4, 0, 0, .null, []),
  (21, 0, .iconst 0, 0, 0, .null, []),
  (22, 0, .istore 5, 0, 0, .null, []),
  (24, 0, .iload 5, 0, 0, .null, []),
  (26, 0, .bipush 25, 0, 0, .null, []),
  (28, 17, .if_icmp .ge 30, 2, 9999, .null, [33]),
  (31, 0, .aload_n 0, 0, 0, .null, []),
  (32, 1, .getfield 24, 6, 3, .null, []),
  (35, 0, .iload 4, 0, 0, .null, []),
  (37, 0, .iload 5, 0, 0, .null, []),
  (39, 17, .iadd, 2, 9999, .null, []),
  (40, 0, .aload_n 1, 0, 0, .null, []),
  (41, 1, .getfield 63, 0, 0, .null, []),
  (44, 0, .iload_n 3, 0, 0, .null, []),
  (45, 11, .aaload, 0, 0, .null, []),
  (46, 0, .iload 5, 0, 0, .null, []),
  (48, 99, .invokevirtual 67, 0, 0, .null, []),
  (51, 8, .lastore, 0, 0, .null, []),
  (52, 0, .iinc 5 1, 0, 0, .null, []),
  (55, 0, .goto (-31), 0, 0, .null, [16]),
  (58, 0, .iinc 3 1, 0, 0, .null, []),
  (61, 0, .goto (-59), 0, 0, .null, [2]),
  (64, 16, .return_, 0, 0, .null, [])])
set_option maxRecDepth 100000 in
noncomputable def ri_m_X6_isKept : ri_M := (⟨"StillLoops$Rounds", "isKept", "(LStillLoops$Bench;I)Z"⟩, prog_8_method_6_code, 6, some .boolean, 2, [
  (0, 0, .iconst 0, 0, 0, .null, []),
  (1, 0, .istore_n 3, 0, 0, .null, []),
  (2, 0, .iload_n 3, 0, 0, .null, []),
  (3, 0, .aload_n 1, 0, 0, .null, []),
  (4, 1, .getfield 60, 0, 1, .null, []),
  (7, 17, .if_icmp .ge 63, 2, 9999, .null, [39]),
  (10, 0, .iload_n 2, 0, 0, .null, []),
  (11, 0, .bipush 100, 0, 0, .null, []),
  (13, 17, .imul, 2, 9999, .null, []),
  (14, 0, .iload_n 3, 0, 0, .null, []),
  (15, 0, .bipush 25, 0, 0, .null, []),
  (17, 17, .imul, 2, 9999, .null, []),
  (18, 17, .iadd, 2, 9999, .null, []),
  (19, 0, .istore 4, 0, 0, .null, []),
  (21, 0, .iconst 0, 0, 0, .null, []),
  (22, 0, .istore 5, 0, 0, .null, []),
  (24, 0, .iload 5, 0, 0, .null, []),
  (26, 0, .bipush 25, 0, 0, .null, []),
  (28, 17, .if_icmp .ge 36, 2, 9999, .null, [37]),
  (31, 0, .aload_n 0, 0, 0, .null, []),
  (32, 1, .getfield 24, 6, 3, .null, []),
  (35, 0, .iload 4, 0, 0, .null, []),
  (37, 0, .iload 5, 0, 0, .null, []),
  (39, 17, .iadd, 2, 9999, .null, []),
  (40, 7, .laload, 0, 0, .null, []),
  (41, 0, .aload_n 1, 0, 0, .null, []),
  (42, 1, .getfield 63, 0, 0, .null, []),
  (45, 0, .iload_n 3, 0, 0, .null, []),
  (46, 11, .aaload, 0, 0, .null, []),
  (47, 0, .iload 5, 0, 0, .null, []),
  (49, 99, .invokevirtual 67, 0, 0, .null, []),
  (52, 0, .lcmp, 0, 0, .null, []),
  (53, 17, .ifCond .eq 5, 1, 9999, .null, [35]),
  (56, 0, .iconst 0, 0, 0, .null, []),
  (57, 16, .ireturn, 0, 0, .null, []),
  (58, 0, .iinc 5 1, 0, 0, .null, []),
  (61, 0, .goto (-37), 0, 0, .null, [16]),
  (64, 0, .iinc 3 1, 0, 0, .null, []),
  (67, 0, .goto (-65), 0, 0, .null, [2]),
  (70, 0, .iconst 1, 0, 0, .null, []),
  (71, 16, .ireturn, 0, 0, .null, [])])
noncomputable def ri_Ms0 : List ri_M := [ri_m_L_law, ri_m_X10_init, ri_m_X11_init, ri_m_X10_feed, ri_m_X11_feed, ri_m_X10_end, ri_m_X11_end, ri_m_L_bench, ri_m_X11_bench, ri_m_X11_thrown, ri_m_X10_fault, ri_m_X11_fault, ri_m_L_loop, ri_m_X11_loop, ri_m_L_inner, ri_m_X11_inner, ri_m_L_gain, ri_m_X11_gain, ri_m_L_weight, ri_m_X11_weight, ri_m_L_trip, ri_m_X11_trip, ri_m_L_whose, ri_m_X11_whose, ri_m_L_flow, ri_m_X11_flow, ri_m_L_ticks, ri_m_X11_ticks, ri_m_L_mode, ri_m_X11_mode, ri_m_L_set, ri_m_X11_set, ri_m_L_out, ri_m_X11_out, ri_m_L_gains, ri_m_X11_gains, ri_m_L_load, ri_m_X11_load, ri_m_L_lose, ri_m_X11_lose, ri_m_L_relay, ri_m_X11_relay, ri_m_L_tune, ri_m_X11_tune, ri_m_L_bump, ri_m_X11_bump, ri_m_X10_round, ri_m_X11_round, ri_m_L_sweep, ri_m_X11_sweep, ri_m_L_starts, ri_m_X11_starts, ri_m_L_step, ri_m_X11_step, ri_m_L_twin, ri_m_X11_twin, ri_m_L_ahead, ri_m_X11_ahead, ri_m_L_peak, ri_m_X11_peak, ri_m_L_hunts, ri_m_X11_hunts, ri_m_L_worst, ri_m_X11_worst, ri_m_L_which, ri_m_X11_which, ri_m_L_event, ri_m_X11_event, ri_m_L_log, ri_m_X11_log, ri_m_X10_image, ri_m_X11_image, ri_m_X10_back, ri_m_X11_back, ri_m_X10_count, ri_m_X11_count, ri_m_X4_init, ri_m_X0_init, ri_m_X8_init, ri_m_X6_init, ri_m_X4_append, ri_m_X10_bench, ri_m_X11_readBench, ri_m_X11_throwsIf, ri_m_X10_loop, ri_m_X11_noLoop, ri_m_X11_in, ri_m_X10_inner, ri_m_X10_gain, ri_m_X10_weight, ri_m_X10_trip, ri_m_X10_whose, ri_m_X10_flow, ri_m_X10_ticks, ri_m_X11_oneTick, ri_m_X10_mode, ri_m_X11_noMode, ri_m_X10_set, ri_m_X10_out, ri_m_X10_gains, ri_m_X10_load, ri_m_X10_lose, ri_m_X10_relay, ri_m_X10_tune, ri_m_X10_bump, ri_m_X11_keepsAll, ri_m_X11_goesOn, ri_m_X11_bringsBack, ri_m_X10_startAt, ri_m_X6_find, ri_m_X11_laysRound, ri_m_X10_sweep, ri_m_X10_starts, ri_m_X10_step, ri_m_X10_twin, ri_m_X11_beginsTwin, ri_m_X11_twinOff, ri_m_X10_ahead, ri_m_X10_peak, ri_m_X11_noTicks, ri_m_X10_hunts, ri_m_X10_worst, ri_m_X11_loops, ri_m_X10_which, ri_m_X10_event, ri_m_X10_log, ri_m_X0_copyFrom, ri_m_X7_init, ri_m_X2_init, ri_m_X4_read, ri_m_X11_blanks, ri_m_X11_isAt, ri_m_X10_knownLoop, ri_m_X10_checkBetween, ri_m_X0_happen, ri_m_X0_advance, ri_m_J6_bitCount_0f7a4, ri_m_X11_allHappen, ri_m_X10_within, ri_m_X6_lengthOf, ri_m_X6_beginOf, ri_m_X11_keepsTime, ri_m_X11_areAlike, ri_m_X8_begin, ri_m_X8_advance, ri_m_X8_farthestFrom, ri_m_X10_goAhead, ri_m_X7_copyFrom, ri_m_X3_init, ri_m_X9_init, ri_m_X1_init, ri_m_X5_init, ri_m_X4_skipBlanks, ri_m_X6_keep, ri_m_X6_isKept]
end
section
/-! ===== the program as data: it is right ===== -/
set_option maxRecDepth 100000 in
theorem ri_k_L_law_0 : ri_chk ri_hh0 ri_NW0 ri_CW0 ri_NC0 ri_CN0 ri_AO0 ri_cl0 ri_Ms0 ri_tyL0 ri_exn0 ri_XT0 ri_m_L_law ((ri_m_L_law.2.2.2.2.2.drop 0).take 40) [[153], [], [157, 124, 155, 156], [], [1595], [], [1599, 135, 1597, 1598], [], [], [254], [], [], [], [], [], [], [], [], [], [], [], [], [], [], [], [], [], [], [], [], [], [], [], [], [], [], [], [], [], []] = true := by decide +kernel
set_option maxRecDepth 100000 in
theorem ri_k_L_law_1 : ri_chk ri_hh0 ri_NW0 ri_CW0 ri_NC0 ri_CN0 ri_AO0 ri_cl0 ri_Ms0 ri_tyL0 ri_exn0 ri_XT0 ri_m_L_law ((ri_m_L_law.2.2.2.2.2.drop 40).take 40) [[], [], [], [], [], [], [], [], [], [], [], [673, 124, 670, 671, 672], [], [], [], [], [], [], [], [], [], [], [], [], [], [], [], [], [], [], [], [], [], [], [], [], [], [], [1708, 135, 1705, 1706, 1707], []] = true := by decide +kernel
set_option maxRecDepth 100000 in
theorem ri_k_L_law_2 : ri_chk ri_hh0 ri_NW0 ri_CW0 ri_NC0 ri_CN0 ri_AO0 ri_cl0 ri_Ms0 ri_tyL0 ri_exn0 ri_XT0 ri_m_L_law ((ri_m_L_law.2.2.2.2.2.drop 80).take 40) [[], [], [], [], [], [], [], [], [681, 124, 678, 679, 680], [], [], [], [], [], [], [1712, 135, 1709, 1710, 1711], [], [], [], [], [], [926, 123, 924, 925], [], [], [1720, 135, 1717, 1718, 1719], [], [], [1696, 135, 1693, 1694, 1695], [], [], [], [], [], [], [], [], [], [], [], []] = true := by decide +kernel
set_option maxRecDepth 100000 in
theorem ri_k_L_law_3 : ri_chk ri_hh0 ri_NW0 ri_CW0 ri_NC0 ri_CN0 ri_AO0 ri_cl0 ri_Ms0 ri_tyL0 ri_exn0 ri_XT0 ri_m_L_law ((ri_m_L_law.2.2.2.2.2.drop 120).take 40) [[], [], [], [], [], [685, 124, 682, 683, 684], [], [1716, 135, 1713, 1714, 1715], [], [], [], [], [], [], [], [], [], [], [], [], [], [], [], [1210, 123, 1208, 1209], [], [], [], [], [], [], [], [], [], [], [], [], [2079, 135, 2076, 2077, 2078], [], [], [1696, 135, 1693, 1694, 1695]] = true := by decide +kernel
set_option maxRecDepth 100000 in
theorem ri_k_L_law_4 : ri_chk ri_hh0 ri_NW0 ri_CW0 ri_NC0 ri_CN0 ri_AO0 ri_cl0 ri_Ms0 ri_tyL0 ri_exn0 ri_XT0 ri_m_L_law ((ri_m_L_law.2.2.2.2.2.drop 160).take 40) [[], [], [], [], [], [], [], [], [], [], [], [], [], [], [], [], [], [], [], [], [], [], [], [], [], [], [], [], [1254, 123, 1252, 1253], [], [], [], [], [], [], [], [], [], [], []] = true := by decide +kernel
set_option maxRecDepth 100000 in
theorem ri_k_L_law_5 : ri_chk ri_hh0 ri_NW0 ri_CW0 ri_NC0 ri_CN0 ri_AO0 ri_cl0 ri_Ms0 ri_tyL0 ri_exn0 ri_XT0 ri_m_L_law ((ri_m_L_law.2.2.2.2.2.drop 200).take 40) [[], [2083, 135, 2080, 2081, 2082], [], [], [1696, 135, 1693, 1694, 1695], [], [], [], [], [], [], [], [], [], [], [], [], [], [], [], [], [], [], [], [], [], [], [], [], [], [], [], [], [], [], [], [], [1271, 123, 1269, 1270], [], []] = true := by decide +kernel
set_option maxRecDepth 100000 in
theorem ri_k_L_law_6 : ri_chk ri_hh0 ri_NW0 ri_CW0 ri_NC0 ri_CN0 ri_AO0 ri_cl0 ri_Ms0 ri_tyL0 ri_exn0 ri_XT0 ri_m_L_law ((ri_m_L_law.2.2.2.2.2.drop 240).take 40) [[], [], [], [], [], [], [], [], [], [], [], [], [], [], [], [2091, 135, 2088, 2089, 2090], [], [], [1696, 135, 1693, 1694, 1695], [], [], [], [], [], [], [], [], [], [], [], [], [], [], [], [], [], [], [], [], []] = true := by decide +kernel
set_option maxRecDepth 100000 in
theorem ri_k_L_law_7 : ri_chk ri_hh0 ri_NW0 ri_CW0 ri_NC0 ri_CN0 ri_AO0 ri_cl0 ri_Ms0 ri_tyL0 ri_exn0 ri_XT0 ri_m_L_law ((ri_m_L_law.2.2.2.2.2.drop 280).take 40) [[], [], [], [], [], [], [], [1278, 123, 1276, 1277], [], [], [], [], [], [], [], [], [], [], [], [], [2095, 135, 2092, 2093, 2094], [], [], [1696, 135, 1693, 1694, 1695], [], [], [], [], [], [], [], [], [], [], [], [], [], [], [], []] = true := by decide +kernel
set_option maxRecDepth 100000 in
theorem ri_k_L_law_8 : ri_chk ri_hh0 ri_NW0 ri_CW0 ri_NC0 ri_CN0 ri_AO0 ri_cl0 ri_Ms0 ri_tyL0 ri_exn0 ri_XT0 ri_m_L_law ((ri_m_L_law.2.2.2.2.2.drop 320).take 40) [[], [], [], [], [], [], [], [], [], [], [], [], [1285, 123, 1283, 1284], [], [], [], [], [], [], [], [], [], [], [], [], [2099, 135, 2096, 2097, 2098], [], [], [1696, 135, 1693, 1694, 1695], [], [], [], [], [], [], [], [], [], [], []] = true := by decide +kernel
set_option maxRecDepth 100000 in
theorem ri_k_L_law_9 : ri_chk ri_hh0 ri_NW0 ri_CW0 ri_NC0 ri_CN0 ri_AO0 ri_cl0 ri_Ms0 ri_tyL0 ri_exn0 ri_XT0 ri_m_L_law ((ri_m_L_law.2.2.2.2.2.drop 360).take 40) [[], [], [], [], [], [], [], [], [], [], [], [], [], [], [], [], [], [1292, 123, 1290, 1291], [], [], [], [], [], [], [], [], [], [], [], [], [2103, 135, 2100, 2101, 2102], [], [], [1696, 135, 1693, 1694, 1695], [], [], [], [], [], []] = true := by decide +kernel
set_option maxRecDepth 100000 in
theorem ri_k_L_law_10 : ri_chk ri_hh0 ri_NW0 ri_CW0 ri_NC0 ri_CN0 ri_AO0 ri_cl0 ri_Ms0 ri_tyL0 ri_exn0 ri_XT0 ri_m_L_law ((ri_m_L_law.2.2.2.2.2.drop 400).take 40) [[], [], [], [], [], [], [], [], [], [], [], [], [], [], [], [], [], [], [], [], [], [], [1299, 123, 1297, 1298], [], [], [], [], [], [], [], [], [], [], [], [], [2107, 135, 2104, 2105, 2106], [], [], [1696, 135, 1693, 1694, 1695], []] = true := by decide +kernel
end
section
/-! ===== the program as data: it is right ===== -/
set_option maxRecDepth 100000 in
theorem ri_k_L_law_11 : ri_chk ri_hh0 ri_NW0 ri_CW0 ri_NC0 ri_CN0 ri_AO0 ri_cl0 ri_Ms0 ri_tyL0 ri_exn0 ri_XT0 ri_m_L_law ((ri_m_L_law.2.2.2.2.2.drop 440).take 40) [[], [], [], [], [], [], [], [], [], [], [], [], [], [], [], [], [], [], [], [], [], [], [1310, 123, 1308, 1309], [], [], [], [], [], [], [], [1892, 135, 1889, 1890, 1891], [], [], [1696, 135, 1693, 1694, 1695], [], [], [], [], [], []] = true := by decide +kernel
set_option maxRecDepth 100000 in
theorem ri_k_L_law_12 : ri_chk ri_hh0 ri_NW0 ri_CW0 ri_NC0 ri_CN0 ri_AO0 ri_cl0 ri_Ms0 ri_tyL0 ri_exn0 ri_XT0 ri_m_L_law ((ri_m_L_law.2.2.2.2.2.drop 480).take 40) [[], [], [], [], [], [], [], [], [], [], [], [], [], [], [], [], [], [], [], [], [], [], [1341, 123, 1339, 1340], [], [], [], [], [], [], [], [], [], [], [], [], [2029, 135, 2026, 2027, 2028], [], [], [1696, 135, 1693, 1694, 1695], []] = true := by decide +kernel
set_option maxRecDepth 100000 in
theorem ri_k_L_law_13 : ri_chk ri_hh0 ri_NW0 ri_CW0 ri_NC0 ri_CN0 ri_AO0 ri_cl0 ri_Ms0 ri_tyL0 ri_exn0 ri_XT0 ri_m_L_law ((ri_m_L_law.2.2.2.2.2.drop 520).take 40) [[], [], [], [], [], [], [], [], [], [], [], [], [], [], [], [], [], [], [], [], [], [], [], [], [], [], [], [1368, 123, 1366, 1367], [], [], [], [], [], [], [], [], [], [], [], []] = true := by decide +kernel
set_option maxRecDepth 100000 in
theorem ri_k_L_law_14 : ri_chk ri_hh0 ri_NW0 ri_CW0 ri_NC0 ri_CN0 ri_AO0 ri_cl0 ri_Ms0 ri_tyL0 ri_exn0 ri_XT0 ri_m_L_law ((ri_m_L_law.2.2.2.2.2.drop 560).take 40) [[2041, 135, 2038, 2039, 2040], [], [], [1696, 135, 1693, 1694, 1695], [], [], [], [], [], [], [], [], [], [], [], [], [], [], [], [], [], [], [], [], [], [], [], [], [], [], [], [], [1375, 123, 1373, 1374], [], [], [], [], [], [], []] = true := by decide +kernel
set_option maxRecDepth 100000 in
theorem ri_k_L_law_15 : ri_chk ri_hh0 ri_NW0 ri_CW0 ri_NC0 ri_CN0 ri_AO0 ri_cl0 ri_Ms0 ri_tyL0 ri_exn0 ri_XT0 ri_m_L_law ((ri_m_L_law.2.2.2.2.2.drop 600).take 40) [[], [], [], [], [], [2045, 135, 2042, 2043, 2044], [], [], [1696, 135, 1693, 1694, 1695], [], [], [], [], [], [], [], [], [], [], [], [], [], [], [], [], [], [], [], [], [], [], [], [], [], [], [], [], [], [], []] = true := by decide +kernel
set_option maxRecDepth 100000 in
theorem ri_k_L_law_16 : ri_chk ri_hh0 ri_NW0 ri_CW0 ri_NC0 ri_CN0 ri_AO0 ri_cl0 ri_Ms0 ri_tyL0 ri_exn0 ri_XT0 ri_m_L_law ((ri_m_L_law.2.2.2.2.2.drop 640).take 40) [[], [], [], [], [], [], [], [1386, 123, 1384, 1385], [], [], [], [], [], [], [], [], [], [], [], [], [], [], [], [], [], [], [], [], [], [], [2049, 135, 2046, 2047, 2048], [], [], [1696, 135, 1693, 1694, 1695], [], [], [], [], [], []] = true := by decide +kernel
set_option maxRecDepth 100000 in
theorem ri_k_L_law_17 : ri_chk ri_hh0 ri_NW0 ri_CW0 ri_NC0 ri_CN0 ri_AO0 ri_cl0 ri_Ms0 ri_tyL0 ri_exn0 ri_XT0 ri_m_L_law ((ri_m_L_law.2.2.2.2.2.drop 680).take 40) [[], [], [], [], [], [], [], [], [], [], [], [], [], [], [], [], [], [], [], [], [], [], [1398, 123, 1396, 1397], [], [], [], [], [], [], [], [], [], [], [], [], [2057, 135, 2054, 2055, 2056], [], [], [1696, 135, 1693, 1694, 1695], []] = true := by decide +kernel
set_option maxRecDepth 100000 in
theorem ri_k_L_law_18 : ri_chk ri_hh0 ri_NW0 ri_CW0 ri_NC0 ri_CN0 ri_AO0 ri_cl0 ri_Ms0 ri_tyL0 ri_exn0 ri_XT0 ri_m_L_law ((ri_m_L_law.2.2.2.2.2.drop 720).take 40) [[], [], [], [], [], [], [], [], [], [], [], [], [], [], [], [], [], [], [], [], [], [], [], [], [], [], [], [], [], [], [], [1405, 123, 1403, 1404], [], [], [], [], [], [], [], []] = true := by decide +kernel
set_option maxRecDepth 100000 in
theorem ri_k_L_law_19 : ri_chk ri_hh0 ri_NW0 ri_CW0 ri_NC0 ri_CN0 ri_AO0 ri_cl0 ri_Ms0 ri_tyL0 ri_exn0 ri_XT0 ri_m_L_law ((ri_m_L_law.2.2.2.2.2.drop 760).take 40) [[], [], [], [], [], [], [], [], [2061, 135, 2058, 2059, 2060], [], [], [1696, 135, 1693, 1694, 1695], [], [], [], [], [], [], [], [], [], [], [], [], [], [], [], [], [], [], [], [], [], [], [], [], [], [], [], []] = true := by decide +kernel
set_option maxRecDepth 100000 in
theorem ri_k_L_law_20 : ri_chk ri_hh0 ri_NW0 ri_CW0 ri_NC0 ri_CN0 ri_AO0 ri_cl0 ri_Ms0 ri_tyL0 ri_exn0 ri_XT0 ri_m_L_law ((ri_m_L_law.2.2.2.2.2.drop 800).take 40) [[], [], [], [], [], [], [], [], [1412, 123, 1410, 1411], [], [], [], [], [], [], [], [], [], [], [], [], [], [], [], [], [], [2065, 135, 2062, 2063, 2064], [], [], [1696, 135, 1693, 1694, 1695], [], [], [], [], [], [], [], [], [], []] = true := by decide +kernel
set_option maxRecDepth 100000 in
theorem ri_k_L_law_21 : ri_chk ri_hh0 ri_NW0 ri_CW0 ri_NC0 ri_CN0 ri_AO0 ri_cl0 ri_Ms0 ri_tyL0 ri_exn0 ri_XT0 ri_m_L_law ((ri_m_L_law.2.2.2.2.2.drop 840).take 40) [[], [], [], [], [], [], [], [], [], [], [], [], [], [], [], [], [], [], [1423, 123, 1421, 1422], [], [], [], [], [], [], [], [], [], [], [], [], [2070, 135, 2067, 2068, 2069], [], [], [1696, 135, 1693, 1694, 1695], [], [], [], [], []] = true := by decide +kernel
end
section
/-! ===== the program as data: it is right ===== -/
set_option maxRecDepth 100000 in
theorem ri_k_L_law_22 : ri_chk ri_hh0 ri_NW0 ri_CW0 ri_NC0 ri_CN0 ri_AO0 ri_cl0 ri_Ms0 ri_tyL0 ri_exn0 ri_XT0 ri_m_L_law ((ri_m_L_law.2.2.2.2.2.drop 880).take 40) [[], [], [], [], [], [], [], [], [], [], [], [], [], [], [], [], [], [], [], [], [], [], [], [1437, 123, 1435, 1436], [], [], [], [], [], [], [], [], [], [], [], [], [2111, 135, 2108, 2109, 2110], [], [], [1696, 135, 1693, 1694, 1695]] = true := by decide +kernel
set_option maxRecDepth 100000 in
theorem ri_k_L_law_23 : ri_chk ri_hh0 ri_NW0 ri_CW0 ri_NC0 ri_CN0 ri_AO0 ri_cl0 ri_Ms0 ri_tyL0 ri_exn0 ri_XT0 ri_m_L_law ((ri_m_L_law.2.2.2.2.2.drop 920).take 40) [[], [], [], [], [], [], [], [], [], [], [], [], [], [], [], [], [], [], [], [], [], [], [], [], [], [], [689, 124, 686, 687, 688], [], [], [], [], [], [], [], [], [], [], [2171, 135, 2168, 2169, 2170], [], []] = true := by decide +kernel
set_option maxRecDepth 100000 in
theorem ri_k_L_law_24 : ri_chk ri_hh0 ri_NW0 ri_CW0 ri_NC0 ri_CN0 ri_AO0 ri_cl0 ri_Ms0 ri_tyL0 ri_exn0 ri_XT0 ri_m_L_law ((ri_m_L_law.2.2.2.2.2.drop 960).take 40) [[], [], [], [], [], [], [], [], [1445, 123, 1443, 1444], [], [], [], [], [], [], [], [2187, 135, 2184, 2185, 2186], [], [], [1696, 135, 1693, 1694, 1695], [], [], [], [], [], [], [], [], [], [], [], [], [], [], [], [], [], [], [], []] = true := by decide +kernel
set_option maxRecDepth 100000 in
theorem ri_k_L_law_25 : ri_chk ri_hh0 ri_NW0 ri_CW0 ri_NC0 ri_CN0 ri_AO0 ri_cl0 ri_Ms0 ri_tyL0 ri_exn0 ri_XT0 ri_m_L_law ((ri_m_L_law.2.2.2.2.2.drop 1000).take 40) [[], [], [], [], [], [], [], [], [1458, 123, 1456, 1457], [], [], [], [], [], [], [], [], [], [], [], [], [2191, 135, 2188, 2189, 2190], [], [], [1696, 135, 1693, 1694, 1695], [], [], [], [], [], [], [], [], [], [], [], [], [], [], []] = true := by decide +kernel
set_option maxRecDepth 100000 in
theorem ri_k_L_law_26 : ri_chk ri_hh0 ri_NW0 ri_CW0 ri_NC0 ri_CN0 ri_AO0 ri_cl0 ri_Ms0 ri_tyL0 ri_exn0 ri_XT0 ri_m_L_law ((ri_m_L_law.2.2.2.2.2.drop 1040).take 40) [[], [], [], [], [], [], [], [], [], [], [], [], [], [], [], [], [], [], [1477, 123, 1475, 1476], [], [], [], [], [], [], [], [], [], [], [], [], [], [], [], [], [], [2200, 135, 2197, 2198, 2199], [], [], [1696, 135, 1693, 1694, 1695]] = true := by decide +kernel
set_option maxRecDepth 100000 in
theorem ri_k_L_law_27 : ri_chk ri_hh0 ri_NW0 ri_CW0 ri_NC0 ri_CN0 ri_AO0 ri_cl0 ri_Ms0 ri_tyL0 ri_exn0 ri_XT0 ri_m_L_law ((ri_m_L_law.2.2.2.2.2.drop 1080).take 40) [[], [], [], [], [], [], [], [], [], [], [], [], [], [], [], [], [], [], [], [], [], [], [], [1491, 123, 1489, 1490], [], [], [], [], [], [], [], [2209, 135, 2206, 2207, 2208], [], [], [1696, 135, 1693, 1694, 1695], [], [], [], [], []] = true := by decide +kernel
set_option maxRecDepth 100000 in
theorem ri_k_L_law_28 : ri_chk ri_hh0 ri_NW0 ri_CW0 ri_NC0 ri_CN0 ri_AO0 ri_cl0 ri_Ms0 ri_tyL0 ri_exn0 ri_XT0 ri_m_L_law ((ri_m_L_law.2.2.2.2.2.drop 1120).take 40) [[], [], [], [], [], [], [], [], [], [], [], [], [], [], [], [], [], [], [], [], [], [], [], [], [], [], [], [], [], [], [], [], [1538, 123, 1536, 1537], [], [], [], [], [], [], []] = true := by decide +kernel
set_option maxRecDepth 100000 in
theorem ri_k_L_law_29 : ri_chk ri_hh0 ri_NW0 ri_CW0 ri_NC0 ri_CN0 ri_AO0 ri_cl0 ri_Ms0 ri_tyL0 ri_exn0 ri_XT0 ri_m_L_law ((ri_m_L_law.2.2.2.2.2.drop 1160).take 40) [[], [], [], [], [], [], [], [], [], [], [], [], [], [], [2127, 135, 2124, 2125, 2126], [], [], [1696, 135, 1693, 1694, 1695], [], [], [], [], [], [], [], [], [], [], [], [], [], [], [], [], [], [], [], [], [], []] = true := by decide +kernel
set_option maxRecDepth 100000 in
theorem ri_k_L_law_30 : ri_chk ri_hh0 ri_NW0 ri_CW0 ri_NC0 ri_CN0 ri_AO0 ri_cl0 ri_Ms0 ri_tyL0 ri_exn0 ri_XT0 ri_m_L_law ((ri_m_L_law.2.2.2.2.2.drop 1200).take 40) [[], [], [], [], [], [], [1549, 123, 1547, 1548], [], [], [], [], [], [], [], [], [], [], [], [], [2131, 135, 2128, 2129, 2130], [], [], [1696, 135, 1693, 1694, 1695], [], [], [], [], [], [], [], [], [], [], [], [], [], [], [], [], []] = true := by decide +kernel
set_option maxRecDepth 100000 in
theorem ri_k_L_law_31 : ri_chk ri_hh0 ri_NW0 ri_CW0 ri_NC0 ri_CN0 ri_AO0 ri_cl0 ri_Ms0 ri_tyL0 ri_exn0 ri_XT0 ri_m_L_law ((ri_m_L_law.2.2.2.2.2.drop 1240).take 40) [[], [], [], [], [], [], [], [], [], [], [1557, 123, 1555, 1556], [], [], [], [], [], [], [], [], [], [], [], [], [2139, 135, 2136, 2137, 2138], [], [], [1696, 135, 1693, 1694, 1695], [], [], [], [], [], [], [], [], [], [], [], [], []] = true := by decide +kernel
set_option maxRecDepth 100000 in
theorem ri_k_L_law_32 : ri_chk ri_hh0 ri_NW0 ri_CW0 ri_NC0 ri_CN0 ri_AO0 ri_cl0 ri_Ms0 ri_tyL0 ri_exn0 ri_XT0 ri_m_L_law ((ri_m_L_law.2.2.2.2.2.drop 1280).take 40) [[], [], [], [], [], [], [], [], [], [], [1564, 123, 1562, 1563], [], [], [], [], [], [], [], [2147, 135, 2144, 2145, 2146], [], [], [1696, 135, 1693, 1694, 1695], [], [], [], [], [], [], [], [], [], [], [], [], [], [], [], [], [], []] = true := by decide +kernel
end
section
/-! ===== the program as data: it is right ===== -/
set_option maxRecDepth 100000 in
theorem ri_k_L_law_33 : ri_chk ri_hh0 ri_NW0 ri_CW0 ri_NC0 ri_CN0 ri_AO0 ri_cl0 ri_Ms0 ri_tyL0 ri_exn0 ri_XT0 ri_m_L_law ((ri_m_L_law.2.2.2.2.2.drop 1320).take 40) [[], [], [], [], [], [1571, 123, 1569, 1570], [], [], [], [], [], [], [], [2155, 135, 2152, 2153, 2154], [], [], [1696, 135, 1693, 1694, 1695], [], [], [], [], [], [], [], [], [], [], [], [], [], [], [], [], [], [], [], [], [], [], []] = true := by decide +kernel
set_option maxRecDepth 100000 in
theorem ri_k_L_law_34 : ri_chk ri_hh0 ri_NW0 ri_CW0 ri_NC0 ri_CN0 ri_AO0 ri_cl0 ri_Ms0 ri_tyL0 ri_exn0 ri_XT0 ri_m_L_law ((ri_m_L_law.2.2.2.2.2.drop 1360).take 40) [[], [], [], [], [], [1582, 123, 1580, 1581], [], [], [], [], [], [], [], [], [], [], [], [], [2159, 135, 2156, 2157, 2158], [], [], [1696, 135, 1693, 1694, 1695], [], [], [], [], [], [], [], [], [], [], [], [], [], [], [], [], [], []] = true := by decide +kernel
set_option maxRecDepth 100000 in
theorem ri_k_L_law_35 : ri_chk ri_hh0 ri_NW0 ri_CW0 ri_NC0 ri_CN0 ri_AO0 ri_cl0 ri_Ms0 ri_tyL0 ri_exn0 ri_XT0 ri_m_L_law ((ri_m_L_law.2.2.2.2.2.drop 1400).take 40) [[], [], [], [], [], [], [], [], [], [], [1590, 123, 1588, 1589], [], [], [], [], [], [], [], [], [], [], [], [], [2163, 135, 2160, 2161, 2162], [], [], [1696, 135, 1693, 1694, 1695], [], [], [], [], [], [], [], [], [], [], [], [], []] = true := by decide +kernel
set_option maxRecDepth 100000 in
theorem ri_k_L_law_36 : ri_chk ri_hh0 ri_NW0 ri_CW0 ri_NC0 ri_CN0 ri_AO0 ri_cl0 ri_Ms0 ri_tyL0 ri_exn0 ri_XT0 ri_m_L_law ((ri_m_L_law.2.2.2.2.2.drop 1440).take 40) [[], [], [], [], [915, 124, 912, 913, 914], [], [1700, 135, 1697, 1698, 1699], [], [], [919, 124, 916, 917, 918], [], [1704, 135, 1701, 1702, 1703], [], [], [], [], [], [], [], [], [], [923, 124, 920, 921, 922], [], [], [], [], [], [], [2167, 135, 2164, 2165, 2166], [], [], [], [], [], [], []] = true := by decide +kernel
set_option maxRecDepth 100000 in
theorem ri_k_X10_init : ri_chk ri_hh0 ri_NW0 ri_CW0 ri_NC0 ri_CN0 ri_AO0 ri_cl0 ri_Ms0 ri_tyL0 ri_exn0 ri_XT0 ri_m_X10_init ri_m_X10_init.2.2.2.2.2 [[], [158, 159, 160], [], [161], [], [165, 125, 164], [645], [], [], [646], [], [584], [], [171, 126, 585, 170], [647], [], [584], [], [171, 126, 585, 170], [648], [], [], [649], [], [584], [], [171, 126, 585, 170], [650], [], [586], [], [590, 133, 589], [651], [], [623], [], [627, 134, 626], [652], []] = true := by decide +kernel
set_option maxRecDepth 100000 in
theorem ri_k_X11_init : ri_chk ri_hh0 ri_NW0 ri_CW0 ri_NC0 ri_CN0 ri_AO0 ri_cl0 ri_Ms0 ri_tyL0 ri_exn0 ri_XT0 ri_m_X11_init ri_m_X11_init.2.2.2.2.2 [[], [1600, 159, 160], [], [], [254], [1603], [], [], [254], [1604], [], [], [254], [1605], [], [], [254], [1606], [], [], [583], [1608], [], [], [1613], [], [], [194], [1614], [], [], [254], [1616], [], [1601], [254], [1617], [], [], [254], [1620], [], [], [622], [1621], [], [], [622], [1622], [], [], [622], [1623], [], [], [622], [1624], [], [], [622], [1625], [], [], [622], [1626], [], [], [622], [1627], [], [], [622], [1628], [], [], [622], [1629], [], [], [622], [1630], [], [], [255], [1631], []] = true := by decide +kernel
set_option maxRecDepth 100000 in
theorem ri_k_X10_feed : ri_chk ri_hh0 ri_NW0 ri_CW0 ri_NC0 ri_CN0 ri_AO0 ri_cl0 ri_Ms0 ri_tyL0 ri_exn0 ri_XT0 ri_m_X10_feed ri_m_X10_feed.2.2.2.2.2 [[], [645], [562], [], [], [], [], [], [], [], [645], [], [677, 125, 674, 675, 676], [], [645], [], [677, 125, 674, 675, 676], [], [645], [], [677, 125, 674, 675, 676], [], [645], [], [677, 125, 674, 675, 676], [], [645], [], [677, 125, 674, 675, 676], [], [645], [562], []] = true := by decide +kernel
set_option maxRecDepth 100000 in
theorem ri_k_X11_feed : ri_chk ri_hh0 ri_NW0 ri_CW0 ri_NC0 ri_CN0 ri_AO0 ri_cl0 ri_Ms0 ri_tyL0 ri_exn0 ri_XT0 ri_m_X11_feed ri_m_X11_feed.2.2.2.2.2 [[], [], [1602], [], [1609], [], [], [], [], [], [], [], [1614], [], [], [], [], [1614], [], [], [], [], [1614], [], [], [], [], [1614], [], [], [], [], [1614], [], [], [], [], [], [], [], [], [], [1608], [], [1609], [], [], [], [1614], [], [], [], [], [], [], [], [], [], [], [], [], [], [], [], [], [], [], [1609], [], [], [1609], [], [1609], []] = true := by decide +kernel
set_option maxRecDepth 100000 in
theorem ri_k_X10_end : ri_chk ri_hh0 ri_NW0 ri_CW0 ri_NC0 ri_CN0 ri_AO0 ri_cl0 ri_Ms0 ri_tyL0 ri_exn0 ri_XT0 ri_m_X10_end ri_m_X10_end.2.2.2.2.2 [[], [], [], [], [645], [562], [], [], [], [], [645], [], [562], [], []] = true := by decide +kernel
set_option maxRecDepth 100000 in
theorem ri_k_X11_end : ri_chk ri_hh0 ri_NW0 ri_CW0 ri_NC0 ri_CN0 ri_AO0 ri_cl0 ri_Ms0 ri_tyL0 ri_exn0 ri_XT0 ri_m_X11_end ri_m_X11_end.2.2.2.2.2 [[], [], [1602], [], [], [], [], [1609], [], [], [], [], [], [1609], [], []] = true := by decide +kernel
set_option maxRecDepth 100000 in
theorem ri_k_L_bench : ri_chk ri_hh0 ri_NW0 ri_CW0 ri_NC0 ri_CN0 ri_AO0 ri_cl0 ri_Ms0 ri_tyL0 ri_exn0 ri_XT0 ri_m_L_bench ri_m_L_bench.2.2.2.2.2 [[], [], [], [932, 124, 929, 930, 931], [], [], [], [], [], [], [], [], [], [], []] = true := by decide +kernel
set_option maxRecDepth 100000 in
theorem ri_k_X11_bench : ri_chk ri_hh0 ri_NW0 ri_CW0 ri_NC0 ri_CN0 ri_AO0 ri_cl0 ri_Ms0 ri_tyL0 ri_exn0 ri_XT0 ri_m_X11_bench ri_m_X11_bench.2.2.2.2.2 [[], [], [1602], [], [], [1609], [1611], [], [], [1609], [], [], [1610], [], [], [], [], [], [], [1605], [], [], [1603], [], [], [], [], [], [], [1724, 135, 1721, 1723, 44], [], [], [], [], [], [], [], [1612], [1613], [], [], [], [], [], [], [], [1887, 135, 1884, 1886, 72], [], [], [], [1603], [], [], [1888], [], [], [], [], [], [], [1887, 135, 1884, 1886, 72], [], [], [], [], [], [], [], [1603], [], [], [1605], [], [], [], [], [], [], [], [], [1603], [], [], [], [], [], [], [], [1603], [], [], [], []] = true := by decide +kernel
set_option maxRecDepth 100000 in
theorem ri_k_X11_thrown : ri_chk ri_hh0 ri_NW0 ri_CW0 ri_NC0 ri_CN0 ri_AO0 ri_cl0 ri_Ms0 ri_tyL0 ri_exn0 ri_XT0 ri_m_X11_thrown ri_m_X11_thrown.2.2.2.2.2 [[], [1602], []] = true := by decide +kernel
set_option maxRecDepth 100000 in
theorem ri_k_X10_fault : ri_chk ri_hh0 ri_NW0 ri_CW0 ri_NC0 ri_CN0 ri_AO0 ri_cl0 ri_Ms0 ri_tyL0 ri_exn0 ri_XT0 ri_m_X10_fault ri_m_X10_fault.2.2.2.2.2 [[], [646], []] = true := by decide +kernel
set_option maxRecDepth 100000 in
theorem ri_k_X11_fault : ri_chk ri_hh0 ri_NW0 ri_CW0 ri_NC0 ri_CN0 ri_AO0 ri_cl0 ri_Ms0 ri_tyL0 ri_exn0 ri_XT0 ri_m_X11_fault ri_m_X11_fault.2.2.2.2.2 [[], [], [1602], [], [1613], []] = true := by decide +kernel
set_option maxRecDepth 100000 in
theorem ri_k_L_loop : ri_chk ri_hh0 ri_NW0 ri_CW0 ri_NC0 ri_CN0 ri_AO0 ri_cl0 ri_Ms0 ri_tyL0 ri_exn0 ri_XT0 ri_m_L_loop ri_m_L_loop.2.2.2.2.2 [[], [], [], [], [], [1216, 124, 1213, 1214, 1215], [], [], [], [], [], [], [], [], [], [], []] = true := by decide +kernel
set_option maxRecDepth 100000 in
theorem ri_k_X11_loop : ri_chk ri_hh0 ri_NW0 ri_CW0 ri_NC0 ri_CN0 ri_AO0 ri_cl0 ri_Ms0 ri_tyL0 ri_exn0 ri_XT0 ri_m_X11_loop ri_m_X11_loop.2.2.2.2.2 [[], [], [1602], [], [], [], [2037, 135, 2034, 2036, 102], [], [1887, 135, 1884, 1886, 72], [], [], [], [], [], [1789, 135, 1787, 1788], [], [], [], [], [], [1887, 135, 1884, 1886, 72], [], [], [], [], [], [], [], [], [], [], [], [], [], [], [], []] = true := by decide +kernel
set_option maxRecDepth 100000 in
theorem ri_k_L_inner : ri_chk ri_hh0 ri_NW0 ri_CW0 ri_NC0 ri_CN0 ri_AO0 ri_cl0 ri_Ms0 ri_tyL0 ri_exn0 ri_XT0 ri_m_L_inner ri_m_L_inner.2.2.2.2.2 [[], [], [], [], [], [1258, 124, 1255, 1256, 1257], [], [], [], [], [], [], [], [], [], []] = true := by decide +kernel
set_option maxRecDepth 100000 in
theorem ri_k_X11_inner : ri_chk ri_hh0 ri_NW0 ri_CW0 ri_NC0 ri_CN0 ri_AO0 ri_cl0 ri_Ms0 ri_tyL0 ri_exn0 ri_XT0 ri_m_X11_inner ri_m_X11_inner.2.2.2.2.2 [[], [], [1602], [], [], [], [2037, 135, 2034, 2036, 102], [], [1887, 135, 1884, 1886, 72], [], [], [], [], [], [1789, 135, 1787, 1788], [], [], [], [], [], [1887, 135, 1884, 1886, 72], [], [], [], [], [], [], [], [], [], [], [], [], [], [], [], [], []] = true := by decide +kernel
set_option maxRecDepth 100000 in
theorem ri_k_L_gain : ri_chk ri_hh0 ri_NW0 ri_CW0 ri_NC0 ri_CN0 ri_AO0 ri_cl0 ri_Ms0 ri_tyL0 ri_exn0 ri_XT0 ri_m_L_gain ri_m_L_gain.2.2.2.2.2 [[], [], [], [], [], [], [1275, 124, 1272, 1273, 1274], [], [], [], [], [], [], [], [], [], [], []] = true := by decide +kernel
set_option maxRecDepth 100000 in
theorem ri_k_X11_gain : ri_chk ri_hh0 ri_NW0 ri_CW0 ri_NC0 ri_CN0 ri_AO0 ri_cl0 ri_Ms0 ri_tyL0 ri_exn0 ri_XT0 ri_m_X11_gain ri_m_X11_gain.2.2.2.2.2 [[], [], [1602], [], [], [], [2037, 135, 2034, 2036, 102], [], [], [], [], [], [], [], [], [], [1789, 135, 1787, 1788], [], [], [], [], [], [1887, 135, 1884, 1886, 72], [], [], [], [], [], [1789, 135, 1787, 1788], [], [], [], [], [], [1887, 135, 1884, 1886, 72], [], [], [], [], [1603], [], [], [], [], [], [], [], []] = true := by decide +kernel
set_option maxRecDepth 100000 in
theorem ri_k_L_weight : ri_chk ri_hh0 ri_NW0 ri_CW0 ri_NC0 ri_CN0 ri_AO0 ri_cl0 ri_Ms0 ri_tyL0 ri_exn0 ri_XT0 ri_m_L_weight ri_m_L_weight.2.2.2.2.2 [[], [], [], [], [], [1282, 124, 1279, 1280, 1281], [], [], [], [], [], [], [], [], [], [], []] = true := by decide +kernel
set_option maxRecDepth 100000 in
theorem ri_k_X11_weight : ri_chk ri_hh0 ri_NW0 ri_CW0 ri_NC0 ri_CN0 ri_AO0 ri_cl0 ri_Ms0 ri_tyL0 ri_exn0 ri_XT0 ri_m_X11_weight ri_m_X11_weight.2.2.2.2.2 [[], [], [1602], [], [], [], [2037, 135, 2034, 2036, 102], [], [1887, 135, 1884, 1886, 72], [], [], [], [], [], [1789, 135, 1787, 1788], [], [], [], [], [], [1887, 135, 1884, 1886, 72], [], [], [], [], [], [], [], [], [], []] = true := by decide +kernel
set_option maxRecDepth 100000 in
theorem ri_k_L_trip : ri_chk ri_hh0 ri_NW0 ri_CW0 ri_NC0 ri_CN0 ri_AO0 ri_cl0 ri_Ms0 ri_tyL0 ri_exn0 ri_XT0 ri_m_L_trip ri_m_L_trip.2.2.2.2.2 [[], [], [], [], [], [1289, 124, 1286, 1287, 1288], [], [], [], [], [], [], [], []] = true := by decide +kernel
set_option maxRecDepth 100000 in
theorem ri_k_X11_trip : ri_chk ri_hh0 ri_NW0 ri_CW0 ri_NC0 ri_CN0 ri_AO0 ri_cl0 ri_Ms0 ri_tyL0 ri_exn0 ri_XT0 ri_m_X11_trip ri_m_X11_trip.2.2.2.2.2 [[], [], [1602], [], [], [], [2037, 135, 2034, 2036, 102], [], [1887, 135, 1884, 1886, 72], [], [], [], [], [], [], [], [], [], [], [], [1789, 135, 1787, 1788], [], [], [], [], [], [], [], [], [], []] = true := by decide +kernel
set_option maxRecDepth 100000 in
theorem ri_k_L_whose : ri_chk ri_hh0 ri_NW0 ri_CW0 ri_NC0 ri_CN0 ri_AO0 ri_cl0 ri_Ms0 ri_tyL0 ri_exn0 ri_XT0 ri_m_L_whose ri_m_L_whose.2.2.2.2.2 [[], [], [], [], [], [1296, 124, 1293, 1294, 1295], [], [], [], [], [], [], [], []] = true := by decide +kernel
set_option maxRecDepth 100000 in
theorem ri_k_X11_whose : ri_chk ri_hh0 ri_NW0 ri_CW0 ri_NC0 ri_CN0 ri_AO0 ri_cl0 ri_Ms0 ri_tyL0 ri_exn0 ri_XT0 ri_m_X11_whose ri_m_X11_whose.2.2.2.2.2 [[], [], [1602], [], [], [], [2037, 135, 2034, 2036, 102], [], [1887, 135, 1884, 1886, 72], [], [], [], [], [], [], [], [], [], [], [], [1789, 135, 1787, 1788], [], [], [], [], [], [], [], [], [], [], [], [], [], [], [], [], [], [], []] = true := by decide +kernel
set_option maxRecDepth 100000 in
theorem ri_k_L_flow : ri_chk ri_hh0 ri_NW0 ri_CW0 ri_NC0 ri_CN0 ri_AO0 ri_cl0 ri_Ms0 ri_tyL0 ri_exn0 ri_XT0 ri_m_L_flow ri_m_L_flow.2.2.2.2.2 [[], [], [], [], [], [1303, 124, 1300, 1301, 1302], [], [], [], [], [], [], [], [], [], [], []] = true := by decide +kernel
set_option maxRecDepth 100000 in
theorem ri_k_X11_flow : ri_chk ri_hh0 ri_NW0 ri_CW0 ri_NC0 ri_CN0 ri_AO0 ri_cl0 ri_Ms0 ri_tyL0 ri_exn0 ri_XT0 ri_m_X11_flow ri_m_X11_flow.2.2.2.2.2 [[], [], [1602], [], [], [], [2037, 135, 2034, 2036, 102], [], [1887, 135, 1884, 1886, 72], [], [], [], [], [], [], [], [], [], [], [], [1789, 135, 1787, 1788], [], [], [], [], [], [1887, 135, 1884, 1886, 72], [], [], [], [], [], [], [], [], [], []] = true := by decide +kernel
end
section
/-! ===== the program as data: it is right ===== -/
set_option maxRecDepth 100000 in
theorem ri_k_L_ticks : ri_chk ri_hh0 ri_NW0 ri_CW0 ri_NC0 ri_CN0 ri_AO0 ri_cl0 ri_Ms0 ri_tyL0 ri_exn0 ri_XT0 ri_m_L_ticks ri_m_L_ticks.2.2.2.2.2 [[], [], [], [], [1314, 124, 1311, 1312, 1313], [], [], [], [], [], [], [], []] = true := by decide +kernel
set_option maxRecDepth 100000 in
theorem ri_k_X11_ticks : ri_chk ri_hh0 ri_NW0 ri_CW0 ri_NC0 ri_CN0 ri_AO0 ri_cl0 ri_Ms0 ri_tyL0 ri_exn0 ri_XT0 ri_m_X11_ticks ri_m_X11_ticks.2.2.2.2.2 [[], [], [1602], [], [], [], [], [1789, 135, 1787, 1788], [], [], [], [], [], [1887, 135, 1884, 1886, 72], [], [], [], [], [], [], [], [], [], [], [], [], [], [1896, 135, 1893, 1895, 73], [], [], [], [], [], []] = true := by decide +kernel
set_option maxRecDepth 100000 in
theorem ri_k_L_mode : ri_chk ri_hh0 ri_NW0 ri_CW0 ri_NC0 ri_CN0 ri_AO0 ri_cl0 ri_Ms0 ri_tyL0 ri_exn0 ri_XT0 ri_m_L_mode ri_m_L_mode.2.2.2.2.2 [[], [], [], [], [], [1346, 124, 1343, 1344, 1345], [], [], [], [], [], [], [], [], [], [], [], [], [], []] = true := by decide +kernel
set_option maxRecDepth 100000 in
theorem ri_k_X11_mode : ri_chk ri_hh0 ri_NW0 ri_CW0 ri_NC0 ri_CN0 ri_AO0 ri_cl0 ri_Ms0 ri_tyL0 ri_exn0 ri_XT0 ri_m_X11_mode ri_m_X11_mode.2.2.2.2.2 [[], [], [1602], [], [], [], [], [], [2033, 135, 2030, 2032, 101], [], [], [], [], [], [], [], [], [], [], [], [], [], []] = true := by decide +kernel
set_option maxRecDepth 100000 in
theorem ri_k_L_set : ri_chk ri_hh0 ri_NW0 ri_CW0 ri_NC0 ri_CN0 ri_AO0 ri_cl0 ri_Ms0 ri_tyL0 ri_exn0 ri_XT0 ri_m_L_set ri_m_L_set.2.2.2.2.2 [[], [], [], [], [], [1372, 124, 1369, 1370, 1371], [], [], [], [], [], [], [], [], [], [], [], [], [], []] = true := by decide +kernel
set_option maxRecDepth 100000 in
theorem ri_k_X11_set : ri_chk ri_hh0 ri_NW0 ri_CW0 ri_NC0 ri_CN0 ri_AO0 ri_cl0 ri_Ms0 ri_tyL0 ri_exn0 ri_XT0 ri_m_X11_set ri_m_X11_set.2.2.2.2.2 [[], [], [1602], [], [], [], [2037, 135, 2034, 2036, 102], [], [1887, 135, 1884, 1886, 72], [], [], [], [], [], [1789, 135, 1787, 1788], [], [], [], [], [], [1887, 135, 1884, 1886, 72], [], [], [], [], [], [], [], [1887, 135, 1884, 1886, 72], [], [], [], [], [], [], [], [], [], [], [], [], [], [], [], []] = true := by decide +kernel
set_option maxRecDepth 100000 in
theorem ri_k_L_out : ri_chk ri_hh0 ri_NW0 ri_CW0 ri_NC0 ri_CN0 ri_AO0 ri_cl0 ri_Ms0 ri_tyL0 ri_exn0 ri_XT0 ri_m_L_out ri_m_L_out.2.2.2.2.2 [[], [], [], [], [], [1379, 124, 1376, 1377, 1378], [], [], [], [], [], [], [], [], [], [], [], [], [], []] = true := by decide +kernel
set_option maxRecDepth 100000 in
theorem ri_k_X11_out : ri_chk ri_hh0 ri_NW0 ri_CW0 ri_NC0 ri_CN0 ri_AO0 ri_cl0 ri_Ms0 ri_tyL0 ri_exn0 ri_XT0 ri_m_X11_out ri_m_X11_out.2.2.2.2.2 [[], [], [1602], [], [], [], [2037, 135, 2034, 2036, 102], [], [1887, 135, 1884, 1886, 72], [], [], [], [], [], [], [], [], [], [], [], [1789, 135, 1787, 1788], [], [], [], [], [], [1887, 135, 1884, 1886, 72], [], [], [], [], [], [], [], [], [], [], [], [1887, 135, 1884, 1886, 72], [], [], [], [], [], [], [], [], [], [], [], [], [], [], [], [], [], [], [], [], [], []] = true := by decide +kernel
set_option maxRecDepth 100000 in
theorem ri_k_L_gains : ri_chk ri_hh0 ri_NW0 ri_CW0 ri_NC0 ri_CN0 ri_AO0 ri_cl0 ri_Ms0 ri_tyL0 ri_exn0 ri_XT0 ri_m_L_gains ri_m_L_gains.2.2.2.2.2 [[], [], [], [], [], [], [], [1390, 124, 1387, 1388, 1389], [], [], [], [], [], [], [], [], [], [], []] = true := by decide +kernel
set_option maxRecDepth 100000 in
theorem ri_k_X11_gains : ri_chk ri_hh0 ri_NW0 ri_CW0 ri_NC0 ri_CN0 ri_AO0 ri_cl0 ri_Ms0 ri_tyL0 ri_exn0 ri_XT0 ri_m_X11_gains ri_m_X11_gains.2.2.2.2.2 [[], [], [1602], [], [], [], [2037, 135, 2034, 2036, 102], [], [1887, 135, 1884, 1886, 72], [], [], [], [], [], [1789, 135, 1787, 1788], [], [], [], [], [1789, 135, 1787, 1788], [], [], [], [], [1789, 135, 1787, 1788], [], [], [], [], [], [1887, 135, 1884, 1886, 72], [], [], [], [], [], [], [], [], [], [], [], [], [], [], [], [], []] = true := by decide +kernel
set_option maxRecDepth 100000 in
theorem ri_k_L_load : ri_chk ri_hh0 ri_NW0 ri_CW0 ri_NC0 ri_CN0 ri_AO0 ri_cl0 ri_Ms0 ri_tyL0 ri_exn0 ri_XT0 ri_m_L_load ri_m_L_load.2.2.2.2.2 [[], [], [], [], [], [1402, 124, 1399, 1400, 1401], [], [], [], [], [], [], [], [], [], [], []] = true := by decide +kernel
set_option maxRecDepth 100000 in
theorem ri_k_X11_load : ri_chk ri_hh0 ri_NW0 ri_CW0 ri_NC0 ri_CN0 ri_AO0 ri_cl0 ri_Ms0 ri_tyL0 ri_exn0 ri_XT0 ri_m_X11_load ri_m_X11_load.2.2.2.2.2 [[], [], [1602], [], [], [], [2037, 135, 2034, 2036, 102], [], [1887, 135, 1884, 1886, 72], [], [], [], [], [], [1789, 135, 1787, 1788], [], [], [], [], [], [1887, 135, 1884, 1886, 72], [], [], [], [], [], [], [], [], [], [], [], [], [], [], [], []] = true := by decide +kernel
set_option maxRecDepth 100000 in
theorem ri_k_L_lose : ri_chk ri_hh0 ri_NW0 ri_CW0 ri_NC0 ri_CN0 ri_AO0 ri_cl0 ri_Ms0 ri_tyL0 ri_exn0 ri_XT0 ri_m_L_lose ri_m_L_lose.2.2.2.2.2 [[], [], [], [], [], [1409, 124, 1406, 1407, 1408], [], [], [], [], [], [], [], [], [], [], []] = true := by decide +kernel
set_option maxRecDepth 100000 in
theorem ri_k_X11_lose : ri_chk ri_hh0 ri_NW0 ri_CW0 ri_NC0 ri_CN0 ri_AO0 ri_cl0 ri_Ms0 ri_tyL0 ri_exn0 ri_XT0 ri_m_X11_lose ri_m_X11_lose.2.2.2.2.2 [[], [], [1602], [], [], [], [2037, 135, 2034, 2036, 102], [], [1887, 135, 1884, 1886, 72], [], [], [], [], [], [], [], [], [], [], [], [], [], [], [], [], [], [], [], [], [], [], [], [], [], [], [], [], [], []] = true := by decide +kernel
set_option maxRecDepth 100000 in
theorem ri_k_L_relay : ri_chk ri_hh0 ri_NW0 ri_CW0 ri_NC0 ri_CN0 ri_AO0 ri_cl0 ri_Ms0 ri_tyL0 ri_exn0 ri_XT0 ri_m_L_relay ri_m_L_relay.2.2.2.2.2 [[], [], [], [], [], [], [1416, 124, 1413, 1414, 1415], [], [], [], [], [], [], [], [], [], [], [], [], [], []] = true := by decide +kernel
set_option maxRecDepth 100000 in
theorem ri_k_X11_relay : ri_chk ri_hh0 ri_NW0 ri_CW0 ri_NC0 ri_CN0 ri_AO0 ri_cl0 ri_Ms0 ri_tyL0 ri_exn0 ri_XT0 ri_m_X11_relay ri_m_X11_relay.2.2.2.2.2 [[], [], [1602], [], [], [], [2037, 135, 2034, 2036, 102], [], [1887, 135, 1884, 1886, 72], [], [], [], [], [], [1789, 135, 1787, 1788], [], [], [], [], [1789, 135, 1787, 1788], [], [], [], [], [], [1887, 135, 1884, 1886, 72], [], [], [], [], [], [], [], [], [], [], [], [], [], [], [], [], [], [], [], [], [], [], [], [], [], [], [], [], [], [], [], [], [], [], [], [], [], [], [1887, 135, 1884, 1886, 72], [], [], [], [], [], [], [2066], [], [], [], [], [1810], [], [], [], [], [1810], [], [], [], [], [], [], [], [], [], [], [], [], [], [], [], [], [], [], [], [], [], [], [], [], [], [], [], [], [], [], [], [], [1810], [], [], [], [], [], [], [], [], [], [], [], [], [], [], [], [], [], [], [], [], [], [], [], [], [], [], [], [], [], [], [], [], [], [], [], [], []] = true := by decide +kernel
set_option maxRecDepth 100000 in
theorem ri_k_L_tune : ri_chk ri_hh0 ri_NW0 ri_CW0 ri_NC0 ri_CN0 ri_AO0 ri_cl0 ri_Ms0 ri_tyL0 ri_exn0 ri_XT0 ri_m_L_tune ri_m_L_tune.2.2.2.2.2 [[], [], [], [], [], [1427, 124, 1424, 1425, 1426], [], [], [], [], [], [], [], [], [], [], [], [], [], []] = true := by decide +kernel
set_option maxRecDepth 100000 in
theorem ri_k_X11_tune : ri_chk ri_hh0 ri_NW0 ri_CW0 ri_NC0 ri_CN0 ri_AO0 ri_cl0 ri_Ms0 ri_tyL0 ri_exn0 ri_XT0 ri_m_X11_tune ri_m_X11_tune.2.2.2.2.2 [[], [], [1602], [], [], [], [2037, 135, 2034, 2036, 102], [], [1887, 135, 1884, 1886, 72], [], [], [], [], [], [1789, 135, 1787, 1788], [], [], [], [], [], [1887, 135, 1884, 1886, 72], [], [], [], [], [], [], [1810], [], [], [], [], [], [], [1887, 135, 1884, 1886, 72], [], [], [], [], [], [], [], [], [], [], [], [], [], [], [], [2066], [], [], [2071], [], [], [], [], [], [2072], [], [], [2073], [], [], [], [2066], [], [], [], [], [], [2074], [], [], [2071], [], [], [], [], [2075], [], [], [], [], [], [], [], [], [], [], [1917], [], [], [], [], [], [], [], [], [], [], [2066], [], [], [], [], [2005], [], [], [2005], [], [], [2005], [], [], [], [2005], [], [], [], []] = true := by decide +kernel
set_option maxRecDepth 100000 in
theorem ri_k_L_bump : ri_chk ri_hh0 ri_NW0 ri_CW0 ri_NC0 ri_CN0 ri_AO0 ri_cl0 ri_Ms0 ri_tyL0 ri_exn0 ri_XT0 ri_m_L_bump ri_m_L_bump.2.2.2.2.2 [[], [], [], [], [], [1441, 124, 1438, 1439, 1440], [], [], [], [], [], [], [], [], [], [], [], [], [], []] = true := by decide +kernel
set_option maxRecDepth 100000 in
theorem ri_k_X11_bump : ri_chk ri_hh0 ri_NW0 ri_CW0 ri_NC0 ri_CN0 ri_AO0 ri_cl0 ri_Ms0 ri_tyL0 ri_exn0 ri_XT0 ri_m_X11_bump ri_m_X11_bump.2.2.2.2.2 [[], [], [1602], [], [], [], [], [], [2033, 135, 2030, 2032, 101], [], [], [], [], [], [], [], [], [], [2115, 135, 2112, 2114, 105], [], [], [], [], [], [], [2119, 135, 2116, 2118, 106], [], [], [], [], [], [], [], [], [], [], [2123, 135, 2120, 2122, 107], [], []] = true := by decide +kernel
set_option maxRecDepth 100000 in
theorem ri_k_X10_round : ri_chk ri_hh0 ri_NW0 ri_CW0 ri_NC0 ri_CN0 ri_AO0 ri_cl0 ri_Ms0 ri_tyL0 ri_exn0 ri_XT0 ri_m_X10_round ri_m_X10_round.2.2.2.2.2 [[], [], [], [693, 124, 690, 692, 0], [], [652], [], [650], [], [645], [560], [737, 134, 734, 735, 736], [], [], [], [652], [632], [], [], [652], [630], []] = true := by decide +kernel
set_option maxRecDepth 100000 in
theorem ri_k_X11_round : ri_chk ri_hh0 ri_NW0 ri_CW0 ri_NC0 ri_CN0 ri_AO0 ri_cl0 ri_Ms0 ri_tyL0 ri_exn0 ri_XT0 ri_m_X11_round ri_m_X11_round.2.2.2.2.2 [[], [], [1602], [], [2175, 135, 2172, 2174, 111], [], [1618], [], [], [], [], [], [], [], [1619], [], [], [1618], []] = true := by decide +kernel
set_option maxRecDepth 100000 in
theorem ri_k_L_sweep : ri_chk ri_hh0 ri_NW0 ri_CW0 ri_NC0 ri_CN0 ri_AO0 ri_cl0 ri_Ms0 ri_tyL0 ri_exn0 ri_XT0 ri_m_L_sweep ri_m_L_sweep.2.2.2.2.2 [[], [], [], [], [1449, 124, 1446, 1447, 1448], [], [], [], [], [], [], [], []] = true := by decide +kernel
set_option maxRecDepth 100000 in
theorem ri_k_X11_sweep : ri_chk ri_hh0 ri_NW0 ri_CW0 ri_NC0 ri_CN0 ri_AO0 ri_cl0 ri_Ms0 ri_tyL0 ri_exn0 ri_XT0 ri_m_X11_sweep ri_m_X11_sweep.2.2.2.2.2 [[], [], [1602], [], [], [], [2037, 135, 2034, 2036, 102], [], [1887, 135, 1884, 1886, 72], [], [], [], [], [2175, 135, 2172, 2174, 111], [], [1618], [], [], [], [], [2025], [], [2024], [], [], [1618], [], [], [], [1618], [], [1619], [], [], [], [1617], [], [], [], [], [], [], [], [], [], [], [1917], [], [], [], [], [], [], [], [], [], [], [], [], [], [], [], [], []] = true := by decide +kernel
set_option maxRecDepth 100000 in
theorem ri_k_L_starts : ri_chk ri_hh0 ri_NW0 ri_CW0 ri_NC0 ri_CN0 ri_AO0 ri_cl0 ri_Ms0 ri_tyL0 ri_exn0 ri_XT0 ri_m_L_starts ri_m_L_starts.2.2.2.2.2 [[], [], [], [], [], [1462, 124, 1459, 1460, 1461], [], [], [], [], [], [], [], [], [], [], []] = true := by decide +kernel
set_option maxRecDepth 100000 in
theorem ri_k_X11_starts : ri_chk ri_hh0 ri_NW0 ri_CW0 ri_NC0 ri_CN0 ri_AO0 ri_cl0 ri_Ms0 ri_tyL0 ri_exn0 ri_XT0 ri_m_X11_starts ri_m_X11_starts.2.2.2.2.2 [[], [], [1602], [], [], [], [2037, 135, 2034, 2036, 102], [], [1887, 135, 1884, 1886, 72], [], [], [], [], [], [1789, 135, 1787, 1788], [], [], [], [], [], [1887, 135, 1884, 1886, 72], [], [], [], [], [], [], [], [], [], [], [], [], [], [], [], [], [], [], [], [], [], [], [], [], [], [], [], [1812], [], [], [], [], [], [], [2024], [2025], [], [], [], [2175, 135, 2172, 2174, 111], [], [1618], [], [], [], [], [], [], [1619], [], [], [], [1619], [], [], [], [], [], [], [], [], [], [], [], [], [], [], [], [], [], [], [], [], [], [], [], [], [], [], [], [], [], [1620], [], [], [], [], [], [], [1617], [], [], [1618], [], [], [], [], [], [], [], [], [], [], [], [], [], [], [], [], [], [], [], [], [], [], [], [], [], [], [], [], [], [], [], [], [], [], [], []] = true := by decide +kernel
set_option maxRecDepth 100000 in
theorem ri_k_L_step : ri_chk ri_hh0 ri_NW0 ri_CW0 ri_NC0 ri_CN0 ri_AO0 ri_cl0 ri_Ms0 ri_tyL0 ri_exn0 ri_XT0 ri_m_L_step ri_m_L_step.2.2.2.2.2 [[], [], [], [], [], [], [1481, 124, 1478, 1479, 1480], [], [], [], [], [], [], [], [], [], [], [], [], [], [], [], [], []] = true := by decide +kernel
set_option maxRecDepth 100000 in
theorem ri_k_X11_step : ri_chk ri_hh0 ri_NW0 ri_CW0 ri_NC0 ri_CN0 ri_AO0 ri_cl0 ri_Ms0 ri_tyL0 ri_exn0 ri_XT0 ri_m_X11_step ri_m_X11_step.2.2.2.2.2 [[], [], [1602], [], [], [], [2037, 135, 2034, 2036, 102], [], [1887, 135, 1884, 1886, 72], [], [], [], [], [], [1789, 135, 1787, 1788], [], [], [], [], [], [1887, 135, 1884, 1886, 72], [], [], [], [], [], [1789, 135, 1787, 1788], [], [], [], [], [], [], [], [1887, 135, 1884, 1886, 72], [], [], [], [], [], [], [], [], [], [], [], [1887, 135, 1884, 1886, 72], [], [], [], [], [2115, 135, 2112, 2114, 105], [], [], [], [], [], [], [], [], [], [], [1819], [2005], [], [], [], [], [], [], [], [], [], [2123, 135, 2120, 2122, 107], [], []] = true := by decide +kernel
set_option maxRecDepth 100000 in
theorem ri_k_L_twin : ri_chk ri_hh0 ri_NW0 ri_CW0 ri_NC0 ri_CN0 ri_AO0 ri_cl0 ri_Ms0 ri_tyL0 ri_exn0 ri_XT0 ri_m_L_twin ri_m_L_twin.2.2.2.2.2 [[], [], [], [], [1495, 124, 1492, 1493, 1494], [], [], [], [], [], [], [], [], [], [], []] = true := by decide +kernel
set_option maxRecDepth 100000 in
theorem ri_k_X11_twin : ri_chk ri_hh0 ri_NW0 ri_CW0 ri_NC0 ri_CN0 ri_AO0 ri_cl0 ri_Ms0 ri_tyL0 ri_exn0 ri_XT0 ri_m_X11_twin ri_m_X11_twin.2.2.2.2.2 [[], [], [1602], [], [], [], [], [1789, 135, 1787, 1788], [], [], [], [], [], [1887, 135, 1884, 1886, 72], [], [], [], [], [2155, 135, 2210, 2153, 2154], [], [], [], [], [], [1887, 135, 1884, 1886, 72], [], [], [], [], [2115, 135, 2112, 2114, 105], [], [2214, 135, 2211, 2213, 116], [], [], [2218, 135, 2215, 2217, 117], [2267], [], [], [], [2123, 135, 2120, 2122, 107], [], [2268], [], [], [2269], [], [], [], []] = true := by decide +kernel
end
section
/-! ===== the program as data: it is right ===== -/
set_option maxRecDepth 100000 in
theorem ri_k_L_ahead : ri_chk ri_hh0 ri_NW0 ri_CW0 ri_NC0 ri_CN0 ri_AO0 ri_cl0 ri_Ms0 ri_tyL0 ri_exn0 ri_XT0 ri_m_L_ahead ri_m_L_ahead.2.2.2.2.2 [[], [], [], [], [], [], [1542, 124, 1539, 1540, 1541], [], [], [], [], [], [], [], [], [], [], []] = true := by decide +kernel
set_option maxRecDepth 100000 in
theorem ri_k_X11_ahead : ri_chk ri_hh0 ri_NW0 ri_CW0 ri_NC0 ri_CN0 ri_AO0 ri_cl0 ri_Ms0 ri_tyL0 ri_exn0 ri_XT0 ri_m_X11_ahead ri_m_X11_ahead.2.2.2.2.2 [[], [], [1602], [], [], [], [2037, 135, 2034, 2036, 102], [], [1887, 135, 1884, 1886, 72], [], [], [], [], [], [1789, 135, 1787, 1788], [], [], [], [], [], [1887, 135, 1884, 1886, 72], [], [], [], [], [2115, 135, 2112, 2114, 105], [], [], [2119, 135, 2116, 2118, 106], [], [], [], [], [], [], [], [], [], [], [], [], [], [2123, 135, 2120, 2122, 107], [], []] = true := by decide +kernel
set_option maxRecDepth 100000 in
theorem ri_k_L_peak : ri_chk ri_hh0 ri_NW0 ri_CW0 ri_NC0 ri_CN0 ri_AO0 ri_cl0 ri_Ms0 ri_tyL0 ri_exn0 ri_XT0 ri_m_L_peak ri_m_L_peak.2.2.2.2.2 [[], [], [], [], [], [1553, 124, 1550, 1551, 1552], [], [], [], [], [], [], [], [], [], []] = true := by decide +kernel
set_option maxRecDepth 100000 in
theorem ri_k_X11_peak : ri_chk ri_hh0 ri_NW0 ri_CW0 ri_NC0 ri_CN0 ri_AO0 ri_cl0 ri_Ms0 ri_tyL0 ri_exn0 ri_XT0 ri_m_X11_peak ri_m_X11_peak.2.2.2.2.2 [[], [], [], [2135, 135, 2132, 2134, 108], [], [], [], [], [], [], [], [], [], [1616], [], [], [], [], [], [], [2115, 135, 2112, 2114, 105], [], [], [2119, 135, 2116, 2118, 106], [], [2123, 135, 2120, 2122, 107], [], [1616], [], [], []] = true := by decide +kernel
set_option maxRecDepth 100000 in
theorem ri_k_L_hunts : ri_chk ri_hh0 ri_NW0 ri_CW0 ri_NC0 ri_CN0 ri_AO0 ri_cl0 ri_Ms0 ri_tyL0 ri_exn0 ri_XT0 ri_m_L_hunts ri_m_L_hunts.2.2.2.2.2 [[], [], [], [], [], [1561, 124, 1558, 1559, 1560], [], [], [], [], [], [], [], [], [], [], []] = true := by decide +kernel
set_option maxRecDepth 100000 in
theorem ri_k_X11_hunts : ri_chk ri_hh0 ri_NW0 ri_CW0 ri_NC0 ri_CN0 ri_AO0 ri_cl0 ri_Ms0 ri_tyL0 ri_exn0 ri_XT0 ri_m_X11_hunts ri_m_X11_hunts.2.2.2.2.2 [[], [], [], [2135, 135, 2132, 2134, 108], [], [], [], [], [2115, 135, 2112, 2114, 105], [], [], [], [], [], [], [], [], [], [], [], [], [], [1896, 135, 1893, 1895, 73], [], [], [], [], [], [], [], [], [], [], [], [], [], [], [], [], [], [], [], [2123, 135, 2120, 2122, 107], [], []] = true := by decide +kernel
set_option maxRecDepth 100000 in
theorem ri_k_L_worst : ri_chk ri_hh0 ri_NW0 ri_CW0 ri_NC0 ri_CN0 ri_AO0 ri_cl0 ri_Ms0 ri_tyL0 ri_exn0 ri_XT0 ri_m_L_worst ri_m_L_worst.2.2.2.2.2 [[], [], [], [], [1568, 124, 1565, 1566, 1567], [], [], [], [], [], [], [], []] = true := by decide +kernel
set_option maxRecDepth 100000 in
theorem ri_k_X11_worst : ri_chk ri_hh0 ri_NW0 ri_CW0 ri_NC0 ri_CN0 ri_AO0 ri_cl0 ri_Ms0 ri_tyL0 ri_exn0 ri_XT0 ri_m_X11_worst ri_m_X11_worst.2.2.2.2.2 [[], [], [1602], [], [], [], [], [1789, 135, 1787, 1788], [], [], [], [], [], [1887, 135, 1884, 1886, 72], [], [], [], [], [2115, 135, 2112, 2114, 105], [], [], [2119, 135, 2116, 2118, 106], [], [], [], [], [], [], [1755, 135, 1752, 1754, 51], [], [], [], [], [], [], [], [], [], [], [], [], [], [], [], [], [], [2123, 135, 2120, 2122, 107], [], []] = true := by decide +kernel
set_option maxRecDepth 100000 in
theorem ri_k_L_which : ri_chk ri_hh0 ri_NW0 ri_CW0 ri_NC0 ri_CN0 ri_AO0 ri_cl0 ri_Ms0 ri_tyL0 ri_exn0 ri_XT0 ri_m_L_which ri_m_L_which.2.2.2.2.2 [[], [], [], [], [1575, 124, 1572, 1573, 1574], [], [], [], [], [], [], [], []] = true := by decide +kernel
set_option maxRecDepth 100000 in
theorem ri_k_X11_which : ri_chk ri_hh0 ri_NW0 ri_CW0 ri_NC0 ri_CN0 ri_AO0 ri_cl0 ri_Ms0 ri_tyL0 ri_exn0 ri_XT0 ri_m_X11_which ri_m_X11_which.2.2.2.2.2 [[], [], [1602], [], [], [], [], [1789, 135, 1787, 1788], [], [], [], [], [], [1887, 135, 1884, 1886, 72], [], [], [], [], [], [], [], [], [], [1755, 135, 1752, 1754, 51], [], [], [], [], [], [], [], [], [], [], [], [], [], [], [], [], [], [], [], [], [], [], [], [], [], [], [], [], [], [], [], [], [], [], [], [], [], [], [], [], [], [], [], [], [1810], [], [], [], [], [], [], [], [], [], [], [], [], [], [], [], [], [], [], [], [], [], [], [], [], [], [], [], [], [], [], [], [], [], [], [], [], [], []] = true := by decide +kernel
set_option maxRecDepth 100000 in
theorem ri_k_L_event : ri_chk ri_hh0 ri_NW0 ri_CW0 ri_NC0 ri_CN0 ri_AO0 ri_cl0 ri_Ms0 ri_tyL0 ri_exn0 ri_XT0 ri_m_L_event ri_m_L_event.2.2.2.2.2 [[], [], [], [], [], [1586, 124, 1583, 1584, 1585], [], [], [], [], [], [], [], [], [], [], []] = true := by decide +kernel
set_option maxRecDepth 100000 in
theorem ri_k_X11_event : ri_chk ri_hh0 ri_NW0 ri_CW0 ri_NC0 ri_CN0 ri_AO0 ri_cl0 ri_Ms0 ri_tyL0 ri_exn0 ri_XT0 ri_m_X11_event ri_m_X11_event.2.2.2.2.2 [[], [], [1602], [], [], [], [], [1603], [], [1603], [], [], [], [], [], [], [], [], [1887, 135, 1884, 1886, 72], [], [], [], [], [], [1789, 135, 1787, 1788], [], [], [], [], [], [1887, 135, 1884, 1886, 72], [], [], [], [], [1603], [], [], [], [], [], [], [], [], [], []] = true := by decide +kernel
set_option maxRecDepth 100000 in
theorem ri_k_L_log : ri_chk ri_hh0 ri_NW0 ri_CW0 ri_NC0 ri_CN0 ri_AO0 ri_cl0 ri_Ms0 ri_tyL0 ri_exn0 ri_XT0 ri_m_L_log ri_m_L_log.2.2.2.2.2 [[], [], [], [], [], [1594, 124, 1591, 1592, 1593], [], [], [], [], [], [], [], []] = true := by decide +kernel
set_option maxRecDepth 100000 in
theorem ri_k_X11_log : ri_chk ri_hh0 ri_NW0 ri_CW0 ri_NC0 ri_CN0 ri_AO0 ri_cl0 ri_Ms0 ri_tyL0 ri_exn0 ri_XT0 ri_m_X11_log ri_m_X11_log.2.2.2.2.2 [[], [], [1602], [], [], [], [], [1789, 135, 1787, 1788], [], [], [], [], [], [1887, 135, 1884, 1886, 72], [], [], [], [], [], [], [1603], [], [], [], [], [], [1789, 135, 1787, 1788], [], [], [1603], [], [], [], [], [], [], [], [], [], [], [], []] = true := by decide +kernel
set_option maxRecDepth 100000 in
theorem ri_k_X10_image : ri_chk ri_hh0 ri_NW0 ri_CW0 ri_NC0 ri_CN0 ri_AO0 ri_cl0 ri_Ms0 ri_tyL0 ri_exn0 ri_XT0 ri_m_X10_image ri_m_X10_image.2.2.2.2.2 [[], [648], [], [647], [697, 126, 694, 695, 696], [], [], [649], []] = true := by decide +kernel
set_option maxRecDepth 100000 in
theorem ri_k_X11_image : ri_chk ri_hh0 ri_NW0 ri_CW0 ri_NC0 ri_CN0 ri_AO0 ri_cl0 ri_Ms0 ri_tyL0 ri_exn0 ri_XT0 ri_m_X11_image ri_m_X11_image.2.2.2.2.2 [[], [], [1602], [], [], [], [], [], [], [1604], [], [], [1603], [], [], [], [], [], [], [], [1607], []] = true := by decide +kernel
set_option maxRecDepth 100000 in
theorem ri_k_X10_back : ri_chk ri_hh0 ri_NW0 ri_CW0 ri_NC0 ri_CN0 ri_AO0 ri_cl0 ri_Ms0 ri_tyL0 ri_exn0 ri_XT0 ri_m_X10_back ri_m_X10_back.2.2.2.2.2 [[], [649], [], [], [647], [], [648], [697, 126, 694, 695, 696], [], [649], []] = true := by decide +kernel
set_option maxRecDepth 100000 in
theorem ri_k_X11_back : ri_chk ri_hh0 ri_NW0 ri_CW0 ri_NC0 ri_CN0 ri_AO0 ri_cl0 ri_Ms0 ri_tyL0 ri_exn0 ri_XT0 ri_m_X11_back ri_m_X11_back.2.2.2.2.2 [[], [], [1602], [], [1607], [], [], [], [], [], [], [], [], [], [1603], [], [], [1604], [], [], [], [], [], [], []] = true := by decide +kernel
set_option maxRecDepth 100000 in
theorem ri_k_X10_count : ri_chk ri_hh0 ri_NW0 ri_CW0 ri_NC0 ri_CN0 ri_AO0 ri_cl0 ri_Ms0 ri_tyL0 ri_exn0 ri_XT0 ri_m_X10_count ri_m_X10_count.2.2.2.2.2 [[], [], [], [647], [528], [], [], [647], [530], [], [], [647], [533], [], [], [647], [536], [186], [], [], [647], [538], [186], [], [], []] = true := by decide +kernel
set_option maxRecDepth 100000 in
theorem ri_k_X11_count : ri_chk ri_hh0 ri_NW0 ri_CW0 ri_NC0 ri_CN0 ri_AO0 ri_cl0 ri_Ms0 ri_tyL0 ri_exn0 ri_XT0 ri_m_X11_count ri_m_X11_count.2.2.2.2.2 [[], [], [1602], [], [], [], [1789, 135, 1787, 1788], [], [], [1603], [], [], [], [], [], []] = true := by decide +kernel
set_option maxRecDepth 100000 in
theorem ri_k_X4_init : ri_chk ri_hh0 ri_NW0 ri_CW0 ri_NC0 ri_CN0 ri_AO0 ri_cl0 ri_Ms0 ri_tyL0 ri_exn0 ri_XT0 ri_m_X4_init ri_m_X4_init.2.2.2.2.2 [[], [166, 159, 160], [], [167], [], [171, 126, 169, 170], [559], [], [], [561], [], [], [583], [563], [], [], [564], [], [], [565], [], [], [566], [], [], [567], []] = true := by decide +kernel
set_option maxRecDepth 100000 in
theorem ri_k_X0_init : ri_chk ri_hh0 ri_NW0 ri_CW0 ri_NC0 ri_CN0 ri_AO0 ri_cl0 ri_Ms0 ri_tyL0 ri_exn0 ri_XT0 ri_m_X0_init ri_m_X0_init.2.2.2.2.2 [[], [172, 159, 160], [], [], [173], [519], [], [], [524], [], [], [529], [], [], [531], [], [175], [], [], [179, 127, 177, 178], [534], [], [175], [], [], [179, 127, 177, 178], [537], [], [], [254], [539], [], [], [255], [541], [], [], [], [], [], [], [519], [], [173], [], [198, 128, 197], [], [], [], []] = true := by decide +kernel
set_option maxRecDepth 100000 in
theorem ri_k_X8_init : ri_chk ri_hh0 ri_NW0 ri_CW0 ri_NC0 ri_CN0 ri_AO0 ri_cl0 ri_Ms0 ri_tyL0 ri_exn0 ri_XT0 ri_m_X8_init ri_m_X8_init.2.2.2.2.2 [[], [591, 159, 160], [], [], [622], [594], [], [], [622], [595], [], [], [622], [596], [], [], [622], [597], [], [], [622], [598], [], [], [622], [599], [], [], [622], [600], [], [], [622], [601], [], [], [], [592, 622], [602], []] = true := by decide +kernel
set_option maxRecDepth 100000 in
theorem ri_k_X6_init : ri_chk ri_hh0 ri_NW0 ri_CW0 ri_NC0 ri_CN0 ri_AO0 ri_cl0 ri_Ms0 ri_tyL0 ri_exn0 ri_XT0 ri_m_X6_init ri_m_X6_init.2.2.2.2.2 [[], [628, 159, 160], [], [], [629], [], [], [631], [], [], [194], [633], [], [], [254], [635], []] = true := by decide +kernel
set_option maxRecDepth 100000 in
theorem ri_k_X4_append : ri_chk ri_hh0 ri_NW0 ri_CW0 ri_NC0 ri_CN0 ri_AO0 ri_cl0 ri_Ms0 ri_tyL0 ri_exn0 ri_XT0 ri_m_X4_append ri_m_X4_append.2.2.2.2.2 [[], [], [], [], [], [561], [], [], [], [563], [], [561], [], [], [], [], [], [], [], [561], [], [], [561], [], [], []] = true := by decide +kernel
set_option maxRecDepth 100000 in
theorem ri_k_X10_bench : ri_chk ri_hh0 ri_NW0 ri_CW0 ri_NC0 ri_CN0 ri_AO0 ri_cl0 ri_Ms0 ri_tyL0 ri_exn0 ri_XT0 ri_m_X10_bench ri_m_X10_bench.2.2.2.2.2 [[], [645], [560], [], [647], [697, 126, 694, 695, 696], [], [], [645], [936, 125, 933, 934, 935], [646], [], [646], [], [], [], [], [], [], [], [647], [530], [], [], [], [], [], [], [], [647], [], [645], [560], [697, 126, 694, 695, 696], [], [647], [], [530], [], [], [530], [], [647], [530], []] = true := by decide +kernel
set_option maxRecDepth 100000 in
theorem ri_k_X11_readBench : ri_chk ri_hh0 ri_NW0 ri_CW0 ri_NC0 ri_CN0 ri_AO0 ri_cl0 ri_Ms0 ri_tyL0 ri_exn0 ri_XT0 ri_m_X11_readBench ri_m_X11_readBench.2.2.2.2.2 [[], [1728, 135, 1725, 1727, 45], [], [1610], [], [1611], [], [], [], [], [], [], [], [], [], [], [], [], [], [], [], [], [1728, 135, 1725, 1727, 45], [], [1610], [], [1611], [], [], [], [], [], [], [1732, 135, 1729, 1731, 46], [], [], [], [], [], [1610], [], [], [1610], [], []] = true := by decide +kernel
set_option maxRecDepth 100000 in
theorem ri_k_X11_throwsIf : ri_chk ri_hh0 ri_NW0 ri_CW0 ri_NC0 ri_CN0 ri_AO0 ri_cl0 ri_Ms0 ri_tyL0 ri_exn0 ri_XT0 ri_m_X11_throwsIf ri_m_X11_throwsIf.2.2.2.2.2 [[], [], [], [], [1602], [], []] = true := by decide +kernel
set_option maxRecDepth 100000 in
theorem ri_k_X10_loop : ri_chk ri_hh0 ri_NW0 ri_CW0 ri_NC0 ri_CN0 ri_AO0 ri_cl0 ri_Ms0 ri_tyL0 ri_exn0 ri_XT0 ri_m_X10_loop ri_m_X10_loop.2.2.2.2.2 [[], [], [1220, 124, 1217, 1219, 36], [], [], [], [], [414], [209], [], [], [414], [213], [], [], [414], [217], [], [], [414], [221], [], [], [414], [224], [], [], [419], [265], [], [], [419], [270], [], [], [433], [], [], [437], [], [], [440], [], [], [414], [], [], [], [444], [], [], [419], [279], [], [], [458], [], [], [424], [331], [], [], [462], [], [], [464], [], [], [467], [], [], [], [], [], [], [476], [], [], [479], [], [], [419], [283], [], [], [], [], []] = true := by decide +kernel
set_option maxRecDepth 100000 in
theorem ri_k_X11_noLoop : ri_chk ri_hh0 ri_NW0 ri_CW0 ri_NC0 ri_CN0 ri_AO0 ri_cl0 ri_Ms0 ri_tyL0 ri_exn0 ri_XT0 ri_m_X11_noLoop ri_m_X11_noLoop.2.2.2.2.2 [[], [], [], [1755, 135, 1752, 1754, 51], [], [], [1789, 135, 1787, 1788], [], [], [], [], []] = true := by decide +kernel
set_option maxRecDepth 100000 in
theorem ri_k_X11_in : ri_chk ri_hh0 ri_NW0 ri_CW0 ri_NC0 ri_CN0 ri_AO0 ri_cl0 ri_Ms0 ri_tyL0 ri_exn0 ri_XT0 ri_m_X11_in ri_m_X11_in.2.2.2.2.2 [[], [], [], [], [], [], [], [], [], []] = true := by decide +kernel
set_option maxRecDepth 100000 in
theorem ri_k_X10_inner : ri_chk ri_hh0 ri_NW0 ri_CW0 ri_NC0 ri_CN0 ri_AO0 ri_cl0 ri_Ms0 ri_tyL0 ri_exn0 ri_XT0 ri_m_X10_inner ri_m_X10_inner.2.2.2.2.2 [[], [], [1220, 124, 1217, 1219, 36], [], [], [], [], [414], [228], [], [], [], [414], [232], [], [], [], [448], [], [], [452], [], [], [455], [], [], [424], [], [], [], [], [], []] = true := by decide +kernel
set_option maxRecDepth 100000 in
theorem ri_k_X10_gain : ri_chk ri_hh0 ri_NW0 ri_CW0 ri_NC0 ri_CN0 ri_AO0 ri_cl0 ri_Ms0 ri_tyL0 ri_exn0 ri_XT0 ri_m_X10_gain ri_m_X10_gain.2.2.2.2.2 [[], [], [1220, 124, 1217, 1219, 36], [424], [], [], [], [], [], [331], [], [], [], [], [], [], [], [], [335], [], [], [], [], [339], [], [], [], [], [342], [], [], [], [], [347], [], [], [], [], [], [], []] = true := by decide +kernel
set_option maxRecDepth 100000 in
theorem ri_k_X10_weight : ri_chk ri_hh0 ri_NW0 ri_CW0 ri_NC0 ri_CN0 ri_AO0 ri_cl0 ri_Ms0 ri_tyL0 ri_exn0 ri_XT0 ri_m_X10_weight ri_m_X10_weight.2.2.2.2.2 [[], [], [1220, 124, 1217, 1219, 36], [], [], [], [], [424], [311], [], [], [424], [316], [], [], [424], [321], [], [], [424], [325], [], [], [419], [275], [], [], [424], [329], [], [], [], [], []] = true := by decide +kernel
set_option maxRecDepth 100000 in
theorem ri_k_X10_trip : ri_chk ri_hh0 ri_NW0 ri_CW0 ri_NC0 ri_CN0 ri_AO0 ri_cl0 ri_Ms0 ri_tyL0 ri_exn0 ri_XT0 ri_m_X10_trip ri_m_X10_trip.2.2.2.2.2 [[], [], [1220, 124, 1217, 1219, 36], [], [], [], [], [], [474], [], [], [], [], [470], [], [], []] = true := by decide +kernel
set_option maxRecDepth 100000 in
theorem ri_k_X10_whose : ri_chk ri_hh0 ri_NW0 ri_CW0 ri_NC0 ri_CN0 ri_AO0 ri_cl0 ri_Ms0 ri_tyL0 ri_exn0 ri_XT0 ri_m_X10_whose ri_m_X10_whose.2.2.2.2.2 [[], [], [1220, 124, 1217, 1219, 36], [], [], [], [], [], [474], [], [], [], [], [], [], [], [], [], [], [], [], [], [], [647], [523], [], [], [433], [], [], [], [], []] = true := by decide +kernel
set_option maxRecDepth 100000 in
theorem ri_k_X10_flow : ri_chk ri_hh0 ri_NW0 ri_CW0 ri_NC0 ri_CN0 ri_AO0 ri_cl0 ri_Ms0 ri_tyL0 ri_exn0 ri_XT0 ri_m_X10_flow ri_m_X10_flow.2.2.2.2.2 [[], [], [1220, 124, 1217, 1219, 36], [419], [], [], [], [265], [], [270], [1306, 124, 1304, 1305], [], [], [], []] = true := by decide +kernel
set_option maxRecDepth 100000 in
theorem ri_k_X10_ticks : ri_chk ri_hh0 ri_NW0 ri_CW0 ri_NC0 ri_CN0 ri_AO0 ri_cl0 ri_Ms0 ri_tyL0 ri_exn0 ri_XT0 ri_m_X10_ticks ri_m_X10_ticks.2.2.2.2.2 [[], [], [], [1306, 124, 1304, 1305], [], [], [], [], [], [], [], [], [647], [1318, 126, 1315, 1316, 1317], [], [], [647], [757, 126, 1332, 755, 756], [], [], [], [], [], [1335, 150, 1333, 1334], []] = true := by decide +kernel
set_option maxRecDepth 100000 in
theorem ri_k_X11_oneTick : ri_chk ri_hh0 ri_NW0 ri_CW0 ri_NC0 ri_CN0 ri_AO0 ri_cl0 ri_Ms0 ri_tyL0 ri_exn0 ri_XT0 ri_m_X11_oneTick ri_m_X11_oneTick.2.2.2.2.2 [[], [], [], [1900, 135, 1897, 1899, 74], [], [], [], [], [1755, 135, 1752, 1754, 51], [], [], [], [], [], [], [], [], [], [], [], [], [], [], [1755, 135, 1752, 1754, 51], [], [], [], [], [], [], [], [], [], [], [], [], [], [], [], [], [], [1755, 135, 1752, 1754, 51], [], [], [], [], [], [], [], [1603], [], [], [], [], [], [], [], []] = true := by decide +kernel
end
section
/-! ===== the program as data: it is right ===== -/
set_option maxRecDepth 100000 in
theorem ri_k_X10_mode : ri_chk ri_hh0 ri_NW0 ri_CW0 ri_NC0 ri_CN0 ri_AO0 ri_cl0 ri_Ms0 ri_tyL0 ri_exn0 ri_XT0 ri_m_X10_mode ri_m_X10_mode.2.2.2.2.2 [[], [], [1220, 124, 1217, 1219, 36], [], [], [], [], [], [437], [], [], [647], [], [], [], [], []] = true := by decide +kernel
set_option maxRecDepth 100000 in
theorem ri_k_X11_noMode : ri_chk ri_hh0 ri_NW0 ri_CW0 ri_NC0 ri_CN0 ri_AO0 ri_cl0 ri_Ms0 ri_tyL0 ri_exn0 ri_XT0 ri_m_X11_noMode ri_m_X11_noMode.2.2.2.2.2 [[], [], [], [2037, 135, 2034, 2036, 102], [], [1887, 135, 1884, 1886, 72], [], [], [], [], [], [1789, 135, 1787, 1788], [], [], [], [], [], [1887, 135, 1884, 1886, 72], [], [], [], [], [], [], [], [], [], [1810], [], [], [], [], [], [], [1887, 135, 1884, 1886, 72], [], [], [], [], []] = true := by decide +kernel
set_option maxRecDepth 100000 in
theorem ri_k_X10_set : ri_chk ri_hh0 ri_NW0 ri_CW0 ri_NC0 ri_CN0 ri_AO0 ri_cl0 ri_Ms0 ri_tyL0 ri_exn0 ri_XT0 ri_m_X10_set ri_m_X10_set.2.2.2.2.2 [[], [], [1220, 124, 1217, 1219, 36], [], [], [], [], [1306, 124, 1304, 1305], [], [437], [], [], [], [], [], [], [], [440], [], [], [], [440], [], []] = true := by decide +kernel
set_option maxRecDepth 100000 in
theorem ri_k_X10_out : ri_chk ri_hh0 ri_NW0 ri_CW0 ri_NC0 ri_CN0 ri_AO0 ri_cl0 ri_Ms0 ri_tyL0 ri_exn0 ri_XT0 ri_m_X10_out ri_m_X10_out.2.2.2.2.2 [[], [], [1220, 124, 1217, 1219, 36], [], [], [], [419], [265], [], [419], [270], [1306, 124, 1304, 1305], [], [], [], [], [444], [], [], [], [444], [], [], [], []] = true := by decide +kernel
set_option maxRecDepth 100000 in
theorem ri_k_X10_gains : ri_chk ri_hh0 ri_NW0 ri_CW0 ri_NC0 ri_CN0 ri_AO0 ri_cl0 ri_Ms0 ri_tyL0 ri_exn0 ri_XT0 ri_m_X10_gains ri_m_X10_gains.2.2.2.2.2 [[], [], [1220, 124, 1217, 1219, 36], [], [], [], [], [1306, 124, 1304, 1305], [], [], [], [1306, 124, 1304, 1305], [], [], [], [1306, 124, 1304, 1305], [], [], [], [], [], [], [458], []] = true := by decide +kernel
set_option maxRecDepth 100000 in
theorem ri_k_X10_load : ri_chk ri_hh0 ri_NW0 ri_CW0 ri_NC0 ri_CN0 ri_AO0 ri_cl0 ri_Ms0 ri_tyL0 ri_exn0 ri_XT0 ri_m_X10_load ri_m_X10_load.2.2.2.2.2 [[], [], [1220, 124, 1217, 1219, 36], [414], [], [], [], [], [1306, 124, 1304, 1305], [], [224], [], [], [], [224], [], []] = true := by decide +kernel
set_option maxRecDepth 100000 in
theorem ri_k_X10_lose : ri_chk ri_hh0 ri_NW0 ri_CW0 ri_NC0 ri_CN0 ri_AO0 ri_cl0 ri_Ms0 ri_tyL0 ri_exn0 ri_XT0 ri_m_X10_lose ri_m_X10_lose.2.2.2.2.2 [[], [], [1220, 124, 1217, 1219, 36], [], [], [467], [], [], [], [], [], [], [], [], [467], [], []] = true := by decide +kernel
set_option maxRecDepth 100000 in
theorem ri_k_X10_relay : ri_chk ri_hh0 ri_NW0 ri_CW0 ri_NC0 ri_CN0 ri_AO0 ri_cl0 ri_Ms0 ri_tyL0 ri_exn0 ri_XT0 ri_m_X10_relay ri_m_X10_relay.2.2.2.2.2 [[], [], [1220, 124, 1217, 1219, 36], [], [], [], [], [1306, 124, 1304, 1305], [], [], [], [1306, 124, 1304, 1305], [], [], [], [], [444], [], [], [], [419], [265], [], [], [444], [], [], [], [419], [270], [], [], [], [], [], [], [], [], [], [], [428], [383], []] = true := by decide +kernel
set_option maxRecDepth 100000 in
theorem ri_k_X10_tune : ri_chk ri_hh0 ri_NW0 ri_CW0 ri_NC0 ri_CN0 ri_AO0 ri_cl0 ri_Ms0 ri_tyL0 ri_exn0 ri_XT0 ri_m_X10_tune ri_m_X10_tune.2.2.2.2.2 [[], [], [1220, 124, 1217, 1219, 36], [], [], [], [], [1306, 124, 1304, 1305], [], [476], [], [], [], [], [], [], [], [], [], []] = true := by decide +kernel
set_option maxRecDepth 100000 in
theorem ri_k_X10_bump : ri_chk ri_hh0 ri_NW0 ri_CW0 ri_NC0 ri_CN0 ri_AO0 ri_cl0 ri_Ms0 ri_tyL0 ri_exn0 ri_XT0 ri_m_X10_bump ri_m_X10_bump.2.2.2.2.2 [[], [], [1220, 124, 1217, 1219, 36], [], [], [], [], [], [650], [], [647], [697, 126, 694, 695, 696], [], [650], [], [], [], [], [650], [757, 126, 1332, 755, 756], [], [], [650], [523], [], [], [444], [], [444], [], [], []] = true := by decide +kernel
set_option maxRecDepth 100000 in
theorem ri_k_X11_keepsAll : ri_chk ri_hh0 ri_NW0 ri_CW0 ri_NC0 ri_CN0 ri_AO0 ri_cl0 ri_Ms0 ri_tyL0 ri_exn0 ri_XT0 ri_m_X11_keepsAll ri_m_X11_keepsAll.2.2.2.2.2 [[], [], [], [], [], [], [1606], [], [], [1603], [], [], [], [], [], []] = true := by decide +kernel
set_option maxRecDepth 100000 in
theorem ri_k_X11_goesOn : ri_chk ri_hh0 ri_NW0 ri_CW0 ri_NC0 ri_CN0 ri_AO0 ri_cl0 ri_Ms0 ri_tyL0 ri_exn0 ri_XT0 ri_m_X11_goesOn ri_m_X11_goesOn.2.2.2.2.2 [[], [], [], [], [], [], [], [1896, 135, 1893, 1895, 73], [], [], [], []] = true := by decide +kernel
set_option maxRecDepth 100000 in
theorem ri_k_X11_bringsBack : ri_chk ri_hh0 ri_NW0 ri_CW0 ri_NC0 ri_CN0 ri_AO0 ri_cl0 ri_Ms0 ri_tyL0 ri_exn0 ri_XT0 ri_m_X11_bringsBack ri_m_X11_bringsBack.2.2.2.2.2 [[], [], [], [], [], [], [1603], [], [], [1606], [], [], [], [], [], []] = true := by decide +kernel
set_option maxRecDepth 100000 in
theorem ri_k_X10_startAt : ri_chk ri_hh0 ri_NW0 ri_CW0 ri_NC0 ri_CN0 ri_AO0 ri_cl0 ri_Ms0 ri_tyL0 ri_exn0 ri_XT0 ri_m_X10_startAt ri_m_X10_startAt.2.2.2.2.2 [[], [650], [], [647], [697, 126, 694, 695, 696], [], [650], [523], [], [], [414], [], [], [], [228], [], [], [], [], [729], [730], [733, 124, 731, 732], [], [228], [], [645], [560], [], [650], [697, 126, 694, 695, 696], []] = true := by decide +kernel
set_option maxRecDepth 100000 in
theorem ri_k_X6_find : ri_chk ri_hh0 ri_NW0 ri_CW0 ri_NC0 ri_CN0 ri_AO0 ri_cl0 ri_Ms0 ri_tyL0 ri_exn0 ri_XT0 ri_m_X6_find ri_m_X6_find.2.2.2.2.2 [[], [], [629], [], [], [], [741, 134, 738, 740, 1], [631], [], [631], [], [], [], [], [], [697, 126, 907, 695, 696], [], [], [], [], [911, 134, 908, 910, 13], [629], [], [629], [], [], [], [], [631], []] = true := by decide +kernel
set_option maxRecDepth 100000 in
theorem ri_k_X11_laysRound : ri_chk ri_hh0 ri_NW0 ri_CW0 ri_NC0 ri_CN0 ri_AO0 ri_cl0 ri_Ms0 ri_tyL0 ri_exn0 ri_XT0 ri_m_X11_laysRound ri_m_X11_laysRound.2.2.2.2.2 [[], [2115, 135, 2112, 2114, 105], [], [], [1618], [], [], [1617], [], [2179, 135, 2176, 2178, 112], [], [], [], [], [], [], [1618], [], [], [], [], [1896, 135, 1893, 1895, 73], [], [], [], [1617], [], [], [], [2179, 135, 2176, 2178, 112], [], [], [], [], [], [], [1618], [], [], [], [], [1617], [], [], [], [], [1617], [], [], [], [2183, 135, 2180, 2182, 113], [], [], [], [1618], [], [], [], [], [], [1618], [], [1619], [], [], [], [2123, 135, 2120, 2122, 107], []] = true := by decide +kernel
set_option maxRecDepth 100000 in
theorem ri_k_X10_sweep : ri_chk ri_hh0 ri_NW0 ri_CW0 ri_NC0 ri_CN0 ri_AO0 ri_cl0 ri_Ms0 ri_tyL0 ri_exn0 ri_XT0 ri_m_X10_sweep ri_m_X10_sweep.2.2.2.2.2 [[], [], [1220, 124, 1217, 1219, 36], [], [], [], [], [693, 124, 690, 692, 0], [], [652], [], [650], [], [645], [560], [737, 134, 734, 735, 736], [], [652], [], [650], [], [], []] = true := by decide +kernel
set_option maxRecDepth 100000 in
theorem ri_k_X10_starts : ri_chk ri_hh0 ri_NW0 ri_CW0 ri_NC0 ri_CN0 ri_AO0 ri_cl0 ri_Ms0 ri_tyL0 ri_exn0 ri_XT0 ri_m_X10_starts ri_m_X10_starts.2.2.2.2.2 [[], [], [1220, 124, 1217, 1219, 36], [], [], [], [], [], [], [], [], [], [], [], [652], [], [], [], [], [], [], [], [], [], [], [], [], [], [693, 124, 690, 692, 0], [], [652], [], [650], [], [645], [560], [737, 134, 734, 735, 736], [], [652], [], [650], [], [], [], [], [652], [634], [], [], []] = true := by decide +kernel
set_option maxRecDepth 100000 in
theorem ri_k_X10_step : ri_chk ri_hh0 ri_NW0 ri_CW0 ri_NC0 ri_CN0 ri_AO0 ri_cl0 ri_Ms0 ri_tyL0 ri_exn0 ri_XT0 ri_m_X10_step ri_m_X10_step.2.2.2.2.2 [[], [], [1220, 124, 1217, 1219, 36], [], [], [], [], [], [], [], [], [], [], [], [], [], [1306, 124, 1304, 1305], [], [], [], [], [], [], [], [], [], [], [], [], [], [], []] = true := by decide +kernel
set_option maxRecDepth 100000 in
theorem ri_k_X10_twin : ri_chk ri_hh0 ri_NW0 ri_CW0 ri_NC0 ri_CN0 ri_AO0 ri_cl0 ri_Ms0 ri_tyL0 ri_exn0 ri_XT0 ri_m_X10_twin ri_m_X10_twin.2.2.2.2.2 [[], [], [], [1306, 124, 1304, 1305], [], [], [], [], [647], [528], [], [], [647], [523], [], [], [437], [], [], [], [], [], [], [], [], [], [650], [], [647], [697, 126, 694, 695, 696], [], [651], [], [647], [1499, 133, 1496, 1497, 1498], [], [], [], [], [], [], [], [], [650], [757, 126, 1332, 755, 756], [], [], [651], [], [647], [1503, 133, 1500, 1501, 1502], [], [651], [], [650], [1532, 133, 1529, 1530, 1531], [], [], [], [], [], [], [], [], [], [], [], [], [1533], [], [], [], [1534], [], [], [1535], [], [], [], []] = true := by decide +kernel
set_option maxRecDepth 100000 in
theorem ri_k_X11_beginsTwin : ri_chk ri_hh0 ri_NW0 ri_CW0 ri_NC0 ri_CN0 ri_AO0 ri_cl0 ri_Ms0 ri_tyL0 ri_exn0 ri_XT0 ri_m_X11_beginsTwin ri_m_X11_beginsTwin.2.2.2.2.2 [[], [], [], [], [1755, 135, 1752, 1754, 51], [], [], [1621], [], [], [], [], [], [], [], [], [1622], [], [], [], [], [], [], [], [], [1623], [], [], [], [], [], [], [], [], [1624], [], [], [], [], [], [], [], [], [1625], [], [], [], [], [], [], [], [], [1626], [], [], [], [], [], [], [], [], [1627], [], [], [], [], [], [], [], [], [1628], [], [], [], [], [], [], [], [], [1631], [], [], [], [], [], [], [], [], [], [], [], [1630], [], [], [], [], [], [], [], [], [], [], [], [], [], [], [], [], [], []] = true := by decide +kernel
set_option maxRecDepth 100000 in
theorem ri_k_X11_twinOff : ri_chk ri_hh0 ri_NW0 ri_CW0 ri_NC0 ri_CN0 ri_AO0 ri_cl0 ri_Ms0 ri_tyL0 ri_exn0 ri_XT0 ri_m_X11_twinOff ri_m_X11_twinOff.2.2.2.2.2 [[], [], [], [], [], [], [], [], [], [], [], [1755, 135, 1752, 1754, 51], [], [], [], [], [], [], [], [], [], [], [1755, 135, 1752, 1754, 51], [], [], [], [], [], [], [], [], [1896, 135, 1893, 1895, 73], [], [], [], [], [], [1755, 135, 1752, 1754, 51], [], [], [], [1621], [], [], [2223], [], [], [], [], [], [], [2223], [], [], [], [], [], [], [], [], [], [], []] = true := by decide +kernel
set_option maxRecDepth 100000 in
theorem ri_k_X10_ahead : ri_chk ri_hh0 ri_NW0 ri_CW0 ri_NC0 ri_CN0 ri_AO0 ri_cl0 ri_Ms0 ri_tyL0 ri_exn0 ri_XT0 ri_m_X10_ahead ri_m_X10_ahead.2.2.2.2.2 [[], [], [1220, 124, 1217, 1219, 36], [], [], [], [1546, 124, 1543, 1545, 43], [], [650], [523], [], [], [], [], [], [], [444], [], [], [414], [], []] = true := by decide +kernel
set_option maxRecDepth 100000 in
theorem ri_k_X10_peak : ri_chk ri_hh0 ri_NW0 ri_CW0 ri_NC0 ri_CN0 ri_AO0 ri_cl0 ri_Ms0 ri_tyL0 ri_exn0 ri_XT0 ri_m_X10_peak ri_m_X10_peak.2.2.2.2.2 [[], [], [1220, 124, 1217, 1219, 36], [], [], [], [], [1306, 124, 1304, 1305], [], [650], [], [647], [697, 126, 694, 695, 696], [], [], [], [], [], [], [], [], [650], [757, 126, 1332, 755, 756], [], [], [], [650], [540], [], [], [], [], [], [], [], []] = true := by decide +kernel
set_option maxRecDepth 100000 in
theorem ri_k_X11_noTicks : ri_chk ri_hh0 ri_NW0 ri_CW0 ri_NC0 ri_CN0 ri_AO0 ri_cl0 ri_Ms0 ri_tyL0 ri_exn0 ri_XT0 ri_m_X11_noTicks ri_m_X11_noTicks.2.2.2.2.2 [[], [], [1602], [], [], [], [2037, 135, 2034, 2036, 102], [], [1887, 135, 1884, 1886, 72], [], [], [], [], [], [1789, 135, 1787, 1788], [], [], [], [], [], [1887, 135, 1884, 1886, 72], [], [], [], [], []] = true := by decide +kernel
set_option maxRecDepth 100000 in
theorem ri_k_X10_hunts : ri_chk ri_hh0 ri_NW0 ri_CW0 ri_NC0 ri_CN0 ri_AO0 ri_cl0 ri_Ms0 ri_tyL0 ri_exn0 ri_XT0 ri_m_X10_hunts ri_m_X10_hunts.2.2.2.2.2 [[], [], [1220, 124, 1217, 1219, 36], [], [], [], [], [1306, 124, 1304, 1305], [], [650], [], [647], [697, 126, 694, 695, 696], [], [650], [523], [], [], [], [], [], [], [414], [], [], [440], [], [], [], [], [], [], [], [], [], [], [], [650], [757, 126, 1332, 755, 756], [], [], [414], [], [], [440], [], [], [], [], [], [], [], [], [], [], [], [], [], [], []] = true := by decide +kernel
set_option maxRecDepth 100000 in
theorem ri_k_X10_worst : ri_chk ri_hh0 ri_NW0 ri_CW0 ri_NC0 ri_CN0 ri_AO0 ri_cl0 ri_Ms0 ri_tyL0 ri_exn0 ri_XT0 ri_m_X10_worst ri_m_X10_worst.2.2.2.2.2 [[], [], [1546, 124, 1543, 1545, 43], [], [], [], [], [], [], [], [], [650], [528], [], [], [650], [523], [], [], [414], [], [], [650], [523], [], [], [440], [], [], [], [], [], [], [], [], [], [], [], [], [], []] = true := by decide +kernel
set_option maxRecDepth 100000 in
theorem ri_k_X11_loops : ri_chk ri_hh0 ri_NW0 ri_CW0 ri_NC0 ri_CN0 ri_AO0 ri_cl0 ri_Ms0 ri_tyL0 ri_exn0 ri_XT0 ri_m_X11_loops ri_m_X11_loops.2.2.2.2.2 [[], [1603], [], [], [], []] = true := by decide +kernel
set_option maxRecDepth 100000 in
theorem ri_k_X10_which : ri_chk ri_hh0 ri_NW0 ri_CW0 ri_NC0 ri_CN0 ri_AO0 ri_cl0 ri_Ms0 ri_tyL0 ri_exn0 ri_XT0 ri_m_X10_which ri_m_X10_which.2.2.2.2.2 [[], [], [], [], [], [], [], [], [], [], [], [], [], [], [], [647], [528], [], [], [647], [], [], [], [], [], [], [], [], [], [], [], [], [], []] = true := by decide +kernel
set_option maxRecDepth 100000 in
theorem ri_k_X10_event : ri_chk ri_hh0 ri_NW0 ri_CW0 ri_NC0 ri_CN0 ri_AO0 ri_cl0 ri_Ms0 ri_tyL0 ri_exn0 ri_XT0 ri_m_X10_event ri_m_X10_event.2.2.2.2.2 [[], [], [], [], [647], [536], [186], [], [], [], [], [], [], [], [], [], [], [], [], [], [], [], [647], [536], [], [], [], []] = true := by decide +kernel
set_option maxRecDepth 100000 in
theorem ri_k_X10_log : ri_chk ri_hh0 ri_NW0 ri_CW0 ri_NC0 ri_CN0 ri_AO0 ri_cl0 ri_Ms0 ri_tyL0 ri_exn0 ri_XT0 ri_m_X10_log ri_m_X10_log.2.2.2.2.2 [[], [], [], [], [], [], [], [], [], [], [], [], [], [647], [538], [186], [], [], [], [], [647], [538], [], [647], [538], [186], [], [], [], [], [], [], []] = true := by decide +kernel
set_option maxRecDepth 100000 in
theorem ri_k_X0_copyFrom : ri_chk ri_hh0 ri_NW0 ri_CW0 ri_NC0 ri_CN0 ri_AO0 ri_cl0 ri_Ms0 ri_tyL0 ri_exn0 ri_XT0 ri_m_X0_copyFrom ri_m_X0_copyFrom.2.2.2.2.2 [[], [], [524], [524], [], [], [529], [529], [], [], [531], [531], [], [], [], [], [524], [], [], [519], [], [], [], [519], [], [], [], [], [], [], [534], [], [534], [727, 127, 724, 725, 726], [], [537], [], [537], [727, 127, 724, 725, 726], []] = true := by decide +kernel
set_option maxRecDepth 100000 in
theorem ri_k_X7_init : ri_chk ri_hh0 ri_NW0 ri_CW0 ri_NC0 ri_CN0 ri_AO0 ri_cl0 ri_Ms0 ri_tyL0 ri_exn0 ri_XT0 ri_m_X7_init ri_m_X7_init.2.2.2.2.2 [[], [180, 159, 160], [], [], [183], [], [], [182], [], [], [], [], [194], [181], []] = true := by decide +kernel
set_option maxRecDepth 100000 in
theorem ri_k_X2_init : ri_chk ri_hh0 ri_NW0 ri_CW0 ri_NC0 ri_CN0 ri_AO0 ri_cl0 ri_Ms0 ri_tyL0 ri_exn0 ri_XT0 ri_m_X2_init ri_m_X2_init.2.2.2.2.2 [[], [199, 159, 160], [], [200], [], [204, 129, 203], [411], [], [256], [], [260, 130, 259], [417], [], [301], [], [305, 131, 304], [422], [], [369], [], [373, 132, 372], [427], [], [], [194], [469], []] = true := by decide +kernel
set_option maxRecDepth 100000 in
theorem ri_k_X4_read : ri_chk ri_hh0 ri_NW0 ri_CW0 ri_NC0 ri_CN0 ri_AO0 ri_cl0 ri_Ms0 ri_tyL0 ri_exn0 ri_XT0 ri_m_X4_read ri_m_X4_read.2.2.2.2.2 [[], [], [561], [564], [], [], [561], [], [], [565], [], [], [567], [], [940, 125, 937, 939, 14], [], [565], [], [564], [], [], [], [], [], [], [], [], [], [], [], [], [], [940, 125, 937, 939, 14], [], [], [], [], [], [565], [], [], [], [], [], [940, 125, 937, 939, 14], [], [567], [], [], [], [565], [], [564], [], [], [], [], [], [], [], [], [563], [], [565], [], [], [], [], [], [565], [], [], [], [], [], [565], [], [], [565], [], [], [], [567], []] = true := by decide +kernel
end
section
/-! ===== the program as data: it is right ===== -/
set_option maxRecDepth 100000 in
theorem ri_k_X11_blanks : ri_chk ri_hh0 ri_NW0 ri_CW0 ri_NC0 ri_CN0 ri_AO0 ri_cl0 ri_Ms0 ri_tyL0 ri_exn0 ri_XT0 ri_m_X11_blanks ri_m_X11_blanks.2.2.2.2.2 [[], [], [], [1732, 135, 1729, 1731, 46], [], [], [], [1610], [], [], [1610], [], [], [], [1610], [1612], []] = true := by decide +kernel
set_option maxRecDepth 100000 in
theorem ri_k_X11_isAt : ri_chk ri_hh0 ri_NW0 ri_CW0 ri_NC0 ri_CN0 ri_AO0 ri_cl0 ri_Ms0 ri_tyL0 ri_exn0 ri_XT0 ri_m_X11_isAt ri_m_X11_isAt.2.2.2.2.2 [[], [1610], [], [1611], [], [], [1608], [], [1610], [], [], [], [], [1608], [], [1610], [], [], [], [], [], [], []] = true := by decide +kernel
set_option maxRecDepth 100000 in
theorem ri_k_X10_knownLoop : ri_chk ri_hh0 ri_NW0 ri_CW0 ri_NC0 ri_CN0 ri_AO0 ri_cl0 ri_Ms0 ri_tyL0 ri_exn0 ri_XT0 ri_m_X10_knownLoop ri_m_X10_knownLoop.2.2.2.2.2 [[], [], [], [], [647], [528], [], [], [], [], [], [], [647], [523], [], [], []] = true := by decide +kernel
set_option maxRecDepth 100000 in
theorem ri_k_X10_checkBetween : ri_chk ri_hh0 ri_NW0 ri_CW0 ri_NC0 ri_CN0 ri_AO0 ri_cl0 ri_Ms0 ri_tyL0 ri_exn0 ri_XT0 ri_m_X10_checkBetween ri_m_X10_checkBetween.2.2.2.2.2 [[], [], [], [], [], [], [], [], [], [], []] = true := by decide +kernel
set_option maxRecDepth 100000 in
theorem ri_k_X0_happen : ri_chk ri_hh0 ri_NW0 ri_CW0 ri_NC0 ri_CN0 ri_AO0 ri_cl0 ri_Ms0 ri_tyL0 ri_exn0 ri_XT0 ri_m_X0_happen ri_m_X0_happen.2.2.2.2.2 [[], [], [], [534], [184], [], [], [], [], [534], [], [], [], [], [531], [], [], [], [], [], [534], [], [], [], [], [534], [], [], [], [], [534], [], [], [], [], [], [534], [], [], [], [], []] = true := by decide +kernel
set_option maxRecDepth 100000 in
theorem ri_k_X0_advance : ri_chk ri_hh0 ri_NW0 ri_CW0 ri_NC0 ri_CN0 ri_AO0 ri_cl0 ri_Ms0 ri_tyL0 ri_exn0 ri_XT0 ri_m_X0_advance ri_m_X0_advance.2.2.2.2.2 [[], [], [], [], [], [], [524], [], [], [], [519], [], [], [], [], [], [541], [], [], [], [], [], [], [], [], [], [], [], [], [], [], [], [], [], [], [], [], [], [], [], [], [], [], [], [], [], [], [], [], [], [524], [], [], [], [], [], [], [519], [], [], [421], [], [], [519], [], [], [416], [], [], [], [], [], [280], [], [], [], [519], [], [], [416], [], [], [], [], [], [], [531], [], [], [531], [], []] = true := by decide +kernel
set_option maxRecDepth 100000 in
theorem ri_k_J6_bitCount_0f7a4 : ri_chk ri_hh0 ri_NW0 ri_CW0 ri_NC0 ri_CN0 ri_AO0 ri_cl0 ri_Ms0 ri_tyL0 ri_exn0 ri_XT0 ri_m_J6_bitCount_0f7a4 ri_m_J6_bitCount_0f7a4.2.2.2.2.2 [[], [], [], [], [1336], [], [], [], [], [1337], [], [], [], [], [1337], [], [], [], [], [], [], [], [], [1338], [], [], [], [], [], [], [], [], [], [], [], [], [], [], [], [], [], []] = true := by decide +kernel
set_option maxRecDepth 100000 in
theorem ri_k_X11_allHappen : ri_chk ri_hh0 ri_NW0 ri_CW0 ri_NC0 ri_CN0 ri_AO0 ri_cl0 ri_Ms0 ri_tyL0 ri_exn0 ri_XT0 ri_m_X11_allHappen ri_m_X11_allHappen.2.2.2.2.2 [[], [], [], [1603], [], [], [], [], [], [], [], [], [], [], [], [], [], [], [], [], [1603], [], [], [], [], [], [1603], [], [], [], [], [], [], [1603], [], [], [], [], [], [], [1603], [], [], [], [], [], [], [1603], [], [], [], [], [], [], [], [], [], [], [], [], [], [1603], [], [], [], [], [], [], [], [], [1603], [], [], [], [], [], [], [], [], [], [], [], [1603], [], [], [], [], []] = true := by decide +kernel
set_option maxRecDepth 100000 in
theorem ri_k_X10_within : ri_chk ri_hh0 ri_NW0 ri_CW0 ri_NC0 ri_CN0 ri_AO0 ri_cl0 ri_Ms0 ri_tyL0 ri_exn0 ri_XT0 ri_m_X10_within ri_m_X10_within.2.2.2.2.2 [[], [], [], [], [], [], [], [], [], [], [], [], [], []] = true := by decide +kernel
set_option maxRecDepth 100000 in
theorem ri_k_X6_lengthOf : ri_chk ri_hh0 ri_NW0 ri_CW0 ri_NC0 ri_CN0 ri_AO0 ri_cl0 ri_Ms0 ri_tyL0 ri_exn0 ri_XT0 ri_m_X6_lengthOf ri_m_X6_lengthOf.2.2.2.2.2 [[], [], [], [], [], [], [], [745, 134, 742, 744, 2], [], [], [], [], [], [], [757, 126, 754, 755, 756], [], [], [], [], [905, 134, 902, 904, 12], [], [], [], [], [], [], [], [], [], [], [], [745, 134, 742, 744, 2], [], [], [], [], [], [], [], [], [], [], [], []] = true := by decide +kernel
set_option maxRecDepth 100000 in
theorem ri_k_X6_beginOf : ri_chk ri_hh0 ri_NW0 ri_CW0 ri_NC0 ri_CN0 ri_AO0 ri_cl0 ri_Ms0 ri_tyL0 ri_exn0 ri_XT0 ri_m_X6_beginOf ri_m_X6_beginOf.2.2.2.2.2 [[], [], [], [], [631], [], [], [757, 126, 754, 755, 756], [], [], [], [], [], [], [], [631], [], [], [], [], [], [], [745, 134, 742, 744, 2], [], [], [], [905, 134, 902, 904, 12], [], [], [], [], [757, 126, 754, 755, 756], [], [], [757, 126, 754, 755, 756], [], [], [], [], []] = true := by decide +kernel
set_option maxRecDepth 100000 in
theorem ri_k_X11_keepsTime : ri_chk ri_hh0 ri_NW0 ri_CW0 ri_NC0 ri_CN0 ri_AO0 ri_cl0 ri_Ms0 ri_tyL0 ri_exn0 ri_XT0 ri_m_X11_keepsTime ri_m_X11_keepsTime.2.2.2.2.2 [[], [], [], [], [], [], [], [], [], [], [1603], [], [], [], [], [], [], [], []] = true := by decide +kernel
set_option maxRecDepth 100000 in
theorem ri_k_X11_areAlike : ri_chk ri_hh0 ri_NW0 ri_CW0 ri_NC0 ri_CN0 ri_AO0 ri_cl0 ri_Ms0 ri_tyL0 ri_exn0 ri_XT0 ri_m_X11_areAlike ri_m_X11_areAlike.2.2.2.2.2 [[], [], [], [], [], [], [1755, 135, 1752, 1754, 51], [], [], [], [], [], [], [], [], [], [], [], [], [], [], [2066], [], [], [], [], [], [], [], [], [], [], [], [], [], [], [], [], [], [], [], [], [], [], [], [], [], [], [], [], [], [], [], [], [], [], [], [], [], [], []] = true := by decide +kernel
set_option maxRecDepth 100000 in
theorem ri_k_X8_begin : ri_chk ri_hh0 ri_NW0 ri_CW0 ri_NC0 ri_CN0 ri_AO0 ri_cl0 ri_Ms0 ri_tyL0 ri_exn0 ri_XT0 ri_m_X8_begin ri_m_X8_begin.2.2.2.2.2 [[], [], [], [], [525], [], [], [520], [], [], [], [], [594], [], [], [412], [227], [], [], [], [595], [], [], [412], [231], [], [], [], [596], [], [], [447], [], [], [], [597], [], [], [451], [], [], [], [598], [], [], [454], [], [], [], [599], [], [], [439], [], [], [], [600], [], [], [442], [], [], [], [601], [], [], [418], [276], [], [], [], [], [], [], [], [], [602], [], [], [], [], [412], [235], [], [], [], [], [], [], [], [], []] = true := by decide +kernel
set_option maxRecDepth 100000 in
theorem ri_k_X8_advance : ri_chk ri_hh0 ri_NW0 ri_CW0 ri_NC0 ri_CN0 ri_AO0 ri_cl0 ri_Ms0 ri_tyL0 ri_exn0 ri_XT0 ri_m_X8_advance ri_m_X8_advance.2.2.2.2.2 [[], [], [], [], [525], [], [], [], [], [], [], [], [], [], [], [], [525], [], [], [], [], [], [], [], [520], [], [], [412], [], [], [], [], [], [], [520], [], [], [418], [], [], [], [], [594], [], [], [1508], [], [], [], [], []] = true := by decide +kernel
set_option maxRecDepth 100000 in
theorem ri_k_X8_farthestFrom : ri_chk ri_hh0 ri_NW0 ri_CW0 ri_NC0 ri_CN0 ri_AO0 ri_cl0 ri_Ms0 ri_tyL0 ri_exn0 ri_XT0 ri_m_X8_farthestFrom ri_m_X8_farthestFrom.2.2.2.2.2 [[], [], [], [], [], [], [525], [], [], [594], [], [], [1508], [], [], [520], [], [], [412], [227], [], [1508], [], [], [], [], [], [], [], [], [], [], [], [], [], [], [], [], [], [], [], [], [], [], [], []] = true := by decide +kernel
set_option maxRecDepth 100000 in
theorem ri_k_X10_goAhead : ri_chk ri_hh0 ri_NW0 ri_CW0 ri_NC0 ri_CN0 ri_AO0 ri_cl0 ri_Ms0 ri_tyL0 ri_exn0 ri_XT0 ri_m_X10_goAhead ri_m_X10_goAhead.2.2.2.2.2 [[], [], [], [1306, 124, 1304, 1305], [], [650], [], [647], [697, 126, 694, 695, 696], [], [], [], [], [], [], [650], [757, 126, 1332, 755, 756], [], [], [], []] = true := by decide +kernel
set_option maxRecDepth 100000 in
theorem ri_k_X7_copyFrom : ri_chk ri_hh0 ri_NW0 ri_CW0 ri_NC0 ri_CN0 ri_AO0 ri_cl0 ri_Ms0 ri_tyL0 ri_exn0 ri_XT0 ri_m_X7_copyFrom ri_m_X7_copyFrom.2.2.2.2.2 [[], [181], [], [], [181], [], [], [], [183], [], [728, 708, 707, 136], [], [], [183], [183], []] = true := by decide +kernel
set_option maxRecDepth 100000 in
theorem ri_k_X3_init : ri_chk ri_hh0 ri_NW0 ri_CW0 ri_NC0 ri_CN0 ri_AO0 ri_cl0 ri_Ms0 ri_tyL0 ri_exn0 ri_XT0 ri_m_X3_init ri_m_X3_init.2.2.2.2.2 [[], [205, 159, 160], [], [], [194], [234], []] = true := by decide +kernel
set_option maxRecDepth 100000 in
theorem ri_k_X9_init : ri_chk ri_hh0 ri_NW0 ri_CW0 ri_NC0 ri_CN0 ri_AO0 ri_cl0 ri_Ms0 ri_tyL0 ri_exn0 ri_XT0 ri_m_X9_init ri_m_X9_init.2.2.2.2.2 [[], [261, 159, 160], [], [], [194], [285], []] = true := by decide +kernel
set_option maxRecDepth 100000 in
theorem ri_k_X1_init : ri_chk ri_hh0 ri_NW0 ri_CW0 ri_NC0 ri_CN0 ri_AO0 ri_cl0 ri_Ms0 ri_tyL0 ri_exn0 ri_XT0 ri_m_X1_init ri_m_X1_init.2.2.2.2.2 [[], [306, 159, 160], [], [], [194], [333], [], [], [194], [336], [], [], [194], [340], [], [], [194], [344], []] = true := by decide +kernel
set_option maxRecDepth 100000 in
theorem ri_k_X5_init : ri_chk ri_hh0 ri_NW0 ri_CW0 ri_NC0 ri_CN0 ri_AO0 ri_cl0 ri_Ms0 ri_tyL0 ri_exn0 ri_XT0 ri_m_X5_init ri_m_X5_init.2.2.2.2.2 [[], [374, 159, 160], []] = true := by decide +kernel
set_option maxRecDepth 100000 in
theorem ri_k_X4_skipBlanks : ri_chk ri_hh0 ri_NW0 ri_CW0 ri_NC0 ri_CN0 ri_AO0 ri_cl0 ri_Ms0 ri_tyL0 ri_exn0 ri_XT0 ri_m_X4_skipBlanks ri_m_X4_skipBlanks.2.2.2.2.2 [[], [565], [], [564], [], [], [563], [], [565], [], [], [], [], [], [565], [], [], [565], [], []] = true := by decide +kernel
set_option maxRecDepth 100000 in
theorem ri_k_X6_keep : ri_chk ri_hh0 ri_NW0 ri_CW0 ri_NC0 ri_CN0 ri_AO0 ri_cl0 ri_Ms0 ri_tyL0 ri_exn0 ri_XT0 ri_m_X6_keep ri_m_X6_keep.2.2.2.2.2 [[], [], [], [], [527], [], [], [], [], [], [], [], [], [], [], [], [], [], [], [], [635], [], [], [], [], [522], [], [], [], [], [], [], [], [], [], []] = true := by decide +kernel
set_option maxRecDepth 100000 in
theorem ri_k_X6_isKept : ri_chk ri_hh0 ri_NW0 ri_CW0 ri_NC0 ri_CN0 ri_AO0 ri_cl0 ri_Ms0 ri_tyL0 ri_exn0 ri_XT0 ri_m_X6_isKept ri_m_X6_isKept.2.2.2.2.2 [[], [], [], [], [527], [], [], [], [], [], [], [], [], [], [], [], [], [], [], [], [635], [], [], [], [], [], [522], [], [], [], [], [], [], [], [], [], [], [], [], [], []] = true := by decide +kernel
end
