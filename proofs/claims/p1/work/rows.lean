section
-- ===== PART A: goes FIRST, ahead of the names: the tables' words, and 'selects' of the private methods out of them =====
/-- a private method of a class that the tables say can be made, by its rows of tables_1 -/
def lw_okq (q : MethodName × Nat) : Prop := (q.1.cls ≠ "java/lang/invoke/MethodHandle" ∧ q.1.cls ≠ "java/lang/invoke/VarHandle") ∧ Cond.instantiable q.1.cls q.2 ∈ tables_1 ∧ Cond.privateMethod q.1 ∈ tables_1 ∧ Cond.instanceMethod q.1 ∈ tables_1
theorem lw_p0 : lw_okq (⟨"StillLoops", "startAt", "(II)V"⟩, 8) := ⟨⟨by decide +kernel, by decide +kernel⟩, List.mem_of_getElem? (i := 31) (by decide +kernel), List.mem_of_getElem? (i := 568) (by decide +kernel), List.mem_of_getElem? (i := 569) (by decide +kernel)⟩
theorem lw_p1 : lw_okq (⟨"StillLoops$Rounds", "lengthOf", "(LStillLoops$Bench;)I"⟩, 4) := ⟨⟨by decide +kernel, by decide +kernel⟩, List.mem_of_getElem? (i := 501) (by decide +kernel), List.mem_of_getElem? (i := 616) (by decide +kernel), List.mem_of_getElem? (i := 617) (by decide +kernel)⟩
theorem lw_p2 : lw_okq (⟨"StillLoops$Rounds", "keep", "(LStillLoops$Bench;I)V"⟩, 4) := ⟨⟨by decide +kernel, by decide +kernel⟩, List.mem_of_getElem? (i := 501) (by decide +kernel), List.mem_of_getElem? (i := 620) (by decide +kernel), List.mem_of_getElem? (i := 621) (by decide +kernel)⟩
theorem lw_p3 : lw_okq (⟨"StillLoops$Loop", "tripsAsNumber", "()I"⟩, 19) := ⟨⟨by decide +kernel, by decide +kernel⟩, List.mem_of_getElem? (i := 72) (by decide +kernel), List.mem_of_getElem? (i := 628) (by decide +kernel), List.mem_of_getElem? (i := 629) (by decide +kernel)⟩
theorem lw_p4 : lw_okq (⟨"StillLoops$Bench", "causeOf", "(LStillLoops$Loop;)I"⟩, 8) := ⟨⟨by decide +kernel, by decide +kernel⟩, List.mem_of_getElem? (i := 45) (by decide +kernel), List.mem_of_getElem? (i := 636) (by decide +kernel), List.mem_of_getElem? (i := 637) (by decide +kernel)⟩
theorem lw_p5 : lw_okq (⟨"StillLoops$Bench", "shutDown", "(II)V"⟩, 8) := ⟨⟨by decide +kernel, by decide +kernel⟩, List.mem_of_getElem? (i := 45) (by decide +kernel), List.mem_of_getElem? (i := 640) (by decide +kernel), List.mem_of_getElem? (i := 641) (by decide +kernel)⟩
theorem lw_p6 : lw_okq (⟨"StillLoops$Bench", "measure", "(I)V"⟩, 8) := ⟨⟨by decide +kernel, by decide +kernel⟩, List.mem_of_getElem? (i := 45) (by decide +kernel), List.mem_of_getElem? (i := 656) (by decide +kernel), List.mem_of_getElem? (i := 657) (by decide +kernel)⟩
theorem lw_p7 : lw_okq (⟨"StillLoops$Bench", "takeSp", "(LStillLoops$Loop;)V"⟩, 8) := ⟨⟨by decide +kernel, by decide +kernel⟩, List.mem_of_getElem? (i := 45) (by decide +kernel), List.mem_of_getElem? (i := 660) (by decide +kernel), List.mem_of_getElem? (i := 661) (by decide +kernel)⟩
theorem lw_p8 : lw_okq (⟨"StillLoops$Bench", "drive", "(I)V"⟩, 8) := ⟨⟨by decide +kernel, by decide +kernel⟩, List.mem_of_getElem? (i := 45) (by decide +kernel), List.mem_of_getElem? (i := 692) (by decide +kernel), List.mem_of_getElem? (i := 693) (by decide +kernel)⟩
theorem lw_p9 : lw_okq (⟨"StillLoops$Bench", "leads", "(I)Z"⟩, 8) := ⟨⟨by decide +kernel, by decide +kernel⟩, List.mem_of_getElem? (i := 45) (by decide +kernel), List.mem_of_getElem? (i := 700) (by decide +kernel), List.mem_of_getElem? (i := 701) (by decide +kernel)⟩
theorem lw_p10 : lw_okq (⟨"StillLoops$Bench", "rule", "(I)V"⟩, 8) := ⟨⟨by decide +kernel, by decide +kernel⟩, List.mem_of_getElem? (i := 45) (by decide +kernel), List.mem_of_getElem? (i := 708) (by decide +kernel), List.mem_of_getElem? (i := 709) (by decide +kernel)⟩
theorem lw_p11 : lw_okq (⟨"StillLoops$Bench", "heldAt", "(II)Z"⟩, 8) := ⟨⟨by decide +kernel, by decide +kernel⟩, List.mem_of_getElem? (i := 45) (by decide +kernel), List.mem_of_getElem? (i := 723) (by decide +kernel), List.mem_of_getElem? (i := 724) (by decide +kernel)⟩
theorem lw_p12 : lw_okq (⟨"StillLoops$Rounds", "isKept", "(LStillLoops$Bench;I)Z"⟩, 4) := ⟨⟨by decide +kernel, by decide +kernel⟩, List.mem_of_getElem? (i := 501) (by decide +kernel), List.mem_of_getElem? (i := 780) (by decide +kernel), List.mem_of_getElem? (i := 781) (by decide +kernel)⟩
theorem lw_p13 : lw_okq (⟨"StillLoops$Rounds", "beginOf", "(LStillLoops$Bench;LStillLoops$Bench;)I"⟩, 4) := ⟨⟨by decide +kernel, by decide +kernel⟩, List.mem_of_getElem? (i := 501) (by decide +kernel), List.mem_of_getElem? (i := 786) (by decide +kernel), List.mem_of_getElem? (i := 787) (by decide +kernel)⟩
theorem lw_p14 : lw_okq (⟨"StillLoops$Reader", "skipBlanks", "()V"⟩, 7) := ⟨⟨by decide +kernel, by decide +kernel⟩, List.mem_of_getElem? (i := 39) (by decide +kernel), List.mem_of_getElem? (i := 815) (by decide +kernel), List.mem_of_getElem? (i := 816) (by decide +kernel)⟩
theorem lw_p15 : lw_okq (⟨"StillLoops$Reader", "refuse", "(I)V"⟩, 7) := ⟨⟨by decide +kernel, by decide +kernel⟩, List.mem_of_getElem? (i := 39) (by decide +kernel), List.mem_of_getElem? (i := 819) (by decide +kernel), List.mem_of_getElem? (i := 820) (by decide +kernel)⟩
def lw_privs_1 : List (MethodName × Nat) := [(⟨"StillLoops", "startAt", "(II)V"⟩, 8), (⟨"StillLoops$Rounds", "lengthOf", "(LStillLoops$Bench;)I"⟩, 4), (⟨"StillLoops$Rounds", "keep", "(LStillLoops$Bench;I)V"⟩, 4), (⟨"StillLoops$Loop", "tripsAsNumber", "()I"⟩, 19), (⟨"StillLoops$Bench", "causeOf", "(LStillLoops$Loop;)I"⟩, 8), (⟨"StillLoops$Bench", "shutDown", "(II)V"⟩, 8), (⟨"StillLoops$Bench", "measure", "(I)V"⟩, 8), (⟨"StillLoops$Bench", "takeSp", "(LStillLoops$Loop;)V"⟩, 8), (⟨"StillLoops$Bench", "drive", "(I)V"⟩, 8), (⟨"StillLoops$Bench", "leads", "(I)Z"⟩, 8), (⟨"StillLoops$Bench", "rule", "(I)V"⟩, 8), (⟨"StillLoops$Bench", "heldAt", "(II)Z"⟩, 8), (⟨"StillLoops$Rounds", "isKept", "(LStillLoops$Bench;I)Z"⟩, 4), (⟨"StillLoops$Rounds", "beginOf", "(LStillLoops$Bench;LStillLoops$Bench;)I"⟩, 4), (⟨"StillLoops$Reader", "skipBlanks", "()V"⟩, 7), (⟨"StillLoops$Reader", "refuse", "(I)V"⟩, 7)]
theorem lw_r1 : ∀ q ∈ lw_privs_1, lw_okq q := List.forall_mem_cons.mpr ⟨lw_p0, List.forall_mem_cons.mpr ⟨lw_p1, List.forall_mem_cons.mpr ⟨lw_p2, List.forall_mem_cons.mpr ⟨lw_p3, List.forall_mem_cons.mpr ⟨lw_p4, List.forall_mem_cons.mpr ⟨lw_p5, List.forall_mem_cons.mpr ⟨lw_p6, List.forall_mem_cons.mpr ⟨lw_p7, List.forall_mem_cons.mpr ⟨lw_p8, List.forall_mem_cons.mpr ⟨lw_p9, List.forall_mem_cons.mpr ⟨lw_p10, List.forall_mem_cons.mpr ⟨lw_p11, List.forall_mem_cons.mpr ⟨lw_p12, List.forall_mem_cons.mpr ⟨lw_p13, List.forall_mem_cons.mpr ⟨lw_p14, List.forall_mem_cons.mpr ⟨lw_p15, fun _ h => absurd h List.not_mem_nil⟩⟩⟩⟩⟩⟩⟩⟩⟩⟩⟩⟩⟩⟩⟩⟩
theorem lw_p16 : lw_okq (⟨"StillLoops$Reader", "readLine", "()V"⟩, 7) := ⟨⟨by decide +kernel, by decide +kernel⟩, List.mem_of_getElem? (i := 39) (by decide +kernel), List.mem_of_getElem? (i := 823) (by decide +kernel), List.mem_of_getElem? (i := 824) (by decide +kernel)⟩
theorem lw_p17 : lw_okq (⟨"StillLoops$Reader", "takes", "(Ljava/lang/String;)Z"⟩, 7) := ⟨⟨by decide +kernel, by decide +kernel⟩, List.mem_of_getElem? (i := 39) (by decide +kernel), List.mem_of_getElem? (i := 828) (by decide +kernel), List.mem_of_getElem? (i := 829) (by decide +kernel)⟩
theorem lw_p18 : lw_okq (⟨"StillLoops$Reader", "isLetter", "(I)Z"⟩, 7) := ⟨⟨by decide +kernel, by decide +kernel⟩, List.mem_of_getElem? (i := 39) (by decide +kernel), List.mem_of_getElem? (i := 842) (by decide +kernel), List.mem_of_getElem? (i := 843) (by decide +kernel)⟩
theorem lw_p19 : lw_okq (⟨"StillLoops$Reader", "readLoop", "()V"⟩, 7) := ⟨⟨by decide +kernel, by decide +kernel⟩, List.mem_of_getElem? (i := 39) (by decide +kernel), List.mem_of_getElem? (i := 884) (by decide +kernel), List.mem_of_getElem? (i := 885) (by decide +kernel)⟩
theorem lw_p20 : lw_okq (⟨"StillLoops$Reader", "readKind", "()I"⟩, 7) := ⟨⟨by decide +kernel, by decide +kernel⟩, List.mem_of_getElem? (i := 39) (by decide +kernel), List.mem_of_getElem? (i := 908) (by decide +kernel), List.mem_of_getElem? (i := 909) (by decide +kernel)⟩
theorem lw_p21 : lw_okq (⟨"StillLoops$Reader", "need", "(Ljava/lang/String;)V"⟩, 7) := ⟨⟨by decide +kernel, by decide +kernel⟩, List.mem_of_getElem? (i := 39) (by decide +kernel), List.mem_of_getElem? (i := 915) (by decide +kernel), List.mem_of_getElem? (i := 916) (by decide +kernel)⟩
theorem lw_p22 : lw_okq (⟨"StillLoops$Reader", "numberBehind", "(Ljava/lang/String;I)I"⟩, 7) := ⟨⟨by decide +kernel, by decide +kernel⟩, List.mem_of_getElem? (i := 39) (by decide +kernel), List.mem_of_getElem? (i := 920) (by decide +kernel), List.mem_of_getElem? (i := 921) (by decide +kernel)⟩
theorem lw_p23 : lw_okq (⟨"StillLoops$Reader", "number", "(II)I"⟩, 7) := ⟨⟨by decide +kernel, by decide +kernel⟩, List.mem_of_getElem? (i := 39) (by decide +kernel), List.mem_of_getElem? (i := 924) (by decide +kernel), List.mem_of_getElem? (i := 925) (by decide +kernel)⟩
theorem lw_p24 : lw_okq (⟨"StillLoops$Reader", "digits", "()I"⟩, 7) := ⟨⟨by decide +kernel, by decide +kernel⟩, List.mem_of_getElem? (i := 39) (by decide +kernel), List.mem_of_getElem? (i := 928) (by decide +kernel), List.mem_of_getElem? (i := 929) (by decide +kernel)⟩
theorem lw_p25 : lw_okq (⟨"StillLoops$Reader", "isDigit", "(I)Z"⟩, 7) := ⟨⟨by decide +kernel, by decide +kernel⟩, List.mem_of_getElem? (i := 39) (by decide +kernel), List.mem_of_getElem? (i := 932) (by decide +kernel), List.mem_of_getElem? (i := 933) (by decide +kernel)⟩
theorem lw_p26 : lw_okq (⟨"StillLoops$Reader", "checked", "(III)I"⟩, 7) := ⟨⟨by decide +kernel, by decide +kernel⟩, List.mem_of_getElem? (i := 39) (by decide +kernel), List.mem_of_getElem? (i := 936) (by decide +kernel), List.mem_of_getElem? (i := 937) (by decide +kernel)⟩
theorem lw_p27 : lw_okq (⟨"StillLoops$Reader", "signed", "(II)I"⟩, 7) := ⟨⟨by decide +kernel, by decide +kernel⟩, List.mem_of_getElem? (i := 39) (by decide +kernel), List.mem_of_getElem? (i := 942) (by decide +kernel), List.mem_of_getElem? (i := 943) (by decide +kernel)⟩
theorem lw_p28 : lw_okq (⟨"StillLoops$Reader", "readLaw", "()V"⟩, 7) := ⟨⟨by decide +kernel, by decide +kernel⟩, List.mem_of_getElem? (i := 39) (by decide +kernel), List.mem_of_getElem? (i := 955) (by decide +kernel), List.mem_of_getElem? (i := 956) (by decide +kernel)⟩
theorem lw_p29 : lw_okq (⟨"StillLoops$Reader", "readKnownLoop", "()LStillLoops$Loop;"⟩, 7) := ⟨⟨by decide +kernel, by decide +kernel⟩, List.mem_of_getElem? (i := 39) (by decide +kernel), List.mem_of_getElem? (i := 959) (by decide +kernel), List.mem_of_getElem? (i := 960) (by decide +kernel)⟩
theorem lw_p30 : lw_okq (⟨"StillLoops$Reader", "readGains", "()V"⟩, 7) := ⟨⟨by decide +kernel, by decide +kernel⟩, List.mem_of_getElem? (i := 39) (by decide +kernel), List.mem_of_getElem? (i := 970) (by decide +kernel), List.mem_of_getElem? (i := 971) (by decide +kernel)⟩
theorem lw_p31 : lw_okq (⟨"StillLoops$Reader", "readCurve", "()V"⟩, 7) := ⟨⟨by decide +kernel, by decide +kernel⟩, List.mem_of_getElem? (i := 39) (by decide +kernel), List.mem_of_getElem? (i := 980) (by decide +kernel), List.mem_of_getElem? (i := 981) (by decide +kernel)⟩
def lw_privs_2 : List (MethodName × Nat) := [(⟨"StillLoops$Reader", "readLine", "()V"⟩, 7), (⟨"StillLoops$Reader", "takes", "(Ljava/lang/String;)Z"⟩, 7), (⟨"StillLoops$Reader", "isLetter", "(I)Z"⟩, 7), (⟨"StillLoops$Reader", "readLoop", "()V"⟩, 7), (⟨"StillLoops$Reader", "readKind", "()I"⟩, 7), (⟨"StillLoops$Reader", "need", "(Ljava/lang/String;)V"⟩, 7), (⟨"StillLoops$Reader", "numberBehind", "(Ljava/lang/String;I)I"⟩, 7), (⟨"StillLoops$Reader", "number", "(II)I"⟩, 7), (⟨"StillLoops$Reader", "digits", "()I"⟩, 7), (⟨"StillLoops$Reader", "isDigit", "(I)Z"⟩, 7), (⟨"StillLoops$Reader", "checked", "(III)I"⟩, 7), (⟨"StillLoops$Reader", "signed", "(II)I"⟩, 7), (⟨"StillLoops$Reader", "readLaw", "()V"⟩, 7), (⟨"StillLoops$Reader", "readKnownLoop", "()LStillLoops$Loop;"⟩, 7), (⟨"StillLoops$Reader", "readGains", "()V"⟩, 7), (⟨"StillLoops$Reader", "readCurve", "()V"⟩, 7)]
theorem lw_r2 : ∀ q ∈ lw_privs_2, lw_okq q := List.forall_mem_cons.mpr ⟨lw_p16, List.forall_mem_cons.mpr ⟨lw_p17, List.forall_mem_cons.mpr ⟨lw_p18, List.forall_mem_cons.mpr ⟨lw_p19, List.forall_mem_cons.mpr ⟨lw_p20, List.forall_mem_cons.mpr ⟨lw_p21, List.forall_mem_cons.mpr ⟨lw_p22, List.forall_mem_cons.mpr ⟨lw_p23, List.forall_mem_cons.mpr ⟨lw_p24, List.forall_mem_cons.mpr ⟨lw_p25, List.forall_mem_cons.mpr ⟨lw_p26, List.forall_mem_cons.mpr ⟨lw_p27, List.forall_mem_cons.mpr ⟨lw_p28, List.forall_mem_cons.mpr ⟨lw_p29, List.forall_mem_cons.mpr ⟨lw_p30, List.forall_mem_cons.mpr ⟨lw_p31, fun _ h => absurd h List.not_mem_nil⟩⟩⟩⟩⟩⟩⟩⟩⟩⟩⟩⟩⟩⟩⟩⟩
theorem lw_p32 : lw_okq (⟨"StillLoops$Reader", "readEvent", "()V"⟩, 7) := ⟨⟨by decide +kernel, by decide +kernel⟩, List.mem_of_getElem? (i := 39) (by decide +kernel), List.mem_of_getElem? (i := 985) (by decide +kernel), List.mem_of_getElem? (i := 986) (by decide +kernel)⟩
theorem lw_p33 : lw_okq (⟨"StillLoops$Reader", "readWhat", "()I"⟩, 7) := ⟨⟨by decide +kernel, by decide +kernel⟩, List.mem_of_getElem? (i := 39) (by decide +kernel), List.mem_of_getElem? (i := 989) (by decide +kernel), List.mem_of_getElem? (i := 990) (by decide +kernel)⟩
theorem lw_p34 : lw_okq (⟨"StillLoops$Reader", "readMode", "(LStillLoops$Loop;)I"⟩, 7) := ⟨⟨by decide +kernel, by decide +kernel⟩, List.mem_of_getElem? (i := 39) (by decide +kernel), List.mem_of_getElem? (i := 998) (by decide +kernel), List.mem_of_getElem? (i := 999) (by decide +kernel)⟩
theorem lw_p35 : lw_okq (⟨"java/lang/Throwable", "fillInStackTrace", "(I)Ljava/lang/Throwable;"⟩, 6) := ⟨⟨by decide +kernel, by decide +kernel⟩, List.mem_of_getElem? (i := 1046) (by decide +kernel), List.mem_of_getElem? (i := 1044) (by decide +kernel), List.mem_of_getElem? (i := 1045) (by decide +kernel)⟩
theorem lw_p36 : lw_okq (⟨"StillLoops", "knownLoop", "(I)LStillLoops$Loop;"⟩, 8) := ⟨⟨by decide +kernel, by decide +kernel⟩, List.mem_of_getElem? (i := 31) (by decide +kernel), List.mem_of_getElem? (i := 1095) (by decide +kernel), List.mem_of_getElem? (i := 1096) (by decide +kernel)⟩
theorem lw_p37 : lw_okq (⟨"StillLoops$Bench", "carryOut", "(III)V"⟩, 8) := ⟨⟨by decide +kernel, by decide +kernel⟩, List.mem_of_getElem? (i := 45) (by decide +kernel), List.mem_of_getElem? (i := 1201) (by decide +kernel), List.mem_of_getElem? (i := 1202) (by decide +kernel)⟩
theorem lw_p38 : lw_okq (⟨"StillLoops$Rounds", "wasFound", "(LStillLoops$Bench;)Z"⟩, 4) := ⟨⟨by decide +kernel, by decide +kernel⟩, List.mem_of_getElem? (i := 501) (by decide +kernel), List.mem_of_getElem? (i := 1349) (by decide +kernel), List.mem_of_getElem? (i := 1350) (by decide +kernel)⟩
theorem lw_p39 : lw_okq (⟨"StillLoops", "stepAnswer", "(III)I"⟩, 8) := ⟨⟨by decide +kernel, by decide +kernel⟩, List.mem_of_getElem? (i := 31) (by decide +kernel), List.mem_of_getElem? (i := 1360) (by decide +kernel), List.mem_of_getElem? (i := 1361) (by decide +kernel)⟩
theorem lw_p40 : lw_okq (⟨"StillLoops$Twin", "act", "(LStillLoops$Bench;I)V"⟩, 9) := ⟨⟨by decide +kernel, by decide +kernel⟩, List.mem_of_getElem? (i := 464) (by decide +kernel), List.mem_of_getElem? (i := 1382) (by decide +kernel), List.mem_of_getElem? (i := 1383) (by decide +kernel)⟩
theorem lw_p41 : lw_okq (⟨"StillLoops$Twin", "flowOf", "(LStillLoops$Valve;I)D"⟩, 9) := ⟨⟨by decide +kernel, by decide +kernel⟩, List.mem_of_getElem? (i := 464) (by decide +kernel), List.mem_of_getElem? (i := 1395) (by decide +kernel), List.mem_of_getElem? (i := 1396) (by decide +kernel)⟩
theorem lw_p42 : lw_okq (⟨"StillLoops$Twin", "take", "(LStillLoops$Plant;ID)V"⟩, 9) := ⟨⟨by decide +kernel, by decide +kernel⟩, List.mem_of_getElem? (i := 464) (by decide +kernel), List.mem_of_getElem? (i := 1401) (by decide +kernel), List.mem_of_getElem? (i := 1402) (by decide +kernel)⟩
theorem lw_p43 : lw_okq (⟨"StillLoops", "goAhead", "(I)V"⟩, 8) := ⟨⟨by decide +kernel, by decide +kernel⟩, List.mem_of_getElem? (i := 31) (by decide +kernel), List.mem_of_getElem? (i := 1421) (by decide +kernel), List.mem_of_getElem? (i := 1422) (by decide +kernel)⟩
theorem lw_p44 : lw_okq (⟨"StillLoopsModel", "readBench", "()Z"⟩, 30) := ⟨⟨by decide +kernel, by decide +kernel⟩, List.mem_of_getElem? (i := 1473) (by decide +kernel), List.mem_of_getElem? (i := 1599) (by decide +kernel), List.mem_of_getElem? (i := 1600) (by decide +kernel)⟩
theorem lw_p45 : lw_okq (⟨"StillLoopsModel", "blanks", "()V"⟩, 30) := ⟨⟨by decide +kernel, by decide +kernel⟩, List.mem_of_getElem? (i := 1473) (by decide +kernel), List.mem_of_getElem? (i := 1603) (by decide +kernel), List.mem_of_getElem? (i := 1604) (by decide +kernel)⟩
theorem lw_p46 : lw_okq (⟨"StillLoopsModel", "isAt", "(II)Z"⟩, 30) := ⟨⟨by decide +kernel, by decide +kernel⟩, List.mem_of_getElem? (i := 1473) (by decide +kernel), List.mem_of_getElem? (i := 1607) (by decide +kernel), List.mem_of_getElem? (i := 1608) (by decide +kernel)⟩
theorem lw_p47 : lw_okq (⟨"StillLoopsModel", "letters", "()V"⟩, 30) := ⟨⟨by decide +kernel, by decide +kernel⟩, List.mem_of_getElem? (i := 1473) (by decide +kernel), List.mem_of_getElem? (i := 1611) (by decide +kernel), List.mem_of_getElem? (i := 1612) (by decide +kernel)⟩
def lw_privs_3 : List (MethodName × Nat) := [(⟨"StillLoops$Reader", "readEvent", "()V"⟩, 7), (⟨"StillLoops$Reader", "readWhat", "()I"⟩, 7), (⟨"StillLoops$Reader", "readMode", "(LStillLoops$Loop;)I"⟩, 7), (⟨"java/lang/Throwable", "fillInStackTrace", "(I)Ljava/lang/Throwable;"⟩, 6), (⟨"StillLoops", "knownLoop", "(I)LStillLoops$Loop;"⟩, 8), (⟨"StillLoops$Bench", "carryOut", "(III)V"⟩, 8), (⟨"StillLoops$Rounds", "wasFound", "(LStillLoops$Bench;)Z"⟩, 4), (⟨"StillLoops", "stepAnswer", "(III)I"⟩, 8), (⟨"StillLoops$Twin", "act", "(LStillLoops$Bench;I)V"⟩, 9), (⟨"StillLoops$Twin", "flowOf", "(LStillLoops$Valve;I)D"⟩, 9), (⟨"StillLoops$Twin", "take", "(LStillLoops$Plant;ID)V"⟩, 9), (⟨"StillLoops", "goAhead", "(I)V"⟩, 8), (⟨"StillLoopsModel", "readBench", "()Z"⟩, 30), (⟨"StillLoopsModel", "blanks", "()V"⟩, 30), (⟨"StillLoopsModel", "isAt", "(II)Z"⟩, 30), (⟨"StillLoopsModel", "letters", "()V"⟩, 30)]
theorem lw_r3 : ∀ q ∈ lw_privs_3, lw_okq q := List.forall_mem_cons.mpr ⟨lw_p32, List.forall_mem_cons.mpr ⟨lw_p33, List.forall_mem_cons.mpr ⟨lw_p34, List.forall_mem_cons.mpr ⟨lw_p35, List.forall_mem_cons.mpr ⟨lw_p36, List.forall_mem_cons.mpr ⟨lw_p37, List.forall_mem_cons.mpr ⟨lw_p38, List.forall_mem_cons.mpr ⟨lw_p39, List.forall_mem_cons.mpr ⟨lw_p40, List.forall_mem_cons.mpr ⟨lw_p41, List.forall_mem_cons.mpr ⟨lw_p42, List.forall_mem_cons.mpr ⟨lw_p43, List.forall_mem_cons.mpr ⟨lw_p44, List.forall_mem_cons.mpr ⟨lw_p45, List.forall_mem_cons.mpr ⟨lw_p46, List.forall_mem_cons.mpr ⟨lw_p47, fun _ h => absurd h List.not_mem_nil⟩⟩⟩⟩⟩⟩⟩⟩⟩⟩⟩⟩⟩⟩⟩⟩
theorem lw_p48 : lw_okq (⟨"StillLoopsModel", "readLine", "()Z"⟩, 30) := ⟨⟨by decide +kernel, by decide +kernel⟩, List.mem_of_getElem? (i := 1473) (by decide +kernel), List.mem_of_getElem? (i := 1615) (by decide +kernel), List.mem_of_getElem? (i := 1616) (by decide +kernel)⟩
theorem lw_p49 : lw_okq (⟨"StillLoopsModel", "isWord", "(Ljava/lang/String;)Z"⟩, 30) := ⟨⟨by decide +kernel, by decide +kernel⟩, List.mem_of_getElem? (i := 1473) (by decide +kernel), List.mem_of_getElem? (i := 1620) (by decide +kernel), List.mem_of_getElem? (i := 1621) (by decide +kernel)⟩
theorem lw_p50 : lw_okq (⟨"StillLoopsModel", "readLoop", "()Z"⟩, 30) := ⟨⟨by decide +kernel, by decide +kernel⟩, List.mem_of_getElem? (i := 1473) (by decide +kernel), List.mem_of_getElem? (i := 1626) (by decide +kernel), List.mem_of_getElem? (i := 1627) (by decide +kernel)⟩
theorem lw_p51 : lw_okq (⟨"StillLoopsModel", "loops", "()I"⟩, 30) := ⟨⟨by decide +kernel, by decide +kernel⟩, List.mem_of_getElem? (i := 1473) (by decide +kernel), List.mem_of_getElem? (i := 1630) (by decide +kernel), List.mem_of_getElem? (i := 1631) (by decide +kernel)⟩
theorem lw_p52 : lw_okq (⟨"StillLoopsModel", "readKind", "()Z"⟩, 30) := ⟨⟨by decide +kernel, by decide +kernel⟩, List.mem_of_getElem? (i := 1473) (by decide +kernel), List.mem_of_getElem? (i := 1634) (by decide +kernel), List.mem_of_getElem? (i := 1635) (by decide +kernel)⟩
theorem lw_p53 : lw_okq (⟨"StillLoopsModel", "lays", "(IIJ)V"⟩, 30) := ⟨⟨by decide +kernel, by decide +kernel⟩, List.mem_of_getElem? (i := 1473) (by decide +kernel), List.mem_of_getElem? (i := 1641) (by decide +kernel), List.mem_of_getElem? (i := 1642) (by decide +kernel)⟩
theorem lw_p54 : lw_okq (⟨"StillLoopsModel", "behind", "(Ljava/lang/String;II)Z"⟩, 30) := ⟨⟨by decide +kernel, by decide +kernel⟩, List.mem_of_getElem? (i := 1473) (by decide +kernel), List.mem_of_getElem? (i := 1649) (by decide +kernel), List.mem_of_getElem? (i := 1650) (by decide +kernel)⟩
theorem lw_p55 : lw_okq (⟨"StillLoopsModel", "must", "(Ljava/lang/String;)Z"⟩, 30) := ⟨⟨by decide +kernel, by decide +kernel⟩, List.mem_of_getElem? (i := 1473) (by decide +kernel), List.mem_of_getElem? (i := 1653) (by decide +kernel), List.mem_of_getElem? (i := 1654) (by decide +kernel)⟩
theorem lw_p56 : lw_okq (⟨"StillLoopsModel", "number", "(II)Z"⟩, 30) := ⟨⟨by decide +kernel, by decide +kernel⟩, List.mem_of_getElem? (i := 1473) (by decide +kernel), List.mem_of_getElem? (i := 1657) (by decide +kernel), List.mem_of_getElem? (i := 1658) (by decide +kernel)⟩
theorem lw_p57 : lw_okq (⟨"StillLoopsModel", "figures", "(III)Z"⟩, 30) := ⟨⟨by decide +kernel, by decide +kernel⟩, List.mem_of_getElem? (i := 1473) (by decide +kernel), List.mem_of_getElem? (i := 1661) (by decide +kernel), List.mem_of_getElem? (i := 1662) (by decide +kernel)⟩
theorem lw_p58 : lw_okq (⟨"StillLoopsModel", "signed", "(II)Z"⟩, 30) := ⟨⟨by decide +kernel, by decide +kernel⟩, List.mem_of_getElem? (i := 1473) (by decide +kernel), List.mem_of_getElem? (i := 1670) (by decide +kernel), List.mem_of_getElem? (i := 1671) (by decide +kernel)⟩
theorem lw_p59 : lw_okq (⟨"StillLoopsModel", "whole", "(II)I"⟩, 30) := ⟨⟨by decide +kernel, by decide +kernel⟩, List.mem_of_getElem? (i := 1473) (by decide +kernel), List.mem_of_getElem? (i := 1675) (by decide +kernel), List.mem_of_getElem? (i := 1676) (by decide +kernel)⟩
theorem lw_p60 : lw_okq (⟨"StillLoopsModel", "mayBe", "(Ljava/lang/String;III)Z"⟩, 30) := ⟨⟨by decide +kernel, by decide +kernel⟩, List.mem_of_getElem? (i := 1473) (by decide +kernel), List.mem_of_getElem? (i := 1680) (by decide +kernel), List.mem_of_getElem? (i := 1681) (by decide +kernel)⟩
theorem lw_p61 : lw_okq (⟨"StillLoopsModel", "passes", "(Ljava/lang/String;)Z"⟩, 30) := ⟨⟨by decide +kernel, by decide +kernel⟩, List.mem_of_getElem? (i := 1473) (by decide +kernel), List.mem_of_getElem? (i := 1684) (by decide +kernel), List.mem_of_getElem? (i := 1685) (by decide +kernel)⟩
theorem lw_p62 : lw_okq (⟨"StillLoopsModel", "setAt", "(III)I"⟩, 30) := ⟨⟨by decide +kernel, by decide +kernel⟩, List.mem_of_getElem? (i := 1473) (by decide +kernel), List.mem_of_getElem? (i := 1693) (by decide +kernel), List.mem_of_getElem? (i := 1694) (by decide +kernel)⟩
theorem lw_p63 : lw_okq (⟨"StillLoopsModel", "of", "(II)J"⟩, 30) := ⟨⟨by decide +kernel, by decide +kernel⟩, List.mem_of_getElem? (i := 1473) (by decide +kernel), List.mem_of_getElem? (i := 1698) (by decide +kernel), List.mem_of_getElem? (i := 1699) (by decide +kernel)⟩
def lw_privs_4 : List (MethodName × Nat) := [(⟨"StillLoopsModel", "readLine", "()Z"⟩, 30), (⟨"StillLoopsModel", "isWord", "(Ljava/lang/String;)Z"⟩, 30), (⟨"StillLoopsModel", "readLoop", "()Z"⟩, 30), (⟨"StillLoopsModel", "loops", "()I"⟩, 30), (⟨"StillLoopsModel", "readKind", "()Z"⟩, 30), (⟨"StillLoopsModel", "lays", "(IIJ)V"⟩, 30), (⟨"StillLoopsModel", "behind", "(Ljava/lang/String;II)Z"⟩, 30), (⟨"StillLoopsModel", "must", "(Ljava/lang/String;)Z"⟩, 30), (⟨"StillLoopsModel", "number", "(II)Z"⟩, 30), (⟨"StillLoopsModel", "figures", "(III)Z"⟩, 30), (⟨"StillLoopsModel", "signed", "(II)Z"⟩, 30), (⟨"StillLoopsModel", "whole", "(II)I"⟩, 30), (⟨"StillLoopsModel", "mayBe", "(Ljava/lang/String;III)Z"⟩, 30), (⟨"StillLoopsModel", "passes", "(Ljava/lang/String;)Z"⟩, 30), (⟨"StillLoopsModel", "setAt", "(III)I"⟩, 30), (⟨"StillLoopsModel", "of", "(II)J"⟩, 30)]
theorem lw_r4 : ∀ q ∈ lw_privs_4, lw_okq q := List.forall_mem_cons.mpr ⟨lw_p48, List.forall_mem_cons.mpr ⟨lw_p49, List.forall_mem_cons.mpr ⟨lw_p50, List.forall_mem_cons.mpr ⟨lw_p51, List.forall_mem_cons.mpr ⟨lw_p52, List.forall_mem_cons.mpr ⟨lw_p53, List.forall_mem_cons.mpr ⟨lw_p54, List.forall_mem_cons.mpr ⟨lw_p55, List.forall_mem_cons.mpr ⟨lw_p56, List.forall_mem_cons.mpr ⟨lw_p57, List.forall_mem_cons.mpr ⟨lw_p58, List.forall_mem_cons.mpr ⟨lw_p59, List.forall_mem_cons.mpr ⟨lw_p60, List.forall_mem_cons.mpr ⟨lw_p61, List.forall_mem_cons.mpr ⟨lw_p62, List.forall_mem_cons.mpr ⟨lw_p63, fun _ h => absurd h List.not_mem_nil⟩⟩⟩⟩⟩⟩⟩⟩⟩⟩⟩⟩⟩⟩⟩⟩
theorem lw_p64 : lw_okq (⟨"StillLoopsModel", "readLaw", "()Z"⟩, 30) := ⟨⟨by decide +kernel, by decide +kernel⟩, List.mem_of_getElem? (i := 1473) (by decide +kernel), List.mem_of_getElem? (i := 1708) (by decide +kernel), List.mem_of_getElem? (i := 1709) (by decide +kernel)⟩
theorem lw_p65 : lw_okq (⟨"StillLoopsModel", "readGains", "(I)Z"⟩, 30) := ⟨⟨by decide +kernel, by decide +kernel⟩, List.mem_of_getElem? (i := 1473) (by decide +kernel), List.mem_of_getElem? (i := 1719) (by decide +kernel), List.mem_of_getElem? (i := 1720) (by decide +kernel)⟩
theorem lw_p66 : lw_okq (⟨"StillLoopsModel", "readGain", "(Ljava/lang/String;III)Z"⟩, 30) := ⟨⟨by decide +kernel, by decide +kernel⟩, List.mem_of_getElem? (i := 1473) (by decide +kernel), List.mem_of_getElem? (i := 1725) (by decide +kernel), List.mem_of_getElem? (i := 1726) (by decide +kernel)⟩
theorem lw_p67 : lw_okq (⟨"StillLoopsModel", "readCurve", "()Z"⟩, 30) := ⟨⟨by decide +kernel, by decide +kernel⟩, List.mem_of_getElem? (i := 1473) (by decide +kernel), List.mem_of_getElem? (i := 1732) (by decide +kernel), List.mem_of_getElem? (i := 1733) (by decide +kernel)⟩
theorem lw_p68 : lw_okq (⟨"StillLoopsModel", "isFigure", "()Z"⟩, 30) := ⟨⟨by decide +kernel, by decide +kernel⟩, List.mem_of_getElem? (i := 1473) (by decide +kernel), List.mem_of_getElem? (i := 1736) (by decide +kernel), List.mem_of_getElem? (i := 1737) (by decide +kernel)⟩
theorem lw_p69 : lw_okq (⟨"StillLoopsModel", "readEvent", "()Z"⟩, 30) := ⟨⟨by decide +kernel, by decide +kernel⟩, List.mem_of_getElem? (i := 1473) (by decide +kernel), List.mem_of_getElem? (i := 1741) (by decide +kernel), List.mem_of_getElem? (i := 1742) (by decide +kernel)⟩
theorem lw_p70 : lw_okq (⟨"StillLoopsModel", "eventWord", "()I"⟩, 30) := ⟨⟨by decide +kernel, by decide +kernel⟩, List.mem_of_getElem? (i := 1473) (by decide +kernel), List.mem_of_getElem? (i := 1746) (by decide +kernel), List.mem_of_getElem? (i := 1747) (by decide +kernel)⟩
theorem lw_p71 : lw_okq (⟨"StillLoopsModel", "readMode", "(I)Z"⟩, 30) := ⟨⟨by decide +kernel, by decide +kernel⟩, List.mem_of_getElem? (i := 1473) (by decide +kernel), List.mem_of_getElem? (i := 1755) (by decide +kernel), List.mem_of_getElem? (i := 1756) (by decide +kernel)⟩
theorem lw_p72 : lw_okq (⟨"StillLoopsModel", "throwsIf", "(ZI)Z"⟩, 30) := ⟨⟨by decide +kernel, by decide +kernel⟩, List.mem_of_getElem? (i := 1473) (by decide +kernel), List.mem_of_getElem? (i := 1762) (by decide +kernel), List.mem_of_getElem? (i := 1763) (by decide +kernel)⟩
theorem lw_p73 : lw_okq (⟨"StillLoopsModel", "oneTick", "(Z)I"⟩, 30) := ⟨⟨by decide +kernel, by decide +kernel⟩, List.mem_of_getElem? (i := 1473) (by decide +kernel), List.mem_of_getElem? (i := 1771) (by decide +kernel), List.mem_of_getElem? (i := 1772) (by decide +kernel)⟩
theorem lw_p74 : lw_okq (⟨"StillLoopsModel", "allHappen", "()V"⟩, 30) := ⟨⟨by decide +kernel, by decide +kernel⟩, List.mem_of_getElem? (i := 1473) (by decide +kernel), List.mem_of_getElem? (i := 1775) (by decide +kernel), List.mem_of_getElem? (i := 1776) (by decide +kernel)⟩
theorem lw_p75 : lw_okq (⟨"StillLoopsModel", "happens", "(III)V"⟩, 30) := ⟨⟨by decide +kernel, by decide +kernel⟩, List.mem_of_getElem? (i := 1473) (by decide +kernel), List.mem_of_getElem? (i := 1779) (by decide +kernel), List.mem_of_getElem? (i := 1780) (by decide +kernel)⟩
theorem lw_p76 : lw_okq (⟨"StillLoopsModel", "is", "(II)Z"⟩, 30) := ⟨⟨by decide +kernel, by decide +kernel⟩, List.mem_of_getElem? (i := 1473) (by decide +kernel), List.mem_of_getElem? (i := 1783) (by decide +kernel), List.mem_of_getElem? (i := 1784) (by decide +kernel)⟩
theorem lw_p77 : lw_okq (⟨"StillLoopsModel", "isMode", "(II)V"⟩, 30) := ⟨⟨by decide +kernel, by decide +kernel⟩, List.mem_of_getElem? (i := 1473) (by decide +kernel), List.mem_of_getElem? (i := 1787) (by decide +kernel), List.mem_of_getElem? (i := 1788) (by decide +kernel)⟩
theorem lw_p78 : lw_okq (⟨"StillLoopsModel", "pv", "(I)J"⟩, 30) := ⟨⟨by decide +kernel, by decide +kernel⟩, List.mem_of_getElem? (i := 1473) (by decide +kernel), List.mem_of_getElem? (i := 1791) (by decide +kernel), List.mem_of_getElem? (i := 1792) (by decide +kernel)⟩
theorem lw_p79 : lw_okq (⟨"StillLoopsModel", "isBalanced", "(IJ)V"⟩, 30) := ⟨⟨by decide +kernel, by decide +kernel⟩, List.mem_of_getElem? (i := 1473) (by decide +kernel), List.mem_of_getElem? (i := 1799) (by decide +kernel), List.mem_of_getElem? (i := 1800) (by decide +kernel)⟩
def lw_privs_5 : List (MethodName × Nat) := [(⟨"StillLoopsModel", "readLaw", "()Z"⟩, 30), (⟨"StillLoopsModel", "readGains", "(I)Z"⟩, 30), (⟨"StillLoopsModel", "readGain", "(Ljava/lang/String;III)Z"⟩, 30), (⟨"StillLoopsModel", "readCurve", "()Z"⟩, 30), (⟨"StillLoopsModel", "isFigure", "()Z"⟩, 30), (⟨"StillLoopsModel", "readEvent", "()Z"⟩, 30), (⟨"StillLoopsModel", "eventWord", "()I"⟩, 30), (⟨"StillLoopsModel", "readMode", "(I)Z"⟩, 30), (⟨"StillLoopsModel", "throwsIf", "(ZI)Z"⟩, 30), (⟨"StillLoopsModel", "oneTick", "(Z)I"⟩, 30), (⟨"StillLoopsModel", "allHappen", "()V"⟩, 30), (⟨"StillLoopsModel", "happens", "(III)V"⟩, 30), (⟨"StillLoopsModel", "is", "(II)Z"⟩, 30), (⟨"StillLoopsModel", "isMode", "(II)V"⟩, 30), (⟨"StillLoopsModel", "pv", "(I)J"⟩, 30), (⟨"StillLoopsModel", "isBalanced", "(IJ)V"⟩, 30)]
theorem lw_r5 : ∀ q ∈ lw_privs_5, lw_okq q := List.forall_mem_cons.mpr ⟨lw_p64, List.forall_mem_cons.mpr ⟨lw_p65, List.forall_mem_cons.mpr ⟨lw_p66, List.forall_mem_cons.mpr ⟨lw_p67, List.forall_mem_cons.mpr ⟨lw_p68, List.forall_mem_cons.mpr ⟨lw_p69, List.forall_mem_cons.mpr ⟨lw_p70, List.forall_mem_cons.mpr ⟨lw_p71, List.forall_mem_cons.mpr ⟨lw_p72, List.forall_mem_cons.mpr ⟨lw_p73, List.forall_mem_cons.mpr ⟨lw_p74, List.forall_mem_cons.mpr ⟨lw_p75, List.forall_mem_cons.mpr ⟨lw_p76, List.forall_mem_cons.mpr ⟨lw_p77, List.forall_mem_cons.mpr ⟨lw_p78, List.forall_mem_cons.mpr ⟨lw_p79, fun _ h => absurd h List.not_mem_nil⟩⟩⟩⟩⟩⟩⟩⟩⟩⟩⟩⟩⟩⟩⟩⟩
theorem lw_p80 : lw_okq (⟨"StillLoopsModel", "pNow", "(IJ)J"⟩, 30) := ⟨⟨by decide +kernel, by decide +kernel⟩, List.mem_of_getElem? (i := 1473) (by decide +kernel), List.mem_of_getElem? (i := 1804) (by decide +kernel), List.mem_of_getElem? (i := 1805) (by decide +kernel)⟩
theorem lw_p81 : lw_okq (⟨"StillLoopsModel", "ofSet", "(II)J"⟩, 30) := ⟨⟨by decide +kernel, by decide +kernel⟩, List.mem_of_getElem? (i := 1473) (by decide +kernel), List.mem_of_getElem? (i := 1808) (by decide +kernel), List.mem_of_getElem? (i := 1809) (by decide +kernel)⟩
theorem lw_p82 : lw_okq (⟨"StillLoopsModel", "pOf", "(IJJ)J"⟩, 30) := ⟨⟨by decide +kernel, by decide +kernel⟩, List.mem_of_getElem? (i := 1473) (by decide +kernel), List.mem_of_getElem? (i := 1812) (by decide +kernel), List.mem_of_getElem? (i := 1813) (by decide +kernel)⟩
theorem lw_p83 : lw_okq (⟨"StillLoopsModel", "dNow", "(I)J"⟩, 30) := ⟨⟨by decide +kernel, by decide +kernel⟩, List.mem_of_getElem? (i := 1473) (by decide +kernel), List.mem_of_getElem? (i := 1816) (by decide +kernel), List.mem_of_getElem? (i := 1817) (by decide +kernel)⟩
theorem lw_p84 : lw_okq (⟨"StillLoopsModel", "isI", "(IJ)V"⟩, 30) := ⟨⟨by decide +kernel, by decide +kernel⟩, List.mem_of_getElem? (i := 1473) (by decide +kernel), List.mem_of_getElem? (i := 1820) (by decide +kernel), List.mem_of_getElem? (i := 1821) (by decide +kernel)⟩
theorem lw_p85 : lw_okq (⟨"StillLoopsModel", "isTold", "(IIJ)V"⟩, 30) := ⟨⟨by decide +kernel, by decide +kernel⟩, List.mem_of_getElem? (i := 1473) (by decide +kernel), List.mem_of_getElem? (i := 1826) (by decide +kernel), List.mem_of_getElem? (i := 1827) (by decide +kernel)⟩
theorem lw_p86 : lw_okq (⟨"StillLoopsModel", "oneLoop", "(I)V"⟩, 30) := ⟨⟨by decide +kernel, by decide +kernel⟩, List.mem_of_getElem? (i := 1473) (by decide +kernel), List.mem_of_getElem? (i := 1831) (by decide +kernel), List.mem_of_getElem? (i := 1832) (by decide +kernel)⟩
theorem lw_p87 : lw_okq (⟨"StillLoopsModel", "mayTrip", "(I)V"⟩, 30) := ⟨⟨by decide +kernel, by decide +kernel⟩, List.mem_of_getElem? (i := 1473) (by decide +kernel), List.mem_of_getElem? (i := 1835) (by decide +kernel), List.mem_of_getElem? (i := 1836) (by decide +kernel)⟩
theorem lw_p88 : lw_okq (⟨"StillLoopsModel", "cause", "(I)I"⟩, 30) := ⟨⟨by decide +kernel, by decide +kernel⟩, List.mem_of_getElem? (i := 1473) (by decide +kernel), List.mem_of_getElem? (i := 1839) (by decide +kernel), List.mem_of_getElem? (i := 1840) (by decide +kernel)⟩
theorem lw_p89 : lw_okq (⟨"StillLoopsModel", "picksSet", "(IJ)V"⟩, 30) := ⟨⟨by decide +kernel, by decide +kernel⟩, List.mem_of_getElem? (i := 1473) (by decide +kernel), List.mem_of_getElem? (i := 1844) (by decide +kernel), List.mem_of_getElem? (i := 1845) (by decide +kernel)⟩
theorem lw_p90 : lw_okq (⟨"StillLoopsModel", "makesUp", "(IJJ)V"⟩, 30) := ⟨⟨by decide +kernel, by decide +kernel⟩, List.mem_of_getElem? (i := 1473) (by decide +kernel), List.mem_of_getElem? (i := 1848) (by decide +kernel), List.mem_of_getElem? (i := 1849) (by decide +kernel)⟩
theorem lw_p91 : lw_okq (⟨"StillLoopsModel", "isFollowing", "(I)Z"⟩, 30) := ⟨⟨by decide +kernel, by decide +kernel⟩, List.mem_of_getElem? (i := 1473) (by decide +kernel), List.mem_of_getElem? (i := 1852) (by decide +kernel), List.mem_of_getElem? (i := 1853) (by decide +kernel)⟩
theorem lw_p92 : lw_okq (⟨"StillLoopsModel", "leastOn", "(I)I"⟩, 30) := ⟨⟨by decide +kernel, by decide +kernel⟩, List.mem_of_getElem? (i := 1473) (by decide +kernel), List.mem_of_getElem? (i := 1856) (by decide +kernel), List.mem_of_getElem? (i := 1857) (by decide +kernel)⟩
theorem lw_p93 : lw_okq (⟨"StillLoopsModel", "controls", "(IJ)V"⟩, 30) := ⟨⟨by decide +kernel, by decide +kernel⟩, List.mem_of_getElem? (i := 1473) (by decide +kernel), List.mem_of_getElem? (i := 1860) (by decide +kernel), List.mem_of_getElem? (i := 1861) (by decide +kernel)⟩
theorem lw_p94 : lw_okq (⟨"StillLoopsModel", "isHeldAt", "(IJ)Z"⟩, 30) := ⟨⟨by decide +kernel, by decide +kernel⟩, List.mem_of_getElem? (i := 1473) (by decide +kernel), List.mem_of_getElem? (i := 1866) (by decide +kernel), List.mem_of_getElem? (i := 1867) (by decide +kernel)⟩
theorem lw_p95 : lw_okq (⟨"StillLoopsModel", "relays", "(IJ)V"⟩, 30) := ⟨⟨by decide +kernel, by decide +kernel⟩, List.mem_of_getElem? (i := 1473) (by decide +kernel), List.mem_of_getElem? (i := 1870) (by decide +kernel), List.mem_of_getElem? (i := 1871) (by decide +kernel)⟩
def lw_privs_6 : List (MethodName × Nat) := [(⟨"StillLoopsModel", "pNow", "(IJ)J"⟩, 30), (⟨"StillLoopsModel", "ofSet", "(II)J"⟩, 30), (⟨"StillLoopsModel", "pOf", "(IJJ)J"⟩, 30), (⟨"StillLoopsModel", "dNow", "(I)J"⟩, 30), (⟨"StillLoopsModel", "isI", "(IJ)V"⟩, 30), (⟨"StillLoopsModel", "isTold", "(IIJ)V"⟩, 30), (⟨"StillLoopsModel", "oneLoop", "(I)V"⟩, 30), (⟨"StillLoopsModel", "mayTrip", "(I)V"⟩, 30), (⟨"StillLoopsModel", "cause", "(I)I"⟩, 30), (⟨"StillLoopsModel", "picksSet", "(IJ)V"⟩, 30), (⟨"StillLoopsModel", "makesUp", "(IJJ)V"⟩, 30), (⟨"StillLoopsModel", "isFollowing", "(I)Z"⟩, 30), (⟨"StillLoopsModel", "leastOn", "(I)I"⟩, 30), (⟨"StillLoopsModel", "controls", "(IJ)V"⟩, 30), (⟨"StillLoopsModel", "isHeldAt", "(IJ)Z"⟩, 30), (⟨"StillLoopsModel", "relays", "(IJ)V"⟩, 30)]
theorem lw_r6 : ∀ q ∈ lw_privs_6, lw_okq q := List.forall_mem_cons.mpr ⟨lw_p80, List.forall_mem_cons.mpr ⟨lw_p81, List.forall_mem_cons.mpr ⟨lw_p82, List.forall_mem_cons.mpr ⟨lw_p83, List.forall_mem_cons.mpr ⟨lw_p84, List.forall_mem_cons.mpr ⟨lw_p85, List.forall_mem_cons.mpr ⟨lw_p86, List.forall_mem_cons.mpr ⟨lw_p87, List.forall_mem_cons.mpr ⟨lw_p88, List.forall_mem_cons.mpr ⟨lw_p89, List.forall_mem_cons.mpr ⟨lw_p90, List.forall_mem_cons.mpr ⟨lw_p91, List.forall_mem_cons.mpr ⟨lw_p92, List.forall_mem_cons.mpr ⟨lw_p93, List.forall_mem_cons.mpr ⟨lw_p94, List.forall_mem_cons.mpr ⟨lw_p95, fun _ h => absurd h List.not_mem_nil⟩⟩⟩⟩⟩⟩⟩⟩⟩⟩⟩⟩⟩⟩⟩⟩
theorem lw_p96 : lw_okq (⟨"StillLoopsModel", "isRelayed", "(IJ)Z"⟩, 30) := ⟨⟨by decide +kernel, by decide +kernel⟩, List.mem_of_getElem? (i := 1473) (by decide +kernel), List.mem_of_getElem? (i := 1874) (by decide +kernel), List.mem_of_getElem? (i := 1875) (by decide +kernel)⟩
theorem lw_p97 : lw_okq (⟨"StillLoopsModel", "goesUp", "(IJ)Z"⟩, 30) := ⟨⟨by decide +kernel, by decide +kernel⟩, List.mem_of_getElem? (i := 1473) (by decide +kernel), List.mem_of_getElem? (i := 1878) (by decide +kernel), List.mem_of_getElem? (i := 1879) (by decide +kernel)⟩
theorem lw_p98 : lw_okq (⟨"StillLoopsModel", "onePlant", "(I)V"⟩, 30) := ⟨⟨by decide +kernel, by decide +kernel⟩, List.mem_of_getElem? (i := 1473) (by decide +kernel), List.mem_of_getElem? (i := 1887) (by decide +kernel), List.mem_of_getElem? (i := 1888) (by decide +kernel)⟩
theorem lw_p99 : lw_okq (⟨"StillLoopsModel", "flowOf", "(IJ)J"⟩, 30) := ⟨⟨by decide +kernel, by decide +kernel⟩, List.mem_of_getElem? (i := 1473) (by decide +kernel), List.mem_of_getElem? (i := 1891) (by decide +kernel), List.mem_of_getElem? (i := 1892) (by decide +kernel)⟩
theorem lw_p100 : lw_okq (⟨"StillLoopsModel", "is0", "(II)Z"⟩, 30) := ⟨⟨by decide +kernel, by decide +kernel⟩, List.mem_of_getElem? (i := 1473) (by decide +kernel), List.mem_of_getElem? (i := 1898) (by decide +kernel), List.mem_of_getElem? (i := 1899) (by decide +kernel)⟩
theorem lw_p101 : lw_okq (⟨"StillLoopsModel", "noMode", "(IIII)Z"⟩, 30) := ⟨⟨by decide +kernel, by decide +kernel⟩, List.mem_of_getElem? (i := 1473) (by decide +kernel), List.mem_of_getElem? (i := 1908) (by decide +kernel), List.mem_of_getElem? (i := 1909) (by decide +kernel)⟩
theorem lw_p102 : lw_okq (⟨"StillLoopsModel", "noLoop", "(I)Z"⟩, 30) := ⟨⟨by decide +kernel, by decide +kernel⟩, List.mem_of_getElem? (i := 1473) (by decide +kernel), List.mem_of_getElem? (i := 1912) (by decide +kernel), List.mem_of_getElem? (i := 1913) (by decide +kernel)⟩
theorem lw_p103 : lw_okq (⟨"StillLoopsModel", "isGained", "(IJJJ)V"⟩, 30) := ⟨⟨by decide +kernel, by decide +kernel⟩, List.mem_of_getElem? (i := 1473) (by decide +kernel), List.mem_of_getElem? (i := 1928) (by decide +kernel), List.mem_of_getElem? (i := 1929) (by decide +kernel)⟩
theorem lw_p104 : lw_okq (⟨"StillLoopsModel", "roomOf", "(I)J"⟩, 30) := ⟨⟨by decide +kernel, by decide +kernel⟩, List.mem_of_getElem? (i := 1473) (by decide +kernel), List.mem_of_getElem? (i := 1962) (by decide +kernel), List.mem_of_getElem? (i := 1963) (by decide +kernel)⟩
theorem lw_p105 : lw_okq (⟨"StillLoopsModel", "keepsAll", "()V"⟩, 30) := ⟨⟨by decide +kernel, by decide +kernel⟩, List.mem_of_getElem? (i := 1473) (by decide +kernel), List.mem_of_getElem? (i := 1990) (by decide +kernel), List.mem_of_getElem? (i := 1991) (by decide +kernel)⟩
theorem lw_p106 : lw_okq (⟨"StillLoopsModel", "goesOn", "(I)V"⟩, 30) := ⟨⟨by decide +kernel, by decide +kernel⟩, List.mem_of_getElem? (i := 1473) (by decide +kernel), List.mem_of_getElem? (i := 1994) (by decide +kernel), List.mem_of_getElem? (i := 1995) (by decide +kernel)⟩
theorem lw_p107 : lw_okq (⟨"StillLoopsModel", "bringsBack", "()V"⟩, 30) := ⟨⟨by decide +kernel, by decide +kernel⟩, List.mem_of_getElem? (i := 1473) (by decide +kernel), List.mem_of_getElem? (i := 1998) (by decide +kernel), List.mem_of_getElem? (i := 1999) (by decide +kernel)⟩
theorem lw_p108 : lw_okq (⟨"StillLoopsModel", "noTicks", "(II)Z"⟩, 30) := ⟨⟨by decide +kernel, by decide +kernel⟩, List.mem_of_getElem? (i := 1473) (by decide +kernel), List.mem_of_getElem? (i := 2010) (by decide +kernel), List.mem_of_getElem? (i := 2011) (by decide +kernel)⟩
theorem lw_p109 : lw_okq (⟨"StillLoopsModel", "isUpTo", "(I)Z"⟩, 30) := ⟨⟨by decide +kernel, by decide +kernel⟩, List.mem_of_getElem? (i := 1473) (by decide +kernel), List.mem_of_getElem? (i := 2018) (by decide +kernel), List.mem_of_getElem? (i := 2019) (by decide +kernel)⟩
theorem lw_p110 : lw_okq (⟨"StillLoopsModel", "offBy", "(I)J"⟩, 30) := ⟨⟨by decide +kernel, by decide +kernel⟩, List.mem_of_getElem? (i := 1473) (by decide +kernel), List.mem_of_getElem? (i := 2026) (by decide +kernel), List.mem_of_getElem? (i := 2027) (by decide +kernel)⟩
theorem lw_p111 : lw_okq (⟨"StillLoopsModel", "laysRound", "()V"⟩, 30) := ⟨⟨by decide +kernel, by decide +kernel⟩, List.mem_of_getElem? (i := 1473) (by decide +kernel), List.mem_of_getElem? (i := 2050) (by decide +kernel), List.mem_of_getElem? (i := 2051) (by decide +kernel)⟩
def lw_privs_7 : List (MethodName × Nat) := [(⟨"StillLoopsModel", "isRelayed", "(IJ)Z"⟩, 30), (⟨"StillLoopsModel", "goesUp", "(IJ)Z"⟩, 30), (⟨"StillLoopsModel", "onePlant", "(I)V"⟩, 30), (⟨"StillLoopsModel", "flowOf", "(IJ)J"⟩, 30), (⟨"StillLoopsModel", "is0", "(II)Z"⟩, 30), (⟨"StillLoopsModel", "noMode", "(IIII)Z"⟩, 30), (⟨"StillLoopsModel", "noLoop", "(I)Z"⟩, 30), (⟨"StillLoopsModel", "isGained", "(IJJJ)V"⟩, 30), (⟨"StillLoopsModel", "roomOf", "(I)J"⟩, 30), (⟨"StillLoopsModel", "keepsAll", "()V"⟩, 30), (⟨"StillLoopsModel", "goesOn", "(I)V"⟩, 30), (⟨"StillLoopsModel", "bringsBack", "()V"⟩, 30), (⟨"StillLoopsModel", "noTicks", "(II)Z"⟩, 30), (⟨"StillLoopsModel", "isUpTo", "(I)Z"⟩, 30), (⟨"StillLoopsModel", "offBy", "(I)J"⟩, 30), (⟨"StillLoopsModel", "laysRound", "()V"⟩, 30)]
theorem lw_r7 : ∀ q ∈ lw_privs_7, lw_okq q := List.forall_mem_cons.mpr ⟨lw_p96, List.forall_mem_cons.mpr ⟨lw_p97, List.forall_mem_cons.mpr ⟨lw_p98, List.forall_mem_cons.mpr ⟨lw_p99, List.forall_mem_cons.mpr ⟨lw_p100, List.forall_mem_cons.mpr ⟨lw_p101, List.forall_mem_cons.mpr ⟨lw_p102, List.forall_mem_cons.mpr ⟨lw_p103, List.forall_mem_cons.mpr ⟨lw_p104, List.forall_mem_cons.mpr ⟨lw_p105, List.forall_mem_cons.mpr ⟨lw_p106, List.forall_mem_cons.mpr ⟨lw_p107, List.forall_mem_cons.mpr ⟨lw_p108, List.forall_mem_cons.mpr ⟨lw_p109, List.forall_mem_cons.mpr ⟨lw_p110, List.forall_mem_cons.mpr ⟨lw_p111, fun _ h => absurd h List.not_mem_nil⟩⟩⟩⟩⟩⟩⟩⟩⟩⟩⟩⟩⟩⟩⟩⟩
theorem lw_p112 : lw_okq (⟨"StillLoopsModel", "keepsTime", "([JI)V"⟩, 30) := ⟨⟨by decide +kernel, by decide +kernel⟩, List.mem_of_getElem? (i := 1473) (by decide +kernel), List.mem_of_getElem? (i := 2054) (by decide +kernel), List.mem_of_getElem? (i := 2055) (by decide +kernel)⟩
theorem lw_p113 : lw_okq (⟨"StillLoopsModel", "areAlike", "([JI[JI)Z"⟩, 30) := ⟨⟨by decide +kernel, by decide +kernel⟩, List.mem_of_getElem? (i := 1473) (by decide +kernel), List.mem_of_getElem? (i := 2058) (by decide +kernel), List.mem_of_getElem? (i := 2059) (by decide +kernel)⟩
theorem lw_p114 : lw_okq (⟨"StillLoopsModel", "isInRound", "(I)Z"⟩, 30) := ⟨⟨by decide +kernel, by decide +kernel⟩, List.mem_of_getElem? (i := 1473) (by decide +kernel), List.mem_of_getElem? (i := 2071) (by decide +kernel), List.mem_of_getElem? (i := 2072) (by decide +kernel)⟩
theorem lw_p115 : lw_okq (⟨"StillLoopsModel", "stepOf", "(III)I"⟩, 30) := ⟨⟨by decide +kernel, by decide +kernel⟩, List.mem_of_getElem? (i := 1473) (by decide +kernel), List.mem_of_getElem? (i := 2079) (by decide +kernel), List.mem_of_getElem? (i := 2080) (by decide +kernel)⟩
theorem lw_p116 : lw_okq (⟨"StillLoopsModel", "beginsTwin", "()V"⟩, 30) := ⟨⟨by decide +kernel, by decide +kernel⟩, List.mem_of_getElem? (i := 1473) (by decide +kernel), List.mem_of_getElem? (i := 2089) (by decide +kernel), List.mem_of_getElem? (i := 2090) (by decide +kernel)⟩
theorem lw_p117 : lw_okq (⟨"StillLoopsModel", "twinOff", "(I)D"⟩, 30) := ⟨⟨by decide +kernel, by decide +kernel⟩, List.mem_of_getElem? (i := 1473) (by decide +kernel), List.mem_of_getElem? (i := 2093) (by decide +kernel), List.mem_of_getElem? (i := 2094) (by decide +kernel)⟩
theorem lw_p118 : lw_okq (⟨"StillLoopsModel", "twinLoop", "(I)V"⟩, 30) := ⟨⟨by decide +kernel, by decide +kernel⟩, List.mem_of_getElem? (i := 1473) (by decide +kernel), List.mem_of_getElem? (i := 2097) (by decide +kernel), List.mem_of_getElem? (i := 2098) (by decide +kernel)⟩
theorem lw_p119 : lw_okq (⟨"StillLoopsModel", "told", "(II)J"⟩, 30) := ⟨⟨by decide +kernel, by decide +kernel⟩, List.mem_of_getElem? (i := 1473) (by decide +kernel), List.mem_of_getElem? (i := 2102) (by decide +kernel), List.mem_of_getElem? (i := 2103) (by decide +kernel)⟩
theorem lw_p120 : lw_okq (⟨"StillLoopsModel", "gainTold", "(II)D"⟩, 30) := ⟨⟨by decide +kernel, by decide +kernel⟩, List.mem_of_getElem? (i := 1473) (by decide +kernel), List.mem_of_getElem? (i := 2106) (by decide +kernel), List.mem_of_getElem? (i := 2107) (by decide +kernel)⟩
theorem lw_p121 : lw_okq (⟨"StillLoopsModel", "twinPlant", "(I)V"⟩, 30) := ⟨⟨by decide +kernel, by decide +kernel⟩, List.mem_of_getElem? (i := 1473) (by decide +kernel), List.mem_of_getElem? (i := 2129) (by decide +kernel), List.mem_of_getElem? (i := 2130) (by decide +kernel)⟩
theorem lw_p122 : lw_okq (⟨"StillLoopsModel", "twinFlow", "(I)D"⟩, 30) := ⟨⟨by decide +kernel, by decide +kernel⟩, List.mem_of_getElem? (i := 1473) (by decide +kernel), List.mem_of_getElem? (i := 2133) (by decide +kernel), List.mem_of_getElem? (i := 2134) (by decide +kernel)⟩
def lw_privs_8 : List (MethodName × Nat) := [(⟨"StillLoopsModel", "keepsTime", "([JI)V"⟩, 30), (⟨"StillLoopsModel", "areAlike", "([JI[JI)Z"⟩, 30), (⟨"StillLoopsModel", "isInRound", "(I)Z"⟩, 30), (⟨"StillLoopsModel", "stepOf", "(III)I"⟩, 30), (⟨"StillLoopsModel", "beginsTwin", "()V"⟩, 30), (⟨"StillLoopsModel", "twinOff", "(I)D"⟩, 30), (⟨"StillLoopsModel", "twinLoop", "(I)V"⟩, 30), (⟨"StillLoopsModel", "told", "(II)J"⟩, 30), (⟨"StillLoopsModel", "gainTold", "(II)D"⟩, 30), (⟨"StillLoopsModel", "twinPlant", "(I)V"⟩, 30), (⟨"StillLoopsModel", "twinFlow", "(I)D"⟩, 30)]
theorem lw_r8 : ∀ q ∈ lw_privs_8, lw_okq q := List.forall_mem_cons.mpr ⟨lw_p112, List.forall_mem_cons.mpr ⟨lw_p113, List.forall_mem_cons.mpr ⟨lw_p114, List.forall_mem_cons.mpr ⟨lw_p115, List.forall_mem_cons.mpr ⟨lw_p116, List.forall_mem_cons.mpr ⟨lw_p117, List.forall_mem_cons.mpr ⟨lw_p118, List.forall_mem_cons.mpr ⟨lw_p119, List.forall_mem_cons.mpr ⟨lw_p120, List.forall_mem_cons.mpr ⟨lw_p121, List.forall_mem_cons.mpr ⟨lw_p122, fun _ h => absurd h List.not_mem_nil⟩⟩⟩⟩⟩⟩⟩⟩⟩⟩⟩
def lw_privs : List (MethodName × Nat) := lw_privs_1 ++ (lw_privs_2 ++ (lw_privs_3 ++ (lw_privs_4 ++ (lw_privs_5 ++ (lw_privs_6 ++ (lw_privs_7 ++ (lw_privs_8)))))))
def lw_tbl : List Cond := k2_sels lw_privs ++ tables_1
theorem lw_privs_ok : ∀ q ∈ lw_privs, lw_okq q := by
  show ∀ q ∈ lw_privs_1 ++ (lw_privs_2 ++ (lw_privs_3 ++ (lw_privs_4 ++ (lw_privs_5 ++ (lw_privs_6 ++ (lw_privs_7 ++ (lw_privs_8))))))), lw_okq q
  exact List.forall_mem_append.mpr ⟨lw_r1, List.forall_mem_append.mpr ⟨lw_r2, List.forall_mem_append.mpr ⟨lw_r3, List.forall_mem_append.mpr ⟨lw_r4, List.forall_mem_append.mpr ⟨lw_r5, List.forall_mem_append.mpr ⟨lw_r6, List.forall_mem_append.mpr ⟨lw_r7, lw_r8⟩⟩⟩⟩⟩⟩⟩
/-- the streams that the claim lets the run draw from -/
abbrev lw_cs : List Choice := [Jvm.Choice.named "NaN.bits", Jvm.Choice.named "NaN.copy"]
theorem lw_bits : nanBits ∈ lw_cs := by first | decide | exact List.mem_cons_self | simp [lw_cs, nanBits]
end
section
/-! ===== BEGIN words of one list among another's, by their places ===== -/
theorem goodIn_r {big : List Cond} (ws : List Cond) (ps : List Nat) (hp : ws = ps.filterMap (fun i => big[i]?)) (h : ws.all goodWord = true) : GoodIn big ws := by
  intro w hw
  have h1 := List.all_eq_true.mp h w hw
  rw [hp] at hw
  obtain ⟨i, -, hi⟩ := List.mem_filterMap.mp hw
  have hm : w ∈ big := by first | exact List.mem_of_getElem? hi | exact List.getElem?_mem hi
  exact ⟨hm, good_of_word h1⟩
theorem goodIn_app {big a b : List Cond} (ha : GoodIn big a) (hb : GoodIn big b) : GoodIn big (a ++ b) := fun w h => (List.mem_append.mp h).elim (ha w) (hb w)
theorem goodIn_ca {big a b : List Cond} {c : Cond} (ha : GoodIn big (c :: a)) (hb : GoodIn big b) : GoodIn big (c :: (a ++ b)) := fun w h => (List.mem_cons.mp h).elim (fun e => ha w (List.mem_cons.mpr (Or.inl e))) (fun h => (List.mem_append.mp h).elim (fun h => ha w (List.mem_cons.mpr (Or.inr h))) (hb w))
theorem goodIn_sub {big ws : List Cond} (hm : ∀ w ∈ ws, w ∈ big) (h : ws.all goodWord = true) : GoodIn big ws := fun w hw => ⟨hm w hw, good_of_word (List.all_eq_true.mp h w hw)⟩
/-! ===== END ===== -/



/-! ===== BEGIN exceptions that leave a method, and their catching by the caller (launches without stack traces) ===== -/
section VXA
/-! The laws vx_back, vx_callV, vx_callS, vx_callSW, vx_throw0, vx_throwS follow proofs of the library, with one case more: JvmDerived/Free/Laws.lean (Back.of_free), Shelf42/LK1.lean (callV, callS), Shelf/KitTraced.lean (throwNew0V, throwNewS). -/
/-- where a method has thrown q: the class by its name, the cell, what was written, the world -/
def vx_T (XC : String → State → State → Prop) (st : State) (q : Addr) (t : State) (mc ms : Nat) (free : Addr → Prop) : Prop :=
  ∃ (E : String) (ce : Cell) (L : List Loc), XC E st t ∧ t.heap[q]? = some ce ∧ ce.vm = .none ∧ st.vm.findClass E = some ce.cls ∧ st.WarmedH t.vm ∧ st.sameButNew ({ t with vm := st.vm } : State) L mc ms ∧ ∀ z ∈ L, free z.base
def vx_Q (Qc : Array Value → State → Outcome → State → Prop) (XC : String → State → State → Prop) (mc ms : Nat) (free : Addr → Prop) : Array Value → State → Outcome → State → Prop := fun a st o t =>
  (Qc a st o t ∧ ∃ L, FrameEnd st o t L mc ms ∧ ∀ q ∈ L, free q.base) ∨ ∃ q, o = .threw q ∧ vx_T XC st q t mc ms free
/-- a callee that returns or throws -/
def vx_Met (l : Launch) (y : MethodName) (ws : List Cond) (rm : Room) (Pc : Array Value → State → Prop) (Qc : Array Value → State → Outcome → State → Prop) (XC : String → State → State → Prop) (mc ms : Nat) (free : Addr → Prop) : Prop :=
  MetFree l y (headSpec ws rm) Pc (fun _ _ _ _ _ => True) (vx_Q Qc XC mc ms free)
def vx_Post (XC : String → State → State → Prop) (mc ms : Nat) (free : Addr → Prop) : Pt → Array Value → Addr → Pt → Prop := fun A a q B =>
  ∃ (g : JFrame) (mk : MethodId) (t : State) (L : List Loc) (E : String) (ce : Cell), B.U.heap = t.heap ∧ B.U.vm = t.vm ∧ XC E (A.U.calling g mk a) t ∧ t.heap[q]? = some ce ∧ ce.vm = .none ∧ A.U.vm.findClass E = some ce.cls ∧ B.locs = A.locs ++ L ∧ (∀ z ∈ L, free z.base) ∧ B.cells = A.cells + mc ∧ B.slots = A.slots + ms
def vx_Back (l : Launch) (R : Room) (p : Program) (e : Env) (below : List Frame) (s : State) (sargs : Array Value) (y : MethodName) (len W9 : Nat)
    (Pre : Pt → Array Value → Prop) (Post : Pt → Array Value → Option Value → Pt → Prop) (PostX : Pt → Array Value → Addr → Pt → Prop) : Prop :=
  ∀ (m : MethodId) (meth : Method) (c : Code) (A : Pt) (g : JFrame) (ig : Instr) (mk : MethodId) (a : Array Value),
    Stand p l e R s m sargs below meth c A.U A.locs A.cells A.slots → g.method = m → g.locals.size = c.maxLocals → decode c.code g.pc = .ok (ig, len) →
    2 * g.monitorRoom + (g.stack.map fun v => v.category).sum ≤ W9 → A.U.methodNamed? y = some mk → Pre A a →
    (∃ (v : Option Value) (B : Pt), Stand p l e R s m sargs below meth c B.U B.locs B.cells B.slots ∧ Post A a v B ∧
      Steps p.tables e below (doInvoke e (A.U.setTop g) [] mk a).1 (B.U.setTop { g with pc := g.pc + len, stack := v.toList ++ g.stack })) ∨
    (∃ (q : Addr) (B : Pt), Stand p l e R s m sargs below meth c B.U B.locs B.cells B.slots ∧ PostX A a q B ∧
      Steps p.tables e below (doInvoke e (A.U.setTop g) [] mk a).1 ((B.U.setTop g).pushFrame (.throwing q)))
section Payer
variable {l : Launch} {R : Room} {p : Program} {e : Env} {below : List Frame} {s : State} {sargs : Array Value} {y : MethodName} {len W9 : Nat}
theorem vx_back {ws : List Cond} {rm : Room} {Pc : Array Value → State → Prop} {Qc : Array Value → State → Outcome → State → Prop} {XC : String → State → State → Prop} {mc ms : Nat} {free : Addr → Prop} {bytes : ByteArray} {maxL : Nat} {ret : Option FieldType}
    (hM : vx_Met l y ws rm Pc Qc XC mc ms free) (hblind : FrameBlind Pc) (hrc : rm.cells = mc) (hrs : rm.slots = ms)
    (hframes : rm.frames + 1 ≤ R.frames) (hlocals : W9 + (maxL + 11) + rm.locals ≤ R.locals)
    (hws : ∀ w ∈ ws, ∀ a' U, s.WarmedH U.vm → w.before a' U = true) (hcode : Cond.code y bytes maxL ret ∈ ws) (hinit : ∀ a' U, s.WarmedH U.vm → (Cond.initialized y.cls).before a' U = true) :
    vx_Back l R p e below s sargs y len W9 (PreOf R mc ms Pc) (PostOf Qc mc ms free) (vx_Post XC mc ms free) := by
  intro m meth c A g ig mk a X hg hsize hdg hW hn hp
  have h1 : (headSpec ws rm).pre.before a A.U = true := atoms_intro fun w hw => hws w hw _ _ X.warmed
  have h2 : (Cond.code y bytes maxL ret).before a A.U = true := hws _ hcode _ _ X.warmed
  have h3 : (Cond.initialized y.cls).before a A.U = true := hinit _ _ X.warmed
  have h4 : A.cells + (headSpec ws rm).room.cells ≤ R.cells := by rw [show (headSpec ws rm).room.cells = mc from hrc]; exact hp.1
  have h5 : A.slots + (headSpec ws rm).room.slots ≤ R.slots := by rw [show (headSpec ws rm).room.slots = ms from hrs]; exact hp.2.1
  have hPc : Pc a (A.U.calling g mk a) := hblind _ _ _ _ hp.2.2
  obtain ⟨U, Ls, c0, s0⟩ := A
  dsimp only [Pt.U, Pt.locs, Pt.cells, Pt.slots] at h1 h2 h3 h4 h5 X hn hPc ⊢
  obtain ⟨methY, cY, hmY, hcY, -, hlY, -, -, -, -⟩ := Cond.code_spec hn h2
  obtain ⟨kY, hkY, -⟩ := className_of_methodNamed hn
  have hinitY : kY.init = .initialized := Cond.initialized_spec (findClass_of_methodNamed hn) hkY h3
  have h : At U g.method c below := by rw [hg]; exact X.here
  have hlocals9 : W9 + (maxL + 11) + (headSpec ws rm).room.locals ≤ R.locals := hlocals
  have happ : (headSpec ws rm).appliesLoose y e.platform (U.calling g mk a) = true :=
    Spec.appliesLoose_calling (g := g) h hdg hn hkY hinitY
      (X.room_calling (g := g) (R' := (headSpec ws rm).room) hsize hmY hcY hframes (by rw [hlY]; omega) h4 h5) h1
  obtain ⟨mid, hmid⟩ := h.above
  have hfr : (U.setTop g).frames = (.java g :: mid) ++ below := by rw [State.frames_setTop' g h.top, hmid]; rfl
  obtain ⟨o, s₂, hsteps, -, hend, hq⟩ := Steps.callFree hM p X.admits X.cas X.clock (acts := []) hfr happ hPc trivial
  have hq' : vx_Q Qc XC mc ms free a (U.calling g mk a) o s₂ := hq
  rw [State.frames_setTop' g h.top] at hend
  obtain ⟨g₀, hg0⟩ := Option.isSome_iff_exists.mp h.top
  obtain ⟨r, hr⟩ := State.topJava?_eq_some.mp hg0
  have hr' : (({ U with heap := s₂.heap, slotsUsed := s₂.slotsUsed } : State).setVm s₂.vm).frames = .java g₀ :: r := hr
  rcases hq' with ⟨hqc, L, hfe, hL⟩ | ⟨q, rfl, E, ce, L, hx, hce, hcv, hcl, hW₂, hsm, hL⟩
  · obtain ⟨⟨v, rfl⟩, hW₂, e2, q2, q3, q4, q5, q6⟩ := id hfe
    have e3 : s₂ = ({ (U.calling g mk a).setFrames s₂.frames with heap := s₂.heap, slotsUsed := s₂.slotsUsed } : State).setVm s₂.vm := by
      have : s₂ = ({ s₂ with vm := (U.calling g mk a).vm } : State).setVm s₂.vm := rfl
      rw [e2] at this
      exact this
    obtain ⟨c₂, i₂, len₂, hc₂, hd₂, hf₂⟩ := hend
    have hW' : U.WarmedH s₂.vm := hW₂
    have hcc : c₂ = c := by
      have h1 : s₂.code? g.method = U.code? g.method := by
        rw [State.code?_eq, State.code?_eq, hW'.alike.method?]
      exact Option.some.inj (hc₂.symm.trans (h1.trans h.code))
    subst hcc
    have hlen : len₂ = len := by rw [hdg] at hd₂; cases hd₂; rfl
    subst hlen
    have hs₂ : s₂ = (({ U with heap := s₂.heap, slotsUsed := s₂.slotsUsed } : State).setVm s₂.vm).setTop { g with pc := g.pc + len₂, stack := v.toList ++ g.stack } := by
      refine e3.trans ?_
      rw [hf₂, State.calling_eq h.top, State.setFrames_setFrames, State.setTop_of_frames _ hr', hr]
      rfl
    have hsame : U.sameButNew ({ U with heap := s₂.heap, slotsUsed := s₂.slotsUsed } : State) L mc ms := by
      refine ⟨?_, q2, q3, q4, q5, q6⟩
      obtain ⟨t, ht, -⟩ := State.frames_cons hr
      show ({ U with heap := s₂.heap, slotsUsed := s₂.slotsUsed } : State) = { U.setFrames U.frames with heap := s₂.heap, slotsUsed := s₂.slotsUsed }
      rw [State.setFrames_self ht]
    subst hg
    refine Or.inl ⟨v, ⟨(({ U with heap := s₂.heap, slotsUsed := s₂.slotsUsed } : State).setVm s₂.vm), Ls ++ L, c0 + mc, s0 + ms⟩,
      ⟨X.admits, X.cas, X.clock, X.frames, X.room, X.hears, X.method, X.code, (X.here.setHeapUsed s₂.heap s₂.slotsUsed).setVm hW'.alike, X.tail, State.WarmedH.trans X.warmed hW', X.limits, X.bytes, X.same.trans (hsame.setVm s.vm)⟩,
      ⟨g, mk, s₂, L, rfl, rfl, hqc, rfl, hL, rfl, rfl⟩, ?_⟩
    show Steps p.tables e below _ ((({ U with heap := s₂.heap, slotsUsed := s₂.slotsUsed } : State).setVm s₂.vm).setTop { g with pc := g.pc + len₂, stack := v.toList ++ g.stack })
    rw [← hs₂]
    exact hsteps
  · obtain ⟨e2, q2, q3, q4, q5, q6⟩ := id hsm
    have e3 : s₂ = ({ (U.calling g mk a).setFrames s₂.frames with heap := s₂.heap, slotsUsed := s₂.slotsUsed } : State).setVm s₂.vm := by
      have : s₂ = ({ s₂ with vm := (U.calling g mk a).vm } : State).setVm s₂.vm := rfl
      rw [e2] at this
      exact this
    have hf₂ : s₂.frames = .throwing q :: .java g :: U.frames.tail := hend
    have hW' : U.WarmedH s₂.vm := hW₂
    have hs₂ : s₂ = ((({ U with heap := s₂.heap, slotsUsed := s₂.slotsUsed } : State).setVm s₂.vm).setTop g).pushFrame (.throwing q) := by
      refine e3.trans ?_
      rw [hf₂, State.calling_eq h.top, State.setFrames_setFrames, State.pushFrame, State.frames_setTop _ hr', State.setTop_of_frames _ hr', State.setFrames_setFrames, hr]
      rfl
    have hsame : U.sameButNew ({ U with heap := s₂.heap, slotsUsed := s₂.slotsUsed } : State) L mc ms := by
      refine ⟨?_, q2, q3, q4, q5, q6⟩
      obtain ⟨t, ht, -⟩ := State.frames_cons hr
      show ({ U with heap := s₂.heap, slotsUsed := s₂.slotsUsed } : State) = { U.setFrames U.frames with heap := s₂.heap, slotsUsed := s₂.slotsUsed }
      rw [State.setFrames_self ht]
    subst hg
    refine Or.inr ⟨q, ⟨(({ U with heap := s₂.heap, slotsUsed := s₂.slotsUsed } : State).setVm s₂.vm), Ls ++ L, c0 + mc, s0 + ms⟩,
      ⟨X.admits, X.cas, X.clock, X.frames, X.room, X.hears, X.method, X.code, (X.here.setHeapUsed s₂.heap s₂.slotsUsed).setVm hW'.alike, X.tail, State.WarmedH.trans X.warmed hW', X.limits, X.bytes, X.same.trans (hsame.setVm s.vm)⟩,
      ⟨g, mk, s₂, L, E, ce, rfl, rfl, hx, hce, hcv, hcl, rfl, hL, rfl, rfl⟩, ?_⟩
    show Steps p.tables e below _ (((({ U with heap := s₂.heap, slotsUsed := s₂.slotsUsed } : State).setVm s₂.vm).setTop g).pushFrame (.throwing q))
    rw [← hs₂]
    exact hsteps
end Payer
section Calls
variable {p : Program} {l : Launch} {e : Env} {R : Room} {s : State} {m : MethodId} {args : Array Value} {below : List Frame} {meth : Method} {c : Code} {T : State} {locs : List Loc} {cells slots : Nat}
theorem vx_callV (X : Stand p l e R s m args below meth c T locs cells slots) (hexec : p.tables.exec = Jvm.exec) {own C : String} {index : Nat} {y : MethodName} {bytes : ByteArray} {maxL : Nat} {ret : Option FieldType}
    (hown : s.vm.findClass own = some m.cls) (hlink : (Cond.methodLink own index y).before args s = true) (hinst : (Cond.instanceMethod y).before args s = true) (hsel : (Cond.selects C y y).before args s = true)
    (hcode : (Cond.code y bytes maxL ret).before args s = true) (hy : y.cls ≠ "java/lang/invoke/MethodHandle" ∧ y.cls ≠ "java/lang/invoke/VarHandle")
    {W9 : Nat} {Pre : Pt → Array Value → Prop} {Post : Pt → Array Value → Option Value → Pt → Prop} {PostX : Pt → Array Value → Addr → Pt → Prop} (hK : vx_Back l R p e below s args y 3 W9 Pre Post PostX)
    {b : Addr} {cellB : Cell} (hcell : T.heap[b]? = some cellB) (hobj : cellB.vm.isStatics = false) (hcls : s.vm.findClass C = some cellB.cls)
    {g : JFrame} (hg : g.method = m) (hsize : g.locals.size = c.maxLocals) {argsL rest : List Value} (hlen : ∀ sig, parseMethodDescriptor y.desc = some sig → argsL.length = sig.parameters.length)
    (hstack : g.stack = argsL.reverse ++ .ref b :: rest) (hW : 2 * g.monitorRoom + (rest.map fun v => v.category).sum ≤ W9) (hdg : decode c.code g.pc = .ok (.invokevirtual index, 3))
    (hpre : ∀ vm₁, s.WarmedH vm₁ → Pre ⟨T.setVm vm₁, locs, cells, slots⟩ (Value.ref b :: argsL).toArray) :
    (∃ (v : Option Value) (vm₁ : Vm) (B : Pt), s.WarmedH vm₁ ∧ Stand p l e R s m args below meth c B.U B.locs B.cells B.slots ∧ Post ⟨T.setVm vm₁, locs, cells, slots⟩ (Value.ref b :: argsL).toArray v B ∧
      ∀ target, Steps p.tables e below (B.U.setTop { g with pc := g.pc + 3, stack := v.toList ++ rest }) target → Steps p.tables e below (T.setTop g) target) ∨
    (∃ (q : Addr) (vm₁ : Vm) (B : Pt), s.WarmedH vm₁ ∧ Stand p l e R s m args below meth c B.U B.locs B.cells B.slots ∧ PostX ⟨T.setVm vm₁, locs, cells, slots⟩ (Value.ref b :: argsL).toArray q B ∧
      Steps p.tables e below (T.setTop g) ((B.U.setTop { g with stack := rest }).pushFrame (.throwing q))) := by
  obtain ⟨mk, methM, hnamed, hmethM, hstM, habM⟩ := Cond.instanceMethod_spec hinst
  obtain ⟨methM', cM, hmethM', -, -, -, -, -, -, hsigM⟩ := Cond.code_spec hnamed hcode
  cases hmethM.symm.trans hmethM'
  obtain ⟨c2, r2, m2, q1, q2, q3, q4, kP, hkP, hkPi⟩ := Cond.selects_spec hsel
  cases hcls.symm.trans q1
  cases (State.methodFound?_of_named hnamed hy).symm.trans q2
  cases hnamed.symm.trans q3
  have hselP : selectMethod e.platform s.vm cellB.cls mk = .method mk := by rw [Launch.admits_selectMethod X.admits]; exact q4
  obtain ⟨vm₁, X₁, hstep₁⟩ := X.invokevirtual hexec hown hlink hnamed hmethM hstM hkP hkPi hy (a := b) (cell := cellB) hcell
    (fun z h => by rw [h] at hobj; cases hobj) hselP hmethM habM hkP hkPi (g := g) hg (argsL := argsL) (rest := rest) (hlen _ hsigM) hstack hdg
  rcases hK m meth c ⟨T.setVm vm₁, locs, cells, slots⟩ { g with stack := rest } (.invokevirtual index) mk (Value.ref b :: argsL).toArray X₁ hg hsize hdg hW (X₁.named hnamed) (hpre vm₁ X₁.warmed) with ⟨v, B, X', hpost, hsteps⟩ | ⟨q, B, X', hpost, hsteps⟩
  · exact Or.inl ⟨v, vm₁, B, X₁.warmed, X', hpost, fun target h => hstep₁ _ fun acts => by rw [doInvoke_state]; exact hsteps.trans h⟩
  · exact Or.inr ⟨q, vm₁, B, X₁.warmed, X', hpost, hstep₁ _ fun acts => by rw [doInvoke_state]; exact hsteps⟩
theorem vx_callS (X : Stand p l e R s m args below meth c T locs cells slots) (hexec : p.tables.exec = Jvm.exec) {own : String} {index : Nat} {y : MethodName} {bytes : ByteArray} {maxL : Nat} {ret : Option FieldType}
    (hown : s.vm.findClass own = some m.cls) (hlink : (Cond.methodLink own index y).before args s = true) (hstat : (Cond.static y).before args s = true) (hinit : (Cond.initialized y.cls).before args s = true)
    (hcode : (Cond.code y bytes maxL ret).before args s = true) (hy : y.cls ≠ "java/lang/invoke/MethodHandle" ∧ y.cls ≠ "java/lang/invoke/VarHandle")
    {W9 : Nat} {Pre : Pt → Array Value → Prop} {Post : Pt → Array Value → Option Value → Pt → Prop} {PostX : Pt → Array Value → Addr → Pt → Prop} (hK : vx_Back l R p e below s args y 3 W9 Pre Post PostX)
    {g : JFrame} (hg : g.method = m) (hsize : g.locals.size = c.maxLocals) {argsL rest : List Value} (hlen : ∀ sig, parseMethodDescriptor y.desc = some sig → argsL.length = sig.parameters.length)
    (hstack : g.stack = argsL.reverse ++ rest) (hW : 2 * g.monitorRoom + (rest.map fun v => v.category).sum ≤ W9) (hdg : decode c.code g.pc = .ok (.invokestatic index, 3))
    (hpre : ∀ vm₁, s.WarmedH vm₁ → Pre ⟨T.setVm vm₁, locs, cells, slots⟩ argsL.toArray) :
    (∃ (v : Option Value) (vm₁ : Vm) (B : Pt), s.WarmedH vm₁ ∧ Stand p l e R s m args below meth c B.U B.locs B.cells B.slots ∧ Post ⟨T.setVm vm₁, locs, cells, slots⟩ argsL.toArray v B ∧
      ∀ target, Steps p.tables e below (B.U.setTop { g with pc := g.pc + 3, stack := v.toList ++ rest }) target → Steps p.tables e below (T.setTop g) target) ∨
    (∃ (q : Addr) (vm₁ : Vm) (B : Pt), s.WarmedH vm₁ ∧ Stand p l e R s m args below meth c B.U B.locs B.cells B.slots ∧ PostX ⟨T.setVm vm₁, locs, cells, slots⟩ argsL.toArray q B ∧
      Steps p.tables e below (T.setTop g) ((B.U.setTop { g with stack := rest }).pushFrame (.throwing q))) := by
  obtain ⟨mk, hnamed⟩ := Cond.code_named hcode
  obtain ⟨methM, cM, hmethM, -, -, -, -, -, -, hsigM⟩ := Cond.code_spec hnamed hcode
  have hstatic : methM.isStatic = true := Cond.static_spec hnamed hmethM hstat
  obtain ⟨kP, hkP, -⟩ := className_of_methodNamed hnamed
  have hinitP : kP.init = .initialized := Cond.initialized_spec (findClass_of_methodNamed hnamed) hkP hinit
  obtain ⟨vm₁, X₁, hstep₁⟩ := X.invokestatic hexec hown hlink hnamed hmethM hstatic hkP hinitP hy (g := g) hg (argsL := argsL) (rest := rest) (hlen _ hsigM) hstack hdg
  rcases hK m meth c ⟨T.setVm vm₁, locs, cells, slots⟩ { g with stack := rest } (.invokestatic index) mk argsL.toArray X₁ hg hsize hdg hW (X₁.named hnamed) (hpre vm₁ X₁.warmed) with ⟨v, B, X', hpost, hsteps⟩ | ⟨q, B, X', hpost, hsteps⟩
  · exact Or.inl ⟨v, vm₁, B, X₁.warmed, X', hpost, fun target h => hstep₁ _ fun acts => by rw [doInvoke_state]; exact hsteps.trans h⟩
  · exact Or.inr ⟨q, vm₁, B, X₁.warmed, X', hpost, hstep₁ _ fun acts => by rw [doInvoke_state]; exact hsteps⟩
end Calls
theorem vx_cls {s : State} {T : State} {vm₁ : Vm} {E : String} {k : ClassId} (hW : s.WarmedH vm₁) (h : (T.setVm vm₁).vm.findClass E = some k) : s.vm.findClass E = some k := by
  have h1 : vm₁.findClass E = some k := h
  rw [hW.alike.findClass] at h1
  exact h1
/-- the method's frame g, with q thrown over it -/
def vx_W (p : Program) (l : Launch) (e : Env) (R : Room) (s : State) (m : MethodId) (args : Array Value) (below : List Frame) (meth : Method) (c : Code) (H : Heap) (locs : List Loc) (cells slots : Nat) (Q : State → Prop) (g : JFrame) (q : Addr) : Prop :=
  ∀ T : State, T.heap = H → Stand p l e R s m args below meth c T locs cells slots → ∃ t, Steps p.tables e below ((T.setTop g).pushFrame (.throwing q)) t ∧ Q t
def vx_Run (p : Program) (l : Launch) (e : Env) (R : Room) (s : State) (m : MethodId) (args : Array Value) (below : List Frame) (meth : Method) (c : Code) (H : Heap) (locs : List Loc) (cells slots mc ms : Nat) (g : JFrame) (rest : List Value) (Qa : State → Outcome → State → Prop) (XC : String → State → State → Prop) (free : Addr → Prop) : Prop :=
  ∀ T : State, T.heap = H → Stand p l e R s m args below meth c T locs cells slots →
    (∃ (v : Option Value) (st₀ t T' : State) (L : List Loc), st₀.heap = H ∧ Stand p l e R s m args below meth c T' (locs ++ L) (cells + mc) (slots + ms) ∧ (∀ q ∈ L, free q.base) ∧ T'.heap = t.heap ∧ T'.vm = t.vm ∧ Qa st₀ (.returned v) t ∧
      Goes p e below T g T' { g with pc := g.pc + 3, stack := v.toList ++ rest }) ∨
    (∃ (q : Addr) (st₀ t T' : State) (L : List Loc) (E : String) (ce : Cell), st₀.heap = H ∧ Stand p l e R s m args below meth c T' (locs ++ L) (cells + mc) (slots + ms) ∧ (∀ z ∈ L, free z.base) ∧ T'.heap = t.heap ∧ T'.vm = t.vm ∧ XC E st₀ t ∧ t.heap[q]? = some ce ∧ ce.vm = .none ∧ s.vm.findClass E = some ce.cls ∧
      Steps p.tables e below (T.setTop g) ((T'.setTop { g with stack := rest }).pushFrame (.throwing q)))
def vx_X {S : Type} (px : S → Prop) (B : String → S → State → Prop) (A : Nat → Prop) : String → State → State → Prop := fun E st t => ∃ u : S, px u ∧ B E u t ∧ va_F A st t
section Runs
variable {p : Program} {l : Launch} {e : Env} {R : Room} {s : State} {m : MethodId} {args : Array Value} {below : List Frame} {meth : Method} {c : Code} {H : Heap} {locs : List Loc} {cells slots : Nat}
variable {y : MethodName} {bytes cc : ByteArray} {maxL nL mc ms n index : Nat} {ret : Option FieldType} {ws : List Cond} {rm : Room} {Pc : Array Value → State → Prop} {Qc : Array Value → State → Outcome → State → Prop} {XC : String → State → State → Prop} {free : Addr → Prop} {Ts : List Cond} {own C : String} {b : Addr} {As rest : List Value} {g : JFrame}
theorem vx_callBack (cb : CallB R s args own index y bytes maxL ret ws rm mc ms n) (hM : vx_Met l y ws rm Pc Qc XC mc ms free) (hbl : FrameBlind Pc) : vx_Back l R p e below s args y 3 8 (PreOf R mc ms Pc) (PostOf Qc mc ms free) (vx_Post XC mc ms free) := by
  obtain ⟨hrc, hrs, hfr, hlo, hws, hcw, -, hini, -⟩ := cb
  exact vx_back (bytes := bytes) (maxL := maxL) (ret := ret) hM hbl hrc hrs hfr hlo hws hcw (fun a' U hW => word_at hW (Or.inl (by first | rfl | simp [Cond.onTables, Cond.keeps, Cond.steady])) hini)
theorem vx_runV (S : CallFix p m c cc nL s args Ts own) (hM : vx_Met l y ws rm Pc Qc XC mc ms free) (cw : CallW R s args own C index y bytes maxL ret ws rm mc ms n) (hp : PreV s H C b Pc As)
    (hg : g.method = m) (hn : As.length = n) (hsize : g.locals.size = nL) (hstack : g.stack = As.reverse ++ .ref b :: rest) (hW : 2 * g.monitorRoom + (rest.map fun v => v.category).sum ≤ 8) (hdg : decode cc g.pc = .ok (.invokevirtual index, 3)) (hf : cells + mc ≤ R.cells ∧ slots + ms ≤ R.slots) :
    vx_Run p l e R s m args below meth c H locs cells slots mc ms g rest (Qc (Value.ref b :: As).toArray) XC free := by
  have hK : vx_Back l R p e below s args y 3 8 (PreOf R mc ms Pc) (PostOf Qc mc ms free) (vx_Post XC mc ms free) := vx_callBack cw.1 hM hp.1
  obtain ⟨⟨-, -, -, -, -, -, hcode, -, hy, hlen, hl⟩, hin, hse⟩ := cw
  obtain ⟨hx, hb, hml, ho, -⟩ := S
  obtain ⟨-, ⟨cellB, hcB, hoB, hclB⟩, hPc⟩ := hp
  intro T hT X
  rcases vx_callV X hx (C := C) (bytes := bytes) (maxL := maxL) (ret := ret) ho hl hin hse hcode hy hK (by rw [hT]; exact hcB) hoB hclB hg (hsize.trans hml.symm) (argsL := As) (rest := rest) (fun sig h => hn.trans (hlen sig h)) hstack hW (by rw [hb]; exact hdg)
    (fun vm₁ hW₁ => ⟨hf.1, hf.2, hPc (T.setVm vm₁) hT hW₁⟩) with ⟨v, vm₁, ⟨U', l2, c2, s2⟩, hW₁, X', ⟨g', mk, t, L, e1, e2, hq, h1, hL, h2, h3⟩, st⟩ | ⟨q, vm₁, ⟨U', l2, c2, s2⟩, hW₁, X', ⟨g', mk, t, L, E, ce, e1, e2, hq, hce, hcv, hcl, h1, hL, h2, h3⟩, st⟩
  · dsimp only [Pt.U, Pt.locs, Pt.cells, Pt.slots] at X' e1 e2 h1 h2 h3 st
    subst h1; subst h2; subst h3
    exact Or.inl ⟨v, (T.setVm vm₁).calling g' mk (Value.ref b :: As).toArray, t, U', L, hT, X', hL, e1, e2, hq, st⟩
  · dsimp only [Pt.U, Pt.locs, Pt.cells, Pt.slots] at X' e1 e2 h1 h2 h3 st hcl
    subst h1; subst h2; subst h3
    exact Or.inr ⟨q, (T.setVm vm₁).calling g' mk (Value.ref b :: As).toArray, t, U', L, E, ce, hT, X', hL, e1, e2, hq, hce, hcv, vx_cls hW₁ hcl, st⟩
theorem vx_runS (S : CallFix p m c cc nL s args Ts own) (hM : vx_Met l y ws rm Pc Qc XC mc ms free) (cw : CallB R s args own index y bytes maxL ret ws rm mc ms n ∧ (Cond.static y).before args s = true) (hp : PreS s H Pc As)
    (hg : g.method = m) (hn : As.length = n) (hsize : g.locals.size = nL) (hstack : g.stack = As.reverse ++ rest) (hW : 2 * g.monitorRoom + (rest.map fun v => v.category).sum ≤ 8) (hdg : decode cc g.pc = .ok (.invokestatic index, 3)) (hf : cells + mc ≤ R.cells ∧ slots + ms ≤ R.slots) :
    vx_Run p l e R s m args below meth c H locs cells slots mc ms g rest (Qc As.toArray) XC free := by
  have hK : vx_Back l R p e below s args y 3 8 (PreOf R mc ms Pc) (PostOf Qc mc ms free) (vx_Post XC mc ms free) := vx_callBack cw.1 hM hp.1
  obtain ⟨⟨-, -, -, -, -, -, hcode, hini, hy, hlen, hl⟩, hstt⟩ := cw
  obtain ⟨hx, hb, hml, ho, -⟩ := S
  intro T hT X
  rcases vx_callS X hx (bytes := bytes) (maxL := maxL) (ret := ret) ho hl hstt hini hcode hy hK hg (hsize.trans hml.symm) (argsL := As) (rest := rest) (fun sig h => hn.trans (hlen sig h)) hstack hW (by rw [hb]; exact hdg)
    (fun vm₁ hW₁ => ⟨hf.1, hf.2, hp.2 (T.setVm vm₁) hT hW₁⟩) with ⟨v, vm₁, ⟨U', l2, c2, s2⟩, hW₁, X', ⟨g', mk, t, L, e1, e2, hq, h1, hL, h2, h3⟩, st⟩ | ⟨q, vm₁, ⟨U', l2, c2, s2⟩, hW₁, X', ⟨g', mk, t, L, E, ce, e1, e2, hq, hce, hcv, hcl, h1, hL, h2, h3⟩, st⟩
  · dsimp only [Pt.U, Pt.locs, Pt.cells, Pt.slots] at X' e1 e2 h1 h2 h3 st
    subst h1; subst h2; subst h3
    exact Or.inl ⟨v, (T.setVm vm₁).calling g' mk As.toArray, t, U', L, hT, X', hL, e1, e2, hq, st⟩
  · dsimp only [Pt.U, Pt.locs, Pt.cells, Pt.slots] at X' e1 e2 h1 h2 h3 st hcl
    subst h1; subst h2; subst h3
    exact Or.inr ⟨q, (T.setVm vm₁).calling g' mk As.toArray, t, U', L, E, ce, hT, X', hL, e1, e2, hq, hce, hcv, vx_cls hW₁ hcl, st⟩
end Runs
section Rows
variable {p : Program} {l : Launch} {e : Env} {R : Room} {s : State} {m : MethodId} {args : Array Value} {below : List Frame} {meth : Method} {c : Code} {H : Heap} {locs : List Loc} {cells slots : Nat} {Q : State → Prop}
variable {mc ms : Nat} {free : Addr → Prop} {A0 A1 : Nat → Prop} {H0 : Heap} {a : Array Value} {pc : Nat} {ls : Array Slot} {st0 rest : List Value}
theorem vx_keep {st₀ t T' : State} {L : List Loc} (h0 : st₀.heap = H) (e1 : T'.heap = t.heap) (hS : va_S A0 H0 H locs) (hA : ∀ q, q < H.size → A1 q → A0 q) (hf : ∀ q, free q → A0 q) (hL : ∀ q ∈ L, free q.base) (hF : va_F A1 st₀ t) :
    H.size ≤ T'.heap.size ∧ (∀ q : Nat, q < H.size → ¬ A1 q → T'.heap[q]? = H[q]?) ∧ va_S A0 H0 T'.heap (locs ++ L) := by
  obtain ⟨hz, hk⟩ := hF
  rw [h0] at hz hk
  exact ⟨by rw [e1]; exact hz, fun q h1 h2 => by rw [e1]; exact hk q h1 h2,
    ⟨Nat.le_trans hS.1 (by rw [e1]; exact hz), fun q h1 h2 => by rw [e1, hk q (Nat.lt_of_lt_of_le h1 hS.1) (fun z => h2 (hA q (Nat.lt_of_lt_of_le h1 hS.1) z))]; exact hS.2.1 q h1 h2, fun q hq => by
      rcases List.mem_append.mp hq with h | h
      · exact hS.2.2 q h
      · exact hf _ (hL q h)⟩⟩
theorem vx_calli {S SX : Type} {post : Int32 → S → Prop} {px : SX → Prop} {B : S → State → Prop} {BX : String → SX → State → Prop} {AX : Nat → Prop} (hr : vx_Run p l e R s m args below meth c H locs cells slots mc ms (F0 m pc ls st0) rest (va_Qi post B A1 a) (vx_X px BX AX) free) (hS : va_S A0 H0 H locs) (hA : ∀ q, q < H.size → A1 q → A0 q) (hf : ∀ q, free q → A0 q) (hAX : ∀ q, q < H.size → AX q → A0 q)
    (kx : ∀ (E : String) (ce : Cell) (q9 : Addr) (u : SX) (t : State) (H1 : Heap) (locs1 : List Loc), t.heap = H1 → s.vm.Alike t.vm → px u → BX E u t → H.size ≤ H1.size → (∀ q : Nat, q < H.size → ¬ AX q → H1[q]? = H[q]?) → va_S A0 H0 H1 locs1 → H1[q9]? = some ce → ce.vm = .none → s.vm.findClass E = some ce.cls → vx_W p l e R s m args below meth c H1 locs1 (cells + mc) (slots + ms) Q (F0 m pc ls rest) q9)
    (kk : ∀ (r : Int32) (u : S) (t : State) (H1 : Heap) (locs1 : List Loc), t.heap = H1 → s.vm.Alike t.vm → post r u → B u t → H.size ≤ H1.size → (∀ q : Nat, q < H.size → ¬ A1 q → H1[q]? = H[q]?) → va_S A0 H0 H1 locs1 → W p l e R s m args below meth c H1 locs1 (cells + mc) (slots + ms) Q (F0 m (pc + 3) ls (.int r :: rest))) : W p l e R s m args below meth c H locs cells slots Q (F0 m pc ls st0) := by
  intro T hT X
  rcases hr T hT X with ⟨v, st₀, t, T', L, h0, X', hL, e1, e2, ⟨⟨r, u, hv, hp, hb⟩, hF⟩, st⟩ | ⟨q, st₀, t, T', L, E, ce, h0, X', hL, e1, e2, ⟨u, hp, hb, hF⟩, hce, hcv, hcl, st⟩
  · cases hv
    obtain ⟨k1, k2, k3⟩ := vx_keep h0 e1 hS hA hf hL hF
    obtain ⟨t2, a1, b1⟩ := kk r u t T'.heap (locs ++ L) e1.symm (by rw [← e2]; exact X'.warmed.alike) hp hb k1 k2 k3 T' rfl X'
    exact ⟨t2, st t2 a1, b1⟩
  · obtain ⟨k1, k2, k3⟩ := vx_keep h0 e1 hS hAX hf hL hF
    obtain ⟨t2, a1, b1⟩ := kx E ce q u t T'.heap (locs ++ L) e1.symm (by rw [← e2]; exact X'.warmed.alike) hp hb k1 k2 k3 (by rw [e1]; exact hce) hcv hcl T' rfl X'
    exact ⟨t2, st.trans a1, b1⟩
theorem vx_calll {S SX : Type} {post : Int64 → S → Prop} {px : SX → Prop} {B : S → State → Prop} {BX : String → SX → State → Prop} {AX : Nat → Prop} (hr : vx_Run p l e R s m args below meth c H locs cells slots mc ms (F0 m pc ls st0) rest (va_Ql post B A1 a) (vx_X px BX AX) free) (hS : va_S A0 H0 H locs) (hA : ∀ q, q < H.size → A1 q → A0 q) (hf : ∀ q, free q → A0 q) (hAX : ∀ q, q < H.size → AX q → A0 q)
    (kx : ∀ (E : String) (ce : Cell) (q9 : Addr) (u : SX) (t : State) (H1 : Heap) (locs1 : List Loc), t.heap = H1 → s.vm.Alike t.vm → px u → BX E u t → H.size ≤ H1.size → (∀ q : Nat, q < H.size → ¬ AX q → H1[q]? = H[q]?) → va_S A0 H0 H1 locs1 → H1[q9]? = some ce → ce.vm = .none → s.vm.findClass E = some ce.cls → vx_W p l e R s m args below meth c H1 locs1 (cells + mc) (slots + ms) Q (F0 m pc ls rest) q9)
    (kk : ∀ (r : Int64) (u : S) (t : State) (H1 : Heap) (locs1 : List Loc), t.heap = H1 → s.vm.Alike t.vm → post r u → B u t → H.size ≤ H1.size → (∀ q : Nat, q < H.size → ¬ A1 q → H1[q]? = H[q]?) → va_S A0 H0 H1 locs1 → W p l e R s m args below meth c H1 locs1 (cells + mc) (slots + ms) Q (F0 m (pc + 3) ls (.long r :: rest))) : W p l e R s m args below meth c H locs cells slots Q (F0 m pc ls st0) := by
  intro T hT X
  rcases hr T hT X with ⟨v, st₀, t, T', L, h0, X', hL, e1, e2, ⟨⟨r, u, hv, hp, hb⟩, hF⟩, st⟩ | ⟨q, st₀, t, T', L, E, ce, h0, X', hL, e1, e2, ⟨u, hp, hb, hF⟩, hce, hcv, hcl, st⟩
  · cases hv
    obtain ⟨k1, k2, k3⟩ := vx_keep h0 e1 hS hA hf hL hF
    obtain ⟨t2, a1, b1⟩ := kk r u t T'.heap (locs ++ L) e1.symm (by rw [← e2]; exact X'.warmed.alike) hp hb k1 k2 k3 T' rfl X'
    exact ⟨t2, st t2 a1, b1⟩
  · obtain ⟨k1, k2, k3⟩ := vx_keep h0 e1 hS hAX hf hL hF
    obtain ⟨t2, a1, b1⟩ := kx E ce q u t T'.heap (locs ++ L) e1.symm (by rw [← e2]; exact X'.warmed.alike) hp hb k1 k2 k3 (by rw [e1]; exact hce) hcv hcl T' rfl X'
    exact ⟨t2, st.trans a1, b1⟩
theorem vx_callf {S SX : Type} {post : UInt32 → S → Prop} {px : SX → Prop} {B : S → State → Prop} {BX : String → SX → State → Prop} {AX : Nat → Prop} (hr : vx_Run p l e R s m args below meth c H locs cells slots mc ms (F0 m pc ls st0) rest (va_Qf post B A1 a) (vx_X px BX AX) free) (hS : va_S A0 H0 H locs) (hA : ∀ q, q < H.size → A1 q → A0 q) (hf : ∀ q, free q → A0 q) (hAX : ∀ q, q < H.size → AX q → A0 q)
    (kx : ∀ (E : String) (ce : Cell) (q9 : Addr) (u : SX) (t : State) (H1 : Heap) (locs1 : List Loc), t.heap = H1 → s.vm.Alike t.vm → px u → BX E u t → H.size ≤ H1.size → (∀ q : Nat, q < H.size → ¬ AX q → H1[q]? = H[q]?) → va_S A0 H0 H1 locs1 → H1[q9]? = some ce → ce.vm = .none → s.vm.findClass E = some ce.cls → vx_W p l e R s m args below meth c H1 locs1 (cells + mc) (slots + ms) Q (F0 m pc ls rest) q9)
    (kk : ∀ (r : UInt32) (u : S) (t : State) (H1 : Heap) (locs1 : List Loc), t.heap = H1 → s.vm.Alike t.vm → post r u → B u t → H.size ≤ H1.size → (∀ q : Nat, q < H.size → ¬ A1 q → H1[q]? = H[q]?) → va_S A0 H0 H1 locs1 → W p l e R s m args below meth c H1 locs1 (cells + mc) (slots + ms) Q (F0 m (pc + 3) ls (.float r :: rest))) : W p l e R s m args below meth c H locs cells slots Q (F0 m pc ls st0) := by
  intro T hT X
  rcases hr T hT X with ⟨v, st₀, t, T', L, h0, X', hL, e1, e2, ⟨⟨r, u, hv, hp, hb⟩, hF⟩, st⟩ | ⟨q, st₀, t, T', L, E, ce, h0, X', hL, e1, e2, ⟨u, hp, hb, hF⟩, hce, hcv, hcl, st⟩
  · cases hv
    obtain ⟨k1, k2, k3⟩ := vx_keep h0 e1 hS hA hf hL hF
    obtain ⟨t2, a1, b1⟩ := kk r u t T'.heap (locs ++ L) e1.symm (by rw [← e2]; exact X'.warmed.alike) hp hb k1 k2 k3 T' rfl X'
    exact ⟨t2, st t2 a1, b1⟩
  · obtain ⟨k1, k2, k3⟩ := vx_keep h0 e1 hS hAX hf hL hF
    obtain ⟨t2, a1, b1⟩ := kx E ce q u t T'.heap (locs ++ L) e1.symm (by rw [← e2]; exact X'.warmed.alike) hp hb k1 k2 k3 (by rw [e1]; exact hce) hcv hcl T' rfl X'
    exact ⟨t2, st.trans a1, b1⟩
theorem vx_calld {S SX : Type} {post : UInt64 → S → Prop} {px : SX → Prop} {B : S → State → Prop} {BX : String → SX → State → Prop} {AX : Nat → Prop} (hr : vx_Run p l e R s m args below meth c H locs cells slots mc ms (F0 m pc ls st0) rest (va_Qd post B A1 a) (vx_X px BX AX) free) (hS : va_S A0 H0 H locs) (hA : ∀ q, q < H.size → A1 q → A0 q) (hf : ∀ q, free q → A0 q) (hAX : ∀ q, q < H.size → AX q → A0 q)
    (kx : ∀ (E : String) (ce : Cell) (q9 : Addr) (u : SX) (t : State) (H1 : Heap) (locs1 : List Loc), t.heap = H1 → s.vm.Alike t.vm → px u → BX E u t → H.size ≤ H1.size → (∀ q : Nat, q < H.size → ¬ AX q → H1[q]? = H[q]?) → va_S A0 H0 H1 locs1 → H1[q9]? = some ce → ce.vm = .none → s.vm.findClass E = some ce.cls → vx_W p l e R s m args below meth c H1 locs1 (cells + mc) (slots + ms) Q (F0 m pc ls rest) q9)
    (kk : ∀ (r : UInt64) (u : S) (t : State) (H1 : Heap) (locs1 : List Loc), t.heap = H1 → s.vm.Alike t.vm → post r u → B u t → H.size ≤ H1.size → (∀ q : Nat, q < H.size → ¬ A1 q → H1[q]? = H[q]?) → va_S A0 H0 H1 locs1 → W p l e R s m args below meth c H1 locs1 (cells + mc) (slots + ms) Q (F0 m (pc + 3) ls (.double r :: rest))) : W p l e R s m args below meth c H locs cells slots Q (F0 m pc ls st0) := by
  intro T hT X
  rcases hr T hT X with ⟨v, st₀, t, T', L, h0, X', hL, e1, e2, ⟨⟨r, u, hv, hp, hb⟩, hF⟩, st⟩ | ⟨q, st₀, t, T', L, E, ce, h0, X', hL, e1, e2, ⟨u, hp, hb, hF⟩, hce, hcv, hcl, st⟩
  · cases hv
    obtain ⟨k1, k2, k3⟩ := vx_keep h0 e1 hS hA hf hL hF
    obtain ⟨t2, a1, b1⟩ := kk r u t T'.heap (locs ++ L) e1.symm (by rw [← e2]; exact X'.warmed.alike) hp hb k1 k2 k3 T' rfl X'
    exact ⟨t2, st t2 a1, b1⟩
  · obtain ⟨k1, k2, k3⟩ := vx_keep h0 e1 hS hAX hf hL hF
    obtain ⟨t2, a1, b1⟩ := kx E ce q u t T'.heap (locs ++ L) e1.symm (by rw [← e2]; exact X'.warmed.alike) hp hb k1 k2 k3 (by rw [e1]; exact hce) hcv hcl T' rfl X'
    exact ⟨t2, st.trans a1, b1⟩
theorem vx_callv {S SX : Type} {post : S → Prop} {px : SX → Prop} {B : S → State → Prop} {BX : String → SX → State → Prop} {AX : Nat → Prop} (hr : vx_Run p l e R s m args below meth c H locs cells slots mc ms (F0 m pc ls st0) rest (va_Qv post B A1 a) (vx_X px BX AX) free) (hS : va_S A0 H0 H locs) (hA : ∀ q, q < H.size → A1 q → A0 q) (hf : ∀ q, free q → A0 q) (hAX : ∀ q, q < H.size → AX q → A0 q)
    (kx : ∀ (E : String) (ce : Cell) (q9 : Addr) (u : SX) (t : State) (H1 : Heap) (locs1 : List Loc), t.heap = H1 → s.vm.Alike t.vm → px u → BX E u t → H.size ≤ H1.size → (∀ q : Nat, q < H.size → ¬ AX q → H1[q]? = H[q]?) → va_S A0 H0 H1 locs1 → H1[q9]? = some ce → ce.vm = .none → s.vm.findClass E = some ce.cls → vx_W p l e R s m args below meth c H1 locs1 (cells + mc) (slots + ms) Q (F0 m pc ls rest) q9)
    (kk : ∀ (u : S) (t : State) (H1 : Heap) (locs1 : List Loc), t.heap = H1 → s.vm.Alike t.vm → post u → B u t → H.size ≤ H1.size → (∀ q : Nat, q < H.size → ¬ A1 q → H1[q]? = H[q]?) → va_S A0 H0 H1 locs1 → W p l e R s m args below meth c H1 locs1 (cells + mc) (slots + ms) Q (F0 m (pc + 3) ls (rest))) : W p l e R s m args below meth c H locs cells slots Q (F0 m pc ls st0) := by
  intro T hT X
  rcases hr T hT X with ⟨v, st₀, t, T', L, h0, X', hL, e1, e2, ⟨⟨u, hv, hp, hb⟩, hF⟩, st⟩ | ⟨q, st₀, t, T', L, E, ce, h0, X', hL, e1, e2, ⟨u, hp, hb, hF⟩, hce, hcv, hcl, st⟩
  · cases hv
    obtain ⟨k1, k2, k3⟩ := vx_keep h0 e1 hS hA hf hL hF
    obtain ⟨t2, a1, b1⟩ := kk u t T'.heap (locs ++ L) e1.symm (by rw [← e2]; exact X'.warmed.alike) hp hb k1 k2 k3 T' rfl X'
    exact ⟨t2, st t2 a1, b1⟩
  · obtain ⟨k1, k2, k3⟩ := vx_keep h0 e1 hS hAX hf hL hF
    obtain ⟨t2, a1, b1⟩ := kx E ce q u t T'.heap (locs ++ L) e1.symm (by rw [← e2]; exact X'.warmed.alike) hp hb k1 k2 k3 (by rw [e1]; exact hce) hcv hcl T' rfl X'
    exact ⟨t2, st.trans a1, b1⟩
/-- caught by the row x of this method's table; the rows ahead don't take it -/
theorem vx_catch {own name : String} {E : String} {ce : Cell} {q : Addr} (hown : s.vm.findClass own = some m.cls) (pre : List ExceptionTableEntry) (x : ExceptionTableEntry) (suf : List ExceptionTableEntry) (hsplit : c.exceptionTable.toList = pre ++ x :: suf)
    (hpass : ∀ z ∈ pre, covers z pc = false ∨ (z.catchType ≠ 0 ∧ ∃ nm : String, (Cond.classLink own z.catchType nm).before args s = true ∧ va_Nc E nm s)) (hx : covers x pc = true) (h0 : x.catchType ≠ 0)
    (hlink : (Cond.classLink own x.catchType name).before args s = true) (hcast : (Cond.castable E name).before args s = true) (hcell : H[q]? = some ce) (hv : ce.vm = .none) (hcl : s.vm.findClass E = some ce.cls)
    (kk : W p l e R s m args below meth c H locs cells slots Q (F0 m x.handlerPc ls [.ref q])) : vx_W p l e R s m args below meth c H locs cells slots Q (F0 m pc ls rest) q := by
  intro T hT X
  have hpl : e.platform.magicAccessors = ({} : Platform).magicAccessors := by rw [X.admits.platform]
  obtain ⟨c3, c4, hc3, hc4, hasg⟩ := Cond.castable_spec hcast
  cases Option.some.inj (hc3.symm.trans hcl)
  obtain ⟨c5, hc5, hcl5⟩ := Cond.classLink_spec hown hlink e.platform hpl
  cases Option.some.inj (hc4.symm.trans hc5)
  obtain ⟨vm', X', st⟩ := X.thenCaughtThrough q (g := F0 m pc ls rest) rfl (Steps.refl _) (by rw [hT]; exact hcell) (by rw [hv]; rfl) (by obtain ⟨k9, h9, -⟩ := Vm.findClass_spec hcl; exact ⟨k9, h9⟩) pre x suf hsplit
    (fun z hz => by
      rcases hpass z hz with h | ⟨hz0, nm, hl1, hn1⟩
      · exact Or.inl h
      · obtain ⟨c6, hc6, hcl6⟩ := Cond.classLink_spec hown hl1 e.platform hpl
        obtain ⟨a8, b8, h1, h2, h3⟩ := hn1
        cases Option.some.inj (h1.symm.trans hcl)
        cases Option.some.inj (h2.symm.trans hc6)
        exact Or.inr ⟨hz0, _, hcl6, h3⟩) hx (Or.inr ⟨h0, c4, hcl5, hasg⟩)
  obtain ⟨t, a1, b1⟩ := kk (T.setVm vm') hT X'
  exact ⟨t, st.trans a1, b1⟩
end Rows
section Ends
variable {p : Program} {l : Launch} {e : Env} {R : Room} {s : State} {m : MethodId} {args : Array Value} {below : List Frame} {meth : Method} {c : Code} {H : Heap} {locs : List Loc} {cells slots : Nat} {Q : State → Prop}
variable {mc ms : Nat} {free : Addr → Prop} {A0 A1 : Nat → Prop} {H0 : Heap} {a : Array Value} {ls : Array Slot} {st0 rest : List Value}
variable {Qc : Array Value → State → Outcome → State → Prop} {XC : String → State → State → Prop}
/-- what a body that may throw owes at its end -/
def vx_MQ (below : List Frame) (Qc : Array Value → State → Outcome → State → Prop) (XC : String → State → State → Prop) (a : Array Value) (s : State) (mc ms : Nat) (free : Addr → Prop) : State → Prop := fun t =>
  ∃ o, t.status = .running ∧ Ended t below o ∧ vx_Q Qc XC mc ms free a s o t
theorem vx_ret {g : JFrame} {mc ms : Nat} (k : W p l e R s m args below meth c H locs cells slots (MQ below Qc args s mc ms free) g) : W p l e R s m args below meth c H locs cells slots (vx_MQ below Qc XC args s mc ms free) g := by
  intro T hT X
  obtain ⟨t, a1, o, b1, b2, b3, b4⟩ := k T hT X
  exact ⟨t, a1, o, b1, b2, Or.inl ⟨b3, b4⟩⟩
/-- not caught here: it goes on to the caller -/
theorem vx_widen {g : JFrame} {q : Addr} {k n : Nat} (h1 : cells ≤ k) (h2 : slots ≤ n) (kk : vx_W p l e R s m args below meth c H locs k n Q g q) : vx_W p l e R s m args below meth c H locs cells slots Q g q := fun T hT X => kk T hT (stand_widen X h1 h2)
theorem vx_out {pc : Nat} {E : String} {ce : Cell} {q : Addr} {mc ms : Nat} (hout : ∀ x ∈ c.exceptionTable.toList, covers x pc = false) (hlocks : meth.locks = false) (hcell : H[q]? = some ce) (hv : ce.vm = .none) (hcl : s.vm.findClass E = some ce.cls)
    (hx : ∀ t : State, t.heap = H → s.vm.Alike t.vm → XC E s t) (hf : ∀ z ∈ locs, free z.base) (hc : cells ≤ mc) (hs : slots ≤ ms) :
    vx_W p l e R s m args below meth c H locs cells slots (vx_MQ below Qc XC args s mc ms free) (F0 m pc ls rest) q := by
  intro T hT X
  obtain ⟨st1, hrun, hend, hW, hsm⟩ := X.leaveThrown q (g := F0 m pc ls rest) rfl rfl rfl hout hlocks
  have hcell9 : (T.setFrames (.throwing q :: below)).heap[q]? = some ce := by
    show T.heap[q]? = some ce
    rw [hT]; exact hcell
  exact ⟨_, st1, .threw q, hrun, hend, Or.inr ⟨q, rfl, E, ce, locs, hx _ hT hW.alike, hcell9, hv, hcl, hW, hsm.mono hc hs, hf⟩⟩
theorem vx_frame {U : State} {k n : Nat} (h : s.sameButNew ({ U with vm := s.vm } : State) locs k n) : s.heap.size ≤ U.heap.size ∧ ∀ q : Nat, q < s.heap.size → (∀ z ∈ locs, z.base ≠ q) → U.heap[q]? = s.heap[q]? := by
  obtain ⟨-, h2, -, -, -, h6⟩ := h
  refine ⟨h2, fun q hq hz => ?_⟩
  obtain ⟨c9, e1, e2, e3, e4⟩ := h6 q _ (Array.getElem?_eq_getElem hq)
  have hs : c9.slots = (s.heap[q]).slots := Array.ext_getElem? fun i => e4 i fun hm => hz _ hm rfl
  have h9 : c9 = s.heap[q] := by
    rw [hs] at e2
    exact e2
  have e5 : U.heap[q]? = some c9 := e1
  rw [e5, h9, Array.getElem?_eq_getElem hq]
/-- the words of a throw but the four that speak of the heap -/
def vx_no (w : Cond) : Bool := decide (w ≠ .isRef (.static Bundle.tN "UNASSIGNED_STACK" Bundle.steD)) && decide (w ≠ .isRef (.static Bundle.tN "SUPPRESSED_SENTINEL" Bundle.listD)) && decide (w ≠ .laysStatic Bundle.tN "UNASSIGNED_STACK" Bundle.steD) && decide (w ≠ .laysStatic Bundle.tN "SUPPRESSED_SENTINEL" Bundle.listD)
def vx_at0 (own : String) (ic : Nat) (X : String) (names : List String) : List Cond := (Bundle.ownAtoms0 own ic X names).filter vx_no
def vx_atS (own : String) (ic : Nat) (X : String) (names : List String) : List Cond := (Bundle.ownAtoms own ic X names).filter vx_no
/-- a word that the tables alone decide, or a good one -/
def vx_ot (w : Cond) : Bool := w.onTables || goodWord w
theorem vx_ot_at {args a' : Array Value} {s U : State} {w : Cond} (hW : s.WarmedH U.vm) (hvm : s.vm = U.vm) (hg : vx_ot w = true) (h : w.before args s = true) : w.before a' U = true := by
  simp only [vx_ot, Bool.or_eq_true] at hg
  rcases hg with hg | hg
  · exact va_tabs hg hvm h
  · exact word_at hW (good_of_word hg) h
/-- a list's words: the good ones out of the method's own list, the others by premises of their own -/
theorem vx_hat {args : Array Value} {s : State} {L B : List Cond} (h1 : ∀ w ∈ L.filter goodWord, w.before args s = true) (h2 : ∀ w ∈ L.filter (fun w => !goodWord w), w ∈ B) (h3 : ∀ w ∈ B, w.before args s = true) : ∀ w ∈ L, w.before args s = true := by
  intro w hw
  by_cases g : goodWord w = true
  · exact h1 w (List.mem_filter.mpr ⟨hw, g⟩)
  · refine h3 w (h2 w (List.mem_filter.mpr ⟨hw, ?_⟩))
    show (!goodWord w) = true
    cases hgw : goodWord w
    · rfl
    · exact absurd hgw g
theorem vx_c {args : Array Value} {s : State} {w : Cond} {B : List Cond} (h : w.before args s = true) (t : ∀ w ∈ B, w.before args s = true) : ∀ w' ∈ w :: B, w'.before args s = true := fun w' h' => (List.mem_cons.mp h').elim (fun e => by rw [e]; exact h) (t w')
theorem vx_n {args : Array Value} {s : State} : ∀ w ∈ ([] : List Cond), w.before args s = true := fun _ h => nomatch h
theorem vx_own {args : Array Value} {s : State} {L : List Cond} (h1 : ∀ w ∈ L.filter vx_no, w.before args s = true)
    (hU : (Cond.isRef (.static Bundle.tN "UNASSIGNED_STACK" Bundle.steD)).before args s = true) (hN : (Cond.isRef (.static Bundle.tN "SUPPRESSED_SENTINEL" Bundle.listD)).before args s = true)
    (lU : (Cond.laysStatic Bundle.tN "UNASSIGNED_STACK" Bundle.steD).before args s = true) (lN : (Cond.laysStatic Bundle.tN "SUPPRESSED_SENTINEL" Bundle.listD).before args s = true) : ∀ w ∈ L, w.before args s = true := by
  intro w hw
  by_cases e1 : w = .isRef (.static Bundle.tN "UNASSIGNED_STACK" Bundle.steD)
  · rw [e1]; exact hU
  · by_cases e2 : w = .isRef (.static Bundle.tN "SUPPRESSED_SENTINEL" Bundle.listD)
    · rw [e2]; exact hN
    · by_cases e3 : w = .laysStatic Bundle.tN "UNASSIGNED_STACK" Bundle.steD
      · rw [e3]; exact lU
      · by_cases e4 : w = .laysStatic Bundle.tN "SUPPRESSED_SENTINEL" Bundle.listD
        · rw [e4]; exact lN
        · exact h1 w (List.mem_filter.mpr ⟨hw, by unfold vx_no; rw [decide_eq_true e1, decide_eq_true e2, decide_eq_true e3, decide_eq_true e4]; rfl⟩)
/-- where a static field lies, its class's statics cell in H -/
def vx_L (C n d : String) (A : Nat → Prop) (U : State) (H : Heap) : Prop := ∃ (c : ClassId) (k : Class) (i : Nat) (f : Field) (a : Nat) (cell : Cell), U.vm.findClass C = some c ∧ U.fieldFound? C n d = some (c, k, i, f) ∧ f.isStatic = true ∧ k.statics = some a ∧ H[a]? = some cell ∧ cell.vm.isStatics = true ∧ cell.cls = c ∧ f.slot < cell.slots.size ∧ k.staticTypes[f.slot]? = some f.type ∧ ¬ A a
theorem vx_L.moved {C n d : String} {A : Nat → Prop} {u U : State} {H : Heap} (hvm : u.vm.Alike U.vm) (h : vx_L C n d A u H) : vx_L C n d A U H := by
  obtain ⟨c, k, i, f, a, cell, h1, h2, h3, h4, h5, h6, h7, h8, h9, h10⟩ := h
  obtain ⟨k', hi', he⟩ := State.fieldFound?_setVm hvm h2
  exact ⟨c, k', i, f, a, cell, by rw [hvm.findClass]; exact h1, hi', h3, by rw [he]; exact h4, h5, h6, h7, h8, by rw [he]; exact h9, h10⟩
theorem vx_L.kept {C n d : String} {A : Nat → Prop} {U : State} {H H1 : Heap} (h : vx_L C n d A U H) (hq : ∀ a : Nat, a < H.size → ¬ A a → H1[a]? = H[a]?) : vx_L C n d A U H1 := by
  obtain ⟨c, k, i, f, a, cell, h1, h2, h3, h4, h5, h6, h7, h8, h9, h10⟩ := h
  exact ⟨c, k, i, f, a, cell, h1, h2, h3, h4, by rw [hq a (Array.getElem?_eq_some_iff.mp h5).1 h10]; exact h5, h6, h7, h8, h9, h10⟩
theorem vx_L.narrow {C n d : String} {A B : Nat → Prop} {U : State} {H : Heap} (h : vx_L C n d A U H) (hAB : ∀ q, B q → A q) : vx_L C n d B U H := by
  obtain ⟨c, k, i, f, a, cell, h1, h2, h3, h4, h5, h6, h7, h8, h9, h10⟩ := h
  exact ⟨c, k, i, f, a, cell, h1, h2, h3, h4, h5, h6, h7, h8, h9, fun z => h10 (hAB _ z)⟩
theorem vx_L.word {C n d : String} {A : Nat → Prop} {s : State} {args : Array Value} (h : vx_L C n d A s s.heap) : (Cond.laysStatic C n d).before args s = true := by
  obtain ⟨c, k, i, f, a, cell, h1, h2, h3, h4, h5, h6, h7, h8, h9, -⟩ := h
  show (Cond.laysStatic C n d).holds args s none s [] = true
  exact Cond.laysStatic_of h1 h2 h3 h4 h5 h6 h7 h8 h9
/-- .. and what it holds: null or some reference -/
def vx_Zq (C n d : String) (A : Nat → Prop) (U : State) (H : Heap) : Prop := va_Zq C n d A U H ∧ vx_L C n d A U H
theorem vx_Zq.moved {C n d : String} {A : Nat → Prop} {u U : State} {H : Heap} (hvm : u.vm.Alike U.vm) (h : vx_Zq C n d A u H) : vx_Zq C n d A U H := ⟨va_Zq.moved hvm h.1, vx_L.moved hvm h.2⟩
theorem vx_Zq.kept {C n d : String} {A : Nat → Prop} {U : State} {H H1 : Heap} (h : vx_Zq C n d A U H) (hq : ∀ a : Nat, a < H.size → ¬ A a → H1[a]? = H[a]?) : vx_Zq C n d A U H1 := ⟨va_Zq.kept h.1 hq, vx_L.kept h.2 hq⟩
theorem vx_Zq.narrow {C n d : String} {A B : Nat → Prop} {U : State} {H : Heap} (h : vx_Zq C n d A U H) (hAB : ∀ q, B q → A q) : vx_Zq C n d B U H := ⟨va_Zq.narrow h.1 hAB, vx_L.narrow h.2 hAB⟩
theorem vx_Zqof {args : Array Value} {s : State} {C n d : String} {A : Nat → Prop} (hl : (Cond.laysStatic C n d).before args s = true) (hini : (Cond.initialized C).before args s = true) (h : (Cond.isRef (.static C n d)).before args s = true) (hA : ∀ a : Nat, a < s.heap.size → ¬ A a) : vx_Zq C n d A s s.heap := by
  refine ⟨va_Zqof hl hini h hA, ?_⟩
  obtain ⟨c, k, i, f, a, cell, h1, h2, h3, h4, h5, h6, h7, h8, h9⟩ := Cond.laysStatic_spec hl
  exact ⟨c, k, i, f, a, cell, h1, h2, h3, h4, h5, h6, h7, h8, h9, hA a (Array.getElem?_eq_some_iff.mp h5).1⟩
theorem vx_isRef {C n d : String} {v : Value} {A : Nat → Prop} {s : State} {args : Array Value} (h : va_Z C n d v A s s.heap) (hv : v.isRef = true) : (Cond.isRef (.static C n d)).before args s = true := by
  obtain ⟨cf, kf, fi, f, a, cell, h1, h2, h3, h4, h5, h6, h7, -⟩ := h
  have he : (Term.static C n d).eval args s none [] s = some v := by
    simp [Term.eval, State.fieldNamed?, h1, h2, h4, h5, h6, h7]
  simp only [Cond.before, Cond.holds, Cond.value, he]
  cases v <;> simp_all [Value.isRef]
theorem vx_isRefq {C n d : String} {A : Nat → Prop} {s : State} {args : Array Value} (h : va_Zq C n d A s s.heap) : (Cond.isRef (.static C n d)).before args s = true := by
  rcases h with h | ⟨t, h⟩
  · exact vx_isRef h rfl
  · exact vx_isRef h rfl
/-- the same frame, seen from here: as if the method were called anew in this heap -/
theorem vx_rebase {T : State} (X : Stand p l e R s m args below meth c T locs cells slots) {R' : Room} (hf : R'.frames ≤ R.frames) (hl : R'.locals ≤ R.locals) (hc : cells + R'.cells ≤ R.cells) (hs : slots + R'.slots ≤ R.slots) :
    Stand p l e R' ((T.setVm s.vm).setFrames (.invoking m args :: below)) m args below meth c T [] 0 0 := by
  have htop : (T.setVm s.vm).topJava?.isSome := X.here.top
  have hF : ((T.setVm s.vm).setFrames (.invoking m args :: below)).frames = .invoking m args :: below := State.frames_setFrames _ (State.cur_lt_of_top htop)
  obtain ⟨g₀, hg0⟩ := Option.isSome_iff_exists.mp htop
  obtain ⟨r, hr⟩ := State.topJava?_eq_some.mp hg0
  have hl9 : e.platform.stackLimits (T.setVm s.vm).me = e.platform.stackLimits s.me := X.limits
  have hb9 : (T.setVm s.vm).me.stackBytes = s.me.stackBytes := X.bytes
  refine ⟨X.admits, X.cas, X.clock, hF, ?_, X.hears, X.method, X.code, X.here, X.tail, X.warmed, ?_, ?_, ?_⟩
  · have h := X.room
    have hU : ((T.setVm s.vm).setFrames (.invoking m args :: below)).localsInUse = s.localsInUse := by
      rw [State.localsInUse_invoking hF (meth := meth) (c := c) X.method X.code, State.localsInUse_invoking X.frames X.method X.code]
    simp only [State.hasRoom, Bool.and_eq_true, decide_eq_true_eq] at h ⊢
    obtain ⟨⟨⟨⟨h1, h2, h3, h4, h5, h6⟩, h7⟩, h8⟩, h9⟩ := h
    rw [X.frames, List.length_cons] at h2 h3
    have q1 := X.heapSize
    have q2 := X.used
    simp only [hF, hU, List.length_cons, State.stackLimits_setFrames, State.stackBytes_setFrames, hl9, hb9]
    refine ⟨⟨⟨⟨by omega, by omega, by omega, by omega, by omega, h6⟩, ?_⟩, ?_⟩, X.book⟩
    · show T.heap.size + R'.cells ≤ e.platform.maxCells
      omega
    · show T.slotsUsed + R'.slots ≤ e.platform.maxSlots
      omega
  · rw [State.stackLimits_setFrames]; rfl
  · rw [State.stackBytes_setFrames]; rfl
  · refine ⟨?_, Nat.le_refl _, Nat.le_refl _, ?_, ?_, fun a c9 h9 => ⟨c9, h9, rfl, rfl, fun _ _ => rfl⟩⟩
    · obtain ⟨t, ht, -⟩ := State.frames_cons hr
      show T.setVm s.vm = { ((T.setVm s.vm).setFrames (.invoking m args :: below)).setFrames (T.setVm s.vm).frames with heap := T.heap, slotsUsed := T.slotsUsed }
      rw [State.setFrames_setFrames, State.setFrames_self ht]
      rfl
    · show T.slotsUsed = T.slotsUsed + ((T.heap.toList.drop T.heap.size).map (·.slots.size)).sum
      rw [List.drop_eq_nil_of_le (Nat.le_of_eq Array.length_toList)]
      rfl
    · show ((T.heap.toList.drop T.heap.size).map (·.slots.size)).sum ≤ 0
      rw [List.drop_eq_nil_of_le (Nat.le_of_eq Array.length_toList)]
      exact Nat.le_refl _
/-- 'throw new E()': new; dup; invokespecial; athrow -/
theorem vx_throw0 {cc : ByteArray} {pc : Nat} (hexec : p.tables.exec = Jvm.exec) (hb : c.code = cc) (hl : l.stackTraces = false) {own cls : String} {names : List String} {ik ic mc ms : Nat} {A : Nat → Prop}
    (hown : s.vm.findClass own = some m.cls) (hcls : Bundle.fit cls = true) (hnames : ∀ n ∈ names, Bundle.fit n = true)
    (hk : (Cond.classLink own ik cls).before args s = true) (hini : (Cond.initialized cls).before args s = true) (hat : ∀ w ∈ vx_at0 own ic cls names, w.before args s = true)
    (hgood : ∀ w ∈ Cond.classLink own ik cls :: Cond.initialized cls :: vx_at0 own ic cls names, vx_ot w = true)
    (hU : vx_Zq Bundle.tN "UNASSIGNED_STACK" Bundle.steD A s s.heap) (hN : vx_Zq Bundle.tN "SUPPRESSED_SENTINEL" Bundle.listD A s s.heap) (hS : va_S A s.heap H locs) (hsize : ls.size = c.maxLocals)
    (d0 : decode cc pc = .ok (.new ik, 3)) (d3 : decode cc (pc + 3) = .ok (.dup, 1)) (d4 : decode cc (pc + 4) = .ok (.invokespecial ic, 3)) (d7 : decode cc (pc + 7) = .ok (.athrow, 1))
    (hout : ∀ x ∈ c.exceptionTable.toList, covers x (pc + 7) = false)
    (hRframes : names.length + 3 < R.frames) (hRlocals : (rest.map fun v => v.category).sum + (13 * (names.length + 1) + 42) ≤ R.locals) (hRcells : cells + 1 ≤ R.cells) (hRslots : slots + 6 ≤ R.slots) (hlocks : meth.locks = false)
    (hx : ∀ t : State, s.vm.Alike t.vm → H.size ≤ t.heap.size → (∀ q : Nat, q < H.size → t.heap[q]? = H[q]?) → XC cls s t)
    (hf : ∀ z ∈ locs, free z.base) (hc : cells + 1 ≤ mc) (hs : slots + 6 ≤ ms) :
    W p l e R s m args below meth c H locs cells slots (vx_MQ below Qc XC args s mc ms free) (F0 m pc ls rest) := by
  intro T hT X
  have htr : e.platform.stackTraces = false := (show e.platform.stackTraces = l.stackTraces by rw [X.admits.platform]).trans hl
  have Y := vx_rebase X (R' := { frames := R.frames, locals := R.locals, cells := 1, slots := 6 }) (Nat.le_refl _) (Nat.le_refl _) hRcells hRslots
  obtain ⟨s', hA⟩ : ∃ z, z = (T.setVm s.vm).setFrames (.invoking m args :: below) := ⟨_, rfl⟩
  rw [← hA] at Y
  have hvm : s'.vm = s.vm := by rw [hA]; rfl
  have hhp : s'.heap = H := by rw [hA]; exact hT
  have hW0 : s.WarmedH s'.vm := by rw [hvm]; exact State.WarmedH.refl s
  have hat' : ∀ w ∈ vx_at0 own ic cls names, w.before args s' = true := fun w hw => vx_ot_at hW0 hvm.symm (hgood w (List.mem_cons_of_mem _ (List.mem_cons_of_mem _ hw))) (hat w hw)
  have hk' : (Cond.classLink own ik cls).before args s' = true := vx_ot_at hW0 hvm.symm (hgood _ List.mem_cons_self) hk
  have hini' : (Cond.initialized cls).before args s' = true := vx_ot_at hW0 hvm.symm (hgood _ (List.mem_cons_of_mem _ List.mem_cons_self)) hini
  have hU' : vx_Zq Bundle.tN "UNASSIGNED_STACK" Bundle.steD A s' s'.heap := by rw [hhp]; exact vx_Zq.moved hW0.alike (hU.kept hS.2.1)
  have hN' : vx_Zq Bundle.tN "SUPPRESSED_SENTINEL" Bundle.listD A s' s'.heap := by rw [hhp]; exact vx_Zq.moved hW0.alike (hN.kept hS.2.1)
  have h : ∀ w ∈ Bundle.ownAtoms0 own ic cls names, w.before args s' = true := vx_own hat' (vx_isRefq hU'.1) (vx_isRefq hN'.1) hU'.2.word hN'.2.word
  have hown' : s'.vm.findClass own = some m.cls := by rw [hvm]; exact hown
  have hins : (Cond.instantiable cls 6).before args s' = true := h _ (by simp [Bundle.ownAtoms0])
  obtain ⟨vm₁, cX, kX, hfX, hkX, -, -, X₁, st1⟩ := Y.newCold hexec (own := own) (C := cls) (index := ik) (n := 6) hown' hk' hins hini'
    (g := F0 m pc ls rest) rfl (by rw [hb]; exact d0) (Nat.le_refl _) (Nat.le_refl _)
  generalize hT1 : (T.setVm vm₁).pushCell { cls := cX, slots := kX.instanceTypes.map defaultValue, vm := .none } = T1 at X₁ st1
  have hcat : (Value.ref T.heap.size).category = 1 := rfl
  have hcellA : T1.heap[T.heap.size]? = some (freshCell cX kX) := by rw [← hT1]; exact State.heap_pushCell_size _ _
  have d3' : decode c.code (pc + 3) = .ok (.dup, 1) := by rw [hb]; exact d3
  obtain ⟨U, hsteps, hrun, hend, hW, hsame, ce, hce, hO⟩ := X₁.ctorThrow0 hexec htr (own := own) (cls := cls) (names := names) (ic := ic) hown' hcls hnames h (fun x hx => nomatch hx) hfX hkX hcellA (by rw [hhp, hT]; exact Nat.le_refl _)
    (g := { method := m, pc := pc + 4, locals := ls, stack := .ref T.heap.size :: .ref T.heap.size :: rest, locked := none }) rfl hsize rfl rfl (rest := rest) rfl
    (by rw [hb]; exact d4) (by rw [hb]; exact d7) hout hRframes (by simp only [List.map_cons, List.sum_cons, hcat]; omega) hlocks
  obtain ⟨f1, f2⟩ := vx_frame hsame
  rw [hhp] at f1 f2
  have hWs : s.WarmedH U.vm := State.WarmedH.trans hW0 hW
  have hcl : s.vm.findClass cls = some ce.cls := by
    have h9 := hO.cls
    rw [hvm] at h9
    exact h9
  have hall : s.sameButNew ({ U with vm := s.vm } : State) locs mc ms := by
    subst hA
    obtain ⟨e1, e2⟩ := hsame
    rw [State.setFrames_setFrames] at e1
    have h2 : (T.setVm s.vm).sameButNew ({ U with vm := s.vm } : State) [] (0 + 1) (0 + 6) := ⟨e1, e2⟩
    have h3 := X.same.trans h2
    rw [List.append_nil] at h3
    exact h3.mono hc hs
  refine ⟨U, ?_, .threw T.heap.size, hrun, hend, Or.inr ⟨T.heap.size, rfl, cls, ce, locs, hx U hWs.alike f1 (fun q hq => f2 q hq (fun z hz => nomatch hz)), hce, hO.vm, hcl, hWs, hall, hf⟩⟩
  refine st1 _ ?_
  show Steps p.tables e below (T1.setTop { method := m, pc := pc + 3, locals := ls, stack := .ref T.heap.size :: rest, locked := none }) _
  jvm_step X₁.here [X₁.here.top, hexec, d3', Value.category]
  exact hsteps
/-- 'throw new E("text")': new; dup; ldc; invokespecial; athrow -/
theorem vx_throwS {cc : ByteArray} {pc : Nat} (hexec : p.tables.exec = Jvm.exec) (hb : c.code = cc) (hl : l.stackTraces = false) {own cls text : String} {names : List String} {ik is ic mc ms sa : Nat} {A : Nat → Prop}
    (hown : s.vm.findClass own = some m.cls) (hcls : Bundle.fit cls = true) (hnames : ∀ n ∈ names, Bundle.fit n = true)
    (hk : (Cond.classLink own ik cls).before args s = true) (hini : (Cond.initialized cls).before args s = true) (hstr : vk_R own is text sa s) (hat : ∀ w ∈ vx_atS own ic cls names, w.before args s = true)
    (hgood : ∀ w ∈ Cond.classLink own ik cls :: Cond.initialized cls :: vx_atS own ic cls names, vx_ot w = true)
    (hU : vx_Zq Bundle.tN "UNASSIGNED_STACK" Bundle.steD A s s.heap) (hN : vx_Zq Bundle.tN "SUPPRESSED_SENTINEL" Bundle.listD A s s.heap) (hS : va_S A s.heap H locs) (hsize : ls.size = c.maxLocals)
    (d0 : decode cc pc = .ok (.new ik, 3)) (d3 : decode cc (pc + 3) = .ok (.dup, 1)) (d4 : decode cc (pc + 4) = .ok (.ldc is, 2)) (d6 : decode cc (pc + 6) = .ok (.invokespecial ic, 3)) (d9 : decode cc (pc + 9) = .ok (.athrow, 1))
    (hout : ∀ x ∈ c.exceptionTable.toList, covers x (pc + 9) = false)
    (hRframes : names.length + 3 < R.frames) (hRlocals : (rest.map fun v => v.category).sum + (13 * (names.length + 1) + 43) ≤ R.locals) (hRcells : cells + 1 ≤ R.cells) (hRslots : slots + 6 ≤ R.slots) (hlocks : meth.locks = false)
    (hx : ∀ t : State, s.vm.Alike t.vm → H.size ≤ t.heap.size → (∀ q : Nat, q < H.size → t.heap[q]? = H[q]?) → XC cls s t)
    (hf : ∀ z ∈ locs, free z.base) (hc : cells + 1 ≤ mc) (hs : slots + 6 ≤ ms) :
    W p l e R s m args below meth c H locs cells slots (vx_MQ below Qc XC args s mc ms free) (F0 m pc ls rest) := by
  intro T hT X
  have htr : e.platform.stackTraces = false := (show e.platform.stackTraces = l.stackTraces by rw [X.admits.platform]).trans hl
  have Y := vx_rebase X (R' := { frames := R.frames, locals := R.locals, cells := 1, slots := 6 }) (Nat.le_refl _) (Nat.le_refl _) hRcells hRslots
  obtain ⟨s', hA⟩ : ∃ z, z = (T.setVm s.vm).setFrames (.invoking m args :: below) := ⟨_, rfl⟩
  rw [← hA] at Y
  have hvm : s'.vm = s.vm := by rw [hA]; rfl
  have hhp : s'.heap = H := by rw [hA]; exact hT
  have hW0 : s.WarmedH s'.vm := by rw [hvm]; exact State.WarmedH.refl s
  have hat' : ∀ w ∈ vx_atS own ic cls names, w.before args s' = true := fun w hw => vx_ot_at hW0 hvm.symm (hgood w (List.mem_cons_of_mem _ (List.mem_cons_of_mem _ hw))) (hat w hw)
  have hk' : (Cond.classLink own ik cls).before args s' = true := vx_ot_at hW0 hvm.symm (hgood _ List.mem_cons_self) hk
  have hini' : (Cond.initialized cls).before args s' = true := vx_ot_at hW0 hvm.symm (hgood _ (List.mem_cons_of_mem _ List.mem_cons_self)) hini
  have hU' : vx_Zq Bundle.tN "UNASSIGNED_STACK" Bundle.steD A s' s'.heap := by rw [hhp]; exact vx_Zq.moved hW0.alike (hU.kept hS.2.1)
  have hN' : vx_Zq Bundle.tN "SUPPRESSED_SENTINEL" Bundle.listD A s' s'.heap := by rw [hhp]; exact vx_Zq.moved hW0.alike (hN.kept hS.2.1)
  have h : ∀ w ∈ Bundle.ownAtoms own ic cls names, w.before args s' = true := vx_own hat' (vx_isRefq hU'.1) (vx_isRefq hN'.1) hU'.2.word hN'.2.word
  have hown' : s'.vm.findClass own = some m.cls := by rw [hvm]; exact hown
  have hins : (Cond.instantiable cls 6).before args s' = true := h _ (by simp [Bundle.ownAtoms])
  obtain ⟨vm₁, cX, kX, hfX, hkX, -, -, X₁, st1⟩ := Y.newCold hexec (own := own) (C := cls) (index := ik) (n := 6) hown' hk' hins hini'
    (g := F0 m pc ls rest) rfl (by rw [hb]; exact d0) (Nat.le_refl _) (Nat.le_refl _)
  generalize hT1 : (T.setVm vm₁).pushCell { cls := cX, slots := kX.instanceTypes.map defaultValue, vm := .none } = T1 at X₁ st1
  have hcat : (Value.ref T.heap.size).category = 1 := rfl
  have hcellA : T1.heap[T.heap.size]? = some (freshCell cX kX) := by rw [← hT1]; exact State.heap_pushCell_size _ _
  have d3' : decode c.code (pc + 3) = .ok (.dup, 1) := by rw [hb]; exact d3
  have d4' : decode c.code (pc + 4) = .ok (.ldc is, 2) := by rw [hb]; exact d4
  have hstr' : vk_R own is text sa s' := vk_R.warm hW0 hstr
  obtain ⟨U, hsteps, hrun, hend, hW, hsame, ce, hce, hO⟩ := X₁.ctorThrowS hexec htr (own := own) (cls := cls) (names := names) (ic := ic) hown' hcls hnames h (fun x hx => nomatch hx) hfX hkX hcellA (by rw [hhp, hT]; exact Nat.le_refl _) (msg := .ref sa) rfl
    (g := { method := m, pc := pc + 6, locals := ls, stack := .ref sa :: .ref T.heap.size :: .ref T.heap.size :: rest, locked := none }) rfl hsize rfl rfl (rest := rest) rfl
    (by rw [hb]; exact d6) (by rw [hb]; exact d9) hout hRframes (by simp only [List.map_cons, List.sum_cons, hcat]; omega) hlocks
  obtain ⟨f1, f2⟩ := vx_frame hsame
  rw [hhp] at f1 f2
  have hWs : s.WarmedH U.vm := State.WarmedH.trans hW0 hW
  have hcl : s.vm.findClass cls = some ce.cls := by
    have h9 := hO.cls
    rw [hvm] at h9
    exact h9
  have hall : s.sameButNew ({ U with vm := s.vm } : State) locs mc ms := by
    subst hA
    obtain ⟨e1, e2⟩ := hsame
    rw [State.setFrames_setFrames] at e1
    have h2 : (T.setVm s.vm).sameButNew ({ U with vm := s.vm } : State) [] (0 + 1) (0 + 6) := ⟨e1, e2⟩
    have h3 := X.same.trans h2
    rw [List.append_nil] at h3
    exact h3.mono hc hs
  refine ⟨U, ?_, .threw T.heap.size, hrun, hend, Or.inr ⟨T.heap.size, rfl, cls, ce, locs, hx U hWs.alike f1 (fun q hq => f2 q hq (fun z hz => nomatch hz)), hce, hO.vm, hcl, hWs, hall, hf⟩⟩
  refine st1 _ ?_
  show Steps p.tables e below (T1.setTop { method := m, pc := pc + 3, locals := ls, stack := .ref T.heap.size :: rest, locked := none }) _
  jvm_step X₁.here [X₁.here.top, hexec, d3', Value.category]
  exact X₁.ldcString hexec (own := own) (text := text) (index := is) (a := sa) hown' hstr'.1 hstr'.2
    (g := { method := m, pc := pc + 4, locals := ls, stack := .ref T.heap.size :: .ref T.heap.size :: rest, locked := none }) rfl d4' _ hsteps
/-- 'throw new E("text")', the text by a wide index -/
theorem vx_throwSW {cc : ByteArray} {pc : Nat} (hexec : p.tables.exec = Jvm.exec) (hb : c.code = cc) (hl : l.stackTraces = false) {own cls text : String} {names : List String} {ik is ic mc ms sa : Nat} {A : Nat → Prop}
    (hown : s.vm.findClass own = some m.cls) (hcls : Bundle.fit cls = true) (hnames : ∀ n ∈ names, Bundle.fit n = true)
    (hk : (Cond.classLink own ik cls).before args s = true) (hini : (Cond.initialized cls).before args s = true) (hstr : vk_R own is text sa s) (hat : ∀ w ∈ vx_atS own ic cls names, w.before args s = true)
    (hgood : ∀ w ∈ Cond.classLink own ik cls :: Cond.initialized cls :: vx_atS own ic cls names, vx_ot w = true)
    (hU : vx_Zq Bundle.tN "UNASSIGNED_STACK" Bundle.steD A s s.heap) (hN : vx_Zq Bundle.tN "SUPPRESSED_SENTINEL" Bundle.listD A s s.heap) (hS : va_S A s.heap H locs) (hsize : ls.size = c.maxLocals)
    (d0 : decode cc pc = .ok (.new ik, 3)) (d3 : decode cc (pc + 3) = .ok (.dup, 1)) (d4 : decode cc (pc + 4) = .ok (.ldc_w is, 3)) (d7 : decode cc (pc + 7) = .ok (.invokespecial ic, 3)) (d10 : decode cc (pc + 10) = .ok (.athrow, 1))
    (hout : ∀ x ∈ c.exceptionTable.toList, covers x (pc + 10) = false)
    (hRframes : names.length + 3 < R.frames) (hRlocals : (rest.map fun v => v.category).sum + (13 * (names.length + 1) + 43) ≤ R.locals) (hRcells : cells + 1 ≤ R.cells) (hRslots : slots + 6 ≤ R.slots) (hlocks : meth.locks = false)
    (hx : ∀ t : State, s.vm.Alike t.vm → H.size ≤ t.heap.size → (∀ q : Nat, q < H.size → t.heap[q]? = H[q]?) → XC cls s t)
    (hf : ∀ z ∈ locs, free z.base) (hc : cells + 1 ≤ mc) (hs : slots + 6 ≤ ms) :
    W p l e R s m args below meth c H locs cells slots (vx_MQ below Qc XC args s mc ms free) (F0 m pc ls rest) := by
  intro T hT X
  have htr : e.platform.stackTraces = false := (show e.platform.stackTraces = l.stackTraces by rw [X.admits.platform]).trans hl
  have Y := vx_rebase X (R' := { frames := R.frames, locals := R.locals, cells := 1, slots := 6 }) (Nat.le_refl _) (Nat.le_refl _) hRcells hRslots
  obtain ⟨s', hA⟩ : ∃ z, z = (T.setVm s.vm).setFrames (.invoking m args :: below) := ⟨_, rfl⟩
  rw [← hA] at Y
  have hvm : s'.vm = s.vm := by rw [hA]; rfl
  have hhp : s'.heap = H := by rw [hA]; exact hT
  have hW0 : s.WarmedH s'.vm := by rw [hvm]; exact State.WarmedH.refl s
  have hat' : ∀ w ∈ vx_atS own ic cls names, w.before args s' = true := fun w hw => vx_ot_at hW0 hvm.symm (hgood w (List.mem_cons_of_mem _ (List.mem_cons_of_mem _ hw))) (hat w hw)
  have hk' : (Cond.classLink own ik cls).before args s' = true := vx_ot_at hW0 hvm.symm (hgood _ List.mem_cons_self) hk
  have hini' : (Cond.initialized cls).before args s' = true := vx_ot_at hW0 hvm.symm (hgood _ (List.mem_cons_of_mem _ List.mem_cons_self)) hini
  have hU' : vx_Zq Bundle.tN "UNASSIGNED_STACK" Bundle.steD A s' s'.heap := by rw [hhp]; exact vx_Zq.moved hW0.alike (hU.kept hS.2.1)
  have hN' : vx_Zq Bundle.tN "SUPPRESSED_SENTINEL" Bundle.listD A s' s'.heap := by rw [hhp]; exact vx_Zq.moved hW0.alike (hN.kept hS.2.1)
  have h : ∀ w ∈ Bundle.ownAtoms own ic cls names, w.before args s' = true := vx_own hat' (vx_isRefq hU'.1) (vx_isRefq hN'.1) hU'.2.word hN'.2.word
  have hown' : s'.vm.findClass own = some m.cls := by rw [hvm]; exact hown
  have hins : (Cond.instantiable cls 6).before args s' = true := h _ (by simp [Bundle.ownAtoms])
  obtain ⟨vm₁, cX, kX, hfX, hkX, -, -, X₁, st1⟩ := Y.newCold hexec (own := own) (C := cls) (index := ik) (n := 6) hown' hk' hins hini'
    (g := F0 m pc ls rest) rfl (by rw [hb]; exact d0) (Nat.le_refl _) (Nat.le_refl _)
  generalize hT1 : (T.setVm vm₁).pushCell { cls := cX, slots := kX.instanceTypes.map defaultValue, vm := .none } = T1 at X₁ st1
  have hcat : (Value.ref T.heap.size).category = 1 := rfl
  have hcellA : T1.heap[T.heap.size]? = some (freshCell cX kX) := by rw [← hT1]; exact State.heap_pushCell_size _ _
  have d3' : decode c.code (pc + 3) = .ok (.dup, 1) := by rw [hb]; exact d3
  have d4' : decode c.code (pc + 4) = .ok (.ldc_w is, 3) := by rw [hb]; exact d4
  have hstr' : vk_R own is text sa s' := vk_R.warm hW0 hstr
  obtain ⟨U, hsteps, hrun, hend, hW, hsame, ce, hce, hO⟩ := X₁.ctorThrowS hexec htr (own := own) (cls := cls) (names := names) (ic := ic) hown' hcls hnames h (fun x hx => nomatch hx) hfX hkX hcellA (by rw [hhp, hT]; exact Nat.le_refl _) (msg := .ref sa) rfl
    (g := { method := m, pc := pc + 7, locals := ls, stack := .ref sa :: .ref T.heap.size :: .ref T.heap.size :: rest, locked := none }) rfl hsize rfl rfl (rest := rest) rfl
    (by rw [hb]; exact d7) (by rw [hb]; exact d10) hout hRframes (by simp only [List.map_cons, List.sum_cons, hcat]; omega) hlocks
  obtain ⟨f1, f2⟩ := vx_frame hsame
  rw [hhp] at f1 f2
  have hWs : s.WarmedH U.vm := State.WarmedH.trans hW0 hW
  have hcl : s.vm.findClass cls = some ce.cls := by
    have h9 := hO.cls
    rw [hvm] at h9
    exact h9
  have hall : s.sameButNew ({ U with vm := s.vm } : State) locs mc ms := by
    subst hA
    obtain ⟨e1, e2⟩ := hsame
    rw [State.setFrames_setFrames] at e1
    have h2 : (T.setVm s.vm).sameButNew ({ U with vm := s.vm } : State) [] (0 + 1) (0 + 6) := ⟨e1, e2⟩
    have h3 := X.same.trans h2
    rw [List.append_nil] at h3
    exact h3.mono hc hs
  refine ⟨U, ?_, .threw T.heap.size, hrun, hend, Or.inr ⟨T.heap.size, rfl, cls, ce, locs, hx U hWs.alike f1 (fun q hq => f2 q hq (fun z hz => nomatch hz)), hce, hO.vm, hcl, hWs, hall, hf⟩⟩
  refine st1 _ ?_
  show Steps p.tables e below (T1.setTop { method := m, pc := pc + 3, locals := ls, stack := .ref T.heap.size :: rest, locked := none }) _
  jvm_step X₁.here [X₁.here.top, hexec, d3', Value.category]
  exact X₁.ldcStringW hexec (own := own) (text := text) (index := is) (a := sa) hown' hstr'.1 hstr'.2
    (g := { method := m, pc := pc + 4, locals := ls, stack := .ref T.heap.size :: .ref T.heap.size :: rest, locked := none }) rfl d4' _ hsteps
end Ends
section Bodies
variable {l : Launch}
theorem vx_ofW {y : MethodName} {ws ws' : List Cond} {rm : Room} {Pc : Array Value → State → Prop} {Qc : Array Value → State → Outcome → State → Prop} {XC : String → State → State → Prop} {mc ms : Nat} {free : Addr → Prop} {cc : ByteArray} {maxL : Nat} {ret : Option FieldType}
    (hy : plainName y.cls = true) (hw : ws = Cond.code y cc maxL ret :: ws')
    (body : ∀ p e s m args below meth c s₁, BodyLoose p l y (headSpec ws rm) cc maxL ret e s m args below meth c s₁ → c.maxLocals = maxL → (∀ x ∈ c.exceptionTable.toList, False) → Pc args s →
      W p l e (headSpec ws rm).room s m args below meth c s.heap [] 0 0 (vx_MQ below Qc XC args s mc ms free) (entryFrame m args maxL)) : vx_Met l y ws rm Pc Qc XC mc ms free := by
  refine MetFree.of_bodyS (code := cc) (maxLocals := maxL) (ret := ret) hy ?_ ?_
  · intro args s m h hn
    obtain ⟨meth, c, h1, h2, h3, h4, h5, h6, -, -⟩ := Cond.code_spec hn (atoms_spec (ws := ws) h _ (by rw [hw]; exact List.mem_cons_self))
    exact ⟨meth, c, h1, h2, h3, h4, h5, h6⟩
  · intro p e s m args below meth c s₁ B hml hP _
    have hh0 : s₁.heap = s.heap := by rw [B.state]; rfl
    have ht : ∀ x ∈ c.exceptionTable.toList, False := by
      obtain ⟨meth9, c9, h1, h2, -, -, -, -, h7, -⟩ := Cond.code_spec B.named (atoms_spec (ws := ws) B.pre _ (by rw [hw]; exact List.mem_cons_self))
      cases Option.some.inj (h1.symm.trans B.method)
      cases Option.some.inj (h2.symm.trans (Stand.of_body B).code)
      intro x hx
      rw [Array.isEmpty_iff.mp h7] at hx
      cases hx
    obtain ⟨t, a1, o, b1, b2, b3⟩ := body p e s m args below meth c s₁ B hml ht hP s₁ hh0 (Stand.of_body B)
    exact ⟨t, o, a1, b1, b2, b3⟩
/-- the table of a body with handlers -/
theorem vx_table {p : Program} {x y : MethodName} {S : Spec} {cc bytes : ByteArray} {maxL maxL' : Nat} {ret ret' : Option FieldType} {e : Env} {s s₁ : State} {m : MethodId} {args : Array Value} {below : List Frame} {meth : Method} {c : Code} {hh : List (Nat × Nat × Nat × Nat)}
    (B : BodyLoose p l y S cc maxL ret e s m args below meth c s₁) (h : (Cond.codeWith y bytes maxL' ret' hh).before args s = true) : c.exceptionTable.toList = tableOf hh := by
  obtain ⟨m9, meth9, c9, hn9, h1, h2, -, -, h6, -⟩ := Cond.codeWith_spec h
  cases Option.some.inj (hn9.symm.trans B.named)
  cases Option.some.inj (h1.symm.trans B.method)
  cases Option.some.inj (h2.symm.trans (Stand.of_body B).code)
  rw [← h6, table_eq]
end Bodies
end VXA
/-! ===== END ===== -/
/-! ===== BEGIN a static call of a method with an exception table ===== -/
section VXS
variable {p : Program} {l : Launch} {e : Env} {R : Room} {s : State} {m : MethodId} {args : Array Value} {below : List Frame} {meth : Method} {c : Code} {T : State} {H : Heap} {locs : List Loc} {cells slots : Nat}
abbrev vx_CSW (R : Room) (s : State) (args : Array Value) (own : String) (index : Nat) (y : MethodName) (bytes : ByteArray) (maxL : Nat) (ret : Option FieldType) (hh : List (Nat × Nat × Nat × Nat)) (ws : List Cond) (rm : Room) (mc ms n : Nat) : Prop :=
  (rm.cells = mc ∧ rm.slots = ms ∧ rm.frames + 1 ≤ R.frames ∧ 8 + (maxL + 11) + rm.locals ≤ R.locals ∧ (∀ w ∈ ws, ∀ (a' : Array Value) (U : State), s.WarmedH U.vm → w.before a' U = true) ∧ Cond.codeWith y bytes maxL ret hh ∈ ws) ∧
  (Cond.codeWith y bytes maxL ret hh).before args s = true ∧ (Cond.initialized y.cls).before args s = true ∧ (y.cls ≠ "java/lang/invoke/MethodHandle" ∧ y.cls ≠ "java/lang/invoke/VarHandle") ∧
  (∀ sig, parseMethodDescriptor y.desc = some sig → n = sig.parameters.length) ∧ (Cond.methodLink own index y).before args s = true ∧ (Cond.static y).before args s = true
theorem vx_cwSW {own : String} {index maxL mc ms : Nat} {y : MethodName} {bytes : ByteArray} {ret : Option FieldType} {hh : List (Nat × Nat × Nat × Nat)} {Ts ws ws' : List Cond} {rm : Room} (n : Nat) (ht : ∀ w ∈ Ts, w.before args s = true) (hT : GoodIn Ts (va_wsS own index y ws)) (hw : ws = Cond.codeWith y bytes maxL ret hh :: ws') (hrc : rm.cells = mc) (hrs : rm.slots = ms)
    (hd : y.cls ≠ "java/lang/invoke/MethodHandle" ∧ y.cls ≠ "java/lang/invoke/VarHandle" ∧ (parseMethodDescriptor y.desc).map (fun d => d.parameters.length) = some n) (hR : rm.frames + 1 ≤ R.frames ∧ 8 + (maxL + 11) + rm.locals ≤ R.locals) :
    vx_CSW R s args own index y bytes maxL ret hh ws rm mc ms n := by
  have ok : ∀ w ∈ va_wsS own index y ws, w.before args s = true := fun w h => ht w (hT w h).1
  have hG : GoodIn Ts ws := fun w h => hT w (by unfold va_wsS; exact List.mem_append_right _ h)
  have hc : Cond.codeWith y bytes maxL ret hh ∈ ws := by rw [hw]; exact List.mem_cons_self
  refine ⟨⟨hrc, hrs, hR.1, hR.2, pay_in ht hG, hc⟩, ht _ (hG _ hc).1, ok _ (by simp [va_wsS]), ⟨hd.1, hd.2.1⟩, fun sig h => ?_, ok _ (by simp [va_wsS]), ok _ (by simp [va_wsS])⟩
  have h2 := hd.2.2
  rw [h] at h2
  exact (Option.some.inj h2).symm
theorem vx_callSW (X : Stand p l e R s m args below meth c T locs cells slots) (hexec : p.tables.exec = Jvm.exec) {own : String} {index : Nat} {y : MethodName} {bytes : ByteArray} {maxL : Nat} {ret : Option FieldType} {hh : List (Nat × Nat × Nat × Nat)}
    (hown : s.vm.findClass own = some m.cls) (hlink : (Cond.methodLink own index y).before args s = true) (hstat : (Cond.static y).before args s = true) (hinit : (Cond.initialized y.cls).before args s = true)
    (hcode : (Cond.codeWith y bytes maxL ret hh).before args s = true) (hy : y.cls ≠ "java/lang/invoke/MethodHandle" ∧ y.cls ≠ "java/lang/invoke/VarHandle")
    {W9 : Nat} {Pre : Pt → Array Value → Prop} {Post : Pt → Array Value → Option Value → Pt → Prop} (hK : Back l R p e below s args y 3 W9 Pre Post)
    {g : JFrame} (hg : g.method = m) (hsize : g.locals.size = c.maxLocals) {argsL rest : List Value} (hlen : ∀ sig, parseMethodDescriptor y.desc = some sig → argsL.length = sig.parameters.length)
    (hstack : g.stack = argsL.reverse ++ rest) (hW : 2 * g.monitorRoom + (rest.map fun v => v.category).sum ≤ W9) (hdg : decode c.code g.pc = .ok (.invokestatic index, 3))
    (hpre : ∀ vm₁, s.WarmedH vm₁ → Pre ⟨T.setVm vm₁, locs, cells, slots⟩ argsL.toArray) :
    ∃ (v : Option Value) (vm₁ : Vm) (B : Pt), s.WarmedH vm₁ ∧ Stand p l e R s m args below meth c B.U B.locs B.cells B.slots ∧ Post ⟨T.setVm vm₁, locs, cells, slots⟩ argsL.toArray v B ∧
      ∀ target, Steps p.tables e below (B.U.setTop { g with pc := g.pc + 3, stack := v.toList ++ rest }) target → Steps p.tables e below (T.setTop g) target := by
  obtain ⟨mk, methM, cM, hnamed, hmethM, -, -, -, -, -, -, hsigM⟩ := Cond.codeWith_spec hcode
  have hstatic : methM.isStatic = true := Cond.static_spec hnamed hmethM hstat
  obtain ⟨kP, hkP, -⟩ := className_of_methodNamed hnamed
  have hinitP : kP.init = .initialized := Cond.initialized_spec (findClass_of_methodNamed hnamed) hkP hinit
  obtain ⟨vm₁, X₁, hstep₁⟩ := X.invokestatic hexec hown hlink hnamed hmethM hstatic hkP hinitP hy (g := g) hg (argsL := argsL) (rest := rest) (hlen _ hsigM) hstack hdg
  obtain ⟨v, B, X', hpost, hsteps⟩ := hK m meth c ⟨T.setVm vm₁, locs, cells, slots⟩ { g with stack := rest } (.invokestatic index) mk argsL.toArray X₁ hg hsize hdg hW (X₁.named hnamed) (hpre vm₁ X₁.warmed)
  exact ⟨v, vm₁, B, X₁.warmed, X', hpost, fun target h => hstep₁ _ fun acts => by rw [doInvoke_state]; exact hsteps.trans h⟩
theorem vx_runSW {y : MethodName} {bytes cc : ByteArray} {maxL nL mc ms n index : Nat} {ret : Option FieldType} {hh : List (Nat × Nat × Nat × Nat)} {ws : List Cond} {rm : Room} {Pc : Array Value → State → Prop} {Qc : Array Value → State → Outcome → State → Prop} {free : Addr → Prop} {Ts : List Cond} {own : String} {As rest : List Value} {g : JFrame}
    (S : CallFix p m c cc nL s args Ts own) (hM : Met l y ws rm Pc Qc mc ms free) (cw : vx_CSW R s args own index y bytes maxL ret hh ws rm mc ms n) (hp : PreS s H Pc As)
    (hg : g.method = m) (hn : As.length = n) (hsize : g.locals.size = nL) (hstack : g.stack = As.reverse ++ rest) (hW : 2 * g.monitorRoom + (rest.map fun v => v.category).sum ≤ 8) (hdg : decode cc g.pc = .ok (.invokestatic index, 3)) (hf : cells + mc ≤ R.cells ∧ slots + ms ≤ R.slots) :
    va_Run p l e R s m args below meth c H locs cells slots mc ms g rest (Qc As.toArray) (free) := by
  obtain ⟨⟨hrc, hrs, hfr, hlo, hws, hcw⟩, hcode, hini, hy, hlen, hl, hstt⟩ := cw
  have hK : Back l R p e below s args y 3 8 (PreOf R mc ms Pc) (PostOf Qc mc ms free) := va_backW (hh := hh) (bytes := bytes) (maxL := maxL) (ret := ret) hM hp.1 hrc hrs hfr hlo hws hcw (fun a' U hW => word_at hW (Or.inl (by first | rfl | simp [Cond.onTables, Cond.keeps, Cond.steady])) hini)
  obtain ⟨hx, hb, hml, ho, -⟩ := S
  intro T hT X
  obtain ⟨v, vm₁, ⟨U', l2, c2, s2⟩, hW₁, X', ⟨g', mk, t, L, e1, e2, hq, h1, hL, h2, h3⟩, st⟩ := vx_callSW X hx (hh := hh) (bytes := bytes) (maxL := maxL) (ret := ret) ho hl hstt hini hcode hy hK hg (hsize.trans hml.symm) (argsL := As) (rest := rest) (fun sig h => hn.trans (hlen sig h)) hstack hW (by rw [hb]; exact hdg)
    (fun vm₁ hW₁ => ⟨hf.1, hf.2, hp.2 (T.setVm vm₁) hT hW₁⟩)
  dsimp only [Pt.U, Pt.locs, Pt.cells, Pt.slots] at X' e1 e2 h1 h2 h3 st
  subst h1; subst h2; subst h3
  exact ⟨v, (T.setVm vm₁).calling g' mk As.toArray, t, U', L, hT, X', hL, e1, e2, hq, st⟩
/-- not caught here, past rows that name other classes: it goes on to the caller -/
theorem vx_outP {p : Program} {l : Launch} {e : Env} {R : Room} {s : State} {m : MethodId} {args : Array Value} {below : List Frame} {meth : Method} {c : Code} {H : Heap} {locs : List Loc} {cells slots : Nat} {free : Addr → Prop} {ls : Array Slot} {rest : List Value} {Qc : Array Value → State → Outcome → State → Prop} {XC : String → State → State → Prop}
    {pc : Nat} {own E : String} {ce : Cell} {q : Addr} {mc ms : Nat} (hown : s.vm.findClass own = some m.cls) (hlocks : meth.locks = false)
    (hpass : ∀ z ∈ c.exceptionTable.toList, covers z pc = false ∨ (z.catchType ≠ 0 ∧ ∃ nm : String, (Cond.classLink own z.catchType nm).before args s = true ∧ va_Nc E nm s)) (hcell : H[q]? = some ce) (hv : ce.vm = .none) (hcl : s.vm.findClass E = some ce.cls)
    (hx : ∀ t : State, t.heap = H → s.vm.Alike t.vm → XC E s t) (hf : ∀ z ∈ locs, free z.base) (hc : cells ≤ mc) (hs : slots ≤ ms) :
    vx_W p l e R s m args below meth c H locs cells slots (vx_MQ below Qc XC args s mc ms free) (F0 m pc ls rest) q := by
  intro T hT X
  have hpl : e.platform.magicAccessors = ({} : Platform).magicAccessors := by rw [X.admits.platform]
  obtain ⟨vm', hW', X', st⟩ := X.outThrough hlocks q (g := F0 m pc ls rest) rfl rfl rfl (cell := ce) (by rw [hT]; exact hcell) (by rw [hv]; rfl)
    (by obtain ⟨k9, h9, -⟩ := Vm.findClass_spec hcl; exact ⟨k9, h9⟩) (fun z hz => by
      rcases hpass z hz with h | ⟨hz0, nm, hl1, hn1⟩
      · exact Or.inl h
      · obtain ⟨c6, hc6, hcl6⟩ := Cond.classLink_spec hown hl1 e.platform hpl
        obtain ⟨a8, b8, h1, h2, h3⟩ := hn1
        cases Option.some.inj (h1.symm.trans hcl)
        cases Option.some.inj (h2.symm.trans hc6)
        exact Or.inr ⟨hz0, _, hcl6, h3⟩)
  obtain ⟨g₀, hfr⟩ := X'.frames_eq
  have hcell9 : ((T.setVm vm').setFrames (.throwing q :: below)).heap[q]? = some ce := by
    show T.heap[q]? = some ce
    rw [hT]; exact hcell
  have hend : Ended ((T.setVm vm').setFrames (.throwing q :: below)) below (.threw q) := State.frames_setFrames _ (State.cur_lt_of_frames hfr)
  refine ⟨(T.setVm vm').setFrames (.throwing q :: below), ?_, .threw q, X'.here.running, hend, Or.inr ⟨q, rfl, E, ce, locs, hx _ hT (X'.ends _).1.alike, hcell9, hv, hcl, (X'.ends _).1, (X'.ends _).2.mono hc hs, hf⟩⟩
  rw [X.pushThrowing_eq]
  exact st
/-- a thing of a world lies in the heap -/
theorem vx_lt {D : va_G} {cl : List vw_C} {ws : va_W} {H1 : Heap} (h : va_P D cl ws H1) {k : Nat} {q : Nat × va_E} (hk : ws[k]? = some q) : q.1 < H1.size := (h k q hk).lt
end VXS
/-! ===== END ===== -/
/-! ===== BEGIN methods with a table of their own: called by a name, returning or throwing ===== -/
section VXH
/-! vx_backW, vx_callVX, vx_callSX, vx_callVW, vx_runVW, vx_runVX, vx_runSX, vx_ofWH follow the same proofs as their sisters above (Free/Laws.lean, Shelf42/LK1.lean); vx_outP calls Shelf42/NT130.lean (outThrough). -/
section
variable {l : Launch} {R : Room} {p : Program} {e : Env} {below : List Frame} {s : State} {sargs : Array Value} {y : MethodName} {len W9 : Nat}
theorem vx_backW {ws : List Cond} {rm : Room} {Pc : Array Value → State → Prop} {Qc : Array Value → State → Outcome → State → Prop} {XC : String → State → State → Prop} {mc ms : Nat} {free : Addr → Prop} {bytes : ByteArray} {maxL : Nat} {ret : Option FieldType} {hh : List (Nat × Nat × Nat × Nat)}
    (hM : vx_Met l y ws rm Pc Qc XC mc ms free) (hblind : FrameBlind Pc) (hrc : rm.cells = mc) (hrs : rm.slots = ms)
    (hframes : rm.frames + 1 ≤ R.frames) (hlocals : W9 + (maxL + 11) + rm.locals ≤ R.locals)
    (hws : ∀ w ∈ ws, ∀ a' U, s.WarmedH U.vm → w.before a' U = true) (hcode : Cond.codeWith y bytes maxL ret hh ∈ ws) (hinit : ∀ a' U, s.WarmedH U.vm → (Cond.initialized y.cls).before a' U = true) :
    vx_Back l R p e below s sargs y len W9 (PreOf R mc ms Pc) (PostOf Qc mc ms free) (vx_Post XC mc ms free) := by
  intro m meth c A g ig mk a X hg hsize hdg hW hn hp
  have h1 : (headSpec ws rm).pre.before a A.U = true := atoms_intro fun w hw => hws w hw _ _ X.warmed
  have h2 : (Cond.codeWith y bytes maxL ret hh).before a A.U = true := hws _ hcode _ _ X.warmed
  have h3 : (Cond.initialized y.cls).before a A.U = true := hinit _ _ X.warmed
  have h4 : A.cells + (headSpec ws rm).room.cells ≤ R.cells := by rw [show (headSpec ws rm).room.cells = mc from hrc]; exact hp.1
  have h5 : A.slots + (headSpec ws rm).room.slots ≤ R.slots := by rw [show (headSpec ws rm).room.slots = ms from hrs]; exact hp.2.1
  have hPc : Pc a (A.U.calling g mk a) := hblind _ _ _ _ hp.2.2
  obtain ⟨U, Ls, c0, s0⟩ := A
  dsimp only [Pt.U, Pt.locs, Pt.cells, Pt.slots] at h1 h2 h3 h4 h5 X hn hPc ⊢
  obtain ⟨m9, methY, cY, hn9, hmY, hcY, -, hlY, -⟩ := Cond.codeWith_spec h2
  cases Option.some.inj (hn9.symm.trans hn)
  obtain ⟨kY, hkY, -⟩ := className_of_methodNamed hn
  have hinitY : kY.init = .initialized := Cond.initialized_spec (findClass_of_methodNamed hn) hkY h3
  have h : At U g.method c below := by rw [hg]; exact X.here
  have hlocals9 : W9 + (maxL + 11) + (headSpec ws rm).room.locals ≤ R.locals := hlocals
  have happ : (headSpec ws rm).appliesLoose y e.platform (U.calling g mk a) = true :=
    Spec.appliesLoose_calling (g := g) h hdg hn hkY hinitY
      (X.room_calling (g := g) (R' := (headSpec ws rm).room) hsize hmY hcY hframes (by rw [hlY]; omega) h4 h5) h1
  obtain ⟨mid, hmid⟩ := h.above
  have hfr : (U.setTop g).frames = (.java g :: mid) ++ below := by rw [State.frames_setTop' g h.top, hmid]; rfl
  obtain ⟨o, s₂, hsteps, -, hend, hq⟩ := Steps.callFree hM p X.admits X.cas X.clock (acts := []) hfr happ hPc trivial
  have hq' : vx_Q Qc XC mc ms free a (U.calling g mk a) o s₂ := hq
  rw [State.frames_setTop' g h.top] at hend
  obtain ⟨g₀, hg0⟩ := Option.isSome_iff_exists.mp h.top
  obtain ⟨r, hr⟩ := State.topJava?_eq_some.mp hg0
  have hr' : (({ U with heap := s₂.heap, slotsUsed := s₂.slotsUsed } : State).setVm s₂.vm).frames = .java g₀ :: r := hr
  rcases hq' with ⟨hqc, L, hfe, hL⟩ | ⟨q, rfl, E, ce, L, hx, hce, hcv, hcl, hW₂, hsm, hL⟩
  · obtain ⟨⟨v, rfl⟩, hW₂, e2, q2, q3, q4, q5, q6⟩ := id hfe
    have e3 : s₂ = ({ (U.calling g mk a).setFrames s₂.frames with heap := s₂.heap, slotsUsed := s₂.slotsUsed } : State).setVm s₂.vm := by
      have : s₂ = ({ s₂ with vm := (U.calling g mk a).vm } : State).setVm s₂.vm := rfl
      rw [e2] at this
      exact this
    obtain ⟨c₂, i₂, len₂, hc₂, hd₂, hf₂⟩ := hend
    have hW' : U.WarmedH s₂.vm := hW₂
    have hcc : c₂ = c := by
      have h1 : s₂.code? g.method = U.code? g.method := by
        rw [State.code?_eq, State.code?_eq, hW'.alike.method?]
      exact Option.some.inj (hc₂.symm.trans (h1.trans h.code))
    subst hcc
    have hlen : len₂ = len := by rw [hdg] at hd₂; cases hd₂; rfl
    subst hlen
    have hs₂ : s₂ = (({ U with heap := s₂.heap, slotsUsed := s₂.slotsUsed } : State).setVm s₂.vm).setTop { g with pc := g.pc + len₂, stack := v.toList ++ g.stack } := by
      refine e3.trans ?_
      rw [hf₂, State.calling_eq h.top, State.setFrames_setFrames, State.setTop_of_frames _ hr', hr]
      rfl
    have hsame : U.sameButNew ({ U with heap := s₂.heap, slotsUsed := s₂.slotsUsed } : State) L mc ms := by
      refine ⟨?_, q2, q3, q4, q5, q6⟩
      obtain ⟨t, ht, -⟩ := State.frames_cons hr
      show ({ U with heap := s₂.heap, slotsUsed := s₂.slotsUsed } : State) = { U.setFrames U.frames with heap := s₂.heap, slotsUsed := s₂.slotsUsed }
      rw [State.setFrames_self ht]
    subst hg
    refine Or.inl ⟨v, ⟨(({ U with heap := s₂.heap, slotsUsed := s₂.slotsUsed } : State).setVm s₂.vm), Ls ++ L, c0 + mc, s0 + ms⟩,
      ⟨X.admits, X.cas, X.clock, X.frames, X.room, X.hears, X.method, X.code, (X.here.setHeapUsed s₂.heap s₂.slotsUsed).setVm hW'.alike, X.tail, State.WarmedH.trans X.warmed hW', X.limits, X.bytes, X.same.trans (hsame.setVm s.vm)⟩,
      ⟨g, mk, s₂, L, rfl, rfl, hqc, rfl, hL, rfl, rfl⟩, ?_⟩
    show Steps p.tables e below _ ((({ U with heap := s₂.heap, slotsUsed := s₂.slotsUsed } : State).setVm s₂.vm).setTop { g with pc := g.pc + len₂, stack := v.toList ++ g.stack })
    rw [← hs₂]
    exact hsteps
  · obtain ⟨e2, q2, q3, q4, q5, q6⟩ := id hsm
    have e3 : s₂ = ({ (U.calling g mk a).setFrames s₂.frames with heap := s₂.heap, slotsUsed := s₂.slotsUsed } : State).setVm s₂.vm := by
      have : s₂ = ({ s₂ with vm := (U.calling g mk a).vm } : State).setVm s₂.vm := rfl
      rw [e2] at this
      exact this
    have hf₂ : s₂.frames = .throwing q :: .java g :: U.frames.tail := hend
    have hW' : U.WarmedH s₂.vm := hW₂
    have hs₂ : s₂ = ((({ U with heap := s₂.heap, slotsUsed := s₂.slotsUsed } : State).setVm s₂.vm).setTop g).pushFrame (.throwing q) := by
      refine e3.trans ?_
      rw [hf₂, State.calling_eq h.top, State.setFrames_setFrames, State.pushFrame, State.frames_setTop _ hr', State.setTop_of_frames _ hr', State.setFrames_setFrames, hr]
      rfl
    have hsame : U.sameButNew ({ U with heap := s₂.heap, slotsUsed := s₂.slotsUsed } : State) L mc ms := by
      refine ⟨?_, q2, q3, q4, q5, q6⟩
      obtain ⟨t, ht, -⟩ := State.frames_cons hr
      show ({ U with heap := s₂.heap, slotsUsed := s₂.slotsUsed } : State) = { U.setFrames U.frames with heap := s₂.heap, slotsUsed := s₂.slotsUsed }
      rw [State.setFrames_self ht]
    subst hg
    refine Or.inr ⟨q, ⟨(({ U with heap := s₂.heap, slotsUsed := s₂.slotsUsed } : State).setVm s₂.vm), Ls ++ L, c0 + mc, s0 + ms⟩,
      ⟨X.admits, X.cas, X.clock, X.frames, X.room, X.hears, X.method, X.code, (X.here.setHeapUsed s₂.heap s₂.slotsUsed).setVm hW'.alike, X.tail, State.WarmedH.trans X.warmed hW', X.limits, X.bytes, X.same.trans (hsame.setVm s.vm)⟩,
      ⟨g, mk, s₂, L, E, ce, rfl, rfl, hx, hce, hcv, hcl, rfl, hL, rfl, rfl⟩, ?_⟩
    show Steps p.tables e below _ (((({ U with heap := s₂.heap, slotsUsed := s₂.slotsUsed } : State).setVm s₂.vm).setTop g).pushFrame (.throwing q))
    rw [← hs₂]
    exact hsteps
end
variable {p : Program} {l : Launch} {e : Env} {R : Room} {s : State} {m : MethodId} {args : Array Value} {below : List Frame} {meth : Method} {c : Code} {T : State} {H : Heap} {locs : List Loc} {cells slots : Nat}
theorem vx_callVX (X : Stand p l e R s m args below meth c T locs cells slots) (hexec : p.tables.exec = Jvm.exec) {own C : String} {index : Nat} {y : MethodName} {bytes : ByteArray} {maxL : Nat} {ret : Option FieldType} {hh : List (Nat × Nat × Nat × Nat)}
    (hown : s.vm.findClass own = some m.cls) (hlink : (Cond.methodLink own index y).before args s = true) (hinst : (Cond.instanceMethod y).before args s = true) (hsel : (Cond.selects C y y).before args s = true)
    (hcode : (Cond.codeWith y bytes maxL ret hh).before args s = true) (hy : y.cls ≠ "java/lang/invoke/MethodHandle" ∧ y.cls ≠ "java/lang/invoke/VarHandle")
    {W9 : Nat} {Pre : Pt → Array Value → Prop} {Post : Pt → Array Value → Option Value → Pt → Prop} {PostX : Pt → Array Value → Addr → Pt → Prop} (hK : vx_Back l R p e below s args y 3 W9 Pre Post PostX)
    {b : Addr} {cellB : Cell} (hcell : T.heap[b]? = some cellB) (hobj : cellB.vm.isStatics = false) (hcls : s.vm.findClass C = some cellB.cls)
    {g : JFrame} (hg : g.method = m) (hsize : g.locals.size = c.maxLocals) {argsL rest : List Value} (hlen : ∀ sig, parseMethodDescriptor y.desc = some sig → argsL.length = sig.parameters.length)
    (hstack : g.stack = argsL.reverse ++ .ref b :: rest) (hW : 2 * g.monitorRoom + (rest.map fun v => v.category).sum ≤ W9) (hdg : decode c.code g.pc = .ok (.invokevirtual index, 3))
    (hpre : ∀ vm₁, s.WarmedH vm₁ → Pre ⟨T.setVm vm₁, locs, cells, slots⟩ (Value.ref b :: argsL).toArray) :
    (∃ (v : Option Value) (vm₁ : Vm) (B : Pt), s.WarmedH vm₁ ∧ Stand p l e R s m args below meth c B.U B.locs B.cells B.slots ∧ Post ⟨T.setVm vm₁, locs, cells, slots⟩ (Value.ref b :: argsL).toArray v B ∧
      ∀ target, Steps p.tables e below (B.U.setTop { g with pc := g.pc + 3, stack := v.toList ++ rest }) target → Steps p.tables e below (T.setTop g) target) ∨
    (∃ (q : Addr) (vm₁ : Vm) (B : Pt), s.WarmedH vm₁ ∧ Stand p l e R s m args below meth c B.U B.locs B.cells B.slots ∧ PostX ⟨T.setVm vm₁, locs, cells, slots⟩ (Value.ref b :: argsL).toArray q B ∧
      Steps p.tables e below (T.setTop g) ((B.U.setTop { g with stack := rest }).pushFrame (.throwing q))) := by
  obtain ⟨mk, methM, hnamed, hmethM, hstM, habM⟩ := Cond.instanceMethod_spec hinst
  obtain ⟨m8, methM', cM, hn8, hmethM', -, -, -, -, -, -, hsigM⟩ := Cond.codeWith_spec hcode
  cases Option.some.inj (hn8.symm.trans hnamed)
  cases hmethM.symm.trans hmethM'
  obtain ⟨c2, r2, m2, q1, q2, q3, q4, kP, hkP, hkPi⟩ := Cond.selects_spec hsel
  cases hcls.symm.trans q1
  cases (State.methodFound?_of_named hnamed hy).symm.trans q2
  cases hnamed.symm.trans q3
  have hselP : selectMethod e.platform s.vm cellB.cls mk = .method mk := by rw [Launch.admits_selectMethod X.admits]; exact q4
  obtain ⟨vm₁, X₁, hstep₁⟩ := X.invokevirtual hexec hown hlink hnamed hmethM hstM hkP hkPi hy (a := b) (cell := cellB) hcell
    (fun z h => by rw [h] at hobj; cases hobj) hselP hmethM habM hkP hkPi (g := g) hg (argsL := argsL) (rest := rest) (hlen _ hsigM) hstack hdg
  rcases hK m meth c ⟨T.setVm vm₁, locs, cells, slots⟩ { g with stack := rest } (.invokevirtual index) mk (Value.ref b :: argsL).toArray X₁ hg hsize hdg hW (X₁.named hnamed) (hpre vm₁ X₁.warmed) with ⟨v, B, X', hpost, hsteps⟩ | ⟨q, B, X', hpost, hsteps⟩
  · exact Or.inl ⟨v, vm₁, B, X₁.warmed, X', hpost, fun target h => hstep₁ _ fun acts => by rw [doInvoke_state]; exact hsteps.trans h⟩
  · exact Or.inr ⟨q, vm₁, B, X₁.warmed, X', hpost, hstep₁ _ fun acts => by rw [doInvoke_state]; exact hsteps⟩
theorem vx_callSX (X : Stand p l e R s m args below meth c T locs cells slots) (hexec : p.tables.exec = Jvm.exec) {own : String} {index : Nat} {y : MethodName} {bytes : ByteArray} {maxL : Nat} {ret : Option FieldType} {hh : List (Nat × Nat × Nat × Nat)}
    (hown : s.vm.findClass own = some m.cls) (hlink : (Cond.methodLink own index y).before args s = true) (hstat : (Cond.static y).before args s = true) (hinit : (Cond.initialized y.cls).before args s = true)
    (hcode : (Cond.codeWith y bytes maxL ret hh).before args s = true) (hy : y.cls ≠ "java/lang/invoke/MethodHandle" ∧ y.cls ≠ "java/lang/invoke/VarHandle")
    {W9 : Nat} {Pre : Pt → Array Value → Prop} {Post : Pt → Array Value → Option Value → Pt → Prop} {PostX : Pt → Array Value → Addr → Pt → Prop} (hK : vx_Back l R p e below s args y 3 W9 Pre Post PostX)
    {g : JFrame} (hg : g.method = m) (hsize : g.locals.size = c.maxLocals) {argsL rest : List Value} (hlen : ∀ sig, parseMethodDescriptor y.desc = some sig → argsL.length = sig.parameters.length)
    (hstack : g.stack = argsL.reverse ++ rest) (hW : 2 * g.monitorRoom + (rest.map fun v => v.category).sum ≤ W9) (hdg : decode c.code g.pc = .ok (.invokestatic index, 3))
    (hpre : ∀ vm₁, s.WarmedH vm₁ → Pre ⟨T.setVm vm₁, locs, cells, slots⟩ argsL.toArray) :
    (∃ (v : Option Value) (vm₁ : Vm) (B : Pt), s.WarmedH vm₁ ∧ Stand p l e R s m args below meth c B.U B.locs B.cells B.slots ∧ Post ⟨T.setVm vm₁, locs, cells, slots⟩ argsL.toArray v B ∧
      ∀ target, Steps p.tables e below (B.U.setTop { g with pc := g.pc + 3, stack := v.toList ++ rest }) target → Steps p.tables e below (T.setTop g) target) ∨
    (∃ (q : Addr) (vm₁ : Vm) (B : Pt), s.WarmedH vm₁ ∧ Stand p l e R s m args below meth c B.U B.locs B.cells B.slots ∧ PostX ⟨T.setVm vm₁, locs, cells, slots⟩ argsL.toArray q B ∧
      Steps p.tables e below (T.setTop g) ((B.U.setTop { g with stack := rest }).pushFrame (.throwing q))) := by
  obtain ⟨mk, methM, cM, hnamed, hmethM, -, -, -, -, -, -, hsigM⟩ := Cond.codeWith_spec hcode
  have hstatic : methM.isStatic = true := Cond.static_spec hnamed hmethM hstat
  obtain ⟨kP, hkP, -⟩ := className_of_methodNamed hnamed
  have hinitP : kP.init = .initialized := Cond.initialized_spec (findClass_of_methodNamed hnamed) hkP hinit
  obtain ⟨vm₁, X₁, hstep₁⟩ := X.invokestatic hexec hown hlink hnamed hmethM hstatic hkP hinitP hy (g := g) hg (argsL := argsL) (rest := rest) (hlen _ hsigM) hstack hdg
  rcases hK m meth c ⟨T.setVm vm₁, locs, cells, slots⟩ { g with stack := rest } (.invokestatic index) mk argsL.toArray X₁ hg hsize hdg hW (X₁.named hnamed) (hpre vm₁ X₁.warmed) with ⟨v, B, X', hpost, hsteps⟩ | ⟨q, B, X', hpost, hsteps⟩
  · exact Or.inl ⟨v, vm₁, B, X₁.warmed, X', hpost, fun target h => hstep₁ _ fun acts => by rw [doInvoke_state]; exact hsteps.trans h⟩
  · exact Or.inr ⟨q, vm₁, B, X₁.warmed, X', hpost, hstep₁ _ fun acts => by rw [doInvoke_state]; exact hsteps⟩
theorem vx_callVW (X : Stand p l e R s m args below meth c T locs cells slots) (hexec : p.tables.exec = Jvm.exec) {own C : String} {index : Nat} {y : MethodName} {bytes : ByteArray} {maxL : Nat} {ret : Option FieldType} {hh : List (Nat × Nat × Nat × Nat)}
    (hown : s.vm.findClass own = some m.cls) (hlink : (Cond.methodLink own index y).before args s = true) (hinst : (Cond.instanceMethod y).before args s = true) (hsel : (Cond.selects C y y).before args s = true)
    (hcode : (Cond.codeWith y bytes maxL ret hh).before args s = true) (hy : y.cls ≠ "java/lang/invoke/MethodHandle" ∧ y.cls ≠ "java/lang/invoke/VarHandle")
    {W9 : Nat} {Pre : Pt → Array Value → Prop} {Post : Pt → Array Value → Option Value → Pt → Prop} (hK : Back l R p e below s args y 3 W9 Pre Post)
    {b : Addr} {cellB : Cell} (hcell : T.heap[b]? = some cellB) (hobj : cellB.vm.isStatics = false) (hcls : s.vm.findClass C = some cellB.cls)
    {g : JFrame} (hg : g.method = m) (hsize : g.locals.size = c.maxLocals) {argsL rest : List Value} (hlen : ∀ sig, parseMethodDescriptor y.desc = some sig → argsL.length = sig.parameters.length)
    (hstack : g.stack = argsL.reverse ++ .ref b :: rest) (hW : 2 * g.monitorRoom + (rest.map fun v => v.category).sum ≤ W9) (hdg : decode c.code g.pc = .ok (.invokevirtual index, 3))
    (hpre : ∀ vm₁, s.WarmedH vm₁ → Pre ⟨T.setVm vm₁, locs, cells, slots⟩ (Value.ref b :: argsL).toArray) :
    ∃ (v : Option Value) (vm₁ : Vm) (B : Pt), s.WarmedH vm₁ ∧ Stand p l e R s m args below meth c B.U B.locs B.cells B.slots ∧ Post ⟨T.setVm vm₁, locs, cells, slots⟩ (Value.ref b :: argsL).toArray v B ∧
      ∀ target, Steps p.tables e below (B.U.setTop { g with pc := g.pc + 3, stack := v.toList ++ rest }) target → Steps p.tables e below (T.setTop g) target := by
  obtain ⟨mk, methM, hnamed, hmethM, hstM, habM⟩ := Cond.instanceMethod_spec hinst
  obtain ⟨m8, methM', cM, hn8, hmethM', -, -, -, -, -, -, hsigM⟩ := Cond.codeWith_spec hcode
  cases Option.some.inj (hn8.symm.trans hnamed)
  cases hmethM.symm.trans hmethM'
  obtain ⟨c2, r2, m2, q1, q2, q3, q4, kP, hkP, hkPi⟩ := Cond.selects_spec hsel
  cases hcls.symm.trans q1
  cases (State.methodFound?_of_named hnamed hy).symm.trans q2
  cases hnamed.symm.trans q3
  have hselP : selectMethod e.platform s.vm cellB.cls mk = .method mk := by rw [Launch.admits_selectMethod X.admits]; exact q4
  obtain ⟨vm₁, X₁, hstep₁⟩ := X.invokevirtual hexec hown hlink hnamed hmethM hstM hkP hkPi hy (a := b) (cell := cellB) hcell
    (fun z h => by rw [h] at hobj; cases hobj) hselP hmethM habM hkP hkPi (g := g) hg (argsL := argsL) (rest := rest) (hlen _ hsigM) hstack hdg
  obtain ⟨v, B, X', hpost, hsteps⟩ := hK m meth c ⟨T.setVm vm₁, locs, cells, slots⟩ { g with stack := rest } (.invokevirtual index) mk (Value.ref b :: argsL).toArray X₁ hg hsize hdg hW (X₁.named hnamed) (hpre vm₁ X₁.warmed)
  exact ⟨v, vm₁, B, X₁.warmed, X', hpost, fun target h => hstep₁ _ fun acts => by rw [doInvoke_state]; exact hsteps.trans h⟩
abbrev vx_CVW (R : Room) (s : State) (args : Array Value) (own C : String) (index : Nat) (y : MethodName) (bytes : ByteArray) (maxL : Nat) (ret : Option FieldType) (hh : List (Nat × Nat × Nat × Nat)) (ws : List Cond) (rm : Room) (mc ms n : Nat) : Prop :=
  (rm.cells = mc ∧ rm.slots = ms ∧ rm.frames + 1 ≤ R.frames ∧ 8 + (maxL + 11) + rm.locals ≤ R.locals ∧ (∀ w ∈ ws, ∀ (a' : Array Value) (U : State), s.WarmedH U.vm → w.before a' U = true) ∧ Cond.codeWith y bytes maxL ret hh ∈ ws) ∧
  (Cond.codeWith y bytes maxL ret hh).before args s = true ∧ (Cond.initialized y.cls).before args s = true ∧ (y.cls ≠ "java/lang/invoke/MethodHandle" ∧ y.cls ≠ "java/lang/invoke/VarHandle") ∧
  (∀ sig, parseMethodDescriptor y.desc = some sig → n = sig.parameters.length) ∧ (Cond.methodLink own index y).before args s = true ∧ (Cond.instanceMethod y).before args s = true ∧ (Cond.selects C y y).before args s = true
theorem vx_cwVW {own C : String} {index maxL mc ms : Nat} {y : MethodName} {bytes : ByteArray} {ret : Option FieldType} {hh : List (Nat × Nat × Nat × Nat)} {Ts ws ws' : List Cond} {rm : Room} (n : Nat) (ht : ∀ w ∈ Ts, w.before args s = true) (hT : GoodIn Ts (wsV own index C y ws)) (hw : ws = Cond.codeWith y bytes maxL ret hh :: ws') (hrc : rm.cells = mc) (hrs : rm.slots = ms)
    (hd : y.cls = C ∧ y.cls ≠ "java/lang/invoke/MethodHandle" ∧ y.cls ≠ "java/lang/invoke/VarHandle" ∧ (parseMethodDescriptor y.desc).map (fun d => d.parameters.length) = some n) (hR : rm.frames + 1 ≤ R.frames ∧ 8 + (maxL + 11) + rm.locals ≤ R.locals) :
    vx_CVW R s args own C index y bytes maxL ret hh ws rm mc ms n := by
  obtain ⟨hC, hd⟩ := hd
  subst hC
  have ok : ∀ w ∈ wsV own index y.cls y ws, w.before args s = true := fun w h => ht w (hT w h).1
  have hG : GoodIn Ts ws := fun w h => hT w (by unfold wsV; exact List.mem_append_right _ h)
  have hc : Cond.codeWith y bytes maxL ret hh ∈ ws := by rw [hw]; exact List.mem_cons_self
  refine ⟨⟨hrc, hrs, hR.1, hR.2, pay_in ht hG, hc⟩, ht _ (hG _ hc).1, ok _ (by simp [wsV]), ⟨hd.1, hd.2.1⟩, fun sig h => ?_, ok _ (by simp [wsV]), ok _ (by simp [wsV]), ok _ (by simp [wsV])⟩
  have h2 := hd.2.2
  rw [h] at h2
  exact (Option.some.inj h2).symm
theorem vx_runVW {y : MethodName} {bytes cc : ByteArray} {maxL nL mc ms n index : Nat} {ret : Option FieldType} {hh : List (Nat × Nat × Nat × Nat)} {ws : List Cond} {rm : Room} {Pc : Array Value → State → Prop} {Qc : Array Value → State → Outcome → State → Prop} {free : Addr → Prop} {Ts : List Cond} {own C : String} {b : Addr} {As rest : List Value} {g : JFrame}
    (S : CallFix p m c cc nL s args Ts own) (hM : Met l y ws rm Pc Qc mc ms free) (cw : vx_CVW R s args own C index y bytes maxL ret hh ws rm mc ms n) (hp : PreV s H C b Pc As)
    (hg : g.method = m) (hn : As.length = n) (hsize : g.locals.size = nL) (hstack : g.stack = As.reverse ++ .ref b :: rest) (hW : 2 * g.monitorRoom + (rest.map fun v => v.category).sum ≤ 8) (hdg : decode cc g.pc = .ok (.invokevirtual index, 3)) (hf : cells + mc ≤ R.cells ∧ slots + ms ≤ R.slots) :
    va_Run p l e R s m args below meth c H locs cells slots mc ms g rest (Qc (Value.ref b :: As).toArray) free := by
  obtain ⟨⟨hrc, hrs, hfr, hlo, hws, hcw⟩, hcode, hini, hy, hlen, hl, hin, hse⟩ := cw
  have hK : Back l R p e below s args y 3 8 (PreOf R mc ms Pc) (PostOf Qc mc ms free) := va_backW (hh := hh) (bytes := bytes) (maxL := maxL) (ret := ret) hM hp.1 hrc hrs hfr hlo hws hcw (fun a' U hW => word_at hW (Or.inl (by first | rfl | simp [Cond.onTables, Cond.keeps, Cond.steady])) hini)
  obtain ⟨hx, hb, hml, ho, -⟩ := S
  obtain ⟨-, ⟨cellB, hcB, hoB, hclB⟩, hPc⟩ := hp
  intro T hT X
  obtain ⟨v, vm₁, ⟨U', l2, c2, s2⟩, hW₁, X', ⟨g', mk, t, L, e1, e2, hq, h1, hL, h2, h3⟩, st⟩ := vx_callVW X hx (C := C) (hh := hh) (bytes := bytes) (maxL := maxL) (ret := ret) ho hl hin hse hcode hy hK (by rw [hT]; exact hcB) hoB hclB hg (hsize.trans hml.symm) (argsL := As) (rest := rest) (fun sig h => hn.trans (hlen sig h)) hstack hW (by rw [hb]; exact hdg)
    (fun vm₁ hW₁ => ⟨hf.1, hf.2, hPc (T.setVm vm₁) hT hW₁⟩)
  dsimp only [Pt.U, Pt.locs, Pt.cells, Pt.slots] at X' e1 e2 h1 h2 h3 st
  subst h1; subst h2; subst h3
  exact ⟨v, (T.setVm vm₁).calling g' mk (Value.ref b :: As).toArray, t, U', L, hT, X', hL, e1, e2, hq, st⟩
section
variable {y : MethodName} {bytes cc : ByteArray} {maxL nL mc ms n index : Nat} {ret : Option FieldType} {ws : List Cond} {rm : Room} {Pc : Array Value → State → Prop} {Qc : Array Value → State → Outcome → State → Prop} {XC : String → State → State → Prop} {free : Addr → Prop} {Ts : List Cond} {own C : String} {b : Addr} {As rest : List Value} {g : JFrame}
theorem vx_runVX {hh : List (Nat × Nat × Nat × Nat)} (S : CallFix p m c cc nL s args Ts own) (hM : vx_Met l y ws rm Pc Qc XC mc ms free) (cw : vx_CVW R s args own C index y bytes maxL ret hh ws rm mc ms n) (hp : PreV s H C b Pc As)
    (hg : g.method = m) (hn : As.length = n) (hsize : g.locals.size = nL) (hstack : g.stack = As.reverse ++ .ref b :: rest) (hW : 2 * g.monitorRoom + (rest.map fun v => v.category).sum ≤ 8) (hdg : decode cc g.pc = .ok (.invokevirtual index, 3)) (hf : cells + mc ≤ R.cells ∧ slots + ms ≤ R.slots) :
    vx_Run p l e R s m args below meth c H locs cells slots mc ms g rest (Qc (Value.ref b :: As).toArray) XC free := by
  obtain ⟨⟨hrc, hrs, hfr, hlo, hws, hcw⟩, hcode, hini, hy, hlen, hl, hin, hse⟩ := cw
  have hK : vx_Back l R p e below s args y 3 8 (PreOf R mc ms Pc) (PostOf Qc mc ms free) (vx_Post XC mc ms free) := vx_backW (hh := hh) (bytes := bytes) (maxL := maxL) (ret := ret) hM hp.1 hrc hrs hfr hlo hws hcw (fun a' U hW => word_at hW (Or.inl (by first | rfl | simp [Cond.onTables, Cond.keeps, Cond.steady])) hini)
  obtain ⟨hx, hb, hml, ho, -⟩ := S
  obtain ⟨-, ⟨cellB, hcB, hoB, hclB⟩, hPc⟩ := hp
  intro T hT X
  rcases vx_callVX X hx (C := C) (hh := hh) (bytes := bytes) (maxL := maxL) (ret := ret) ho hl hin hse hcode hy hK (by rw [hT]; exact hcB) hoB hclB hg (hsize.trans hml.symm) (argsL := As) (rest := rest) (fun sig h => hn.trans (hlen sig h)) hstack hW (by rw [hb]; exact hdg)
    (fun vm₁ hW₁ => ⟨hf.1, hf.2, hPc (T.setVm vm₁) hT hW₁⟩) with ⟨v, vm₁, ⟨U', l2, c2, s2⟩, hW₁, X', ⟨g', mk, t, L, e1, e2, hq, h1, hL, h2, h3⟩, st⟩ | ⟨q, vm₁, ⟨U', l2, c2, s2⟩, hW₁, X', ⟨g', mk, t, L, E, ce, e1, e2, hq, hce, hcv, hcl, h1, hL, h2, h3⟩, st⟩
  · dsimp only [Pt.U, Pt.locs, Pt.cells, Pt.slots] at X' e1 e2 h1 h2 h3 st
    subst h1; subst h2; subst h3
    exact Or.inl ⟨v, (T.setVm vm₁).calling g' mk (Value.ref b :: As).toArray, t, U', L, hT, X', hL, e1, e2, hq, st⟩
  · dsimp only [Pt.U, Pt.locs, Pt.cells, Pt.slots] at X' e1 e2 h1 h2 h3 st hcl
    subst h1; subst h2; subst h3
    exact Or.inr ⟨q, (T.setVm vm₁).calling g' mk (Value.ref b :: As).toArray, t, U', L, E, ce, hT, X', hL, e1, e2, hq, hce, hcv, vx_cls hW₁ hcl, st⟩
theorem vx_runSX {hh : List (Nat × Nat × Nat × Nat)} (S : CallFix p m c cc nL s args Ts own) (hM : vx_Met l y ws rm Pc Qc XC mc ms free) (cw : vx_CSW R s args own index y bytes maxL ret hh ws rm mc ms n) (hp : PreS s H Pc As)
    (hg : g.method = m) (hn : As.length = n) (hsize : g.locals.size = nL) (hstack : g.stack = As.reverse ++ rest) (hW : 2 * g.monitorRoom + (rest.map fun v => v.category).sum ≤ 8) (hdg : decode cc g.pc = .ok (.invokestatic index, 3)) (hf : cells + mc ≤ R.cells ∧ slots + ms ≤ R.slots) :
    vx_Run p l e R s m args below meth c H locs cells slots mc ms g rest (Qc As.toArray) XC free := by
  obtain ⟨⟨hrc, hrs, hfr, hlo, hws, hcw⟩, hcode, hini, hy, hlen, hl, hstt⟩ := cw
  have hK : vx_Back l R p e below s args y 3 8 (PreOf R mc ms Pc) (PostOf Qc mc ms free) (vx_Post XC mc ms free) := vx_backW (hh := hh) (bytes := bytes) (maxL := maxL) (ret := ret) hM hp.1 hrc hrs hfr hlo hws hcw (fun a' U hW => word_at hW (Or.inl (by first | rfl | simp [Cond.onTables, Cond.keeps, Cond.steady])) hini)
  obtain ⟨hx, hb, hml, ho, -⟩ := S
  intro T hT X
  rcases vx_callSX X hx (hh := hh) (bytes := bytes) (maxL := maxL) (ret := ret) ho hl hstt hini hcode hy hK hg (hsize.trans hml.symm) (argsL := As) (rest := rest) (fun sig h => hn.trans (hlen sig h)) hstack hW (by rw [hb]; exact hdg)
    (fun vm₁ hW₁ => ⟨hf.1, hf.2, hp.2 (T.setVm vm₁) hT hW₁⟩) with ⟨v, vm₁, ⟨U', l2, c2, s2⟩, hW₁, X', ⟨g', mk, t, L, e1, e2, hq, h1, hL, h2, h3⟩, st⟩ | ⟨q, vm₁, ⟨U', l2, c2, s2⟩, hW₁, X', ⟨g', mk, t, L, E, ce, e1, e2, hq, hce, hcv, hcl, h1, hL, h2, h3⟩, st⟩
  · dsimp only [Pt.U, Pt.locs, Pt.cells, Pt.slots] at X' e1 e2 h1 h2 h3 st
    subst h1; subst h2; subst h3
    exact Or.inl ⟨v, (T.setVm vm₁).calling g' mk As.toArray, t, U', L, hT, X', hL, e1, e2, hq, st⟩
  · dsimp only [Pt.U, Pt.locs, Pt.cells, Pt.slots] at X' e1 e2 h1 h2 h3 st hcl
    subst h1; subst h2; subst h3
    exact Or.inr ⟨q, (T.setVm vm₁).calling g' mk As.toArray, t, U', L, E, ce, hT, X', hL, e1, e2, hq, hce, hcv, vx_cls hW₁ hcl, st⟩
end
end VXH
theorem vx_ofWH {l : Launch} {y : MethodName} {ws ws' : List Cond} {rm : Room} {Pc : Array Value → State → Prop} {Qc : Array Value → State → Outcome → State → Prop} {XC : String → State → State → Prop} {mc ms : Nat} {free : Addr → Prop} {cc : ByteArray} {maxL : Nat} {ret : Option FieldType} {hh : List (Nat × Nat × Nat × Nat)}
    (hy : plainName y.cls = true) (hw : ws = Cond.codeWith y cc maxL ret hh :: ws')
    (body : ∀ p e s m args below meth c s₁, BodyLoose p l y (headSpec ws rm) cc maxL ret e s m args below meth c s₁ → c.maxLocals = maxL → Pc args s →
      W p l e (headSpec ws rm).room s m args below meth c s.heap [] 0 0 (vx_MQ below Qc XC args s mc ms free) (entryFrame m args maxL)) : vx_Met l y ws rm Pc Qc XC mc ms free := by
  refine MetFree.of_bodyS (code := cc) (maxLocals := maxL) (ret := ret) hy ?_ ?_
  · intro args s m h hn
    obtain ⟨m9, meth, c, hn9, h1, h2, h3, h4, -, h5, h6, -⟩ := Cond.codeWith_spec (atoms_spec (ws := ws) h _ (by rw [hw]; exact List.mem_cons_self))
    cases hn.symm.trans hn9
    exact ⟨meth, c, h1, h2, h3, h4, h5, h6⟩
  · intro p e s m args below meth c s₁ B hml hP _
    have hh0 : s₁.heap = s.heap := by rw [B.state]; rfl
    obtain ⟨t, a1, o, b1, b2, b3⟩ := body p e s m args below meth c s₁ B hml hP s₁ hh0 (Stand.of_body B)
    exact ⟨t, o, a1, b1, b2, b3⟩
/-! ===== END ===== -/

/-! ===== BEGIN a constructor that throws (launches without stack traces) ===== -/
section VXIA
variable {p : Program} {l : Launch} {e : Env} {R : Room} {s : State} {m : MethodId} {args : Array Value} {below : List Frame} {meth : Method} {c : Code} {T : State} {locs : List Loc} {cells slots : Nat}
theorem vx_callI (X : Stand p l e R s m args below meth c T locs cells slots) (hexec : p.tables.exec = Jvm.exec) {own : String} {index : Nat} {y : MethodName} {bytes : ByteArray} {maxL : Nat}
    (hown : s.vm.findClass own = some m.cls) (hy1 : y.name = "<init>") (hlink : (Cond.methodLink own index y).before args s = true) (hinst : (Cond.instanceMethod y).before args s = true)
    (hcode : (Cond.code y bytes maxL none).before args s = true) (hy : y.cls ≠ "java/lang/invoke/MethodHandle" ∧ y.cls ≠ "java/lang/invoke/VarHandle")
    {W9 : Nat} {Pre : Pt → Array Value → Prop} {Post : Pt → Array Value → Option Value → Pt → Prop} {PostX : Pt → Array Value → Addr → Pt → Prop} (hK : vx_Back l R p e below s args y 3 W9 Pre Post PostX)
    {g : JFrame} (hg : g.method = m) (hsize : g.locals.size = c.maxLocals) {a : Addr} {argsL rest : List Value} (hlen : ∀ sig, parseMethodDescriptor y.desc = some sig → argsL.length = sig.parameters.length)
    (hstack : g.stack = argsL.reverse ++ .ref a :: rest) (hW : 2 * g.monitorRoom + (rest.map fun v => v.category).sum ≤ W9) (hdg : decode c.code g.pc = .ok (.invokespecial index, 3))
    (hpre : ∀ vm₁, s.WarmedH vm₁ → Pre ⟨T.setVm vm₁, locs, cells, slots⟩ (Value.ref a :: argsL).toArray) :
    (∃ (v : Option Value) (vm₁ : Vm) (B : Pt), s.WarmedH vm₁ ∧ Stand p l e R s m args below meth c B.U B.locs B.cells B.slots ∧ Post ⟨T.setVm vm₁, locs, cells, slots⟩ (Value.ref a :: argsL).toArray v B ∧
      ∀ target, Steps p.tables e below (B.U.setTop { g with pc := g.pc + 3, stack := v.toList ++ rest }) target → Steps p.tables e below (T.setTop g) target) ∨
    (∃ (q : Addr) (vm₁ : Vm) (B : Pt), s.WarmedH vm₁ ∧ Stand p l e R s m args below meth c B.U B.locs B.cells B.slots ∧ PostX ⟨T.setVm vm₁, locs, cells, slots⟩ (Value.ref a :: argsL).toArray q B ∧
      Steps p.tables e below (T.setTop g) ((B.U.setTop { g with stack := rest }).pushFrame (.throwing q))) := by
  subst hg
  have hpl : e.platform.magicAccessors = ({} : Platform).magicAccessors := by rw [X.admits.platform]
  obtain ⟨mk, methM, cM, kP, vm₁, hnamed, hmethM, hcodeM, -, hlocalsM, -, hkP, -, hW₁, hstep₁⟩ := Steps.initColdArgs (e := e) X.here hexec X.warmed hpl hown hy1 hy hlink hinst hcode (f := g) rfl hlen hstack hdg
  have X₁ := X.noted hW₁
  rcases hK g.method meth c ⟨T.setVm vm₁, locs, cells, slots⟩ { g with stack := rest } (.invokespecial index) mk (Value.ref a :: argsL).toArray X₁ rfl hsize hdg hW (X₁.named hnamed) (hpre vm₁ X₁.warmed) with ⟨v, B, X', hpost, hsteps⟩ | ⟨q, B, X', hpost, hsteps⟩
  · exact Or.inl ⟨v, vm₁, B, X₁.warmed, X', hpost, fun target h => hstep₁ _ fun acts => by rw [doInvoke_state]; exact hsteps.trans h⟩
  · exact Or.inr ⟨q, vm₁, B, X₁.warmed, X', hpost, hstep₁ _ fun acts => by rw [doInvoke_state]; exact hsteps⟩
end VXIA
section VXIB
variable {p : Program} {l : Launch} {e : Env} {R : Room} {s : State} {m : MethodId} {args : Array Value} {below : List Frame} {meth : Method} {c : Code} {H : Heap} {locs : List Loc} {cells slots : Nat}
variable {y : MethodName} {bytes cc : ByteArray} {maxL nL mc ms n index : Nat} {ret : Option FieldType} {ws : List Cond} {rm : Room} {Pc : Array Value → State → Prop} {Qc : Array Value → State → Outcome → State → Prop} {XC : String → State → State → Prop} {free : Addr → Prop} {Ts : List Cond} {own C : String} {b : Addr} {As rest : List Value} {g : JFrame}
theorem vx_runI (S : CallFix p m c cc nL s args Ts own) (hM : vx_Met l y ws rm Pc Qc XC mc ms free) (cw : CallB R s args own index y bytes maxL none ws rm mc ms n ∧ y.name = "<init>" ∧ (Cond.instanceMethod y).before args s = true) (hp : PreS s H Pc (.ref b :: As))
    (hg : g.method = m) (hn : As.length = n) (hsize : g.locals.size = nL) (hstack : g.stack = As.reverse ++ .ref b :: rest) (hW : 2 * g.monitorRoom + (rest.map fun v => v.category).sum ≤ 8) (hdg : decode cc g.pc = .ok (.invokespecial index, 3)) (hf : cells + mc ≤ R.cells ∧ slots + ms ≤ R.slots) :
    vx_Run p l e R s m args below meth c H locs cells slots mc ms g rest (Qc (Value.ref b :: As).toArray) XC free := by
  have hK : vx_Back l R p e below s args y 3 8 (PreOf R mc ms Pc) (PostOf Qc mc ms free) (vx_Post XC mc ms free) := vx_callBack cw.1 hM hp.1
  obtain ⟨⟨-, -, -, -, -, -, hcode, -, hy, hlen, hl⟩, hy1, hin⟩ := cw
  obtain ⟨hx, hb, hml, ho, -⟩ := S
  have hPc := hp.2
  intro T hT X
  rcases vx_callI X hx (bytes := bytes) (maxL := maxL) ho hy1 hl hin hcode hy hK hg (hsize.trans hml.symm) (a := b) (argsL := As) (rest := rest) (fun sig h => hn.trans (hlen sig h)) hstack hW (by rw [hb]; exact hdg)
    (fun vm₁ hW₁ => ⟨hf.1, hf.2, hPc (T.setVm vm₁) hT hW₁⟩) with ⟨v, vm₁, ⟨U', l2, c2, s2⟩, hW₁, X', ⟨g', mk, t, L, e1, e2, hq, h1, hL, h2, h3⟩, st⟩ | ⟨q, vm₁, ⟨U', l2, c2, s2⟩, hW₁, X', ⟨g', mk, t, L, E, ce, e1, e2, hq, hce, hcv, hcl, h1, hL, h2, h3⟩, st⟩
  · dsimp only [Pt.U, Pt.locs, Pt.cells, Pt.slots] at X' e1 e2 h1 h2 h3 st
    subst h1; subst h2; subst h3
    exact Or.inl ⟨v, (T.setVm vm₁).calling g' mk (Value.ref b :: As).toArray, t, U', L, hT, X', hL, e1, e2, hq, st⟩
  · dsimp only [Pt.U, Pt.locs, Pt.cells, Pt.slots] at X' e1 e2 h1 h2 h3 st hcl
    subst h1; subst h2; subst h3
    exact Or.inr ⟨q, (T.setVm vm₁).calling g' mk (Value.ref b :: As).toArray, t, U', L, E, ce, hT, X', hL, e1, e2, hq, hce, hcv, vx_cls hW₁ hcl, st⟩
end VXIB
/-! ===== END ===== -/

/-! ===== BEGIN a private constructor of a nest mate that throws ===== -/
section VXIC
variable {p : Program} {l : Launch} {e : Env} {R : Room} {s : State} {m : MethodId} {args : Array Value} {below : List Frame} {meth : Method} {c : Code} {T : State} {locs : List Loc} {cells slots : Nat}
theorem vx_callIN (X : Stand p l e R s m args below meth c T locs cells slots) (hexec : p.tables.exec = Jvm.exec) {own : String} {index : Nat} {host : String} {y : MethodName} {bytes : ByteArray} {maxL : Nat}
    (hown : s.vm.findClass own = some m.cls) (hy1 : y.name = "<init>") (hlink : (Cond.methodLinkNest own index y host).before args s = true) (hinst : (Cond.instanceMethod y).before args s = true)
    (hcode : (Cond.code y bytes maxL none).before args s = true) (hy : y.cls ≠ "java/lang/invoke/MethodHandle" ∧ y.cls ≠ "java/lang/invoke/VarHandle")
    {W9 : Nat} {Pre : Pt → Array Value → Prop} {Post : Pt → Array Value → Option Value → Pt → Prop} {PostX : Pt → Array Value → Addr → Pt → Prop} (hK : vx_Back l R p e below s args y 3 W9 Pre Post PostX)
    {g : JFrame} (hg : g.method = m) (hsize : g.locals.size = c.maxLocals) {a : Addr} {argsL rest : List Value} (hlen : ∀ sig, parseMethodDescriptor y.desc = some sig → argsL.length = sig.parameters.length)
    (hstack : g.stack = argsL.reverse ++ .ref a :: rest) (hW : 2 * g.monitorRoom + (rest.map fun v => v.category).sum ≤ W9) (hdg : decode c.code g.pc = .ok (.invokespecial index, 3))
    (hpre : ∀ vm₁, s.WarmedH vm₁ → Pre ⟨T.setVm vm₁, locs, cells, slots⟩ (Value.ref a :: argsL).toArray) :
    (∃ (v : Option Value) (vm₁ : Vm) (B : Pt), s.WarmedH vm₁ ∧ Stand p l e R s m args below meth c B.U B.locs B.cells B.slots ∧ Post ⟨T.setVm vm₁, locs, cells, slots⟩ (Value.ref a :: argsL).toArray v B ∧
      ∀ target, Steps p.tables e below (B.U.setTop { g with pc := g.pc + 3, stack := v.toList ++ rest }) target → Steps p.tables e below (T.setTop g) target) ∨
    (∃ (q : Addr) (vm₁ : Vm) (B : Pt), s.WarmedH vm₁ ∧ Stand p l e R s m args below meth c B.U B.locs B.cells B.slots ∧ PostX ⟨T.setVm vm₁, locs, cells, slots⟩ (Value.ref a :: argsL).toArray q B ∧
      Steps p.tables e below (T.setTop g) ((B.U.setTop { g with stack := rest }).pushFrame (.throwing q))) := by
  subst hg
  have hpl : e.platform.magicAccessors = ({} : Platform).magicAccessors := by rw [X.admits.platform]
  obtain ⟨mk, methM, cM, kP, vm₁, hnamed, hmethM, hcodeM, -, hlocalsM, -, hkP, -, hW₁, hstep₁⟩ := Steps.initColdArgsNest (e := e) X.here hexec X.warmed hpl hown hy1 hy hlink hinst hcode (f := g) rfl hlen hstack hdg
  have X₁ := X.noted hW₁
  rcases hK g.method meth c ⟨T.setVm vm₁, locs, cells, slots⟩ { g with stack := rest } (.invokespecial index) mk (Value.ref a :: argsL).toArray X₁ rfl hsize hdg hW (X₁.named hnamed) (hpre vm₁ X₁.warmed) with ⟨v, B, X', hpost, hsteps⟩ | ⟨q, B, X', hpost, hsteps⟩
  · exact Or.inl ⟨v, vm₁, B, X₁.warmed, X', hpost, fun target h => hstep₁ _ fun acts => by rw [doInvoke_state]; exact hsteps.trans h⟩
  · exact Or.inr ⟨q, vm₁, B, X₁.warmed, X', hpost, hstep₁ _ fun acts => by rw [doInvoke_state]; exact hsteps⟩
end VXIC
section VXID
variable {p : Program} {l : Launch} {e : Env} {R : Room} {s : State} {m : MethodId} {args : Array Value} {below : List Frame} {meth : Method} {c : Code} {H : Heap} {locs : List Loc} {cells slots : Nat}
theorem vx_runIN {y : MethodName} {bytes cc : ByteArray} {maxL nL mc ms n index : Nat} {ws : List Cond} {rm : Room} {Pc : Array Value → State → Prop} {Qc : Array Value → State → Outcome → State → Prop} {XC : String → State → State → Prop} {free : Addr → Prop} {Ts : List Cond} {own host : String} {b : Addr} {As rest : List Value} {g : JFrame}
    (S : CallFix p m c cc nL s args Ts own) (hM : vx_Met l y ws rm Pc Qc XC mc ms free) (cw : va_CN R s args own index y host bytes maxL none ws rm mc ms n ∧ y.name = "<init>" ∧ (Cond.instanceMethod y).before args s = true) (hp : PreS s H Pc (.ref b :: As))
    (hg : g.method = m) (hn : As.length = n) (hsize : g.locals.size = nL) (hstack : g.stack = As.reverse ++ .ref b :: rest) (hW : 2 * g.monitorRoom + (rest.map fun v => v.category).sum ≤ 8) (hdg : decode cc g.pc = .ok (.invokespecial index, 3)) (hf : cells + mc ≤ R.cells ∧ slots + ms ≤ R.slots) :
    vx_Run p l e R s m args below meth c H locs cells slots mc ms g rest (Qc (Value.ref b :: As).toArray) XC free := by
  obtain ⟨⟨⟨hrc, hrs, hfr, hlo, hws, hcw⟩, hcode, hini, hy, hlen, hl⟩, hx1, hx2⟩ := cw
  have hK : vx_Back l R p e below s args y 3 8 (PreOf R mc ms Pc) (PostOf Qc mc ms free) (vx_Post XC mc ms free) := vx_back (bytes := bytes) (maxL := maxL) (ret := none) hM hp.1 hrc hrs hfr hlo hws hcw (fun a' U hW => word_at hW (Or.inl (by first | rfl | simp [Cond.onTables, Cond.keeps, Cond.steady])) hini)
  obtain ⟨hx, hb, hml, ho, -⟩ := S
  have hPc := hp.2
  intro T hT X
  rcases vx_callIN X hx (bytes := bytes) (maxL := maxL) ho hx1 hl hx2 hcode hy hK hg (hsize.trans hml.symm) (a := b) (argsL := As) (rest := rest) (fun sig h => hn.trans (hlen sig h)) hstack hW (by rw [hb]; exact hdg)
    (fun vm₁ hW₁ => ⟨hf.1, hf.2, hPc (T.setVm vm₁) hT hW₁⟩) with ⟨v, vm₁, ⟨U', l2, c2, s2⟩, hW₁, X', ⟨g', mk, t, L, e1, e2, hq, h1, hL, h2, h3⟩, st⟩ | ⟨q, vm₁, ⟨U', l2, c2, s2⟩, hW₁, X', ⟨g', mk, t, L, E, ce, e1, e2, hq, hce, hcv, hcl, h1, hL, h2, h3⟩, st⟩
  · dsimp only [Pt.U, Pt.locs, Pt.cells, Pt.slots] at X' e1 e2 h1 h2 h3 st
    subst h1; subst h2; subst h3
    exact Or.inl ⟨v, (T.setVm vm₁).calling g' mk (Value.ref b :: As).toArray, t, U', L, hT, X', hL, e1, e2, hq, st⟩
  · dsimp only [Pt.U, Pt.locs, Pt.cells, Pt.slots] at X' e1 e2 h1 h2 h3 st hcl
    subst h1; subst h2; subst h3
    exact Or.inr ⟨q, (T.setVm vm₁).calling g' mk (Value.ref b :: As).toArray, t, U', L, E, ce, hT, X', hL, e1, e2, hq, hce, hcv, vx_cls hW₁ hcl, st⟩
end VXID
/-! ===== END ===== -/

/-! ===== BEGIN a private method of a nest mate that may throw (follows va_callVN, va_callSN, va_runVN, va_runSN) ===== -/
section
variable {p : Program} {l : Launch} {e : Env} {R : Room} {s : State} {m : MethodId} {args : Array Value} {below : List Frame} {meth : Method} {c : Code} {H : Heap} {locs : List Loc} {cells slots : Nat}
variable {T : State}
theorem vx_callVN (X : Stand p l e R s m args below meth c T locs cells slots) (hexec : p.tables.exec = Jvm.exec) {own C : String} {index : Nat} {host : String} {y : MethodName} {bytes : ByteArray} {maxL : Nat} {ret : Option FieldType}
    (hown : s.vm.findClass own = some m.cls) (hlink : (Cond.methodLinkNest own index y host).before args s = true) (hinst : (Cond.instanceMethod y).before args s = true) (hsel : (Cond.selects C y y).before args s = true)
    (hcode : (Cond.code y bytes maxL ret).before args s = true) (hy : y.cls ≠ "java/lang/invoke/MethodHandle" ∧ y.cls ≠ "java/lang/invoke/VarHandle")
    {W : Nat} {Pre : Pt → Array Value → Prop} {Post : Pt → Array Value → Option Value → Pt → Prop} {PostX : Pt → Array Value → Addr → Pt → Prop} (hK : vx_Back l R p e below s args y 3 W Pre Post PostX)
    {b : Addr} {cellB : Cell} (hcell : T.heap[b]? = some cellB) (hobj : cellB.vm.isStatics = false) (hcls : s.vm.findClass C = some cellB.cls)
    {g : JFrame} (hg : g.method = m) (hsize : g.locals.size = c.maxLocals) {argsL rest : List Value} (hlen : ∀ sig, parseMethodDescriptor y.desc = some sig → argsL.length = sig.parameters.length)
    (hstack : g.stack = argsL.reverse ++ .ref b :: rest) (hW : 2 * g.monitorRoom + (rest.map fun v => v.category).sum ≤ W) (hdg : decode c.code g.pc = .ok (.invokevirtual index, 3))
    (hpre : ∀ vm₁, s.WarmedH vm₁ → Pre ⟨T.setVm vm₁, locs, cells, slots⟩ (Value.ref b :: argsL).toArray) :
    (∃ (v : Option Value) (vm₁ : Vm) (B : Pt), s.WarmedH vm₁ ∧ Stand p l e R s m args below meth c B.U B.locs B.cells B.slots ∧ Post ⟨T.setVm vm₁, locs, cells, slots⟩ (Value.ref b :: argsL).toArray v B ∧
      ∀ target, Steps p.tables e below (B.U.setTop { g with pc := g.pc + 3, stack := v.toList ++ rest }) target → Steps p.tables e below (T.setTop g) target) ∨
    (∃ (q : Addr) (vm₁ : Vm) (B : Pt), s.WarmedH vm₁ ∧ Stand p l e R s m args below meth c B.U B.locs B.cells B.slots ∧ PostX ⟨T.setVm vm₁, locs, cells, slots⟩ (Value.ref b :: argsL).toArray q B ∧
      Steps p.tables e below (T.setTop g) ((B.U.setTop { g with stack := rest }).pushFrame (.throwing q))) := by
  obtain ⟨mk, methM, hnamed, hmethM, hstM, habM⟩ := Cond.instanceMethod_spec hinst
  obtain ⟨methM', cM, hmethM', -, -, -, -, -, -, hsigM⟩ := Cond.code_spec hnamed hcode
  cases hmethM.symm.trans hmethM'
  obtain ⟨c2, r2, m2, q1, q2, q3, q4, kP, hkP, hkPi⟩ := Cond.selects_spec hsel
  cases hcls.symm.trans q1
  cases (State.methodFound?_of_named hnamed hy).symm.trans q2
  cases hnamed.symm.trans q3
  have hselP : selectMethod e.platform s.vm cellB.cls mk = .method mk := by rw [Launch.admits_selectMethod X.admits]; exact q4
  obtain ⟨vm₁, X₁, hstep₁⟩ := X.invokevirtualNest hexec hown hlink hnamed hmethM hstM hkP hkPi hy (a := b) (cell := cellB) hcell
    (fun z h => by rw [h] at hobj; cases hobj) hselP hmethM habM hkP hkPi (g := g) hg (argsL := argsL) (rest := rest) (hlen _ hsigM) hstack hdg
  rcases hK m meth c ⟨T.setVm vm₁, locs, cells, slots⟩ { g with stack := rest } (.invokevirtual index) mk (Value.ref b :: argsL).toArray X₁ hg hsize hdg hW (X₁.named hnamed) (hpre vm₁ X₁.warmed) with ⟨v, B, X', hpost, hsteps⟩ | ⟨q, B, X', hpost, hsteps⟩
  · exact Or.inl ⟨v, vm₁, B, X₁.warmed, X', hpost, fun target h => hstep₁ _ fun acts => by rw [doInvoke_state]; exact hsteps.trans h⟩
  · exact Or.inr ⟨q, vm₁, B, X₁.warmed, X', hpost, hstep₁ _ fun acts => by rw [doInvoke_state]; exact hsteps⟩
theorem vx_callSN (X : Stand p l e R s m args below meth c T locs cells slots) (hexec : p.tables.exec = Jvm.exec) {own : String} {index : Nat} {host : String} {y : MethodName} {bytes : ByteArray} {maxL : Nat} {ret : Option FieldType}
    (hown : s.vm.findClass own = some m.cls) (hlink : (Cond.methodLinkNest own index y host).before args s = true) (hstat : (Cond.static y).before args s = true) (hinit : (Cond.initialized y.cls).before args s = true)
    (hcode : (Cond.code y bytes maxL ret).before args s = true) (hy : y.cls ≠ "java/lang/invoke/MethodHandle" ∧ y.cls ≠ "java/lang/invoke/VarHandle")
    {W : Nat} {Pre : Pt → Array Value → Prop} {Post : Pt → Array Value → Option Value → Pt → Prop} {PostX : Pt → Array Value → Addr → Pt → Prop} (hK : vx_Back l R p e below s args y 3 W Pre Post PostX)
    {g : JFrame} (hg : g.method = m) (hsize : g.locals.size = c.maxLocals) {argsL rest : List Value} (hlen : ∀ sig, parseMethodDescriptor y.desc = some sig → argsL.length = sig.parameters.length)
    (hstack : g.stack = argsL.reverse ++ rest) (hW : 2 * g.monitorRoom + (rest.map fun v => v.category).sum ≤ W) (hdg : decode c.code g.pc = .ok (.invokestatic index, 3))
    (hpre : ∀ vm₁, s.WarmedH vm₁ → Pre ⟨T.setVm vm₁, locs, cells, slots⟩ argsL.toArray) :
    (∃ (v : Option Value) (vm₁ : Vm) (B : Pt), s.WarmedH vm₁ ∧ Stand p l e R s m args below meth c B.U B.locs B.cells B.slots ∧ Post ⟨T.setVm vm₁, locs, cells, slots⟩ argsL.toArray v B ∧
      ∀ target, Steps p.tables e below (B.U.setTop { g with pc := g.pc + 3, stack := v.toList ++ rest }) target → Steps p.tables e below (T.setTop g) target) ∨
    (∃ (q : Addr) (vm₁ : Vm) (B : Pt), s.WarmedH vm₁ ∧ Stand p l e R s m args below meth c B.U B.locs B.cells B.slots ∧ PostX ⟨T.setVm vm₁, locs, cells, slots⟩ argsL.toArray q B ∧
      Steps p.tables e below (T.setTop g) ((B.U.setTop { g with stack := rest }).pushFrame (.throwing q))) := by
  obtain ⟨mk, hnamed⟩ := Cond.code_named hcode
  obtain ⟨methM, cM, hmethM, -, -, -, -, -, -, hsigM⟩ := Cond.code_spec hnamed hcode
  have hstatic : methM.isStatic = true := Cond.static_spec hnamed hmethM hstat
  obtain ⟨kP, hkP, -⟩ := className_of_methodNamed hnamed
  have hinitP : kP.init = .initialized := Cond.initialized_spec (findClass_of_methodNamed hnamed) hkP hinit
  obtain ⟨vm₁, X₁, hstep₁⟩ := X.invokestaticNest hexec hown hlink hnamed hmethM hstatic hkP hinitP hy (g := g) hg (argsL := argsL) (rest := rest) (hlen _ hsigM) hstack hdg
  rcases hK m meth c ⟨T.setVm vm₁, locs, cells, slots⟩ { g with stack := rest } (.invokestatic index) mk argsL.toArray X₁ hg hsize hdg hW (X₁.named hnamed) (hpre vm₁ X₁.warmed) with ⟨v, B, X', hpost, hsteps⟩ | ⟨q, B, X', hpost, hsteps⟩
  · exact Or.inl ⟨v, vm₁, B, X₁.warmed, X', hpost, fun target h => hstep₁ _ fun acts => by rw [doInvoke_state]; exact hsteps.trans h⟩
  · exact Or.inr ⟨q, vm₁, B, X₁.warmed, X', hpost, hstep₁ _ fun acts => by rw [doInvoke_state]; exact hsteps⟩
theorem vx_runVN {y : MethodName} {bytes cc : ByteArray} {maxL nL mc ms n index : Nat} {ret : Option FieldType} {ws : List Cond} {rm : Room} {Pc : Array Value → State → Prop} {Qc : Array Value → State → Outcome → State → Prop} {XC : String → State → State → Prop} {free : Addr → Prop} {Ts : List Cond} {own C host : String} {b : Addr} {As rest : List Value} {g : JFrame}
    (S : CallFix p m c cc nL s args Ts own) (hM : vx_Met l y ws rm Pc Qc XC mc ms free) (cw : va_CN R s args own index y host bytes maxL ret ws rm mc ms n ∧ (Cond.instanceMethod y).before args s = true ∧ (Cond.selects C y y).before args s = true) (hp : PreV s H C b Pc As)
    (hg : g.method = m) (hn : As.length = n) (hsize : g.locals.size = nL) (hstack : g.stack = As.reverse ++ .ref b :: rest) (hW : 2 * g.monitorRoom + (rest.map fun v => v.category).sum ≤ 8) (hdg : decode cc g.pc = .ok (.invokevirtual index, 3)) (hf : cells + mc ≤ R.cells ∧ slots + ms ≤ R.slots) :
    vx_Run p l e R s m args below meth c H locs cells slots mc ms g rest (Qc (Value.ref b :: As).toArray) XC free := by
  obtain ⟨⟨⟨hrc, hrs, hfr, hlo, hws, hcw⟩, hcode, hini, hy, hlen, hl⟩, hx1, hx2⟩ := cw
  have hK : vx_Back l R p e below s args y 3 8 (PreOf R mc ms Pc) (PostOf Qc mc ms free) (vx_Post XC mc ms free) := vx_back (bytes := bytes) (maxL := maxL) (ret := ret) hM hp.1 hrc hrs hfr hlo hws hcw (fun a' U hW => word_at hW (Or.inl (by first | rfl | simp [Cond.onTables, Cond.keeps, Cond.steady])) hini)
  obtain ⟨hx, hb, hml, ho, -⟩ := S
  obtain ⟨-, ⟨cellB, hcB, hoB, hclB⟩, hPc⟩ := hp
  intro T hT X
  rcases vx_callVN X hx (C := C) (bytes := bytes) (maxL := maxL) (ret := ret) ho hl hx1 hx2 hcode hy hK (by rw [hT]; exact hcB) hoB hclB hg (hsize.trans hml.symm) (argsL := As) (rest := rest) (fun sig h => hn.trans (hlen sig h)) hstack hW (by rw [hb]; exact hdg)
    (fun vm₁ hW₁ => ⟨hf.1, hf.2, hPc (T.setVm vm₁) hT hW₁⟩) with ⟨v, vm₁, ⟨U', l2, c2, s2⟩, hW₁, X', ⟨g', mk, t, L, e1, e2, hq, h1, hL, h2, h3⟩, st⟩ | ⟨q, vm₁, ⟨U', l2, c2, s2⟩, hW₁, X', ⟨g', mk, t, L, E, ce, e1, e2, hq, hce, hcv, hcl, h1, hL, h2, h3⟩, st⟩
  · dsimp only [Pt.U, Pt.locs, Pt.cells, Pt.slots] at X' e1 e2 h1 h2 h3 st
    subst h1; subst h2; subst h3
    exact Or.inl ⟨v, (T.setVm vm₁).calling g' mk (Value.ref b :: As).toArray, t, U', L, hT, X', hL, e1, e2, hq, st⟩
  · dsimp only [Pt.U, Pt.locs, Pt.cells, Pt.slots] at X' e1 e2 h1 h2 h3 st hcl
    subst h1; subst h2; subst h3
    exact Or.inr ⟨q, (T.setVm vm₁).calling g' mk (Value.ref b :: As).toArray, t, U', L, E, ce, hT, X', hL, e1, e2, hq, hce, hcv, vx_cls hW₁ hcl, st⟩
theorem vx_runSN {y : MethodName} {bytes cc : ByteArray} {maxL nL mc ms n index : Nat} {ret : Option FieldType} {ws : List Cond} {rm : Room} {Pc : Array Value → State → Prop} {Qc : Array Value → State → Outcome → State → Prop} {XC : String → State → State → Prop} {free : Addr → Prop} {Ts : List Cond} {own host : String} {As rest : List Value} {g : JFrame}
    (S : CallFix p m c cc nL s args Ts own) (hM : vx_Met l y ws rm Pc Qc XC mc ms free) (cw : va_CN R s args own index y host bytes maxL ret ws rm mc ms n ∧ (Cond.static y).before args s = true ∧ True) (hp : PreS s H Pc As)
    (hg : g.method = m) (hn : As.length = n) (hsize : g.locals.size = nL) (hstack : g.stack = As.reverse ++ rest) (hW : 2 * g.monitorRoom + (rest.map fun v => v.category).sum ≤ 8) (hdg : decode cc g.pc = .ok (.invokestatic index, 3)) (hf : cells + mc ≤ R.cells ∧ slots + ms ≤ R.slots) :
    vx_Run p l e R s m args below meth c H locs cells slots mc ms g rest (Qc As.toArray) XC free := by
  obtain ⟨⟨⟨hrc, hrs, hfr, hlo, hws, hcw⟩, hcode, hini, hy, hlen, hl⟩, hx1, hx2⟩ := cw
  have hK : vx_Back l R p e below s args y 3 8 (PreOf R mc ms Pc) (PostOf Qc mc ms free) (vx_Post XC mc ms free) := vx_back (bytes := bytes) (maxL := maxL) (ret := ret) hM hp.1 hrc hrs hfr hlo hws hcw (fun a' U hW => word_at hW (Or.inl (by first | rfl | simp [Cond.onTables, Cond.keeps, Cond.steady])) hini)
  obtain ⟨hx, hb, hml, ho, -⟩ := S
  have hPc := hp.2
  intro T hT X
  rcases vx_callSN X hx (bytes := bytes) (maxL := maxL) (ret := ret) ho hl hx1 hini hcode hy hK hg (hsize.trans hml.symm) (argsL := As) (rest := rest) (fun sig h => hn.trans (hlen sig h)) hstack hW (by rw [hb]; exact hdg)
    (fun vm₁ hW₁ => ⟨hf.1, hf.2, hPc (T.setVm vm₁) hT hW₁⟩) with ⟨v, vm₁, ⟨U', l2, c2, s2⟩, hW₁, X', ⟨g', mk, t, L, e1, e2, hq, h1, hL, h2, h3⟩, st⟩ | ⟨q, vm₁, ⟨U', l2, c2, s2⟩, hW₁, X', ⟨g', mk, t, L, E, ce, e1, e2, hq, hce, hcv, hcl, h1, hL, h2, h3⟩, st⟩
  · dsimp only [Pt.U, Pt.locs, Pt.cells, Pt.slots] at X' e1 e2 h1 h2 h3 st
    subst h1; subst h2; subst h3
    exact Or.inl ⟨v, (T.setVm vm₁).calling g' mk As.toArray, t, U', L, hT, X', hL, e1, e2, hq, st⟩
  · dsimp only [Pt.U, Pt.locs, Pt.cells, Pt.slots] at X' e1 e2 h1 h2 h3 st hcl
    subst h1; subst h2; subst h3
    exact Or.inr ⟨q, (T.setVm vm₁).calling g' mk As.toArray, t, U', L, E, ce, hT, X', hL, e1, e2, hq, hce, hcv, vx_cls hW₁ hcl, st⟩
end
/-! ===== END ===== -/
end
section
/-! ===== the reckoner, part 1: values, locals, instructions that touch no heap ===== -/
/-- a value whose references are numbers of cells of a world, said of the machine: the number's address; a float's code k is an int that isn't known: number k of those -/
def ri_v (ad : Nat → Nat) (v : Value) : Value := match v with
  | .ref k => .ref (ad k)
  | .int x => .int x
  | .long x => .long x
  | .float k => .int (Int32.ofNat (ad (2000000 + k.toNat)))
  | .double x => .double x
  | .null => .null
  | .retAddr x => .retAddr x
theorem ri_v_cat (ad : Nat → Nat) (v : Value) : (ri_v ad v).category = v.category := by cases v <;> rfl
/-- an int, known or not -/
def ri_isI (v : Value) : Bool := match v with
  | .int _ => true
  | .float _ => true
  | _ => false
def ri_I (ad : Nat → Nat) (v : Value) : Int32 := match v with
  | .int x => x
  | .float k => Int32.ofNat (ad (2000000 + k.toNat))
  | _ => 0
theorem ri_isI_v {ad : Nat → Nat} {v : Value} (h : ri_isI v = true) : ri_v ad v = .int (ri_I ad v) := by
  cases v <;> first | rfl | cases h
abbrev ri_L : Type := List (Nat × Value)
def ri_lr (ad : Nat → Nat) (lv : ri_L) : ri_L := lv.map (fun q => (q.1, ri_v ad q.2))
noncomputable def ri_get (i : Nat) (lv : ri_L) : Option Value := List.rec none (fun q _ ih => bif Nat.beq q.1 i then some q.2 else ih) lv
theorem ri_get_mem {i : Nat} {v : Value} : ∀ {lv : ri_L}, ri_get i lv = some v → (i, v) ∈ lv
  | [], h => by cases h
  | (j, u) :: r, h => by
    have h2 : (bif Nat.beq j i then some u else ri_get i r) = some v := h
    cases hb : Nat.beq j i with
    | true =>
      rw [hb] at h2
      have e1 : j = i := Nat.eq_of_beq_eq_true hb
      have e2 : u = v := Option.some.inj h2
      subst e1; subst e2
      exact List.mem_cons_self
    | false =>
      rw [hb] at h2
      exact List.mem_cons_of_mem _ (ri_get_mem h2)
theorem ri_at {ad : Nat → Nat} {ls : Array Slot} {nL i : Nat} {lv : ri_L} {v : Value} (hl : lv_has ls nL (ri_lr ad lv)) (h : ri_get i lv = some v) : ls[i]? = some (.val (ri_v ad v)) :=
  hl.2.2 (i, ri_v ad v) (List.mem_map.mpr ⟨(i, v), ri_get_mem h, rfl⟩)
def ri_f1 (i : Nat) (q : Nat × Value) : Bool := !(q.1 == i) && !(q.1 + 1 == i && q.2.category == 2)
def ri_f2 (i : Nat) (q : Nat × Value) : Bool := !(q.1 == i) && (!(q.1 == i + 1) && !(q.1 + 1 == i && q.2.category == 2))
def ri_s1 (i : Nat) (v : Value) (lv : ri_L) : ri_L := (i, v) :: lv.filter (ri_f1 i)
def ri_s2 (i : Nat) (v : Value) (lv : ri_L) : ri_L := (i, v) :: lv.filter (ri_f2 i)
theorem ri_filter {ad : Nat → Nat} {f : Nat × Value → Bool} (hf : ∀ q : Nat × Value, f (q.1, ri_v ad q.2) = f q) : ∀ lv : ri_L, (ri_lr ad lv).filter f = ri_lr ad (lv.filter f)
  | [] => rfl
  | q :: r => by
    show ((q.1, ri_v ad q.2) :: ri_lr ad r).filter f = ri_lr ad ((q :: r).filter f)
    rw [List.filter_cons, List.filter_cons, hf q, ri_filter hf r]
    cases f q <;> rfl
theorem ri_s1_eq {ad : Nat → Nat} {i : Nat} {v : Value} {lv : ri_L} : (i, ri_v ad v) :: (ri_lr ad lv).filter (fun q => !(q.1 == i) && !(q.1 + 1 == i && q.2.category == 2)) = ri_lr ad (ri_s1 i v lv) := by
  have h := ri_filter (ad := ad) (f := ri_f1 i) (fun q => by unfold ri_f1; rw [ri_v_cat]) lv
  exact congrArg (List.cons (i, ri_v ad v)) h
theorem ri_s2_eq {ad : Nat → Nat} {i : Nat} {v : Value} {lv : ri_L} : (i, ri_v ad v) :: (ri_lr ad lv).filter (fun q => !(q.1 == i) && (!(q.1 == i + 1) && !(q.1 + 1 == i && q.2.category == 2))) = ri_lr ad (ri_s2 i v lv) := by
  have h := ri_filter (ad := ad) (f := ri_f2 i) (fun q => by unfold ri_f2; rw [ri_v_cat]) lv
  exact congrArg (List.cons (i, ri_v ad v)) h
/-! what stands on top of the stack -/
section RIP
variable {ρ : Type}

def ri_i1 (st : List Value) (f : Int32 → List Value → Option ρ) : Option ρ := match st with
  | .int x :: r => f x r
  | _ => none
theorem ri_i1_eq {st : List Value} {f : Int32 → List Value → Option ρ} {o : ρ} (h : ri_i1 st f = some o) : ∃ (x : Int32) (r : List Value), st = .int x :: r ∧ f x r = some o := by
  unfold ri_i1 at h
  split at h
  · exact ⟨_, _, rfl, h⟩
  · cases h
def ri_i2 (st : List Value) (f : Int32 → Int32 → List Value → Option ρ) : Option ρ := match st with
  | .int y :: .int x :: r => f y x r
  | _ => none
theorem ri_i2_eq {st : List Value} {f : Int32 → Int32 → List Value → Option ρ} {o : ρ} (h : ri_i2 st f = some o) : ∃ (y : Int32) (x : Int32) (r : List Value), st = .int y :: .int x :: r ∧ f y x r = some o := by
  unfold ri_i2 at h
  split at h
  · exact ⟨_, _, _, rfl, h⟩
  · cases h
def ri_l1 (st : List Value) (f : Int64 → List Value → Option ρ) : Option ρ := match st with
  | .long x :: r => f x r
  | _ => none
theorem ri_l1_eq {st : List Value} {f : Int64 → List Value → Option ρ} {o : ρ} (h : ri_l1 st f = some o) : ∃ (x : Int64) (r : List Value), st = .long x :: r ∧ f x r = some o := by
  unfold ri_l1 at h
  split at h
  · exact ⟨_, _, rfl, h⟩
  · cases h
def ri_l2 (st : List Value) (f : Int64 → Int64 → List Value → Option ρ) : Option ρ := match st with
  | .long y :: .long x :: r => f y x r
  | _ => none
theorem ri_l2_eq {st : List Value} {f : Int64 → Int64 → List Value → Option ρ} {o : ρ} (h : ri_l2 st f = some o) : ∃ (y : Int64) (x : Int64) (r : List Value), st = .long y :: .long x :: r ∧ f y x r = some o := by
  unfold ri_l2 at h
  split at h
  · exact ⟨_, _, _, rfl, h⟩
  · cases h
def ri_il (st : List Value) (f : Int32 → Int64 → List Value → Option ρ) : Option ρ := match st with
  | .int y :: .long x :: r => f y x r
  | _ => none
theorem ri_il_eq {st : List Value} {f : Int32 → Int64 → List Value → Option ρ} {o : ρ} (h : ri_il st f = some o) : ∃ (y : Int32) (x : Int64) (r : List Value), st = .int y :: .long x :: r ∧ f y x r = some o := by
  unfold ri_il at h
  split at h
  · exact ⟨_, _, _, rfl, h⟩
  · cases h
def ri_d1 (st : List Value) (f : UInt64 → List Value → Option ρ) : Option ρ := match st with
  | .double x :: r => f x r
  | _ => none
theorem ri_d1_eq {st : List Value} {f : UInt64 → List Value → Option ρ} {o : ρ} (h : ri_d1 st f = some o) : ∃ (x : UInt64) (r : List Value), st = .double x :: r ∧ f x r = some o := by
  unfold ri_d1 at h
  split at h
  · exact ⟨_, _, rfl, h⟩
  · cases h
def ri_d2 (st : List Value) (f : UInt64 → UInt64 → List Value → Option ρ) : Option ρ := match st with
  | .double y :: .double x :: r => f y x r
  | _ => none
theorem ri_d2_eq {st : List Value} {f : UInt64 → UInt64 → List Value → Option ρ} {o : ρ} (h : ri_d2 st f = some o) : ∃ (y : UInt64) (x : UInt64) (r : List Value), st = .double y :: .double x :: r ∧ f y x r = some o := by
  unfold ri_d2 at h
  split at h
  · exact ⟨_, _, _, rfl, h⟩
  · cases h
def ri_c1 (st : List Value) (f : Value → List Value → Option ρ) : Option ρ := match st with
  | v :: r => bif Nat.beq v.category 1 then f v r else none
  | _ => none
theorem ri_c1_eq {st : List Value} {f : Value → List Value → Option ρ} {o : ρ} (h : ri_c1 st f = some o) : ∃ (v : Value) (r : List Value), st = v :: r ∧ v.category = 1 ∧ f v r = some o := by
  unfold ri_c1 at h
  split at h
  · rename_i v r
    cases hb : Nat.beq v.category 1 with
    | true => rw [hb] at h; exact ⟨v, r, rfl, Nat.eq_of_beq_eq_true hb, h⟩
    | false => rw [hb] at h; cases h
  · cases h
def ri_c2 (st : List Value) (f : Value → List Value → Option ρ) : Option ρ := match st with
  | v :: r => bif Nat.beq v.category 2 then f v r else none
  | _ => none
theorem ri_c2_eq {st : List Value} {f : Value → List Value → Option ρ} {o : ρ} (h : ri_c2 st f = some o) : ∃ (v : Value) (r : List Value), st = v :: r ∧ v.category = 2 ∧ f v r = some o := by
  unfold ri_c2 at h
  split at h
  · rename_i v r
    cases hb : Nat.beq v.category 2 with
    | true => rw [hb] at h; exact ⟨v, r, rfl, Nat.eq_of_beq_eq_true hb, h⟩
    | false => rw [hb] at h; cases h
  · cases h
/-- what a place of the frame holds: an int, a long, a double, a reference or null -/
def ri_gi (v : Option Value) (f : Int32 → Option ρ) : Option ρ := match v with
  | some (.int x) => f x
  | _ => none
theorem ri_gi_eq {v : Option Value} {f : Int32 → Option ρ} {o : ρ} (h : ri_gi v f = some o) : ∃ x : Int32, v = some (.int x) ∧ f x = some o := by
  unfold ri_gi at h
  split at h
  · exact ⟨_, rfl, h⟩
  · cases h
def ri_gl (v : Option Value) (f : Int64 → Option ρ) : Option ρ := match v with
  | some (.long x) => f x
  | _ => none
theorem ri_gl_eq {v : Option Value} {f : Int64 → Option ρ} {o : ρ} (h : ri_gl v f = some o) : ∃ x : Int64, v = some (.long x) ∧ f x = some o := by
  unfold ri_gl at h
  split at h
  · exact ⟨_, rfl, h⟩
  · cases h
def ri_gd (v : Option Value) (f : UInt64 → Option ρ) : Option ρ := match v with
  | some (.double x) => f x
  | _ => none
theorem ri_gd_eq {v : Option Value} {f : UInt64 → Option ρ} {o : ρ} (h : ri_gd v f = some o) : ∃ x : UInt64, v = some (.double x) ∧ f x = some o := by
  unfold ri_gd at h
  split at h
  · exact ⟨_, rfl, h⟩
  · cases h
/-- a reference (kr) or null (kn) -/
def ri_gr (v : Option Value) (kr : Nat → Option ρ) (kn : Option ρ) : Option ρ := match v with
  | some (.ref x) => kr x
  | some .null => kn
  | _ => none
theorem ri_gr_eq {v : Option Value} {kr : Nat → Option ρ} {kn : Option ρ} {o : ρ} (h : ri_gr v kr kn = some o) : (∃ x : Nat, v = some (.ref x) ∧ kr x = some o) ∨ (v = some .null ∧ kn = some o) := by
  unfold ri_gr at h
  split at h
  · exact Or.inl ⟨_, rfl, h⟩
  · exact Or.inr ⟨rfl, h⟩
  · cases h
def ri_r1 (st : List Value) (kr : Nat → List Value → Option ρ) (kn : List Value → Option ρ) : Option ρ := match st with
  | .ref x :: r => kr x r
  | .null :: r => kn r
  | _ => none
theorem ri_r1_eq {st : List Value} {kr : Nat → List Value → Option ρ} {kn : List Value → Option ρ} {o : ρ} (h : ri_r1 st kr kn = some o) : (∃ (x : Nat) (r : List Value), st = .ref x :: r ∧ kr x r = some o) ∨ (∃ r : List Value, st = .null :: r ∧ kn r = some o) := by
  unfold ri_r1 at h
  split at h
  · exact Or.inl ⟨_, _, rfl, h⟩
  · exact Or.inr ⟨_, rfl, h⟩
  · cases h
def ri_gv (v : Option Value) (f : Value → Option ρ) : Option ρ := match v with
  | some u => bif ri_isI u then f u else none
  | none => none
theorem ri_gv_eq {v : Option Value} {f : Value → Option ρ} {o : ρ} (h : ri_gv v f = some o) : ∃ u : Value, v = some u ∧ ri_isI u = true ∧ f u = some o := by
  cases v with
  | none => cases h
  | some u =>
    have h2 : (bif ri_isI u then f u else none) = some o := h
    cases hb : ri_isI u with
    | true => rw [hb] at h2; exact ⟨u, rfl, hb, h2⟩
    | false => rw [hb] at h2; cases h2
def ri_v1 (st : List Value) (f : Value → List Value → Option ρ) : Option ρ := match st with
  | u :: r => bif ri_isI u then f u r else none
  | [] => none
theorem ri_v1_eq {st : List Value} {f : Value → List Value → Option ρ} {o : ρ} (h : ri_v1 st f = some o) : ∃ (u : Value) (r : List Value), st = u :: r ∧ ri_isI u = true ∧ f u r = some o := by
  cases st with
  | nil => cases h
  | cons u r =>
    have h2 : (bif ri_isI u then f u r else none) = some o := h
    cases hb : ri_isI u with
    | true => rw [hb] at h2; exact ⟨u, r, rfl, hb, h2⟩
    | false => rw [hb] at h2; cases h2
def ri_ok (b : Bool) (f : Option ρ) : Option ρ := bif b then f else none
theorem ri_ok_eq {b : Bool} {f : Option ρ} {o : ρ} (h : ri_ok b f = some o) : b = true ∧ f = some o := by
  cases b with
  | true => exact ⟨rfl, h⟩
  | false => cases h
end RIP
/-- what an instruction leaves: which target (0: the next one), its pc, locals, stack -/
abbrev ri_R : Type := Nat × Nat × ri_L × List Value
def ri_cnd (c : Jvm.ClassFile.Cond) (x y : Int32) : Bool := match c with
  | .eq => decide (x = y)
  | .ne => !decide (x = y)
  | .lt => decide (x < y)
  | .ge => decide (y ≤ x)
  | .gt => decide (y < x)
  | .le => decide (x ≤ y)
def ri_br (b : Bool) (pc : Nat) (off : Int) (nx : Nat) (lv : ri_L) (r : List Value) : Option ri_R := match (pc : Int) + off with
  | .ofNat t => bif b then some (1, t, lv, r) else some (0, nx, lv, r)
  | .negSucc _ => none
theorem ri_br_eq {b : Bool} {pc : Nat} {off : Int} {nx : Nat} {lv : ri_L} {r : List Value} {z : ri_R} (h : ri_br b pc off nx lv r = some z) : ∃ t : Nat, (pc : Int) + off = (t : Int) ∧ (b = true ∧ z.2.1 = t ∧ z.2.2.1 = lv ∧ z.2.2.2 = r ∨ b = false ∧ z.2.1 = nx ∧ z.2.2.1 = lv ∧ z.2.2.2 = r) := by
  unfold ri_br at h
  split at h
  · rename_i t ht
    refine ⟨t, ht, ?_⟩
    cases b with
    | true => cases h; exact Or.inl ⟨rfl, rfl, rfl, rfl⟩
    | false => cases h; exact Or.inr ⟨rfl, rfl, rfl, rfl⟩
  · cases h
def ri_tg (pc : Nat) (off : Int) (j : Nat) (lv : ri_L) (r : List Value) : Option ri_R := match (pc : Int) + off with
  | .ofNat t => some (j, t, lv, r)
  | .negSucc _ => none
theorem ri_tg_eq {pc : Nat} {off : Int} {j : Nat} {lv : ri_L} {r : List Value} {z : ri_R} (h : ri_tg pc off j lv r = some z) : ∃ t : Nat, (pc : Int) + off = (t : Int) ∧ z = (j, t, lv, r) := by
  unfold ri_tg at h
  split at h
  · rename_i t ht
    exact ⟨t, ht, (Option.some.inj h).symm⟩
  · cases h

/-- how long an instruction is (0: it says so itself) -/
def ri_len (i : Instr) : Nat := match i with
  | .bipush _ | .iload _ | .lload _ | .dload _ | .aload _ | .istore _ | .lstore _ | .dstore _ | .astore _ | .ldc _ | .newarray _ => 2
  | .sipush _ | .ldc_w _ | .ldc2_w _ | .iinc _ _ | .ifCond _ _ | .if_icmp _ _ | .if_acmp _ _ | .ifnull _ | .ifnonnull _ | .goto _ | .getfield _ | .putfield _ | .getstatic _ | .putstatic _ | .invokevirtual _ | .invokespecial _ | .invokestatic _ | .new _ | .anewarray _ | .checkcast _ | .instanceof _ => 3
  | .multianewarray _ _ => 4
  | .tableswitch _ _ _ _ | .lookupswitch _ _ => 0
  | _ => 1
def ri_n64 (x : UInt64) : Bool := decide (x &&& 9223372036854775807 ≤ 9218868437227405312)
theorem ri_nz {a b : Int32} (h : (!decide (a = b)) = true) : ¬ a = b := by
  intro e
  rw [decide_eq_true e] at h
  cases h
theorem ri_nzl {a b : Int64} (h : (!decide (a = b)) = true) : ¬ a = b := by
  intro e
  rw [decide_eq_true e] at h
  cases h
theorem ri_n64_ok {x : UInt64} (h : ri_n64 x = true) : vf_n64 x := by
  unfold ri_n64 at h
  unfold vf_n64
  exact of_decide_eq_true h

/-- an instruction that touches no heap: nL how many places the frame has -/
noncomputable def ri_pure (nL : Nat) (i : Instr) (pc : Nat) (lv : ri_L) (st : List Value) : Option ri_R := match i with
  | .iconst n => some (0, pc + 1, lv, .int (Int32.ofInt n) :: st)
  | .bipush n => some (0, pc + 2, lv, .int (Int8.ofInt n).toInt32 :: st)
  | .sipush n => some (0, pc + 3, lv, .int (Int16.ofInt n).toInt32 :: st)
  | .lconst n => some (0, pc + 1, lv, .long (Int64.ofNat (n : Nat)) :: st)
  | .aconst_null => some (0, pc + 1, lv, .null :: st)
  | .iload i => ri_gv (ri_get i lv) (fun v => some (0, pc + 2, lv, v :: st))
  | .iload_n i => ri_gv (ri_get i.val lv) (fun v => some (0, pc + 1, lv, v :: st))
  | .istore i => ri_v1 st (fun v r => ri_ok (Nat.blt (i) nL) (some (0, pc + 2, ri_s1 i v lv, r)))
  | .istore_n i => ri_v1 st (fun v r => ri_ok (Nat.blt (i.val) nL) (some (0, pc + 1, ri_s1 i.val v lv, r)))
  | .lload i => ri_gl (ri_get i lv) (fun x => some (0, pc + 2, lv, .long x :: st))
  | .lload_n i => ri_gl (ri_get i.val lv) (fun x => some (0, pc + 1, lv, .long x :: st))
  | .dload i => ri_gd (ri_get i lv) (fun x => some (0, pc + 2, lv, .double x :: st))
  | .dload_n i => ri_gd (ri_get i.val lv) (fun x => some (0, pc + 1, lv, .double x :: st))
  | .aload i => ri_gr (ri_get i lv) (fun x => some (0, pc + 2, lv, .ref x :: st)) (some (0, pc + 2, lv, .null :: st))
  | .aload_n i => ri_gr (ri_get i.val lv) (fun x => some (0, pc + 1, lv, .ref x :: st)) (some (0, pc + 1, lv, .null :: st))
  | .lstore i => ri_l1 st (fun x r => ri_ok (Nat.blt (i + 1) nL) (some (0, pc + 2, ri_s2 i (.long x) lv, r)))
  | .lstore_n i => ri_l1 st (fun x r => ri_ok (Nat.blt (i.val + 1) nL) (some (0, pc + 1, ri_s2 i.val (.long x) lv, r)))
  | .dstore i => ri_d1 st (fun x r => ri_ok (Nat.blt (i + 1) nL) (some (0, pc + 2, ri_s2 i (.double x) lv, r)))
  | .dstore_n i => ri_d1 st (fun x r => ri_ok (Nat.blt (i.val + 1) nL) (some (0, pc + 1, ri_s2 i.val (.double x) lv, r)))
  | .astore i => ri_r1 st (fun x r => ri_ok (Nat.blt i nL) (some (0, pc + 2, ri_s1 i (.ref x) lv, r))) (fun r => ri_ok (Nat.blt i nL) (some (0, pc + 2, ri_s1 i .null lv, r)))
  | .astore_n i => ri_r1 st (fun x r => ri_ok (Nat.blt i.val nL) (some (0, pc + 1, ri_s1 i.val (.ref x) lv, r))) (fun r => ri_ok (Nat.blt i.val nL) (some (0, pc + 1, ri_s1 i.val .null lv, r)))
  | .iinc i n => ri_gi (ri_get i lv) (fun x => ri_ok (Nat.blt i nL) (some (0, pc + 3, ri_s1 i (.int (x + Int32.ofInt n)) lv, st)))
  | .iadd => ri_i2 st (fun y x r => some (0, pc + 1, lv, .int (x + y) :: r))
  | .isub => ri_i2 st (fun y x r => some (0, pc + 1, lv, .int (x - y) :: r))
  | .imul => ri_i2 st (fun y x r => some (0, pc + 1, lv, .int (x * y) :: r))
  | .iand => ri_i2 st (fun y x r => some (0, pc + 1, lv, .int (x &&& y) :: r))
  | .ior => ri_i2 st (fun y x r => some (0, pc + 1, lv, .int (x ||| y) :: r))
  | .ixor => ri_i2 st (fun y x r => some (0, pc + 1, lv, .int (x ^^^ y) :: r))
  | .ishl => ri_i2 st (fun y x r => some (0, pc + 1, lv, .int (x <<< (y &&& 31)) :: r))
  | .ishr => ri_i2 st (fun y x r => some (0, pc + 1, lv, .int (x >>> (y &&& 31)) :: r))
  | .iushr => ri_i2 st (fun y x r => some (0, pc + 1, lv, .int ((x.toUInt32 >>> (y.toUInt32 &&& Int32.toUInt32 31)).toInt32) :: r))
  | .ladd => ri_l2 st (fun y x r => some (0, pc + 1, lv, .long (x + y) :: r))
  | .lsub => ri_l2 st (fun y x r => some (0, pc + 1, lv, .long (x - y) :: r))
  | .lmul => ri_l2 st (fun y x r => some (0, pc + 1, lv, .long (x * y) :: r))
  | .land => ri_l2 st (fun y x r => some (0, pc + 1, lv, .long (x &&& y) :: r))
  | .lor => ri_l2 st (fun y x r => some (0, pc + 1, lv, .long (x ||| y) :: r))
  | .lxor => ri_l2 st (fun y x r => some (0, pc + 1, lv, .long (x ^^^ y) :: r))
  | .lshl => ri_il st (fun y x r => some (0, pc + 1, lv, .long (x <<< (y.toInt64 &&& 63)) :: r))
  | .lshr => ri_il st (fun y x r => some (0, pc + 1, lv, .long (x >>> (y.toInt64 &&& 63)) :: r))
  | .lushr => ri_il st (fun y x r => some (0, pc + 1, lv, .long ((x.toUInt64 >>> (y.toInt64.toUInt64 &&& Int64.toUInt64 63)).toInt64) :: r))
  | .idiv => ri_i2 st (fun y x r => ri_ok (!decide (y = 0)) (some (0, pc + 1, lv, .int (x / y) :: r)))
  | .irem => ri_i2 st (fun y x r => ri_ok (!decide (y = 0)) (some (0, pc + 1, lv, .int (x - x / y * y) :: r)))
  | .ldiv => ri_l2 st (fun y x r => ri_ok (!decide (y = 0)) (some (0, pc + 1, lv, .long (x / y) :: r)))
  | .lrem => ri_l2 st (fun y x r => ri_ok (!decide (y = 0)) (some (0, pc + 1, lv, .long (x - x / y * y) :: r)))
  | .ineg => ri_i1 st (fun x r => some (0, pc + 1, lv, .int (-x) :: r))
  | .lneg => ri_l1 st (fun x r => some (0, pc + 1, lv, .long (-x) :: r))
  | .i2l => ri_i1 st (fun x r => some (0, pc + 1, lv, .long (x.toInt64) :: r))
  | .l2i => ri_l1 st (fun x r => some (0, pc + 1, lv, .int (x.toInt32) :: r))
  | .i2b => ri_i1 st (fun x r => some (0, pc + 1, lv, .int (x.toInt8.toInt32) :: r))
  | .i2s => ri_i1 st (fun x r => some (0, pc + 1, lv, .int (x.toInt16.toInt32) :: r))
  | .i2c => ri_i1 st (fun x r => some (0, pc + 1, lv, .int ((x.toUInt32 % 65536).toInt32) :: r))
  | .i2d => ri_i1 st (fun x r => some (0, pc + 1, lv, .double (FP.i2d x) :: r))
  | .l2d => ri_l1 st (fun x r => some (0, pc + 1, lv, .double (FP.l2d x) :: r))
  | .d2i => ri_d1 st (fun x r => some (0, pc + 1, lv, .int (FP.d2i x) :: r))
  | .d2l => ri_d1 st (fun x r => some (0, pc + 1, lv, .long (FP.d2l x) :: r))
  | .dneg => ri_d1 st (fun x r => some (0, pc + 1, lv, .double (FP.dneg x) :: r))
  | .dadd => ri_d2 st (fun y x r => ri_ok (ri_n64 (FP.dadd x y)) (some (0, pc + 1, lv, .double (FP.dadd x y) :: r)))
  | .dsub => ri_d2 st (fun y x r => ri_ok (ri_n64 (FP.dsub x y)) (some (0, pc + 1, lv, .double (FP.dsub x y) :: r)))
  | .dmul => ri_d2 st (fun y x r => ri_ok (ri_n64 (FP.dmul x y)) (some (0, pc + 1, lv, .double (FP.dmul x y) :: r)))
  | .ddiv => ri_d2 st (fun y x r => ri_ok (ri_n64 (FP.ddiv x y)) (some (0, pc + 1, lv, .double (FP.ddiv x y) :: r)))
  | .dcmp op => ri_d2 st (fun y x r => some (0, pc + 1, lv, .int (Op.cmpValue (FP.dcmp x y) op) :: r))
  | .lcmp => ri_l2 st (fun y x r => some (0, pc + 1, lv, .int (lg_cmp x y) :: r))
  | .dup => ri_c1 st (fun v r => some (0, pc + 1, lv, v :: v :: r))
  | .pop => ri_c1 st (fun v r => some (0, pc + 1, lv, r))
  | .dup_x1 => ri_c1 st (fun v r => ri_c1 r (fun u r => some (0, pc + 1, lv, v :: u :: v :: r)))
  | .dup2 => (match st with | v :: r => bif Nat.beq v.category 2 then some (0, pc + 1, lv, v :: v :: r) else ri_c1 (v :: r) (fun v r => ri_c1 r (fun u r => some (0, pc + 1, lv, v :: u :: v :: u :: r))) | [] => none)
  | .goto off => ri_tg pc off 1 lv st
  | .ifCond c9 off => ri_i1 st (fun x r => ri_br (ri_cnd c9 x 0) pc off (pc + 3) lv r)
  | .if_icmp c9 off => ri_i2 st (fun y x r => ri_br (ri_cnd c9 x y) pc off (pc + 3) lv r)
  | .ifnonnull off => ri_r1 st (fun _ r => ri_tg pc off 1 lv r) (fun r => some (0, pc + 3, lv, r))
  | .ifnull off => ri_r1 st (fun _ r => some (0, pc + 3, lv, r)) (fun r => ri_tg pc off 1 lv r)
  | .tableswitch dflt lo hi offs => ri_i1 st (fun x r => bif decide (x.toInt < lo) || decide (hi < x.toInt) then ri_tg pc dflt 1 lv r else (match offs[(x.toInt - lo).toNat]? with | some off => ri_tg pc off ((x.toInt - lo).toNat + 2) lv r | none => none))
  | .lookupswitch dflt ps => none
  | _ => none
section RIW
variable {p : Program} {l : Launch} {e : Env} {R : Room} {s : State} {m : MethodId} {args : Array Value} {below : List Frame} {meth : Method} {c : Code} {H : Heap} {locs : List Loc} {cells slots : Nat} {Q : State → Prop}
set_option maxHeartbeats 4000000 in
theorem ri_pure_ok {cc : ByteArray} {ad : Nat → Nat} {nL : Nat} {i : Instr} {len pc : Nat} {lv : ri_L} {st : List Value} {j p' : Nat} {lv' : ri_L} {st' : List Value} {ls : Array Slot} (hx : p.tables.exec = Jvm.exec) (hb : c.code = cc)
    (hd : decode cc pc = .ok (i, len)) (hlen : ri_len i = 0 ∨ ri_len i = len) (hl : lv_has ls nL (ri_lr ad lv)) (h : ri_pure nL i pc lv st = some (j, p', lv', st'))
    (k : ∀ ls' : Array Slot, lv_has ls' nL (ri_lr ad lv') → W p l e R s m args below meth c H locs cells slots Q (F0 m p' ls' (st'.map (ri_v ad)))) : W p l e R s m args below meth c H locs cells slots Q (F0 m pc ls (st.map (ri_v ad))) := by
  cases i with
  | iconst n =>
    have hl9 : 1 = len := hlen.resolve_left (fun q => by cases q)
    subst hl9
    cases h; exact lv_iconst hx hb hd rfl (k ls hl)
  | bipush n =>
    have hl9 : 2 = len := hlen.resolve_left (fun q => by cases q)
    subst hl9
    cases h; exact lv_bipush hx hb hd rfl (k ls hl)
  | sipush n =>
    have hl9 : 3 = len := hlen.resolve_left (fun q => by cases q)
    subst hl9
    cases h; exact lv_sipush hx hb hd rfl (k ls hl)
  | lconst n =>
    have hl9 : 1 = len := hlen.resolve_left (fun q => by cases q)
    subst hl9
    cases h; exact lv_lconst hx hb hd rfl (k ls hl)
  | aconst_null =>
    have hl9 : 1 = len := hlen.resolve_left (by decide)
    subst hl9
    cases h; exact lv_null hx hb hd  (k ls hl)
  | iload i =>
    have hl9 : 2 = len := hlen.resolve_left (fun q => by cases q)
    subst hl9
    obtain ⟨v, hg, hv, h⟩ := ri_gv_eq h; cases h; have g1 := ri_at hl hg; rw [ri_isI_v hv] at g1; have k2 := k ls hl; rw [List.map_cons, ri_isI_v hv] at k2; exact lv_iload hx hb hd g1 k2
  | iload_n i =>
    have hl9 : 1 = len := hlen.resolve_left (fun q => by cases q)
    subst hl9
    obtain ⟨v, hg, hv, h⟩ := ri_gv_eq h; cases h; have g1 := ri_at hl hg; rw [ri_isI_v hv] at g1; have k2 := k ls hl; rw [List.map_cons, ri_isI_v hv] at k2; exact lv_iload_n hx hb hd rfl g1 k2
  | istore i =>
    have hl9 : 2 = len := hlen.resolve_left (fun q => by cases q)
    subst hl9
    obtain ⟨v, r, e1, hv, h1⟩ := ri_v1_eq h; obtain ⟨hn, h2⟩ := ri_ok_eq h1; clear h h1; subst e1; cases h2; rw [List.map_cons, ri_isI_v hv]; exact lv_istore hx hb hd hl (Nat.le_of_ble_eq_true hn) (by rw [← ri_isI_v hv]; exact ri_s1_eq (ad := ad) (v := v)) (fun ls' hl' => k ls' hl')
  | istore_n i =>
    have hl9 : 1 = len := hlen.resolve_left (fun q => by cases q)
    subst hl9
    obtain ⟨v, r, e1, hv, h1⟩ := ri_v1_eq h; obtain ⟨hn, h2⟩ := ri_ok_eq h1; clear h h1; subst e1; cases h2; rw [List.map_cons, ri_isI_v hv]; exact lv_istore_n hx hb hd rfl hl (Nat.le_of_ble_eq_true hn) (by rw [← ri_isI_v hv]; exact ri_s1_eq (ad := ad) (v := v)) (fun ls' hl' => k ls' hl')
  | lload i =>
    have hl9 : 2 = len := hlen.resolve_left (fun q => by cases q)
    subst hl9
    obtain ⟨x, hg, h⟩ := ri_gl_eq h; cases h; exact lv_lload hx hb hd (ri_at hl hg) (k ls hl)
  | lload_n i =>
    have hl9 : 1 = len := hlen.resolve_left (fun q => by cases q)
    subst hl9
    obtain ⟨x, hg, h⟩ := ri_gl_eq h; cases h; exact lv_lload_n hx hb hd rfl (ri_at hl hg) (k ls hl)
  | dload i =>
    have hl9 : 2 = len := hlen.resolve_left (fun q => by cases q)
    subst hl9
    obtain ⟨x, hg, h⟩ := ri_gd_eq h; cases h; exact lv_dload hx hb hd (ri_at hl hg) (k ls hl)
  | dload_n i =>
    have hl9 : 1 = len := hlen.resolve_left (fun q => by cases q)
    subst hl9
    obtain ⟨x, hg, h⟩ := ri_gd_eq h; cases h; exact lv_dload_n hx hb hd rfl (ri_at hl hg) (k ls hl)
  | aload i =>
    have hl9 : 2 = len := hlen.resolve_left (fun q => by cases q)
    subst hl9
    rcases ri_gr_eq h with ⟨x, hg, h⟩ | ⟨hg, h⟩
    · cases h; exact lv_aload hx hb hd (ri_at hl hg) (k ls hl)
    · cases h; exact lv_aloadN hx hb hd (ri_at hl hg) (k ls hl)
  | aload_n i =>
    have hl9 : 1 = len := hlen.resolve_left (fun q => by cases q)
    subst hl9
    rcases ri_gr_eq h with ⟨x, hg, h⟩ | ⟨hg, h⟩
    · cases h; exact lv_aload_n hx hb hd rfl (ri_at hl hg) (k ls hl)
    · cases h; exact lv_aload_nN hx hb hd rfl (ri_at hl hg) (k ls hl)
  | lstore i =>
    have hl9 : 2 = len := hlen.resolve_left (fun q => by cases q)
    subst hl9
    obtain ⟨x, r, rfl, h⟩ := ri_l1_eq h; obtain ⟨hn, h⟩ := ri_ok_eq h; cases h; exact lv_lstore hx hb hd hl (Nat.le_of_ble_eq_true hn) (ri_s2_eq (ad := ad) (v := .long x)) (fun ls' hl' => k ls' hl')
  | lstore_n i =>
    have hl9 : 1 = len := hlen.resolve_left (fun q => by cases q)
    subst hl9
    obtain ⟨x, r, rfl, h⟩ := ri_l1_eq h; obtain ⟨hn, h⟩ := ri_ok_eq h; cases h; exact lv_lstore_n hx hb hd rfl hl (Nat.le_of_ble_eq_true hn) (ri_s2_eq (ad := ad) (v := .long x)) (fun ls' hl' => k ls' hl')
  | dstore i =>
    have hl9 : 2 = len := hlen.resolve_left (fun q => by cases q)
    subst hl9
    obtain ⟨x, r, rfl, h⟩ := ri_d1_eq h; obtain ⟨hn, h⟩ := ri_ok_eq h; cases h; exact lv_dstore hx hb hd hl (Nat.le_of_ble_eq_true hn) (ri_s2_eq (ad := ad) (v := .double x)) (fun ls' hl' => k ls' hl')
  | dstore_n i =>
    have hl9 : 1 = len := hlen.resolve_left (fun q => by cases q)
    subst hl9
    obtain ⟨x, r, rfl, h⟩ := ri_d1_eq h; obtain ⟨hn, h⟩ := ri_ok_eq h; cases h; exact lv_dstore_n hx hb hd rfl hl (Nat.le_of_ble_eq_true hn) (ri_s2_eq (ad := ad) (v := .double x)) (fun ls' hl' => k ls' hl')
  | astore i =>
    have hl9 : 2 = len := hlen.resolve_left (fun q => by cases q)
    subst hl9
    rcases ri_r1_eq h with ⟨x, r, rfl, h⟩ | ⟨r, rfl, h⟩
    · obtain ⟨hn, h⟩ := ri_ok_eq h; cases h; exact lv_astore hx hb hd hl (Nat.le_of_ble_eq_true hn) (ri_s1_eq (ad := ad) (v := .ref x)) (fun ls' hl' => k ls' hl')
    · obtain ⟨hn, h⟩ := ri_ok_eq h; cases h; exact lv_astoreN hx hb hd hl (Nat.le_of_ble_eq_true hn) (ri_s1_eq (ad := ad) (v := .null)) (fun ls' hl' => k ls' hl')
  | astore_n i =>
    have hl9 : 1 = len := hlen.resolve_left (fun q => by cases q)
    subst hl9
    rcases ri_r1_eq h with ⟨x, r, rfl, h⟩ | ⟨r, rfl, h⟩
    · obtain ⟨hn, h⟩ := ri_ok_eq h; cases h; exact lv_astore_n hx hb hd rfl hl (Nat.le_of_ble_eq_true hn) (ri_s1_eq (ad := ad) (v := .ref x)) (fun ls' hl' => k ls' hl')
    · obtain ⟨hn, h⟩ := ri_ok_eq h; cases h; exact lv_astore_nN hx hb hd rfl hl (Nat.le_of_ble_eq_true hn) (ri_s1_eq (ad := ad) (v := .null)) (fun ls' hl' => k ls' hl')
  | iinc i n =>
    have hl9 : 3 = len := hlen.resolve_left (fun q => by cases q)
    subst hl9
    obtain ⟨x, hg, h⟩ := ri_gi_eq h; obtain ⟨hn, h⟩ := ri_ok_eq h; cases h; obtain ⟨kk, hk⟩ := List.getElem?_of_mem (List.mem_map.mpr ⟨(i, .int x), ri_get_mem hg, rfl⟩ : (i, ri_v ad (.int x)) ∈ ri_lr ad lv); exact lv_iinc hx hb hd hl hk rfl (Nat.le_of_ble_eq_true hn) (ri_s1_eq (v := .int (x + Int32.ofInt n))) (fun ls' hl' => k ls' hl')
  | iadd =>
    have hl9 : 1 = len := hlen.resolve_left (by decide)
    subst hl9
    obtain ⟨y, x, r, rfl, h⟩ := ri_i2_eq h; cases h; exact lv_iadd hx hb hd  (k ls hl)
  | isub =>
    have hl9 : 1 = len := hlen.resolve_left (by decide)
    subst hl9
    obtain ⟨y, x, r, rfl, h⟩ := ri_i2_eq h; cases h; exact lv_isub hx hb hd  (k ls hl)
  | imul =>
    have hl9 : 1 = len := hlen.resolve_left (by decide)
    subst hl9
    obtain ⟨y, x, r, rfl, h⟩ := ri_i2_eq h; cases h; exact lv_imul hx hb hd  (k ls hl)
  | iand =>
    have hl9 : 1 = len := hlen.resolve_left (by decide)
    subst hl9
    obtain ⟨y, x, r, rfl, h⟩ := ri_i2_eq h; cases h; exact lv_iand hx hb hd  (k ls hl)
  | ior =>
    have hl9 : 1 = len := hlen.resolve_left (by decide)
    subst hl9
    obtain ⟨y, x, r, rfl, h⟩ := ri_i2_eq h; cases h; exact lv_ior hx hb hd  (k ls hl)
  | ixor =>
    have hl9 : 1 = len := hlen.resolve_left (by decide)
    subst hl9
    obtain ⟨y, x, r, rfl, h⟩ := ri_i2_eq h; cases h; exact lv_ixor hx hb hd  (k ls hl)
  | ishl =>
    have hl9 : 1 = len := hlen.resolve_left (by decide)
    subst hl9
    obtain ⟨y, x, r, rfl, h⟩ := ri_i2_eq h; cases h; exact lv_ishl hx hb hd  (k ls hl)
  | ishr =>
    have hl9 : 1 = len := hlen.resolve_left (by decide)
    subst hl9
    obtain ⟨y, x, r, rfl, h⟩ := ri_i2_eq h; cases h; exact lv_ishr hx hb hd  (k ls hl)
  | iushr =>
    have hl9 : 1 = len := hlen.resolve_left (by decide)
    subst hl9
    obtain ⟨y, x, r, rfl, h⟩ := ri_i2_eq h; cases h; exact lv_iushr hx hb hd rfl (k ls hl)
  | ladd =>
    have hl9 : 1 = len := hlen.resolve_left (by decide)
    subst hl9
    obtain ⟨y, x, r, rfl, h⟩ := ri_l2_eq h; cases h; exact lv_ladd hx hb hd  (k ls hl)
  | lsub =>
    have hl9 : 1 = len := hlen.resolve_left (by decide)
    subst hl9
    obtain ⟨y, x, r, rfl, h⟩ := ri_l2_eq h; cases h; exact lv_lsub hx hb hd  (k ls hl)
  | lmul =>
    have hl9 : 1 = len := hlen.resolve_left (by decide)
    subst hl9
    obtain ⟨y, x, r, rfl, h⟩ := ri_l2_eq h; cases h; exact lv_lmul hx hb hd  (k ls hl)
  | land =>
    have hl9 : 1 = len := hlen.resolve_left (by decide)
    subst hl9
    obtain ⟨y, x, r, rfl, h⟩ := ri_l2_eq h; cases h; exact lv_land hx hb hd  (k ls hl)
  | lor =>
    have hl9 : 1 = len := hlen.resolve_left (by decide)
    subst hl9
    obtain ⟨y, x, r, rfl, h⟩ := ri_l2_eq h; cases h; exact lv_lor hx hb hd  (k ls hl)
  | lxor =>
    have hl9 : 1 = len := hlen.resolve_left (by decide)
    subst hl9
    obtain ⟨y, x, r, rfl, h⟩ := ri_l2_eq h; cases h; exact lv_lxor hx hb hd  (k ls hl)
  | lshl =>
    have hl9 : 1 = len := hlen.resolve_left (by decide)
    subst hl9
    obtain ⟨y, x, r, rfl, h⟩ := ri_il_eq h; cases h; exact lv_lshl hx hb hd rfl (k ls hl)
  | lshr =>
    have hl9 : 1 = len := hlen.resolve_left (by decide)
    subst hl9
    obtain ⟨y, x, r, rfl, h⟩ := ri_il_eq h; cases h; exact lv_lshr hx hb hd rfl (k ls hl)
  | lushr =>
    have hl9 : 1 = len := hlen.resolve_left (by decide)
    subst hl9
    obtain ⟨y, x, r, rfl, h⟩ := ri_il_eq h; cases h; exact lv_lushr hx hb hd rfl (k ls hl)
  | idiv =>
    have hl9 : 1 = len := hlen.resolve_left (by decide)
    subst hl9
    obtain ⟨y, x, r, rfl, h⟩ := ri_i2_eq h; obtain ⟨hn, h⟩ := ri_ok_eq h; cases h; exact lv_idiv hx hb hd (ri_nz hn) (k ls hl)
  | irem =>
    have hl9 : 1 = len := hlen.resolve_left (by decide)
    subst hl9
    obtain ⟨y, x, r, rfl, h⟩ := ri_i2_eq h; obtain ⟨hn, h⟩ := ri_ok_eq h; cases h; exact lv_irem hx hb hd (ri_nz hn) (k ls hl)
  | ldiv =>
    have hl9 : 1 = len := hlen.resolve_left (by decide)
    subst hl9
    obtain ⟨y, x, r, rfl, h⟩ := ri_l2_eq h; obtain ⟨hn, h⟩ := ri_ok_eq h; cases h; exact lv_ldiv hx hb hd (ri_nzl hn) (k ls hl)
  | lrem =>
    have hl9 : 1 = len := hlen.resolve_left (by decide)
    subst hl9
    obtain ⟨y, x, r, rfl, h⟩ := ri_l2_eq h; obtain ⟨hn, h⟩ := ri_ok_eq h; cases h; exact lv_lrem hx hb hd (ri_nzl hn) (k ls hl)
  | ineg =>
    have hl9 : 1 = len := hlen.resolve_left (by decide)
    subst hl9
    obtain ⟨x, r, rfl, h⟩ := ri_i1_eq h; cases h; exact lv_ineg hx hb hd  (k ls hl)
  | lneg =>
    have hl9 : 1 = len := hlen.resolve_left (by decide)
    subst hl9
    obtain ⟨x, r, rfl, h⟩ := ri_l1_eq h; cases h; exact lv_lneg hx hb hd  (k ls hl)
  | i2l =>
    have hl9 : 1 = len := hlen.resolve_left (by decide)
    subst hl9
    obtain ⟨x, r, rfl, h⟩ := ri_i1_eq h; cases h; exact lv_i2l hx hb hd rfl (k ls hl)
  | l2i =>
    have hl9 : 1 = len := hlen.resolve_left (by decide)
    subst hl9
    obtain ⟨x, r, rfl, h⟩ := ri_l1_eq h; cases h; exact lv_l2i hx hb hd rfl (k ls hl)
  | i2b =>
    have hl9 : 1 = len := hlen.resolve_left (by decide)
    subst hl9
    obtain ⟨x, r, rfl, h⟩ := ri_i1_eq h; cases h; exact lv_i2b hx hb hd rfl (k ls hl)
  | i2s =>
    have hl9 : 1 = len := hlen.resolve_left (by decide)
    subst hl9
    obtain ⟨x, r, rfl, h⟩ := ri_i1_eq h; cases h; exact lv_i2s hx hb hd rfl (k ls hl)
  | i2c =>
    have hl9 : 1 = len := hlen.resolve_left (by decide)
    subst hl9
    obtain ⟨x, r, rfl, h⟩ := ri_i1_eq h; cases h; exact lv_i2c hx hb hd rfl (k ls hl)
  | i2d =>
    have hl9 : 1 = len := hlen.resolve_left (by decide)
    subst hl9
    obtain ⟨x, r, rfl, h⟩ := ri_i1_eq h; cases h; exact lv_i2d hx hb hd  (k ls hl)
  | l2d =>
    have hl9 : 1 = len := hlen.resolve_left (by decide)
    subst hl9
    obtain ⟨x, r, rfl, h⟩ := ri_l1_eq h; cases h; exact lv_l2d hx hb hd  (k ls hl)
  | d2i =>
    have hl9 : 1 = len := hlen.resolve_left (by decide)
    subst hl9
    obtain ⟨x, r, rfl, h⟩ := ri_d1_eq h; cases h; exact lv_d2i hx hb hd  (k ls hl)
  | d2l =>
    have hl9 : 1 = len := hlen.resolve_left (by decide)
    subst hl9
    obtain ⟨x, r, rfl, h⟩ := ri_d1_eq h; cases h; exact lv_d2l hx hb hd  (k ls hl)
  | dneg =>
    have hl9 : 1 = len := hlen.resolve_left (by decide)
    subst hl9
    obtain ⟨x, r, rfl, h⟩ := ri_d1_eq h; cases h; exact lv_dneg hx hb hd  (k ls hl)
  | dadd =>
    have hl9 : 1 = len := hlen.resolve_left (by decide)
    subst hl9
    obtain ⟨y, x, r, rfl, h⟩ := ri_d2_eq h; obtain ⟨hn, h⟩ := ri_ok_eq h; cases h; exact lv_dadd hx hb hd (ri_n64_ok hn) (k ls hl)
  | dsub =>
    have hl9 : 1 = len := hlen.resolve_left (by decide)
    subst hl9
    obtain ⟨y, x, r, rfl, h⟩ := ri_d2_eq h; obtain ⟨hn, h⟩ := ri_ok_eq h; cases h; exact lv_dsub hx hb hd (ri_n64_ok hn) (k ls hl)
  | dmul =>
    have hl9 : 1 = len := hlen.resolve_left (by decide)
    subst hl9
    obtain ⟨y, x, r, rfl, h⟩ := ri_d2_eq h; obtain ⟨hn, h⟩ := ri_ok_eq h; cases h; exact lv_dmul hx hb hd (ri_n64_ok hn) (k ls hl)
  | ddiv =>
    have hl9 : 1 = len := hlen.resolve_left (by decide)
    subst hl9
    obtain ⟨y, x, r, rfl, h⟩ := ri_d2_eq h; obtain ⟨hn, h⟩ := ri_ok_eq h; cases h; exact lv_ddiv hx hb hd (ri_n64_ok hn) (k ls hl)
  | dcmp op =>
    have hl9 : 1 = len := hlen.resolve_left (fun q => by cases q)
    subst hl9
    obtain ⟨y, x, r, rfl, h⟩ := ri_d2_eq h; cases h; exact lv_dcmp hx hb hd (k ls hl)
  | lcmp =>
    have hl9 : 1 = len := hlen.resolve_left (by decide)
    subst hl9
    obtain ⟨y, x, r, rfl, h⟩ := ri_l2_eq h; cases h; exact W.lcmp hx hb hd (k ls hl)
  | dup =>
    have hl9 : 1 = len := hlen.resolve_left (by decide)
    subst hl9
    obtain ⟨v, r, rfl, hv, h⟩ := ri_c1_eq h; cases h; exact lv_dup hx hb hd ((ri_v_cat ad v).trans hv) (k ls hl)
  | pop =>
    have hl9 : 1 = len := hlen.resolve_left (by decide)
    subst hl9
    obtain ⟨v, r, rfl, hv, h⟩ := ri_c1_eq h; cases h; exact lv_pop hx hb hd ((ri_v_cat ad v).trans hv) (k ls hl)
  | dup_x1 =>
    have hl9 : 1 = len := hlen.resolve_left (by decide)
    subst hl9
    obtain ⟨v, r, rfl, hv, h⟩ := ri_c1_eq h; obtain ⟨u, r, rfl, hu, h⟩ := ri_c1_eq h; cases h; exact lv_dup_x1 hx hb hd ((ri_v_cat ad v).trans hv) ((ri_v_cat ad u).trans hu) (k ls hl)
  | dup2 =>
    have hl9 : 1 = len := hlen.resolve_left (by decide)
    subst hl9
    cases st with
    | nil => cases h
    | cons v r =>
      have h : (bif Nat.beq v.category 2 then some (0, pc + 1, lv, v :: v :: r) else ri_c1 (v :: r) (fun v r => ri_c1 r (fun u r => some (0, pc + 1, lv, v :: u :: v :: u :: r)))) = some (j, p', lv', st') := h
      cases hb2 : Nat.beq v.category 2 with
      | true => rw [hb2] at h; cases h; exact lv_dup2_2 hx hb hd ((ri_v_cat ad v).trans (Nat.eq_of_beq_eq_true hb2)) (k ls hl)
      | false =>
        rw [hb2, cond_false] at h
        obtain ⟨v9, r9, e1, hv, h1⟩ := ri_c1_eq h
        obtain ⟨u, r8, e2, hu, h2⟩ := ri_c1_eq h1
        cases e1; cases e2; cases h2
        exact lv_dup2_11 hx hb hd ((ri_v_cat ad v).trans hv) ((ri_v_cat ad u).trans hu) (k ls hl)
  | goto off =>
    have hl9 : 3 = len := hlen.resolve_left (fun q => by cases q)
    subst hl9
    obtain ⟨t, ht, e⟩ := ri_tg_eq h; cases e; exact lv_goto hx hb hd ht (k ls hl)
  | ifCond c9 off =>
    have hl9 : 3 = len := hlen.resolve_left (fun q => by cases q)
    subst hl9
    obtain ⟨x, r, rfl, h⟩ := ri_i1_eq h
    obtain ⟨t, ht, hz⟩ := ri_br_eq h
    cases c9 with
    | eq =>
      refine lv_if_eq hx hb hd ht (fun hq => ?_) (fun hq => ?_)
      · rcases hz with ⟨hc, e1, e2, e3⟩ | ⟨hc, e1, e2, e3⟩
        · cases e1; cases e2; cases e3; exact k ls hl
        · exact absurd hc (by simp [ri_cnd, hq])
      · rcases hz with ⟨hc, e1, e2, e3⟩ | ⟨hc, e1, e2, e3⟩
        · exact absurd hc (by simp [ri_cnd, hq])
        · cases e1; cases e2; cases e3; exact k ls hl
    | ne =>
      refine lv_if_ne hx hb hd ht (fun hq => ?_) (fun hq => ?_)
      · rcases hz with ⟨hc, e1, e2, e3⟩ | ⟨hc, e1, e2, e3⟩
        · cases e1; cases e2; cases e3; exact k ls hl
        · exact absurd hc (by simp [ri_cnd, hq])
      · rcases hz with ⟨hc, e1, e2, e3⟩ | ⟨hc, e1, e2, e3⟩
        · exact absurd hc (by simp [ri_cnd, hq])
        · cases e1; cases e2; cases e3; exact k ls hl
    | lt =>
      refine lv_if_lt hx hb hd ht (fun hq => ?_) (fun hq => ?_)
      · rcases hz with ⟨hc, e1, e2, e3⟩ | ⟨hc, e1, e2, e3⟩
        · cases e1; cases e2; cases e3; exact k ls hl
        · exact absurd hc (by simp [ri_cnd, hq])
      · rcases hz with ⟨hc, e1, e2, e3⟩ | ⟨hc, e1, e2, e3⟩
        · exact absurd hc (by simp [ri_cnd, hq])
        · cases e1; cases e2; cases e3; exact k ls hl
    | ge =>
      refine lv_if_ge hx hb hd ht (fun hq => ?_) (fun hq => ?_)
      · rcases hz with ⟨hc, e1, e2, e3⟩ | ⟨hc, e1, e2, e3⟩
        · cases e1; cases e2; cases e3; exact k ls hl
        · exact absurd hc (by simp [ri_cnd, hq])
      · rcases hz with ⟨hc, e1, e2, e3⟩ | ⟨hc, e1, e2, e3⟩
        · exact absurd hc (by simp [ri_cnd, hq])
        · cases e1; cases e2; cases e3; exact k ls hl
    | gt =>
      refine lv_if_gt hx hb hd ht (fun hq => ?_) (fun hq => ?_)
      · rcases hz with ⟨hc, e1, e2, e3⟩ | ⟨hc, e1, e2, e3⟩
        · cases e1; cases e2; cases e3; exact k ls hl
        · exact absurd hc (by simp [ri_cnd, hq])
      · rcases hz with ⟨hc, e1, e2, e3⟩ | ⟨hc, e1, e2, e3⟩
        · exact absurd hc (by simp [ri_cnd, hq])
        · cases e1; cases e2; cases e3; exact k ls hl
    | le =>
      refine lv_if_le hx hb hd ht (fun hq => ?_) (fun hq => ?_)
      · rcases hz with ⟨hc, e1, e2, e3⟩ | ⟨hc, e1, e2, e3⟩
        · cases e1; cases e2; cases e3; exact k ls hl
        · exact absurd hc (by simp [ri_cnd, hq])
      · rcases hz with ⟨hc, e1, e2, e3⟩ | ⟨hc, e1, e2, e3⟩
        · exact absurd hc (by simp [ri_cnd, hq])
        · cases e1; cases e2; cases e3; exact k ls hl
  | if_icmp c9 off =>
    have hl9 : 3 = len := hlen.resolve_left (fun q => by cases q)
    subst hl9
    obtain ⟨y, x, r, rfl, h⟩ := ri_i2_eq h
    obtain ⟨t, ht, hz⟩ := ri_br_eq h
    cases c9 with
    | eq =>
      refine lv_icmp_eq hx hb hd ht (fun hq => ?_) (fun hq => ?_)
      · rcases hz with ⟨hc, e1, e2, e3⟩ | ⟨hc, e1, e2, e3⟩
        · cases e1; cases e2; cases e3; exact k ls hl
        · exact absurd hc (by simp [ri_cnd, hq])
      · rcases hz with ⟨hc, e1, e2, e3⟩ | ⟨hc, e1, e2, e3⟩
        · exact absurd hc (by simp [ri_cnd, hq])
        · cases e1; cases e2; cases e3; exact k ls hl
    | ne =>
      refine lv_icmp_ne hx hb hd ht (fun hq => ?_) (fun hq => ?_)
      · rcases hz with ⟨hc, e1, e2, e3⟩ | ⟨hc, e1, e2, e3⟩
        · cases e1; cases e2; cases e3; exact k ls hl
        · exact absurd hc (by simp [ri_cnd, hq])
      · rcases hz with ⟨hc, e1, e2, e3⟩ | ⟨hc, e1, e2, e3⟩
        · exact absurd hc (by simp [ri_cnd, hq])
        · cases e1; cases e2; cases e3; exact k ls hl
    | lt =>
      refine lv_icmp_lt hx hb hd ht (fun hq => ?_) (fun hq => ?_)
      · rcases hz with ⟨hc, e1, e2, e3⟩ | ⟨hc, e1, e2, e3⟩
        · cases e1; cases e2; cases e3; exact k ls hl
        · exact absurd hc (by simp [ri_cnd, hq])
      · rcases hz with ⟨hc, e1, e2, e3⟩ | ⟨hc, e1, e2, e3⟩
        · exact absurd hc (by simp [ri_cnd, hq])
        · cases e1; cases e2; cases e3; exact k ls hl
    | ge =>
      refine lv_icmp_ge hx hb hd ht (fun hq => ?_) (fun hq => ?_)
      · rcases hz with ⟨hc, e1, e2, e3⟩ | ⟨hc, e1, e2, e3⟩
        · cases e1; cases e2; cases e3; exact k ls hl
        · exact absurd hc (by simp [ri_cnd, hq])
      · rcases hz with ⟨hc, e1, e2, e3⟩ | ⟨hc, e1, e2, e3⟩
        · exact absurd hc (by simp [ri_cnd, hq])
        · cases e1; cases e2; cases e3; exact k ls hl
    | gt =>
      refine lv_icmp_gt hx hb hd ht (fun hq => ?_) (fun hq => ?_)
      · rcases hz with ⟨hc, e1, e2, e3⟩ | ⟨hc, e1, e2, e3⟩
        · cases e1; cases e2; cases e3; exact k ls hl
        · exact absurd hc (by simp [ri_cnd, hq])
      · rcases hz with ⟨hc, e1, e2, e3⟩ | ⟨hc, e1, e2, e3⟩
        · exact absurd hc (by simp [ri_cnd, hq])
        · cases e1; cases e2; cases e3; exact k ls hl
    | le =>
      refine lv_icmp_le hx hb hd ht (fun hq => ?_) (fun hq => ?_)
      · rcases hz with ⟨hc, e1, e2, e3⟩ | ⟨hc, e1, e2, e3⟩
        · cases e1; cases e2; cases e3; exact k ls hl
        · exact absurd hc (by simp [ri_cnd, hq])
      · rcases hz with ⟨hc, e1, e2, e3⟩ | ⟨hc, e1, e2, e3⟩
        · exact absurd hc (by simp [ri_cnd, hq])
        · cases e1; cases e2; cases e3; exact k ls hl
  | ifnonnull off =>
    have hl9 : 3 = len := hlen.resolve_left (fun q => by cases q)
    subst hl9
    rcases ri_r1_eq h with ⟨x, r, rfl, h⟩ | ⟨r, rfl, h⟩
    · obtain ⟨t, ht, e⟩ := ri_tg_eq h; cases e; exact lv_ifnonnull hx hb hd ht (k ls hl)
    · cases h; exact lv_ifnonnullN hx hb hd (k ls hl)
  | ifnull off =>
    have hl9 : 3 = len := hlen.resolve_left (fun q => by cases q)
    subst hl9
    rcases ri_r1_eq h with ⟨x, r, rfl, h⟩ | ⟨r, rfl, h⟩
    · cases h; exact lv_ifnull hx hb hd (k ls hl)
    · obtain ⟨t, ht, e⟩ := ri_tg_eq h; cases e; exact lv_ifnullN hx hb hd ht (k ls hl)
  | tableswitch dflt lo hi offs =>
    obtain ⟨x, r, e1, h9⟩ := ri_i1_eq h
    clear h
    have h := h9
    clear h9
    subst e1
    cases hc : (decide (x.toInt < lo) || decide (hi < x.toInt)) with
    | true =>
      rw [hc, cond_true] at h
      obtain ⟨t, ht, e9⟩ := ri_tg_eq h
      cases e9
      exact lv_tableOut hx hb hd (by simpa using hc) ht (k ls hl)
    | false =>
      rw [hc] at h
      have hc2 : ¬ x.toInt < lo ∧ ¬ hi < x.toInt := by simpa using hc
      cases ho : offs[(x.toInt - lo).toNat]? with
      | none => simp only [ho, cond_false] at h; cases h
      | some off =>
        simp only [ho, cond_false] at h
        obtain ⟨t, ht, e9⟩ := ri_tg_eq h
        cases e9
        exact lv_tableIn hx hb hd hc2.1 hc2.2 ho ht (k ls hl)
  | _ => cases h
end RIW
end
section
/-! ===== the reckoner, part 1b: ints that aren't known ===== -/
/-- a condition: of a branch (which way it went), or what a new number of the unknown is -/
abbrev ri_Cd : Type := Instr × Value × Value × Nat × Bool
def ri_sy (ad : Nat → Nat) (k : Nat) : Int32 := ri_I ad (.float (UInt32.ofNat k))
def ri_op2 (i : Instr) (x y : Int32) : Option Int32 := match i with
  | .iadd => some (x + y)
  | .isub => some (x - y)
  | .imul => some (x * y)
  | .iand => some (x &&& y)
  | .ior => some (x ||| y)
  | .ixor => some (x ^^^ y)
  | .ishl => some (x <<< (y &&& 31))
  | .ishr => some (x >>> (y &&& 31))
  | .iushr => some ((x.toUInt32 >>> (y.toUInt32 &&& Int32.toUInt32 31)).toInt32)
  | _ => none
def ri_op1 (i : Instr) (x : Int32) : Option Int32 := match i with
  | .ineg => some (-x)
  | .i2b => some (x.toInt8.toInt32)
  | .i2s => some (x.toInt16.toInt32)
  | .i2c => some ((x.toUInt32 % 65536).toInt32)
  | _ => none
/-- how many ints an instruction takes -/
def ri_ar (i : Instr) : Nat := match i with
  | .iadd | .isub | .imul | .iand | .ior | .ixor | .ishl | .ishr | .iushr => 2
  | .ineg | .i2b | .i2s | .i2c => 1
  | _ => 0
def ri_sem (ad : Nat → Nat) (q : ri_Cd) : Prop := match q.1 with
  | .if_icmp c _ => ri_cnd c (ri_I ad q.2.1) (ri_I ad q.2.2.1) = q.2.2.2.2
  | .ifCond c _ => ri_cnd c (ri_I ad q.2.1) 0 = q.2.2.2.2
  | .lcmp => ri_cnd .lt (lg_cmp (ri_I ad q.2.1).toInt64 (match q.2.2.1 with | .long y => y | _ => 0)) 0 = q.2.2.2.2
  | i => match ri_ar i with
    | 2 => ri_op2 i (ri_I ad q.2.1) (ri_I ad q.2.2.1) = some (ri_sy ad q.2.2.2.1)
    | _ => ri_op1 i (ri_I ad q.2.1) = some (ri_sy ad q.2.2.2.1)
/-- are the first a of the stack known ints? -/
def ri_conc (a : Nat) (st : List Value) : Bool := match a with
  | 1 => (match st with | .int _ :: _ => true | _ => false)
  | _ => (match st with | .int _ :: .int _ :: _ => true | _ => false)
noncomputable def ri_sym (nL : Nat) (o : Option (Bool ⊕ Int32)) (fr : Nat) (i : Instr) (pc : Nat) (lv : ri_L) (st : List Value) : Option (ri_R × Nat × ri_Cd) := match i with
  | .ifCond c off => (match o with
    | some (.inl b) => ri_v1 st (fun v r => match (pc : Int) + off with
      | .ofNat t => some ((bif b then (1, t, lv, r) else (0, pc + 3, lv, r)), fr + 1, (.ifCond c off, v, .int 0, 0, b))
      | .negSucc _ => none)
    | _ => none)
  | .if_icmp c off => (match o with
    | some (.inl b) => ri_v1 st (fun y r => ri_v1 r (fun x r => match (pc : Int) + off with
      | .ofNat t => some ((bif b then (1, t, lv, r) else (0, pc + 3, lv, r)), fr + 1, (.if_icmp c off, x, y, 0, b))
      | .negSucc _ => none))
    | _ => none)
  | .tableswitch d9 lo hi offs => (match o with
    | some (.inr x) => ri_v1 st (fun v r => match ri_pure nL (.tableswitch d9 lo hi offs) pc lv (.int x :: r) with
      | some z => some (z, fr + 1, (.if_icmp .eq 0, v, .int x, 0, true))
      | none => none)
    | some (.inl true) => ri_v1 st (fun v r => ri_ok (decide ((Int32.ofInt hi).toInt = hi)) (match ri_tg pc d9 1 lv r with
      | some z => some (z, fr + 1, (.if_icmp .gt 0, v, .int (Int32.ofInt hi), 0, true))
      | none => none))
    | some (.inl false) => ri_v1 st (fun v r => ri_ok (decide ((Int32.ofInt lo).toInt = lo)) (match ri_tg pc d9 1 lv r with
      | some z => some (z, fr + 1, (.if_icmp .lt 0, v, .int (Int32.ofInt lo), 0, true))
      | none => none))
    | none => none)
  | i => (match ri_ar i with
    | 1 => ri_v1 st (fun x r => some ((0, pc + 1, lv, .float (UInt32.ofNat fr) :: r), fr + 1, (i, x, .int 0, fr, true)))
    | 2 => ri_v1 st (fun y r => ri_v1 r (fun x r => some ((0, pc + 1, lv, .float (UInt32.ofNat fr) :: r), fr + 1, (i, x, y, fr, true))))
    | _ => none)
section RIY
variable {p : Program} {l : Launch} {e : Env} {R : Room} {s : State} {m : MethodId} {args : Array Value} {below : List Frame} {meth : Method} {c : Code} {H : Heap} {locs : List Loc} {cells slots : Nat} {Q : State → Prop}
variable {cc : ByteArray} {ls : Array Slot} {rest : List Value}
theorem ri_op2_ok {i : Instr} {len pc : Nat} {x y z : Int32} (hx : p.tables.exec = Jvm.exec) (hb : c.code = cc) (hd : decode cc pc = .ok (i, len)) (hlen : ri_len i = 0 ∨ ri_len i = len) (h : ri_op2 i x y = some z) (k : W p l e R s m args below meth c H locs cells slots Q (F0 m (pc + 1) ls (.int z :: rest))) : W p l e R s m args below meth c H locs cells slots Q (F0 m pc ls (.int y :: .int x :: rest)) := by
  have hl9 : ∀ {n : Nat}, ri_len i = n + 1 → n + 1 = len := fun h9 => (hlen.resolve_left (fun q => by rw [h9] at q; cases q)) ▸ h9.symm
  cases i with
  | iadd => cases hl9 rfl; cases h; exact lv_iadd hx hb hd k
  | isub => cases hl9 rfl; cases h; exact lv_isub hx hb hd k
  | imul => cases hl9 rfl; cases h; exact lv_imul hx hb hd k
  | iand => cases hl9 rfl; cases h; exact lv_iand hx hb hd k
  | ior => cases hl9 rfl; cases h; exact lv_ior hx hb hd k
  | ixor => cases hl9 rfl; cases h; exact lv_ixor hx hb hd k
  | ishl => cases hl9 rfl; cases h; exact lv_ishl hx hb hd k
  | ishr => cases hl9 rfl; cases h; exact lv_ishr hx hb hd k
  | iushr => cases hl9 rfl; cases h; exact lv_iushr hx hb hd rfl k
  | _ => cases h
theorem ri_op1_ok {i : Instr} {len pc : Nat} {x z : Int32} (hx : p.tables.exec = Jvm.exec) (hb : c.code = cc) (hd : decode cc pc = .ok (i, len)) (hlen : ri_len i = 0 ∨ ri_len i = len) (h : ri_op1 i x = some z) (k : W p l e R s m args below meth c H locs cells slots Q (F0 m (pc + 1) ls (.int z :: rest))) : W p l e R s m args below meth c H locs cells slots Q (F0 m pc ls (.int x :: rest)) := by
  have hl9 : ∀ {n : Nat}, ri_len i = n + 1 → n + 1 = len := fun h9 => (hlen.resolve_left (fun q => by rw [h9] at q; cases q)) ▸ h9.symm
  cases i with
  | ineg => cases hl9 rfl; cases h; exact lv_ineg hx hb hd k
  | i2b => cases hl9 rfl; cases h; exact lv_i2b hx hb hd rfl k
  | i2s => cases hl9 rfl; cases h; exact lv_i2s hx hb hd rfl k
  | i2c => cases hl9 rfl; cases h; exact lv_i2c hx hb hd rfl k
  | _ => cases h
theorem ri_if_ok {c9 : Jvm.ClassFile.Cond} {off : Int} {len pc t : Nat} {x : Int32} {b : Bool} (hx : p.tables.exec = Jvm.exec) (hb : c.code = cc) (hd : decode cc pc = .ok (.ifCond c9 off, len)) (hlen : ri_len (.ifCond c9 off) = 0 ∨ ri_len (.ifCond c9 off) = len) (ht : (pc : Int) + off = (t : Int)) (hc : ri_cnd c9 x 0 = b)
    (k : W p l e R s m args below meth c H locs cells slots Q (F0 m (bif b then t else pc + 3) ls rest)) : W p l e R s m args below meth c H locs cells slots Q (F0 m pc ls (.int x :: rest)) := by
  cases (hlen.resolve_left (fun q => by cases q) : 3 = len)
  cases c9 with
  | eq => exact lv_if_eq hx hb hd ht (fun hq => by rw [show b = true by rw [← hc]; simp [ri_cnd, hq]] at k; exact k) (fun hq => by rw [show b = false by rw [← hc]; simp [ri_cnd, hq]] at k; exact k)
  | ne => exact lv_if_ne hx hb hd ht (fun hq => by rw [show b = true by rw [← hc]; simp [ri_cnd, hq]] at k; exact k) (fun hq => by rw [show b = false by rw [← hc]; simp [ri_cnd, hq]] at k; exact k)
  | lt => exact lv_if_lt hx hb hd ht (fun hq => by rw [show b = true by rw [← hc]; simp [ri_cnd, hq]] at k; exact k) (fun hq => by rw [show b = false by rw [← hc]; simp [ri_cnd, hq]] at k; exact k)
  | ge => exact lv_if_ge hx hb hd ht (fun hq => by rw [show b = true by rw [← hc]; simp [ri_cnd, hq]] at k; exact k) (fun hq => by rw [show b = false by rw [← hc]; simp [ri_cnd, hq]] at k; exact k)
  | gt => exact lv_if_gt hx hb hd ht (fun hq => by rw [show b = true by rw [← hc]; simp [ri_cnd, hq]] at k; exact k) (fun hq => by rw [show b = false by rw [← hc]; simp [ri_cnd, hq]] at k; exact k)
  | le => exact lv_if_le hx hb hd ht (fun hq => by rw [show b = true by rw [← hc]; simp [ri_cnd, hq]] at k; exact k) (fun hq => by rw [show b = false by rw [← hc]; simp [ri_cnd, hq]] at k; exact k)
theorem ri_icmp_ok {c9 : Jvm.ClassFile.Cond} {off : Int} {len pc t : Nat} {x y : Int32} {b : Bool} (hx : p.tables.exec = Jvm.exec) (hb : c.code = cc) (hd : decode cc pc = .ok (.if_icmp c9 off, len)) (hlen : ri_len (.if_icmp c9 off) = 0 ∨ ri_len (.if_icmp c9 off) = len) (ht : (pc : Int) + off = (t : Int)) (hc : ri_cnd c9 x y = b)
    (k : W p l e R s m args below meth c H locs cells slots Q (F0 m (bif b then t else pc + 3) ls rest)) : W p l e R s m args below meth c H locs cells slots Q (F0 m pc ls (.int y :: .int x :: rest)) := by
  cases (hlen.resolve_left (fun q => by cases q) : 3 = len)
  cases c9 with
  | eq => exact lv_icmp_eq hx hb hd ht (fun hq => by rw [show b = true by rw [← hc]; simp [ri_cnd, hq]] at k; exact k) (fun hq => by rw [show b = false by rw [← hc]; simp [ri_cnd, hq]] at k; exact k)
  | ne => exact lv_icmp_ne hx hb hd ht (fun hq => by rw [show b = true by rw [← hc]; simp [ri_cnd, hq]] at k; exact k) (fun hq => by rw [show b = false by rw [← hc]; simp [ri_cnd, hq]] at k; exact k)
  | lt => exact lv_icmp_lt hx hb hd ht (fun hq => by rw [show b = true by rw [← hc]; simp [ri_cnd, hq]] at k; exact k) (fun hq => by rw [show b = false by rw [← hc]; simp [ri_cnd, hq]] at k; exact k)
  | ge => exact lv_icmp_ge hx hb hd ht (fun hq => by rw [show b = true by rw [← hc]; simp [ri_cnd, hq]] at k; exact k) (fun hq => by rw [show b = false by rw [← hc]; simp [ri_cnd, hq]] at k; exact k)
  | gt => exact lv_icmp_gt hx hb hd ht (fun hq => by rw [show b = true by rw [← hc]; simp [ri_cnd, hq]] at k; exact k) (fun hq => by rw [show b = false by rw [← hc]; simp [ri_cnd, hq]] at k; exact k)
  | le => exact lv_icmp_le hx hb hd ht (fun hq => by rw [show b = true by rw [← hc]; simp [ri_cnd, hq]] at k; exact k) (fun hq => by rw [show b = false by rw [← hc]; simp [ri_cnd, hq]] at k; exact k)
set_option maxHeartbeats 4000000 in
theorem ri_sym_ok {ad : Nat → Nat} {nL fr : Nat} {o : Option (Bool ⊕ Int32)} {i : Instr} {len pc : Nat} {lv : ri_L} {st : List Value} {z : ri_R × Nat × ri_Cd} (hx : p.tables.exec = Jvm.exec) (hb : c.code = cc)
    (hd : decode cc pc = .ok (i, len)) (hlen : ri_len i = 0 ∨ ri_len i = len) (hl : lv_has ls nL (ri_lr ad lv)) (h : ri_sym nL o fr i pc lv st = some z) (hs : ri_sem ad z.2.2)
    (k : ∀ ls' : Array Slot, lv_has ls' nL (ri_lr ad z.1.2.2.1) → W p l e R s m args below meth c H locs cells slots Q (F0 m z.1.2.1 ls' (z.1.2.2.2.map (ri_v ad)))) : W p l e R s m args below meth c H locs cells slots Q (F0 m pc ls (st.map (ri_v ad))) := by
  have two : ∀ (i : Instr), ri_ar i = 2 → decode cc pc = .ok (i, len) → (ri_len i = 0 ∨ ri_len i = len) → ri_v1 st (fun y r => ri_v1 r (fun x r => some (((0, pc + 1, lv, .float (UInt32.ofNat fr) :: r) : ri_R), fr + 1, ((i, x, y, fr, true) : ri_Cd)))) = some z → (∀ q : ri_Cd, q.1 = i → ri_sem ad q → ri_op2 i (ri_I ad q.2.1) (ri_I ad q.2.2.1) = some (ri_sy ad q.2.2.2.1)) → W p l e R s m args below meth c H locs cells slots Q (F0 m pc ls (st.map (ri_v ad))) := by
    intro i _ hd hlen h hq
    obtain ⟨y, r1, e1, hy, h1⟩ := ri_v1_eq h
    obtain ⟨x, r, e2, hx9, h2⟩ := ri_v1_eq h1
    clear h h1
    subst e1; subst e2
    cases h2
    rw [List.map_cons, List.map_cons, ri_isI_v hy, ri_isI_v hx9]
    exact ri_op2_ok hx hb hd hlen (hq _ rfl hs) (k ls hl)
  have one : ∀ (i : Instr), ri_ar i = 1 → decode cc pc = .ok (i, len) → (ri_len i = 0 ∨ ri_len i = len) → ri_v1 st (fun x r => some (((0, pc + 1, lv, .float (UInt32.ofNat fr) :: r) : ri_R), fr + 1, ((i, x, .int 0, fr, true) : ri_Cd))) = some z → (∀ q : ri_Cd, q.1 = i → ri_sem ad q → ri_op1 i (ri_I ad q.2.1) = some (ri_sy ad q.2.2.2.1)) → W p l e R s m args below meth c H locs cells slots Q (F0 m pc ls (st.map (ri_v ad))) := by
    intro i _ hd hlen h hq
    obtain ⟨x, r, e2, hx9, h2⟩ := ri_v1_eq h
    clear h
    subst e2
    cases h2
    rw [List.map_cons, ri_isI_v hx9]
    exact ri_op1_ok hx hb hd hlen (hq _ rfl hs) (k ls hl)
  cases i with
  | iadd => exact two .iadd rfl hd hlen h (fun q e h9 => by obtain ⟨q1, q2⟩ := q; cases e; exact h9)
  | isub => exact two .isub rfl hd hlen h (fun q e h9 => by obtain ⟨q1, q2⟩ := q; cases e; exact h9)
  | imul => exact two .imul rfl hd hlen h (fun q e h9 => by obtain ⟨q1, q2⟩ := q; cases e; exact h9)
  | iand => exact two .iand rfl hd hlen h (fun q e h9 => by obtain ⟨q1, q2⟩ := q; cases e; exact h9)
  | ior => exact two .ior rfl hd hlen h (fun q e h9 => by obtain ⟨q1, q2⟩ := q; cases e; exact h9)
  | ixor => exact two .ixor rfl hd hlen h (fun q e h9 => by obtain ⟨q1, q2⟩ := q; cases e; exact h9)
  | ishl => exact two .ishl rfl hd hlen h (fun q e h9 => by obtain ⟨q1, q2⟩ := q; cases e; exact h9)
  | ishr => exact two .ishr rfl hd hlen h (fun q e h9 => by obtain ⟨q1, q2⟩ := q; cases e; exact h9)
  | iushr => exact two .iushr rfl hd hlen h (fun q e h9 => by obtain ⟨q1, q2⟩ := q; cases e; exact h9)
  | ineg => exact one .ineg rfl hd hlen h (fun q e h9 => by obtain ⟨q1, q2⟩ := q; cases e; exact h9)
  | i2b => exact one .i2b rfl hd hlen h (fun q e h9 => by obtain ⟨q1, q2⟩ := q; cases e; exact h9)
  | i2s => exact one .i2s rfl hd hlen h (fun q e h9 => by obtain ⟨q1, q2⟩ := q; cases e; exact h9)
  | i2c => exact one .i2c rfl hd hlen h (fun q e h9 => by obtain ⟨q1, q2⟩ := q; cases e; exact h9)
  | ifCond c9 off =>
    cases o with
    | none => cases h
    | some o9 =>
      cases o9 with
      | inr x => cases h
      | inl b =>
        obtain ⟨v, r, e1, hv, h1⟩ := ri_v1_eq h
        clear h
        subst e1
        split at h1
        · rename_i t ht
          cases h1
          rw [List.map_cons, ri_isI_v hv]
          refine ri_if_ok (t := t) (b := b) hx hb hd hlen ht hs ?_
          cases b with
          | true => exact k ls hl
          | false => exact k ls hl
        · cases h1
  | if_icmp c9 off =>
    cases o with
    | none => cases h
    | some o9 =>
      cases o9 with
      | inr x => cases h
      | inl b =>
        obtain ⟨y, r1, e1, hy, h1⟩ := ri_v1_eq h
        obtain ⟨x, r, e2, hx9, h2⟩ := ri_v1_eq h1
        clear h h1
        subst e1; subst e2
        split at h2
        · rename_i t ht
          cases h2
          rw [List.map_cons, List.map_cons, ri_isI_v hy, ri_isI_v hx9]
          refine ri_icmp_ok (t := t) (b := b) hx hb hd hlen ht hs ?_
          cases b with
          | true => exact k ls hl
          | false => exact k ls hl
        · cases h2
  | tableswitch d9 lo hi offs =>
    cases o with
    | none => cases h
    | some o9 =>
      cases o9 with
      | inl b =>
        cases b with
        | true =>
          obtain ⟨v, r, e1, hv, h1⟩ := ri_v1_eq h
          clear h
          subst e1
          obtain ⟨hq, h2⟩ := ri_ok_eq h1
          have hq2 : (Int32.ofInt hi).toInt = hi := of_decide_eq_true hq
          split at h2
          · rename_i z9 hz
            cases h2
            have hs2 : ri_cnd .gt (ri_I ad v) (Int32.ofInt hi) = true := hs
            have e9 : Int32.ofInt hi < ri_I ad v := by simpa [ri_cnd] using hs2
            have e8 : hi < (ri_I ad v).toInt := by rw [← hq2]; exact Int32.lt_iff_toInt_lt.mp e9
            rw [List.map_cons, ri_isI_v hv]
            refine ri_pure_ok (ad := ad) (j := z9.1) (p' := z9.2.1) (lv' := z9.2.2.1) (st' := z9.2.2.2) (st := .int (ri_I ad v) :: r) hx hb hd hlen hl ?_ k
            show (bif decide ((ri_I ad v).toInt < lo) || decide (hi < (ri_I ad v).toInt) then ri_tg pc d9 1 lv r else _) = some z9
            rw [decide_eq_true e8, Bool.or_true, cond_true]
            exact hz
          · cases h2
        | false =>
          obtain ⟨v, r, e1, hv, h1⟩ := ri_v1_eq h
          clear h
          subst e1
          obtain ⟨hq, h2⟩ := ri_ok_eq h1
          have hq2 : (Int32.ofInt lo).toInt = lo := of_decide_eq_true hq
          split at h2
          · rename_i z9 hz
            cases h2
            have hs2 : ri_cnd .lt (ri_I ad v) (Int32.ofInt lo) = true := hs
            have e9 : ri_I ad v < Int32.ofInt lo := by simpa [ri_cnd] using hs2
            have e8 : (ri_I ad v).toInt < lo := by rw [← hq2]; exact Int32.lt_iff_toInt_lt.mp e9
            rw [List.map_cons, ri_isI_v hv]
            refine ri_pure_ok (ad := ad) (j := z9.1) (p' := z9.2.1) (lv' := z9.2.2.1) (st' := z9.2.2.2) (st := .int (ri_I ad v) :: r) hx hb hd hlen hl ?_ k
            show (bif decide ((ri_I ad v).toInt < lo) || decide (hi < (ri_I ad v).toInt) then ri_tg pc d9 1 lv r else _) = some z9
            rw [decide_eq_true e8, Bool.true_or, cond_true]
            exact hz
          · cases h2
      | inr x =>
        obtain ⟨v, r, e1, hv, h1⟩ := ri_v1_eq h
        clear h
        subst e1
        split at h1
        · rename_i z9 hz
          cases h1
          have hs2 : ri_cnd .eq (ri_I ad v) x = true := hs
          have e9 : ri_I ad v = x := by simpa [ri_cnd] using hs2
          rw [List.map_cons, ri_isI_v hv, e9]
          exact ri_pure_ok (ad := ad) (j := z9.1) (p' := z9.2.1) (lv' := z9.2.2.1) (st' := z9.2.2.2) (st := .int x :: r) hx hb hd hlen hl hz k
        · cases h1
  | _ => cases h
end RIY
end
section
/-! ===== the reckoner, part 2: worlds of numbered cells, and the instructions that touch them ===== -/
noncomputable def ri_nth {α : Type} (l : List α) : Nat → Option α := List.rec (fun _ => none) (fun a _ ih n => Nat.rec (some a) (fun m _ => ih m) n) l
theorem ri_nth_eq {α : Type} : ∀ (l : List α) (n : Nat), ri_nth l n = l[n]?
  | [], _ => rfl
  | _ :: _, 0 => rfl
  | _ :: t, n + 1 => ri_nth_eq t n
noncomputable def ri_upd {α : Type} (v : α) (l : List α) : Nat → List α := List.rec (fun _ => []) (fun a t ih n => Nat.rec (v :: t) (fun m _ => a :: ih m) n) l
theorem ri_upd_eq {α : Type} (v : α) : ∀ (l : List α) (n : Nat), ri_upd v l n = l.set n v
  | [], _ => rfl
  | _ :: _, 0 => rfl
  | a :: t, n + 1 => congrArg (List.cons a) (ri_upd_eq v t n)
/-- a cell: an array (which of the types, its elements) or an object (which of the kinds, its fields) -/
abbrev ri_E : Type := (Nat × List Value) ⊕ (Nat × List Value)
/-- what a list of values holds at a place, said of the machine -/
def ri_f (ad : Nat → Nat) (vs : List Value) (j : Nat) : Value := ri_v ad (vs.getD j .null)
theorem ri_f_at {ad : Nat → Nat} {vs : List Value} {j : Nat} {v : Value} (h : vs[j]? = some v) : ri_f ad vs j = ri_v ad v := by
  simp [ri_f, h]
theorem ri_f_set {ad : Nat → Nat} {vs : List Value} {k : Nat} (hk : k < vs.length) (v : Value) : updV (ri_f ad vs) k (ri_v ad v) = ri_f ad (vs.set k v) := by
  funext j
  by_cases h : j = k
  · subst h
    simp [updV, ri_f, hk]
  · simp [updV, ri_f, h, List.getElem?_set, Ne.symm h]
def ri_tys (cA : Nat → ClassId) (tyL : List FieldType) : List (ClassId × FieldType) := tyL.mapIdx (fun t ty => (cA t, ty))
theorem ri_tys_at {cA : Nat → ClassId} {tyL : List FieldType} {t : Nat} {ty : FieldType} (h : tyL[t]? = some ty) : (ri_tys cA tyL)[t]? = some (cA t, ty) := by
  simp [ri_tys, h]
def ri_at1 (D : va_G) (cl : List vw_C) (ad : Nat → Nat) (cA : Nat → ClassId) (k : Nat) (x : ri_E) (H : Heap) : Prop := match x with
  | .inl a => H[ad k]? = some (arrV (cA a.1) a.2.length (ri_f ad a.2))
  | .inr o => ∃ r : vw_C, cl[o.1]? = some r ∧ t_OB (ad k) (D.1 o.1) r.2.2 (D.2 o.1) H (ri_f ad o.2)
/-- the heap holds the world -/
def ri_P (D : va_G) (cl : List vw_C) (ad : Nat → Nat) (cA : Nat → ClassId) (w : List ri_E) (H : Heap) : Prop := ∀ (k : Nat) (x : ri_E), w[k]? = some x → ri_at1 D cl ad cA k x H
def ri_inj (ad : Nat → Nat) : Prop := ∀ i j : Nat, i < 1000000 → j < 1000000 → ad i = ad j → i = j
theorem ri_at1.kept {D : va_G} {cl : List vw_C} {ad : Nat → Nat} {cA : Nat → ClassId} {k : Nat} {x : ri_E} {H H1 : Heap} (h : ri_at1 D cl ad cA k x H) (hq : H1[ad k]? = H[ad k]?) : ri_at1 D cl ad cA k x H1 := by
  cases x with
  | inl a => exact hq.trans h
  | inr o =>
    obtain ⟨r, h1, h2⟩ := h
    exact ⟨r, h1, h2.kept hq⟩
theorem ri_at1.lt {D : va_G} {cl : List vw_C} {ad : Nat → Nat} {cA : Nat → ClassId} {k : Nat} {x : ri_E} {H : Heap} (h : ri_at1 D cl ad cA k x H) : ad k < H.size := by
  cases x with
  | inl a => exact (Array.getElem?_eq_some_iff.mp h).1
  | inr o =>
    obtain ⟨r, h1, cell, h2, -⟩ := h
    exact (Array.getElem?_eq_some_iff.mp h2).1
theorem ri_P.set {D : va_G} {cl : List vw_C} {ad : Nat → Nat} {cA : Nat → ClassId} {w : List ri_E} {H H1 : Heap} (h : ri_P D cl ad cA w H) (hi : ri_inj ad) (hw9 : w.length ≤ 1000000) {q : Nat} (hq9 : q < 1000000) {x : ri_E} (he : ri_at1 D cl ad cA q x H1) (oq : ∀ z : Nat, z ≠ ad q → H1[z]? = H[z]?) : ri_P D cl ad cA (w.set q x) H1 := by
  intro k y hk
  by_cases hkq : q = k
  · subst hkq
    rw [List.getElem?_set] at hk
    split at hk
    · split at hk
      · cases hk; exact he
      · cases hk
    · rename_i hne
      exact absurd rfl hne
  · rw [List.getElem?_set_ne hkq] at hk
    exact (h k y hk).kept (oq _ (fun z => hkq (hi _ _ hq9 (Nat.lt_of_lt_of_le (List.getElem?_eq_some_iff.mp hk).1 hw9) z.symm)))
theorem ri_P.keep {D : va_G} {cl : List vw_C} {ad : Nat → Nat} {cA : Nat → ClassId} {w : List ri_E} {H H1 : Heap} (h : ri_P D cl ad cA w H) (oq : ∀ z : Nat, z < H.size → H1[z]? = H[z]?) : ri_P D cl ad cA w H1 := fun k x hk => (h k x hk).kept (oq _ (h k x hk).lt)
theorem ri_P.push {D : va_G} {cl : List vw_C} {ad : Nat → Nat} {cA : Nat → ClassId} {w : List ri_E} {H H1 : Heap} (h : ri_P D cl ad cA w H) {x : ri_E} (he : ri_at1 D cl ad cA w.length x H1) (oq : ∀ z : Nat, z < H.size → H1[z]? = H[z]?) : ri_P D cl ad cA (w ++ [x]) H1 := by
  intro k y hk
  by_cases hl : k < w.length
  · rw [List.getElem?_append_left hl] at hk
    exact (h k y hk).kept (oq _ (h k y hk).lt)
  · rw [List.getElem?_append_right (by omega)] at hk
    have hz : k - w.length < 1 := (List.getElem?_eq_some_iff.mp hk).1
    have e : k = w.length := by omega
    subst e
    rw [Nat.sub_self] at hk
    cases hk
    exact he
/-- which cells are the world's: all that have a number below a million (that one is the script's) -/
def ri_A (ad : Nat → Nat) : Nat → Prop := fun q => ∃ k : Nat, k < 1000000 ∧ ad k = q
/-- where the next cells come -/
def ri_nx (ad : Nat → Nat) (n sz : Nat) : Prop := ∀ j : Nat, n ≤ j → j < 1000000 → ad j = sz + (j - n)
theorem ri_nx.succ {ad : Nat → Nat} {n sz : Nat} (h : ri_nx ad n sz) : ri_nx ad (n + 1) (sz + 1) := fun j hj h9 => by rw [h j (by omega) h9]; omega
theorem ri_nx.here {ad : Nat → Nat} {n sz : Nat} (h : ri_nx ad n sz) (h9 : n < 1000000) : ad n = sz := by rw [h n (Nat.le_refl _) h9]; omega
/-- the kinds of objects: their words, types and names -/
def ri_clok (WG : List Jvm.Cond) (cl : List vw_C) (ty : Nat → Nat → FieldType) : Prop := ∀ (ci : Nat) (r : vw_C), cl[ci]? = some r → (∀ w ∈ u_ws r.1 r.2.1 r.2.2, w ∈ WG) ∧ (∀ k, k < r.2.2 → parseFieldDescriptor (r.2.1 k).2.2.1 = some (ty ci k)) ∧ (∀ a, a < r.2.2 → ∀ b, b < r.2.2 → a ≠ b → (r.2.1 a).2.1 ≠ (r.2.1 b).2.1) ∧ Jvm.Cond.instantiable r.1 r.2.2 ∈ WG ∧ Jvm.Cond.initialized r.1 ∈ WG
noncomputable def ri_getf (a b : Nat) (st : List Value) (w : List ri_E) : Option (List Value) := match st with
  | .ref q :: r => (match ri_nth w q with
    | some (.inr o) => ri_ok (Nat.beq o.1 a) (match ri_nth o.2 b with
      | some v => some (v :: r)
      | none => none)
    | _ => none)
  | _ => none
theorem ri_getf_eq {a b : Nat} {st st' : List Value} {w : List ri_E} (h : ri_getf a b st w = some st') : ∃ (q : Nat) (r fs : List Value) (v : Value), st = .ref q :: r ∧ w[q]? = some (.inr (a, fs)) ∧ fs[b]? = some v ∧ st' = v :: r := by
  unfold ri_getf at h
  split at h
  · rename_i q r
    split at h
    · rename_i o ho
      obtain ⟨hb, h2⟩ := ri_ok_eq h
      split at h2
      · rename_i v hv
        rw [ri_nth_eq] at ho hv
        obtain ⟨o1, o2⟩ := o
        have e1 : o1 = a := Nat.eq_of_beq_eq_true hb
        exact ⟨q, r, o2, v, rfl, by rw [ho, e1], hv, (Option.some.inj h2).symm⟩
      · cases h2
    · cases h
  · cases h
/-- a value that a field or array of this type takes as it is -/
def ri_fit (ty : FieldType) (v : Value) : Bool := match ty with
  | .int => (match v with | .int _ => true | .float _ => true | _ => false)
  | .long => (match v with | .long _ => true | _ => false)
  | .double => (match v with | .double _ => true | _ => false)
  | .boolean => (match v with | .int x => decide (x = 0) || decide (x = 1) | _ => false)
  | .object _ => (match v with | .ref _ => true | .null => true | _ => false)
  | .array _ => (match v with | .ref _ => true | .null => true | _ => false)
  | _ => false
theorem ri_fit_ok {ad : Nat → Nat} {ty : FieldType} {v : Value} (h : ri_fit ty v = true) : narrow ty (ri_v ad v) = ri_v ad v ∧ fits ty (ri_v ad v) = true := by
  cases ty with
  | boolean =>
    cases v with
    | int x =>
      have h2 : x = 0 ∨ x = 1 := by simpa [ri_fit] using h
      show narrow .boolean (.int x) = .int x ∧ fits .boolean (.int x) = true
      rcases h2 with rfl | rfl <;> exact ⟨by decide +kernel, by decide +kernel⟩
    | _ => cases h
  | int => cases v <;> first | exact ⟨rfl, rfl⟩ | cases h
  | long => cases v <;> first | exact ⟨rfl, rfl⟩ | cases h
  | double => cases v <;> first | exact ⟨rfl, rfl⟩ | cases h
  | object C => cases v <;> first | exact ⟨rfl, rfl⟩ | cases h
  | array C => cases v <;> first | exact ⟨rfl, rfl⟩ | cases h
  | _ => cases h
noncomputable def ri_putf (ty : FieldType) (a b : Nat) (st : List Value) (w : List ri_E) : Option (List Value × List ri_E) := match st with
  | v :: .ref q :: r => (match ri_nth w q with
    | some (.inr o) => ri_ok (Nat.beq o.1 a) (match ri_nth o.2 b with
      | some _ => ri_ok (ri_fit ty v) (some (r, ri_upd (.inr (o.1, ri_upd v o.2 b)) w q))
      | none => none)
    | _ => none)
  | _ => none
theorem ri_putf_eq {ty : FieldType} {a b : Nat} {st st' : List Value} {w w' : List ri_E} (h : ri_putf ty a b st w = some (st', w')) : ∃ (q : Nat) (fs : List Value) (v : Value), st = v :: .ref q :: st' ∧ w[q]? = some (.inr (a, fs)) ∧ b < fs.length ∧ ri_fit ty v = true ∧ w' = w.set q (.inr (a, fs.set b v)) := by
  unfold ri_putf at h
  split at h
  · rename_i v q r
    split at h
    · rename_i o ho
      obtain ⟨hb, h2⟩ := ri_ok_eq h
      split at h2
      · rename_i u hv
        obtain ⟨hf, h3⟩ := ri_ok_eq h2
        rw [ri_nth_eq] at ho hv
        obtain ⟨o1, o2⟩ := o
        have e1 : o1 = a := Nat.eq_of_beq_eq_true hb
        rw [ri_upd_eq, ri_upd_eq] at h3
        have e3 := Option.some.inj h3
        have e4 : r = st' := congrArg Prod.fst e3
        have e5 : w.set q (.inr (o1, o2.set b v)) = w' := congrArg Prod.snd e3
        exact ⟨q, o2, v, by rw [e4], by rw [ho, e1], (List.getElem?_eq_some_iff.mp hv).1, hf, by rw [← e5, e1]⟩
      · cases h2
    · cases h
  · cases h
/-- an element of an array: of which type it must be says g -/
noncomputable def ri_ald (tyL : List FieldType) (g : FieldType → Bool) (st : List Value) (w : List ri_E) : Option (List Value) := match st with
  | .int i :: .ref q :: r => (match ri_nth w q with
    | some (.inl a) => (match ri_nth tyL a.1 with
      | some ty => ri_ok (g ty && !decide (i < 0)) (match ri_nth a.2 i.toNatClampNeg with
        | some v => some (v :: r)
        | none => none)
      | none => none)
    | _ => none)
  | _ => none
theorem ri_ald_eq {tyL : List FieldType} {g : FieldType → Bool} {st st' : List Value} {w : List ri_E} (h : ri_ald tyL g st w = some st') : ∃ (i : Int32) (q t : Nat) (r vs : List Value) (v : Value) (ty : FieldType), st = .int i :: .ref q :: r ∧ w[q]? = some (.inl (t, vs)) ∧ tyL[t]? = some ty ∧ g ty = true ∧ ¬ i < 0 ∧ vs[i.toNatClampNeg]? = some v ∧ st' = v :: r := by
  unfold ri_ald at h
  split at h
  · rename_i i q r
    split at h
    · rename_i a ha
      split at h
      · rename_i ty hty
        obtain ⟨hb, h2⟩ := ri_ok_eq h
        split at h2
        · rename_i v hv
          rw [ri_nth_eq] at ha hv hty
          obtain ⟨b1, b2⟩ := (Bool.and_eq_true _ _ ▸ hb : g ty = true ∧ (!decide (i < 0)) = true)
          exact ⟨i, q, a.1, r, a.2, v, ty, rfl, ha, hty, b1, by simpa using b2, hv, (Option.some.inj h2).symm⟩
        · cases h2
      · cases h
    · cases h
  · cases h
/-- a store: g says whether the value fits and what is kept of it -/
noncomputable def ri_ast (tyL : List FieldType) (g : FieldType → Value → Option Value) (st : List Value) (w : List ri_E) : Option (List Value × List ri_E) := match st with
  | x :: .int i :: .ref q :: r => (match ri_nth w q with
    | some (.inl a) => (match ri_nth tyL a.1 with
      | some ty => (match g ty x with
        | some v => ri_ok (!decide (i < 0)) (match ri_nth a.2 i.toNatClampNeg with
          | some _ => some (r, ri_upd (.inl (a.1, ri_upd v a.2 i.toNatClampNeg)) w q)
          | none => none)
        | none => none)
      | none => none)
    | _ => none)
  | _ => none
theorem ri_ast_eq {tyL : List FieldType} {g : FieldType → Value → Option Value} {st st' : List Value} {w w' : List ri_E} (h : ri_ast tyL g st w = some (st', w')) : ∃ (i : Int32) (q t : Nat) (vs : List Value) (x v : Value) (ty : FieldType), st = x :: .int i :: .ref q :: st' ∧ w[q]? = some (.inl (t, vs)) ∧ tyL[t]? = some ty ∧ g ty x = some v ∧ ¬ i < 0 ∧ i.toNatClampNeg < vs.length ∧ w' = w.set q (.inl (t, vs.set i.toNatClampNeg v)) := by
  unfold ri_ast at h
  split at h
  · rename_i x i q r
    split at h
    · rename_i a ha
      split at h
      · rename_i ty hty
        split at h
        · rename_i v hg
          obtain ⟨hb, h2⟩ := ri_ok_eq h
          split at h2
          · rename_i u hu
            rw [ri_nth_eq] at ha hu hty
            rw [ri_upd_eq, ri_upd_eq] at h2
            have e3 := Option.some.inj h2
            have e4 : r = st' := congrArg Prod.fst e3
            have e5 : w.set q (.inl (a.1, a.2.set i.toNatClampNeg v)) = w' := congrArg Prod.snd e3
            exact ⟨i, q, a.1, a.2, x, v, ty, by rw [e4], ha, hty, hg, by simpa using hb, (List.getElem?_eq_some_iff.mp hu).1, e5.symm⟩
          · cases h2
        · cases h
      · cases h
    · cases h
  · cases h
section RIH
variable {p : Program} {l : Launch} {e : Env} {R : Room} {s : State} {m : MethodId} {args : Array Value} {below : List Frame} {meth : Method} {c : Code} {H : Heap} {locs : List Loc} {cells slots : Nat} {Q : State → Prop}
variable {cc : ByteArray} {pc : Nat} {ls : Array Slot} {ad : Nat → Nat} {cA : Nat → ClassId} {tyL : List FieldType} {D : va_G} {cl : List vw_C} {ty : Nat → Nat → FieldType} {WG : List Jvm.Cond} {own : String} {w : List ri_E} {H0 : Heap}
theorem ri_getf_ok {a b idx : Nat} {st st' : List Value} (hx : p.tables.exec = Jvm.exec) (hb : c.code = cc) (hown : s.vm.findClass own = some m.cls) (hts : ∀ x ∈ WG, x.before args s = true) (hK : va_K D cl (ri_tys cA tyL) s) (hC : ri_clok WG cl ty) (hP : ri_P D cl ad cA w H)
    {r : vw_C} (hr : cl[a]? = some r) (hk : b < r.2.2) (hw : Jvm.Cond.fieldLink own idx (r.2.1 b).1 (r.2.1 b).2.1 (r.2.1 b).2.2.1 ∈ WG) (hd : decode cc pc = .ok (.getfield idx, 3)) (h : ri_getf a b st w = some st')
    (k : W p l e R s m args below meth c H locs cells slots Q (F0 m (pc + 3) ls (st'.map (ri_v ad)))) : W p l e R s m args below meth c H locs cells slots Q (F0 m pc ls (st.map (ri_v ad))) := by
  obtain ⟨q, r9, fs, v, rfl, hq, hv, rfl⟩ := ri_getf_eq h
  obtain ⟨r2, g1, cell, g2, g3, g4, g5⟩ := hP q _ hq
  cases Option.some.inj (g1.symm.trans hr)
  obtain ⟨hS, hfc, kC, hkC, hkind⟩ := hK.1 a _ hr
  obtain ⟨cf, kf, fi, f, hi, hsl⟩ := hS b hk
  refine W.getf hx hb hown (hts _ hw) hi (u_facts hfc hkC (u_lays hts (hC a _ hr).1 hk) hi).1 g2 (by rw [g4]; exact fun h => by cases h) (v := ri_v ad v) ?_ rfl rfl hd k
  rw [hsl, g5 b hk, ri_f_at hv]
theorem ri_S_put {A : Nat → Prop} {H1 : Heap} {a k : Nat} (h : va_S A H0 H locs) (z : H1.size = H.size) (oq : ∀ q : Nat, q ≠ a → H1[q]? = H[q]?) (ha : A a) : va_S A H0 H1 (locs ++ [⟨a, k⟩]) := va_S.put h z oq ha
theorem ri_putf_ok {a b idx : Nat} {st st' : List Value} {w' : List ri_E} (hx : p.tables.exec = Jvm.exec) (hb : c.code = cc) (hown : s.vm.findClass own = some m.cls) (hts : ∀ x ∈ WG, x.before args s = true) (hK : va_K D cl (ri_tys cA tyL) s) (hC : ri_clok WG cl ty) (hP : ri_P D cl ad cA w H) (hw9 : w.length ≤ 1000000) (hi9 : ri_inj ad) (hS9 : va_S (ri_A ad) H0 H locs)
    {r : vw_C} (hr : cl[a]? = some r) (hk : b < r.2.2) (hw : Jvm.Cond.fieldLink own idx (r.2.1 b).1 (r.2.1 b).2.1 (r.2.1 b).2.2.1 ∈ WG) (hfin : (r.2.1 b).2.2.2 = false ∨ (meth.name = "<init>" ∧ (r.2.1 b).1 = own)) (hd : decode cc pc = .ok (.putfield idx, 3)) (h : ri_putf (ty a b) a b st w = some (st', w'))
    (k : ∀ (H1 : Heap) (locs1 : List Loc), ri_P D cl ad cA w' H1 → va_S (ri_A ad) H0 H1 locs1 → H1.size = H.size → W p l e R s m args below meth c H1 locs1 cells slots Q (F0 m (pc + 3) ls (st'.map (ri_v ad)))) : W p l e R s m args below meth c H locs cells slots Q (F0 m pc ls (st.map (ri_v ad))) := by
  obtain ⟨q, fs, v, rfl, hq, hl, hf, rfl⟩ := ri_putf_eq h
  obtain ⟨h1, h2, h3, -, -⟩ := hC a _ hr
  obtain ⟨f1, f2⟩ := ri_fit_ok (ad := ad) hf
  have hap := va_apart (own := own) hts h1 (ty a) h2 h3 hK hr
  obtain ⟨r2, g1, cell, g2, g3, g4, g5⟩ := hP q _ hq
  cases Option.some.inj (g1.symm.trans hr)
  obtain ⟨hS, hfc, kC, hkC, hkind⟩ := hK.1 a _ hr
  obtain ⟨cf, kf, fi, f, hi, hsl⟩ := hS b hk
  have hst := (u_facts hfc hkC (u_lays hts h1 hk) hi).1
  have done : ∀ (H' : Heap), H'[ad q]? = some (cell.setSlot f.slot (ri_v ad v)) → H'.size = H.size → (∀ z : Nat, z ≠ ad q → H'[z]? = H[z]?) → W p l e R s m args below meth c H' (locs ++ [⟨ad q, f.slot⟩]) cells slots Q (F0 m (pc + 3) ls (st'.map (ri_v ad))) := by
    intro H' e1 e2 e3
    rw [hsl] at e1 ⊢
    refine k H' _ (hP.set hi9 hw9 (Nat.lt_of_lt_of_le (List.getElem?_eq_some_iff.mp hq).1 hw9) ⟨_, hr, ?_⟩ e3) (ri_S_put hS9 e2 e3 ⟨q, Nat.lt_of_lt_of_le (List.getElem?_eq_some_iff.mp hq).1 hw9, rfl⟩) e2
    exact t_OB.to (V := updV (ri_f ad fs) b (ri_v ad v)) ⟨_, e1, g3, g4, t_set g5 hap hk (ri_v ad v)⟩ (fun j _ => congrFun (ri_f_set hl v) j)
  have hlay := hts _ (h1 _ (u_in_lay hk))
  unfold u_lay at hlay
  by_cases hfn : (r.2.1 b).2.2.2 = true
  · rw [if_pos hfn] at hlay
    obtain ⟨hin2, hdecl⟩ := hfin.resolve_left (by rw [hfn]; decide)
    have hcf : m.cls = cf := by
      obtain ⟨_, _, c', _, _, _, -, -, hf', -, -, -, hown2, -⟩ := Cond.laysFinal_spec hlay
      have e1 : c' = cf := by have := hi.symm.trans hf'; simp at this; exact this.1.symm
      rw [hdecl] at hown2
      rw [← e1]; exact Option.some.inj (hown.symm.trans hown2)
    have h6 := u_fits hfc hkC hkind (Or.inr hlay) hi (h2 b hk) f1 f2
    exact W.putFinK hx hb hown (hts _ hw) hi hst hcf hin2 (by rw [g3]; exact h6) g2 g4 (by rw [hsl]; exact k2_hasslot (g5 b hk)) rfl rfl hd done
  · rw [if_neg hfn] at hlay
    have h6 := u_store hfc hkC hkind hlay hi (h2 b hk) f1 f2
    exact W.putK hx hb (f := f) ⟨hown, hts _ hw, ⟨_, _, _, hi⟩, hst⟩ (by rw [g3]; exact h6) g2 g4 (by rw [hsl]; exact k2_hasslot (g5 b hk)) rfl rfl hd done
end RIH
end
section
/-! ===== the reckoner, part 3: arrays and new cells ===== -/
section RIA
variable {p : Program} {l : Launch} {e : Env} {R : Room} {s : State} {m : MethodId} {args : Array Value} {below : List Frame} {meth : Method} {c : Code} {H : Heap} {locs : List Loc} {cells slots : Nat} {Q : State → Prop}
variable {cc : ByteArray} {pc : Nat} {ls : Array Slot} {ad : Nat → Nat} {cA : Nat → ClassId} {tyL : List FieldType} {D : va_G} {cl : List vw_C} {ty : Nat → Nat → FieldType} {WG : List Jvm.Cond} {own : String} {w : List ri_E} {H0 : Heap}
def ri_tI (t : FieldType) : Bool := match t with | .int => true | _ => false
def ri_tB (t : FieldType) : Bool := match t with | .byte => true | .boolean => true | _ => false
def ri_tL (t : FieldType) : Bool := match t with | .long => true | _ => false
def ri_tD (t : FieldType) : Bool := match t with | .double => true | _ => false
def ri_tA (t : FieldType) : Bool := match t with | .object _ => true | .array _ => true | _ => false
theorem ri_arr_at (hK : va_K D cl (ri_tys cA tyL) s) (hP : ri_P D cl ad cA w H) {q t : Nat} {vs : List Value} {t9 : FieldType} (hq : w[q]? = some (.inl (t, vs))) (ht : tyL[t]? = some t9) :
    H[ad q]? = some (arrV (cA t) vs.length (ri_f ad vs)) ∧ s.isArrayOf (arrV (cA t) vs.length (ri_f ad vs)) t9 ∧ (arrV (cA t) vs.length (ri_f ad vs)).vm ≠ .unknown := ⟨hP q _ hq, (hK.2 t _ (ri_tys_at ht)).1 _ _, fun h => by cases h⟩
theorem ri_in {i : Int32} {vs : List Value} {t : Nat} {v : Value} (h0 : ¬ i < 0) (hv : vs[i.toNatClampNeg]? = some v) : ¬ (i < 0 ∨ (arrV (cA t) vs.length (ri_f ad vs)).slots.size ≤ i.toNatClampNeg) ∧ (arrV (cA t) vs.length (ri_f ad vs)).slots[i.toNatClampNeg]? = some (ri_v ad v) := by
  have hl := (List.getElem?_eq_some_iff.mp hv).1
  refine ⟨fun q => q.elim h0 (fun z => ?_), ?_⟩
  · rw [arrV_size] at z
    omega
  · rw [arrV_read _ _ hl, ri_f_at hv]
theorem ri_iald_ok {st st' : List Value} (hx : p.tables.exec = Jvm.exec) (hb : c.code = cc) (hK : va_K D cl (ri_tys cA tyL) s) (hP : ri_P D cl ad cA w H) (hd : decode cc pc = .ok (.iaload, 1)) (h : ri_ald tyL ri_tI st w = some st')
    (k : W p l e R s m args below meth c H locs cells slots Q (F0 m (pc + 1) ls (st'.map (ri_v ad)))) : W p l e R s m args below meth c H locs cells slots Q (F0 m pc ls (st.map (ri_v ad))) := by
  obtain ⟨i, q, t, r, vs, v, t9, rfl, hq, ht, hg, h0, hv, rfl⟩ := ri_ald_eq h
  obtain ⟨a1, a2, a3⟩ := ri_arr_at hK hP hq ht
  obtain ⟨b1, b2⟩ := ri_in (ad := ad) (cA := cA) (t := t) h0 hv
  cases t9 <;> first | exact W.iald hx hb a1 a2 a3 b1 b2 rfl rfl hd k | cases hg
theorem ri_bald_ok {st st' : List Value} (hx : p.tables.exec = Jvm.exec) (hb : c.code = cc) (hK : va_K D cl (ri_tys cA tyL) s) (hP : ri_P D cl ad cA w H) (hd : decode cc pc = .ok (.baload, 1)) (h : ri_ald tyL ri_tB st w = some st')
    (k : W p l e R s m args below meth c H locs cells slots Q (F0 m (pc + 1) ls (st'.map (ri_v ad)))) : W p l e R s m args below meth c H locs cells slots Q (F0 m pc ls (st.map (ri_v ad))) := by
  obtain ⟨i, q, t, r, vs, v, t9, rfl, hq, ht, hg, h0, hv, rfl⟩ := ri_ald_eq h
  obtain ⟨a1, a2, a3⟩ := ri_arr_at hK hP hq ht
  obtain ⟨b1, b2⟩ := ri_in (ad := ad) (cA := cA) (t := t) h0 hv
  cases t9 <;> first | exact W.bald hx hb a1 a2 a3 b1 b2 rfl rfl hd k | exact W.zald hx hb a1 a2 a3 b1 b2 rfl rfl hd k | cases hg
theorem ri_lald_ok {st st' : List Value} (hx : p.tables.exec = Jvm.exec) (hb : c.code = cc) (hK : va_K D cl (ri_tys cA tyL) s) (hP : ri_P D cl ad cA w H) (hd : decode cc pc = .ok (.laload, 1)) (h : ri_ald tyL ri_tL st w = some st')
    (k : W p l e R s m args below meth c H locs cells slots Q (F0 m (pc + 1) ls (st'.map (ri_v ad)))) : W p l e R s m args below meth c H locs cells slots Q (F0 m pc ls (st.map (ri_v ad))) := by
  obtain ⟨i, q, t, r, vs, v, t9, rfl, hq, ht, hg, h0, hv, rfl⟩ := ri_ald_eq h
  obtain ⟨a1, a2, a3⟩ := ri_arr_at hK hP hq ht
  obtain ⟨b1, b2⟩ := ri_in (ad := ad) (cA := cA) (t := t) h0 hv
  cases t9 <;> first | exact W.lald hx hb a1 a2 a3 b1 b2 rfl rfl hd k | cases hg
theorem ri_dald_ok {st st' : List Value} (hx : p.tables.exec = Jvm.exec) (hb : c.code = cc) (hK : va_K D cl (ri_tys cA tyL) s) (hP : ri_P D cl ad cA w H) (hd : decode cc pc = .ok (.daload, 1)) (h : ri_ald tyL ri_tD st w = some st')
    (k : W p l e R s m args below meth c H locs cells slots Q (F0 m (pc + 1) ls (st'.map (ri_v ad)))) : W p l e R s m args below meth c H locs cells slots Q (F0 m pc ls (st.map (ri_v ad))) := by
  obtain ⟨i, q, t, r, vs, v, t9, rfl, hq, ht, hg, h0, hv, rfl⟩ := ri_ald_eq h
  obtain ⟨a1, a2, a3⟩ := ri_arr_at hK hP hq ht
  obtain ⟨b1, b2⟩ := ri_in (ad := ad) (cA := cA) (t := t) h0 hv
  cases t9 <;> first | exact W.dald hx hb a1 a2 a3 b1 b2 rfl rfl hd k | cases hg
theorem ri_aald_ok {st st' : List Value} (hx : p.tables.exec = Jvm.exec) (hb : c.code = cc) (hK : va_K D cl (ri_tys cA tyL) s) (hP : ri_P D cl ad cA w H) (hd : decode cc pc = .ok (.aaload, 1)) (h : ri_ald tyL ri_tA st w = some st')
    (k : W p l e R s m args below meth c H locs cells slots Q (F0 m (pc + 1) ls (st'.map (ri_v ad)))) : W p l e R s m args below meth c H locs cells slots Q (F0 m pc ls (st.map (ri_v ad))) := by
  obtain ⟨i, q, t, r, vs, v, t9, rfl, hq, ht, hg, h0, hv, rfl⟩ := ri_ald_eq h
  obtain ⟨a1, a2, a3⟩ := ri_arr_at hK hP hq ht
  obtain ⟨b1, b2⟩ := ri_in (ad := ad) (cA := cA) (t := t) h0 hv
  cases t9 <;> first | exact W.aald hx hb a1 a2 rfl a3 b1 b2 rfl rfl hd k | cases hg
noncomputable def ri_alen2 (tyL : List FieldType) (st : List Value) (w : List ri_E) : Option (List Value) := match st with
  | .ref q :: r => (match ri_nth w q with
    | some (.inl a) => (match ri_nth tyL a.1 with
      | some _ => some (.int (Int32.ofNat a.2.length) :: r)
      | none => none)
    | _ => none)
  | _ => none
theorem ri_alen_ok {st st' : List Value} (hx : p.tables.exec = Jvm.exec) (hb : c.code = cc) (hK : va_K D cl (ri_tys cA tyL) s) (hP : ri_P D cl ad cA w H) (hd : decode cc pc = .ok (.arraylength, 1)) (h : ri_alen2 tyL st w = some st')
    (k : W p l e R s m args below meth c H locs cells slots Q (F0 m (pc + 1) ls (st'.map (ri_v ad)))) : W p l e R s m args below meth c H locs cells slots Q (F0 m pc ls (st.map (ri_v ad))) := by
  unfold ri_alen2 at h
  split at h
  · rename_i q r
    split at h
    · rename_i a ha
      split at h
      · rename_i t9 ht
        rw [ri_nth_eq] at ha ht
        obtain ⟨a1, a2, a3⟩ := ri_arr_at hK hP ha ht
        cases h
        exact W.alen (n := Int32.ofNat a.2.length) hx hb a1 a2 (by rw [arrV_size] <;> rfl) rfl rfl hd k
      · cases h
    · cases h
  · cases h
/-! stores -/
def ri_gI (t : FieldType) (x : Value) : Option Value := match t with
  | .int => (match x with | .int y => some (.int y) | .float y => some (.float y) | _ => none)
  | _ => none
def ri_gB (t : FieldType) (x : Value) : Option Value := match t with
  | .byte => (match x with | .int y => some (narrow .byte (.int y)) | _ => none)
  | .boolean => (match x with | .int y => some (narrow .boolean (.int y)) | _ => none)
  | _ => none
def ri_gL (t : FieldType) (x : Value) : Option Value := match t with
  | .long => (match x with | .long y => some (.long y) | _ => none)
  | _ => none
def ri_gD (t : FieldType) (x : Value) : Option Value := match t with
  | .double => (match x with | .double y => some (.double y) | _ => none)
  | _ => none
theorem ri_in2 {i : Int32} {vs : List Value} {t : Nat} (h0 : ¬ i < 0) (hl : i.toNatClampNeg < vs.length) : ¬ (i < 0 ∨ (arrV (cA t) vs.length (ri_f ad vs)).slots.size ≤ i.toNatClampNeg) := fun q => q.elim h0 (fun z => by rw [arrV_size] at z; omega)
theorem ri_stored (hP : ri_P D cl ad cA w H) (hi9 : ri_inj ad) (hS9 : va_S (ri_A ad) H0 H locs) {q t : Nat} {vs : List Value} {i : Nat} {v : Value} (hl : i < vs.length) (hw9 : w.length ≤ 1000000) (hq9 : q < 1000000) {pc' : Nat} {st' : List Value}
    (k : ∀ (H1 : Heap) (locs1 : List Loc), ri_P D cl ad cA (w.set q (.inl (t, vs.set i v))) H1 → va_S (ri_A ad) H0 H1 locs1 → H1.size = H.size → W p l e R s m args below meth c H1 locs1 cells slots Q (F0 m pc' ls st')) :
    ∀ H' : Heap, H'[ad q]? = some ((arrV (cA t) vs.length (ri_f ad vs)).setSlot i (ri_v ad v)) → H'.size = H.size → (∀ z : Nat, z ≠ ad q → H'[z]? = H[z]?) → W p l e R s m args below meth c H' (locs ++ [⟨ad q, i⟩]) cells slots Q (F0 m pc' ls st') := by
  intro H' e1 e2 e3
  refine k H' _ (hP.set hi9 hw9 hq9 ?_ e3) (ri_S_put hS9 e2 e3 ⟨q, hq9, rfl⟩) e2
  show H'[ad q]? = some (arrV (cA t) (vs.set i v).length (ri_f ad (vs.set i v)))
  rw [e1, arrV_store, ri_f_set hl, List.length_set]
theorem ri_iast_ok {st st' : List Value} {w' : List ri_E} (hx : p.tables.exec = Jvm.exec) (hb : c.code = cc) (hK : va_K D cl (ri_tys cA tyL) s) (hP : ri_P D cl ad cA w H) (hw9 : w.length ≤ 1000000) (hi9 : ri_inj ad) (hS9 : va_S (ri_A ad) H0 H locs) (hd : decode cc pc = .ok (.iastore, 1)) (h : ri_ast tyL ri_gI st w = some (st', w'))
    (k : ∀ (H1 : Heap) (locs1 : List Loc), ri_P D cl ad cA w' H1 → va_S (ri_A ad) H0 H1 locs1 → H1.size = H.size → W p l e R s m args below meth c H1 locs1 cells slots Q (F0 m (pc + 1) ls (st'.map (ri_v ad)))) : W p l e R s m args below meth c H locs cells slots Q (F0 m pc ls (st.map (ri_v ad))) := by
  obtain ⟨i, q, t, vs, x, v, t9, rfl, hq, ht, hg, h0, hl, rfl⟩ := ri_ast_eq h
  obtain ⟨a1, a2, a3⟩ := ri_arr_at hK hP hq ht
  cases t9 with
  | int => cases x with
    | float y => cases hg; exact W.iast hx hb a1 a2 a3 (ri_in2 h0 hl) rfl rfl hd (ri_stored (v := .float y) hP hi9 hS9 hl hw9 (Nat.lt_of_lt_of_le (List.getElem?_eq_some_iff.mp hq).1 hw9) k)
    | int y => cases hg; exact W.iast hx hb a1 a2 a3 (ri_in2 h0 hl) rfl rfl hd (ri_stored (v := .int y) hP hi9 hS9 hl hw9 (Nat.lt_of_lt_of_le (List.getElem?_eq_some_iff.mp hq).1 hw9) k)
    | _ => cases hg
  | _ => cases hg
theorem ri_last_ok {st st' : List Value} {w' : List ri_E} (hx : p.tables.exec = Jvm.exec) (hb : c.code = cc) (hK : va_K D cl (ri_tys cA tyL) s) (hP : ri_P D cl ad cA w H) (hw9 : w.length ≤ 1000000) (hi9 : ri_inj ad) (hS9 : va_S (ri_A ad) H0 H locs) (hd : decode cc pc = .ok (.lastore, 1)) (h : ri_ast tyL ri_gL st w = some (st', w'))
    (k : ∀ (H1 : Heap) (locs1 : List Loc), ri_P D cl ad cA w' H1 → va_S (ri_A ad) H0 H1 locs1 → H1.size = H.size → W p l e R s m args below meth c H1 locs1 cells slots Q (F0 m (pc + 1) ls (st'.map (ri_v ad)))) : W p l e R s m args below meth c H locs cells slots Q (F0 m pc ls (st.map (ri_v ad))) := by
  obtain ⟨i, q, t, vs, x, v, t9, rfl, hq, ht, hg, h0, hl, rfl⟩ := ri_ast_eq h
  obtain ⟨a1, a2, a3⟩ := ri_arr_at hK hP hq ht
  cases t9 with
  | long => cases x with
    | long y => cases hg; exact W.last hx hb a1 a2 a3 (ri_in2 h0 hl) rfl rfl hd (ri_stored (v := .long y) hP hi9 hS9 hl hw9 (Nat.lt_of_lt_of_le (List.getElem?_eq_some_iff.mp hq).1 hw9) k)
    | _ => cases hg
  | _ => cases hg
theorem ri_dast_ok {st st' : List Value} {w' : List ri_E} (hx : p.tables.exec = Jvm.exec) (hb : c.code = cc) (hK : va_K D cl (ri_tys cA tyL) s) (hP : ri_P D cl ad cA w H) (hw9 : w.length ≤ 1000000) (hi9 : ri_inj ad) (hS9 : va_S (ri_A ad) H0 H locs) (hd : decode cc pc = .ok (.dastore, 1)) (h : ri_ast tyL ri_gD st w = some (st', w'))
    (k : ∀ (H1 : Heap) (locs1 : List Loc), ri_P D cl ad cA w' H1 → va_S (ri_A ad) H0 H1 locs1 → H1.size = H.size → W p l e R s m args below meth c H1 locs1 cells slots Q (F0 m (pc + 1) ls (st'.map (ri_v ad)))) : W p l e R s m args below meth c H locs cells slots Q (F0 m pc ls (st.map (ri_v ad))) := by
  obtain ⟨i, q, t, vs, x, v, t9, rfl, hq, ht, hg, h0, hl, rfl⟩ := ri_ast_eq h
  obtain ⟨a1, a2, a3⟩ := ri_arr_at hK hP hq ht
  cases t9 with
  | double => cases x with
    | double y => cases hg; exact W.dast hx hb a1 a2 a3 (ri_in2 h0 hl) rfl rfl hd (ri_stored (v := .double y) hP hi9 hS9 hl hw9 (Nat.lt_of_lt_of_le (List.getElem?_eq_some_iff.mp hq).1 hw9) k)
    | _ => cases hg
  | _ => cases hg
theorem ri_nar_v {t : FieldType} (ht : t = .byte ∨ t = .boolean) (y : Int32) : ri_v ad (narrow t (.int y)) = narrow t (.int y) := by
  rcases ht with rfl | rfl <;> rfl
theorem ri_bast_ok {st st' : List Value} {w' : List ri_E} (hx : p.tables.exec = Jvm.exec) (hb : c.code = cc) (hK : va_K D cl (ri_tys cA tyL) s) (hP : ri_P D cl ad cA w H) (hw9 : w.length ≤ 1000000) (hi9 : ri_inj ad) (hS9 : va_S (ri_A ad) H0 H locs) (hd : decode cc pc = .ok (.bastore, 1)) (h : ri_ast tyL ri_gB st w = some (st', w'))
    (k : ∀ (H1 : Heap) (locs1 : List Loc), ri_P D cl ad cA w' H1 → va_S (ri_A ad) H0 H1 locs1 → H1.size = H.size → W p l e R s m args below meth c H1 locs1 cells slots Q (F0 m (pc + 1) ls (st'.map (ri_v ad)))) : W p l e R s m args below meth c H locs cells slots Q (F0 m pc ls (st.map (ri_v ad))) := by
  obtain ⟨i, q, t, vs, x, v, t9, rfl, hq, ht, hg, h0, hl, rfl⟩ := ri_ast_eq h
  obtain ⟨a1, a2, a3⟩ := ri_arr_at hK hP hq ht
  cases t9 with
  | byte => cases x with
    | int y =>
      cases hg
      refine W.bast hx hb a1 a2 a3 (ri_in2 h0 hl) rfl rfl hd ?_
      have h9 := ri_stored (t := t) (v := narrow .byte (.int y)) (p := p) (l := l) (e := e) (R := R) (s := s) (m := m) (args := args) (below := below) (meth := meth) (c := c) (cells := cells) (slots := slots) (Q := Q) (ls := ls) hP hi9 hS9 hl hw9 (Nat.lt_of_lt_of_le (List.getElem?_eq_some_iff.mp hq).1 hw9) k
      rw [ri_nar_v (Or.inl rfl)] at h9
      exact h9
    | _ => cases hg
  | boolean => cases x with
    | int y =>
      cases hg
      refine W.zast hx hb a1 a2 a3 (ri_in2 h0 hl) rfl rfl hd ?_
      have h9 := ri_stored (t := t) (v := narrow .boolean (.int y)) (p := p) (l := l) (e := e) (R := R) (s := s) (m := m) (args := args) (below := below) (meth := meth) (c := c) (cells := cells) (slots := slots) (Q := Q) (ls := ls) hP hi9 hS9 hl hw9 (Nat.lt_of_lt_of_le (List.getElem?_eq_some_iff.mp hq).1 hw9) k
      rw [ri_nar_v (Or.inr rfl)] at h9
      exact h9
    | _ => cases hg
  | _ => cases hg
end RIA
end
section
/-! ===== the reckoner, part 4: new cells, references in arrays, arraycopy ===== -/
section RIN
variable {p : Program} {l : Launch} {e : Env} {R : Room} {s : State} {m : MethodId} {args : Array Value} {below : List Frame} {meth : Method} {c : Code} {H : Heap} {locs : List Loc} {cells slots : Nat} {Q : State → Prop}
variable {cc : ByteArray} {pc : Nat} {ls : Array Slot} {ad : Nat → Nat} {cA : Nat → ClassId} {tyL : List FieldType} {D : va_G} {cl : List vw_C} {ty : Nat → Nat → FieldType} {WG : List Jvm.Cond} {own : String} {w : List ri_E} {H0 : Heap}
theorem ri_S_new {A : Nat → Prop} {H1 : Heap} (h : va_S A H0 H locs) (hz : H.size ≤ H1.size) (oq : ∀ z : Nat, z < H.size → H1[z]? = H[z]?) : va_S A H0 H1 locs := ⟨Nat.le_trans h.1 hz, fun q h1 h2 => (oq q (Nat.lt_of_lt_of_le h1 h.1)).trans (h.2.1 q h1 h2), h.2.2⟩
theorem ri_v_default (ad : Nat → Nat) {t : FieldType} (ht : t ≠ .float) : ri_v ad (defaultValue t) = defaultValue t := by cases t <;> first | rfl | exact absurd rfl ht
theorem ri_new_ok {a idx N : Nat} {st fs : List Value} (hx : p.tables.exec = Jvm.exec) (hb : c.code = cc) (hown : s.vm.findClass own = some m.cls) (hts : ∀ x ∈ WG, x.before args s = true) (hK : va_K D cl (ri_tys cA tyL) s) (hC : ri_clok WG cl ty) (hP : ri_P D cl ad cA w H) (hS9 : va_S (ri_A ad) H0 H locs) (hn : ri_nx ad w.length H.size) (hlt9 : w.length < 1000000)
    {r : vw_C} (hr : cl[a]? = some r) (hN : r.2.2 = N) (hw : Jvm.Cond.classLink own idx r.1 ∈ WG) (hfs : ∀ j, j < N → fs.getD j .null = defaultValue (ty a j) ∧ ty a j ≠ .float) (hcells : cells + 1 ≤ R.cells) (hslots : slots + N ≤ R.slots) (hd : decode cc pc = .ok (.new idx, 3))
    (k : ∀ H1 : Heap, ri_P D cl ad cA (w ++ [.inr (a, fs)]) H1 → va_S (ri_A ad) H0 H1 locs → ri_nx ad (w ++ [(Sum.inr (a, fs) : ri_E)]).length H1.size → W p l e R s m args below meth c H1 locs (cells + 1) (slots + N) Q (F0 m (pc + 3) ls ((.ref w.length :: st).map (ri_v ad)))) : W p l e R s m args below meth c H locs cells slots Q (F0 m pc ls (st.map (ri_v ad))) := by
  subst hN
  obtain ⟨h1, h2, h3, h4, h5⟩ := hC a _ hr
  have hKn := hK.1 a _ hr
  refine W.newcK hx hb hown (hts _ hw) (hts _ h4) (hts _ h5) rfl hd hcells hslots hKn.2.1 rfl fun H1 kC hkC e1 z1 o1 => ?_
  have hh : ad w.length = H.size := hn.here hlt9
  have e : (F0 m (pc + 3) ls ((.ref w.length :: st).map (ri_v ad))) = { F0 m pc ls (st.map (ri_v ad)) with pc := pc + 3, stack := .ref H.size :: (st.map (ri_v ad)) } := by
    rw [← hh]; rfl
  refine W.eq e.symm (k H1 (hP.push ⟨_, hr, ?_⟩ o1) (ri_S_new hS9 (by omega) o1) ?_)
  · rw [hh]
    exact (u_born (ty a) hts h1 hKn hkC e1 h2).to (fun j hj => by rw [ri_f, (hfs j hj).1, ri_v_default ad (hfs j hj).2])
  · rw [z1, List.length_append]
    exact hn.succ
noncomputable def ri_newa (t : Nat) (d : Value) (st : List Value) (w : List ri_E) : Option (Nat × List Value × List ri_E) := match st with
  | .int n :: r => ri_ok (!decide (n < 0) && Nat.ble n.toNatClampNeg 60000000) (some (n.toNatClampNeg, .ref w.length :: r, w ++ [.inl (t, List.replicate n.toNatClampNeg d)]))
  | _ => none
theorem ri_newa_eq {t N : Nat} {d : Value} {st st' : List Value} {w' : List ri_E} (h : ri_newa t d st w = some (N, st', w')) : ∃ (n : Int32) (r : List Value), st = .int n :: r ∧ ¬ n < 0 ∧ n.toNatClampNeg = N ∧ N ≤ 60000000 ∧ st' = .ref w.length :: r ∧ w' = w ++ [.inl (t, List.replicate N d)] := by
  unfold ri_newa at h
  split at h
  · rename_i n r
    obtain ⟨hb, h2⟩ := ri_ok_eq h
    obtain ⟨b1, b2⟩ := (Bool.and_eq_true _ _ ▸ hb : (!decide (n < 0)) = true ∧ Nat.ble n.toNatClampNeg 60000000 = true)
    have e := Option.some.inj h2
    have e1 : n.toNatClampNeg = N := congrArg Prod.fst e
    have e2 : (.ref w.length :: r : List Value) = st' := congrArg (fun x => x.2.1) e
    have e3 : w ++ [.inl (t, List.replicate n.toNatClampNeg d)] = w' := congrArg (fun x => x.2.2) e
    exact ⟨n, r, rfl, by simpa using b1, e1, by rw [← e1]; exact Nat.le_of_ble_eq_true b2, e2.symm, by rw [← e3, e1]⟩
  · cases h
theorem ri_f_rep {N : Nat} {d : Value} (hd : ri_v ad d = d) (cc9 : ClassId) : arrV cc9 N (fun _ => d) = arrV cc9 (List.replicate N d).length (ri_f ad (List.replicate N d)) := by
  rw [List.length_replicate]
  unfold arrV
  congr 1
  apply Array.ext
  · simp
  · intro i h1 h2
    have h3 : i < N := by simpa using h1
    simp [ri_f, h3, hd]
theorem ri_newa_ok {t N : Nat} {atype : ArrayType} {t9 : FieldType} {st st' : List Value} {w' : List ri_E} (hx : p.tables.exec = Jvm.exec) (hb : c.code = cc) (hts : ∀ x ∈ WG, x.before args s = true) (hK : va_K D cl (ri_tys cA tyL) s) (hP : ri_P D cl ad cA w H) (hS9 : va_S (ri_A ad) H0 H locs) (hn : ri_nx ad w.length H.size) (hlt9 : w.length < 1000000)
    (ht : tyL[t]? = some t9) (hty : newarray.typeOf atype = t9) (hnf : t9 ≠ .float) (hw : Jvm.Cond.arrayClass t9 ∈ WG) (hcells : cells + 1 ≤ R.cells) (hslots : slots + N ≤ R.slots) (hd : decode cc pc = .ok (.newarray atype, 2)) (h : ri_newa t (defaultValue t9) st w = some (N, st', w'))
    (k : ∀ H1 : Heap, ri_P D cl ad cA w' H1 → va_S (ri_A ad) H0 H1 locs → ri_nx ad w'.length H1.size → W p l e R s m args below meth c H1 locs (cells + 1) (slots + N) Q (F0 m (pc + 2) ls (st'.map (ri_v ad)))) : W p l e R s m args below meth c H locs cells slots Q (F0 m pc ls (st.map (ri_v ad))) := by
  obtain ⟨n, r, rfl, h0, hN, hle, rfl, rfl⟩ := ri_newa_eq h
  subst hty
  have hbytes : N * componentBytes (newarray.typeOf atype) ≤ 536870912 := by
    cases atype <;> simp [newarray.typeOf, componentBytes] <;> omega
  refine va_newaK hx hb (hts _ hw) rfl hd rfl h0 hN hbytes hcells hslots rfl fun H1 cA9 e1 z1 o1 hAr hNm => ?_
  have hcA : cA9 = cA t := by
    have h9 := (hK.2 t _ (ri_tys_at ht)).2
    have h8 : s.vm.findClass ("[" ++ (newarray.typeOf atype).toString) = some (cA t) := by cases atype <;> exact h9
    exact Option.some.inj (hNm.symm.trans h8)
  have hh : ad w.length = H.size := hn.here hlt9
  have e : (F0 m (pc + 2) ls ((.ref w.length :: r).map (ri_v ad))) = { F0 m pc ls ((.int n :: r).map (ri_v ad)) with pc := pc + 2, stack := .ref H.size :: (r.map (ri_v ad)) } := by
    rw [← hh]; rfl
  refine W.eq e.symm (k H1 (hP.push ?_ o1) (ri_S_new hS9 (by omega) o1) ?_)
  · show H1[ad w.length]? = some (arrV (cA t) (List.replicate N _).length (ri_f ad (List.replicate N _)))
    rw [hh, e1, hcA, ri_f_rep (ri_v_default ad hnf)]
  · rw [z1, List.length_append]
    exact hn.succ
theorem ri_newq_ok {t N idx : Nat} {C : String} {st st' : List Value} {w' : List ri_E} (hx : p.tables.exec = Jvm.exec) (hb : c.code = cc) (hown : s.vm.findClass own = some m.cls) (hts : ∀ x ∈ WG, x.before args s = true) (hover : va_AO C s) (hK : va_K D cl (ri_tys cA tyL) s) (hP : ri_P D cl ad cA w H) (hS9 : va_S (ri_A ad) H0 H locs) (hn : ri_nx ad w.length H.size) (hlt9 : w.length < 1000000)
    (ht : tyL[t]? = some (.object C)) (hw : Jvm.Cond.classLink own idx C ∈ WG) (hcells : cells + 1 ≤ R.cells) (hslots : slots + N ≤ R.slots) (hd : decode cc pc = .ok (.anewarray idx, 3)) (h : ri_newa t .null st w = some (N, st', w'))
    (k : ∀ H1 : Heap, ri_P D cl ad cA w' H1 → va_S (ri_A ad) H0 H1 locs → ri_nx ad w'.length H1.size → W p l e R s m args below meth c H1 locs (cells + 1) (slots + N) Q (F0 m (pc + 3) ls (st'.map (ri_v ad)))) : W p l e R s m args below meth c H locs cells slots Q (F0 m pc ls (st.map (ri_v ad))) := by
  obtain ⟨n, r, rfl, h0, hN, hle, rfl, rfl⟩ := ri_newa_eq h
  refine W.anew hx hb hown (hts _ hw) (va_AO.use hover) rfl hd rfl h0 (by rw [hN]; omega) hcells (by rw [hN]; exact hslots) fun cA9 kA comp g1 g2 g3 g4 => ?_
  have hcA : cA9 = cA t := by
    obtain ⟨kA2, comp2, q1, q2, q3, q4⟩ := (hK.2 t _ (ri_tys_at ht)).2
    exact Option.some.inj (g1.symm.trans q4)
  have hh : ad w.length = H.size := hn.here hlt9
  have e : (F0 m (pc + 3) ls ((.ref w.length :: r).map (ri_v ad))) = { F0 m pc ls ((.int n :: r).map (ri_v ad)) with pc := pc + 3, stack := .ref H.size :: (r.map (ri_v ad)) } := by
    rw [← hh]; rfl
  rw [hN]
  have o1 : ∀ z : Nat, z < H.size → (H.push { cls := cA9, slots := Array.replicate N .null, vm := .none } : Heap)[z]? = H[z]? := fun z hz => by rw [Array.getElem?_push, if_neg (Nat.ne_of_lt hz)]
  refine W.eq e.symm (k _ (hP.push ?_ o1) (ri_S_new hS9 (by simp) o1) ?_)
  · show (H.push { cls := cA9, slots := Array.replicate N .null, vm := .none } : Heap)[ad w.length]? = some (arrV (cA t) (List.replicate N _).length (ri_f ad (List.replicate N _)))
    rw [hh, ← ri_f_rep rfl, ← arrV_new, hcA]
    simp
  · rw [List.length_append, Array.size_push]
    exact hn.succ
/-- a reference into an array of references: a the object's kind, b the array's type -/
noncomputable def ri_aast (a b : Nat) (st : List Value) (w : List ri_E) : Option (List Value × List ri_E) := match st with
  | .ref v :: .int i :: .ref q :: r => (match ri_nth w q with
    | some (.inl x) => (match ri_nth w v with
      | some (.inr y) => ri_ok (Nat.beq x.1 b && (Nat.beq y.1 a && !decide (i < 0))) (match ri_nth x.2 i.toNatClampNeg with
        | some _ => some (r, ri_upd (.inl (x.1, ri_upd (.ref v) x.2 i.toNatClampNeg)) w q)
        | none => none)
      | _ => none)
    | _ => none)
  | _ => none
theorem ri_aast_eq {a b : Nat} {st st' : List Value} {w' : List ri_E} (h : ri_aast a b st w = some (st', w')) : ∃ (v q : Nat) (i : Int32) (vs fs : List Value), st = .ref v :: .int i :: .ref q :: st' ∧ w[q]? = some (.inl (b, vs)) ∧ w[v]? = some (.inr (a, fs)) ∧ ¬ i < 0 ∧ i.toNatClampNeg < vs.length ∧ w' = w.set q (.inl (b, vs.set i.toNatClampNeg (.ref v))) := by
  unfold ri_aast at h
  split at h
  · rename_i v i q r
    split at h
    · rename_i x hx
      split at h
      · rename_i y hy
        obtain ⟨hb, h2⟩ := ri_ok_eq h
        split at h2
        · rename_i u hu
          rw [ri_nth_eq] at hx hy hu
          simp only [Bool.and_eq_true] at hb
          obtain ⟨b1, b2, b3⟩ := hb
          obtain ⟨x1, x2⟩ := x
          obtain ⟨y1, y2⟩ := y
          have e1 : x1 = b := Nat.eq_of_beq_eq_true b1
          have e2 : y1 = a := Nat.eq_of_beq_eq_true b2
          rw [ri_upd_eq, ri_upd_eq] at h2
          have e3 := Option.some.inj h2
          have e4 : r = st' := congrArg Prod.fst e3
          have e5 : w.set q (.inl (x1, x2.set i.toNatClampNeg (.ref v))) = w' := congrArg Prod.snd e3
          exact ⟨v, q, i, x2, y2, by rw [e4], by rw [hx, e1], by rw [hy, e2], by simpa using b3, (List.getElem?_eq_some_iff.mp hu).1, by rw [← e5, e1]⟩
        · cases h2
      · cases h
    · cases h
  · cases h
theorem ri_aast_ok {a b : Nat} {st st' : List Value} {w' : List ri_E} (hx : p.tables.exec = Jvm.exec) (hb : c.code = cc) (hK : va_K D cl (ri_tys cA tyL) s) (hP : ri_P D cl ad cA w H) (hw9 : w.length ≤ 1000000) (hi9 : ri_inj ad) (hS9 : va_S (ri_A ad) H0 H locs) {r : vw_C} (hr : cl[a]? = some r) (ht : tyL[b]? = some (.object r.1)) (hd : decode cc pc = .ok (.aastore, 1)) (h : ri_aast a b st w = some (st', w'))
    (k : ∀ (H1 : Heap) (locs1 : List Loc), ri_P D cl ad cA w' H1 → va_S (ri_A ad) H0 H1 locs1 → H1.size = H.size → W p l e R s m args below meth c H1 locs1 cells slots Q (F0 m (pc + 1) ls (st'.map (ri_v ad)))) : W p l e R s m args below meth c H locs cells slots Q (F0 m pc ls (st.map (ri_v ad))) := by
  obtain ⟨v, q, i, vs, fs, rfl, hq, hv, h0, hl, rfl⟩ := ri_aast_eq h
  obtain ⟨r', hr', cellV, g1, g2, g3, -⟩ := hP v _ hv
  have hcls := (hK.1 a r hr).2
  obtain ⟨kA, comp, k1, k2, k3, -⟩ := (hK.2 b _ (ri_tys_at ht)).2
  have hcomp : comp = D.1 a := Option.some.inj (k3.symm.trans hcls.1)
  subst hcomp
  obtain ⟨kC, hkC, -⟩ := hcls.2
  exact W.aast hx hb (hP q _ hq) (fun q h => by cases h) (fun h => by cases h) k1 k2 rfl hkC ⟨h0, by rw [arrV_size]; exact hl⟩ g1 (fun q h => by rw [g3] at h; cases h) (by rw [g2]; exact hkC) (by rw [g2]; exact va_assign hcls) rfl rfl hd (ri_stored (v := .ref v) hP hi9 hS9 hl hw9 (Nat.lt_of_lt_of_le (List.getElem?_eq_some_iff.mp hq).1 hw9) k)
end RIN
end
section
/-! ===== the reckoner, part 4b: new double[n][m] ===== -/
/-- arrays over such a type are there -/
def ri_AO (t : FieldType) (U : State) : Prop := match t with
  | .object C => va_AO C U
  | .array t => (Cond.arrayOver (.array t)).before #[] U = true
  | _ => True
theorem ri_AO.moved {t : FieldType} {u U : State} (hvm : u.vm.Alike U.vm) (h : ri_AO t u) : ri_AO t U := by
  cases t with
  | object C => exact va_AO.moved hvm h
  | array t =>
    obtain ⟨comp, c, k, h1, h2, h3, h4, h5⟩ := arrayOver_specB (show (Cond.arrayOver (.array t)).before #[] u = true from h)
    obtain ⟨k', hk', he⟩ := hvm.2.2 _ _ h3
    have hi : (U.vm.classes.findIdx? fun (x : Class) => match x.kind with | .array component _ => component == comp | _ => false) = some c := by
      have hb9 : U.vm.bare = u.vm.bare := by first | exact hvm.bare_eq | exact hvm.bare_eq.symm
      refine (va_idx_bare U.vm comp).symm.trans ?_
      rw [hb9]
      exact (va_idx_bare u.vm comp).trans h2
    have hkind : k'.kind = .array comp (.array t) := by rw [he]; exact h4
    have f1 : U.vm.findClass (FieldType.array t).toString = some comp := by rw [hvm.findClass]; exact h1
    have f2 : U.vm.findClass ("[" ++ (FieldType.array t).toString) = some c := by rw [hvm.findClass]; exact h5
    show (Cond.arrayOver (.array t)).before #[] U = true
    unfold Cond.before Cond.holds
    simp only [Cond.value]
    rw [f1, Option.bind_some]
    refine (congrArg (fun o : Option Nat => (o.bind (fun c => (U.vm.classes[c]?).map fun (k : Class) => match k.kind with | .array _ ty => decide (ty = FieldType.array t) && decide (U.vm.findClass ("[" ++ (FieldType.array t).toString) = some c) | _ => false) == some true)) hi).trans ?_
    simp [hk', hkind, f2]
  | _ => trivial
theorem ri_inner (c : ClassId) (K : Nat) (d : Value) : Jvm.Free.Multi.innerC c K d = arrV c K (fun _ => d) := by
  unfold Jvm.Free.Multi.innerC arrV
  congr 1
  apply Array.ext
  · simp
  · intro i h1 h2
    simp
theorem ri_outer (c : ClassId) (N h0 : Nat) : ∀ i : Nat, Jvm.Free.Multi.outerC c N h0 i = arrV c N (fun j => if j < i then .ref (h0 + 1 + j) else .null)
  | 0 => by
    show ({ cls := c, slots := Array.replicate N .null, vm := .none } : Cell) = _
    rw [arrV_new]
    refine congrArg (arrV c N) (funext fun j => ?_)
    simp
  | i + 1 => by
    show (Jvm.Free.Multi.outerC c N h0 i).setSlot i (.ref (h0 + 1 + i)) = _
    rw [ri_outer c N h0 i, arrV_store]
    refine congrArg (arrV c N) (funext fun j => ?_)
    by_cases e : j = i
    · subst e
      simp [updV]
    · by_cases h : j < i
      · simp [updV, e, h, Nat.lt_succ_of_lt h]
      · simp [updV, e, h, show ¬ j < i + 1 by omega]
/-- references n, n + 1, .. -/
noncomputable def ri_refs (N : Nat) : Nat → List Value := Nat.rec (fun _ => []) (fun _ ih k => .ref k :: ih (k + 1)) N
theorem ri_refs_len : ∀ (N k : Nat), (ri_refs N k).length = N
  | 0, _ => rfl
  | N + 1, k => congrArg Nat.succ (ri_refs_len N (k + 1))
theorem ri_refs_at : ∀ (N k j : Nat), j < N → (ri_refs N k)[j]? = some (.ref (k + j))
  | 0, _, _, h => absurd h (Nat.not_lt_zero _)
  | N + 1, k, 0, _ => rfl
  | N + 1, k, j + 1, h => by
    show (ri_refs N (k + 1))[j]? = _
    rw [ri_refs_at N (k + 1) j (by omega), show k + 1 + j = k + (j + 1) by omega]
section RIM
variable {p : Program} {l : Launch} {e : Env} {R : Room} {s : State} {m : MethodId} {args : Array Value} {below : List Frame} {meth : Method} {c : Code} {H : Heap} {locs : List Loc} {cells slots : Nat} {Q : State → Prop}
variable {cc : ByteArray} {pc : Nat} {ls : Array Slot} {ad : Nat → Nat} {cA : Nat → ClassId} {tyL : List FieldType} {D : va_G} {cl : List vw_C} {WG : List Jvm.Cond} {own : String} {w : List ri_E} {H0 : Heap}
/-- a: the type of the elements, b: of the rows -/
noncomputable def ri_mna (a b : Nat) (st : List Value) (w : List ri_E) : Option (Nat × Nat × List Value × List ri_E) := match st with
  | .int k :: .int n :: r => ri_ok ((!decide (n < 0) && Nat.ble n.toNatClampNeg 100000) && (!decide (k < 0) && Nat.ble k.toNatClampNeg 100000)) (some (n.toNatClampNeg, k.toNatClampNeg, .ref w.length :: r, w ++ .inl (b, ri_refs n.toNatClampNeg (w.length + 1)) :: List.replicate n.toNatClampNeg (.inl (a, List.replicate k.toNatClampNeg (.double 0)))))
  | _ => none
theorem ri_mna_eq {a b N K : Nat} {st st' : List Value} {w' : List ri_E} (h : ri_mna a b st w = some (N, K, st', w')) : ∃ (n k : Int32) (r : List Value), st = .int k :: .int n :: r ∧ ¬ n < 0 ∧ ¬ k < 0 ∧ n.toNatClampNeg = N ∧ k.toNatClampNeg = K ∧ N ≤ 100000 ∧ K ≤ 100000 ∧ st' = .ref w.length :: r ∧ w' = w ++ .inl (b, ri_refs N (w.length + 1)) :: List.replicate N (.inl (a, List.replicate K (.double 0))) := by
  unfold ri_mna at h
  split at h
  · rename_i k n r
    obtain ⟨hb, h2⟩ := ri_ok_eq h
    simp only [Bool.and_eq_true] at hb
    obtain ⟨⟨b1, b2⟩, b3, b4⟩ := hb
    cases h2
    exact ⟨n, k, r, rfl, by simpa using b1, by simpa using b3, rfl, rfl, Nat.le_of_ble_eq_true b2, Nat.le_of_ble_eq_true b4, rfl, rfl⟩
  · cases h
theorem ri_mna_len {a b N K : Nat} {st st' : List Value} {w' : List ri_E} (h : ri_mna a b st w = some (N, K, st', w')) : w'.length = w.length + (1 + N) := by
  obtain ⟨n, k, r, -, -, -, -, -, -, -, -, e9⟩ := ri_mna_eq h
  rw [e9, List.length_append, List.length_cons, List.length_replicate, Nat.add_comm N 1]
theorem ri_mna_ok {a b N K idx : Nat} {st st' : List Value} {w' : List ri_E} (hx : p.tables.exec = Jvm.exec) (hb : c.code = cc) (hown : s.vm.findClass own = some m.cls) (hts : ∀ x ∈ WG, x.before args s = true) (hover : ri_AO (.array .double) s) (hK : va_K D cl (ri_tys cA tyL) s) (hP : ri_P D cl ad cA w H) (hS9 : va_S (ri_A ad) H0 H locs) (hn : ri_nx ad w.length H.size) (hlt9 : w'.length ≤ 1000000)
    (hta : tyL[a]? = some .double) (htb : tyL[b]? = some (.array .double)) (hw : Jvm.Cond.classLink own idx "[[D" ∈ WG) (hwa : Jvm.Cond.arrayClass .double ∈ WG) (hcells : cells + (1 + N) ≤ R.cells) (hslots : slots + (N + N * K) ≤ R.slots) (hd : decode cc pc = .ok (.multianewarray idx 2, 4)) (h : ri_mna a b st w = some (N, K, st', w'))
    (k : ∀ H1 : Heap, ri_P D cl ad cA w' H1 → va_S (ri_A ad) H0 H1 locs → ri_nx ad w'.length H1.size → W p l e R s m args below meth c H1 locs (cells + (1 + N)) (slots + (N + N * K)) Q (F0 m (pc + 4) ls (st'.map (ri_v ad)))) : W p l e R s m args below meth c H locs cells slots Q (F0 m pc ls (st.map (ri_v ad))) := by
  have hlen := ri_mna_len h
  rw [hlen] at hlt9
  obtain ⟨n, k9, r, rfl, h0, h1, hN, hK9, hle, hle2, rfl, rfl⟩ := ri_mna_eq h
  subst hN
  subst hK9
  intro T hT Xs
  obtain ⟨vm₁, cA9, comp, -, fA, fC, -, -, X', step⟩ := Xs.multianewarray2F (ty := .double) hx hown (hts _ hw) (show (Cond.arrayOver (.array .double)).before args s = true from hover) (hts _ hwa) (g := F0 m pc ls ((.int k9 :: .int n :: r).map (ri_v ad))) rfl (by rw [hb]; exact hd) (rest := r.map (ri_v ad)) rfl h0 h1 (by omega) (by simp [componentBytes]; omega) (by omega) rfl rfl hcells hslots
  have ea : cA9 = cA b := Option.some.inj (fA.symm.trans (hK.2 b _ (ri_tys_at htb)).2)
  have ec : comp = cA a := Option.some.inj (fC.symm.trans (hK.2 a _ (ri_tys_at hta)).2)
  subst ea
  subst ec
  generalize hF : Jvm.Free.Multi.fill (T.setVm vm₁) (cA b) (cA a) n.toNatClampNeg k9.toNatClampNeg (defaultValue .double) n.toNatClampNeg = F at X' step
  have hTh : (T.setVm vm₁).heap = H := hT
  obtain ⟨f1, f2, -, -⟩ := Jvm.Free.Multi.fill_facts (T.setVm vm₁) (cA b) (cA a) n.toNatClampNeg k9.toNatClampNeg (defaultValue .double) n.toNatClampNeg
  rw [hF, hTh] at f1 f2
  have hold : ∀ x : Nat, x < H.size → F.heap[x]? = H[x]? := fun x hx => by
    have := Jvm.Free.Multi.fill_old (T.setVm vm₁) (cA b) (cA a) n.toNatClampNeg k9.toNatClampNeg (defaultValue .double) (a := x) (by rw [hTh]; exact hx) n.toNatClampNeg
    rw [hF, hTh] at this
    exact this
  have hrow : ∀ j : Nat, j < n.toNatClampNeg → F.heap[H.size + 1 + j]? = some (arrV (cA a) k9.toNatClampNeg (fun _ => .double 0)) := fun j hj => by
    have := Jvm.Free.Multi.fill_inner (T.setVm vm₁) (cA b) (cA a) n.toNatClampNeg k9.toNatClampNeg (defaultValue .double) n.toNatClampNeg j hj
    rw [hF, hTh, ri_inner] at this
    exact this
  have hP1 : ri_P D cl ad cA (w ++ .inl (b, ri_refs n.toNatClampNeg (w.length + 1)) :: List.replicate n.toNatClampNeg (.inl (a, List.replicate k9.toNatClampNeg (.double 0)))) F.heap := by
    intro i y hi
    by_cases hl : i < w.length
    · rw [List.getElem?_append_left hl] at hi
      exact (hP i y hi).kept (hold _ (hP i y hi).lt)
    · rw [List.getElem?_append_right (by omega)] at hi
      have hi9 : i < 1000000 := by
        have q := (List.getElem?_eq_some_iff.mp hi).1
        simp only [List.length_cons, List.length_replicate] at q
        omega
      have had : ad i = H.size + (i - w.length) := hn i (by omega) hi9
      generalize hj : i - w.length = j at hi had
      cases j with
      | zero =>
        cases hi
        show F.heap[ad i]? = some (arrV (cA b) (ri_refs n.toNatClampNeg (w.length + 1)).length (ri_f ad (ri_refs n.toNatClampNeg (w.length + 1))))
        rw [had, Nat.add_zero, f2, ri_outer, ri_refs_len]
        congr 1
        unfold arrV
        congr 1
        apply Array.ext
        · simp
        · intro q q1 q2
          have q3 : q < n.toNatClampNeg := by simpa using q1
          have q4 : ad (w.length + 1 + q) = H.size + 1 + q := by rw [hn _ (by omega) (by omega)]; omega
          have q5 : ri_f ad (ri_refs n.toNatClampNeg (w.length + 1)) q = .ref (H.size + 1 + q) := by
            rw [ri_f_at (ri_refs_at _ _ _ q3), ← q4]; rfl
          simp [q3, q5]
      | succ j =>
        have hi2 : (List.replicate n.toNatClampNeg (.inl (a, List.replicate k9.toNatClampNeg (.double 0))) : List ri_E)[j]? = some y := hi
        have hj2 : j < n.toNatClampNeg := by have := (List.getElem?_eq_some_iff.mp hi2).1; rwa [List.length_replicate] at this
        rw [List.getElem?_replicate, if_pos hj2] at hi2
        cases hi2
        show F.heap[ad i]? = some (arrV (cA a) (List.replicate k9.toNatClampNeg (Value.double 0)).length (ri_f ad (List.replicate k9.toNatClampNeg (Value.double 0))))
        rw [had, show H.size + (j + 1) = H.size + 1 + j by omega, hrow j hj2, ri_f_rep rfl]
  obtain ⟨t, a1, b1⟩ := k F.heap hP1 ⟨by rw [f1]; have := hS9.1; omega, fun x h1 h2 => (hold x (Nat.lt_of_lt_of_le h1 hS9.1)).trans (hS9.2.1 x h1 h2), hS9.2.2⟩ (fun j hj hj9 => by rw [hlen] at hj ⊢; rw [hn j (by omega) hj9, f1]; omega) F rfl (by rw [← Nat.add_assoc, ← Nat.add_assoc]; exact X')
  refine ⟨t, step t ?_, b1⟩
  have e9 : (F0 m (pc + 4) ls ((.ref w.length :: r).map (ri_v ad))) = { F0 m pc ls ((.int k9 :: .int n :: r).map (ri_v ad)) with pc := pc + 4, stack := .ref T.heap.size :: (r.map (ri_v ad)) } := by
    rw [hT, ← hn.here (by omega)]; rfl
  rw [← e9]
  exact a1
end RIM
end
section
/-! ===== the reckoner, part 4c: an int that isn't known into an array of bytes ===== -/
def ri_gU (fr : Nat) (t : FieldType) (x : Value) : Option Value := match t with
  | .byte => (match x with | .float _ => some (.float (UInt32.ofNat fr)) | _ => none)
  | _ => none
def ri_top (st : List Value) : Value := match st with
  | x :: _ => x
  | [] => .null
section RIB
variable {p : Program} {l : Launch} {e : Env} {R : Room} {s : State} {m : MethodId} {args : Array Value} {below : List Frame} {meth : Method} {c : Code} {H : Heap} {locs : List Loc} {cells slots : Nat} {Q : State → Prop}
variable {cc : ByteArray} {pc : Nat} {ls : Array Slot} {ad : Nat → Nat} {cA : Nat → ClassId} {tyL : List FieldType} {D : va_G} {cl : List vw_C} {w : List ri_E} {H0 : Heap}
theorem ri_bsy_ok {fr : Nat} {st st' : List Value} {w' : List ri_E} (hx : p.tables.exec = Jvm.exec) (hb : c.code = cc) (hK : va_K D cl (ri_tys cA tyL) s) (hP : ri_P D cl ad cA w H) (hw9 : w.length ≤ 1000000) (hi9 : ri_inj ad) (hS9 : va_S (ri_A ad) H0 H locs) (hd : decode cc pc = .ok (.bastore, 1)) (h : ri_ast tyL (ri_gU fr) st w = some (st', w')) (hsem : ri_sem ad (.i2b, ri_top st, .int 0, fr, true))
    (k : ∀ (H1 : Heap) (locs1 : List Loc), ri_P D cl ad cA w' H1 → va_S (ri_A ad) H0 H1 locs1 → H1.size = H.size → W p l e R s m args below meth c H1 locs1 cells slots Q (F0 m (pc + 1) ls (st'.map (ri_v ad)))) : W p l e R s m args below meth c H locs cells slots Q (F0 m pc ls (st.map (ri_v ad))) := by
  obtain ⟨i, q, t, vs, x, v, t9, rfl, hq, ht, hg, h0, hl, rfl⟩ := ri_ast_eq h
  obtain ⟨a1, a2, a3⟩ := ri_arr_at hK hP hq ht
  cases t9 with
  | byte => cases x with
    | float y =>
      cases hg
      have e1 : ri_op1 .i2b (ri_I ad (.float y)) = some (ri_sy ad fr) := hsem
      have e2 : (ri_I ad (.float y)).toInt8.toInt32 = ri_I ad (.float (UInt32.ofNat fr)) := Option.some.inj e1
      refine W.bast (x := ri_I ad (.float y)) hx hb a1 a2 a3 (ri_in2 h0 hl) rfl rfl hd ?_
      have h9 := ri_stored (t := t) (v := .float (UInt32.ofNat fr)) (p := p) (l := l) (e := e) (R := R) (s := s) (m := m) (args := args) (below := below) (meth := meth) (c := c) (cells := cells) (slots := slots) (Q := Q) (ls := ls) hP hi9 hS9 hl hw9 (Nat.lt_of_lt_of_le (List.getElem?_eq_some_iff.mp hq).1 hw9) k
      have e3 : ri_v ad (.float (UInt32.ofNat fr)) = narrow .byte (.int (ri_I ad (.float y))) := by
        show Value.int (ri_I ad (.float (UInt32.ofNat fr))) = _
        rw [← e2]
        rfl
      rw [e3] at h9
      exact h9
    | _ => cases hg
  | _ => cases hg
end RIB
end
section
/-! ===== the reckoner, part 5: System.arraycopy, new T[n][m] ===== -/
/-- n elements of s from sp on, laid into d from dp on -/
def ri_cpy (s d : List Value) (sp dp n : Nat) : List Value := d.take dp ++ ((s.drop sp).take n ++ d.drop (dp + n))
theorem ri_cpy_len {s d : List Value} {sp dp n : Nat} (h1 : sp + n ≤ s.length) (h2 : dp + n ≤ d.length) : (ri_cpy s d sp dp n).length = d.length := by
  simp only [ri_cpy, List.length_append, List.length_take, List.length_drop]
  omega
theorem ri_cpy_at {s d : List Value} {sp dp n : Nat} (h1 : sp + n ≤ s.length) (h2 : dp + n ≤ d.length) (k : Nat) : (ri_cpy s d sp dp n)[k]? = if dp ≤ k ∧ k < dp + n then s[sp + (k - dp)]? else d[k]? := by
  unfold ri_cpy
  have l1 : (d.take dp).length = dp := by rw [List.length_take]; omega
  have l2 : ((s.drop sp).take n).length = n := by rw [List.length_take, List.length_drop]; omega
  by_cases ha : k < dp
  · rw [List.getElem?_append_left (by omega), if_neg (by omega), List.getElem?_take, if_pos ha]
  · rw [List.getElem?_append_right (by omega), l1]
    by_cases hb : k < dp + n
    · rw [List.getElem?_append_left (by omega), if_pos ⟨by omega, hb⟩, List.getElem?_take, if_pos (by omega), List.getElem?_drop]
    · rw [List.getElem?_append_right (by omega), if_neg (by omega), l2, List.getElem?_drop]
      congr 1
      omega
theorem ri_cpy_f {ad : Nat → Nat} {s d : List Value} {sp dp n : Nat} (h1 : sp + n ≤ s.length) (h2 : dp + n ≤ d.length) : va_cpy (ri_f ad s) (ri_f ad d) sp dp n = ri_f ad (ri_cpy s d sp dp n) := by
  funext k
  simp only [va_cpy, ri_f, List.getD_eq_getElem?_getD, ri_cpy_at h1 h2]
  by_cases h : dp ≤ k ∧ k < dp + n
  · rw [if_pos h, if_pos h]
  · rw [if_neg h, if_neg h]
/-- an element that an array of this type may hold -/
def ri_ft (t : FieldType) (v : Value) : Bool := match t with
  | .int => (match v with | .int _ => true | .float _ => true | _ => false)
  | .long => (match v with | .long _ => true | _ => false)
  | .double => (match v with | .double _ => true | _ => false)
  | .boolean => (match v with | .int x => fits .boolean (.int x) | _ => false)
  | .byte => (match v with | .int x => fits .byte (.int x) | _ => false)
  | _ => false
theorem ri_ft_ok {ad : Nat → Nat} {t : FieldType} {v : Value} (h : ri_ft t v = true) : fits t (ri_v ad v) = true ∧ ∀ z : Nat, v ≠ .ref z := by
  cases t <;> first | (cases h; done) | (cases v <;> first | (cases h; done) | exact ⟨h, fun z q => by cases q⟩ | exact ⟨rfl, fun z q => by cases q⟩)
noncomputable def ri_acopy (tyL : List FieldType) (bud : Nat) (st : List Value) (w : List ri_E) : Option (List Value × List ri_E) := match st with
  | .int n :: .int dp :: .ref q1 :: .int sp :: .ref q0 :: r => (match ri_nth w q0 with
    | some (.inl a0) => (match ri_nth w q1 with
      | some (.inl a1) => (match ri_nth tyL a0.1 with
        | some t => ri_ok (Nat.beq a0.1 a1.1 && (!refKind t && (!decide (sp < 0) && (!decide (dp < 0) && (!decide (n < 0) && (Nat.ble (sp.toNatClampNeg + n.toNatClampNeg) a0.2.length && (Nat.ble (dp.toNatClampNeg + n.toNatClampNeg) a1.2.length && (((a0.2.drop sp.toNatClampNeg).take n.toNatClampNeg).all (ri_ft t) && Nat.ble ((r.map fun v => v.category).sum + 18) bud))))))))
          (some (r, ri_upd (.inl (a1.1, ri_cpy a0.2 a1.2 sp.toNatClampNeg dp.toNatClampNeg n.toNatClampNeg)) w q1))
        | none => none)
      | _ => none)
    | _ => none)
  | _ => none
theorem ri_acopy_eq {tyL : List FieldType} {bud : Nat} {st st' : List Value} {w w' : List ri_E} (h : ri_acopy tyL bud st w = some (st', w')) : ∃ (n dp sp : Int32) (q1 q0 t0 : Nat) (v0 v1 : List Value) (t : FieldType), st = .int n :: .int dp :: .ref q1 :: .int sp :: .ref q0 :: st' ∧ w[q0]? = some (.inl (t0, v0)) ∧ w[q1]? = some (.inl (t0, v1)) ∧ tyL[t0]? = some t ∧ refKind t = false ∧ ¬ sp < 0 ∧ ¬ dp < 0 ∧ ¬ n < 0 ∧
    sp.toNatClampNeg + n.toNatClampNeg ≤ v0.length ∧ dp.toNatClampNeg + n.toNatClampNeg ≤ v1.length ∧ ((v0.drop sp.toNatClampNeg).take n.toNatClampNeg).all (ri_ft t) = true ∧ (st'.map fun v => v.category).sum + 18 ≤ bud ∧ w' = w.set q1 (.inl (t0, ri_cpy v0 v1 sp.toNatClampNeg dp.toNatClampNeg n.toNatClampNeg)) := by
  unfold ri_acopy at h
  split at h
  · rename_i n dp q1 sp q0 r
    split at h
    · rename_i a0 h0
      split at h
      · rename_i a1 h1
        split at h
        · rename_i t ht
          obtain ⟨hb, h2⟩ := ri_ok_eq h
          rw [ri_nth_eq] at h0 h1 ht
          simp only [Bool.and_eq_true] at hb
          obtain ⟨b1, b2, b3, b4, b5, b6, b7, b8, b9⟩ := hb
          obtain ⟨x1, x2⟩ := a0
          obtain ⟨y1, y2⟩ := a1
          have e1 : x1 = y1 := Nat.eq_of_beq_eq_true b1
          rw [ri_upd_eq] at h2
          have e3 := Option.some.inj h2
          have e4 : r = st' := congrArg Prod.fst e3
          have e5 : w.set q1 (.inl (y1, ri_cpy x2 y2 sp.toNatClampNeg dp.toNatClampNeg n.toNatClampNeg)) = w' := congrArg Prod.snd e3
          exact ⟨n, dp, sp, q1, q0, x1, x2, y2, t, by rw [e4], h0, by rw [h1, e1], ht, by simpa using b2, by simpa using b3, by simpa using b4, by simpa using b5, Nat.le_of_ble_eq_true b6, Nat.le_of_ble_eq_true b7, b8, by rw [← e4]; exact Nat.le_of_ble_eq_true b9, by rw [← e5, e1]⟩
        · cases h
      · cases h
    · cases h
  · cases h
section RIK
variable {p : Program} {l : Launch} {e : Env} {R : Room} {s : State} {m : MethodId} {args : Array Value} {below : List Frame} {meth : Method} {c : Code} {H : Heap} {locs : List Loc} {cells slots : Nat} {Q : State → Prop}
variable {cc : ByteArray} {pc : Nat} {ls : Array Slot} {ad : Nat → Nat} {cA : Nat → ClassId} {tyL : List FieldType} {D : va_G} {cl : List vw_C} {ty : Nat → Nat → FieldType} {WG : List Jvm.Cond} {own : String} {w : List ri_E} {H0 : Heap}
theorem ri_nn {z : Int32} (hz : ¬ z < 0) : z.toInt = (z.toNatClampNeg : Int) := by
  have hz0 : (0 : Int) ≤ z.toInt := by
    have := Int32.not_lt.mp hz
    simpa using Int32.le_iff_toInt_le.mp this
  show z.toInt = ((z.toInt.toNat : Nat) : Int)
  omega
theorem ri_acopy_ok {idx bud : Nat} {st st' : List Value} {w' : List ri_E} (hx : p.tables.exec = Jvm.exec) (hb : c.code = cc) (hml : c.maxLocals = ls.size) (hown : s.vm.findClass own = some m.cls) (hts : ∀ x ∈ WG, x.before args s = true) (hw : Jvm.Cond.methodLink own idx arraycopyName ∈ WG) (hw1 : Jvm.Cond.native arraycopyName ∈ WG) (hw2 : Jvm.Cond.static arraycopyName ∈ WG) (hw3 : Jvm.Cond.initialized "java/lang/System" ∈ WG)
    (hK : va_K D cl (ri_tys cA tyL) s) (hP : ri_P D cl ad cA w H) (hw9 : w.length ≤ 1000000) (hi9 : ri_inj ad) (hS9 : va_S (ri_A ad) H0 H locs) (hfr : 1 ≤ R.frames) (hbd : bud ≤ R.locals) (hd : decode cc pc = .ok (.invokestatic idx, 3)) (h : ri_acopy tyL bud st w = some (st', w'))
    (k : ∀ (H1 : Heap) (locs1 : List Loc), ri_P D cl ad cA w' H1 → va_S (ri_A ad) H0 H1 locs1 → H1.size = H.size → W p l e R s m args below meth c H1 locs1 cells slots Q (F0 m (pc + 3) ls (st'.map (ri_v ad)))) : W p l e R s m args below meth c H locs cells slots Q (F0 m pc ls (st.map (ri_v ad))) := by
  obtain ⟨n, dp, sp, q1, q0, t0, v0, v1, t, rfl, h0, h1, ht, hpr, s0, d0, n0, b0, b1, hfit, hcat, rfl⟩ := ri_acopy_eq h
  obtain ⟨a1, a2, a3⟩ := ri_arr_at hK hP h0 ht
  obtain ⟨c1, c2, c3⟩ := ri_arr_at hK hP h1 ht
  intro T hT X
  obtain ⟨-, k0, hk0, cm0, hkk0⟩ := a2
  obtain ⟨-, k1, hk1, cm1, hkk1⟩ := c2
  obtain ⟨vm', X', step⟩ := X.arraycopy hx hown (hts _ hw) (hts _ hw1) (hts _ hw2) (hts _ hw3) (src := ad q0) (dst := ad q1) (cs := arrV (cA t0) v0.length (ri_f ad v0)) (cd := arrV (cA t0) v1.length (ri_f ad v1)) (srcPos := sp) (destPos := dp) (n := n) (by rw [hT]; exact a1) (by rw [hT]; exact c1)
    (fun _ h => by cases h) (fun _ h => by cases h) (fun h => by cases h) (fun h => by cases h) hk0 hk1 hkk0 hkk1 (by simp [hpr]) s0 d0 n0
    (by rw [ri_nn s0, ri_nn n0, arrV_size]; omega)
    (by rw [ri_nn d0, ri_nn n0, arrV_size]; omega)
    (fun vm₁ _ i hi => by
      have hlt : sp.toNatClampNeg + i < v0.length := by omega
      have e9 : (arrV (cA t0) v0.length (ri_f ad v0)).slots.getD (sp.toNatClampNeg + i) .null = ri_v ad v0[sp.toNatClampNeg + i] := by
        rw [Array.getD_eq_getD_getElem?, arrV_read _ _ hlt]
        simp [ri_f, hlt]
      have hf := List.all_eq_true.mp hfit (v0[sp.toNatClampNeg + i]) (by
        refine List.mem_of_getElem? (i := i) ?_
        rw [List.getElem?_take, if_pos hi, List.getElem?_drop]
        exact List.getElem?_eq_getElem hlt)
      refine ⟨?_, ?_⟩
      · rw [e9]
        exact (ri_ft_ok hf).1
      · rw [e9]
        cases hv : v0[sp.toNatClampNeg + i] with
        | ref z => exact absurd hv ((ri_ft_ok (ad := ad) hf).2 z)
        | _ => exact trivial)
    (g := F0 m pc ls ((.int n :: .int dp :: .ref q1 :: .int sp :: .ref q0 :: st').map (ri_v ad))) rfl (by rw [hml]) (rest := st'.map (ri_v ad)) rfl (by rw [hb]; exact hd) hfr (by
      show 2 * 0 + ((st'.map (ri_v ad)).map fun v => v.category).sum + (nativeFrameWords "java/lang/System" "arraycopy" 5 + 11) ≤ R.locals
      have e8 : (st'.map (ri_v ad)).map (fun v => v.category) = st'.map (fun v => v.category) := by
        rw [List.map_map]
        exact List.map_congr_left (fun v _ => ri_v_cat ad v)
      have e7 : nativeFrameWords "java/lang/System" "arraycopy" 5 = 7 := by decide +kernel
      rw [e8, e7]
      omega)
  have e1 : copied (arrV (cA t0) v0.length (ri_f ad v0)) (arrV (cA t0) v1.length (ri_f ad v1)) sp dp n = arrV (cA t0) v1.length (va_cpy (ri_f ad v0) (ri_f ad v1) sp.toNatClampNeg dp.toNatClampNeg n.toNatClampNeg) := va_copied (fun z => z) (cA t0) (cA t0) (ri_f ad v0) (ri_f ad v1) b0
  rw [ri_cpy_f b0 b1] at e1
  rw [e1] at X' step
  have hl : ad q1 < H.size := (Array.getElem?_eq_some_iff.mp c1).1
  have hheap : ((T.setVm vm').setCell (ad q1) (arrV (cA t0) v1.length (ri_f ad (ri_cpy v0 v1 sp.toNatClampNeg dp.toNatClampNeg n.toNatClampNeg)))).heap = H.setIfInBounds (ad q1) (arrV (cA t0) v1.length (ri_f ad (ri_cpy v0 v1 sp.toNatClampNeg dp.toNatClampNeg n.toNatClampNeg))) := by rw [← hT]; rfl
  have oq : ∀ q : Nat, q ≠ ad q1 → (H.setIfInBounds (ad q1) (arrV (cA t0) v1.length (ri_f ad (ri_cpy v0 v1 sp.toNatClampNeg dp.toNatClampNeg n.toNatClampNeg))))[q]? = H[q]? := fun q hq => by simp [Array.getElem?_setIfInBounds, Ne.symm hq]
  obtain ⟨t', r1, r2⟩ := k _ _ (hP.set hi9 hw9 (q := q1) (Nat.lt_of_lt_of_le (List.getElem?_eq_some_iff.mp h1).1 hw9) (x := .inl (t0, ri_cpy v0 v1 sp.toNatClampNeg dp.toNatClampNeg n.toNatClampNeg)) (show (H.setIfInBounds (ad q1) _)[ad q1]? = some (arrV (cA t0) (ri_cpy v0 v1 sp.toNatClampNeg dp.toNatClampNeg n.toNatClampNeg).length _) by rw [ri_cpy_len b0 b1]; simp [Array.getElem?_setIfInBounds, hl]) oq) ⟨by simp; exact hS9.1, fun q g1 g2 => by
      rw [oq q (fun e => g2 ⟨q1, Nat.lt_of_lt_of_le (List.getElem?_eq_some_iff.mp h1).1 hw9, e.symm⟩)]
      exact hS9.2.1 q g1 g2, fun q hq => by
      rcases List.mem_append.mp hq with h | h
      · exact hS9.2.2 q h
      · obtain ⟨z, -, hz⟩ := List.mem_map.mp h
        rw [← hz]
        exact ⟨q1, Nat.lt_of_lt_of_le (List.getElem?_eq_some_iff.mp h1).1 hw9, rfl⟩⟩ (by simp) _ hheap X'
  exact ⟨t', step t' r1, r2⟩
end RIK
end
section
/-! ===== the reckoner, part 6: a run of a method ===== -/
/-- an instruction of a method: its pc, what kind of step it is, itself, two numbers, a value, numbers (targets ..) -/
abbrev ri_Op : Type := Nat × Nat × Instr × Nat × Nat × Value × List Nat
/-- an unknown int as a long against an element of an array of longs (the third of the one that field b of the object in place 0 tells) -/
noncomputable def ri_lc (tyL : List FieldType) (a b : Nat) (lv : ri_L) (st : List Value) (w : List ri_E) : Option (Value × Int64 × List Value) := match st with
  | x :: r => ri_ok (ri_isI x) (match ri_get 0 lv with
    | some (.ref q) => (match ri_getf a b (.ref q :: r) w with
      | some (.ref q2 :: _) => (match ri_ald tyL ri_tL (.int 3 :: .ref q2 :: r) w with
        | some (.long y :: _) => some (x, y, r)
        | _ => none)
      | _ => none)
    | _ => none)
  | [] => none
theorem ri_getf_any {a b q : Nat} {r st' : List Value} {w : List ri_E} (h : ri_getf a b (.ref q :: r) w = some st') : ∃ v : Value, st' = v :: r ∧ ∀ r2 : List Value, ri_getf a b (.ref q :: r2) w = some (v :: r2) := by
  unfold ri_getf at h
  dsimp only at h
  split at h
  · rename_i o ho
    obtain ⟨hb, h2⟩ := ri_ok_eq h
    split at h2
    · rename_i v hv
      refine ⟨v, (Option.some.inj h2).symm, fun r2 => ?_⟩
      unfold ri_getf
      dsimp only
      rw [ho]
      dsimp only
      rw [hb, hv]
      rfl
    · cases h2
  · cases h
theorem ri_ald_any {tyL : List FieldType} {g : FieldType → Bool} {i : Int32} {q : Nat} {r st' : List Value} {w : List ri_E} (h : ri_ald tyL g (.int i :: .ref q :: r) w = some st') : ∃ v : Value, st' = v :: r ∧ ∀ r2 : List Value, ri_ald tyL g (.int i :: .ref q :: r2) w = some (v :: r2) := by
  unfold ri_ald at h
  dsimp only at h
  split at h
  · rename_i a ha
    split at h
    · rename_i ty hty
      obtain ⟨hb, h2⟩ := ri_ok_eq h
      split at h2
      · rename_i v hv
        refine ⟨v, (Option.some.inj h2).symm, fun r2 => ?_⟩
        unfold ri_ald
        dsimp only
        rw [ha]
        dsimp only
        rw [hty]
        dsimp only
        rw [hb, hv]
        rfl
      · cases h2
    · cases h
  · cases h
theorem ri_lc_eq {tyL : List FieldType} {a b : Nat} {lv : ri_L} {st r : List Value} {w : List ri_E} {x : Value} {y : Int64} (h : ri_lc tyL a b lv st w = some (x, y, r)) : ∃ q q2 : Nat, st = x :: r ∧ ri_isI x = true ∧ ri_get 0 lv = some (.ref q) ∧ (∀ r2 : List Value, ri_getf a b (.ref q :: r2) w = some (.ref q2 :: r2)) ∧ (∀ r2 : List Value, ri_ald tyL ri_tL (.int 3 :: .ref q2 :: r2) w = some (.long y :: r2)) := by
  unfold ri_lc at h
  split at h
  · rename_i x9 r9
    obtain ⟨hb, h2⟩ := ri_ok_eq h
    split at h2
    · rename_i q hq
      split at h2
      · rename_i q2 l9 h3
        split at h2
        · rename_i y9 l8 h4
          cases h2
          obtain ⟨v1, e1, k1⟩ := ri_getf_any h3
          obtain ⟨v2, e2, k2⟩ := ri_ald_any h4
          cases e1
          cases e2
          exact ⟨q, q2, rfl, hb, hq, k1, k2⟩
        · cases h2
      · cases h2
    · cases h2
  · cases h
/-- a method: name, bytes, how many places its frame has, what it returns, how many parameters, its instructions -/
abbrev ri_M : Type := MethodName × ByteArray × Nat × Option FieldType × Nat × List ri_Op
/-- an end: a value (or none) or the number of an exception; the world; cells and slots made; what must hold for it; the next number of the unknown -/
abbrev ri_Out : Type := (Option Value ⊕ Nat) × List ri_E × Nat × Nat × List ri_Cd × Nat
abbrev ri_K : Type := Nat → Nat → ri_M → List ri_Op → Nat → ri_L → List Value → List ri_E → Nat → Nat → Nat → Option ri_Out
noncomputable def ri_drop {α : Type} (l : List α) : Nat → List α := List.rec (fun _ => []) (fun a t ih n => Nat.rec (a :: t) (fun m _ => ih m) n) l
theorem ri_drop_eq {α : Type} : ∀ (l : List α) (n : Nat), ri_drop l n = l.drop n
  | [], n => by simp [ri_drop]
  | _ :: _, 0 => rfl
  | _ :: t, n + 1 => ri_drop_eq t n
/-- the last n of a stack, in the order in which they were laid, and the rest -/
noncomputable def ri_split (n : Nat) : List Value → List Value → Option (List Value × List Value) := Nat.rec (fun acc st => some (acc, st)) (fun _ ih acc st => match st with
  | v :: r => ih (v :: acc) r
  | [] => none) n
theorem ri_split_eq : ∀ (n : Nat) (acc st As rest : List Value), ri_split n acc st = some (As, rest) → ∃ Bs : List Value, Bs.length = n ∧ st = Bs ++ rest ∧ As = Bs.reverse ++ acc
  | 0, acc, st, As, rest, h => by
    have e := Option.some.inj h
    have e1 : acc = As := congrArg Prod.fst e
    have e2 : st = rest := congrArg Prod.snd e
    exact ⟨[], rfl, by rw [e2]; rfl, by rw [e1]; rfl⟩
  | n + 1, acc, [], As, rest, h => by cases h
  | n + 1, acc, v :: r, As, rest, h => by
    obtain ⟨Bs, h1, h2, h3⟩ := ri_split_eq n (v :: acc) r As rest h
    exact ⟨v :: Bs, by rw [List.length_cons, h1], by rw [h2]; rfl, by rw [h3, List.reverse_cons, List.append_assoc]; rfl⟩
section RID
variable (Ms : List ri_M) (ty : Nat → Nat → FieldType) (df : Nat → List Value) (tyL : List FieldType) (exl : Nat → Nat) (xs : Nat → Value) (L : Nat) (al : Nat → Bool) (orc : List (Bool ⊕ Int32))
def ri_cat (st : List Value) : Nat := (st.map fun v => v.category).sum
/-- behind an instruction that touches no heap -/
noncomputable def ri_next (M : ri_M) (nxt : List ri_Op) (ts : List Nat) (j : Nat) : List ri_Op := Nat.rec nxt (fun k _ => match ri_nth ts k with
  | some t => ri_drop M.2.2.2.2.2 t
  | none => []) j
def ri_more (cs : List ri_Cd) (o : Option ri_Out) : Option ri_Out := match o with
  | some z => some (z.1, z.2.1, z.2.2.1, z.2.2.2.1, cs ++ z.2.2.2.2.1, z.2.2.2.2.2)
  | none => none
/-- a callee's run: the frames that are left, its places, the values that it begins with -/
noncomputable def ri_enter (ih : ri_K) (d bud : Nat) (M : ri_M) (vals rest : List Value) (w : List ri_E) (fr : Nat) : Option ri_Out :=
  ri_ok (Nat.ble 1 d && (Nat.ble (19 + M.2.2.1) bud && (Nat.ble (ri_cat rest) 8 && Nat.ble (lg_sl vals).length M.2.2.1))) (ih (d - 1) (bud - (19 + M.2.2.1)) M M.2.2.2.2.2 0 (lv_args 0 vals) [] w 0 0 fr)
noncomputable def ri_back (ih : ri_K) (d bud : Nat) (M : ri_M) (nxt : List ri_Op) (pc : Nat) (lv : ri_L) (rest : List Value) (nc ns : Nat) (o : Option ri_Out) : Option ri_Out := match o with
  | some (.inl r, w, nc2, ns2, cs, fr) => ri_more cs (ih d bud M nxt (pc + 3) lv (r.toList ++ rest) w (nc + nc2) (ns + ns2) fr)
  | some (.inr x, w, nc2, ns2, cs, fr) => some (.inr x, w, nc + nc2, ns + ns2, cs, fr)
  | none => none
/-- what a handler begins with: the exception laid aside -/
noncomputable def ri_caught (ih : ri_K) (d bud : Nat) (M : ri_M) (lv : ri_L) (w : List ri_E) (nc ns fr : Nat) (cs : List ri_Cd) (os : List ri_Op) : Option ri_Out := match os with
  | oh :: nx2 => (match oh.2.2.1 with
    | .astore_n k => ri_ok (Nat.blt k.val M.2.2.1) (ri_more cs (ih d bud M nx2 (oh.1 + 1) (lv.filter (ri_f1 k.val)) [] w nc ns fr))
    | .astore k => ri_ok (Nat.blt k M.2.2.1) (ri_more cs (ih d bud M nx2 (oh.1 + 2) (lv.filter (ri_f1 k)) [] w nc ns fr))
    | _ => none)
  | [] => none
noncomputable def ri_backH (ih : ri_K) (d bud : Nat) (M : ri_M) (nxt : List ri_Op) (pc : Nat) (lv : ri_L) (rest : List Value) (nc ns : Nat) (hs : List Nat) (o : Option ri_Out) : Option ri_Out := match o with
  | some (.inl r, w, nc2, ns2, cs, fr) => ri_more cs (ih d bud M nxt (pc + 3) lv (r.toList ++ rest) w (nc + nc2) (ns + ns2) fr)
  | some (.inr x, w, nc2, ns2, cs, fr) => ri_ok (!al w.length) (match ri_nth hs x with
    | some t => ri_caught ih d bud M lv w (nc + nc2) (ns + ns2) fr cs (ri_drop M.2.2.2.2.2 t)
    | none => none)
  | none => none
/-- a call: a the callee, b how it is called (0 by its receiver, 1 static, 2 constructor, 3 and 4 a nest mate's, 5 by its receiver where handlers stand, 6 static, of a method with handlers) -/
noncomputable def ri_call (ih : ri_K) (d bud : Nat) (M : ri_M) (nxt : List ri_Op) (pc : Nat) (lv : ri_L) (st : List Value) (w : List ri_E) (nc ns fr a b : Nat) (ts : List Nat) : Option ri_Out := match ri_nth Ms a with
  | some M2 => (match ri_split M2.2.2.2.2.1 [] st with
    | some (As, rest) => (match b with
      | 0 => (match rest with
        | .ref q :: rest => (match ri_nth w q with
          | some (.inr o) => ri_ok (match ts with | [t] => Nat.beq o.1 t | _ => false) (ri_back ih d bud M nxt pc lv rest nc ns (ri_enter ih d bud M2 (.ref q :: As) rest w fr))
          | _ => none)
        | _ => none)
      | 1 => ri_back ih d bud M nxt pc lv rest nc ns (ri_enter ih d bud M2 As rest w fr)
      | 2 => (match rest with
        | .ref q :: rest => ri_back ih d bud M nxt pc lv rest nc ns (ri_enter ih d bud M2 (.ref q :: As) rest w fr)
        | _ => none)
      | 3 => (match rest with
        | .ref q :: rest => ri_back ih d bud M nxt pc lv rest nc ns (ri_enter ih d bud M2 (.ref q :: As) rest w fr)
        | _ => none)
      | 4 => ri_back ih d bud M nxt pc lv rest nc ns (ri_enter ih d bud M2 As rest w fr)
      | 5 => (match rest with
        | .ref q :: rest => (match ri_nth w q with
          | some (.inr o) => (match ts with
            | t :: hs => ri_ok (Nat.beq o.1 t) (ri_backH al ih d bud M nxt pc lv rest nc ns hs (ri_enter ih d bud M2 (.ref q :: As) rest w fr))
            | [] => none)
          | _ => none)
        | _ => none)
      | 6 => ri_back ih d bud M nxt pc lv rest nc ns (ri_enter ih d bud M2 As rest w fr)
      | _ => none)
    | none => none)
  | none => none
def ri_fitR (t : Option FieldType) (v : Value) : Bool := match t with
  | some t => ri_fit t v
  | none => false
/-- the end of a method -/
def ri_ret (M : ri_M) (i : Instr) (st : List Value) (w : List ri_E) (nc ns fr : Nat) : Option ri_Out := match i with
  | .return_ => (match st with
    | [] => ri_ok (match M.2.2.2.1 with | none => true | some _ => false) (some (.inl none, w, nc, ns, [], fr))
    | _ => none)
  | .ireturn => (match st with
    | [.int x] => ri_ok (ri_fitR M.2.2.2.1 (.int x)) (some (.inl (some (.int x)), w, nc, ns, [], fr))
    | [.float x] => ri_ok (match M.2.2.2.1 with | some .int => true | _ => false) (some (.inl (some (.float x)), w, nc, ns, [], fr))
    | _ => none)
  | .lreturn => (match st with
    | [.long x] => ri_ok (ri_fitR M.2.2.2.1 (.long x)) (some (.inl (some (.long x)), w, nc, ns, [], fr))
    | _ => none)
  | .dreturn => (match st with
    | [.double x] => ri_ok (ri_fitR M.2.2.2.1 (.double x)) (some (.inl (some (.double x)), w, nc, ns, [], fr))
    | _ => none)
  | .areturn => (match st with
    | [.ref x] => ri_ok (ri_fitR M.2.2.2.1 (.ref x)) (some (.inl (some (.ref x)), w, nc, ns, [], fr))
    | _ => none)
  | _ => none
noncomputable def ri_exec (ih : ri_K) (d bud : Nat) (M : ri_M) (nxt : List ri_Op) (lv : ri_L) (st : List Value) (w : List ri_E) (nc ns fr pc κ : Nat) (i : Instr) (a b : Nat) (v : Value) (ts : List Nat) : Option ri_Out := match κ with
  | 0 => (match ri_pure M.2.2.1 i pc lv st with
    | some z => ih d bud M (ri_next M nxt ts z.1) z.2.1 z.2.2.1 z.2.2.2 w nc ns fr
    | none => none)
  | 1 => (match ri_getf a b st w with
    | some st => ih d bud M nxt (pc + 3) lv st w nc ns fr
    | none => none)
  | 2 => (match ri_putf (ty a b) a b st w with
    | some z => ih d bud M nxt (pc + 3) lv z.1 z.2 nc ns fr
    | none => none)
  | 3 => ih d bud M nxt (pc + ri_len i) lv (v :: st) w nc ns fr
  | 4 => ri_call Ms al ih d bud M nxt pc lv st w nc ns fr a b ts
  | 5 => (match ri_ald tyL ri_tI st w with
    | some st => ih d bud M nxt (pc + 1) lv st w nc ns fr
    | none => none)
  | 6 => (match ri_ast tyL ri_gI st w with
    | some z => ih d bud M nxt (pc + 1) lv z.1 z.2 nc ns fr
    | none => none)
  | 7 => (match ri_ald tyL ri_tL st w with
    | some st => ih d bud M nxt (pc + 1) lv st w nc ns fr
    | none => none)
  | 8 => (match ri_ast tyL ri_gL st w with
    | some z => ih d bud M nxt (pc + 1) lv z.1 z.2 nc ns fr
    | none => none)
  | 9 => (match ri_ald tyL ri_tD st w with
    | some st => ih d bud M nxt (pc + 1) lv st w nc ns fr
    | none => none)
  | 10 => (match ri_ast tyL ri_gD st w with
    | some z => ih d bud M nxt (pc + 1) lv z.1 z.2 nc ns fr
    | none => none)
  | 11 => (match ri_ald tyL ri_tA st w with
    | some st => ih d bud M nxt (pc + 1) lv st w nc ns fr
    | none => none)
  | 12 => (match ri_ald tyL ri_tB st w with
    | some st => ih d bud M nxt (pc + 1) lv st w nc ns fr
    | none => none)
  | 13 => (match ri_ast tyL ri_gB st w with
    | some z => ih d bud M nxt (pc + 1) lv z.1 z.2 nc ns fr
    | none => none)
  | 14 => (match ri_aast a b st w with
    | some z => ih d bud M nxt (pc + 1) lv z.1 z.2 nc ns fr
    | none => none)
  | 15 => (match ri_alen2 tyL st w with
    | some st => ih d bud M nxt (pc + 1) lv st w nc ns fr
    | none => none)
  | 16 => ri_ret M i st w nc ns fr
  | 17 => bif ri_conc a st then (match ri_pure M.2.2.1 i pc lv st with
      | some z => ih d bud M (ri_next M nxt ts z.1) z.2.1 z.2.2.1 z.2.2.2 w nc ns fr
      | none => none)
    else (match ri_sym M.2.2.1 (ri_nth orc fr) fr i pc lv st with
      | some z => ri_more [z.2.2] (ih d bud M (ri_next M nxt ts z.1.1) z.1.2.1 z.1.2.2.1 z.1.2.2.2 w nc ns z.2.1)
      | none => none)
  | 18 => ri_ok (al w.length && Nat.blt w.length 1000000) (ih d bud M nxt (pc + 3) lv (.ref w.length :: st) (w ++ [.inr (a, df a)]) (nc + 1) (ns + b) fr)
  | 19 => ri_ok (al w.length && Nat.blt w.length 1000000) (match ri_newa a v st w with
    | some z => ih d bud M nxt (pc + 2) lv z.2.1 z.2.2 (nc + 1) (ns + z.1) fr
    | none => none)
  | 20 => ri_ok (al w.length && Nat.blt w.length 1000000) (match ri_newa a .null st w with
    | some z => ih d bud M nxt (pc + 3) lv z.2.1 z.2.2 (nc + 1) (ns + z.1) fr
    | none => none)
  | 21 => (match st with
    | .ref _ :: r => ri_ok (Nat.ble 1 d && Nat.ble (ri_cat r + 12) bud) (ih d bud M nxt (pc + 3) lv r w nc ns fr)
    | _ => none)
  | 22 => ri_ok (Nat.ble 1 d) (match ri_acopy tyL bud st w with
    | some z => ih d bud M nxt (pc + 3) lv z.1 z.2 nc ns fr
    | none => none)
  | 23 => ri_ok (Nat.ble (exl a + 4) d && Nat.ble (ri_cat st + (13 * (exl a + 1) + 42)) bud) (some (.inr a, w, nc + 1, ns + 6, [], fr))
  | 24 => (match st with
    | .int j :: .ref q :: r => ri_ok (Nat.beq q 1000000 && (!decide (j < 0) && Nat.blt j.toNatClampNeg L)) (ih d bud M nxt (pc + 1) lv (xs j.toNatClampNeg :: r) w nc ns fr)
    | _ => none)
  | 25 => (match st with
    | .ref q :: r => ri_ok (Nat.beq q 1000000) (ih d bud M nxt (pc + 1) lv (.int (Int32.ofNat L) :: r) w nc ns fr)
    | _ => none)
  | 26 => ri_ok (al w.length) (match ri_mna a b st w with
    | some z => ri_ok (Nat.ble z.2.2.2.length 1000000) (ih d bud M nxt (pc + 4) lv z.2.2.1 z.2.2.2 (nc + (1 + z.1)) (ns + (z.1 + z.1 * z.2.1)) fr)
    | none => none)
  | 27 => bif ri_conc 1 st then (match ri_ast tyL ri_gB st w with
      | some z => ih d bud M nxt (pc + 1) lv z.1 z.2 nc ns fr
      | none => none)
    else (match ri_ast tyL (ri_gU fr) st w with
      | some z => ri_more [(.i2b, ri_top st, .int 0, fr, true)] (ih d bud M nxt (pc + 1) lv z.1 z.2 nc ns (fr + 1))
      | none => none)
  | 28 => (match ri_lc tyL a b lv st w with
    | some z => (match ri_nth orc fr with
      | some (.inl g) => (match v with
        | .ref t => ri_more [(.lcmp, z.1, .long z.2.1, 0, g)] (ih d bud M (ri_next M nxt ts (bif g then 1 else 2)) (bif g then t else pc + 11) lv z.2.2 w nc ns (fr + 1))
        | _ => none)
      | _ => none)
    | none => none)
  | _ => none
noncomputable def ri_run (fuel : Nat) : ri_K := Nat.rec (fun _ _ _ _ _ _ _ _ _ _ _ => none) (fun _ ih d bud M cur pc lv st w nc ns fr => match cur with
  | o :: nxt => ri_ok (Nat.beq o.1 pc) (ri_exec Ms ty df tyL exl xs L al orc ih d bud M nxt lv st w nc ns fr pc o.2.1 o.2.2.1 o.2.2.2.1 o.2.2.2.2.1 o.2.2.2.2.2.1 o.2.2.2.2.2.2)
  | [] => none) fuel
end RID
end
section
/-! ===== the reckoner, part 7: what it reckons, the machine does ===== -/
theorem ri_args_v (ad : Nat → Nat) : ∀ (vs : List Value) (i : Nat), lv_args i (vs.map (ri_v ad)) = ri_lr ad (lv_args i vs)
  | [], _ => rfl
  | v :: vs, i => by
    show (i, ri_v ad v) :: lv_args (if (ri_v ad v).category = 2 then i + 2 else i + 1) (vs.map (ri_v ad)) = (i, ri_v ad v) :: ri_lr ad (lv_args (if v.category = 2 then i + 2 else i + 1) vs)
    rw [ri_v_cat, ri_args_v ad vs]
theorem ri_sl_v (ad : Nat → Nat) : ∀ vs : List Value, (lg_sl (vs.map (ri_v ad))).length = (lg_sl vs).length
  | [] => rfl
  | v :: vs => by
    have e1 : lg_sl ((v :: vs).map (ri_v ad)) = (if (ri_v ad v).category = 2 then [Slot.val (ri_v ad v), .second] else [.val (ri_v ad v)]) ++ lg_sl (vs.map (ri_v ad)) := rfl
    have e2 : lg_sl (v :: vs) = (if v.category = 2 then [Slot.val v, .second] else [.val v]) ++ lg_sl vs := rfl
    rw [e1, e2, List.length_append, List.length_append, ri_sl_v ad vs, ri_v_cat]
    by_cases h : v.category = 2 <;> simp [h]
theorem ri_cat_v (ad : Nat → Nat) (st : List Value) : ((st.map (ri_v ad)).map fun v => v.category).sum = ri_cat st := by
  unfold ri_cat
  rw [List.map_map]
  congr 1
  exact List.map_congr_left (fun v _ => ri_v_cat ad v)
/-- the words of a method -/
def ri_mok (WG : List Jvm.Cond) (hh : MethodName → List (Nat × Nat × Nat × Nat)) (M : ri_M) : Prop := hh M.1 = [] ∧ plainName M.1.cls = true ∧ Jvm.Cond.code M.1 M.2.1 M.2.2.1 M.2.2.2.1 ∈ WG ∧ Jvm.Cond.initialized M.1.cls ∈ WG ∧ (M.1.cls ≠ "java/lang/invoke/MethodHandle" ∧ M.1.cls ≠ "java/lang/invoke/VarHandle") ∧ (parseMethodDescriptor M.1.desc).map (fun d => d.parameters.length) = some M.2.2.2.2.1
/-- the words of a method with handlers -/
def ri_mokH (WG : List Jvm.Cond) (hh : MethodName → List (Nat × Nat × Nat × Nat)) (M : ri_M) : Prop := plainName M.1.cls = true ∧ Jvm.Cond.codeWith M.1 M.2.1 M.2.2.1 M.2.2.2.1 (hh M.1) ∈ WG ∧ Jvm.Cond.initialized M.1.cls ∈ WG ∧ (M.1.cls ≠ "java/lang/invoke/MethodHandle" ∧ M.1.cls ≠ "java/lang/invoke/VarHandle") ∧ (parseMethodDescriptor M.1.desc).map (fun d => d.parameters.length) = some M.2.2.2.2.1
abbrev ri_N : Type := String × Nat × MethodName × String
/-- words that stay, but that no callee's list may hold: a castable, a method that is declared -/
abbrev ri_C9 : Type := (String × String) ⊕ MethodName
def ri_cw (x : ri_C9) : Jvm.Cond := match x with
  | .inl a => .castable a.1 a.2
  | .inr y => .declares y
theorem ri_cw_on (x : ri_C9) : (ri_cw x).onTables = true := by cases x <;> rfl
theorem ri_cw_warm {x : ri_C9} {s U : State} (hW : s.WarmedH U.vm) (h : va_Nw (ri_cw x) s) : va_Nw (ri_cw x) U := by
  cases x with
  | inl a => exact va_Nw.warmC hW h
  | inr y => exact va_Nw.warmD hW h
section RIL
variable (WG : List Jvm.Cond) (hh : MethodName → List (Nat × Nat × Nat × Nat)) (NW : List ri_N) (CW : List ri_C9) (NC : List (String × String)) (AO : List FieldType) (cl : List vw_C) (Ms : List ri_M) (ty : Nat → Nat → FieldType) (df : Nat → List Value) (tyL : List FieldType) (exl : Nat → Nat) (exn : Nat → String) (xs : Nat → Value) (L : Nat) (al : Nat → Bool) (orc : List (Bool ⊕ Int32))
/-- a handler of the row x of the table takes this exception, the rows ahead don't -/
def ri_hlink (M : ri_M) (pc : Nat) (hs : List Nat) : Prop := ∀ (x t : Nat) (oh : ri_Op) (nx : List ri_Op), hs[x]? = some t → M.2.2.2.2.2.drop t = oh :: nx → ∃ (pre : List ExceptionTableEntry) (z : ExceptionTableEntry) (suf : List ExceptionTableEntry), tableOf (hh M.1) = pre ++ z :: suf ∧ z.handlerPc = oh.1 ∧ covers z pc = true ∧ z.catchType ≠ 0 ∧ (∃ nm : String, Jvm.Cond.classLink M.1.cls z.catchType nm ∈ WG ∧ (Sum.inl (exn x, nm) : ri_C9) ∈ CW) ∧
  ∀ y ∈ pre, covers y pc = false ∨ (y.catchType ≠ 0 ∧ ∃ nm : String, Jvm.Cond.classLink M.1.cls y.catchType nm ∈ WG ∧ (exn x, nm) ∈ NC)
/-- a call's words -/
def ri_clink (M : ri_M) (pc : Nat) (i : Instr) (a b : Nat) (ts : List Nat) : Prop := ∃ M2 : ri_M, Ms[a]? = some M2 ∧ (∀ o ∈ M2.2.2.2.2.2, o.2.1 ≠ 24 ∧ o.2.1 ≠ 25) ∧ (match b with
  | 0 => hh M.1 = [] ∧ ri_mok WG hh M2 ∧ ∃ (idx t : Nat) (r : vw_C), i = .invokevirtual idx ∧ ts = [t] ∧ cl[t]? = some r ∧ r.1 = M2.1.cls ∧ Jvm.Cond.methodLink M.1.cls idx M2.1 ∈ WG ∧ Jvm.Cond.instanceMethod M2.1 ∈ WG ∧ Jvm.Cond.selects M2.1.cls M2.1 M2.1 ∈ WG
  | 1 => hh M.1 = [] ∧ ri_mok WG hh M2 ∧ ∃ idx : Nat, i = .invokestatic idx ∧ Jvm.Cond.methodLink M.1.cls idx M2.1 ∈ WG ∧ Jvm.Cond.static M2.1 ∈ WG
  | 2 => hh M.1 = [] ∧ ri_mok WG hh M2 ∧ ∃ idx : Nat, i = .invokespecial idx ∧ Jvm.Cond.methodLink M.1.cls idx M2.1 ∈ WG ∧ M2.1.name = "<init>" ∧ Jvm.Cond.instanceMethod M2.1 ∈ WG ∧ M2.2.2.2.1 = none
  | 3 => hh M.1 = [] ∧ ri_mok WG hh M2 ∧ ∃ (idx : Nat) (host : String), i = .invokespecial idx ∧ (M.1.cls, idx, M2.1, host) ∈ NW ∧ M2.1.name = "<init>" ∧ Jvm.Cond.instanceMethod M2.1 ∈ WG ∧ M2.2.2.2.1 = none
  | 4 => hh M.1 = [] ∧ ri_mok WG hh M2 ∧ ∃ (idx : Nat) (host : String), i = .invokestatic idx ∧ (M.1.cls, idx, M2.1, host) ∈ NW ∧ Jvm.Cond.static M2.1 ∈ WG
  | 5 => ri_mok WG hh M2 ∧ ∃ (idx t : Nat) (hs : List Nat) (r : vw_C), i = .invokevirtual idx ∧ ts = t :: hs ∧ ri_hlink WG hh CW NC exn M pc hs ∧ cl[t]? = some r ∧ r.1 = M2.1.cls ∧ Jvm.Cond.methodLink M.1.cls idx M2.1 ∈ WG ∧ Jvm.Cond.instanceMethod M2.1 ∈ WG ∧ Jvm.Cond.selects M2.1.cls M2.1 M2.1 ∈ WG
  | 6 => hh M.1 = [] ∧ ri_mokH WG hh M2 ∧ ∃ idx : Nat, i = .invokestatic idx ∧ Jvm.Cond.methodLink M.1.cls idx M2.1 ∈ WG ∧ Jvm.Cond.static M2.1 ∈ WG
  | _ => False)
/-- an exception that is made and thrown -/
def ri_xlink (M : ri_M) (pc : Nat) (i : Instr) (a : Nat) : Prop := hh M.1 = [] ∧ ∃ (ik ic : Nat) (names : List String), i = .new ik ∧ decode M.2.1 (pc + 3) = .ok (.dup, 1) ∧ decode M.2.1 (pc + 4) = .ok (.invokespecial ic, 3) ∧ decode M.2.1 (pc + 7) = .ok (.athrow, 1) ∧ exl a = names.length ∧ Bundle.fit (exn a) = true ∧ (∀ n ∈ names, Bundle.fit n = true) ∧
  Jvm.Cond.classLink M.1.cls ik (exn a) ∈ WG ∧ Jvm.Cond.initialized (exn a) ∈ WG ∧ (∀ w ∈ vx_at0 M.1.cls ic (exn a) names, w ∈ WG ∨ ∃ x ∈ CW, w = ri_cw x) ∧ (∀ w ∈ Jvm.Cond.classLink M.1.cls ik (exn a) :: Jvm.Cond.initialized (exn a) :: vx_at0 M.1.cls ic (exn a) names, vx_ot w = true)
/-- what an instruction's step asks of the tables -/
def ri_link (M : ri_M) (pc κ : Nat) (i : Instr) (a b : Nat) (v : Value) (ts : List Nat) : Prop := match κ with
  | 0 => True
  | 1 => ∃ (idx : Nat) (r : vw_C), i = .getfield idx ∧ cl[a]? = some r ∧ b < r.2.2 ∧ Jvm.Cond.fieldLink M.1.cls idx (r.2.1 b).1 (r.2.1 b).2.1 (r.2.1 b).2.2.1 ∈ WG
  | 2 => ∃ (idx : Nat) (r : vw_C), i = .putfield idx ∧ cl[a]? = some r ∧ b < r.2.2 ∧ Jvm.Cond.fieldLink M.1.cls idx (r.2.1 b).1 (r.2.1 b).2.1 (r.2.1 b).2.2.1 ∈ WG ∧ ((r.2.1 b).2.2.2 = false ∨ (M.1.name = "<init>" ∧ (r.2.1 b).1 = M.1.cls))
  | 3 => (∃ (idx : Nat) (x : Int32), i = .ldc idx ∧ v = .int x ∧ Jvm.Cond.constant M.1.cls idx x ∈ WG) ∨ (∃ (idx : Nat) (x : Int32), i = .ldc_w idx ∧ v = .int x ∧ Jvm.Cond.constant M.1.cls idx x ∈ WG) ∨ (∃ (idx : Nat) (x : Int64), i = .ldc2_w idx ∧ v = .long x ∧ Jvm.Cond.constantLong M.1.cls idx x ∈ WG) ∨ (∃ (idx : Nat) (x : UInt64), i = .ldc2_w idx ∧ v = .double x ∧ Jvm.Cond.constantDouble M.1.cls idx x ∈ WG)
  | 4 => ri_clink WG hh NW CW NC cl Ms exn M pc i a b ts
  | 5 => i = .iaload
  | 6 => i = .iastore
  | 7 => i = .laload
  | 8 => i = .lastore
  | 9 => i = .daload
  | 10 => i = .dastore
  | 11 => i = .aaload
  | 12 => i = .baload
  | 13 => i = .bastore
  | 14 => ∃ r : vw_C, i = .aastore ∧ cl[a]? = some r ∧ tyL[b]? = some (.object r.1)
  | 15 => i = .arraylength
  | 16 => True
  | 17 => True
  | 18 => ∃ (idx : Nat) (r : vw_C), i = .new idx ∧ cl[a]? = some r ∧ r.2.2 = b ∧ Jvm.Cond.classLink M.1.cls idx r.1 ∈ WG
  | 19 => ∃ (atype : ArrayType) (t9 : FieldType), i = .newarray atype ∧ tyL[a]? = some t9 ∧ newarray.typeOf atype = t9 ∧ t9 ≠ .float ∧ Jvm.Cond.arrayClass t9 ∈ WG ∧ v = defaultValue t9
  | 20 => ∃ (idx : Nat) (C : String), i = .anewarray idx ∧ tyL[a]? = some (.object C) ∧ Jvm.Cond.classLink M.1.cls idx C ∈ WG ∧ FieldType.object C ∈ AO
  | 21 => ∃ idx : Nat, i = .invokespecial idx ∧ Jvm.Cond.methodLink M.1.cls idx Lib.objectInit ∈ WG ∧ Jvm.Cond.instanceMethod Lib.objectInit ∈ WG ∧ Jvm.Cond.code Lib.objectInit ⟨#[0xb1]⟩ 1 none ∈ WG
  | 22 => ∃ idx : Nat, i = .invokestatic idx ∧ Jvm.Cond.methodLink M.1.cls idx arraycopyName ∈ WG ∧ Jvm.Cond.native arraycopyName ∈ WG ∧ Jvm.Cond.static arraycopyName ∈ WG ∧ Jvm.Cond.initialized "java/lang/System" ∈ WG
  | 23 => ri_xlink WG hh CW exl exn M pc i a
  | 24 => i = .iaload
  | 25 => i = .arraylength
  | 26 => ∃ idx : Nat, i = .multianewarray idx 2 ∧ tyL[a]? = some .double ∧ tyL[b]? = some (.array .double) ∧ Jvm.Cond.classLink M.1.cls idx "[[D" ∈ WG ∧ Jvm.Cond.arrayClass .double ∈ WG ∧ FieldType.array .double ∈ AO
  | 27 => i = .bastore
  | 28 => i = .i2l ∧ decode M.2.1 (pc + 1) = .ok (.aload_n 0, 1) ∧ (∃ (idx : Nat) (r : vw_C), decode M.2.1 (pc + 2) = .ok (.getfield idx, 3) ∧ cl[a]? = some r ∧ b < r.2.2 ∧ Jvm.Cond.fieldLink M.1.cls idx (r.2.1 b).1 (r.2.1 b).2.1 (r.2.1 b).2.2.1 ∈ WG) ∧ decode M.2.1 (pc + 5) = .ok (.iconst 3, 1) ∧ decode M.2.1 (pc + 6) = .ok (.laload, 1) ∧ decode M.2.1 (pc + 7) = .ok (.lcmp, 1) ∧ ∃ (off : Int) (t : Nat), decode M.2.1 (pc + 8) = .ok (.ifCond .lt off, 3) ∧ v = .ref t ∧ ((pc + 8 : Nat) : Int) + off = (t : Int)
  | _ => True
def ri_opok (M : ri_M) (o : ri_Op) : Prop := (∃ len : Nat, decode M.2.1 o.1 = .ok (o.2.2.1, len) ∧ (ri_len o.2.2.1 = 0 ∨ ri_len o.2.2.1 = len)) ∧ ri_link WG hh NW CW NC AO cl Ms tyL exl exn M o.1 o.2.1 o.2.2.1 o.2.2.2.1 o.2.2.2.2.1 o.2.2.2.2.2.1 o.2.2.2.2.2.2
/-- what is the same for all runs: the kinds of objects, the methods' instructions, the words -/
def ri_all : Prop := ri_clok WG cl ty ∧ (∀ (ci : Nat) (r : vw_C), cl[ci]? = some r → ∀ j, j < r.2.2 → (df ci).getD j .null = defaultValue (ty ci j) ∧ ty ci j ≠ .float) ∧ (∀ w ∈ WG, goodWord w = true) ∧ ∀ (y : Nat) (M : ri_M), Ms[y]? = some M → ∀ o ∈ M.2.2.2.2.2, ri_opok WG hh NW CW NC AO cl Ms tyL exl exn M o
variable (D : va_G) (ad : Nat → Nat) (cA : Nat → ClassId)
/-- what a state's tables say -/
def ri_Kx (U : State) : Prop := va_K D cl (ri_tys cA tyL) U ∧ (∀ x ∈ NW, va_Nw (.methodLinkNest x.1 x.2.1 x.2.2.1 x.2.2.2) U) ∧ (∀ x ∈ CW, va_Nw (ri_cw x) U) ∧ (∀ x ∈ NC, va_Nc x.1 x.2 U) ∧ (∀ C ∈ AO, ri_AO C U) ∧ vx_Zq Bundle.tN "UNASSIGNED_STACK" Bundle.steD (ri_A ad) U U.heap ∧ vx_Zq Bundle.tN "SUPPRESSED_SENTINEL" Bundle.listD (ri_A ad) U U.heap
def ri_Pc (vals : List Value) (w : List ri_E) : Array Value → State → Prop := fun v U => v = (vals.map (ri_v ad)).toArray ∧ ri_P D cl ad cA w U.heap ∧ ri_Kx NW CW NC AO cl tyL D ad cA U ∧ (al w.length = true → ri_nx ad w.length U.heap.size)
def ri_Qc (out : ri_Out) : Array Value → State → Outcome → State → Prop := fun _ st o t => ∃ r : Option Value, out.1 = .inl r ∧ o = .returned (r.map (ri_v ad)) ∧ ri_P D cl ad cA out.2.1 t.heap ∧ (al out.2.1.length = true → ri_nx ad out.2.1.length t.heap.size) ∧ va_F (ri_A ad) st t
def ri_XC (out : ri_Out) : String → State → State → Prop := fun E st t => ∃ x : Nat, out.1 = .inr x ∧ E = exn x ∧ ri_P D cl ad cA out.2.1 t.heap ∧ va_F (ri_A ad) st t
/-- a frame of a method -/
def ri_Fr (M : ri_M) (p : Program) (s : State) (m : MethodId) (args : Array Value) (meth : Method) (c : Code) : Prop := p.tables.exec = Jvm.exec ∧ c.code = M.2.1 ∧ c.maxLocals = M.2.2.1 ∧ s.vm.findClass M.1.cls = some m.cls ∧ meth.name = M.1.name ∧ meth.sig.returnType = M.2.2.2.1 ∧ meth.locks = false ∧ c.exceptionTable.toList = tableOf (hh M.1) ∧ (∀ x ∈ WG, x.before args s = true) ∧ ri_Kx NW CW NC AO cl tyL D ad cA s ∧
  ((∃ o ∈ M.2.2.2.2.2, o.2.1 = 24 ∨ o.2.1 = 25) → (∃ xr : Nat → Int32, (∀ j, j < L → ri_v ad (xs j) = .int (xr j)) ∧ va_X (ad 1000000) L xr s s.heap) ∧ ad 1000000 < s.heap.size ∧ ¬ ri_A ad (ad 1000000))
/-- a return: which instruction, and what it asks of the value -/
def ri_isret (cc : ByteArray) (pc : Nat) (ret : Option FieldType) (v : Option Value) : Prop := (v = none ∧ ret = none ∧ decode cc pc = .ok (.return_, 1)) ∨ (∃ (x : Int32) (t : FieldType), v = some (.int x) ∧ ret = some t ∧ narrow t (.int x) = .int x ∧ decode cc pc = .ok (.ireturn, 1)) ∨ (∃ x : Int64, v = some (.long x) ∧ ret = some .long ∧ decode cc pc = .ok (.lreturn, 1)) ∨ (∃ x : UInt64, v = some (.double x) ∧ ret = some .double ∧ decode cc pc = .ok (.dreturn, 1)) ∨ (∃ (x : Nat) (t : FieldType), v = some (.ref x) ∧ ret = some t ∧ ((∃ n, t = .object n) ∨ ∃ t2, t = .array t2) ∧ decode cc pc = .ok (.areturn, 1)) ∨ (∃ x : UInt32, v = some (.float x) ∧ ret = some .int ∧ decode cc pc = .ok (.ireturn, 1))
/-- what a reckoning says of the machine -/
def ri_Snd (l : Launch) (f : ri_K) : Prop := ∀ (d bud : Nat) (M : ri_M) (cur : List ri_Op) (pc : Nat) (lv : ri_L) (st : List Value) (w : List ri_E) (nc ns fr : Nat) (out : ri_Out), f d bud M cur pc lv st w nc ns fr = some out →
  (nc ≤ out.2.2.1 ∧ ns ≤ out.2.2.2.1 ∧ (w.length ≤ 1000000 → out.2.1.length ≤ 1000000)) ∧ ((∀ x ∈ out.2.2.2.2.1, ri_sem ad x) → (∃ y : Nat, Ms[y]? = some M) → (∀ o ∈ cur, o ∈ M.2.2.2.2.2) → w.length ≤ 1000000 →
    ∀ (p : Program) (e : Env) (R : Room) (s : State) (m : MethodId) (args : Array Value) (below : List Frame) (meth : Method) (c : Code) (H : Heap) (locs : List Loc) (ls : Array Slot) (Q : State → Prop),
      ri_Fr WG hh NW CW NC AO cl tyL xs L D ad cA M p s m args meth c → ri_P D cl ad cA w H → va_S (ri_A ad) s.heap H locs → (al w.length = true → ri_nx ad w.length H.size) → d ≤ R.frames → bud ≤ R.locals → out.2.2.1 ≤ R.cells → out.2.2.2.1 ≤ R.slots → lv_has ls M.2.2.1 (ri_lr ad lv) →
      (∀ r : Option Value, out.1 = .inl r → ∀ (H1 : Heap) (locs1 : List Loc) (ls1 : Array Slot) (pc1 : Nat), ri_P D cl ad cA out.2.1 H1 → va_S (ri_A ad) s.heap H1 locs1 → (al out.2.1.length = true → ri_nx ad out.2.1.length H1.size) → ri_isret M.2.1 pc1 M.2.2.2.1 r → W p l e R s m args below meth c H1 locs1 out.2.2.1 out.2.2.2.1 Q (F0 m pc1 ls1 (r.toList.map (ri_v ad)))) →
      (∀ x : Nat, out.1 = .inr x → ∃ (Qc : Array Value → State → Outcome → State → Prop) (XC : String → State → State → Prop), Q = vx_MQ below Qc XC args s out.2.2.1 out.2.2.2.1 (ri_A ad) ∧ ∀ t : State, s.vm.Alike t.vm → ri_P D cl ad cA out.2.1 t.heap → va_F (ri_A ad) s t → XC (exn x) s t) →
      W p l e R s m args below meth c H locs nc ns Q (F0 m pc ls (st.map (ri_v ad))))
end RIL
end
section
/-! ===== the reckoner, part 8: its steps are the machine's ===== -/
section RIS
variable {WG : List Jvm.Cond} {hh : MethodName → List (Nat × Nat × Nat × Nat)} {NW : List ri_N} {CW : List ri_C9} {NC : List (String × String)} {AO : List FieldType} {cl : List vw_C} {Ms : List ri_M} {ty : Nat → Nat → FieldType} {df : Nat → List Value} {tyL : List FieldType} {exl : Nat → Nat} {exn : Nat → String} {xs : Nat → Value} {L : Nat} {al : Nat → Bool} {orc : List (Bool ⊕ Int32)} {D : va_G} {ad : Nat → Nat} {cA : Nat → ClassId}
theorem ri_Kx.go {s U : State} {H : Heap} {locs : List Loc} (h : ri_Kx NW CW NC AO cl tyL D ad cA s) (hS : va_S (ri_A ad) s.heap H locs) (hU : U.heap = H) (hW : s.WarmedH U.vm) : ri_Kx NW CW NC AO cl tyL D ad cA U := by
  obtain ⟨h1, h2, hc, hn, h3, h4, h5⟩ := h
  exact ⟨va_K.moved hW.alike h1, fun x hx => va_Nw.warmM hW (h2 x hx), fun x hx => ri_cw_warm hW (hc x hx), fun x hx => va_Nc.moved hW.alike (hn x hx), fun C hC => ri_AO.moved hW.alike (h3 C hC), by rw [hU]; exact vx_Zq.moved hW.alike (h4.kept hS.2.1), by rw [hU]; exact vx_Zq.moved hW.alike (h5.kept hS.2.1)⟩
theorem ri_blind (vals : List Value) (w : List ri_E) : FrameBlind (ri_Pc NW CW NC AO cl tyL al D ad cA vals w) := by
  intro a U g mk h
  obtain ⟨h1, h2, ⟨k1, k2, kc, kn, k3, k4, k5⟩, h3⟩ := h
  exact ⟨h1, h2, ⟨va_K.moved (u := U) (U := U.calling g mk a) (Vm.Alike.refl U.vm) k1, fun x hx => va_Nw.same (u := U) rfl rfl (k2 x hx), fun x hx => va_Nw.same (u := U) (ri_cw_on x) rfl (kc x hx), fun x hx => va_Nc.moved (u := U) (U := U.calling g mk a) (Vm.Alike.refl U.vm) (kn x hx), fun C hC => ri_AO.moved (u := U) (U := U.calling g mk a) (Vm.Alike.refl U.vm) (k3 C hC), vx_Zq.moved (u := U) (U := U.calling g mk a) (Vm.Alike.refl U.vm) k4, vx_Zq.moved (u := U) (U := U.calling g mk a) (Vm.Alike.refl U.vm) k5⟩, h3⟩
/-- the contract that a reckoning is -/
theorem ri_met {l : Launch} {f : ri_K} (hF : ri_Snd WG hh NW CW NC AO cl Ms tyL exn xs L al D ad cA l f) {y : Nat} {M2 : ri_M} (hM : Ms[y]? = some M2) (hok : ri_mok WG hh M2) (hns : ∀ o ∈ M2.2.2.2.2.2, o.2.1 ≠ 24 ∧ o.2.1 ≠ 25)
    {d bud : Nat} {vals : List Value} {w : List ri_E} {out : ri_Out} {fr : Nat} (hrun : f d bud M2 M2.2.2.2.2.2 0 (lv_args 0 vals) [] w 0 0 fr = some out) (hcs : ∀ x ∈ out.2.2.2.2.1, ri_sem ad x) (hlen : (lg_sl vals).length ≤ M2.2.2.1) (hw9 : w.length ≤ 1000000) :
    vx_Met l M2.1 (Jvm.Cond.code M2.1 M2.2.1 M2.2.2.1 M2.2.2.2.1 :: WG) ({ frames := d, cells := out.2.2.1, slots := out.2.2.2.1, locals := bud }) (ri_Pc NW CW NC AO cl tyL al D ad cA vals w) (ri_Qc cl al D ad cA out) (ri_XC cl exn D ad cA out) out.2.2.1 out.2.2.2.1 (ri_A ad) := by
  refine vx_ofW (cc := M2.2.1) (maxL := M2.2.2.1) (ret := M2.2.2.2.1) hok.2.1 rfl ?_
  intro p e s m args below meth c s₁ B hml hnt hv
  obtain ⟨rfl, hP, hK, hn⟩ := hv
  have hts := atoms_spec (ws := Jvm.Cond.code M2.1 M2.2.1 M2.2.2.1 M2.2.2.2.1 :: WG) B.pre
  have hl := lv_entry (vals.map (ri_v ad)) (n := M2.2.2.1) (by rw [ri_sl_v]; exact hlen)
  rw [ri_args_v] at hl
  rw [lg_entry_eq]
  generalize (lg_sl (vals.map (ri_v ad)) ++ List.replicate (M2.2.2.1 - (lg_sl (vals.map (ri_v ad))).length) Slot.unset).toArray = ls at hl ⊢
  have hlocks := B.notSynchronized
  have htb : c.exceptionTable.toList = tableOf (hh M2.1) := by
    rw [hok.1]
    exact List.eq_nil_iff_forall_not_mem.mpr hnt
  refine (hF _ _ _ _ _ _ _ _ _ _ _ _ hrun).2 hcs ⟨y, hM⟩ (fun o h => h) hw9 p e _ s m _ below meth c s.heap [] ls _ ⟨B.exec, B.bytes, hml, findClass_of_methodNamed B.named, (name_of_methodNamed B.named B.method).1, B.returns, hlocks, htb, fun x hx => hts x (List.mem_cons_of_mem _ hx), hK, fun ⟨o, ho, hq⟩ => by
      rcases hq with hq | hq
      · exact absurd hq (hns o ho).1
      · exact absurd hq (hns o ho).2⟩ hP va_S.rf hn (Nat.le_refl _) (Nat.le_refl _) (Nat.le_refl _) (Nat.le_refl _) hl ?_ ?_
  · intro r hr H1 locs1 ls1 pc1 hP1 hS1 hn1 hq
    refine vx_ret ?_
    have hQ : ∀ t : State, t.heap = H1 → s.WarmedH t.vm → ri_Qc cl al D ad cA out (vals.map (ri_v ad)).toArray s (.returned (r.map (ri_v ad))) t := fun t ht _ => ⟨r, hr, rfl, by rw [ht]; exact hP1, fun h => by rw [ht]; exact hn1 h, hS1.F ht⟩
    rcases hq with ⟨rfl, h2, h3⟩ | ⟨x, t, rfl, h2, h3, h4⟩ | ⟨x, rfl, h2, h3⟩ | ⟨x, rfl, h2, h3⟩ | ⟨x, t, rfl, h2, h3, h4⟩ | ⟨x, rfl, h2, h3⟩
    · exact W.vret B.exec B.bytes (by rw [B.returns, h2]) hQ hS1.2.2 h3
    · exact W.zret B.exec B.bytes (by rw [B.returns, h2]) h3 hQ hS1.2.2 h4
    · exact W.lret B.exec B.bytes (by rw [B.returns, h2]) hQ hS1.2.2 h3
    · exact W.dret B.exec B.bytes (by rw [B.returns, h2]) hQ hS1.2.2 h3
    · exact W.aret B.exec B.bytes (by rw [B.returns, h2]) h3 (Or.inr ⟨_, rfl⟩) hQ hS1.2.2 h4
    · exact W.zret B.exec B.bytes (by rw [B.returns, h2]) rfl hQ hS1.2.2 h3
  · intro x hx
    exact ⟨_, _, rfl, fun t ht h1 h2 => ⟨x, hx, rfl, h1, h2⟩⟩
/-- the contract that a reckoning of a method with handlers is -/
theorem ri_metH {l : Launch} {f : ri_K} (hF : ri_Snd WG hh NW CW NC AO cl Ms tyL exn xs L al D ad cA l f) {y : Nat} {M2 : ri_M} (hM : Ms[y]? = some M2) (hok : ri_mokH WG hh M2) (hns : ∀ o ∈ M2.2.2.2.2.2, o.2.1 ≠ 24 ∧ o.2.1 ≠ 25)
    {d bud : Nat} {vals : List Value} {w : List ri_E} {out : ri_Out} {fr : Nat} (hrun : f d bud M2 M2.2.2.2.2.2 0 (lv_args 0 vals) [] w 0 0 fr = some out) (hcs : ∀ x ∈ out.2.2.2.2.1, ri_sem ad x) (hlen : (lg_sl vals).length ≤ M2.2.2.1) (hw9 : w.length ≤ 1000000) :
    vx_Met l M2.1 (Jvm.Cond.codeWith M2.1 M2.2.1 M2.2.2.1 M2.2.2.2.1 (hh M2.1) :: WG) ({ frames := d, cells := out.2.2.1, slots := out.2.2.2.1, locals := bud }) (ri_Pc NW CW NC AO cl tyL al D ad cA vals w) (ri_Qc cl al D ad cA out) (ri_XC cl exn D ad cA out) out.2.2.1 out.2.2.2.1 (ri_A ad) := by
  refine vx_ofWH (cc := M2.2.1) (maxL := M2.2.2.1) (ret := M2.2.2.2.1) (hh := hh M2.1) hok.1 rfl ?_
  intro p e s m args below meth c s₁ B hml hv
  obtain ⟨rfl, hP, hK, hn⟩ := hv
  have hts := atoms_spec (ws := Jvm.Cond.codeWith M2.1 M2.2.1 M2.2.2.1 M2.2.2.2.1 (hh M2.1) :: WG) B.pre
  have hl := lv_entry (vals.map (ri_v ad)) (n := M2.2.2.1) (by rw [ri_sl_v]; exact hlen)
  rw [ri_args_v] at hl
  rw [lg_entry_eq]
  generalize (lg_sl (vals.map (ri_v ad)) ++ List.replicate (M2.2.2.1 - (lg_sl (vals.map (ri_v ad))).length) Slot.unset).toArray = ls at hl ⊢
  have hlocks := B.notSynchronized
  have htb : c.exceptionTable.toList = tableOf (hh M2.1) := vx_table (x := M2.1) B (hts _ List.mem_cons_self)
  refine (hF _ _ _ _ _ _ _ _ _ _ _ _ hrun).2 hcs ⟨y, hM⟩ (fun o h => h) hw9 p e _ s m _ below meth c s.heap [] ls _ ⟨B.exec, B.bytes, hml, findClass_of_methodNamed B.named, (name_of_methodNamed B.named B.method).1, B.returns, hlocks, htb, fun x hx => hts x (List.mem_cons_of_mem _ hx), hK, fun ⟨o, ho, hq⟩ => by
      rcases hq with hq | hq
      · exact absurd hq (hns o ho).1
      · exact absurd hq (hns o ho).2⟩ hP va_S.rf hn (Nat.le_refl _) (Nat.le_refl _) (Nat.le_refl _) (Nat.le_refl _) hl ?_ ?_
  · intro r hr H1 locs1 ls1 pc1 hP1 hS1 hn1 hq
    refine vx_ret ?_
    have hQ : ∀ t : State, t.heap = H1 → s.WarmedH t.vm → ri_Qc cl al D ad cA out (vals.map (ri_v ad)).toArray s (.returned (r.map (ri_v ad))) t := fun t ht _ => ⟨r, hr, rfl, by rw [ht]; exact hP1, fun h => by rw [ht]; exact hn1 h, hS1.F ht⟩
    rcases hq with ⟨rfl, h2, h3⟩ | ⟨x, t, rfl, h2, h3, h4⟩ | ⟨x, rfl, h2, h3⟩ | ⟨x, rfl, h2, h3⟩ | ⟨x, t, rfl, h2, h3, h4⟩ | ⟨x, rfl, h2, h3⟩
    · exact W.vret B.exec B.bytes (by rw [B.returns, h2]) hQ hS1.2.2 h3
    · exact W.zret B.exec B.bytes (by rw [B.returns, h2]) h3 hQ hS1.2.2 h4
    · exact W.lret B.exec B.bytes (by rw [B.returns, h2]) hQ hS1.2.2 h3
    · exact W.dret B.exec B.bytes (by rw [B.returns, h2]) hQ hS1.2.2 h3
    · exact W.aret B.exec B.bytes (by rw [B.returns, h2]) h3 (Or.inr ⟨_, rfl⟩) hQ hS1.2.2 h4
    · exact W.zret B.exec B.bytes (by rw [B.returns, h2]) rfl hQ hS1.2.2 h3
  · intro x hx
    exact ⟨_, _, rfl, fun t ht h1 h2 => ⟨x, hx, rfl, h1, h2⟩⟩
section
variable {p : Program} {l : Launch} {e : Env} {R : Room} {s : State} {m : MethodId} {args : Array Value} {below : List Frame} {meth : Method} {c : Code} {H : Heap} {locs : List Loc} {cells slots : Nat} {Q : State → Prop}
/-- behind a call -/
theorem ri_called {out : ri_Out} {mc ms pc : Nat} {ls : Array Slot} {st0 rest : List Value} {va : Array Value} (hr : vx_Run p l e R s m args below meth c H locs cells slots mc ms (F0 m pc ls st0) rest (ri_Qc cl al D ad cA out va) (ri_XC cl exn D ad cA out) (ri_A ad)) (hS : va_S (ri_A ad) s.heap H locs)
    (kk : ∀ (r : Option Value) (H1 : Heap) (locs1 : List Loc), out.1 = .inl r → ri_P D cl ad cA out.2.1 H1 → (al out.2.1.length = true → ri_nx ad out.2.1.length H1.size) → va_S (ri_A ad) s.heap H1 locs1 → W p l e R s m args below meth c H1 locs1 (cells + mc) (slots + ms) Q (F0 m (pc + 3) ls ((r.map (ri_v ad)).toList ++ rest)))
    (kx : ∀ (x : Nat) (q : Addr) (ce : Cell) (H1 : Heap) (locs1 : List Loc), out.1 = .inr x → ri_P D cl ad cA out.2.1 H1 → va_S (ri_A ad) s.heap H1 locs1 → H1[q]? = some ce → ce.vm = .none → s.vm.findClass (exn x) = some ce.cls → vx_W p l e R s m args below meth c H1 locs1 (cells + mc) (slots + ms) Q (F0 m pc ls rest) q) :
    W p l e R s m args below meth c H locs cells slots Q (F0 m pc ls st0) := by
  intro T hT X
  rcases hr T hT X with ⟨v, st₀, t, T', L, h0, X', hL, e1, e2, ⟨r, hr1, hr2, hr3, hr4, hr5⟩, st⟩ | ⟨q, st₀, t, T', L, E, ce, h0, X', hL, e1, e2, ⟨x, hx1, hx2, hx3, hx4⟩, hce, hcv, hcl, st⟩
  · obtain ⟨k1, k2, k3⟩ := vx_keep h0 e1 hS (fun _ _ h => h) (fun _ h => h) hL hr5
    cases hr2
    obtain ⟨t2, a1, b1⟩ := kk r T'.heap (locs ++ L) hr1 (by rw [e1]; exact hr3) (fun h => by rw [e1]; exact hr4 h) k3 T' rfl X'
    exact ⟨t2, st t2 a1, b1⟩
  · obtain ⟨k1, k2, k3⟩ := vx_keep h0 e1 hS (fun _ _ h => h) (fun _ h => h) hL hx4
    subst hx2
    obtain ⟨t2, a1, b1⟩ := kx x q ce T'.heap (locs ++ L) hx1 (by rw [e1]; exact hx3) k3 (by rw [e1]; exact hce) hcv hcl T' rfl X'
    exact ⟨t2, st.trans a1, b1⟩
end
end RIS
end
section
/-! ===== the reckoner, part 9: calls ===== -/
theorem ri_more_eq {cs : List ri_Cd} {o : Option ri_Out} {out : ri_Out} (h : ri_more cs o = some out) : ∃ z : ri_Out, o = some z ∧ out = (z.1, z.2.1, z.2.2.1, z.2.2.2.1, cs ++ z.2.2.2.2.1, z.2.2.2.2.2) := by
  cases o with
  | none => cases h
  | some z => exact ⟨z, rfl, (Option.some.inj h).symm⟩
theorem ri_back_eq {f : ri_K} {d bud : Nat} {M : ri_M} {nxt : List ri_Op} {pc : Nat} {lv : ri_L} {rest : List Value} {nc ns : Nat} {o : Option ri_Out} {out : ri_Out} (h : ri_back f d bud M nxt pc lv rest nc ns o = some out) :
    (∃ (r : Option Value) (w2 : List ri_E) (nc2 ns2 : Nat) (cs : List ri_Cd) (fr2 : Nat) (z : ri_Out), o = some (.inl r, w2, nc2, ns2, cs, fr2) ∧ f d bud M nxt (pc + 3) lv (r.toList ++ rest) w2 (nc + nc2) (ns + ns2) fr2 = some z ∧ out = (z.1, z.2.1, z.2.2.1, z.2.2.2.1, cs ++ z.2.2.2.2.1, z.2.2.2.2.2)) ∨
    (∃ (x : Nat) (w2 : List ri_E) (nc2 ns2 : Nat) (cs : List ri_Cd) (fr2 : Nat), o = some (.inr x, w2, nc2, ns2, cs, fr2) ∧ out = (.inr x, w2, nc + nc2, ns + ns2, cs, fr2)) := by
  unfold ri_back at h
  split at h
  · rename_i r w2 nc2 ns2 cs fr2
    obtain ⟨z, h1, h2⟩ := ri_more_eq h
    exact Or.inl ⟨r, w2, nc2, ns2, cs, fr2, z, rfl, h1, h2⟩
  · rename_i x w2 nc2 ns2 cs fr2
    exact Or.inr ⟨x, w2, nc2, ns2, cs, fr2, rfl, (Option.some.inj h).symm⟩
  · cases h
theorem ri_caught_eq {f : ri_K} {d bud : Nat} {M : ri_M} {lv : ri_L} {w : List ri_E} {nc ns fr : Nat} {cs : List ri_Cd} {os : List ri_Op} {out : ri_Out} (h : ri_caught f d bud M lv w nc ns fr cs os = some out) : ∃ (oh : ri_Op) (nx2 : List ri_Op) (k ln : Nat) (z : ri_Out), os = oh :: nx2 ∧ k < M.2.2.1 ∧ ((∃ k4 : Fin 4, oh.2.2.1 = .astore_n k4 ∧ k4.val = k ∧ ln = 1) ∨ (oh.2.2.1 = .astore k ∧ ln = 2)) ∧ f d bud M nx2 (oh.1 + ln) (lv.filter (ri_f1 k)) [] w nc ns fr = some z ∧ out = (z.1, z.2.1, z.2.2.1, z.2.2.2.1, cs ++ z.2.2.2.2.1, z.2.2.2.2.2) := by
  unfold ri_caught at h
  split at h
  · rename_i oh nx2
    split at h
    · rename_i k4 hk
      obtain ⟨h1, h2⟩ := ri_ok_eq h
      obtain ⟨z, h3, h4⟩ := ri_more_eq h2
      exact ⟨oh, nx2, k4.val, 1, z, rfl, Nat.le_of_ble_eq_true h1, Or.inl ⟨k4, hk, rfl, rfl⟩, h3, h4⟩
    · rename_i k hk
      obtain ⟨h1, h2⟩ := ri_ok_eq h
      obtain ⟨z, h3, h4⟩ := ri_more_eq h2
      exact ⟨oh, nx2, k, 2, z, rfl, Nat.le_of_ble_eq_true h1, Or.inr ⟨hk, rfl⟩, h3, h4⟩
    · cases h
  · cases h
theorem ri_backH_eq {al : Nat → Bool} {f : ri_K} {d bud : Nat} {M : ri_M} {nxt : List ri_Op} {pc : Nat} {lv : ri_L} {rest : List Value} {nc ns : Nat} {hs : List Nat} {o : Option ri_Out} {out : ri_Out} (h : ri_backH al f d bud M nxt pc lv rest nc ns hs o = some out) :
    (∃ (r : Option Value) (w2 : List ri_E) (nc2 ns2 : Nat) (cs : List ri_Cd) (fr2 : Nat) (z : ri_Out), o = some (.inl r, w2, nc2, ns2, cs, fr2) ∧ f d bud M nxt (pc + 3) lv (r.toList ++ rest) w2 (nc + nc2) (ns + ns2) fr2 = some z ∧ out = (z.1, z.2.1, z.2.2.1, z.2.2.2.1, cs ++ z.2.2.2.2.1, z.2.2.2.2.2)) ∨
    (∃ (x : Nat) (w2 : List ri_E) (nc2 ns2 : Nat) (cs : List ri_Cd) (fr2 t : Nat), al w2.length = false ∧ o = some (.inr x, w2, nc2, ns2, cs, fr2) ∧ hs[x]? = some t ∧ ri_caught f d bud M lv w2 (nc + nc2) (ns + ns2) fr2 cs (M.2.2.2.2.2.drop t) = some out) := by
  unfold ri_backH at h
  split at h
  · rename_i r w2 nc2 ns2 cs fr2
    obtain ⟨z, h1, h2⟩ := ri_more_eq h
    exact Or.inl ⟨r, w2, nc2, ns2, cs, fr2, z, rfl, h1, h2⟩
  · rename_i x w2 nc2 ns2 cs fr2
    obtain ⟨ha, h9⟩ := ri_ok_eq h
    split at h9
    · rename_i t ht
      rw [ri_nth_eq] at ht
      rw [ri_drop_eq] at h9
      exact Or.inr ⟨x, w2, nc2, ns2, cs, fr2, t, by simpa using ha, rfl, ht, h9⟩
    · cases h9
  · cases h
theorem ri_enter_eq {f : ri_K} {d bud : Nat} {M : ri_M} {vals rest : List Value} {w : List ri_E} {fr : Nat} {o : ri_Out} (h : ri_enter f d bud M vals rest w fr = some o) : 1 ≤ d ∧ 19 + M.2.2.1 ≤ bud ∧ ri_cat rest ≤ 8 ∧ (lg_sl vals).length ≤ M.2.2.1 ∧ f (d - 1) (bud - (19 + M.2.2.1)) M M.2.2.2.2.2 0 (lv_args 0 vals) [] w 0 0 fr = some o := by
  obtain ⟨hb, h2⟩ := ri_ok_eq h
  simp only [Bool.and_eq_true] at hb
  obtain ⟨b1, b2, b3, b4⟩ := hb
  exact ⟨Nat.le_of_ble_eq_true b1, Nat.le_of_ble_eq_true b2, Nat.le_of_ble_eq_true b3, Nat.le_of_ble_eq_true b4, h2⟩
section RIC
variable {WG : List Jvm.Cond} {hh : MethodName → List (Nat × Nat × Nat × Nat)} {NW : List ri_N} {CW : List ri_C9} {NC : List (String × String)} {AO : List FieldType} {cl : List vw_C} {Ms : List ri_M} {ty : Nat → Nat → FieldType} {df : Nat → List Value} {tyL : List FieldType} {exl : Nat → Nat} {exn : Nat → String} {xs : Nat → Value} {L : Nat} {al : Nat → Bool} {orc : List (Bool ⊕ Int32)} {D : va_G} {ad : Nat → Nat} {cA : Nat → ClassId}
theorem ri_good (hg : ∀ w ∈ WG, goodWord w = true) {x : Jvm.Cond} (hx : x ∈ WG) : GoodIn WG (x :: WG) := fun w hw => (List.mem_cons.mp hw).elim (fun e => by subst e; exact ⟨hx, good_of_word (hg _ hx)⟩) (fun h => ⟨h, good_of_word (hg w h)⟩)
theorem ri_back_mono {l : Launch} {f : ri_K} (hF : ri_Snd WG hh NW CW NC AO cl Ms tyL exn xs L al D ad cA l f) {d bud : Nat} {M M2 : ri_M} {nxt : List ri_Op} {pc : Nat} {lv : ri_L} {vals rest : List Value} {w : List ri_E} {nc ns fr : Nat} {out : ri_Out} (h : ri_back f d bud M nxt pc lv rest nc ns (ri_enter f d bud M2 vals rest w fr) = some out) : nc ≤ out.2.2.1 ∧ ns ≤ out.2.2.2.1 ∧ (w.length ≤ 1000000 → out.2.1.length ≤ 1000000) := by
  rcases ri_back_eq h with ⟨r, w2, nc2, ns2, cs, fr2, z, h0, h1, rfl⟩ | ⟨x, w2, nc2, ns2, cs, fr2, h0, rfl⟩
  · obtain ⟨g1, g2, g3, g4, g5⟩ := ri_enter_eq h0
    have k1 := (hF _ _ _ _ _ _ _ _ _ _ _ _ h1).1
    have k2 := (hF _ _ _ _ _ _ _ _ _ _ _ _ g5).1
    exact ⟨by have := k1.1; show nc ≤ z.2.2.1; omega, by have := k1.2.1; show ns ≤ z.2.2.2.1; omega, fun hw => k1.2.2 (k2.2.2 hw)⟩
  · obtain ⟨g1, g2, g3, g4, g5⟩ := ri_enter_eq h0
    exact ⟨Nat.le_add_right _ _, Nat.le_add_right _ _, (hF _ _ _ _ _ _ _ _ _ _ _ _ g5).1.2.2⟩
theorem ri_backH_mono {l : Launch} {f : ri_K} (hF : ri_Snd WG hh NW CW NC AO cl Ms tyL exn xs L al D ad cA l f) {d bud : Nat} {M M2 : ri_M} {nxt : List ri_Op} {pc : Nat} {lv : ri_L} {vals rest : List Value} {w : List ri_E} {nc ns fr : Nat} {hs : List Nat} {out : ri_Out} (h : ri_backH al f d bud M nxt pc lv rest nc ns hs (ri_enter f d bud M2 vals rest w fr) = some out) : nc ≤ out.2.2.1 ∧ ns ≤ out.2.2.2.1 ∧ (w.length ≤ 1000000 → out.2.1.length ≤ 1000000) := by
  rcases ri_backH_eq h with ⟨r, w2, nc2, ns2, cs, fr2, z, h0, h1, rfl⟩ | ⟨x, w2, nc2, ns2, cs, fr2, t, hal, h0, ht, h1⟩
  · obtain ⟨g1, g2, g3, g4, g5⟩ := ri_enter_eq h0
    have k1 := (hF _ _ _ _ _ _ _ _ _ _ _ _ h1).1
    have k2 := (hF _ _ _ _ _ _ _ _ _ _ _ _ g5).1
    exact ⟨by have := k1.1; show nc ≤ z.2.2.1; omega, by have := k1.2.1; show ns ≤ z.2.2.2.1; omega, fun hw => k1.2.2 (k2.2.2 hw)⟩
  · obtain ⟨g1, g2, g3, g4, g5⟩ := ri_enter_eq h0
    obtain ⟨oh, nx2, k, ln, z, -, -, -, h2, rfl⟩ := ri_caught_eq h1
    have k1 := (hF _ _ _ _ _ _ _ _ _ _ _ _ h2).1
    have k2 := (hF _ _ _ _ _ _ _ _ _ _ _ _ g5).1
    exact ⟨by have := k1.1; show nc ≤ z.2.2.1; omega, by have := k1.2.1; show ns ≤ z.2.2.2.1; omega, fun hw => k1.2.2 (k2.2.2 hw)⟩
section
variable {p : Program} {l : Launch} {e : Env} {R : Room} {s : State} {m : MethodId} {args : Array Value} {below : List Frame} {meth : Method} {c : Code} {H : Heap} {locs : List Loc} {Q : State → Prop}
/-- a call, with whatever row of the kit runs it -/
theorem ri_call_W {f : ri_K} (hF : ri_Snd WG hh NW CW NC AO cl Ms tyL exn xs L al D ad cA l f) {d bud : Nat} {M M2 : ri_M} {nxt : List ri_Op} {pc nc ns fr y : Nat} {lv : ri_L} {vals rest st0 : List Value} {w : List ri_E} {ls : Array Slot} {out : ri_Out}
    (h : ri_back f d bud M nxt pc lv rest nc ns (ri_enter f d bud M2 vals rest w fr) = some out) (hM2 : Ms[y]? = some M2) {cw9 : Jvm.Cond} (mk : ∀ o2 : ri_Out, f (d - 1) (bud - (19 + M2.2.2.1)) M2 M2.2.2.2.2.2 0 (lv_args 0 vals) [] w 0 0 fr = some o2 → (∀ x ∈ o2.2.2.2.2.1, ri_sem ad x) → (lg_sl vals).length ≤ M2.2.2.1 → vx_Met l M2.1 (cw9 :: WG) ({ frames := d - 1, cells := o2.2.2.1, slots := o2.2.2.2.1, locals := bud - (19 + M2.2.2.1) }) (ri_Pc NW CW NC AO cl tyL al D ad cA vals w) (ri_Qc cl al D ad cA o2) (ri_XC cl exn D ad cA o2) o2.2.2.1 o2.2.2.2.1 (ri_A ad)) (hM0 : hh M.1 = [])
    (hcs : ∀ x ∈ out.2.2.2.2.1, ri_sem ad x) (hM : ∃ y : Nat, Ms[y]? = some M) (hcur : ∀ o ∈ nxt, o ∈ M.2.2.2.2.2) (hw9 : w.length ≤ 1000000) (hfr : ri_Fr WG hh NW CW NC AO cl tyL xs L D ad cA M p s m args meth c) (hS : va_S (ri_A ad) s.heap H locs) (hdR : d ≤ R.frames) (hbR : bud ≤ R.locals) (hcR : out.2.2.1 ≤ R.cells) (hsR : out.2.2.2.1 ≤ R.slots) (hl : lv_has ls M.2.2.1 (ri_lr ad lv))
    (hret : ∀ r : Option Value, out.1 = .inl r → ∀ (H1 : Heap) (locs1 : List Loc) (ls1 : Array Slot) (pc1 : Nat), ri_P D cl ad cA out.2.1 H1 → va_S (ri_A ad) s.heap H1 locs1 → (al out.2.1.length = true → ri_nx ad out.2.1.length H1.size) → ri_isret M.2.1 pc1 M.2.2.2.1 r → W p l e R s m args below meth c H1 locs1 out.2.2.1 out.2.2.2.1 Q (F0 m pc1 ls1 (r.toList.map (ri_v ad))))
    (hthr : ∀ x : Nat, out.1 = .inr x → ∃ (Qc : Array Value → State → Outcome → State → Prop) (XC : String → State → State → Prop), Q = vx_MQ below Qc XC args s out.2.2.1 out.2.2.2.1 (ri_A ad) ∧ ∀ t : State, s.vm.Alike t.vm → ri_P D cl ad cA out.2.1 t.heap → va_F (ri_A ad) s t → XC (exn x) s t)
    (runner : ∀ (o2 : ri_Out) (rm : Room), vx_Met l M2.1 (cw9 :: WG) rm (ri_Pc NW CW NC AO cl tyL al D ad cA vals w) (ri_Qc cl al D ad cA o2) (ri_XC cl exn D ad cA o2) o2.2.2.1 o2.2.2.2.1 (ri_A ad) → rm.cells = o2.2.2.1 → rm.slots = o2.2.2.2.1 → rm.frames + 1 ≤ R.frames ∧ 8 + (M2.2.2.1 + 11) + rm.locals ≤ R.locals → ri_cat rest ≤ 8 → nc + o2.2.2.1 ≤ R.cells ∧ ns + o2.2.2.2.1 ≤ R.slots →
      vx_Run p l e R s m args below meth c H locs nc ns o2.2.2.1 o2.2.2.2.1 (F0 m pc ls st0) (rest.map (ri_v ad)) (ri_Qc cl al D ad cA o2 (vals.map (ri_v ad)).toArray) (ri_XC cl exn D ad cA o2) (ri_A ad)) :
    W p l e R s m args below meth c H locs nc ns Q (F0 m pc ls st0) := by
  obtain ⟨hx, hb, hml, hown, hname, hr, hlocks, hnt, hts, hK, hsc⟩ := id hfr
  rcases ri_back_eq h with ⟨r, w2, nc2, ns2, cs, fr2, z, h1, h2, rfl⟩ | ⟨x, w2, nc2, ns2, cs, fr2, h1, rfl⟩
  · obtain ⟨g1, g2, g3, g4, g5⟩ := ri_enter_eq h1
    have hmono := (hF _ _ _ _ _ _ _ _ _ _ _ _ h2).1
    have hcs2 : ∀ x ∈ cs, ri_sem ad x := fun x hx => hcs x (List.mem_append_left _ hx)
    have hMet := mk _ g5 hcs2 g4
    have hlen2 := (hF _ _ _ _ _ _ _ _ _ _ _ _ g5).1.2.2 hw9
    refine ri_called (runner _ _ hMet rfl rfl ⟨by show d - 1 + 1 ≤ R.frames; omega, by show 8 + (M2.2.2.1 + 11) + (bud - (19 + M2.2.2.1)) ≤ R.locals; omega⟩ g3 ⟨Nat.le_trans hmono.1 hcR, Nat.le_trans hmono.2.1 hsR⟩) hS (fun r9 H1 locs1 hr9 hP1 hn1 hS1 => ?_) (fun x9 q ce H1 locs1 hx9 => by cases hx9)
    cases hr9
    have k := (hF _ _ _ _ _ _ _ _ _ _ _ _ h2).2 (fun x hx => hcs x (List.mem_append_right _ hx)) hM hcur hlen2 p e R s m args below meth c H1 locs1 ls Q hfr hP1 hS1 hn1 hdR hbR hcR hsR hl hret hthr
    have e9 : (r.map (ri_v ad)).toList ++ rest.map (ri_v ad) = (r.toList ++ rest).map (ri_v ad) := by cases r <;> rfl
    rw [e9]
    exact k
  · obtain ⟨g1, g2, g3, g4, g5⟩ := ri_enter_eq h1
    have hMet := mk _ g5 hcs g4
    refine ri_called (runner _ _ hMet rfl rfl ⟨by show d - 1 + 1 ≤ R.frames; omega, by show 8 + (M2.2.2.1 + 11) + (bud - (19 + M2.2.2.1)) ≤ R.locals; omega⟩ g3 ⟨hcR, hsR⟩) hS (fun r9 H1 locs1 hr9 => by cases hr9) (fun x9 q ce H1 locs1 hx9 hP1 hS1 hce hcv hcl => ?_)
    cases hx9
    obtain ⟨Qc, XC, rfl, hXC⟩ := hthr x rfl
    exact vx_out (fun z hz => by rw [hnt, hM0] at hz; cases hz) hlocks hce hcv hcl (fun t ht hvm => hXC t hvm (by rw [ht]; exact hP1) (hS1.F ht)) hS1.2.2 (Nat.le_refl _) (Nat.le_refl _)
/-- a call where handlers stand -/
theorem ri_call_WH {f : ri_K} (hF : ri_Snd WG hh NW CW NC AO cl Ms tyL exn xs L al D ad cA l f) {d bud : Nat} {M M2 : ri_M} {nxt : List ri_Op} {pc nc ns fr y : Nat} {hs : List Nat} {lv : ri_L} {vals rest st0 : List Value} {w : List ri_E} {ls : Array Slot} {out : ri_Out}
    (h : ri_backH al f d bud M nxt pc lv rest nc ns hs (ri_enter f d bud M2 vals rest w fr) = some out) (hM2 : Ms[y]? = some M2) {cw9 : Jvm.Cond} (mk : ∀ o2 : ri_Out, f (d - 1) (bud - (19 + M2.2.2.1)) M2 M2.2.2.2.2.2 0 (lv_args 0 vals) [] w 0 0 fr = some o2 → (∀ x ∈ o2.2.2.2.2.1, ri_sem ad x) → (lg_sl vals).length ≤ M2.2.2.1 → vx_Met l M2.1 (cw9 :: WG) ({ frames := d - 1, cells := o2.2.2.1, slots := o2.2.2.2.1, locals := bud - (19 + M2.2.2.1) }) (ri_Pc NW CW NC AO cl tyL al D ad cA vals w) (ri_Qc cl al D ad cA o2) (ri_XC cl exn D ad cA o2) o2.2.2.1 o2.2.2.2.1 (ri_A ad)) (hhl : ri_hlink WG hh CW NC exn M pc hs) (hops : ∀ o ∈ M.2.2.2.2.2, ∃ len : Nat, decode M.2.1 o.1 = .ok (o.2.2.1, len) ∧ (ri_len o.2.2.1 = 0 ∨ ri_len o.2.2.1 = len))
    (hcs : ∀ x ∈ out.2.2.2.2.1, ri_sem ad x) (hM : ∃ y : Nat, Ms[y]? = some M) (hcur : ∀ o ∈ nxt, o ∈ M.2.2.2.2.2) (hw9 : w.length ≤ 1000000) (hfr : ri_Fr WG hh NW CW NC AO cl tyL xs L D ad cA M p s m args meth c) (hS : va_S (ri_A ad) s.heap H locs) (hdR : d ≤ R.frames) (hbR : bud ≤ R.locals) (hcR : out.2.2.1 ≤ R.cells) (hsR : out.2.2.2.1 ≤ R.slots) (hl : lv_has ls M.2.2.1 (ri_lr ad lv))
    (hret : ∀ r : Option Value, out.1 = .inl r → ∀ (H1 : Heap) (locs1 : List Loc) (ls1 : Array Slot) (pc1 : Nat), ri_P D cl ad cA out.2.1 H1 → va_S (ri_A ad) s.heap H1 locs1 → (al out.2.1.length = true → ri_nx ad out.2.1.length H1.size) → ri_isret M.2.1 pc1 M.2.2.2.1 r → W p l e R s m args below meth c H1 locs1 out.2.2.1 out.2.2.2.1 Q (F0 m pc1 ls1 (r.toList.map (ri_v ad))))
    (hthr : ∀ x : Nat, out.1 = .inr x → ∃ (Qc : Array Value → State → Outcome → State → Prop) (XC : String → State → State → Prop), Q = vx_MQ below Qc XC args s out.2.2.1 out.2.2.2.1 (ri_A ad) ∧ ∀ t : State, s.vm.Alike t.vm → ri_P D cl ad cA out.2.1 t.heap → va_F (ri_A ad) s t → XC (exn x) s t)
    (runner : ∀ (o2 : ri_Out) (rm : Room), vx_Met l M2.1 (cw9 :: WG) rm (ri_Pc NW CW NC AO cl tyL al D ad cA vals w) (ri_Qc cl al D ad cA o2) (ri_XC cl exn D ad cA o2) o2.2.2.1 o2.2.2.2.1 (ri_A ad) → rm.cells = o2.2.2.1 → rm.slots = o2.2.2.2.1 → rm.frames + 1 ≤ R.frames ∧ 8 + (M2.2.2.1 + 11) + rm.locals ≤ R.locals → ri_cat rest ≤ 8 → nc + o2.2.2.1 ≤ R.cells ∧ ns + o2.2.2.2.1 ≤ R.slots →
      vx_Run p l e R s m args below meth c H locs nc ns o2.2.2.1 o2.2.2.2.1 (F0 m pc ls st0) (rest.map (ri_v ad)) (ri_Qc cl al D ad cA o2 (vals.map (ri_v ad)).toArray) (ri_XC cl exn D ad cA o2) (ri_A ad)) :
    W p l e R s m args below meth c H locs nc ns Q (F0 m pc ls st0) := by
  obtain ⟨hx, hb, hml, hown, hname, hr, hlocks, hnt, hts, hK, hsc⟩ := id hfr
  rcases ri_backH_eq h with ⟨r, w2, nc2, ns2, cs, fr2, z, h1, h2, rfl⟩ | ⟨x, w2, nc2, ns2, cs, fr2, t, hal, h1, ht, h2⟩
  · obtain ⟨g1, g2, g3, g4, g5⟩ := ri_enter_eq h1
    have hmono := (hF _ _ _ _ _ _ _ _ _ _ _ _ h2).1
    have hcs2 : ∀ x ∈ cs, ri_sem ad x := fun x hx => hcs x (List.mem_append_left _ hx)
    have hMet := mk _ g5 hcs2 g4
    have hlen2 := (hF _ _ _ _ _ _ _ _ _ _ _ _ g5).1.2.2 hw9
    refine ri_called (runner _ _ hMet rfl rfl ⟨by show d - 1 + 1 ≤ R.frames; omega, by show 8 + (M2.2.2.1 + 11) + (bud - (19 + M2.2.2.1)) ≤ R.locals; omega⟩ g3 ⟨Nat.le_trans hmono.1 hcR, Nat.le_trans hmono.2.1 hsR⟩) hS (fun r9 H1 locs1 hr9 hP1 hn1 hS1 => ?_) (fun x9 q ce H1 locs1 hx9 => by cases hx9)
    cases hr9
    have k := (hF _ _ _ _ _ _ _ _ _ _ _ _ h2).2 (fun x hx => hcs x (List.mem_append_right _ hx)) hM hcur hlen2 p e R s m args below meth c H1 locs1 ls Q hfr hP1 hS1 hn1 hdR hbR hcR hsR hl hret hthr
    have e9 : (r.map (ri_v ad)).toList ++ rest.map (ri_v ad) = (r.toList ++ rest).map (ri_v ad) := by cases r <;> rfl
    rw [e9]
    exact k
  · obtain ⟨g1, g2, g3, g4, g5⟩ := ri_enter_eq h1
    obtain ⟨oh, nx2, k, ln, z, e1, hk, hins, h3, rfl⟩ := ri_caught_eq h2
    have hmono := (hF _ _ _ _ _ _ _ _ _ _ _ _ h3).1
    have hcs2 : ∀ x ∈ cs, ri_sem ad x := fun x hx => hcs x (List.mem_append_left _ hx)
    have hMet := mk _ g5 hcs2 g4
    have hlen2 := (hF _ _ _ _ _ _ _ _ _ _ _ _ g5).1.2.2 hw9
    have hmem : ∀ o ∈ oh :: nx2, o ∈ M.2.2.2.2.2 := fun o ho => List.mem_of_mem_drop (by rw [e1]; exact ho)
    refine ri_called (runner _ _ hMet rfl rfl ⟨by show d - 1 + 1 ≤ R.frames; omega, by show 8 + (M2.2.2.1 + 11) + (bud - (19 + M2.2.2.1)) ≤ R.locals; omega⟩ g3 ⟨Nat.le_trans hmono.1 hcR, Nat.le_trans hmono.2.1 hsR⟩) hS (fun r9 H1 locs1 hr9 => by cases hr9) (fun x9 q ce H1 locs1 hx9 hP1 hS1 hce hcv hcl => ?_)
    cases hx9
    obtain ⟨pre, z9, suf, t1, t2, t3, t4, ⟨nm, t5, t6⟩, t7⟩ := hhl x t oh nx2 ht e1
    refine vx_catch hown pre z9 suf (hnt.trans t1) (fun y hy => (t7 y hy).imp (fun q => q) (fun ⟨q1, nm2, q2, q3⟩ => ⟨q1, nm2, hts _ q2, hK.2.2.2.1 _ q3⟩)) t3 t4 (hts _ t5) (va_Nw.use (ri_cw_on (Sum.inl (exn x, nm))) (hK.2.2.1 _ t6)) hce hcv hcl ?_
    rw [t2]
    obtain ⟨len, hd, hlen⟩ := hops oh (hmem _ List.mem_cons_self)
    have kk : ∀ ls2 : Array Slot, lv_has ls2 M.2.2.1 ((k, .ref q) :: (ri_lr ad lv).filter (fun q => !(q.1 == k) && !(q.1 + 1 == k && q.2.category == 2))) → W p l e R s m args below meth c H1 locs1 (nc + nc2) (ns + ns2) Q (F0 m (oh.1 + ln) ls2 []) := fun ls2 hl2 => by
      have hl3 : lv_has ls2 M.2.2.1 (ri_lr ad (lv.filter (ri_f1 k))) := by
        rw [← ri_filter (ad := ad) (f := ri_f1 k) (fun q => by unfold ri_f1; rw [ri_v_cat]) lv]
        exact ⟨hl2.1, hl2.2.1, fun q hq => hl2.2.2 q (List.mem_cons_of_mem _ hq)⟩
      exact (hF _ _ _ _ _ _ _ _ _ _ _ _ h3).2 (fun x hx => hcs x (List.mem_append_right _ hx)) hM (fun o ho => hmem o (List.mem_cons_of_mem _ ho)) hlen2 p e R s m args below meth c H1 locs1 ls2 Q hfr hP1 hS1 (fun g => by rw [hal] at g; cases g) hdR hbR hcR hsR hl3 hret hthr
    rcases hins with ⟨k4, i1, i2, rfl⟩ | ⟨i1, rfl⟩
    · rw [i1] at hd hlen
      cases (hlen.resolve_left (fun q => by cases q) : 1 = len)
      exact lv_astore_n hx hb hd i2 hl hk rfl kk
    · rw [i1] at hd hlen
      cases (hlen.resolve_left (fun q => by cases q) : 2 = len)
      exact lv_astore hx hb hd hl hk rfl kk
end
end RIC
end
section
/-! ===== the reckoner, part 10: each kind of call ===== -/
section RIC2
variable {WG : List Jvm.Cond} {hh : MethodName → List (Nat × Nat × Nat × Nat)} {NW : List ri_N} {CW : List ri_C9} {NC : List (String × String)} {AO : List FieldType} {cl : List vw_C} {Ms : List ri_M} {ty : Nat → Nat → FieldType} {df : Nat → List Value} {tyL : List FieldType} {exl : Nat → Nat} {exn : Nat → String} {xs : Nat → Value} {L : Nat} {al : Nat → Bool} {orc : List (Bool ⊕ Int32)} {D : va_G} {ad : Nat → Nat} {cA : Nat → ClassId}
theorem ri_call_mono {l : Launch} {f : ri_K} (hF : ri_Snd WG hh NW CW NC AO cl Ms tyL exn xs L al D ad cA l f) {d bud : Nat} {M : ri_M} {nxt : List ri_Op} {pc : Nat} {lv : ri_L} {st : List Value} {w : List ri_E} {nc ns fr a b : Nat} {ts : List Nat} {out : ri_Out} (h : ri_call Ms al f d bud M nxt pc lv st w nc ns fr a b ts = some out) : nc ≤ out.2.2.1 ∧ ns ≤ out.2.2.2.1 ∧ (w.length ≤ 1000000 → out.2.1.length ≤ 1000000) := by
  unfold ri_call at h
  split at h
  · split at h
    · split at h
      · split at h
        · split at h
          · exact ri_back_mono hF (ri_ok_eq h).2
          · cases h
        · cases h
      · exact ri_back_mono hF h
      · split at h
        · exact ri_back_mono hF h
        · cases h
      · split at h
        · exact ri_back_mono hF h
        · cases h
      · exact ri_back_mono hF h
      · split at h
        · split at h
          · split at h
            · exact ri_backH_mono hF (ri_ok_eq h).2
            · cases h
          · cases h
        · cases h
      · exact ri_back_mono hF h
      · cases h
    · cases h
  · cases h
section
variable {p : Program} {l : Launch} {e : Env} {R : Room} {s : State} {m : MethodId} {args : Array Value} {below : List Frame} {meth : Method} {c : Code} {H : Heap} {locs : List Loc} {Q : State → Prop}
theorem ri_stack {n : Nat} {st As rest : List Value} (h : ri_split n [] st = some (As, rest)) : As.length = n ∧ st.map (ri_v ad) = (As.map (ri_v ad)).reverse ++ rest.map (ri_v ad) := by
  obtain ⟨Bs, h1, rfl, h3⟩ := ri_split_eq n [] st As rest h
  rw [List.append_nil] at h3
  subst h3
  exact ⟨by rw [List.length_reverse, h1], by rw [List.map_append, List.map_reverse, List.reverse_reverse]⟩
theorem ri_call_ok {f : ri_K} (hF : ri_Snd WG hh NW CW NC AO cl Ms tyL exn xs L al D ad cA l f) (hg : ∀ w ∈ WG, goodWord w = true) {d bud : Nat} {M : ri_M} {nxt : List ri_Op} {pc nc ns fr a b : Nat} {lv : ri_L} {st : List Value} {w : List ri_E} {ts : List Nat} {i : Instr} {ls : Array Slot} {out : ri_Out}
    (h : ri_call Ms al f d bud M nxt pc lv st w nc ns fr a b ts = some out) (hlk : ri_clink WG hh NW CW NC cl Ms exn M pc i a b ts) (hops : ∀ o ∈ M.2.2.2.2.2, ∃ len : Nat, decode M.2.1 o.1 = .ok (o.2.2.1, len) ∧ (ri_len o.2.2.1 = 0 ∨ ri_len o.2.2.1 = len)) (hd : decode M.2.1 pc = .ok (i, 3))
    (hcs : ∀ x ∈ out.2.2.2.2.1, ri_sem ad x) (hM : ∃ y : Nat, Ms[y]? = some M) (hcur : ∀ o ∈ nxt, o ∈ M.2.2.2.2.2) (hw9 : w.length ≤ 1000000) (hfr : ri_Fr WG hh NW CW NC AO cl tyL xs L D ad cA M p s m args meth c) (hP : ri_P D cl ad cA w H) (hS : va_S (ri_A ad) s.heap H locs) (hn : al w.length = true → ri_nx ad w.length H.size) (hdR : d ≤ R.frames) (hbR : bud ≤ R.locals) (hcR : out.2.2.1 ≤ R.cells) (hsR : out.2.2.2.1 ≤ R.slots) (hl : lv_has ls M.2.2.1 (ri_lr ad lv))
    (hret : ∀ r : Option Value, out.1 = .inl r → ∀ (H1 : Heap) (locs1 : List Loc) (ls1 : Array Slot) (pc1 : Nat), ri_P D cl ad cA out.2.1 H1 → va_S (ri_A ad) s.heap H1 locs1 → (al out.2.1.length = true → ri_nx ad out.2.1.length H1.size) → ri_isret M.2.1 pc1 M.2.2.2.1 r → W p l e R s m args below meth c H1 locs1 out.2.2.1 out.2.2.2.1 Q (F0 m pc1 ls1 (r.toList.map (ri_v ad))))
    (hthr : ∀ x : Nat, out.1 = .inr x → ∃ (Qc : Array Value → State → Outcome → State → Prop) (XC : String → State → State → Prop), Q = vx_MQ below Qc XC args s out.2.2.1 out.2.2.2.1 (ri_A ad) ∧ ∀ t : State, s.vm.Alike t.vm → ri_P D cl ad cA out.2.1 t.heap → va_F (ri_A ad) s t → XC (exn x) s t) :
    W p l e R s m args below meth c H locs nc ns Q (F0 m pc ls (st.map (ri_v ad))) := by
  obtain ⟨hx, hb, hml, hown, hname, hr, hlocks, hnt, hts, hK, hsc⟩ := id hfr
  obtain ⟨M2, hM2, hns, hkind⟩ := hlk
  have hlsz : ls.size = M.2.2.1 := hl.1
  unfold ri_call at h
  rw [ri_nth_eq, hM2] at h
  dsimp only at h
  split at h
  · rename_i As rest hsp
    obtain ⟨hAl, hst⟩ := ri_stack (ad := ad) hsp
    have hAl2 : (As.map (ri_v ad)).length = M2.2.2.2.2.1 := by rw [List.length_map]; exact hAl
    have hpre : ∀ (vals : List Value) (U : State), U.heap = H → s.WarmedH U.vm → ri_Pc NW CW NC AO cl tyL al D ad cA vals w (vals.map (ri_v ad)).toArray U := fun vals U hU hW => ⟨rfl, by rw [hU]; exact hP, hK.go hS hU hW, fun h9 => by rw [hU]; exact hn h9⟩
    split at h
    · obtain ⟨hM0, hok, idx, t, r, rfl, rfl, hr1, hr2, q1, q2, q3⟩ := hkind
      obtain ⟨ok0, ok1, ok2, ok3, ok4, ok5⟩ := id hok
      have hdd : M2.1.cls ≠ "java/lang/invoke/MethodHandle" ∧ M2.1.cls ≠ "java/lang/invoke/VarHandle" ∧ (parseMethodDescriptor M2.1.desc).map (fun d => d.parameters.length) = some M2.2.2.2.2.1 := ⟨ok4.1, ok4.2, ok5⟩
      split at h
      · rename_i q rest2
        split at h
        · rename_i o ho
          rw [ri_nth_eq] at ho
          obtain ⟨ht, h2⟩ := ri_ok_eq h
          have ht2 : o.1 = t := Nat.eq_of_beq_eq_true ht
          refine ri_call_W hF h2 hM2 (fun o2 g5 hc g4 => ri_met hF hM2 hok hns g5 hc g4 hw9) hM0 hcs hM hcur hw9 hfr hS hdR hbR hcR hsR hl hret hthr (fun o2 rm hMet e1 e2 hR hcat hf => ?_)
          refine vx_runV (As := As.map (ri_v ad)) (b := ad q) (C := M2.1.cls) ⟨hx, hb, hml, hown, hts⟩ hMet ⟨callB_of M2.2.2.2.2.1 hts (ri_good hg ok2) rfl e1 e2 (hts _ ok3) (hts _ q1) hdd hR, hts _ q2, hts _ q3⟩ ⟨ri_blind _ _, ?_, fun U hU hW => hpre (.ref q :: As) U hU hW⟩ rfl hAl2 hlsz hst (lv_room (by rw [ri_cat_v]; exact hcat)) hd hf
          obtain ⟨r9, g1, cell, g2, g3, g4, g5⟩ := hP q _ ho
          refine ⟨cell, g2, by rw [g4]; rfl, ?_⟩
          have hk := (hK.1.1 t r hr1).2.1
          rw [← hr2, hk, g3, ht2]
        · cases h
      · cases h
    · obtain ⟨hM0, hok, idx, rfl, q1, q2⟩ := hkind
      obtain ⟨ok0, ok1, ok2, ok3, ok4, ok5⟩ := id hok
      have hdd : M2.1.cls ≠ "java/lang/invoke/MethodHandle" ∧ M2.1.cls ≠ "java/lang/invoke/VarHandle" ∧ (parseMethodDescriptor M2.1.desc).map (fun d => d.parameters.length) = some M2.2.2.2.2.1 := ⟨ok4.1, ok4.2, ok5⟩
      refine ri_call_W hF h hM2 (fun o2 g5 hc g4 => ri_met hF hM2 hok hns g5 hc g4 hw9) hM0 hcs hM hcur hw9 hfr hS hdR hbR hcR hsR hl hret hthr (fun o2 rm hMet e1 e2 hR hcat hf => ?_)
      exact vx_runS (As := As.map (ri_v ad)) ⟨hx, hb, hml, hown, hts⟩ hMet ⟨callB_of M2.2.2.2.2.1 hts (ri_good hg ok2) rfl e1 e2 (hts _ ok3) (hts _ q1) hdd hR, hts _ q2⟩ ⟨ri_blind _ _, fun U hU hW => hpre As U hU hW⟩ rfl hAl2 hlsz hst (lv_room (by rw [ri_cat_v]; exact hcat)) hd hf
    · obtain ⟨hM0, hok, idx, rfl, q1, q2, q3, q4⟩ := hkind
      obtain ⟨ok0, ok1, ok2, ok3, ok4, ok5⟩ := id hok
      have hdd : M2.1.cls ≠ "java/lang/invoke/MethodHandle" ∧ M2.1.cls ≠ "java/lang/invoke/VarHandle" ∧ (parseMethodDescriptor M2.1.desc).map (fun d => d.parameters.length) = some M2.2.2.2.2.1 := ⟨ok4.1, ok4.2, ok5⟩
      split at h
      · rename_i q rest2
        refine ri_call_W hF h hM2 (fun o2 g5 hc g4 => ri_met hF hM2 hok hns g5 hc g4 hw9) hM0 hcs hM hcur hw9 hfr hS hdR hbR hcR hsR hl hret hthr (fun o2 rm hMet e1 e2 hR hcat hf => ?_)
        rw [q4] at hMet
        exact vx_runI (As := As.map (ri_v ad)) (b := ad q) ⟨hx, hb, hml, hown, hts⟩ hMet ⟨callB_of M2.2.2.2.2.1 hts (by rw [q4] at ok2; exact ri_good hg ok2) rfl e1 e2 (hts _ ok3) (hts _ q1) hdd hR, q2, hts _ q3⟩ ⟨ri_blind _ _, fun U hU hW => hpre (.ref q :: As) U hU hW⟩ rfl hAl2 hlsz hst (lv_room (by rw [ri_cat_v]; exact hcat)) hd hf
      · cases h
    · obtain ⟨hM0, hok, idx, host, rfl, q1, q2, q3, q4⟩ := hkind
      obtain ⟨ok0, ok1, ok2, ok3, ok4, ok5⟩ := id hok
      have hdd : M2.1.cls ≠ "java/lang/invoke/MethodHandle" ∧ M2.1.cls ≠ "java/lang/invoke/VarHandle" ∧ (parseMethodDescriptor M2.1.desc).map (fun d => d.parameters.length) = some M2.2.2.2.2.1 := ⟨ok4.1, ok4.2, ok5⟩
      split at h
      · rename_i q rest2
        refine ri_call_W hF h hM2 (fun o2 g5 hc g4 => ri_met hF hM2 hok hns g5 hc g4 hw9) hM0 hcs hM hcur hw9 hfr hS hdR hbR hcR hsR hl hret hthr (fun o2 rm hMet e1 e2 hR hcat hf => ?_)
        rw [q4] at hMet
        exact vx_runIN (As := As.map (ri_v ad)) (b := ad q) ⟨hx, hb, hml, hown, hts⟩ hMet ⟨va_cnB M2.2.2.2.2.1 hts (by rw [q4] at ok2; exact ri_good hg ok2) rfl e1 e2 (hK.2.1 _ q1) (hts _ ok3) hdd hR, q2, hts _ q3⟩ ⟨ri_blind _ _, fun U hU hW => hpre (.ref q :: As) U hU hW⟩ rfl hAl2 hlsz hst (lv_room (by rw [ri_cat_v]; exact hcat)) hd hf
      · cases h
    · obtain ⟨hM0, hok, idx, host, rfl, q1, q2⟩ := hkind
      obtain ⟨ok0, ok1, ok2, ok3, ok4, ok5⟩ := id hok
      have hdd : M2.1.cls ≠ "java/lang/invoke/MethodHandle" ∧ M2.1.cls ≠ "java/lang/invoke/VarHandle" ∧ (parseMethodDescriptor M2.1.desc).map (fun d => d.parameters.length) = some M2.2.2.2.2.1 := ⟨ok4.1, ok4.2, ok5⟩
      refine ri_call_W hF h hM2 (fun o2 g5 hc g4 => ri_met hF hM2 hok hns g5 hc g4 hw9) hM0 hcs hM hcur hw9 hfr hS hdR hbR hcR hsR hl hret hthr (fun o2 rm hMet e1 e2 hR hcat hf => ?_)
      exact vx_runSN (As := As.map (ri_v ad)) ⟨hx, hb, hml, hown, hts⟩ hMet ⟨va_cnB M2.2.2.2.2.1 hts (ri_good hg ok2) rfl e1 e2 (hK.2.1 _ q1) (hts _ ok3) hdd hR, hts _ q2, trivial⟩ ⟨ri_blind _ _, fun U hU hW => hpre As U hU hW⟩ rfl hAl2 hlsz hst (lv_room (by rw [ri_cat_v]; exact hcat)) hd hf
    · obtain ⟨hok, idx, t, hs, r, rfl, rfl, hhl, hr1, hr2, q1, q2, q3⟩ := hkind
      obtain ⟨ok0, ok1, ok2, ok3, ok4, ok5⟩ := id hok
      have hdd : M2.1.cls ≠ "java/lang/invoke/MethodHandle" ∧ M2.1.cls ≠ "java/lang/invoke/VarHandle" ∧ (parseMethodDescriptor M2.1.desc).map (fun d => d.parameters.length) = some M2.2.2.2.2.1 := ⟨ok4.1, ok4.2, ok5⟩
      split at h
      · rename_i q rest2
        split at h
        · rename_i o ho
          rw [ri_nth_eq] at ho
          obtain ⟨ht, h2⟩ := ri_ok_eq h
          have ht2 : o.1 = t := Nat.eq_of_beq_eq_true ht
          refine ri_call_WH hF h2 hM2 (fun o2 g5 hc g4 => ri_met hF hM2 hok hns g5 hc g4 hw9) hhl hops hcs hM hcur hw9 hfr hS hdR hbR hcR hsR hl hret hthr (fun o2 rm hMet e1 e2 hR hcat hf => ?_)
          refine vx_runV (As := As.map (ri_v ad)) (b := ad q) (C := M2.1.cls) ⟨hx, hb, hml, hown, hts⟩ hMet ⟨callB_of M2.2.2.2.2.1 hts (ri_good hg ok2) rfl e1 e2 (hts _ ok3) (hts _ q1) hdd hR, hts _ q2, hts _ q3⟩ ⟨ri_blind _ _, ?_, fun U hU hW => hpre (.ref q :: As) U hU hW⟩ rfl hAl2 hlsz hst (lv_room (by rw [ri_cat_v]; exact hcat)) hd hf
          obtain ⟨r9, g1, cell, g2, g3, g4, g5⟩ := hP q _ ho
          refine ⟨cell, g2, by rw [g4]; rfl, ?_⟩
          have hk := (hK.1.1 t r hr1).2.1
          rw [← hr2, hk, g3, ht2]
        · cases h
      · cases h
    · obtain ⟨hM0, hok, idx, rfl, q1, q2⟩ := hkind
      obtain ⟨ok1, ok2, ok3, ok4, ok5⟩ := id hok
      refine ri_call_W hF h hM2 (fun o2 g5 hc g4 => ri_metH hF hM2 hok hns g5 hc g4 hw9) hM0 hcs hM hcur hw9 hfr hS hdR hbR hcR hsR hl hret hthr (fun o2 rm hMet e1 e2 hR hcat hf => ?_)
      have hG := ri_good hg ok2
      have hcd : Jvm.Cond.codeWith M2.1 M2.2.1 M2.2.2.1 M2.2.2.2.1 (hh M2.1) ∈ (Jvm.Cond.codeWith M2.1 M2.2.1 M2.2.2.1 M2.2.2.2.1 (hh M2.1) :: WG) := List.mem_cons_self
      exact vx_runSX (As := As.map (ri_v ad)) (hh := hh M2.1) (bytes := M2.2.1) (maxL := M2.2.2.1) (ret := M2.2.2.2.1) ⟨hx, hb, hml, hown, hts⟩ hMet ⟨⟨e1, e2, hR.1, hR.2, pay_in hts hG, hcd⟩, hts _ ok2, hts _ ok3, ok4, fun sig hsig => by rw [hsig] at ok5; exact (Option.some.inj ok5).symm, hts _ q1, hts _ q2⟩ ⟨ri_blind _ _, fun U hU hW => hpre As U hU hW⟩ rfl hAl2 hlsz hst (lv_room (by rw [ri_cat_v]; exact hcat)) hd hf
    · cases h
  · cases h
end
end RIC2
end
section
/-! ===== the reckoner, part 11: all steps, all runs ===== -/
section RIZ
variable {WG : List Jvm.Cond} {hh : MethodName → List (Nat × Nat × Nat × Nat)} {NW : List ri_N} {CW : List ri_C9} {NC : List (String × String)} {AO : List FieldType} {cl : List vw_C} {Ms : List ri_M} {ty : Nat → Nat → FieldType} {df : Nat → List Value} {tyL : List FieldType} {exl : Nat → Nat} {exn : Nat → String} {xs : Nat → Value} {L : Nat} {al : Nat → Bool} {orc : List (Bool ⊕ Int32)} {D : va_G} {ad : Nat → Nat} {cA : Nat → ClassId}
theorem ri_next_in {M : ri_M} {nxt : List ri_Op} {ts : List Nat} {j : Nat} (h : ∀ o ∈ nxt, o ∈ M.2.2.2.2.2) : ∀ o ∈ ri_next M nxt ts j, o ∈ M.2.2.2.2.2 := by
  intro o ho
  cases j with
  | zero => exact h o ho
  | succ k =>
    have ho2 : o ∈ (match ri_nth ts k with | some t => ri_drop M.2.2.2.2.2 t | none => []) := ho
    cases hk : ri_nth ts k with
    | none => rw [hk] at ho2; cases ho2
    | some t =>
      rw [hk] at ho2
      have ho3 : o ∈ ri_drop M.2.2.2.2.2 t := ho2
      rw [ri_drop_eq] at ho3
      exact List.mem_of_mem_drop ho3
/-- the end of a method: by which instruction, and what it leaves -/
theorem ri_ret_eq {M : ri_M} {i : Instr} {st : List Value} {w : List ri_E} {nc ns fr : Nat} {out : ri_Out} (h : ri_ret M i st w nc ns fr = some out) : ∃ r : Option Value, out = (.inl r, w, nc, ns, [], fr) ∧ st = r.toList ∧ ri_len i = 1 ∧ ∀ (cc : ByteArray) (pc : Nat), decode cc pc = .ok (i, 1) → ri_isret cc pc M.2.2.2.1 r := by
  unfold ri_ret at h
  split at h
  · split at h
    · obtain ⟨hb, h2⟩ := ri_ok_eq h
      refine ⟨none, (Option.some.inj h2).symm, rfl, rfl, fun cc pc hd => Or.inl ⟨rfl, ?_, hd⟩⟩
      cases hr : M.2.2.2.1 with
      | none => rfl
      | some t => rw [hr] at hb; cases hb
    · cases h
  · split at h
    · rename_i x
      obtain ⟨hb, h2⟩ := ri_ok_eq h
      refine ⟨some (.int x), (Option.some.inj h2).symm, rfl, rfl, fun cc pc hd => Or.inr (Or.inl ?_)⟩
      cases hr : M.2.2.2.1 with
      | none => rw [hr] at hb; cases hb
      | some t =>
        rw [hr] at hb
        exact ⟨x, t, rfl, rfl, (ri_fit_ok (ad := fun k => k) (v := .int x) hb).1, hd⟩
    · rename_i x
      obtain ⟨hb, h2⟩ := ri_ok_eq h
      refine ⟨some (.float x), (Option.some.inj h2).symm, rfl, rfl, fun cc pc hd => Or.inr (Or.inr (Or.inr (Or.inr (Or.inr ⟨x, rfl, ?_, hd⟩))))⟩
      cases hr : M.2.2.2.1 with
      | none => rw [hr] at hb; cases hb
      | some t => rw [hr] at hb; cases t <;> first | rfl | cases hb
    · cases h
  · split at h
    · rename_i x
      obtain ⟨hb, h2⟩ := ri_ok_eq h
      refine ⟨some (.long x), (Option.some.inj h2).symm, rfl, rfl, fun cc pc hd => Or.inr (Or.inr (Or.inl ?_))⟩
      cases hr : M.2.2.2.1 with
      | none => rw [hr] at hb; cases hb
      | some t =>
        rw [hr] at hb
        cases t <;> first | exact ⟨x, rfl, rfl, hd⟩ | cases hb
    · cases h
  · split at h
    · rename_i x
      obtain ⟨hb, h2⟩ := ri_ok_eq h
      refine ⟨some (.double x), (Option.some.inj h2).symm, rfl, rfl, fun cc pc hd => Or.inr (Or.inr (Or.inr (Or.inl ?_)))⟩
      cases hr : M.2.2.2.1 with
      | none => rw [hr] at hb; cases hb
      | some t =>
        rw [hr] at hb
        cases t <;> first | exact ⟨x, rfl, rfl, hd⟩ | cases hb
    · cases h
  · split at h
    · rename_i x
      obtain ⟨hb, h2⟩ := ri_ok_eq h
      refine ⟨some (.ref x), (Option.some.inj h2).symm, rfl, rfl, fun cc pc hd => Or.inr (Or.inr (Or.inr (Or.inr (Or.inl ?_))))⟩
      cases hr : M.2.2.2.1 with
      | none => rw [hr] at hb; cases hb
      | some t =>
        rw [hr] at hb
        cases t <;> first | exact ⟨x, _, rfl, rfl, Or.inl ⟨_, rfl⟩, hd⟩ | exact ⟨x, _, rfl, rfl, Or.inr ⟨_, rfl⟩, hd⟩ | cases hb
    · cases h
  · cases h
set_option maxHeartbeats 4000000 in
theorem ri_step_ok (hall : ri_all WG hh NW CW NC AO cl Ms ty df tyL exl exn) (hi9 : ri_inj ad) {l : Launch} (htr : l.stackTraces = false) {f : ri_K} (hF : ri_Snd WG hh NW CW NC AO cl Ms tyL exn xs L al D ad cA l f) :
    ri_Snd WG hh NW CW NC AO cl Ms tyL exn xs L al D ad cA l (fun d bud M cur pc lv st w nc ns fr => match cur with
      | o :: nxt => ri_ok (Nat.beq o.1 pc) (ri_exec Ms ty df tyL exl xs L al orc f d bud M nxt lv st w nc ns fr pc o.2.1 o.2.2.1 o.2.2.2.1 o.2.2.2.2.1 o.2.2.2.2.2.1 o.2.2.2.2.2.2)
      | [] => none) := by
  obtain ⟨hC, hdf, hgw, hops⟩ := id hall
  intro d bud M cur pc lv st w nc ns fr out h
  cases cur with
  | nil => cases h
  | cons o nxt =>
    obtain ⟨hpc, h1⟩ := ri_ok_eq h
    obtain ⟨pc0, κ, i, a, b, v, ts⟩ := o
    have hpc2 : pc0 = pc := Nat.eq_of_beq_eq_true hpc
    subst hpc2
    clear h hpc
    dsimp only at h1
    -- what an instruction's step gives, once its own row is found
    have go : ∀ {nxt2 : List ri_Op} {pc2 : Nat} {lv2 : ri_L} {st2 : List Value} {w2 : List ri_E} {nc2 ns2 fr2 : Nat}, f d bud M nxt2 pc2 lv2 st2 w2 nc2 ns2 fr2 = some out → nc ≤ nc2 → ns ≤ ns2 → (w.length ≤ 1000000 → w2.length ≤ 1000000) → nc ≤ out.2.2.1 ∧ ns ≤ out.2.2.2.1 ∧ (w.length ≤ 1000000 → out.2.1.length ≤ 1000000) := fun h2 h3 h4 h5 => by
      have k := (hF _ _ _ _ _ _ _ _ _ _ _ _ h2).1
      exact ⟨Nat.le_trans h3 k.1, Nat.le_trans h4 k.2.1, fun q => k.2.2 (h5 q)⟩
    refine ⟨?_, ?_⟩
    · unfold ri_exec at h1
      split at h1
      · split at h1
        · exact go h1 (Nat.le_refl _) (Nat.le_refl _) (fun q => q)
        · cases h1
      · split at h1
        · exact go h1 (Nat.le_refl _) (Nat.le_refl _) (fun q => q)
        · cases h1
      · split at h1
        · rename_i z hz
          obtain ⟨q, fs, v9, -, -, -, -, e9⟩ := ri_putf_eq (st' := z.1) (w' := z.2) hz
          exact go h1 (Nat.le_refl _) (Nat.le_refl _) (fun q => by rw [e9, List.length_set]; exact q)
        · cases h1
      · exact go h1 (Nat.le_refl _) (Nat.le_refl _) (fun q => q)
      · exact ri_call_mono hF h1
      -- 5 .. 15
      · split at h1
        · exact go h1 (Nat.le_refl _) (Nat.le_refl _) (fun q => q)
        · cases h1
      · split at h1
        · rename_i z hz
          obtain ⟨i9, q, t, vs, x, v9, t9, -, -, -, -, -, -, e9⟩ := ri_ast_eq (st' := z.1) (w' := z.2) hz
          exact go h1 (Nat.le_refl _) (Nat.le_refl _) (fun q => by rw [e9, List.length_set]; exact q)
        · cases h1
      · split at h1
        · exact go h1 (Nat.le_refl _) (Nat.le_refl _) (fun q => q)
        · cases h1
      · split at h1
        · rename_i z hz
          obtain ⟨i9, q, t, vs, x, v9, t9, -, -, -, -, -, -, e9⟩ := ri_ast_eq (st' := z.1) (w' := z.2) hz
          exact go h1 (Nat.le_refl _) (Nat.le_refl _) (fun q => by rw [e9, List.length_set]; exact q)
        · cases h1
      · split at h1
        · exact go h1 (Nat.le_refl _) (Nat.le_refl _) (fun q => q)
        · cases h1
      · split at h1
        · rename_i z hz
          obtain ⟨i9, q, t, vs, x, v9, t9, -, -, -, -, -, -, e9⟩ := ri_ast_eq (st' := z.1) (w' := z.2) hz
          exact go h1 (Nat.le_refl _) (Nat.le_refl _) (fun q => by rw [e9, List.length_set]; exact q)
        · cases h1
      · split at h1
        · exact go h1 (Nat.le_refl _) (Nat.le_refl _) (fun q => q)
        · cases h1
      · split at h1
        · exact go h1 (Nat.le_refl _) (Nat.le_refl _) (fun q => q)
        · cases h1
      · split at h1
        · rename_i z hz
          obtain ⟨i9, q, t, vs, x, v9, t9, -, -, -, -, -, -, e9⟩ := ri_ast_eq (st' := z.1) (w' := z.2) hz
          exact go h1 (Nat.le_refl _) (Nat.le_refl _) (fun q => by rw [e9, List.length_set]; exact q)
        · cases h1
      · split at h1
        · rename_i z hz
          obtain ⟨v9, q, i9, vs, fs, -, -, -, -, -, e9⟩ := ri_aast_eq (st' := z.1) (w' := z.2) hz
          exact go h1 (Nat.le_refl _) (Nat.le_refl _) (fun q => by rw [e9, List.length_set]; exact q)
        · cases h1
      · split at h1
        · exact go h1 (Nat.le_refl _) (Nat.le_refl _) (fun q => q)
        · cases h1
      -- 16 .. 25
      · obtain ⟨r, rfl, -, -, -⟩ := ri_ret_eq h1
        exact ⟨Nat.le_refl _, Nat.le_refl _, fun q => q⟩
      · cases hcc : ri_conc a st with
        | true =>
          rw [hcc, cond_true] at h1
          split at h1
          · exact go h1 (Nat.le_refl _) (Nat.le_refl _) (fun q => q)
          · cases h1
        | false =>
          rw [hcc, cond_false] at h1
          split at h1
          · obtain ⟨z9, h2, rfl⟩ := ri_more_eq h1
            exact (hF _ _ _ _ _ _ _ _ _ _ _ _ h2).1
          · cases h1
      · obtain ⟨hb, h2⟩ := ri_ok_eq h1
        have hb2 : w.length + 1 ≤ 1000000 := Nat.le_of_ble_eq_true (Bool.and_eq_true _ _ ▸ hb : al w.length = true ∧ Nat.blt w.length 1000000 = true).2
        exact go h2 (Nat.le_add_right _ _) (Nat.le_add_right _ _) (fun _ => by rw [List.length_append]; exact hb2)
      · obtain ⟨hb, h2⟩ := ri_ok_eq h1
        have hb2 : w.length + 1 ≤ 1000000 := Nat.le_of_ble_eq_true (Bool.and_eq_true _ _ ▸ hb : al w.length = true ∧ Nat.blt w.length 1000000 = true).2
        split at h2
        · rename_i z hz
          obtain ⟨n9, r9, -, -, -, -, -, e9⟩ := ri_newa_eq (N := z.1) (st' := z.2.1) (w' := z.2.2) hz
          exact go h2 (Nat.le_add_right _ _) (Nat.le_add_right _ _) (fun _ => by rw [e9, List.length_append]; exact hb2)
        · cases h2
      · obtain ⟨hb, h2⟩ := ri_ok_eq h1
        have hb2 : w.length + 1 ≤ 1000000 := Nat.le_of_ble_eq_true (Bool.and_eq_true _ _ ▸ hb : al w.length = true ∧ Nat.blt w.length 1000000 = true).2
        split at h2
        · rename_i z hz
          obtain ⟨n9, r9, -, -, -, -, -, e9⟩ := ri_newa_eq (N := z.1) (st' := z.2.1) (w' := z.2.2) hz
          exact go h2 (Nat.le_add_right _ _) (Nat.le_add_right _ _) (fun _ => by rw [e9, List.length_append]; exact hb2)
        · cases h2
      · split at h1
        · exact go (ri_ok_eq h1).2 (Nat.le_refl _) (Nat.le_refl _) (fun q => q)
        · cases h1
      · obtain ⟨hb, h2⟩ := ri_ok_eq h1
        split at h2
        · rename_i z hz
          obtain ⟨n, dp, sp, q1, q0, t0, v0, v1, t, -, -, -, -, -, -, -, -, -, -, -, -, e9⟩ := ri_acopy_eq (st' := z.1) (w' := z.2) hz
          exact go h2 (Nat.le_refl _) (Nat.le_refl _) (fun q => by rw [e9, List.length_set]; exact q)
        · cases h2
      · have h2 := Option.some.inj (ri_ok_eq h1).2
        subst h2
        exact ⟨Nat.le_add_right _ _, Nat.le_add_right _ _, fun q => q⟩
      · split at h1
        · exact go (ri_ok_eq h1).2 (Nat.le_refl _) (Nat.le_refl _) (fun q => q)
        · cases h1
      · split at h1
        · exact go (ri_ok_eq h1).2 (Nat.le_refl _) (Nat.le_refl _) (fun q => q)
        · cases h1
      · obtain ⟨-, h2⟩ := ri_ok_eq h1
        split at h2
        · obtain ⟨b1, h3⟩ := ri_ok_eq h2
          exact go h3 (Nat.le_add_right _ _) (Nat.le_add_right _ _) (fun _ => Nat.le_of_ble_eq_true b1)
        · cases h2
      · cases hcc : ri_conc 1 st with
        | true =>
          rw [hcc, cond_true] at h1
          split at h1
          · rename_i z hz
            obtain ⟨i9, q, t, vs, x, v9, t9, -, -, -, -, -, -, e9⟩ := ri_ast_eq (st' := z.1) (w' := z.2) hz
            exact go h1 (Nat.le_refl _) (Nat.le_refl _) (fun q => by rw [e9, List.length_set]; exact q)
          · cases h1
        | false =>
          rw [hcc, cond_false] at h1
          split at h1
          · rename_i z hz
            obtain ⟨i9, q, t, vs, x, v9, t9, -, -, -, -, -, -, e9⟩ := ri_ast_eq (st' := z.1) (w' := z.2) hz
            obtain ⟨z9, h2, rfl⟩ := ri_more_eq h1
            have hm := (hF _ _ _ _ _ _ _ _ _ _ _ _ h2).1
            exact ⟨hm.1, hm.2.1, fun q => hm.2.2 (by rw [e9, List.length_set]; exact q)⟩
          · cases h1
      · split at h1
        · split at h1
          · split at h1
            · obtain ⟨z9, h2, rfl⟩ := ri_more_eq h1
              exact (hF _ _ _ _ _ _ _ _ _ _ _ _ h2).1
            · cases h1
          · cases h1
        · cases h1
      · cases h1
    · intro hcs hM hcur hw9 p e R s m args below meth c H locs ls Q hfr hP hS hn hdR hbR hcR hsR hl hret hthr
      obtain ⟨hx, hb, hml, hown, hname, hr, hlocks, hnt, hts, hK, hsc⟩ := id hfr
      obtain ⟨y9, hM9⟩ := id hM
      obtain ⟨⟨len, hd, hlen⟩, hlk⟩ := hops y9 M hM9 _ (hcur _ List.mem_cons_self)
      dsimp only at hd hlen hlk
      have hcur2 : ∀ o ∈ nxt, o ∈ M.2.2.2.2.2 := fun o ho => hcur o (List.mem_cons_of_mem _ ho)
      have go2 : ∀ {nxt2 : List ri_Op} {pc2 : Nat} {lv2 : ri_L} {st2 : List Value} {w2 : List ri_E} {nc2 ns2 fr2 : Nat}, f d bud M nxt2 pc2 lv2 st2 w2 nc2 ns2 fr2 = some out → (∀ o ∈ nxt2, o ∈ M.2.2.2.2.2) → w2.length ≤ 1000000 → ∀ (H1 : Heap) (locs1 : List Loc) (ls1 : Array Slot), ri_P D cl ad cA w2 H1 → va_S (ri_A ad) s.heap H1 locs1 → (al w2.length = true → ri_nx ad w2.length H1.size) → lv_has ls1 M.2.2.1 (ri_lr ad lv2) → W p l e R s m args below meth c H1 locs1 nc2 ns2 Q (F0 m pc2 ls1 (st2.map (ri_v ad))) := fun h2 h3 h4 H1 locs1 ls1 a1 a2 a3 a4 => (hF _ _ _ _ _ _ _ _ _ _ _ _ h2).2 hcs hM h3 h4 p e R s m args below meth c H1 locs1 ls1 Q hfr a1 a2 a3 hdR hbR hcR hsR a4 hret hthr
      unfold ri_exec at h1
      split at h1
      · split at h1
        · rename_i z hz
          exact ri_pure_ok (j := z.1) (p' := z.2.1) (lv' := z.2.2.1) (st' := z.2.2.2) hx hb hd hlen hl hz (fun ls2 hl2 => go2 h1 (ri_next_in hcur2) hw9 H locs ls2 hP hS hn hl2)
        · cases h1
      · obtain ⟨idx, r, rfl, q1, q2, q3⟩ := hlk
        have hd3 : decode M.2.1 pc0 = .ok (.getfield idx, 3) := by rw [hd]; exact congrArg (fun z => Except.ok (Instr.getfield idx, z)) (hlen.resolve_left (fun q => by cases q)).symm
        split at h1
        · rename_i st2 hz
          exact ri_getf_ok hx hb hown hts hK.1 hC hP q1 q2 q3 hd3 hz (go2 h1 hcur2 hw9 H locs ls hP hS hn hl)
        · cases h1
      · obtain ⟨idx, r, rfl, q1, q2, q3, q4⟩ := hlk
        have hd3 : decode M.2.1 pc0 = .ok (.putfield idx, 3) := by rw [hd]; exact congrArg (fun z => Except.ok (Instr.putfield idx, z)) (hlen.resolve_left (fun q => by cases q)).symm
        split at h1
        · rename_i z hz
          have hl9 : z.2.length = w.length := by
            obtain ⟨q, fs, v9, -, -, -, -, e9⟩ := ri_putf_eq (st' := z.1) (w' := z.2) hz
            rw [e9, List.length_set]
          exact ri_putf_ok hx hb hown hts hK.1 hC hP hw9 hi9 hS q1 q2 q3 (by rw [hname]; exact q4) hd3 (st' := z.1) (w' := z.2) hz (fun H1 locs1 a1 a2 a3 => go2 h1 hcur2 (by rw [hl9]; exact hw9) H1 locs1 ls a1 a2 (fun g => by rw [hl9] at g ⊢; rw [a3]; exact hn g) hl)
        · cases h1
      · rcases hlk with ⟨idx, x, rfl, rfl, q1⟩ | ⟨idx, x, rfl, rfl, q1⟩ | ⟨idx, x, rfl, rfl, q1⟩ | ⟨idx, x, rfl, rfl, q1⟩
        · have hd3 : decode M.2.1 pc0 = .ok (.ldc idx, 2) := by rw [hd]; exact congrArg (fun z => Except.ok (Instr.ldc idx, z)) (hlen.resolve_left (fun q => by cases q)).symm
          exact lv_ldc hx hb hown (hts _ q1) hd3 (go2 h1 hcur2 hw9 H locs ls hP hS hn hl)
        · have hd3 : decode M.2.1 pc0 = .ok (.ldc_w idx, 3) := by rw [hd]; exact congrArg (fun z => Except.ok (Instr.ldc_w idx, z)) (hlen.resolve_left (fun q => by cases q)).symm
          exact lv_ldcw hx hb hown (hts _ q1) hd3 (go2 h1 hcur2 hw9 H locs ls hP hS hn hl)
        · have hd3 : decode M.2.1 pc0 = .ok (.ldc2_w idx, 3) := by rw [hd]; exact congrArg (fun z => Except.ok (Instr.ldc2_w idx, z)) (hlen.resolve_left (fun q => by cases q)).symm
          exact lv_ldc2 hx hb hown (hts _ q1) hd3 (go2 h1 hcur2 hw9 H locs ls hP hS hn hl)
        · have hd3 : decode M.2.1 pc0 = .ok (.ldc2_w idx, 3) := by rw [hd]; exact congrArg (fun z => Except.ok (Instr.ldc2_w idx, z)) (hlen.resolve_left (fun q => by cases q)).symm
          exact lv_ldc2d hx hb hown (hts _ q1) hd3 (go2 h1 hcur2 hw9 H locs ls hP hS hn hl)
      · have hlk2 : ri_clink WG hh NW CW NC cl Ms exn M pc0 i a b ts := hlk
        have hd3 : decode M.2.1 pc0 = .ok (i, 3) := by
          obtain ⟨M2, -, -, hkind⟩ := hlk
          have h3 : ri_len i = 3 := by
            split at hkind
            · obtain ⟨-, -, idx, t, r, rfl, -⟩ := hkind; rfl
            · obtain ⟨-, -, idx, rfl, -⟩ := hkind; rfl
            · obtain ⟨-, -, idx, rfl, -⟩ := hkind; rfl
            · obtain ⟨-, -, idx, host, rfl, -⟩ := hkind; rfl
            · obtain ⟨-, -, idx, host, rfl, -⟩ := hkind; rfl
            · obtain ⟨-, idx, t, hs, r, rfl, -⟩ := hkind; rfl
            · obtain ⟨-, -, idx, rfl, -⟩ := hkind; rfl
            · exact hkind.elim
          have h4 : ri_len i = len := hlen.resolve_left (by rw [h3]; decide)
          rw [hd, ← h4, h3]
        exact ri_call_ok hF hgw h1 hlk2 (fun o ho => (hops y9 M hM9 o ho).1) hd3 hcs hM hcur2 hw9 hfr hP hS hn hdR hbR hcR hsR hl hret hthr
      · have e0 : i = .iaload := hlk
        subst e0
        have hd3 : decode M.2.1 pc0 = .ok (Instr.iaload, 1) := by rw [hd]; exact congrArg (fun z => Except.ok (Instr.iaload, z)) (hlen.resolve_left (fun q => by cases q)).symm
        split at h1
        · rename_i st2 hz
          exact ri_iald_ok hx hb hK.1 hP hd3 hz (go2 h1 hcur2 hw9 H locs ls hP hS hn hl)
        · cases h1
      · have e0 : i = .iastore := hlk
        subst e0
        have hd3 : decode M.2.1 pc0 = .ok (Instr.iastore, 1) := by rw [hd]; exact congrArg (fun z => Except.ok (Instr.iastore, z)) (hlen.resolve_left (fun q => by cases q)).symm
        split at h1
        · rename_i z hz
          have hl9 : z.2.length = w.length := by
            obtain ⟨i9, q, t, vs, x, v9, t9, -, -, -, -, -, -, e9⟩ := ri_ast_eq (st' := z.1) (w' := z.2) hz
            rw [e9, List.length_set]
          exact ri_iast_ok hx hb hK.1 hP hw9 hi9 hS hd3 (st' := z.1) (w' := z.2) hz (fun H1 locs1 a1 a2 a3 => go2 h1 hcur2 (by rw [hl9]; exact hw9) H1 locs1 ls a1 a2 (fun g => by rw [hl9] at g ⊢; rw [a3]; exact hn g) hl)
        · cases h1
      · have e0 : i = .laload := hlk
        subst e0
        have hd3 : decode M.2.1 pc0 = .ok (Instr.laload, 1) := by rw [hd]; exact congrArg (fun z => Except.ok (Instr.laload, z)) (hlen.resolve_left (fun q => by cases q)).symm
        split at h1
        · rename_i st2 hz
          exact ri_lald_ok hx hb hK.1 hP hd3 hz (go2 h1 hcur2 hw9 H locs ls hP hS hn hl)
        · cases h1
      · have e0 : i = .lastore := hlk
        subst e0
        have hd3 : decode M.2.1 pc0 = .ok (Instr.lastore, 1) := by rw [hd]; exact congrArg (fun z => Except.ok (Instr.lastore, z)) (hlen.resolve_left (fun q => by cases q)).symm
        split at h1
        · rename_i z hz
          have hl9 : z.2.length = w.length := by
            obtain ⟨i9, q, t, vs, x, v9, t9, -, -, -, -, -, -, e9⟩ := ri_ast_eq (st' := z.1) (w' := z.2) hz
            rw [e9, List.length_set]
          exact ri_last_ok hx hb hK.1 hP hw9 hi9 hS hd3 (st' := z.1) (w' := z.2) hz (fun H1 locs1 a1 a2 a3 => go2 h1 hcur2 (by rw [hl9]; exact hw9) H1 locs1 ls a1 a2 (fun g => by rw [hl9] at g ⊢; rw [a3]; exact hn g) hl)
        · cases h1
      · have e0 : i = .daload := hlk
        subst e0
        have hd3 : decode M.2.1 pc0 = .ok (Instr.daload, 1) := by rw [hd]; exact congrArg (fun z => Except.ok (Instr.daload, z)) (hlen.resolve_left (fun q => by cases q)).symm
        split at h1
        · rename_i st2 hz
          exact ri_dald_ok hx hb hK.1 hP hd3 hz (go2 h1 hcur2 hw9 H locs ls hP hS hn hl)
        · cases h1
      · have e0 : i = .dastore := hlk
        subst e0
        have hd3 : decode M.2.1 pc0 = .ok (Instr.dastore, 1) := by rw [hd]; exact congrArg (fun z => Except.ok (Instr.dastore, z)) (hlen.resolve_left (fun q => by cases q)).symm
        split at h1
        · rename_i z hz
          have hl9 : z.2.length = w.length := by
            obtain ⟨i9, q, t, vs, x, v9, t9, -, -, -, -, -, -, e9⟩ := ri_ast_eq (st' := z.1) (w' := z.2) hz
            rw [e9, List.length_set]
          exact ri_dast_ok hx hb hK.1 hP hw9 hi9 hS hd3 (st' := z.1) (w' := z.2) hz (fun H1 locs1 a1 a2 a3 => go2 h1 hcur2 (by rw [hl9]; exact hw9) H1 locs1 ls a1 a2 (fun g => by rw [hl9] at g ⊢; rw [a3]; exact hn g) hl)
        · cases h1
      · have e0 : i = .aaload := hlk
        subst e0
        have hd3 : decode M.2.1 pc0 = .ok (Instr.aaload, 1) := by rw [hd]; exact congrArg (fun z => Except.ok (Instr.aaload, z)) (hlen.resolve_left (fun q => by cases q)).symm
        split at h1
        · rename_i st2 hz
          exact ri_aald_ok hx hb hK.1 hP hd3 hz (go2 h1 hcur2 hw9 H locs ls hP hS hn hl)
        · cases h1
      · have e0 : i = .baload := hlk
        subst e0
        have hd3 : decode M.2.1 pc0 = .ok (Instr.baload, 1) := by rw [hd]; exact congrArg (fun z => Except.ok (Instr.baload, z)) (hlen.resolve_left (fun q => by cases q)).symm
        split at h1
        · rename_i st2 hz
          exact ri_bald_ok hx hb hK.1 hP hd3 hz (go2 h1 hcur2 hw9 H locs ls hP hS hn hl)
        · cases h1
      · have e0 : i = .bastore := hlk
        subst e0
        have hd3 : decode M.2.1 pc0 = .ok (Instr.bastore, 1) := by rw [hd]; exact congrArg (fun z => Except.ok (Instr.bastore, z)) (hlen.resolve_left (fun q => by cases q)).symm
        split at h1
        · rename_i z hz
          have hl9 : z.2.length = w.length := by
            obtain ⟨i9, q, t, vs, x, v9, t9, -, -, -, -, -, -, e9⟩ := ri_ast_eq (st' := z.1) (w' := z.2) hz
            rw [e9, List.length_set]
          exact ri_bast_ok hx hb hK.1 hP hw9 hi9 hS hd3 (st' := z.1) (w' := z.2) hz (fun H1 locs1 a1 a2 a3 => go2 h1 hcur2 (by rw [hl9]; exact hw9) H1 locs1 ls a1 a2 (fun g => by rw [hl9] at g ⊢; rw [a3]; exact hn g) hl)
        · cases h1
      · obtain ⟨r, rfl, q1, q2⟩ := hlk
        have hd3 : decode M.2.1 pc0 = .ok (Instr.aastore, 1) := by rw [hd]; exact congrArg (fun z => Except.ok (Instr.aastore, z)) (hlen.resolve_left (fun q => by cases q)).symm
        split at h1
        · rename_i z hz
          have hl9 : z.2.length = w.length := by
            obtain ⟨v9, q, i9, vs, fs, -, -, -, -, -, e9⟩ := ri_aast_eq (st' := z.1) (w' := z.2) hz
            rw [e9, List.length_set]
          exact ri_aast_ok hx hb hK.1 hP hw9 hi9 hS q1 q2 hd3 (st' := z.1) (w' := z.2) hz (fun H1 locs1 a1 a2 a3 => go2 h1 hcur2 (by rw [hl9]; exact hw9) H1 locs1 ls a1 a2 (fun g => by rw [hl9] at g ⊢; rw [a3]; exact hn g) hl)
        · cases h1
      · have e0 : i = .arraylength := hlk
        subst e0
        have hd3 : decode M.2.1 pc0 = .ok (Instr.arraylength, 1) := by rw [hd]; exact congrArg (fun z => Except.ok (Instr.arraylength, z)) (hlen.resolve_left (fun q => by cases q)).symm
        split at h1
        · rename_i st2 hz
          exact ri_alen_ok hx hb hK.1 hP hd3 hz (go2 h1 hcur2 hw9 H locs ls hP hS hn hl)
        · cases h1
      · obtain ⟨r, rfl, rfl, hl1, hq⟩ := ri_ret_eq h1
        have hd3 : decode M.2.1 pc0 = .ok (i, 1) := by
          have h4 : ri_len i = len := hlen.resolve_left (by rw [hl1]; decide)
          rw [hd, ← h4, hl1]
        exact hret r rfl H locs ls pc0 hP hS hn (hq M.2.1 pc0 hd3)
      · cases hcc : ri_conc a st with
        | true =>
          rw [hcc, cond_true] at h1
          split at h1
          · rename_i z hz
            exact ri_pure_ok (j := z.1) (p' := z.2.1) (lv' := z.2.2.1) (st' := z.2.2.2) hx hb hd hlen hl hz (fun ls2 hl2 => go2 h1 (ri_next_in hcur2) hw9 H locs ls2 hP hS hn hl2)
          · cases h1
        | false =>
          rw [hcc, cond_false] at h1
          split at h1
          · rename_i z hz
            obtain ⟨z9, h2, rfl⟩ := ri_more_eq h1
            exact ri_sym_ok hx hb hd hlen hl hz (hcs _ (List.mem_append_left _ List.mem_cons_self)) (fun ls2 hl2 => (hF _ _ _ _ _ _ _ _ _ _ _ _ h2).2 (fun x hx => hcs x (List.mem_append_right _ hx)) hM (ri_next_in hcur2) hw9 p e R s m args below meth c H locs ls2 Q hfr hP hS hn hdR hbR hcR hsR hl2 hret hthr)
          · cases h1
      · obtain ⟨hb9, h2⟩ := ri_ok_eq h1
        obtain ⟨hal, hlt⟩ := (Bool.and_eq_true _ _ ▸ hb9 : al w.length = true ∧ Nat.blt w.length 1000000 = true)
        obtain ⟨idx, r, rfl, q1, q2, q3⟩ := hlk
        have hd3 : decode M.2.1 pc0 = .ok (Instr.new idx, 3) := by rw [hd]; exact congrArg (fun z => Except.ok (Instr.new idx, z)) (hlen.resolve_left (fun q => by cases q)).symm
        have hm := (hF _ _ _ _ _ _ _ _ _ _ _ _ h2).1
        refine ri_new_ok hx hb hown hts hK.1 hC hP hS (hn hal) (Nat.le_of_ble_eq_true hlt) q1 q2 q3 (fs := df a) (fun j hj => hdf a r q1 j (by rw [q2]; exact hj)) (Nat.le_trans hm.1 hcR) (Nat.le_trans hm.2.1 hsR) hd3 (fun H1 a1 a2 a3 => go2 h2 hcur2 (by rw [List.length_append]; exact Nat.le_of_ble_eq_true hlt) H1 locs ls a1 a2 (fun _ => a3) hl)
      · obtain ⟨hb9, h2⟩ := ri_ok_eq h1
        obtain ⟨hal, hlt⟩ := (Bool.and_eq_true _ _ ▸ hb9 : al w.length = true ∧ Nat.blt w.length 1000000 = true)
        obtain ⟨atype, t9, rfl, q1, q2, qf, q3, rfl⟩ := hlk
        have hd3 : decode M.2.1 pc0 = .ok (Instr.newarray atype, 2) := by rw [hd]; exact congrArg (fun z => Except.ok (Instr.newarray atype, z)) (hlen.resolve_left (fun q => by cases q)).symm
        split at h2
        · rename_i z hz
          have hm := (hF _ _ _ _ _ _ _ _ _ _ _ _ h2).1
          have hl9 : z.2.2.length = w.length + 1 := by
            obtain ⟨n9, r9, -, -, -, -, -, e9⟩ := ri_newa_eq (N := z.1) (st' := z.2.1) (w' := z.2.2) hz
            rw [e9, List.length_append]; rfl
          exact ri_newa_ok (N := z.1) (st' := z.2.1) (w' := z.2.2) hx hb hts hK.1 hP hS (hn hal) (Nat.le_of_ble_eq_true hlt) q1 q2 qf q3 (Nat.le_trans hm.1 hcR) (Nat.le_trans hm.2.1 hsR) hd3 hz (fun H1 a1 a2 a3 => go2 h2 hcur2 (by rw [hl9]; exact Nat.le_of_ble_eq_true hlt) H1 locs ls a1 a2 (fun _ => a3) hl)
        · cases h2
      · obtain ⟨hb9, h2⟩ := ri_ok_eq h1
        obtain ⟨hal, hlt⟩ := (Bool.and_eq_true _ _ ▸ hb9 : al w.length = true ∧ Nat.blt w.length 1000000 = true)
        obtain ⟨idx, C, rfl, q1, q2, q3⟩ := hlk
        have hd3 : decode M.2.1 pc0 = .ok (Instr.anewarray idx, 3) := by rw [hd]; exact congrArg (fun z => Except.ok (Instr.anewarray idx, z)) (hlen.resolve_left (fun q => by cases q)).symm
        split at h2
        · rename_i z hz
          have hm := (hF _ _ _ _ _ _ _ _ _ _ _ _ h2).1
          have hl9 : z.2.2.length = w.length + 1 := by
            obtain ⟨n9, r9, -, -, -, -, -, e9⟩ := ri_newa_eq (N := z.1) (st' := z.2.1) (w' := z.2.2) hz
            rw [e9, List.length_append]; rfl
          exact ri_newq_ok (N := z.1) (st' := z.2.1) (w' := z.2.2) hx hb hown hts (hK.2.2.2.2.1 _ q3) hK.1 hP hS (hn hal) (Nat.le_of_ble_eq_true hlt) q1 q2 (Nat.le_trans hm.1 hcR) (Nat.le_trans hm.2.1 hsR) hd3 hz (fun H1 a1 a2 a3 => go2 h2 hcur2 (by rw [hl9]; exact Nat.le_of_ble_eq_true hlt) H1 locs ls a1 a2 (fun _ => a3) hl)
        · cases h2
      · split at h1
        · rename_i q r
          obtain ⟨hb9, h2⟩ := ri_ok_eq h1
          obtain ⟨b1, b2⟩ := (Bool.and_eq_true _ _ ▸ hb9 : Nat.ble 1 d = true ∧ Nat.ble (ri_cat r + 12) bud = true)
          obtain ⟨idx, rfl, q1, q2, q3⟩ := hlk
          have hd3 : decode M.2.1 pc0 = .ok (Instr.invokespecial idx, 3) := by rw [hd]; exact congrArg (fun z => Except.ok (Instr.invokespecial idx, z)) (hlen.resolve_left (fun q => by cases q)).symm
          refine W.objInit (rest := r.map (ri_v ad)) hx hb hown (hts _ q1) (hts _ q2) (hts _ q3) rfl (hl.1.trans hml.symm) rfl hd3 (Nat.le_trans (Nat.le_of_ble_eq_true b1) hdR) ?_ (go2 h2 hcur2 hw9 H locs ls hP hS hn hl)
          have b3 := Nat.le_of_ble_eq_true b2
          show 2 * 0 + ((r.map (ri_v ad)).map fun v => v.category).sum + 12 ≤ R.locals
          rw [ri_cat_v]
          omega
        · cases h1
      · obtain ⟨hb9, h2⟩ := ri_ok_eq h1
        obtain ⟨idx, rfl, q1, q2, q3, q4⟩ := hlk
        have hd3 : decode M.2.1 pc0 = .ok (Instr.invokestatic idx, 3) := by rw [hd]; exact congrArg (fun z => Except.ok (Instr.invokestatic idx, z)) (hlen.resolve_left (fun q => by cases q)).symm
        split at h2
        · rename_i z hz
          have hl9 : z.2.length = w.length := by
            obtain ⟨n, dp, sp, q1, q0, t0, v0, v1, t, -, -, -, -, -, -, -, -, -, -, -, -, e9⟩ := ri_acopy_eq (st' := z.1) (w' := z.2) hz
            rw [e9, List.length_set]
          exact ri_acopy_ok (st' := z.1) (w' := z.2) hx hb (hml.trans hl.1.symm) hown hts q1 q2 q3 q4 hK.1 hP hw9 hi9 hS (Nat.le_trans (Nat.le_of_ble_eq_true hb9) hdR) hbR hd3 hz (fun H1 locs1 a1 a2 a3 => go2 h2 hcur2 (by rw [hl9]; exact hw9) H1 locs1 ls a1 a2 (fun g => by rw [hl9] at g ⊢; rw [a3]; exact hn g) hl)
        · cases h2
      · obtain ⟨hb9, h2⟩ := ri_ok_eq h1
        obtain ⟨b1, b2⟩ := (Bool.and_eq_true _ _ ▸ hb9 : Nat.ble (exl a + 4) d = true ∧ Nat.ble (ri_cat st + (13 * (exl a + 1) + 42)) bud = true)
        have c1 := Nat.le_of_ble_eq_true b1
        have c2 := Nat.le_of_ble_eq_true b2
        have h3 := Option.some.inj h2
        subst h3
        obtain ⟨hM0, ik, ic, names, rfl, d3, d4, d7, hel, hfit, hfits, w1, w2, w3, w4⟩ := hlk
        have hd3 : decode M.2.1 pc0 = .ok (Instr.new ik, 3) := by rw [hd]; exact congrArg (fun z => Except.ok (Instr.new ik, z)) (hlen.resolve_left (fun q => by cases q)).symm
        obtain ⟨Qc, XC, rfl, hXC⟩ := hthr a rfl
        rw [hel] at c1 c2
        exact vx_throw0 hx hb htr hown hfit hfits (hts _ w1) (hts _ w2) (fun z hz => (w3 z hz).elim (fun q => hts _ q) (fun ⟨x, hx, q⟩ => by rw [q]; exact va_Nw.use (ri_cw_on x) (hK.2.2.1 x hx))) w4 hK.2.2.2.2.2.1 hK.2.2.2.2.2.2 hS (hl.1.trans hml.symm) hd3 d3 d4 d7 (fun z hz => by rw [hnt, hM0] at hz; cases hz) (by omega) (by rw [ri_cat_v]; omega) hcR hsR hlocks (fun t hvm hz hk => hXC t hvm (hP.keep hk) ⟨Nat.le_trans hS.1 hz, fun q g1 g2 => (hk q (Nat.lt_of_lt_of_le g1 hS.1)).trans (hS.2.1 q g1 g2)⟩) hS.2.2 (Nat.le_refl _) (Nat.le_refl _)
      · have e0 : i = .iaload := hlk
        subst e0
        have hd3 : decode M.2.1 pc0 = .ok (Instr.iaload, 1) := by rw [hd]; exact congrArg (fun z => Except.ok (Instr.iaload, z)) (hlen.resolve_left (fun q => by cases q)).symm
        obtain ⟨⟨xr, hxr, hX⟩, hbl, hbA⟩ := hsc ⟨_, hcur _ List.mem_cons_self, Or.inl rfl⟩
        split at h1
        · rename_i j q r
          obtain ⟨hb9, h2⟩ := ri_ok_eq h1
          simp only [Bool.and_eq_true] at hb9
          obtain ⟨b1, b2, b3⟩ := hb9
          have e1 : q = 1000000 := Nat.eq_of_beq_eq_true b1
          subst e1
          have c3 : j.toNatClampNeg + 1 ≤ L := Nat.le_of_ble_eq_true b3
          have c2 : ¬ j < 0 := by simpa using b2
          have e2 : F0 m (pc0 + 1) ls (.int (xr j.toNatClampNeg) :: r.map (ri_v ad)) = F0 m (pc0 + 1) ls ((xs j.toNatClampNeg :: r).map (ri_v ad)) := by
            rw [List.map_cons, hxr _ c3]
          exact va_sld hx hb hX hbl hbA hS (fun z => z.elim c2 (fun z => by omega)) hd3 (by have h9 := go2 h2 hcur2 hw9 H locs ls hP hS hn hl; rw [← e2] at h9; exact h9)
        · cases h1
      · have e0 : i = .arraylength := hlk
        subst e0
        have hd3 : decode M.2.1 pc0 = .ok (Instr.arraylength, 1) := by rw [hd]; exact congrArg (fun z => Except.ok (Instr.arraylength, z)) (hlen.resolve_left (fun q => by cases q)).symm
        obtain ⟨⟨xr, hxr, hX⟩, hbl, hbA⟩ := hsc ⟨_, hcur _ List.mem_cons_self, Or.inr rfl⟩
        split at h1
        · rename_i q r
          obtain ⟨hb9, h2⟩ := ri_ok_eq h1
          have e1 : q = 1000000 := Nat.eq_of_beq_eq_true hb9
          subst e1
          exact va_slen hx hb hX hbl hbA hS hd3 (go2 h2 hcur2 hw9 H locs ls hP hS hn hl)
        · cases h1
      · obtain ⟨hal, h2⟩ := ri_ok_eq h1
        obtain ⟨idx, rfl, q1, q2, q3, q4, q5⟩ := hlk
        have hd3 : decode M.2.1 pc0 = .ok (Instr.multianewarray idx 2, 4) := by rw [hd]; exact congrArg (fun z => Except.ok (Instr.multianewarray idx 2, z)) (hlen.resolve_left (fun q => by cases q)).symm
        split at h2
        · rename_i z hz
          obtain ⟨b1, h3⟩ := ri_ok_eq h2
          have hm := (hF _ _ _ _ _ _ _ _ _ _ _ _ h3).1
          exact ri_mna_ok (N := z.1) (K := z.2.1) (st' := z.2.2.1) (w' := z.2.2.2) hx hb hown hts (hK.2.2.2.2.1 _ q5) hK.1 hP hS (hn hal) (Nat.le_of_ble_eq_true b1) q1 q2 q3 q4 (Nat.le_trans hm.1 hcR) (Nat.le_trans hm.2.1 hsR) hd3 hz (fun H1 a1 a2 a3 => go2 h3 hcur2 (Nat.le_of_ble_eq_true b1) H1 locs ls a1 a2 (fun _ => a3) hl)
        · cases h2
      · have e0 : i = .bastore := hlk
        subst e0
        have hd3 : decode M.2.1 pc0 = .ok (Instr.bastore, 1) := by rw [hd]; exact congrArg (fun z => Except.ok (Instr.bastore, z)) (hlen.resolve_left (fun q => by cases q)).symm
        cases hcc : ri_conc 1 st with
        | true =>
          rw [hcc, cond_true] at h1
          split at h1
          · rename_i z hz
            have hl9 : z.2.length = w.length := by
              obtain ⟨i9, q, t, vs, x, v9, t9, -, -, -, -, -, -, e9⟩ := ri_ast_eq (st' := z.1) (w' := z.2) hz
              rw [e9, List.length_set]
            exact ri_bast_ok hx hb hK.1 hP hw9 hi9 hS hd3 (st' := z.1) (w' := z.2) hz (fun H1 locs1 a1 a2 a3 => go2 h1 hcur2 (by rw [hl9]; exact hw9) H1 locs1 ls a1 a2 (fun g => by rw [hl9] at g ⊢; rw [a3]; exact hn g) hl)
          · cases h1
        | false =>
          rw [hcc, cond_false] at h1
          split at h1
          · rename_i z hz
            have hl9 : z.2.length = w.length := by
              obtain ⟨i9, q, t, vs, x, v9, t9, -, -, -, -, -, -, e9⟩ := ri_ast_eq (st' := z.1) (w' := z.2) hz
              rw [e9, List.length_set]
            obtain ⟨z9, h2, rfl⟩ := ri_more_eq h1
            exact ri_bsy_ok hx hb hK.1 hP hw9 hi9 hS hd3 (st' := z.1) (w' := z.2) hz (hcs _ (List.mem_append_left _ List.mem_cons_self)) (fun H1 locs1 a1 a2 a3 => (hF _ _ _ _ _ _ _ _ _ _ _ _ h2).2 (fun x hx => hcs x (List.mem_append_right _ hx)) hM hcur2 (by rw [hl9]; exact hw9) p e R s m args below meth c H1 locs1 ls Q hfr a1 a2 (fun g => by rw [hl9] at g ⊢; rw [a3]; exact hn g) hdR hbR hcR hsR hl hret hthr)
          · cases h1
      · split at h1
        · rename_i z hz
          split at h1
          · rename_i g hg
            split at h1
            · rename_i t
              obtain ⟨z9, h2, rfl⟩ := ri_more_eq h1
              obtain ⟨x, y, r⟩ := z
              obtain ⟨q, q2, rfl, hxi, hq0, hgf, hal⟩ := ri_lc_eq hz
              obtain ⟨rfl, d1, ⟨idx, rr, d2, q1, q2', q3⟩, d5, d6, d7, off, t9, d8, ht, hoff⟩ := hlk
              cases ht
              have hsem := hcs _ (List.mem_append_left _ List.mem_cons_self)
              rw [List.map_cons, ri_isI_v hxi]
              refine ri_pure_ok (ad := ad) (j := 0) (p' := pc0 + 1) (lv' := lv) (st' := .long (ri_I ad x).toInt64 :: r) (st := .int (ri_I ad x) :: r) hx hb hd hlen hl rfl (fun ls1 hl1 => ?_)
              refine ri_pure_ok (ad := ad) (i := .aload_n 0) (len := 1) (j := 0) (p' := pc0 + 1 + 1) (lv' := lv) (st' := .ref q :: .long (ri_I ad x).toInt64 :: r) hx hb d1 (Or.inr rfl) hl1 (by show ri_gr (ri_get 0 lv) _ _ = _; rw [hq0]; rfl) (fun ls2 hl2 => ?_)
              refine ri_getf_ok (pc := pc0 + 2) hx hb hown hts hK.1 hC hP q1 q2' q3 d2 (hgf _) ?_
              refine ri_pure_ok (ad := ad) (i := .iconst 3) (len := 1) (pc := pc0 + 5) (j := 0) (p' := pc0 + 5 + 1) (lv' := lv) (st' := .int 3 :: .ref q2 :: .long (ri_I ad x).toInt64 :: r) hx hb d5 (Or.inr rfl) hl2 rfl (fun ls3 hl3 => ?_)
              refine ri_lald_ok (pc := pc0 + 6) hx hb hK.1 hP d6 (hal _) ?_
              refine ri_pure_ok (ad := ad) (i := .lcmp) (len := 1) (pc := pc0 + 7) (j := 0) (p' := pc0 + 7 + 1) (lv' := lv) (st' := .int (lg_cmp (ri_I ad x).toInt64 y) :: r) hx hb d7 (Or.inr rfl) hl3 rfl (fun ls4 hl4 => ?_)
              refine ri_if_ok (pc := pc0 + 8) (c9 := .lt) (off := off) (len := 3) (t := t) (b := g) hx hb d8 (Or.inr rfl) hoff hsem ?_
              exact (hF _ _ _ _ _ _ _ _ _ _ _ _ h2).2 (fun x hx => hcs x (List.mem_append_right _ hx)) hM (ri_next_in hcur2) hw9 p e R s m args below meth c H locs ls4 Q hfr hP hS hn hdR hbR hcR hsR hl4 hret hthr
            · cases h1
          · cases h1
        · cases h1
      · cases h1
/-- every reckoning holds of the machine -/
theorem ri_sound (hall : ri_all WG hh NW CW NC AO cl Ms ty df tyL exl exn) (hi9 : ri_inj ad) {l : Launch} (htr : l.stackTraces = false) : ∀ fuel : Nat, ri_Snd WG hh NW CW NC AO cl Ms tyL exn xs L al D ad cA l (ri_run Ms ty df tyL exl xs L al orc fuel)
  | 0 => fun d bud M cur pc lv st w nc ns fr out h => by cases h
  | n + 1 => ri_step_ok hall hi9 htr (ri_sound hall hi9 htr n)
end RIZ
end
section
/-! ===== the reckoner, part 12: a program that is right, by reckoning ===== -/
def ri_WG : List Jvm.Cond := lw_tbl.filter goodWord
/-- these words stand at these places of the tables, and are such as stay -/
def ri_has (ps : List Nat) (ws : List Jvm.Cond) : Bool := decide (ps.map (fun i => lw_tbl[i]?) = ws.map some) && ws.all goodWord
theorem ri_has_ok {ps : List Nat} {ws : List Jvm.Cond} (h : ri_has ps ws = true) : ∀ w ∈ ws, w ∈ ri_WG := by
  intro w hw
  obtain ⟨h1, h2⟩ := (Bool.and_eq_true _ _ ▸ h : decide (ps.map (fun i => lw_tbl[i]?) = ws.map some) = true ∧ ws.all goodWord = true)
  refine List.mem_filter.mpr ⟨?_, List.all_eq_true.mp h2 w hw⟩
  have h3 : some w ∈ ws.map some := List.mem_map.mpr ⟨w, hw, rfl⟩
  rw [← of_decide_eq_true h1] at h3
  obtain ⟨i, -, hi⟩ := List.mem_map.mp h3
  exact List.mem_of_getElem? hi
section RIV
variable (hh : MethodName → List (Nat × Nat × Nat × Nat)) (NW : List ri_N) (CW : List ri_C9) (NC : List (String × String)) (CN : List (String × Nat × String)) (AO : List FieldType) (cl : List vw_C) (Ms : List ri_M) (tyL : List FieldType) (exl : Nat → Nat) (exn : Nat → String)
def ri_mchkH (M2 : ri_M) : Bool := plainName M2.1.cls && (!decide (M2.1.cls = "java/lang/invoke/MethodHandle") && (!decide (M2.1.cls = "java/lang/invoke/VarHandle") && (decide ((parseMethodDescriptor M2.1.desc).map (fun d => d.parameters.length) = some M2.2.2.2.2.1) && M2.2.2.2.2.2.all (fun o => !Nat.beq o.2.1 24 && !Nat.beq o.2.1 25))))
def ri_mchk (M2 : ri_M) : Bool := decide (hh M2.1 = []) && ri_mchkH M2
theorem ri_mchkH_ok {M2 : ri_M} (h : ri_mchkH M2 = true) : plainName M2.1.cls = true ∧ (M2.1.cls ≠ "java/lang/invoke/MethodHandle" ∧ M2.1.cls ≠ "java/lang/invoke/VarHandle") ∧ (parseMethodDescriptor M2.1.desc).map (fun d => d.parameters.length) = some M2.2.2.2.2.1 ∧ ∀ o ∈ M2.2.2.2.2.2, o.2.1 ≠ 24 ∧ o.2.1 ≠ 25 := by
  unfold ri_mchkH at h
  simp only [Bool.and_eq_true] at h
  obtain ⟨a1, a2, a3, a4, a5⟩ := h
  refine ⟨a1, ⟨by simpa using a2, by simpa using a3⟩, of_decide_eq_true a4, fun o ho => ?_⟩
  have h5 := List.all_eq_true.mp a5 o ho
  simp only [Bool.and_eq_true, Bool.not_eq_true'] at h5
  exact ⟨fun q => by rw [q] at h5; exact absurd h5.1 (by decide), fun q => by rw [q] at h5; exact absurd h5.2 (by decide)⟩
theorem ri_mchk_ok {M2 : ri_M} (h : ri_mchk hh M2 = true) (h1 : Jvm.Cond.code M2.1 M2.2.1 M2.2.2.1 M2.2.2.2.1 ∈ ri_WG) (h2 : Jvm.Cond.initialized M2.1.cls ∈ ri_WG) : ri_mok ri_WG hh M2 ∧ ∀ o ∈ M2.2.2.2.2.2, o.2.1 ≠ 24 ∧ o.2.1 ≠ 25 := by
  obtain ⟨g1, g2⟩ := (Bool.and_eq_true _ _ ▸ h : decide (hh M2.1 = []) = true ∧ ri_mchkH M2 = true)
  obtain ⟨a1, a2, a3, a4⟩ := ri_mchkH_ok g2
  exact ⟨⟨of_decide_eq_true g1, a1, h1, h2, a2, a3⟩, a4⟩
/-- the row of a table that takes the exception E at pc to hp, and that the rows ahead don't -/
def ri_hrow (own : String) (E : String) (pc hp : Nat) : List ExceptionTableEntry → Bool
  | [] => false
  | z :: r => bif covers z pc && Nat.beq z.handlerPc hp then (!Nat.beq z.catchType 0 && decide ((own, z.catchType, E) ∈ CN))
    else (!covers z pc || (!Nat.beq z.catchType 0 && CN.any (fun c => decide (c.1 = own) && (decide (c.2.1 = z.catchType) && decide ((E, c.2.2) ∈ NC))))) && ri_hrow own E pc hp r
theorem ri_hrow_ok (hCN : ∀ c ∈ CN, Jvm.Cond.classLink c.1 c.2.1 c.2.2 ∈ ri_WG) {own E : String} {pc hp : Nat} : ∀ {rows : List ExceptionTableEntry}, ri_hrow NC CN own E pc hp rows = true → ∃ (pre : List ExceptionTableEntry) (z : ExceptionTableEntry) (suf : List ExceptionTableEntry), rows = pre ++ z :: suf ∧ z.handlerPc = hp ∧ covers z pc = true ∧ z.catchType ≠ 0 ∧ Jvm.Cond.classLink own z.catchType E ∈ ri_WG ∧ ∀ y ∈ pre, covers y pc = false ∨ (y.catchType ≠ 0 ∧ ∃ nm : String, Jvm.Cond.classLink own y.catchType nm ∈ ri_WG ∧ (E, nm) ∈ NC)
  | [], h => by cases h
  | z :: r, h => by
    have h0 : (bif covers z pc && Nat.beq z.handlerPc hp then (!Nat.beq z.catchType 0 && decide ((own, z.catchType, E) ∈ CN))
      else (!covers z pc || (!Nat.beq z.catchType 0 && CN.any (fun c => decide (c.1 = own) && (decide (c.2.1 = z.catchType) && decide ((E, c.2.2) ∈ NC))))) && ri_hrow NC CN own E pc hp r) = true := h
    have ne0 : ∀ {n : Nat}, (!Nat.beq n 0) = true → n ≠ 0 := fun q e => by rw [e] at q; cases q
    cases hc : (covers z pc && Nat.beq z.handlerPc hp) with
    | true =>
      rw [hc, cond_true, Bool.and_eq_true] at h0
      rw [Bool.and_eq_true] at hc
      exact ⟨[], z, r, rfl, Nat.eq_of_beq_eq_true hc.2, hc.1, ne0 h0.1, hCN _ (of_decide_eq_true h0.2), fun y hy => by cases hy⟩
    | false =>
      rw [hc, cond_false, Bool.and_eq_true] at h0
      obtain ⟨g1, g2⟩ := h0
      obtain ⟨pre, z9, suf, e1, e2, e3, e4, e5, e6⟩ := ri_hrow_ok hCN g2
      refine ⟨z :: pre, z9, suf, by rw [e1]; rfl, e2, e3, e4, e5, fun y hy => ?_⟩
      rcases List.mem_cons.mp hy with q | q
      · subst q
        rcases Bool.or_eq_true _ _ ▸ g1 with g3 | g3
        · refine Or.inl ?_
          cases hq : covers y pc with
          | false => rfl
          | true => rw [hq] at g3; cases g3
        · rw [Bool.and_eq_true] at g3
          obtain ⟨c, hc1, hc2⟩ := List.any_eq_true.mp g3.2
          simp only [Bool.and_eq_true, decide_eq_true_eq] at hc2
          exact Or.inr ⟨ne0 g3.1, c.2.2, by rw [← hc2.1, ← hc2.2.1]; exact hCN c hc1, hc2.2.2⟩
      · exact e6 y q
def ri_inC (E : String) : Bool := CW.any (fun c => match c with
  | .inl q => decide (q = (E, E))
  | .inr _ => false)
theorem ri_inC_ok {E : String} (h : ri_inC CW E = true) : (Sum.inl (E, E) : ri_C9) ∈ CW := by
  obtain ⟨c, h1, h2⟩ := List.any_eq_true.mp h
  cases c with
  | inl q =>
    have e : q = (E, E) := of_decide_eq_true h2
    rw [← e]
    exact h1
  | inr y => cases h2
/-- all that are listed are caught there -/
def ri_hchk (M : ri_M) (pc : Nat) : Nat → List Nat → Bool
  | _, [] => true
  | x, t :: hs => (match M.2.2.2.2.2.drop t with
    | oh :: _ => ri_inC CW (exn x) && ri_hrow NC CN M.1.cls (exn x) pc oh.1 (tableOf (hh M.1))
    | [] => true) && ri_hchk M pc (x + 1) hs
theorem ri_hchk_ok (hCN : ∀ c ∈ CN, Jvm.Cond.classLink c.1 c.2.1 c.2.2 ∈ ri_WG) {M : ri_M} {pc : Nat} : ∀ {hs : List Nat} {x0 : Nat}, ri_hchk hh CW NC CN exn M pc x0 hs = true → ∀ (x t : Nat) (oh : ri_Op) (nx : List ri_Op), hs[x]? = some t → M.2.2.2.2.2.drop t = oh :: nx → ∃ (pre : List ExceptionTableEntry) (z : ExceptionTableEntry) (suf : List ExceptionTableEntry), tableOf (hh M.1) = pre ++ z :: suf ∧ z.handlerPc = oh.1 ∧ covers z pc = true ∧ z.catchType ≠ 0 ∧ (∃ nm : String, Jvm.Cond.classLink M.1.cls z.catchType nm ∈ ri_WG ∧ (Sum.inl (exn (x0 + x), nm) : ri_C9) ∈ CW) ∧ ∀ y ∈ pre, covers y pc = false ∨ (y.catchType ≠ 0 ∧ ∃ nm : String, Jvm.Cond.classLink M.1.cls y.catchType nm ∈ ri_WG ∧ (exn (x0 + x), nm) ∈ NC)
  | [], _, _ => fun x t oh nx h => by cases h
  | t0 :: hs, x0, h => by
    have h0 : ((match M.2.2.2.2.2.drop t0 with
      | oh :: _ => ri_inC CW (exn x0) && ri_hrow NC CN M.1.cls (exn x0) pc oh.1 (tableOf (hh M.1))
      | [] => true) && ri_hchk hh CW NC CN exn M pc (x0 + 1) hs) = true := h
    rw [Bool.and_eq_true] at h0
    intro x t oh nx hx hd
    cases x with
    | zero =>
      cases hx
      have h1 := h0.1
      rw [hd] at h1
      rw [Bool.and_eq_true] at h1
      obtain ⟨pre, z, suf, e1, e2, e3, e4, e5, e6⟩ := ri_hrow_ok NC CN hCN h1.2
      exact ⟨pre, z, suf, e1, e2, e3, e4, ⟨_, e5, ri_inC_ok CW h1.1⟩, e6⟩
    | succ x =>
      have k := ri_hchk_ok hCN h0.2 x t oh nx hx hd
      rw [show x0 + 1 + x = x0 + (x + 1) by omega] at k
      exact k
/-- the words that an instruction's step asks for; none: it isn't such a step -/
def ri_wd (M : ri_M) (pc κ : Nat) (i : Instr) (a b : Nat) (v : Value) (ts : List Nat) : Option (List Jvm.Cond) := match κ with
  | 0 => some []
  | 1 => (match i with
    | .getfield idx => (match cl[a]? with
      | some r => ri_ok (Nat.blt b r.2.2) (some [Jvm.Cond.fieldLink M.1.cls idx (r.2.1 b).1 (r.2.1 b).2.1 (r.2.1 b).2.2.1])
      | none => none)
    | _ => none)
  | 2 => (match i with
    | .putfield idx => (match cl[a]? with
      | some r => ri_ok (Nat.blt b r.2.2 && (!(r.2.1 b).2.2.2 || (decide (M.1.name = "<init>") && decide ((r.2.1 b).1 = M.1.cls)))) (some [Jvm.Cond.fieldLink M.1.cls idx (r.2.1 b).1 (r.2.1 b).2.1 (r.2.1 b).2.2.1])
      | none => none)
    | _ => none)
  | 3 => (match i with
    | .ldc idx => (match v with | .int x => some [Jvm.Cond.constant M.1.cls idx x] | _ => none)
    | .ldc_w idx => (match v with | .int x => some [Jvm.Cond.constant M.1.cls idx x] | _ => none)
    | .ldc2_w idx => (match v with | .long x => some [Jvm.Cond.constantLong M.1.cls idx x] | .double x => some [Jvm.Cond.constantDouble M.1.cls idx x] | _ => none)
    | _ => none)
  | 4 => (match Ms[a]? with
    | some M2 => (match b with
      | 0 => (match i with
        | .invokevirtual idx => (match ts with
          | [t] => (match cl[t]? with
            | some r => ri_ok (decide (hh M.1 = []) && (ri_mchk hh M2 && decide (r.1 = M2.1.cls))) (some [Jvm.Cond.code M2.1 M2.2.1 M2.2.2.1 M2.2.2.2.1, Jvm.Cond.initialized M2.1.cls, Jvm.Cond.methodLink M.1.cls idx M2.1, Jvm.Cond.instanceMethod M2.1, Jvm.Cond.selects M2.1.cls M2.1 M2.1])
            | none => none)
          | _ => none)
        | _ => none)
      | 1 => (match i with
        | .invokestatic idx => ri_ok (decide (hh M.1 = []) && ri_mchk hh M2) (some [Jvm.Cond.code M2.1 M2.2.1 M2.2.2.1 M2.2.2.2.1, Jvm.Cond.initialized M2.1.cls, Jvm.Cond.methodLink M.1.cls idx M2.1, Jvm.Cond.static M2.1])
        | _ => none)
      | 2 => (match i with
        | .invokespecial idx => ri_ok (decide (hh M.1 = []) && (ri_mchk hh M2 && (decide (M2.1.name = "<init>") && decide (M2.2.2.2.1 = none)))) (some [Jvm.Cond.code M2.1 M2.2.1 M2.2.2.1 M2.2.2.2.1, Jvm.Cond.initialized M2.1.cls, Jvm.Cond.methodLink M.1.cls idx M2.1, Jvm.Cond.instanceMethod M2.1])
        | _ => none)
      | 3 => (match i with
        | .invokespecial idx => ri_ok (decide (hh M.1 = []) && (ri_mchk hh M2 && (decide (M2.1.name = "<init>") && (decide (M2.2.2.2.1 = none) && NW.any (fun x => decide (x.1 = M.1.cls) && (decide (x.2.1 = idx) && decide (x.2.2.1 = M2.1))))))) (some [Jvm.Cond.code M2.1 M2.2.1 M2.2.2.1 M2.2.2.2.1, Jvm.Cond.initialized M2.1.cls, Jvm.Cond.instanceMethod M2.1])
        | _ => none)
      | 4 => (match i with
        | .invokestatic idx => ri_ok (decide (hh M.1 = []) && (ri_mchk hh M2 && NW.any (fun x => decide (x.1 = M.1.cls) && (decide (x.2.1 = idx) && decide (x.2.2.1 = M2.1))))) (some [Jvm.Cond.code M2.1 M2.2.1 M2.2.2.1 M2.2.2.2.1, Jvm.Cond.initialized M2.1.cls, Jvm.Cond.static M2.1])
        | _ => none)
      | 5 => (match i with
        | .invokevirtual idx => (match ts with
          | t :: hs => (match cl[t]? with
            | some r => ri_ok (ri_mchk hh M2 && (decide (r.1 = M2.1.cls) && ri_hchk hh CW NC CN exn M pc 0 hs)) (some [Jvm.Cond.code M2.1 M2.2.1 M2.2.2.1 M2.2.2.2.1, Jvm.Cond.initialized M2.1.cls, Jvm.Cond.methodLink M.1.cls idx M2.1, Jvm.Cond.instanceMethod M2.1, Jvm.Cond.selects M2.1.cls M2.1 M2.1])
            | none => none)
          | _ => none)
        | _ => none)
      | 6 => (match i with
        | .invokestatic idx => ri_ok (decide (hh M.1 = []) && ri_mchkH M2) (some [Jvm.Cond.codeWith M2.1 M2.2.1 M2.2.2.1 M2.2.2.2.1 (hh M2.1), Jvm.Cond.initialized M2.1.cls, Jvm.Cond.methodLink M.1.cls idx M2.1, Jvm.Cond.static M2.1])
        | _ => none)
      | _ => none)
    | none => none)
  | 5 => ri_ok (decide (i = .iaload)) (some [])
  | 6 => ri_ok (decide (i = .iastore)) (some [])
  | 7 => ri_ok (decide (i = .laload)) (some [])
  | 8 => ri_ok (decide (i = .lastore)) (some [])
  | 9 => ri_ok (decide (i = .daload)) (some [])
  | 10 => ri_ok (decide (i = .dastore)) (some [])
  | 11 => ri_ok (decide (i = .aaload)) (some [])
  | 12 => ri_ok (decide (i = .baload)) (some [])
  | 13 => ri_ok (decide (i = .bastore)) (some [])
  | 14 => (match cl[a]? with
    | some r => ri_ok (decide (i = .aastore) && decide (tyL[b]? = some (.object r.1))) (some [])
    | none => none)
  | 15 => ri_ok (decide (i = .arraylength)) (some [])
  | 16 => some []
  | 17 => some []
  | 18 => (match i with
    | .new idx => (match cl[a]? with
      | some r => ri_ok (Nat.beq r.2.2 b) (some [Jvm.Cond.classLink M.1.cls idx r.1])
      | none => none)
    | _ => none)
  | 19 => (match i with
    | .newarray t => (match tyL[a]? with
      | some t9 => ri_ok (decide (newarray.typeOf t = t9) && (!decide (t9 = .float) && decide (v = defaultValue t9))) (some [Jvm.Cond.arrayClass t9])
      | none => none)
    | _ => none)
  | 20 => (match i with
    | .anewarray idx => (match tyL[a]? with
      | some (.object C) => ri_ok (decide (FieldType.object C ∈ AO)) (some [Jvm.Cond.classLink M.1.cls idx C])
      | _ => none)
    | _ => none)
  | 21 => (match i with
    | .invokespecial idx => some [Jvm.Cond.methodLink M.1.cls idx Lib.objectInit, Jvm.Cond.instanceMethod Lib.objectInit, Jvm.Cond.code Lib.objectInit ⟨#[0xb1]⟩ 1 none]
    | _ => none)
  | 22 => (match i with
    | .invokestatic idx => some [Jvm.Cond.methodLink M.1.cls idx arraycopyName, Jvm.Cond.native arraycopyName, Jvm.Cond.static arraycopyName, Jvm.Cond.initialized "java/lang/System"]
    | _ => none)
  | 23 => none
  | 24 => ri_ok (decide (i = .iaload)) (some [])
  | 25 => ri_ok (decide (i = .arraylength)) (some [])
  | 26 => (match i with
    | .multianewarray idx 2 => ri_ok (decide (tyL[a]? = some .double) && (decide (tyL[b]? = some (.array .double)) && decide (FieldType.array .double ∈ AO))) (some [Jvm.Cond.classLink M.1.cls idx "[[D", Jvm.Cond.arrayClass .double])
    | _ => none)
  | 27 => ri_ok (decide (i = .bastore)) (some [])
  | 28 => (match decode M.2.1 (pc + 2) with
    | .ok (.getfield idx, 3) => (match cl[a]? with
      | some r => (match decode M.2.1 (pc + 8) with
        | .ok (.ifCond .lt off, 3) => (match v with
          | .ref t => ri_ok (decide (i = .i2l) && (decide (decode M.2.1 (pc + 1) = .ok (.aload_n 0, 1)) && (Nat.blt b r.2.2 && (decide (decode M.2.1 (pc + 5) = .ok (.iconst 3, 1)) && (decide (decode M.2.1 (pc + 6) = .ok (.laload, 1)) && (decide (decode M.2.1 (pc + 7) = .ok (.lcmp, 1)) && decide (((pc + 8 : Nat) : Int) + off = (t : Int)))))))) (some [Jvm.Cond.fieldLink M.1.cls idx (r.2.1 b).1 (r.2.1 b).2.1 (r.2.1 b).2.2.1])
          | _ => none)
        | _ => none)
      | none => none)
    | _ => none)
  | _ => some []
theorem ri_any_nw {M M2 : ri_M} {idx : Nat} (h : NW.any (fun x => decide (x.1 = M.1.cls) && (decide (x.2.1 = idx) && decide (x.2.2.1 = M2.1))) = true) : ∃ host : String, (M.1.cls, idx, M2.1, host) ∈ NW := by
  obtain ⟨x, hx, hq⟩ := List.any_eq_true.mp h
  simp only [Bool.and_eq_true, decide_eq_true_eq] at hq
  obtain ⟨x1, x2, x3, x4⟩ := x
  obtain ⟨e1, e2, e3⟩ := hq
  dsimp only at e1 e2 e3
  subst e1; subst e2; subst e3
  exact ⟨x4, hx⟩
end RIV
end
section
/-! ===== the reckoner, part 13: what the check gives ===== -/
section RIV2
variable {hh : MethodName → List (Nat × Nat × Nat × Nat)} {NW : List ri_N} {CW : List ri_C9} {NC : List (String × String)} {CN : List (String × Nat × String)} {AO : List FieldType} {cl : List vw_C} {Ms : List ri_M} {tyL : List FieldType} {exl : Nat → Nat} {exn : Nat → String}
theorem ri_wd_ok {M : ri_M} {pc κ : Nat} {i : Instr} {a b : Nat} {v : Value} {ts : List Nat} {ws : List Jvm.Cond} (hCN : ∀ c ∈ CN, Jvm.Cond.classLink c.1 c.2.1 c.2.2 ∈ ri_WG) (h : ri_wd hh NW CW NC CN AO cl Ms tyL exn M pc κ i a b v ts = some ws) (hw : ∀ w ∈ ws, w ∈ ri_WG) : ri_link ri_WG hh NW CW NC AO cl Ms tyL exl exn M pc κ i a b v ts := by
  unfold ri_wd at h
  split at h
  · trivial
  · split at h
    · rename_i idx
      split at h
      · rename_i r hr
        obtain ⟨h1, h2⟩ := ri_ok_eq h
        cases h2
        exact ⟨idx, r, rfl, hr, Nat.le_of_ble_eq_true h1, hw _ List.mem_cons_self⟩
      · cases h
    · cases h
  · split at h
    · rename_i idx
      split at h
      · rename_i r hr
        obtain ⟨h1, h2⟩ := ri_ok_eq h
        cases h2
        obtain ⟨g1, g2⟩ := (Bool.and_eq_true _ _ ▸ h1 : Nat.blt b r.2.2 = true ∧ (!(r.2.1 b).2.2.2 || (decide (M.1.name = "<init>") && decide ((r.2.1 b).1 = M.1.cls))) = true)
        refine ⟨idx, r, rfl, hr, Nat.le_of_ble_eq_true g1, hw _ List.mem_cons_self, ?_⟩
        rcases Bool.or_eq_true _ _ ▸ g2 with g3 | g3
        · exact Or.inl (by simpa using g3)
        · exact Or.inr (by simpa using g3)
      · cases h
    · cases h
  · split at h
    · rename_i idx
      split at h
      · rename_i x
        cases h
        exact Or.inl ⟨idx, x, rfl, rfl, hw _ List.mem_cons_self⟩
      · cases h
    · rename_i idx
      split at h
      · rename_i x
        cases h
        exact Or.inr (Or.inl ⟨idx, x, rfl, rfl, hw _ List.mem_cons_self⟩)
      · cases h
    · rename_i idx
      split at h
      · rename_i x
        cases h
        exact Or.inr (Or.inr (Or.inl ⟨idx, x, rfl, rfl, hw _ List.mem_cons_self⟩))
      · rename_i x
        cases h
        exact Or.inr (Or.inr (Or.inr ⟨idx, x, rfl, rfl, hw _ List.mem_cons_self⟩))
      · cases h
    · cases h
  · split at h
    · rename_i M2 hM2
      show ri_clink ri_WG hh NW CW NC cl Ms exn M pc i a b ts
      split at h
      · split at h
        · rename_i idx
          split at h
          · rename_i t
            split at h
            · rename_i r hr
              obtain ⟨h3, h4⟩ := ri_ok_eq h
              cases h4
              simp only [Bool.and_eq_true, decide_eq_true_eq] at h3
              obtain ⟨m1, m2⟩ := ri_mchk_ok hh h3.2.1 (hw _ (List.mem_of_getElem? (i := 0) rfl)) (hw _ (List.mem_of_getElem? (i := 1) rfl))
              exact ⟨M2, hM2, m2, h3.1, m1, idx, t, r, rfl, rfl, hr, h3.2.2, hw _ (List.mem_of_getElem? (i := 2) rfl), hw _ (List.mem_of_getElem? (i := 3) rfl), hw _ (List.mem_of_getElem? (i := 4) rfl)⟩
            · cases h
          · cases h
        · cases h
      · split at h
        · rename_i idx
          obtain ⟨h3, h4⟩ := ri_ok_eq h
          cases h4
          simp only [Bool.and_eq_true, decide_eq_true_eq] at h3
          obtain ⟨m1, m2⟩ := ri_mchk_ok hh h3.2 (hw _ (List.mem_of_getElem? (i := 0) rfl)) (hw _ (List.mem_of_getElem? (i := 1) rfl))
          exact ⟨M2, hM2, m2, h3.1, m1, idx, rfl, hw _ (List.mem_of_getElem? (i := 2) rfl), hw _ (List.mem_of_getElem? (i := 3) rfl)⟩
        · cases h
      · split at h
        · rename_i idx
          obtain ⟨h3, h4⟩ := ri_ok_eq h
          cases h4
          simp only [Bool.and_eq_true, decide_eq_true_eq] at h3
          obtain ⟨m1, m2⟩ := ri_mchk_ok hh h3.2.1 (hw _ (List.mem_of_getElem? (i := 0) rfl)) (hw _ (List.mem_of_getElem? (i := 1) rfl))
          exact ⟨M2, hM2, m2, h3.1, m1, idx, rfl, hw _ (List.mem_of_getElem? (i := 2) rfl), h3.2.2.1, hw _ (List.mem_of_getElem? (i := 3) rfl), h3.2.2.2⟩
        · cases h
      · split at h
        · rename_i idx
          obtain ⟨h3, h4⟩ := ri_ok_eq h
          cases h4
          rw [Bool.and_eq_true, Bool.and_eq_true, Bool.and_eq_true, Bool.and_eq_true] at h3
          obtain ⟨g0, g1, g2, g3, g4⟩ := h3
          obtain ⟨host, hh9⟩ := ri_any_nw NW g4
          obtain ⟨m1, m2⟩ := ri_mchk_ok hh g1 (hw _ (List.mem_of_getElem? (i := 0) rfl)) (hw _ (List.mem_of_getElem? (i := 1) rfl))
          exact ⟨M2, hM2, m2, of_decide_eq_true g0, m1, idx, host, rfl, hh9, of_decide_eq_true g2, hw _ (List.mem_of_getElem? (i := 2) rfl), of_decide_eq_true g3⟩
        · cases h
      · split at h
        · rename_i idx
          obtain ⟨h3, h4⟩ := ri_ok_eq h
          cases h4
          rw [Bool.and_eq_true, Bool.and_eq_true] at h3
          obtain ⟨g0, g1, g4⟩ := h3
          obtain ⟨host, hh9⟩ := ri_any_nw NW g4
          obtain ⟨m1, m2⟩ := ri_mchk_ok hh g1 (hw _ (List.mem_of_getElem? (i := 0) rfl)) (hw _ (List.mem_of_getElem? (i := 1) rfl))
          exact ⟨M2, hM2, m2, of_decide_eq_true g0, m1, idx, host, rfl, hh9, hw _ (List.mem_of_getElem? (i := 2) rfl)⟩
        · cases h
      · split at h
        · rename_i idx
          split at h
          · rename_i t hs
            split at h
            · rename_i r hr
              obtain ⟨h3, h4⟩ := ri_ok_eq h
              cases h4
              rw [Bool.and_eq_true, Bool.and_eq_true] at h3
              obtain ⟨g1, g2, g3⟩ := h3
              obtain ⟨m1, m2⟩ := ri_mchk_ok hh g1 (hw _ (List.mem_of_getElem? (i := 0) rfl)) (hw _ (List.mem_of_getElem? (i := 1) rfl))
              refine ⟨M2, hM2, m2, m1, idx, t, hs, r, rfl, rfl, fun x t9 oh nx k1 k2 => ?_, hr, of_decide_eq_true g2, hw _ (List.mem_of_getElem? (i := 2) rfl), hw _ (List.mem_of_getElem? (i := 3) rfl), hw _ (List.mem_of_getElem? (i := 4) rfl)⟩
              have k3 := ri_hchk_ok hh CW NC CN exn hCN g3 x t9 oh nx k1 k2
              rw [Nat.zero_add] at k3
              exact k3
            · cases h
          · cases h
        · cases h
      · split at h
        · rename_i idx
          obtain ⟨h3, h4⟩ := ri_ok_eq h
          cases h4
          rw [Bool.and_eq_true] at h3
          obtain ⟨a1, a2, a3, a4⟩ := ri_mchkH_ok h3.2
          exact ⟨M2, hM2, a4, of_decide_eq_true h3.1, ⟨a1, hw _ (List.mem_of_getElem? (i := 0) rfl), hw _ (List.mem_of_getElem? (i := 1) rfl), a2, a3⟩, idx, rfl, hw _ (List.mem_of_getElem? (i := 2) rfl), hw _ (List.mem_of_getElem? (i := 3) rfl)⟩
        · cases h
      · cases h
    · cases h
  · have h1 := of_decide_eq_true (ri_ok_eq h).1; exact h1
  · have h1 := of_decide_eq_true (ri_ok_eq h).1; exact h1
  · have h1 := of_decide_eq_true (ri_ok_eq h).1; exact h1
  · have h1 := of_decide_eq_true (ri_ok_eq h).1; exact h1
  · have h1 := of_decide_eq_true (ri_ok_eq h).1; exact h1
  · have h1 := of_decide_eq_true (ri_ok_eq h).1; exact h1
  · have h1 := of_decide_eq_true (ri_ok_eq h).1; exact h1
  · have h1 := of_decide_eq_true (ri_ok_eq h).1; exact h1
  · have h1 := of_decide_eq_true (ri_ok_eq h).1; exact h1
  · split at h
    · rename_i r hr
      have h1 := (ri_ok_eq h).1
      simp only [Bool.and_eq_true, decide_eq_true_eq] at h1
      exact ⟨r, h1.1, hr, h1.2⟩
    · cases h
  · have h1 := of_decide_eq_true (ri_ok_eq h).1; exact h1
  · trivial
  · trivial
  · split at h
    · rename_i idx
      split at h
      · rename_i r hr
        obtain ⟨h1, h2⟩ := ri_ok_eq h
        cases h2
        exact ⟨idx, r, rfl, hr, Nat.eq_of_beq_eq_true h1, hw _ List.mem_cons_self⟩
      · cases h
    · cases h
  · split at h
    · rename_i t
      split at h
      · rename_i t9 ht
        obtain ⟨h1, h2⟩ := ri_ok_eq h
        cases h2
        simp only [Bool.and_eq_true, decide_eq_true_eq] at h1
        exact ⟨t, t9, rfl, ht, h1.1, by simpa using h1.2.1, hw _ List.mem_cons_self, h1.2.2⟩
      · cases h
    · cases h
  · split at h
    · rename_i idx
      split at h
      · rename_i C hC
        obtain ⟨h1, h2⟩ := ri_ok_eq h
        cases h2
        exact ⟨idx, C, rfl, hC, hw _ List.mem_cons_self, of_decide_eq_true h1⟩
      · cases h
    · cases h
  · split at h
    · rename_i idx
      cases h
      exact ⟨idx, rfl, hw _ (List.mem_of_getElem? (i := 0) rfl), hw _ (List.mem_of_getElem? (i := 1) rfl), hw _ (List.mem_of_getElem? (i := 2) rfl)⟩
    · cases h
  · split at h
    · rename_i idx
      cases h
      exact ⟨idx, rfl, hw _ (List.mem_of_getElem? (i := 0) rfl), hw _ (List.mem_of_getElem? (i := 1) rfl), hw _ (List.mem_of_getElem? (i := 2) rfl), hw _ (List.mem_of_getElem? (i := 3) rfl)⟩
    · cases h
  · cases h
  · have h1 := of_decide_eq_true (ri_ok_eq h).1; exact h1
  · have h1 := of_decide_eq_true (ri_ok_eq h).1; exact h1
  · split at h
    · rename_i idx
      obtain ⟨h1, h2⟩ := ri_ok_eq h
      cases h2
      simp only [Bool.and_eq_true, decide_eq_true_eq] at h1
      exact ⟨idx, rfl, h1.1, h1.2.1, hw _ (List.mem_of_getElem? (i := 0) rfl), hw _ (List.mem_of_getElem? (i := 1) rfl), h1.2.2⟩
    · cases h
  · have h1 := of_decide_eq_true (ri_ok_eq h).1; exact h1
  · split at h
    · rename_i idx hg
      split at h
      · rename_i r hr
        split at h
        · rename_i off ho
          split at h
          · rename_i t
            obtain ⟨h1, h2⟩ := ri_ok_eq h
            cases h2
            simp only [Bool.and_eq_true, decide_eq_true_eq] at h1
            obtain ⟨a1, a2, a3, a4, a5, a6, a7⟩ := h1
            exact ⟨a1, a2, ⟨idx, r, hg, hr, Nat.le_of_ble_eq_true a3, hw _ List.mem_cons_self⟩, a4, a5, a6, off, t, ho, rfl, a7⟩
          · cases h
        · cases h
      · cases h
    · cases h
  · rename_i x1 x2 x3 x4 x5 x6 x7 x8 x9 x10 x11 x12 x13 x14 x15 x16 x17 x18 x19 x20 x21 x22 x23 x24 x25 x26 x27 x28 x29
    unfold ri_link
    split <;> first | trivial | (exfalso; first | exact x1 rfl | exact x2 rfl | exact x3 rfl | exact x4 rfl | exact x5 rfl | exact x6 rfl | exact x7 rfl | exact x8 rfl | exact x9 rfl | exact x10 rfl | exact x11 rfl | exact x12 rfl | exact x13 rfl | exact x14 rfl | exact x15 rfl | exact x16 rfl | exact x17 rfl | exact x18 rfl | exact x19 rfl | exact x20 rfl | exact x21 rfl | exact x22 rfl | exact x23 rfl | exact x24 rfl | exact x25 rfl | exact x26 rfl | exact x27 rfl | exact x28 rfl | exact x29 rfl)
/-- an instruction as the bytes have it -/
def ri_dk (cc : ByteArray) (o : ri_Op) : Bool := match decode cc o.1 with
  | .ok z => decide (z.1 = o.2.2.1) && (Nat.beq (ri_len z.1) 0 || Nat.beq (ri_len z.1) z.2)
  | .error _ => false
theorem ri_dk_ok {cc : ByteArray} {o : ri_Op} (h : ri_dk cc o = true) : ∃ len : Nat, decode cc o.1 = .ok (o.2.2.1, len) ∧ (ri_len o.2.2.1 = 0 ∨ ri_len o.2.2.1 = len) := by
  unfold ri_dk at h
  split at h
  · rename_i z hz
    obtain ⟨z1, z2⟩ := z
    simp only [Bool.and_eq_true, Bool.or_eq_true, decide_eq_true_eq] at h
    obtain ⟨h1, h2⟩ := h
    subst h1
    exact ⟨z2, hz, h2.elim (fun q => Or.inl (Nat.eq_of_beq_eq_true q)) (fun q => Or.inr (Nat.eq_of_beq_eq_true q))⟩
  · cases h
/-- the names between an exception and Throwable -/
def ri_xn : List String := ["java/lang/RuntimeException", "java/lang/Exception"]
/-- an exception that a class makes (ik, ic its places there): all its words stand in the tables, or are castables -/
def ri_xall (CW : List ri_C9) (own : String) (ik ic : Nat) (E : String) : Bool := Bundle.fit E && (ri_xn.all Bundle.fit && ((Jvm.Cond.classLink own ik E :: Jvm.Cond.initialized E :: vx_at0 own ic E ri_xn).all vx_ot && ((goodWord (.classLink own ik E) && decide (Jvm.Cond.classLink own ik E ∈ lw_tbl)) && ((goodWord (.initialized E) && decide (Jvm.Cond.initialized E ∈ lw_tbl)) && (vx_at0 own ic E ri_xn).all (fun w => (goodWord w && decide (w ∈ lw_tbl)) || CW.any (fun x => decide (w = ri_cw x)))))))
/-- such exceptions: the class, the two places, the number -/
abbrev ri_X : Type := String × Nat × Nat × Nat
def ri_xfact (CW : List ri_C9) (exl : Nat → Nat) (exn : Nat → String) (x : ri_X) : Prop := exl x.2.2.2 = 2 ∧ ri_xall CW x.1 x.2.1 x.2.2.1 (exn x.2.2.2) = true
/-- 'throw new E()': b the place of the constructor -/
def ri_x3 (hh : MethodName → List (Nat × Nat × Nat × Nat)) (XT : List ri_X) (M : ri_M) (o : ri_Op) : Bool := match o.2.2.1 with
  | .new ik => decide (hh M.1 = []) && (decide ((M.1.cls, ik, o.2.2.2.2.1, o.2.2.2.1) ∈ XT) && (decide (decode M.2.1 (o.1 + 3) = .ok (.dup, 1)) && (decide (decode M.2.1 (o.1 + 4) = .ok (.invokespecial o.2.2.2.2.1, 3)) && decide (decode M.2.1 (o.1 + 7) = .ok (.athrow, 1)))))
  | _ => false
theorem ri_in_WG {w : Jvm.Cond} (h : (goodWord w && decide (w ∈ lw_tbl)) = true) : w ∈ ri_WG := by
  simp only [Bool.and_eq_true, decide_eq_true_eq] at h
  exact List.mem_filter.mpr ⟨h.2, h.1⟩
theorem ri_x3_ok {XT : List ri_X} (hX : ∀ x ∈ XT, ri_xfact CW exl exn x) {M : ri_M} {o : ri_Op} (h : ri_x3 hh XT M o = true) : ri_xlink ri_WG hh CW exl exn M o.1 o.2.2.1 o.2.2.2.1 := by
  unfold ri_x3 at h
  split at h
  · rename_i ik hik
    simp only [Bool.and_eq_true, decide_eq_true_eq] at h
    obtain ⟨h0, h1, h2, h3, h4⟩ := h
    obtain ⟨e1, e2⟩ := hX _ h1
    unfold ri_xall at e2
    simp only [Bool.and_eq_true] at e2
    obtain ⟨a1, a2, a3, a4, a5, a6⟩ := e2
    refine ⟨h0, ik, o.2.2.2.2.1, ri_xn, hik, h2, h3, h4, e1, a1, fun n hn => List.all_eq_true.mp a2 n hn, ri_in_WG (by simpa using a4), ri_in_WG (by simpa using a5), fun w hw => ?_, fun w hw => List.all_eq_true.mp a3 w hw⟩
    have h9 := List.all_eq_true.mp a6 w hw
    rcases Bool.or_eq_true _ _ ▸ h9 with h9 | h9
    · exact Or.inl (ri_in_WG h9)
    · obtain ⟨x, hx, hq⟩ := List.any_eq_true.mp h9
      exact Or.inr ⟨x, hx, of_decide_eq_true hq⟩
  · cases h
/-- a method: each instruction is as the bytes have it, its words stand at these places -/
def ri_chk (hh : MethodName → List (Nat × Nat × Nat × Nat)) (NW : List ri_N) (CW : List ri_C9) (NC : List (String × String)) (CN : List (String × Nat × String)) (AO : List FieldType) (cl : List vw_C) (Ms : List ri_M) (tyL : List FieldType) (exn : Nat → String) (XT : List ri_X) (M : ri_M) : List ri_Op → List (List Nat) → Bool
  | [], _ => true
  | o :: os, ps => ri_dk M.2.1 o && ((bif Nat.beq o.2.1 23 then ri_x3 hh XT M o else (match ri_wd hh NW CW NC CN AO cl Ms tyL exn M o.1 o.2.1 o.2.2.1 o.2.2.2.1 o.2.2.2.2.1 o.2.2.2.2.2.1 o.2.2.2.2.2.2 with
    | some ws => ri_has (ps.headD []) ws
    | none => false)) && ri_chk hh NW CW NC CN AO cl Ms tyL exn XT M os ps.tail)
theorem ri_chk_ok (hCN : ∀ c ∈ CN, Jvm.Cond.classLink c.1 c.2.1 c.2.2 ∈ ri_WG) {XT : List ri_X} (hX : ∀ x ∈ XT, ri_xfact CW exl exn x) {M : ri_M} : ∀ {os : List ri_Op} {ps : List (List Nat)}, ri_chk hh NW CW NC CN AO cl Ms tyL exn XT M os ps = true → ∀ o ∈ os, ri_opok ri_WG hh NW CW NC AO cl Ms tyL exl exn M o
  | [], _, _ => fun o ho => by cases ho
  | o :: os, ps, h => by
    have h0 : (ri_dk M.2.1 o && ((bif Nat.beq o.2.1 23 then ri_x3 hh XT M o else (match ri_wd hh NW CW NC CN AO cl Ms tyL exn M o.1 o.2.1 o.2.2.1 o.2.2.2.1 o.2.2.2.2.1 o.2.2.2.2.2.1 o.2.2.2.2.2.2 with
      | some ws => ri_has (ps.headD []) ws
      | none => false)) && ri_chk hh NW CW NC CN AO cl Ms tyL exn XT M os ps.tail)) = true := h
    rw [Bool.and_eq_true, Bool.and_eq_true] at h0
    obtain ⟨h1, h2, h3⟩ := h0
    intro o9 ho9
    rcases List.mem_cons.mp ho9 with e | e
    · subst e
      cases hk : Nat.beq o9.2.1 23 with
      | true =>
        rw [hk, cond_true] at h2
        have e3 : o9.2.1 = 23 := Nat.eq_of_beq_eq_true hk
        refine ⟨ri_dk_ok h1, ?_⟩
        rw [e3]
        exact ri_x3_ok hX h2
      | false =>
        rw [hk, cond_false] at h2
        split at h2
        · rename_i ws hws
          exact ⟨ri_dk_ok h1, ri_wd_ok hCN hws (ri_has_ok h2)⟩
        · cases h2
    · exact ri_chk_ok hCN hX h3 o9 e
end RIV2
end
section
/-! ===== the reckoner, part 14: the same over trees: perfect binary trees, arrays, worlds ===== -/
noncomputable def rf_T (α : Type) (n : Nat) : Type := Nat.rec (motive := fun _ => Type) α (fun _ T => T × T) n
section RF1
variable {α : Type}
noncomputable def rf_l {k : Nat} (t : rf_T α (k + 1)) : rf_T α k := Prod.fst (α := rf_T α k) (β := rf_T α k) t
noncomputable def rf_r {k : Nat} (t : rf_T α (k + 1)) : rf_T α k := Prod.snd (α := rf_T α k) (β := rf_T α k) t
noncomputable def rf_n {k : Nat} (a b : rf_T α k) : rf_T α (k + 1) := Prod.mk (α := rf_T α k) (β := rf_T α k) a b
noncomputable def rf_tg (n : Nat) : rf_T α n → Nat → α := Nat.rec (motive := fun n => rf_T α n → Nat → α) (fun t _ => t) (fun k ih t i => bif Nat.blt i (Nat.pow 2 k) then ih (Prod.fst (α := rf_T α k) (β := rf_T α k) t) i else ih (Prod.snd (α := rf_T α k) (β := rf_T α k) t) (Nat.sub i (Nat.pow 2 k))) n
noncomputable def rf_tu (v : α) (n : Nat) : rf_T α n → Nat → rf_T α n := Nat.rec (motive := fun n => rf_T α n → Nat → rf_T α n) (fun _ _ => v) (fun k ih t i => @cond (rf_T α k × rf_T α k) (Nat.blt i (Nat.pow 2 k)) (ih (Prod.fst (α := rf_T α k) (β := rf_T α k) t) i, Prod.snd (α := rf_T α k) (β := rf_T α k) t) (Prod.fst (α := rf_T α k) (β := rf_T α k) t, ih (Prod.snd (α := rf_T α k) (β := rf_T α k) t) (Nat.sub i (Nat.pow 2 k)))) n
noncomputable def rf_tr (v : α) (n : Nat) : rf_T α n := Nat.rec (motive := fun n => rf_T α n) v (fun k ih => (Prod.mk (α := rf_T α k) (β := rf_T α k) ih ih)) n
theorem rf_tg_s (k : Nat) (t : rf_T α (k + 1)) (i : Nat) : rf_tg (k + 1) t i = bif Nat.blt i (Nat.pow 2 k) then rf_tg k (rf_l t) i else rf_tg k (rf_r t) (Nat.sub i (Nat.pow 2 k)) := rfl
theorem rf_tu_s (v : α) (k : Nat) (t : rf_T α (k + 1)) (i : Nat) : rf_tu v (k + 1) t i = bif Nat.blt i (Nat.pow 2 k) then rf_n (rf_tu v k (rf_l t) i) (rf_r t) else rf_n (rf_l t) (rf_tu v k (rf_r t) (Nat.sub i (Nat.pow 2 k))) := rfl
theorem rf_blt_t {x y : Nat} (h : x < y) : Nat.blt x y = true := Nat.ble_eq_true_of_le h
theorem rf_blt_f {x y : Nat} (h : ¬ x < y) : Nat.blt x y = false := by
  cases hb : Nat.blt x y with
  | false => rfl
  | true => exact absurd (Nat.le_of_ble_eq_true hb) h
theorem rf_tg_tr (v : α) : ∀ (n i : Nat), rf_tg n (rf_tr v n) i = v
  | 0, _ => rfl
  | k + 1, i => by
    show (bif Nat.blt i (Nat.pow 2 k) then rf_tg k (rf_tr v k) i else rf_tg k (rf_tr v k) (Nat.sub i (Nat.pow 2 k))) = v
    rw [rf_tg_tr v k, rf_tg_tr v k]
    cases Nat.blt i (Nat.pow 2 k) <;> rfl
theorem rf_tg_tu (v : α) : ∀ (n : Nat) (t : rf_T α n) (i j : Nat), i < 2 ^ n → j < 2 ^ n → rf_tg n (rf_tu v n t i) j = if j = i then v else rf_tg n t j
  | 0, t, i, j, hi, hj => by
    have e : j = i := by simp at hi hj; omega
    rw [if_pos e]
    rfl
  | k + 1, t, i, j, hi, hj => by
    have hp : 2 ^ (k + 1) = 2 ^ k + 2 ^ k := by rw [Nat.pow_succ]; omega
    rw [hp] at hi hj
    rw [rf_tu_s, rf_tg_s, rf_tg_s]
    have hP : Nat.pow 2 k = 2 ^ k := rfl
    rw [hP]
    by_cases h1 : i < 2 ^ k
    · rw [rf_blt_t h1, cond_true]
      by_cases h2 : j < 2 ^ k
      · rw [rf_blt_t h2, cond_true, cond_true]
        exact rf_tg_tu v k (rf_l t) i j h1 h2
      · rw [rf_blt_f h2, cond_false, cond_false, if_neg (by omega)]
        rfl
    · rw [rf_blt_f h1, cond_false]
      by_cases h2 : j < 2 ^ k
      · rw [rf_blt_t h2, cond_true, cond_true, if_neg (by omega)]
        rfl
      · rw [rf_blt_f h2, cond_false, cond_false]
        have k9 := rf_tg_tu v k (rf_r t) (i - 2 ^ k) (j - 2 ^ k) (by omega) (by omega)
        have e9 : (j - 2 ^ k = i - 2 ^ k) = (j = i) := propext ⟨fun q => by omega, fun q => by omega⟩
        simp only [e9] at k9
        exact k9
noncomputable def rf_tl (n len : Nat) (t : rf_T α n) : List α := (List.range len).map (rf_tg n t)
theorem rf_tl_len {n len : Nat} {t : rf_T α n} : (rf_tl n len t).length = len := by
  unfold rf_tl
  rw [List.length_map, List.length_range]
theorem rf_tl_at {n len i : Nat} {t : rf_T α n} : (rf_tl n len t)[i]? = if i < len then some (rf_tg n t i) else none := by
  unfold rf_tl
  rw [List.getElem?_map]
  by_cases h : i < len
  · rw [List.getElem?_range h, if_pos h]
    rfl
  · rw [List.getElem?_eq_none (by rw [List.length_range]; omega), if_neg h]
    rfl
theorem rf_tl_set {n len i : Nat} {t : rf_T α n} {v : α} (hl : len ≤ 2 ^ n) (hi : i < len) : rf_tl n len (rf_tu v n t i) = (rf_tl n len t).set i v := by
  apply List.ext_getElem?
  intro j
  rw [rf_tl_at, List.getElem?_set, rf_tl_len, rf_tl_at]
  by_cases hj : j < len
  · rw [if_pos hj, rf_tg_tu v n t i j (by omega) (by omega)]
    by_cases e : j = i
    · subst e
      rw [if_pos rfl, if_pos rfl, if_pos hj]
    · rw [if_neg e, if_neg (fun q => e q.symm), if_pos hj]
  · rw [if_neg hj]
    by_cases e : i = j
    · omega
    · rw [if_neg e, if_neg hj]
theorem rf_tl_push {n len : Nat} {t : rf_T α n} {v : α} (hl : len < 2 ^ n) : rf_tl n (len + 1) (rf_tu v n t len) = rf_tl n len t ++ [v] := by
  unfold rf_tl
  rw [List.range_succ, List.map_append]
  congr 1
  · exact List.map_congr_left (fun i hi => by
      have h9 := List.mem_range.mp hi
      rw [rf_tg_tu v n t len i hl (by omega), if_neg (by omega)])
  · show [rf_tg n (rf_tu v n t len) len] = [v]
    rw [rf_tg_tu v n t len len hl hl, if_pos rfl]
theorem rf_tl_rep {n len : Nat} {v : α} : rf_tl n len (rf_tr v n) = List.replicate len v := by
  apply List.ext_getElem?
  intro j
  rw [rf_tl_at, List.getElem?_replicate, rf_tg_tr]
end RF1
/-! what an array holds: a list, or a tree of so many -/
abbrev rf_V : Type := List Value ⊕ ((n : Nat) × (Nat × rf_T Value n))
noncomputable def rf_va (V : rf_V) : List Value := match V with
  | .inl l => l
  | .inr ⟨n, l, t⟩ => rf_tl n l t
noncomputable def rf_vn (V : rf_V) (i : Nat) : Option Value := match V with
  | .inl l => ri_nth l i
  | .inr ⟨n, l, t⟩ => bif Nat.blt i l then some (rf_tg n t i) else none
theorem rf_vn_eq {V : rf_V} {i : Nat} : ri_nth (rf_va V) i = rf_vn V i := by
  match V with
  | .inl l => rfl
  | .inr ⟨n, l, t⟩ =>
    show ri_nth (rf_tl n l t) i = bif Nat.blt i l then some (rf_tg n t i) else none
    rw [ri_nth_eq, rf_tl_at]
    by_cases h : i < l
    · rw [if_pos h, rf_blt_t h, cond_true]
    · rw [if_neg h, rf_blt_f h, cond_false]
noncomputable def rf_vk (V : rf_V) : Bool := match V with
  | .inl _ => true
  | .inr ⟨n, l, _⟩ => Nat.ble l (Nat.pow 2 n)
noncomputable def rf_vu (v : Value) (V : rf_V) (i : Nat) : rf_V := match V with
  | .inl l => .inl (ri_upd v l i)
  | .inr ⟨n, l, t⟩ => .inr ⟨n, l, rf_tu v n t i⟩
theorem rf_vu_eq {v u : Value} {V : rf_V} {i : Nat} (hk : rf_vk V = true) (hi : rf_vn V i = some u) : rf_va (rf_vu v V i) = ri_upd v (rf_va V) i := by
  match V, hk, hi with
  | .inl l, _, _ => rfl
  | .inr ⟨n, l, t⟩, hk, hi =>
    show rf_tl n l (rf_tu v n t i) = ri_upd v (rf_tl n l t) i
    have h9 : i < l := by
      have hi2 : (bif Nat.blt i l then some (rf_tg n t i) else none) = some u := hi
      by_cases h : i < l
      · exact h
      · rw [rf_blt_f h, cond_false] at hi2
        cases hi2
    rw [ri_upd_eq]
    exact rf_tl_set (Nat.le_of_ble_eq_true hk) h9
noncomputable def rf_vl (V : rf_V) : Nat := match V with
  | .inl l => l.length
  | .inr ⟨_, l, _⟩ => l
theorem rf_vl_eq {V : rf_V} : (rf_va V).length = rf_vl V := by
  match V with
  | .inl l => rfl
  | .inr ⟨n, l, t⟩ => exact rf_tl_len
noncomputable def rf_nv (N : Nat) (d : Value) : rf_V := bif Nat.ble N 24 then .inl (List.replicate N d) else .inr ⟨Nat.succ (Nat.log2 N), N, rf_tr d (Nat.succ (Nat.log2 N))⟩
theorem rf_nv_eq {N : Nat} {d : Value} : rf_va (rf_nv N d) = List.replicate N d := by
  unfold rf_nv
  cases Nat.ble N 24 with
  | true => rfl
  | false => exact rf_tl_rep
/-! cells and worlds -/
abbrev rf_E : Type := (Nat × rf_V) ⊕ (Nat × List Value)
noncomputable def rf_ea (x : rf_E) : ri_E := match x with
  | .inl a => .inl (a.1, rf_va a.2)
  | .inr o => .inr o
abbrev rf_W : Type := Nat × rf_T rf_E 10
noncomputable def rf_wa (w : rf_W) : List ri_E := (rf_tl 10 w.1 w.2).map rf_ea
theorem rf_wa_len {w : rf_W} : (rf_wa w).length = w.1 := by
  unfold rf_wa
  rw [List.length_map, rf_tl_len]
noncomputable def rf_wn (w : rf_W) (q : Nat) : Option rf_E := match w with
  | (n, t) => bif Nat.blt q n then some (rf_tg 10 t q) else none
theorem rf_wn_eq {w : rf_W} {q : Nat} : ri_nth (rf_wa w) q = (rf_wn w q).map rf_ea := by
  obtain ⟨n, t⟩ := w
  show ri_nth ((rf_tl 10 n t).map rf_ea) q = (bif Nat.blt q n then some (rf_tg 10 t q) else none).map rf_ea
  rw [ri_nth_eq, List.getElem?_map, rf_tl_at]
  by_cases h : q < n
  · rw [if_pos h, rf_blt_t h, cond_true]
  · rw [if_neg h, rf_blt_f h, cond_false]
noncomputable def rf_wu (x : rf_E) (w : rf_W) (q : Nat) : rf_W := match w with
  | (n, t) => (n, rf_tu x 10 t q)
noncomputable def rf_wk (w : rf_W) : Bool := match w with
  | (n, _) => Nat.ble n 1024
theorem rf_wu_eq {x y : rf_E} {w : rf_W} {q : Nat} (hk : rf_wk w = true) (hq : rf_wn w q = some y) : rf_wa (rf_wu x w q) = ri_upd (rf_ea x) (rf_wa w) q := by
  obtain ⟨n, t⟩ := w
  have h9 : q < n := by
    have hi2 : (bif Nat.blt q n then some (rf_tg 10 t q) else none) = some y := hq
    by_cases h : q < n
    · exact h
    · rw [rf_blt_f h, cond_false] at hi2
      cases hi2
  show (rf_tl 10 n (rf_tu x 10 t q)).map rf_ea = ri_upd (rf_ea x) ((rf_tl 10 n t).map rf_ea) q
  rw [ri_upd_eq, rf_tl_set (show n ≤ 2 ^ 10 from Nat.le_of_ble_eq_true hk) h9, List.map_set]
noncomputable def rf_wp (w : rf_W) (x : rf_E) : rf_W := match w with
  | (n, t) => (Nat.succ n, rf_tu x 10 t n)
theorem rf_wp_eq {x : rf_E} {w : rf_W} (h : Nat.blt w.1 1024 = true) : rf_wa (rf_wp w x) = rf_wa w ++ [rf_ea x] := by
  obtain ⟨n, t⟩ := w
  show (rf_tl 10 (n + 1) (rf_tu x 10 t n)).map rf_ea = (rf_tl 10 n t).map rf_ea ++ [rf_ea x]
  rw [rf_tl_push (show n < 2 ^ 10 from Nat.le_of_ble_eq_true h), List.map_append]
  rfl
noncomputable def rf_wps (xs : List rf_E) : rf_W → rf_W := List.rec (fun w => w) (fun x _ ih w => ih (rf_wp w x)) xs
theorem rf_wps_eq : ∀ (xs : List rf_E) (w : rf_W), w.1 + xs.length ≤ 1024 → rf_wa (rf_wps xs w) = rf_wa w ++ xs.map rf_ea
  | [], w, _ => by
    show rf_wa w = rf_wa w ++ []
    rw [List.append_nil]
  | x :: xs, w, h => by
    rw [List.length_cons] at h
    show rf_wa (rf_wps xs (rf_wp w x)) = rf_wa w ++ (rf_ea x :: xs.map rf_ea)
    have e1 : (rf_wp w x).1 = w.1 + 1 := by obtain ⟨n, t⟩ := w; rfl
    rw [rf_wps_eq xs (rf_wp w x) (by rw [e1]; omega), rf_wp_eq (rf_blt_t (by omega)), List.append_assoc]
    rfl
end
section
/-! ===== the reckoner, part 15: steps over trees, and that they are the same ===== -/
noncomputable def rf_getf (a b : Nat) (st : List Value) (w : rf_W) : Option (List Value) := match st with
  | .ref q :: r => (match rf_wn w q with
    | some (.inr o) => ri_ok (Nat.beq o.1 a) (match ri_nth o.2 b with
      | some v => some (v :: r)
      | none => none)
    | _ => none)
  | _ => none
theorem rf_getf_eq {a b : Nat} {st st' : List Value} {w : rf_W} (h : rf_getf a b st w = some st') : ri_getf a b st (rf_wa w) = some st' := by
  unfold rf_getf at h
  split at h
  · rename_i q r
    unfold ri_getf
    dsimp only
    rw [rf_wn_eq]
    cases hq : rf_wn w q with
    | none => rw [hq] at h; cases h
    | some x =>
      rw [hq] at h
      cases x with
      | inl a => cases h
      | inr o => exact h
  · cases h
noncomputable def rf_putf (ty : FieldType) (a b : Nat) (st : List Value) (w : rf_W) : Option (List Value × rf_W) := match st with
  | v :: .ref q :: r => (match rf_wn w q with
    | some (.inr o) => ri_ok (Nat.beq o.1 a) (match ri_nth o.2 b with
      | some _ => ri_ok (ri_fit ty v && rf_wk w) (some (r, rf_wu (.inr (o.1, ri_upd v o.2 b)) w q))
      | none => none)
    | _ => none)
  | _ => none
theorem rf_putf_eq {ty : FieldType} {a b : Nat} {st : List Value} {w : rf_W} {z : List Value × rf_W} (h : rf_putf ty a b st w = some z) : ri_putf ty a b st (rf_wa w) = some (z.1, rf_wa z.2) := by
  unfold rf_putf at h
  split at h
  · rename_i v q r
    unfold ri_putf
    dsimp only
    rw [rf_wn_eq]
    cases hq : rf_wn w q with
    | none => rw [hq] at h; cases h
    | some x =>
      rw [hq] at h
      cases x with
      | inl a => cases h
      | inr o =>
        obtain ⟨hb, h2⟩ := ri_ok_eq h
        show ri_ok (Nat.beq o.1 a) (match ri_nth o.2 b with
          | some _ => ri_ok (ri_fit ty v) (some (r, ri_upd (.inr (o.1, ri_upd v o.2 b)) (rf_wa w) q))
          | none => none) = some (z.1, rf_wa z.2)
        rw [hb]
        cases hv : ri_nth o.2 b with
        | none => rw [hv] at h2; cases h2
        | some u =>
          rw [hv] at h2
          obtain ⟨hc, h3⟩ := ri_ok_eq h2
          obtain ⟨c1, c2⟩ := (Bool.and_eq_true _ _ ▸ hc : ri_fit ty v = true ∧ rf_wk w = true)
          cases h3
          show ri_ok (ri_fit ty v) (some (r, ri_upd (.inr (o.1, ri_upd v o.2 b)) (rf_wa w) q)) = some (r, rf_wa (rf_wu (.inr (o.1, ri_upd v o.2 b)) w q))
          rw [c1, rf_wu_eq c2 hq]
          rfl
  · cases h
noncomputable def rf_ald (tyL : List FieldType) (g : FieldType → Bool) (st : List Value) (w : rf_W) : Option (List Value) := match st with
  | .int i :: .ref q :: r => (match rf_wn w q with
    | some (.inl a) => (match ri_nth tyL a.1 with
      | some ty => ri_ok (g ty && !decide (i < 0)) (match rf_vn a.2 i.toNatClampNeg with
        | some v => some (v :: r)
        | none => none)
      | none => none)
    | _ => none)
  | _ => none
theorem rf_ald_eq {tyL : List FieldType} {g : FieldType → Bool} {st st' : List Value} {w : rf_W} (h : rf_ald tyL g st w = some st') : ri_ald tyL g st (rf_wa w) = some st' := by
  unfold rf_ald at h
  split at h
  · rename_i i q r
    unfold ri_ald
    dsimp only
    rw [rf_wn_eq]
    cases hq : rf_wn w q with
    | none => rw [hq] at h; cases h
    | some x =>
      rw [hq] at h
      cases x with
      | inr o => cases h
      | inl a =>
        show (match ri_nth tyL a.1 with
          | some ty => ri_ok (g ty && !decide (i < 0)) (match ri_nth (rf_va a.2) i.toNatClampNeg with
            | some v => some (v :: r)
            | none => none)
          | none => none) = some st'
        rw [rf_vn_eq]
        exact h
  · cases h
noncomputable def rf_ast (tyL : List FieldType) (g : FieldType → Value → Option Value) (st : List Value) (w : rf_W) : Option (List Value × rf_W) := match st with
  | x :: .int i :: .ref q :: r => (match rf_wn w q with
    | some (.inl a) => (match ri_nth tyL a.1 with
      | some ty => (match g ty x with
        | some v => ri_ok (!decide (i < 0)) (match rf_vn a.2 i.toNatClampNeg with
          | some _ => ri_ok (rf_vk a.2 && rf_wk w) (some (r, rf_wu (.inl (a.1, rf_vu v a.2 i.toNatClampNeg)) w q))
          | none => none)
        | none => none)
      | none => none)
    | _ => none)
  | _ => none
theorem rf_ast_eq {tyL : List FieldType} {g : FieldType → Value → Option Value} {st : List Value} {w : rf_W} {z : List Value × rf_W} (h : rf_ast tyL g st w = some z) : ri_ast tyL g st (rf_wa w) = some (z.1, rf_wa z.2) := by
  unfold rf_ast at h
  split at h
  · rename_i x i q r
    unfold ri_ast
    dsimp only
    rw [rf_wn_eq]
    cases hq : rf_wn w q with
    | none => rw [hq] at h; cases h
    | some y =>
      rw [hq] at h
      cases y with
      | inr o => cases h
      | inl a =>
        show (match ri_nth tyL a.1 with
          | some ty => (match g ty x with
            | some v => ri_ok (!decide (i < 0)) (match ri_nth (rf_va a.2) i.toNatClampNeg with
              | some _ => some (r, ri_upd (.inl (a.1, ri_upd v (rf_va a.2) i.toNatClampNeg)) (rf_wa w) q)
              | none => none)
            | none => none)
          | none => none) = some (z.1, rf_wa z.2)
        rw [rf_vn_eq]
        dsimp only at h
        cases hty : ri_nth tyL a.1 with
        | none => rw [hty] at h; cases h
        | some ty =>
          rw [hty] at h
          dsimp only at h ⊢
          cases hg : g ty x with
          | none => rw [hg] at h; cases h
          | some v =>
            rw [hg] at h
            obtain ⟨hb, h2⟩ := ri_ok_eq h
            dsimp only
            rw [hb]
            cases hv : rf_vn a.2 i.toNatClampNeg with
            | none => rw [hv] at h2; cases h2
            | some u =>
              rw [hv] at h2
              obtain ⟨hc, h3⟩ := ri_ok_eq h2
              obtain ⟨c1, c2⟩ := (Bool.and_eq_true _ _ ▸ hc : rf_vk a.2 = true ∧ rf_wk w = true)
              cases h3
              show some (r, ri_upd (.inl (a.1, ri_upd v (rf_va a.2) i.toNatClampNeg)) (rf_wa w) q) = some (r, rf_wa (rf_wu (.inl (a.1, rf_vu v a.2 i.toNatClampNeg)) w q))
              rw [rf_wu_eq c2 hq, ← rf_vu_eq c1 hv]
              rfl
  · cases h
noncomputable def rf_aast (a b : Nat) (st : List Value) (w : rf_W) : Option (List Value × rf_W) := match st with
  | .ref v :: .int i :: .ref q :: r => (match rf_wn w q with
    | some (.inl x) => (match rf_wn w v with
      | some (.inr y) => ri_ok (Nat.beq x.1 b && (Nat.beq y.1 a && !decide (i < 0))) (match rf_vn x.2 i.toNatClampNeg with
        | some _ => ri_ok (rf_vk x.2 && rf_wk w) (some (r, rf_wu (.inl (x.1, rf_vu (.ref v) x.2 i.toNatClampNeg)) w q))
        | none => none)
      | _ => none)
    | _ => none)
  | _ => none
theorem rf_aast_eq {a b : Nat} {st : List Value} {w : rf_W} {z : List Value × rf_W} (h : rf_aast a b st w = some z) : ri_aast a b st (rf_wa w) = some (z.1, rf_wa z.2) := by
  unfold rf_aast at h
  split at h
  · rename_i v i q r
    unfold ri_aast
    dsimp only
    rw [rf_wn_eq, rf_wn_eq]
    cases hq : rf_wn w q with
    | none => rw [hq] at h; cases h
    | some x =>
      rw [hq] at h
      cases x with
      | inr o => cases h
      | inl x =>
        dsimp only at h
        cases hv : rf_wn w v with
        | none => rw [hv] at h; cases h
        | some y =>
          rw [hv] at h
          cases y with
          | inl o => cases h
          | inr y =>
            obtain ⟨hb, h2⟩ := ri_ok_eq h
            show ri_ok (Nat.beq x.1 b && (Nat.beq y.1 a && !decide (i < 0))) (match ri_nth (rf_va x.2) i.toNatClampNeg with
              | some _ => some (r, ri_upd (.inl (x.1, ri_upd (.ref v) (rf_va x.2) i.toNatClampNeg)) (rf_wa w) q)
              | none => none) = some (z.1, rf_wa z.2)
            rw [hb, rf_vn_eq]
            cases hu : rf_vn x.2 i.toNatClampNeg with
            | none => rw [hu] at h2; cases h2
            | some u =>
              rw [hu] at h2
              obtain ⟨hc, h3⟩ := ri_ok_eq h2
              obtain ⟨c1, c2⟩ := (Bool.and_eq_true _ _ ▸ hc : rf_vk x.2 = true ∧ rf_wk w = true)
              cases h3
              show some (r, ri_upd (.inl (x.1, ri_upd (.ref v) (rf_va x.2) i.toNatClampNeg)) (rf_wa w) q) = some (r, rf_wa (rf_wu (.inl (x.1, rf_vu (.ref v) x.2 i.toNatClampNeg)) w q))
              rw [rf_wu_eq c2 hq, ← rf_vu_eq c1 hu]
              rfl
  · cases h
noncomputable def rf_alen (tyL : List FieldType) (st : List Value) (w : rf_W) : Option (List Value) := match st with
  | .ref q :: r => (match rf_wn w q with
    | some (.inl a) => (match ri_nth tyL a.1 with
      | some _ => some (.int (Int32.ofNat (rf_vl a.2)) :: r)
      | none => none)
    | _ => none)
  | _ => none
theorem rf_alen_eq {tyL : List FieldType} {st st' : List Value} {w : rf_W} (h : rf_alen tyL st w = some st') : ri_alen2 tyL st (rf_wa w) = some st' := by
  unfold rf_alen at h
  split at h
  · rename_i q r
    unfold ri_alen2
    dsimp only
    rw [rf_wn_eq]
    cases hq : rf_wn w q with
    | none => rw [hq] at h; cases h
    | some x =>
      rw [hq] at h
      cases x with
      | inr o => cases h
      | inl a =>
        show (match ri_nth tyL a.1 with
          | some _ => some (.int (Int32.ofNat (rf_va a.2).length) :: r)
          | none => none) = some st'
        rw [rf_vl_eq]
        exact h
  · cases h
noncomputable def rf_newa (t : Nat) (d : Value) (st : List Value) (w : rf_W) : Option (Nat × List Value × rf_W) := match st with
  | .int n :: r => ri_ok ((!decide (n < 0) && Nat.ble n.toNatClampNeg 60000000) && Nat.blt w.1 1024) (some (n.toNatClampNeg, .ref w.1 :: r, rf_wp w (.inl (t, rf_nv n.toNatClampNeg d))))
  | _ => none
theorem rf_newa_eq {t : Nat} {d : Value} {st : List Value} {w : rf_W} {z : Nat × List Value × rf_W} (h : rf_newa t d st w = some z) : ri_newa t d st (rf_wa w) = some (z.1, z.2.1, rf_wa z.2.2) := by
  unfold rf_newa at h
  split at h
  · rename_i n r
    obtain ⟨hb, h2⟩ := ri_ok_eq h
    obtain ⟨b1, b2⟩ := (Bool.and_eq_true _ _ ▸ hb : (!decide (n < 0) && Nat.ble n.toNatClampNeg 60000000) = true ∧ Nat.blt w.1 1024 = true)
    cases h2
    unfold ri_newa
    dsimp only
    rw [b1, rf_wa_len, rf_wp_eq b2]
    show some (n.toNatClampNeg, .ref w.1 :: r, rf_wa w ++ [.inl (t, List.replicate n.toNatClampNeg d)]) = some (n.toNatClampNeg, .ref w.1 :: r, rf_wa w ++ [.inl (t, rf_va (rf_nv n.toNatClampNeg d))])
    rw [rf_nv_eq]
  · cases h
noncomputable def rf_mna (a b : Nat) (st : List Value) (w : rf_W) : Option (Nat × Nat × List Value × rf_W) := match st with
  | .int k :: .int n :: r => ri_ok (((!decide (n < 0) && Nat.ble n.toNatClampNeg 100000) && (!decide (k < 0) && Nat.ble k.toNatClampNeg 100000)) && Nat.ble (w.1 + (1 + n.toNatClampNeg)) 1024) (some (n.toNatClampNeg, k.toNatClampNeg, .ref w.1 :: r, rf_wps (.inl (b, .inl (ri_refs n.toNatClampNeg (w.1 + 1))) :: List.replicate n.toNatClampNeg (.inl (a, rf_nv k.toNatClampNeg (.double 0)))) w))
  | _ => none
theorem rf_mna_eq {a b : Nat} {st : List Value} {w : rf_W} {z : Nat × Nat × List Value × rf_W} (h : rf_mna a b st w = some z) : ri_mna a b st (rf_wa w) = some (z.1, z.2.1, z.2.2.1, rf_wa z.2.2.2) := by
  unfold rf_mna at h
  split at h
  · rename_i k n r
    obtain ⟨hb, h2⟩ := ri_ok_eq h
    obtain ⟨b1, b2⟩ := (Bool.and_eq_true _ _ ▸ hb : ((!decide (n < 0) && Nat.ble n.toNatClampNeg 100000) && (!decide (k < 0) && Nat.ble k.toNatClampNeg 100000)) = true ∧ Nat.ble (w.1 + (1 + n.toNatClampNeg)) 1024 = true)
    have b3 := Nat.le_of_ble_eq_true b2
    cases h2
    unfold ri_mna
    dsimp only
    rw [b1, rf_wa_len, rf_wps_eq _ _ (by rw [List.length_cons, List.length_replicate]; omega), List.map_cons, List.map_replicate]
    show some (n.toNatClampNeg, k.toNatClampNeg, .ref w.1 :: r, rf_wa w ++ .inl (b, ri_refs n.toNatClampNeg (w.1 + 1)) :: List.replicate n.toNatClampNeg (.inl (a, List.replicate k.toNatClampNeg (.double 0)))) = some (n.toNatClampNeg, k.toNatClampNeg, .ref w.1 :: r, rf_wa w ++ .inl (b, ri_refs n.toNatClampNeg (w.1 + 1)) :: List.replicate n.toNatClampNeg (.inl (a, rf_va (rf_nv k.toNatClampNeg (.double 0)))))
    rw [rf_nv_eq]
  · cases h
/-- a copy of nothing -/
noncomputable def rf_acopy (tyL : List FieldType) (bud : Nat) (st : List Value) (w : rf_W) : Option (List Value × rf_W) := match st with
  | .int n :: .int dp :: .ref q1 :: .int sp :: .ref q0 :: r => (match rf_wn w q0 with
    | some (.inl a0) => (match rf_wn w q1 with
      | some (.inl a1) => (match ri_nth tyL a0.1 with
        | some t => ri_ok (decide (n = 0) && (Nat.beq a0.1 a1.1 && (!refKind t && (!decide (sp < 0) && (!decide (dp < 0) && (Nat.ble sp.toNatClampNeg (rf_vl a0.2) && (Nat.ble dp.toNatClampNeg (rf_vl a1.2) && Nat.ble ((r.map fun v => v.category).sum + 18) bud)))))))
          (some (r, w))
        | none => none)
      | _ => none)
    | _ => none)
  | _ => none
theorem rf_set_id {α : Type} {l : List α} {q : Nat} {x : α} (h : l[q]? = some x) : l.set q x = l := by
  apply List.ext_getElem?
  intro j
  rw [List.getElem?_set]
  by_cases e : q = j
  · subst e
    have h9 := (List.getElem?_eq_some_iff.mp h).1
    rw [if_pos rfl, if_pos h9, h]
  · rw [if_neg e]
theorem rf_acopy_eq {tyL : List FieldType} {bud : Nat} {st : List Value} {w : rf_W} {z : List Value × rf_W} (h : rf_acopy tyL bud st w = some z) : ri_acopy tyL bud st (rf_wa w) = some (z.1, rf_wa z.2) := by
  unfold rf_acopy at h
  split at h
  · rename_i n dp q1 sp q0 r
    unfold ri_acopy
    dsimp only
    have hN : ri_nth (rf_wa w) q1 = (rf_wn w q1).map rf_ea := rf_wn_eq
    rw [rf_wn_eq, rf_wn_eq]
    cases h0 : rf_wn w q0 with
    | none => rw [h0] at h; cases h
    | some x0 =>
      rw [h0] at h
      cases x0 with
      | inr o => cases h
      | inl a0 =>
        dsimp only at h
        cases h1 : rf_wn w q1 with
        | none => rw [h1] at h; cases h
        | some x1 =>
          rw [h1] at h hN
          cases x1 with
          | inr o => cases h
          | inl a1 =>
            dsimp only at h
            show (match ri_nth tyL a0.1 with
              | some t => ri_ok (Nat.beq a0.1 a1.1 && (!refKind t && (!decide (sp < 0) && (!decide (dp < 0) && (!decide (n < 0) && (Nat.ble (sp.toNatClampNeg + n.toNatClampNeg) (rf_va a0.2).length && (Nat.ble (dp.toNatClampNeg + n.toNatClampNeg) (rf_va a1.2).length && ((((rf_va a0.2).drop sp.toNatClampNeg).take n.toNatClampNeg).all (ri_ft t) && Nat.ble ((r.map fun v => v.category).sum + 18) bud))))))))
                (some (r, ri_upd (.inl (a1.1, ri_cpy (rf_va a0.2) (rf_va a1.2) sp.toNatClampNeg dp.toNatClampNeg n.toNatClampNeg)) (rf_wa w) q1))
              | none => none) = some (z.1, rf_wa z.2)
            cases ht : ri_nth tyL a0.1 with
            | none => rw [ht] at h; cases h
            | some t =>
              rw [ht] at h
              obtain ⟨hb, h2⟩ := ri_ok_eq h
              simp only [Bool.and_eq_true] at hb
              obtain ⟨c1, c2, c3, c4, c5, c6, c7, c8⟩ := hb
              cases h2
              have e0 : n = 0 := of_decide_eq_true c1
              subst e0
              have ez : (0 : Int32).toNatClampNeg = 0 := by decide +kernel
              have en : (!decide ((0 : Int32) < 0)) = true := by decide +kernel
              dsimp only
              rw [ez, c2, c3, c4, c5, en, Nat.add_zero, Nat.add_zero, rf_vl_eq, rf_vl_eq, c6, c7, c8, List.take_zero]
              show some (r, ri_upd (.inl (a1.1, ri_cpy (rf_va a0.2) (rf_va a1.2) sp.toNatClampNeg dp.toNatClampNeg 0)) (rf_wa w) q1) = some (r, rf_wa w)
              have e5 : ri_cpy (rf_va a0.2) (rf_va a1.2) sp.toNatClampNeg dp.toNatClampNeg 0 = rf_va a1.2 := by
                unfold ri_cpy
                rw [List.take_zero, List.nil_append, Nat.add_zero, List.take_append_drop]
              rw [e5, ri_upd_eq]
              rw [ri_nth_eq] at hN
              rw [rf_set_id (x := (.inl (a1.1, rf_va a1.2) : ri_E)) hN]
  · cases h
noncomputable def rf_lc (tyL : List FieldType) (a b : Nat) (lv : ri_L) (st : List Value) (w : rf_W) : Option (Value × Int64 × List Value) := match st with
  | x :: r => ri_ok (ri_isI x) (match ri_get 0 lv with
    | some (.ref q) => (match rf_getf a b (.ref q :: r) w with
      | some (.ref q2 :: _) => (match rf_ald tyL ri_tL (.int 3 :: .ref q2 :: r) w with
        | some (.long y :: _) => some (x, y, r)
        | _ => none)
      | _ => none)
    | _ => none)
  | [] => none
theorem rf_lc_eq {tyL : List FieldType} {a b : Nat} {lv : ri_L} {st : List Value} {w : rf_W} {z : Value × Int64 × List Value} (h : rf_lc tyL a b lv st w = some z) : ri_lc tyL a b lv st (rf_wa w) = some z := by
  unfold rf_lc at h
  split at h
  · rename_i x r
    obtain ⟨hb, h2⟩ := ri_ok_eq h
    unfold ri_lc
    dsimp only
    rw [hb]
    show (match ri_get 0 lv with
      | some (.ref q) => (match ri_getf a b (.ref q :: r) (rf_wa w) with
        | some (.ref q2 :: _) => (match ri_ald tyL ri_tL (.int 3 :: .ref q2 :: r) (rf_wa w) with
          | some (.long y :: _) => some (x, y, r)
          | _ => none)
        | _ => none)
      | _ => none) = some z
    split at h2
    · rename_i q hq
      split at h2
      · rename_i q2 l9 h3
        rw [rf_getf_eq h3]
        dsimp only
        split at h2
        · rename_i y l8 h4
          rw [rf_ald_eq h4]
          exact h2
        · cases h2
      · cases h2
    · cases h2
  · cases h

abbrev rf_Out : Type := (Option Value ⊕ Nat) × rf_W × Nat × Nat × List ri_Cd × Nat
abbrev rf_K : Type := Nat → Nat → ri_M → List ri_Op → Nat → ri_L → List Value → rf_W → Nat → Nat → Nat → Option rf_Out
noncomputable def rf_oa (z : rf_Out) : ri_Out := (z.1, rf_wa z.2.1, z.2.2)
section RFD
variable (Ms : List ri_M) (ty : Nat → Nat → FieldType) (df : Nat → List Value) (tyL : List FieldType) (exl : Nat → Nat) (xs : Nat → Value) (L : Nat) (al : Nat → Bool) (orc : List (Bool ⊕ Int32))
noncomputable def rf_more (cs : List ri_Cd) (o : Option rf_Out) : Option rf_Out := match o with
  | some z => some (z.1, z.2.1, z.2.2.1, z.2.2.2.1, cs ++ z.2.2.2.2.1, z.2.2.2.2.2)
  | none => none
noncomputable def rf_enter (ih : rf_K) (d bud : Nat) (M : ri_M) (vals rest : List Value) (w : rf_W) (fr : Nat) : Option rf_Out :=
  ri_ok (Nat.ble 1 d && (Nat.ble (19 + M.2.2.1) bud && (Nat.ble (ri_cat rest) 8 && Nat.ble (lg_sl vals).length M.2.2.1))) (ih (d - 1) (bud - (19 + M.2.2.1)) M M.2.2.2.2.2 0 (lv_args 0 vals) [] w 0 0 fr)
noncomputable def rf_back (ih : rf_K) (d bud : Nat) (M : ri_M) (nxt : List ri_Op) (pc : Nat) (lv : ri_L) (rest : List Value) (nc ns : Nat) (o : Option rf_Out) : Option rf_Out := match o with
  | some (.inl r, w, nc2, ns2, cs, fr) => rf_more cs (ih d bud M nxt (pc + 3) lv (r.toList ++ rest) w (nc + nc2) (ns + ns2) fr)
  | some (.inr x, w, nc2, ns2, cs, fr) => some (.inr x, w, nc + nc2, ns + ns2, cs, fr)
  | none => none
noncomputable def rf_caught (ih : rf_K) (d bud : Nat) (M : ri_M) (lv : ri_L) (w : rf_W) (nc ns fr : Nat) (cs : List ri_Cd) (os : List ri_Op) : Option rf_Out := match os with
  | oh :: nx2 => (match oh.2.2.1 with
    | .astore_n k => ri_ok (Nat.blt k.val M.2.2.1) (rf_more cs (ih d bud M nx2 (oh.1 + 1) (lv.filter (ri_f1 k.val)) [] w nc ns fr))
    | .astore k => ri_ok (Nat.blt k M.2.2.1) (rf_more cs (ih d bud M nx2 (oh.1 + 2) (lv.filter (ri_f1 k)) [] w nc ns fr))
    | _ => none)
  | [] => none
noncomputable def rf_backH (ih : rf_K) (d bud : Nat) (M : ri_M) (nxt : List ri_Op) (pc : Nat) (lv : ri_L) (rest : List Value) (nc ns : Nat) (hs : List Nat) (o : Option rf_Out) : Option rf_Out := match o with
  | some (.inl r, w, nc2, ns2, cs, fr) => rf_more cs (ih d bud M nxt (pc + 3) lv (r.toList ++ rest) w (nc + nc2) (ns + ns2) fr)
  | some (.inr x, w, nc2, ns2, cs, fr) => ri_ok (!al w.1) (match ri_nth hs x with
    | some t => rf_caught ih d bud M lv w (nc + nc2) (ns + ns2) fr cs (ri_drop M.2.2.2.2.2 t)
    | none => none)
  | none => none
noncomputable def rf_call (ih : rf_K) (d bud : Nat) (M : ri_M) (nxt : List ri_Op) (pc : Nat) (lv : ri_L) (st : List Value) (w : rf_W) (nc ns fr a b : Nat) (ts : List Nat) : Option rf_Out := match ri_nth Ms a with
  | some M2 => (match ri_split M2.2.2.2.2.1 [] st with
    | some (As, rest) => (match b with
      | 0 => (match rest with
        | .ref q :: rest => (match rf_wn w q with
          | some (.inr o) => ri_ok (match ts with | [t] => Nat.beq o.1 t | _ => false) (rf_back ih d bud M nxt pc lv rest nc ns (rf_enter ih d bud M2 (.ref q :: As) rest w fr))
          | _ => none)
        | _ => none)
      | 1 => rf_back ih d bud M nxt pc lv rest nc ns (rf_enter ih d bud M2 As rest w fr)
      | 2 => (match rest with
        | .ref q :: rest => rf_back ih d bud M nxt pc lv rest nc ns (rf_enter ih d bud M2 (.ref q :: As) rest w fr)
        | _ => none)
      | 3 => (match rest with
        | .ref q :: rest => rf_back ih d bud M nxt pc lv rest nc ns (rf_enter ih d bud M2 (.ref q :: As) rest w fr)
        | _ => none)
      | 4 => rf_back ih d bud M nxt pc lv rest nc ns (rf_enter ih d bud M2 As rest w fr)
      | 5 => (match rest with
        | .ref q :: rest => (match rf_wn w q with
          | some (.inr o) => (match ts with
            | t :: hs => ri_ok (Nat.beq o.1 t) (rf_backH al ih d bud M nxt pc lv rest nc ns hs (rf_enter ih d bud M2 (.ref q :: As) rest w fr))
            | [] => none)
          | _ => none)
        | _ => none)
      | 6 => rf_back ih d bud M nxt pc lv rest nc ns (rf_enter ih d bud M2 As rest w fr)
      | _ => none)
    | none => none)
  | none => none
noncomputable def rf_ret (M : ri_M) (i : Instr) (st : List Value) (w : rf_W) (nc ns fr : Nat) : Option rf_Out := match ri_ret M i st [] nc ns fr with
  | some z => some (z.1, w, z.2.2)
  | none => none
noncomputable def rf_exec (ih : rf_K) (d bud : Nat) (M : ri_M) (nxt : List ri_Op) (lv : ri_L) (st : List Value) (w : rf_W) (nc ns fr pc κ : Nat) (i : Instr) (a b : Nat) (v : Value) (ts : List Nat) : Option rf_Out := match κ with
  | 0 => (match ri_pure M.2.2.1 i pc lv st with
    | some z => ih d bud M (ri_next M nxt ts z.1) z.2.1 z.2.2.1 z.2.2.2 w nc ns fr
    | none => none)
  | 1 => (match rf_getf a b st w with
    | some st => ih d bud M nxt (pc + 3) lv st w nc ns fr
    | none => none)
  | 2 => (match rf_putf (ty a b) a b st w with
    | some z => ih d bud M nxt (pc + 3) lv z.1 z.2 nc ns fr
    | none => none)
  | 3 => ih d bud M nxt (pc + ri_len i) lv (v :: st) w nc ns fr
  | 4 => rf_call Ms al ih d bud M nxt pc lv st w nc ns fr a b ts
  | 5 => (match rf_ald tyL ri_tI st w with
    | some st => ih d bud M nxt (pc + 1) lv st w nc ns fr
    | none => none)
  | 6 => (match rf_ast tyL ri_gI st w with
    | some z => ih d bud M nxt (pc + 1) lv z.1 z.2 nc ns fr
    | none => none)
  | 7 => (match rf_ald tyL ri_tL st w with
    | some st => ih d bud M nxt (pc + 1) lv st w nc ns fr
    | none => none)
  | 8 => (match rf_ast tyL ri_gL st w with
    | some z => ih d bud M nxt (pc + 1) lv z.1 z.2 nc ns fr
    | none => none)
  | 9 => (match rf_ald tyL ri_tD st w with
    | some st => ih d bud M nxt (pc + 1) lv st w nc ns fr
    | none => none)
  | 10 => (match rf_ast tyL ri_gD st w with
    | some z => ih d bud M nxt (pc + 1) lv z.1 z.2 nc ns fr
    | none => none)
  | 11 => (match rf_ald tyL ri_tA st w with
    | some st => ih d bud M nxt (pc + 1) lv st w nc ns fr
    | none => none)
  | 12 => (match rf_ald tyL ri_tB st w with
    | some st => ih d bud M nxt (pc + 1) lv st w nc ns fr
    | none => none)
  | 13 => (match rf_ast tyL ri_gB st w with
    | some z => ih d bud M nxt (pc + 1) lv z.1 z.2 nc ns fr
    | none => none)
  | 14 => (match rf_aast a b st w with
    | some z => ih d bud M nxt (pc + 1) lv z.1 z.2 nc ns fr
    | none => none)
  | 15 => (match rf_alen tyL st w with
    | some st => ih d bud M nxt (pc + 1) lv st w nc ns fr
    | none => none)
  | 16 => rf_ret M i st w nc ns fr
  | 17 => bif ri_conc a st then (match ri_pure M.2.2.1 i pc lv st with
      | some z => ih d bud M (ri_next M nxt ts z.1) z.2.1 z.2.2.1 z.2.2.2 w nc ns fr
      | none => none)
    else (match ri_sym M.2.2.1 (ri_nth orc fr) fr i pc lv st with
      | some z => rf_more [z.2.2] (ih d bud M (ri_next M nxt ts z.1.1) z.1.2.1 z.1.2.2.1 z.1.2.2.2 w nc ns z.2.1)
      | none => none)
  | 18 => ri_ok (al w.1 && Nat.blt w.1 1024) (ih d bud M nxt (pc + 3) lv (.ref w.1 :: st) (rf_wp w (.inr (a, df a))) (nc + 1) (ns + b) fr)
  | 19 => ri_ok (al w.1 && Nat.blt w.1 1024) (match rf_newa a v st w with
    | some z => ih d bud M nxt (pc + 2) lv z.2.1 z.2.2 (nc + 1) (ns + z.1) fr
    | none => none)
  | 20 => ri_ok (al w.1 && Nat.blt w.1 1024) (match rf_newa a .null st w with
    | some z => ih d bud M nxt (pc + 3) lv z.2.1 z.2.2 (nc + 1) (ns + z.1) fr
    | none => none)
  | 21 => (match st with
    | .ref _ :: r => ri_ok (Nat.ble 1 d && Nat.ble (ri_cat r + 12) bud) (ih d bud M nxt (pc + 3) lv r w nc ns fr)
    | _ => none)
  | 22 => ri_ok (Nat.ble 1 d) (match rf_acopy tyL bud st w with
    | some z => ih d bud M nxt (pc + 3) lv z.1 z.2 nc ns fr
    | none => none)
  | 23 => ri_ok (Nat.ble (exl a + 4) d && Nat.ble (ri_cat st + (13 * (exl a + 1) + 42)) bud) (some (.inr a, w, nc + 1, ns + 6, [], fr))
  | 24 => (match st with
    | .int j :: .ref q :: r => ri_ok (Nat.beq q 1000000 && (!decide (j < 0) && Nat.blt j.toNatClampNeg L)) (ih d bud M nxt (pc + 1) lv (xs j.toNatClampNeg :: r) w nc ns fr)
    | _ => none)
  | 25 => (match st with
    | .ref q :: r => ri_ok (Nat.beq q 1000000) (ih d bud M nxt (pc + 1) lv (.int (Int32.ofNat L) :: r) w nc ns fr)
    | _ => none)
  | 26 => ri_ok (al w.1) (match rf_mna a b st w with
    | some z => ri_ok (rf_wk z.2.2.2) (ih d bud M nxt (pc + 4) lv z.2.2.1 z.2.2.2 (nc + (1 + z.1)) (ns + (z.1 + z.1 * z.2.1)) fr)
    | none => none)
  | 27 => bif ri_conc 1 st then (match rf_ast tyL ri_gB st w with
      | some z => ih d bud M nxt (pc + 1) lv z.1 z.2 nc ns fr
      | none => none)
    else (match rf_ast tyL (ri_gU fr) st w with
      | some z => rf_more [(.i2b, ri_top st, .int 0, fr, true)] (ih d bud M nxt (pc + 1) lv z.1 z.2 nc ns (fr + 1))
      | none => none)
  | 28 => (match rf_lc tyL a b lv st w with
    | some z => (match ri_nth orc fr with
      | some (.inl g) => (match v with
        | .ref t => rf_more [(.lcmp, z.1, .long z.2.1, 0, g)] (ih d bud M (ri_next M nxt ts (bif g then 1 else 2)) (bif g then t else pc + 11) lv z.2.2 w nc ns (fr + 1))
        | _ => none)
      | _ => none)
    | none => none)
  | _ => none
noncomputable def rf_run (fuel : Nat) : rf_K := Nat.rec (fun _ _ _ _ _ _ _ _ _ _ _ => none) (fun _ ih d bud M cur pc lv st w nc ns fr => match cur with
  | o :: nxt => ri_ok (Nat.beq o.1 pc) (rf_exec Ms ty df tyL exl xs L al orc ih d bud M nxt lv st w nc ns fr pc o.2.1 o.2.2.1 o.2.2.2.1 o.2.2.2.2.1 o.2.2.2.2.2.1 o.2.2.2.2.2.2)
  | [] => none) fuel
end RFD
def rf_Ref (f : rf_K) (g : ri_K) : Prop := ∀ (d bud : Nat) (M : ri_M) (cur : List ri_Op) (pc : Nat) (lv : ri_L) (st : List Value) (w : rf_W) (nc ns fr : Nat) (out : rf_Out), f d bud M cur pc lv st w nc ns fr = some out → g d bud M cur pc lv st (rf_wa w) nc ns fr = some (rf_oa out)
section RFE
variable {Ms : List ri_M} {ty : Nat → Nat → FieldType} {df : Nat → List Value} {tyL : List FieldType} {exl : Nat → Nat} {xs : Nat → Value} {L : Nat} {al : Nat → Bool} {orc : List (Bool ⊕ Int32)} {f : rf_K} {g : ri_K}
theorem rf_more_eq {cs : List ri_Cd} {o : Option rf_Out} {o2 : Option ri_Out} {out : rf_Out} (h : rf_more cs o = some out) (h2 : ∀ z : rf_Out, o = some z → o2 = some (rf_oa z)) : ri_more cs o2 = some (rf_oa out) := by
  cases o with
  | none => cases h
  | some z =>
    rw [h2 z rfl]
    cases h
    rfl
theorem rf_enter_ok (hR : rf_Ref f g) {d bud : Nat} {M : ri_M} {vals rest : List Value} {w : rf_W} {fr : Nat} {o : rf_Out} (h : rf_enter f d bud M vals rest w fr = some o) : ri_enter g d bud M vals rest (rf_wa w) fr = some (rf_oa o) := by
  obtain ⟨hb, h2⟩ := ri_ok_eq h
  unfold ri_enter
  rw [hb]
  exact hR _ _ _ _ _ _ _ _ _ _ _ _ h2
theorem rf_back_ok (hR : rf_Ref f g) {d bud : Nat} {M : ri_M} {nxt : List ri_Op} {pc : Nat} {lv : ri_L} {rest : List Value} {nc ns : Nat} {o : Option rf_Out} {o2 : Option ri_Out} {out : rf_Out} (h : rf_back f d bud M nxt pc lv rest nc ns o = some out) (h2 : ∀ z : rf_Out, o = some z → o2 = some (rf_oa z)) : ri_back g d bud M nxt pc lv rest nc ns o2 = some (rf_oa out) := by
  unfold rf_back at h
  split at h
  · rw [h2 _ rfl]
    exact rf_more_eq h (fun z hz => hR _ _ _ _ _ _ _ _ _ _ _ _ hz)
  · rw [h2 _ rfl]
    cases h
    rfl
  · cases h
theorem rf_caught_ok (hR : rf_Ref f g) {d bud : Nat} {M : ri_M} {lv : ri_L} {w : rf_W} {nc ns fr : Nat} {cs : List ri_Cd} {os : List ri_Op} {out : rf_Out} (h : rf_caught f d bud M lv w nc ns fr cs os = some out) : ri_caught g d bud M lv (rf_wa w) nc ns fr cs os = some (rf_oa out) := by
  unfold rf_caught at h
  unfold ri_caught
  split at h
  · rename_i oh nx2
    dsimp only
    split at h
    · rename_i k hk
      rw [hk]
      dsimp only
      obtain ⟨hb, h2⟩ := ri_ok_eq h
      rw [hb]
      exact rf_more_eq h2 (fun z hz => hR _ _ _ _ _ _ _ _ _ _ _ _ hz)
    · rename_i k hk
      rw [hk]
      dsimp only
      obtain ⟨hb, h2⟩ := ri_ok_eq h
      rw [hb]
      exact rf_more_eq h2 (fun z hz => hR _ _ _ _ _ _ _ _ _ _ _ _ hz)
    · cases h
  · cases h
theorem rf_backH_ok (hR : rf_Ref f g) {d bud : Nat} {M : ri_M} {nxt : List ri_Op} {pc : Nat} {lv : ri_L} {rest : List Value} {nc ns : Nat} {hs : List Nat} {o : Option rf_Out} {o2 : Option ri_Out} {out : rf_Out} (h : rf_backH al f d bud M nxt pc lv rest nc ns hs o = some out) (h2 : ∀ z : rf_Out, o = some z → o2 = some (rf_oa z)) : ri_backH al g d bud M nxt pc lv rest nc ns hs o2 = some (rf_oa out) := by
  unfold rf_backH at h
  split at h
  · rw [h2 _ rfl]
    exact rf_more_eq h (fun z hz => hR _ _ _ _ _ _ _ _ _ _ _ _ hz)
  · rename_i x w2 nc2 ns2 cs fr2
    rw [h2 _ rfl]
    obtain ⟨hb, h3⟩ := ri_ok_eq h
    show ri_ok (!al (rf_wa w2).length) (match ri_nth hs x with
      | some t => ri_caught g d bud M lv (rf_wa w2) (nc + nc2) (ns + ns2) fr2 cs (ri_drop M.2.2.2.2.2 t)
      | none => none) = some (rf_oa out)
    rw [rf_wa_len, hb]
    cases hx : ri_nth hs x with
    | none => rw [hx] at h3; cases h3
    | some t =>
      rw [hx] at h3
      exact rf_caught_ok hR h3
  · cases h
theorem rf_call_ok (hR : rf_Ref f g) {d bud : Nat} {M : ri_M} {nxt : List ri_Op} {pc : Nat} {lv : ri_L} {st : List Value} {w : rf_W} {nc ns fr a b : Nat} {ts : List Nat} {out : rf_Out} (h : rf_call Ms al f d bud M nxt pc lv st w nc ns fr a b ts = some out) : ri_call Ms al g d bud M nxt pc lv st (rf_wa w) nc ns fr a b ts = some (rf_oa out) := by
  unfold rf_call at h
  unfold ri_call
  cases hM : ri_nth Ms a with
  | none => rw [hM] at h; cases h
  | some M2 =>
    rw [hM] at h
    dsimp only at h ⊢
    cases hs : ri_split M2.2.2.2.2.1 [] st with
    | none => rw [hs] at h; cases h
    | some As =>
      obtain ⟨As, rest⟩ := As
      rw [hs] at h
      dsimp only at h ⊢
      split at h
      · split at h
        · rename_i q rest2
          dsimp only
          rw [rf_wn_eq]
          cases hq : rf_wn w q with
          | none => rw [hq] at h; cases h
          | some x =>
            rw [hq] at h
            cases x with
            | inl o => cases h
            | inr o =>
              obtain ⟨hb, h2⟩ := ri_ok_eq h
              show ri_ok (match (generalizing := false) ts with | [t] => Nat.beq o.1 t | _ => false) (ri_back g d bud M nxt pc lv rest2 nc ns (ri_enter g d bud M2 (.ref q :: As) rest2 (rf_wa w) fr)) = some (rf_oa out)
              rw [hb]
              exact rf_back_ok hR h2 (fun z hz => rf_enter_ok hR hz)
        · cases h
      · exact rf_back_ok hR h (fun z hz => rf_enter_ok hR hz)
      · split at h
        · exact rf_back_ok hR h (fun z hz => rf_enter_ok hR hz)
        · cases h
      · split at h
        · exact rf_back_ok hR h (fun z hz => rf_enter_ok hR hz)
        · cases h
      · exact rf_back_ok hR h (fun z hz => rf_enter_ok hR hz)
      · split at h
        · rename_i q rest2
          dsimp only
          rw [rf_wn_eq]
          cases hq : rf_wn w q with
          | none => rw [hq] at h; cases h
          | some x =>
            rw [hq] at h
            cases x with
            | inl o => cases h
            | inr o =>
              dsimp only at h
              split at h
              · rename_i t hs9
                obtain ⟨hb, h2⟩ := ri_ok_eq h
                show ri_ok (Nat.beq o.1 t) (ri_backH al g d bud M nxt pc lv rest2 nc ns hs9 (ri_enter g d bud M2 (.ref q :: As) rest2 (rf_wa w) fr)) = some (rf_oa out)
                rw [hb]
                exact rf_backH_ok hR h2 (fun z hz => rf_enter_ok hR hz)
              · cases h
        · cases h
      · exact rf_back_ok hR h (fun z hz => rf_enter_ok hR hz)
      · cases h
theorem rf_okmap {α β : Type} (b : Bool) (x : α) (k : α → β) : ri_ok b (some (k x)) = (ri_ok b (some x)).map k := by cases b <;> rfl
theorem rf_ret_w (M : ri_M) (i : Instr) (st : List Value) (w : List ri_E) (nc ns fr : Nat) : ri_ret M i st w nc ns fr = (ri_ret M i st [] nc ns fr).map (fun z => (z.1, w, z.2.2)) := by
  unfold ri_ret
  split
  · split
    · exact rf_okmap _ ((.inl none, [], nc, ns, [], fr) : ri_Out) (fun z => (z.1, w, z.2.2))
    · rfl
  · split
    · rename_i x
      exact rf_okmap _ ((.inl (some (.int x)), [], nc, ns, [], fr) : ri_Out) (fun z => (z.1, w, z.2.2))
    · rename_i x
      exact rf_okmap _ ((.inl (some (.float x)), [], nc, ns, [], fr) : ri_Out) (fun z => (z.1, w, z.2.2))
    · rfl
  · split
    · rename_i x
      exact rf_okmap _ ((.inl (some (.long x)), [], nc, ns, [], fr) : ri_Out) (fun z => (z.1, w, z.2.2))
    · rfl
  · split
    · rename_i x
      exact rf_okmap _ ((.inl (some (.double x)), [], nc, ns, [], fr) : ri_Out) (fun z => (z.1, w, z.2.2))
    · rfl
  · split
    · rename_i x
      exact rf_okmap _ ((.inl (some (.ref x)), [], nc, ns, [], fr) : ri_Out) (fun z => (z.1, w, z.2.2))
    · rfl
  · rfl
theorem rf_ret_ok {M : ri_M} {i : Instr} {st : List Value} {w : rf_W} {nc ns fr : Nat} {out : rf_Out} (h : rf_ret M i st w nc ns fr = some out) : ri_ret M i st (rf_wa w) nc ns fr = some (rf_oa out) := by
  unfold rf_ret at h
  rw [rf_ret_w]
  cases hr : ri_ret M i st [] nc ns fr with
  | none => rw [hr] at h; cases h
  | some z =>
    rw [hr] at h
    cases h
    rfl
set_option maxHeartbeats 2000000 in
theorem rf_exec_ok (hR : rf_Ref f g) {d bud : Nat} {M : ri_M} {nxt : List ri_Op} {lv : ri_L} {st : List Value} {w : rf_W} {nc ns fr pc κ : Nat} {i : Instr} {a b : Nat} {v : Value} {ts : List Nat} {out : rf_Out} (h : rf_exec Ms ty df tyL exl xs L al orc f d bud M nxt lv st w nc ns fr pc κ i a b v ts = some out) : ri_exec Ms ty df tyL exl xs L al orc g d bud M nxt lv st (rf_wa w) nc ns fr pc κ i a b v ts = some (rf_oa out) := by
  have go : ∀ {d bud : Nat} {M : ri_M} {cur : List ri_Op} {pc : Nat} {lv : ri_L} {st : List Value} {w : rf_W} {nc ns fr : Nat} {out : rf_Out}, f d bud M cur pc lv st w nc ns fr = some out → g d bud M cur pc lv st (rf_wa w) nc ns fr = some (rf_oa out) := fun h => hR _ _ _ _ _ _ _ _ _ _ _ _ h
  have lt9 : ∀ {n : Nat}, Nat.blt n 1024 = true → Nat.blt n 1000000 = true := fun h => rf_blt_t (Nat.lt_of_lt_of_le (Nat.le_of_ble_eq_true h) (Nat.le_of_ble_eq_true rfl))
  unfold rf_exec at h
  split at h
  · split at h
    · rename_i z hz
      show (match ri_pure M.2.2.1 i pc lv st with
        | some z => g d bud M (ri_next M nxt ts z.1) z.2.1 z.2.2.1 z.2.2.2 (rf_wa w) nc ns fr
        | none => none) = some (rf_oa out)
      rw [hz]
      exact go h
    · cases h
  · split at h
    · rename_i st2 hz
      show (match ri_getf a b st (rf_wa w) with
        | some st => g d bud M nxt (pc + 3) lv st (rf_wa w) nc ns fr
        | none => none) = some (rf_oa out)
      rw [rf_getf_eq hz]
      exact go h
    · cases h
  · split at h
    · rename_i z hz
      show (match ri_putf (ty a b) a b st (rf_wa w) with
        | some z => g d bud M nxt (pc + 3) lv z.1 z.2 nc ns fr
        | none => none) = some (rf_oa out)
      rw [rf_putf_eq hz]
      exact go h
    · cases h
  · exact go h
  · exact rf_call_ok hR h
  · split at h
    · rename_i st2 hz
      show (match ri_ald tyL ri_tI st (rf_wa w) with
        | some st => g d bud M nxt (pc + 1) lv st (rf_wa w) nc ns fr
        | none => none) = some (rf_oa out)
      rw [rf_ald_eq hz]
      exact go h
    · cases h
  · split at h
    · rename_i z hz
      show (match ri_ast tyL ri_gI st (rf_wa w) with
        | some z => g d bud M nxt (pc + 1) lv z.1 z.2 nc ns fr
        | none => none) = some (rf_oa out)
      rw [rf_ast_eq hz]
      exact go h
    · cases h
  · split at h
    · rename_i st2 hz
      show (match ri_ald tyL ri_tL st (rf_wa w) with
        | some st => g d bud M nxt (pc + 1) lv st (rf_wa w) nc ns fr
        | none => none) = some (rf_oa out)
      rw [rf_ald_eq hz]
      exact go h
    · cases h
  · split at h
    · rename_i z hz
      show (match ri_ast tyL ri_gL st (rf_wa w) with
        | some z => g d bud M nxt (pc + 1) lv z.1 z.2 nc ns fr
        | none => none) = some (rf_oa out)
      rw [rf_ast_eq hz]
      exact go h
    · cases h
  · split at h
    · rename_i st2 hz
      show (match ri_ald tyL ri_tD st (rf_wa w) with
        | some st => g d bud M nxt (pc + 1) lv st (rf_wa w) nc ns fr
        | none => none) = some (rf_oa out)
      rw [rf_ald_eq hz]
      exact go h
    · cases h
  · split at h
    · rename_i z hz
      show (match ri_ast tyL ri_gD st (rf_wa w) with
        | some z => g d bud M nxt (pc + 1) lv z.1 z.2 nc ns fr
        | none => none) = some (rf_oa out)
      rw [rf_ast_eq hz]
      exact go h
    · cases h
  · split at h
    · rename_i st2 hz
      show (match ri_ald tyL ri_tA st (rf_wa w) with
        | some st => g d bud M nxt (pc + 1) lv st (rf_wa w) nc ns fr
        | none => none) = some (rf_oa out)
      rw [rf_ald_eq hz]
      exact go h
    · cases h
  · split at h
    · rename_i st2 hz
      show (match ri_ald tyL ri_tB st (rf_wa w) with
        | some st => g d bud M nxt (pc + 1) lv st (rf_wa w) nc ns fr
        | none => none) = some (rf_oa out)
      rw [rf_ald_eq hz]
      exact go h
    · cases h
  · split at h
    · rename_i z hz
      show (match ri_ast tyL ri_gB st (rf_wa w) with
        | some z => g d bud M nxt (pc + 1) lv z.1 z.2 nc ns fr
        | none => none) = some (rf_oa out)
      rw [rf_ast_eq hz]
      exact go h
    · cases h
  · split at h
    · rename_i z hz
      show (match ri_aast a b st (rf_wa w) with
        | some z => g d bud M nxt (pc + 1) lv z.1 z.2 nc ns fr
        | none => none) = some (rf_oa out)
      rw [rf_aast_eq hz]
      exact go h
    · cases h
  · split at h
    · rename_i st2 hz
      show (match ri_alen2 tyL st (rf_wa w) with
        | some st => g d bud M nxt (pc + 1) lv st (rf_wa w) nc ns fr
        | none => none) = some (rf_oa out)
      rw [rf_alen_eq hz]
      exact go h
    · cases h
  · exact rf_ret_ok h
  · show (bif ri_conc a st then (match ri_pure M.2.2.1 i pc lv st with
        | some z => g d bud M (ri_next M nxt ts z.1) z.2.1 z.2.2.1 z.2.2.2 (rf_wa w) nc ns fr
        | none => none)
      else (match ri_sym M.2.2.1 (ri_nth orc fr) fr i pc lv st with
        | some z => ri_more [z.2.2] (g d bud M (ri_next M nxt ts z.1.1) z.1.2.1 z.1.2.2.1 z.1.2.2.2 (rf_wa w) nc ns z.2.1)
        | none => none)) = some (rf_oa out)
    cases hc : ri_conc a st with
    | true =>
      rw [hc, cond_true] at h
      rw [cond_true]
      split at h
      · exact go h
      · cases h
    | false =>
      rw [hc, cond_false] at h
      rw [cond_false]
      split at h
      · rename_i z hz
        exact rf_more_eq h (fun z hz => go hz)
      · cases h
  · obtain ⟨hb, h2⟩ := ri_ok_eq h
    obtain ⟨b1, b2⟩ := (Bool.and_eq_true _ _ ▸ hb : al w.1 = true ∧ Nat.blt w.1 1024 = true)
    show ri_ok (al (rf_wa w).length && Nat.blt (rf_wa w).length 1000000) (g d bud M nxt (pc + 3) lv (.ref (rf_wa w).length :: st) (rf_wa w ++ [.inr (a, df a)]) (nc + 1) (ns + b) fr) = some (rf_oa out)
    have h3 := go h2
    rw [rf_wp_eq b2] at h3
    rw [rf_wa_len, b1, lt9 b2]
    exact h3
  · obtain ⟨hb, h2⟩ := ri_ok_eq h
    obtain ⟨b1, b2⟩ := (Bool.and_eq_true _ _ ▸ hb : al w.1 = true ∧ Nat.blt w.1 1024 = true)
    split at h2
    · rename_i z hz
      show ri_ok (al (rf_wa w).length && Nat.blt (rf_wa w).length 1000000) (match ri_newa a v st (rf_wa w) with
        | some z => g d bud M nxt (pc + 2) lv z.2.1 z.2.2 (nc + 1) (ns + z.1) fr
        | none => none) = some (rf_oa out)
      rw [rf_newa_eq hz, rf_wa_len, b1, lt9 b2]
      exact go h2
    · cases h2
  · obtain ⟨hb, h2⟩ := ri_ok_eq h
    obtain ⟨b1, b2⟩ := (Bool.and_eq_true _ _ ▸ hb : al w.1 = true ∧ Nat.blt w.1 1024 = true)
    split at h2
    · rename_i z hz
      show ri_ok (al (rf_wa w).length && Nat.blt (rf_wa w).length 1000000) (match ri_newa a .null st (rf_wa w) with
        | some z => g d bud M nxt (pc + 3) lv z.2.1 z.2.2 (nc + 1) (ns + z.1) fr
        | none => none) = some (rf_oa out)
      rw [rf_newa_eq hz, rf_wa_len, b1, lt9 b2]
      exact go h2
    · cases h2
  · split at h
    · rename_i q r
      obtain ⟨hb, h2⟩ := ri_ok_eq h
      show ri_ok (Nat.ble 1 d && Nat.ble (ri_cat r + 12) bud) (g d bud M nxt (pc + 3) lv r (rf_wa w) nc ns fr) = some (rf_oa out)
      rw [hb]
      exact go h2
    · cases h
  · obtain ⟨hb, h2⟩ := ri_ok_eq h
    split at h2
    · rename_i z hz
      show ri_ok (Nat.ble 1 d) (match ri_acopy tyL bud st (rf_wa w) with
        | some z => g d bud M nxt (pc + 3) lv z.1 z.2 nc ns fr
        | none => none) = some (rf_oa out)
      rw [rf_acopy_eq hz, hb]
      exact go h2
    · cases h2
  · obtain ⟨hb, h2⟩ := ri_ok_eq h
    cases h2
    show ri_ok (Nat.ble (exl a + 4) d && Nat.ble (ri_cat st + (13 * (exl a + 1) + 42)) bud) (some ((Sum.inr a, rf_wa w, nc + 1, ns + 6, [], fr) : ri_Out)) = some ((Sum.inr a, rf_wa w, nc + 1, ns + 6, [], fr) : ri_Out)
    rw [hb]
    rfl
  · split at h
    · rename_i j q r
      obtain ⟨hb, h2⟩ := ri_ok_eq h
      show ri_ok (Nat.beq q 1000000 && (!decide (j < 0) && Nat.blt j.toNatClampNeg L)) (g d bud M nxt (pc + 1) lv (xs j.toNatClampNeg :: r) (rf_wa w) nc ns fr) = some (rf_oa out)
      rw [hb]
      exact go h2
    · cases h
  · split at h
    · rename_i q r
      obtain ⟨hb, h2⟩ := ri_ok_eq h
      show ri_ok (Nat.beq q 1000000) (g d bud M nxt (pc + 1) lv (.int (Int32.ofNat L) :: r) (rf_wa w) nc ns fr) = some (rf_oa out)
      rw [hb]
      exact go h2
    · cases h
  · obtain ⟨hb, h2⟩ := ri_ok_eq h
    split at h2
    · rename_i z hz
      obtain ⟨hc, h3⟩ := ri_ok_eq h2
      show ri_ok (al (rf_wa w).length) (match ri_mna a b st (rf_wa w) with
        | some z => ri_ok (Nat.ble z.2.2.2.length 1000000) (g d bud M nxt (pc + 4) lv z.2.2.1 z.2.2.2 (nc + (1 + z.1)) (ns + (z.1 + z.1 * z.2.1)) fr)
        | none => none) = some (rf_oa out)
      rw [rf_mna_eq hz, rf_wa_len, hb]
      have h9 : Nat.ble (rf_wa z.2.2.2).length 1000000 = true := by
        rw [rf_wa_len]
        exact Nat.ble_eq_true_of_le (Nat.le_trans (Nat.le_of_ble_eq_true (show Nat.ble z.2.2.2.1 1024 = true from hc)) (Nat.le_of_ble_eq_true rfl))
      show ri_ok (Nat.ble (rf_wa z.2.2.2).length 1000000) (g d bud M nxt (pc + 4) lv z.2.2.1 (rf_wa z.2.2.2) (nc + (1 + z.1)) (ns + (z.1 + z.1 * z.2.1)) fr) = some (rf_oa out)
      rw [h9]
      exact go h3
    · cases h2
  · show (bif ri_conc 1 st then (match ri_ast tyL ri_gB st (rf_wa w) with
        | some z => g d bud M nxt (pc + 1) lv z.1 z.2 nc ns fr
        | none => none)
      else (match ri_ast tyL (ri_gU fr) st (rf_wa w) with
        | some z => ri_more [(.i2b, ri_top st, .int 0, fr, true)] (g d bud M nxt (pc + 1) lv z.1 z.2 nc ns (fr + 1))
        | none => none)) = some (rf_oa out)
    cases hc : ri_conc 1 st with
    | true =>
      rw [hc, cond_true] at h
      rw [cond_true]
      split at h
      · rename_i z hz
        rw [rf_ast_eq hz]
        exact go h
      · cases h
    | false =>
      rw [hc, cond_false] at h
      rw [cond_false]
      split at h
      · rename_i z hz
        rw [rf_ast_eq hz]
        exact rf_more_eq h (fun z hz => go hz)
      · cases h
  · split at h
    · rename_i z hz
      show (match ri_lc tyL a b lv st (rf_wa w) with
        | some z => (match ri_nth orc fr with
          | some (.inl g9) => (match (generalizing := false) v with
            | .ref t => ri_more [(.lcmp, z.1, .long z.2.1, 0, g9)] (g d bud M (ri_next M nxt ts (bif g9 then 1 else 2)) (bif g9 then t else pc + 11) lv z.2.2 (rf_wa w) nc ns (fr + 1))
            | _ => none)
          | _ => none)
        | none => none) = some (rf_oa out)
      rw [rf_lc_eq hz]
      dsimp only
      split at h
      · rename_i g9 hg
        split at h
        · exact rf_more_eq h (fun z hz => go hz)
        · cases h
      · cases h
    · cases h
  · cases h
/-- what is reckoned over trees is what is reckoned over lists -/
theorem rf_run_ok : ∀ fuel : Nat, rf_Ref (rf_run Ms ty df tyL exl xs L al orc fuel) (ri_run Ms ty df tyL exl xs L al orc fuel)
  | 0 => fun d bud M cur pc lv st w nc ns fr out h => by cases h
  | n + 1 => fun d bud M cur pc lv st w nc ns fr out h => by
    cases cur with
    | nil => cases h
    | cons o nxt =>
      obtain ⟨hb, h2⟩ := ri_ok_eq (b := Nat.beq o.1 pc) h
      show ri_ok (Nat.beq o.1 pc) (ri_exec Ms ty df tyL exl xs L al orc (ri_run Ms ty df tyL exl xs L al orc n) d bud M nxt lv st (rf_wa w) nc ns fr pc o.2.1 o.2.2.1 o.2.2.2.1 o.2.2.2.2.1 o.2.2.2.2.2.1 o.2.2.2.2.2.2) = some (rf_oa out)
      rw [hb]
      exact rf_exec_ok (rf_run_ok n) h2
end RFE
end
